/-! basket: numbers; the component's token -/
/-- the number of the first j digits from s on -/
def nmv (T : Int → Int) (s : Int) : Nat → Int
  | 0 => 0
  | j + 1 => nmv T s j * 10 + T (s + j) - 48
theorem nmv_r {T : Int → Int} {s : Int} {j : Nat} (hj : j ≤ 4) (h : ∀ i : Int, s ≤ i → i < s + j → 48 ≤ T i ∧ T i ≤ 57) : 0 ≤ nmv T s j ∧ nmv T s j ≤ 9999 ∧ (j ≤ 3 → nmv T s j ≤ 999) := by
  have e0 : nmv T s 0 = 0 := rfl
  have e1 : nmv T s 1 = nmv T s 0 * 10 + T (s + (0 : Nat)) - 48 := rfl
  have e2 : nmv T s 2 = nmv T s 1 * 10 + T (s + (1 : Nat)) - 48 := rfl
  have e3 : nmv T s 3 = nmv T s 2 * 10 + T (s + (2 : Nat)) - 48 := rfl
  have e4 : nmv T s 4 = nmv T s 3 * 10 + T (s + (3 : Nat)) - 48 := rfl
  have c : j = 0 ∨ j = 1 ∨ j = 2 ∨ j = 3 ∨ j = 4 := by omega
  rcases c with rfl | rfl | rfl | rfl | rfl
  · omega
  · have h0 := h (s + (0 : Nat)) (by omega) (by omega)
    omega
  · have h0 := h (s + (0 : Nat)) (by omega) (by omega)
    have h1 := h (s + (1 : Nat)) (by omega) (by omega)
    omega
  · have h0 := h (s + (0 : Nat)) (by omega) (by omega)
    have h1 := h (s + (1 : Nat)) (by omega) (by omega)
    have h2 := h (s + (2 : Nat)) (by omega) (by omega)
    omega
  · have h0 := h (s + (0 : Nat)) (by omega) (by omega)
    have h1 := h (s + (1 : Nat)) (by omega) (by omega)
    have h2 := h (s + (2 : Nat)) (by omega) (by omega)
    have h3 := h (s + (3 : Nat)) (by omega) (by omega)
    omega
section
variable {q : Nat × Nat × (Nat → Nat)} {G : Nat → Int → Int} {N : Nat}
theorem oNum {n s : Int} {T : Int → Int} : ∀ (d f : Nat) (p : Int) (G : Nat → Int → Int), n - p ≤ d → d < f → 0 ≤ s → s ≤ p → p ≤ n → (∀ i : Int, s ≤ i → i < p → 48 ≤ T i ∧ T i ≤ 57) → G 10 4 = s → G 10 5 = p → G 10 7 = nmv T s (min (p - s).toNat 4) → TkC G n T → ∃ G' : Nat → Int → Int, ((∀ a, a ≠ 10 → G' a = G a) ∧ (∀ i : Int, i ≠ 5 → i ≠ 7 → G' 10 i = G 10 i) ∧ G' 10 5 = ru (dgB T) n d p ∧ G' 10 7 = nmv T s (min (ru (dgB T) n d p - s).toNat 4)) ∧ L_X8_advance_161 N f 10 (hp q G) = J_X8_advance_235 N 10 (hp q G') := by
  intro d
  induction d with
  | zero =>
    intro f p G h1 h2 s0 sp p1 dg e4 e5 e7 h
    obtain ⟨f, rfl⟩ : ∃ y, f = y + 1 := ⟨f - 1, by omega⟩
    have t2 := h.2.1
    have t3 := h.2.2.1
    refine ⟨G, ⟨fun _ _ => rfl, fun _ _ _ => rfl, e5, e7⟩, ?_⟩
    rw [L_X8_advance_161]
    simp (maxSteps := 2000000) (disch := first | assumption | omega) only [jI0, iAdd_j, iSub_j, iMul_j, iNeg_j, Option.bind_some, jlt_t, jlt_f, jlt, jle_t, jle_f, jle, jeq_t, jeq_f, jeq, ↓reduceIte, o10, e5, t2]
  | succ d ih =>
    intro f p G h1 h2 s0 sp p1 dg e4 e5 e7 h
    obtain ⟨f, rfl⟩ : ∃ y, f = y + 1 := ⟨f - 1, by omega⟩
    have t2 := h.2.1
    have t3 := h.2.2.1
    rw [L_X8_advance_161]
    by_cases c : p < n
    · have ob := oByte (N := N) (q := q) (p := p) h (by omega) (by omega)
      rw [if_pos c] at ob
      have tb := (h.2.2.2 p (by omega) c).1
      have ic := i8_c tb
      have os := oDigit (N := N) (c := i8 (T p)) (by omega) (g := hp q G)
      by_cases s1 : dgB T p = true
      · have s2 : 48 ≤ T p ∧ T p ≤ 57 := of_decide_eq_true s1
        have s3 : 48 ≤ i8 (T p) ∧ i8 (T p) ≤ 57 := by omega
        have ie : i8 (T p) = T p := by omega
        rw [bI_t s3] at os
        rw [ie] at ob os
        have er : ru (dgB T) n (d + 1) p = ru (dgB T) n d (p + 1) := by rw [ru, if_pos ⟨c, s1⟩]
        have dg' : ∀ i : Int, s ≤ i → i < p + 1 → 48 ≤ T i ∧ T i ≤ 57 := fun i i0 i1 => by
          by_cases ci : i = p
          · rw [ci]; exact s2
          · exact dg i i0 (by omega)
        rw [er]
        by_cases c4 : p - s < 4
        · have m1 : min (p - s).toNat 4 = (p - s).toNat := by omega
          have m2 : min (p + 1 - s).toNat 4 = (p - s).toNat + 1 := by omega
          rw [m1] at e7
          have nr := nmv_r (T := T) (s := s) (j := (p - s).toNat) (by omega) (fun i i0 i1 => dg i i0 (by omega))
          have nr9 := nr.2.2 (by omega)
          have ev : nmv T s ((p - s).toNat + 1) = nmv T s (p - s).toNat * 10 + T p - 48 := by
            show nmv T s (p - s).toNat * 10 + T (s + ((p - s).toNat : Nat)) - 48 = _
            rw [show s + (((p - s).toNat : Nat) : Int) = p by omega]
          obtain ⟨G', ⟨x1, x2, x3, x4⟩, x5⟩ := ih f (p + 1) (up (up G 10 7 (nmv T s (p - s).toNat * 10 + T p - 48)) 10 5 (p + 1)) (by omega) (by omega) s0 (by omega) (by omega) dg' (by rw [up_eq, u1_ne (by decide), up_eq, u1_ne (by decide)]; exact e4) (by rw [up_eq, u1_eq]) (by rw [up_eq, u1_ne (by decide), up_eq, u1_eq, m2, ev]) ((h.up (by omega)).up (by omega))
          refine ⟨G', ⟨fun a ha => by rw [x1 a ha, up_ne ha, up_ne ha], fun i i5 i7 => by rw [x2 i i5 i7, up_eq, u1_ne i5, up_eq, u1_ne i7], x3, x4⟩, ?_⟩
          have u5 : up G 10 7 (nmv T s (p - s).toNat * 10 + T p - 48) 10 5 = p := by rw [up_eq, u1_ne (by decide)]; exact e5
          rw [← x5]
          simp (maxSteps := 2000000) (disch := first | assumption | omega) only [jI0, iAdd_j, iSub_j, iMul_j, iNeg_j, Option.bind_some, jlt_t, jlt_f, jlt, jle_t, jle_f, jle, jeq_t, jeq_f, jeq, ↓reduceIte, o10, e5, e4, e7, t2, ob, os, w10, u5]
        · have m1 : min (p - s).toNat 4 = 4 := by omega
          have m2 : min (p + 1 - s).toNat 4 = 4 := by omega
          rw [m1] at e7
          obtain ⟨G', ⟨x1, x2, x3, x4⟩, x5⟩ := ih f (p + 1) (up G 10 5 (p + 1)) (by omega) (by omega) s0 (by omega) (by omega) dg' (by rw [up_eq, u1_ne (by decide)]; exact e4) (by rw [up_eq, u1_eq]) (by rw [up_eq, u1_ne (by decide), m2]; exact e7) (h.up (by omega))
          refine ⟨G', ⟨fun a ha => by rw [x1 a ha, up_ne ha], fun i i5 i7 => by rw [x2 i i5 i7, up_eq, u1_ne i5], x3, x4⟩, ?_⟩
          rw [← x5]
          simp (maxSteps := 2000000) (disch := first | assumption | omega) only [jI0, iAdd_j, iSub_j, iMul_j, iNeg_j, Option.bind_some, jlt_t, jlt_f, jlt, jle_t, jle_f, jle, jeq_t, jeq_f, jeq, ↓reduceIte, o10, e5, e4, t2, ob, os, w10]
      · have s2 : ¬ (48 ≤ T p ∧ T p ≤ 57) := fun h => s1 (decide_eq_true h)
        have s3 : ¬ (48 ≤ i8 (T p) ∧ i8 (T p) ≤ 57) := by omega
        have ns : ¬ (p < n ∧ dgB T p = true) := fun h => s1 h.2
        rw [bI_f s3] at os
        rw [ru, if_neg ns]
        refine ⟨G, ⟨fun _ _ => rfl, fun _ _ _ => rfl, e5, e7⟩, ?_⟩
        simp (maxSteps := 2000000) (disch := first | assumption | omega) only [jI0, iAdd_j, iSub_j, iMul_j, iNeg_j, Option.bind_some, jlt_t, jlt_f, jlt, jle_t, jle_f, jle, jeq_t, jeq_f, jeq, ↓reduceIte, o10, e5, t2, ob, os]
    · have ns : ¬ (p < n ∧ dgB T p = true) := fun h => c h.1
      rw [ru, if_neg ns]
      refine ⟨G, ⟨fun _ _ => rfl, fun _ _ _ => rfl, e5, e7⟩, ?_⟩
      simp (maxSteps := 2000000) (disch := first | assumption | omega) only [jI0, iAdd_j, iSub_j, iMul_j, iNeg_j, Option.bind_some, jlt_t, jlt_f, jlt, jle_t, jle_f, jle, jeq_t, jeq_f, jeq, ↓reduceIte, o10, e5, t2]
end
