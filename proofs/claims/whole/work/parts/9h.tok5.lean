/-! basket: the model's numbers, its next token -/
def AdM (T : Int → Int) (n s kv : Int) (G : Nat → Int → Int) : Prop := G 100 7 = s ∧ ((n ≤ s ∧ G 100 10 = 20 ∧ G 100 8 = s) ∨ (s < n ∧ smB T s = true ∧ G 100 10 = kv ∧ G 100 8 = leT T n s) ∨ (s < n ∧ dgB T s = true ∧ G 100 8 = deT T n s ∧ G 100 11 = nmv T s (min (deT T n s - s).toNat 4) ∧ (deT T n s - s ≤ 4 → G 100 10 = 18) ∧ (4 < deT T n s - s → G 100 10 = 21)) ∨ (s < n ∧ T s = 59 ∧ G 100 10 = 19 ∧ G 100 8 = s + 1) ∨ (s < n ∧ smB T s = false ∧ dgB T s = false ∧ T s ≠ 59 ∧ G 100 10 = 21 ∧ G 100 8 = s + 1))
section
variable {q : Nat × Nat × (Nat → Nat)} {G : Nat → Int → Int} {N : Nat}
theorem mNum {n s : Int} {T : Int → Int} : ∀ (d f : Nat) (p : Int) (G : Nat → Int → Int), n - p ≤ d → d < f → 0 ≤ s → s ≤ p → p ≤ n → (∀ i : Int, s ≤ i → i < p → 48 ≤ T i ∧ T i ≤ 57) → G 100 7 = s → G 100 8 = p → G 100 11 = nmv T s (min (p - s).toNat 4) → TkM G n T → ∃ G' : Nat → Int → Int, ((∀ a, a ≠ 100 → G' a = G a) ∧ (∀ i : Int, i ≠ 8 → i ≠ 10 → i ≠ 11 → G' 100 i = G 100 i) ∧ G' 100 8 = ru (dgB T) n d p ∧ G' 100 11 = nmv T s (min (ru (dgB T) n d p - s).toNat 4) ∧ G' 100 10 = if 4 < ru (dgB T) n d p - s then 21 else 18) ∧ L_X12_next_146 N f 100 (hp q G) = some (hp q G') := by
  have fin : ∀ (f : Nat) (p : Int) (G : Nat → Int → Int), 0 ≤ s → s ≤ p → p ≤ n → ¬ (p < n ∧ dgB T p = true) → G 100 7 = s → G 100 8 = p → G 100 11 = nmv T s (min (p - s).toNat 4) → TkM G n T → ∃ G' : Nat → Int → Int, ((∀ a, a ≠ 100 → G' a = G a) ∧ (∀ i : Int, i ≠ 8 → i ≠ 10 → i ≠ 11 → G' 100 i = G 100 i) ∧ G' 100 8 = p ∧ G' 100 11 = nmv T s (min (p - s).toNat 4) ∧ G' 100 10 = if 4 < p - s then 21 else 18) ∧ L_X12_next_146 N (f + 1) 100 (hp q G) = some (hp q G') := by
    intro f p G s0 sp p1 ns e7 e8 e11 h
    have t3 := h.2.1
    have ob := mSee (N := N) (q := q) (p := p) h (by omega) (by omega)
    refine ⟨up G 100 10 (if 4 < p - s then 21 else 18), ⟨fun a ha => up_ne ha, fun i i8 i10 i11 => by rw [up_eq, u1_ne i10], by rw [up_eq, u1_ne (by decide)]; exact e8, by rw [up_eq, u1_ne (by decide)]; exact e11, by rw [up_eq, u1_eq]⟩, ?_⟩
    have D : ∃ c : Int, (if p < n then T p else -1) = c ∧ (-2147483648 ≤ c ∧ c < 2147483648) ∧ ¬ (48 ≤ c ∧ c ≤ 57) := by
      by_cases c : p < n
      · have tb := (h.2.2 p (by omega) c).1
        refine ⟨T p, if_pos c, by omega, fun hh => ns ⟨c, decide_eq_true hh⟩⟩
      · exact ⟨-1, if_neg c, by omega, by omega⟩
    obtain ⟨c, c1, c2, c3⟩ := D
    have od := mDigit (N := N) c2 (g := hp q G)
    rw [bI_f c3] at od
    rw [c1] at ob
    rw [L_X12_next_146]
    by_cases c4 : 4 < p - s
    · rw [if_pos c4]
      simp (maxSteps := 2000000) (disch := first | assumption | omega) only [jI0, iAdd_j, iSub_j, iMul_j, iNeg_j, Option.bind_some, jlt_t, jlt_f, jlt, jle_t, jle_f, jle, jeq_t, jeq_f, jeq, ↓reduceIte, o100, e7, e8, ob, od, w100]
    · rw [if_neg c4]
      simp (maxSteps := 2000000) (disch := first | assumption | omega) only [jI0, iAdd_j, iSub_j, iMul_j, iNeg_j, Option.bind_some, jlt_t, jlt_f, jlt, jle_t, jle_f, jle, jeq_t, jeq_f, jeq, ↓reduceIte, o100, e7, e8, ob, od, w100]
  intro d
  induction d with
  | zero =>
    intro f p G h1 h2 s0 sp p1 dg e7 e8 e11 h
    obtain ⟨f, rfl⟩ : ∃ y, f = y + 1 := ⟨f - 1, by omega⟩
    rw [ru]
    exact fin f p G s0 sp p1 (by omega) e7 e8 e11 h
  | succ d ih =>
    intro f p G h1 h2 s0 sp p1 dg e7 e8 e11 h
    obtain ⟨f, rfl⟩ : ∃ y, f = y + 1 := ⟨f - 1, by omega⟩
    have t3 := h.2.1
    by_cases c : p < n ∧ dgB T p = true
    · have ob := mSee (N := N) (q := q) (p := p) h (by omega) (by omega)
      rw [if_pos c.1] at ob
      have tb := (h.2.2 p (by omega) c.1).1
      have s2 : 48 ≤ T p ∧ T p ≤ 57 := of_decide_eq_true c.2
      have od := mDigit (N := N) (c := T p) (by omega) (g := hp q G)
      rw [bI_t s2] at od
      have er : ru (dgB T) n (d + 1) p = ru (dgB T) n d (p + 1) := by rw [ru, if_pos c]
      have dg' : ∀ i : Int, s ≤ i → i < p + 1 → 48 ≤ T i ∧ T i ≤ 57 := fun i i0 i1 => by
        by_cases ci : i = p
        · rw [ci]; exact s2
        · exact dg i i0 (by omega)
      have w8 := fun (H : Nat → Int → Int) => (w100 q H (p + 1)).2.2.2.1
      rw [er, L_X12_next_146]
      by_cases c4 : p - s < 4
      · have m1 : min (p - s).toNat 4 = (p - s).toNat := by omega
        have m2 : min (p + 1 - s).toNat 4 = (p - s).toNat + 1 := by omega
        rw [m1] at e11
        have nr := nmv_r (T := T) (s := s) (j := (p - s).toNat) (by omega) (fun i i0 i1 => dg i i0 (by omega))
        have nr9 := nr.2.2 (by omega)
        have ev : nmv T s ((p - s).toNat + 1) = 10 * nmv T s (p - s).toNat + T p - 48 := by
          show nmv T s (p - s).toNat * 10 + T (s + ((p - s).toNat : Nat)) - 48 = _
          rw [show s + (((p - s).toNat : Nat) : Int) = p by omega]
          omega
        obtain ⟨G', ⟨x1, x2, x3, x4, x6⟩, x5⟩ := ih f (p + 1) (up (up G 100 11 (10 * nmv T s (p - s).toNat + T p - 48)) 100 8 (p + 1)) (by omega) (by omega) s0 (by omega) (by omega) dg' (by rw [up_eq, u1_ne (by decide), up_eq, u1_ne (by decide)]; exact e7) (by rw [up_eq, u1_eq]) (by rw [up_eq, u1_ne (by decide), up_eq, u1_eq, m2, ev]) ((h.up (by omega)).up (by omega))
        refine ⟨G', ⟨fun a ha => by rw [x1 a ha, up_ne ha, up_ne ha], fun i i8 i10 i11 => by rw [x2 i i8 i10 i11, up_eq, u1_ne i8, up_eq, u1_ne i11], x3, x4, x6⟩, ?_⟩
        have u5 : up G 100 11 (10 * nmv T s (p - s).toNat + T p - 48) 100 8 = p := by rw [up_eq, u1_ne (by decide)]; exact e8
        rw [← x5]
        simp (maxSteps := 2000000) (disch := first | assumption | omega) only [jI0, iAdd_j, iSub_j, iMul_j, iNeg_j, Option.bind_some, jlt_t, jlt_f, jlt, jle_t, jle_f, jle, jeq_t, jeq_f, jeq, ↓reduceIte, o100, e7, e8, e11, ob, od, w100, u5]
      · have m1 : min (p - s).toNat 4 = 4 := by omega
        have m2 : min (p + 1 - s).toNat 4 = 4 := by omega
        rw [m1] at e11
        obtain ⟨G', ⟨x1, x2, x3, x4, x6⟩, x5⟩ := ih f (p + 1) (up G 100 8 (p + 1)) (by omega) (by omega) s0 (by omega) (by omega) dg' (by rw [up_eq, u1_ne (by decide)]; exact e7) (by rw [up_eq, u1_eq]) (by rw [up_eq, u1_ne (by decide), m2]; exact e11) (h.up (by omega))
        refine ⟨G', ⟨fun a ha => by rw [x1 a ha, up_ne ha], fun i i8 i10 i11 => by rw [x2 i i8 i10 i11, up_eq, u1_ne i8], x3, x4, x6⟩, ?_⟩
        rw [← x5]
        simp (maxSteps := 2000000) (disch := first | assumption | omega) only [jI0, iAdd_j, iSub_j, iMul_j, iNeg_j, Option.bind_some, jlt_t, jlt_f, jlt, jle_t, jle_f, jle, jeq_t, jeq_f, jeq, ↓reduceIte, o100, e7, e8, ob, od, w8]
    · rw [ru, if_neg c]
      exact fin f p G s0 sp p1 c e7 e8 e11 h
end
