/-! basket: the component's next token -/
def skT (T : Int → Int) (n p : Int) : Int := ru (spB T) n 600 p
def leT (T : Int → Int) (n p : Int) : Int := ru (smB T) n 600 p
def deT (T : Int → Int) (n p : Int) : Int := ru (dgB T) n 600 p
/-- what the component's reader holds behind a step to the token at s -/
def AdC (T : Int → Int) (n s : Int) (G : Nat → Int → Int) : Prop := G 10 4 = s ∧ ((n ≤ s ∧ G 10 6 = 0 ∧ G 10 5 = s ∧ G 10 0 = 0) ∨ (s < n ∧ smB T s = true ∧ G 10 6 = 1 ∧ G 10 5 = leT T n s ∧ G 10 0 = 0) ∨ (s < n ∧ dgB T s = true ∧ G 10 6 = 2 ∧ G 10 5 = deT T n s ∧ G 10 7 = nmv T s (min (deT T n s - s).toNat 4) ∧ (deT T n s - s ≤ 4 → G 10 0 = 0) ∧ (4 < deT T n s - s → G 10 0 = 1 ∧ G 10 1 = s)) ∨ (s < n ∧ T s = 59 ∧ G 10 6 = 3 ∧ G 10 5 = s + 1 ∧ G 10 0 = 0) ∨ (s < n ∧ smB T s = false ∧ dgB T s = false ∧ T s ≠ 59 ∧ G 10 0 = 1 ∧ G 10 1 = s))
section
variable {q : Nat × Nat × (Nat → Nat)} {G : Nat → Int → Int} {N : Nat}
theorem oFail {c : Int} (w : G 10 0 = 0) : f_X8_fail N 10 (jI c) (hp q G) = some (hp q (up (up G 10 0 c) 10 1 (G 10 4))) := by
  have e : up G 10 0 c 10 4 = G 10 4 := by rw [up_eq, u1_ne (by decide)]
  unfold f_X8_fail
  simp (maxSteps := 2000000) (disch := first | assumption | omega) only [jI0, iAdd_j, iSub_j, iMul_j, iNeg_j, Option.bind_some, jlt_t, jlt_f, jlt, jle_t, jle_f, jle, jeq_t, jeq_f, jeq, ↓reduceIte, o10, w, w10, e]
theorem oAdv (hN : 10000 ≤ N) {n : Int} {T : Int → Int} (h : TkC G n T) (p0 : 0 ≤ G 10 5) (p1 : G 10 5 ≤ n) (w0 : G 10 0 = 0) : ∃ G' : Nat → Int → Int, ((∀ a, a ≠ 10 → G' a = G a) ∧ TkC G' n T ∧ AdC T n (skT T n (G 10 5)) G' ∧ (G' 10 0 = 0 → G' 10 1 = G 10 1)) ∧ f_X8_advance N 10 (hp q G) = some (hp q G') := by
  have t3 := h.2.2.1
  have t2 := h.2.1
  have s0 := ru_ge (spB T) n 600 (G 10 5)
  have s1 := ru_le (spB T) n 600 (G 10 5) p1
  have sk := oSkip (N := N) (q := q) (T := T) 600 N (G 10 5) (up G 10 4 (G 10 5)) (by omega) (by omega) p0 p1 (by rw [up_eq, u1_eq]) (h.up (by omega))
  rw [up_up] at sk
  have es : skT T n (G 10 5) = ru (spB T) n 600 (G 10 5) := rfl
  rw [← es] at sk s0 s1
  generalize skT T n (G 10 5) = s at *
  have A : ∀ G' : Nat → Int → Int, J_X8_advance_58 N 10 (hp q (up G 10 4 s)) = some (hp q G') → f_X8_advance N 10 (hp q G) = some (hp q G') := by
    intro G' hG
    rw [hG] at sk
    unfold f_X8_advance
    simp (maxSteps := 2000000) (disch := first | assumption | omega) only [jI0, iAdd_j, iSub_j, iMul_j, iNeg_j, Option.bind_some, jlt_t, jlt_f, jlt, jle_t, jle_f, jle, jeq_t, jeq_f, jeq, ↓reduceIte, o10, w10, sk]
  have hH : TkC (up (up G 10 4 s) 10 5 s) n T := (h.up (by omega)).up (by omega)
  have h4 : up G 10 4 s 10 4 = s := by rw [up_eq, u1_eq]
  have H0 : up (up G 10 4 s) 10 5 s 10 0 = 0 := by rw [up_eq, u1_ne (by decide), up_eq, u1_ne (by decide)]; exact w0
  have H1 : up (up G 10 4 s) 10 5 s 10 1 = G 10 1 := by rw [up_eq, u1_ne (by decide), up_eq, u1_ne (by decide)]
  have H4 : up (up G 10 4 s) 10 5 s 10 4 = s := by rw [up_eq, u1_ne (by decide), up_eq, u1_eq]
  have H5 : up (up G 10 4 s) 10 5 s 10 5 = s := by rw [up_eq, u1_eq]
  have Ho : ∀ a, a ≠ 10 → up (up G 10 4 s) 10 5 s a = G a := fun a ha => by rw [up_ne ha, up_ne ha]
  have w5 := (w10 q (up G 10 4 s) s).2.2.2.2.1
  have ob := oByte (N := N) (q := q) (p := s) hH (by omega) (by omega)
  have H3 := hH.2.1
  generalize hHH : up (up G 10 4 s) 10 5 s = H at *
  by_cases c : s < n
  · rw [if_pos c] at ob
    have tb := (hH.2.2.2 s (by omega) c).1
    have ic := i8_c tb
    have ol := oSmall (N := N) (c := i8 (T s)) (by omega) (g := hp q H)
    have od := oDigit (N := N) (c := i8 (T s)) (by omega) (g := hp q H)
    by_cases c1 : smB T s = true
    · have d1 : 97 ≤ T s ∧ T s ≤ 122 := of_decide_eq_true c1
      have d2 : 97 ≤ i8 (T s) ∧ i8 (T s) ≤ 122 := by omega
      rw [bI_t d2] at ol
      have ow := oWord (N := N) (q := q) (T := T) 600 N s (up H 10 6 1) (by omega) (by omega) (by omega) (by omega) (by rw [up_eq, u1_ne (by decide)]; exact H5) (hH.up (by omega))
      refine ⟨up (up H 10 6 1) 10 5 (leT T n s), ⟨fun a ha => by rw [up_ne ha, up_ne ha]; exact Ho a ha, (hH.up (by omega)).up (by omega), ⟨by rw [up_eq, u1_ne (by decide), up_eq, u1_ne (by decide)]; exact H4, .inr (.inl ⟨c, c1, by rw [up_eq, u1_ne (by decide), up_eq, u1_eq], by rw [up_eq, u1_eq], by rw [up_eq, u1_ne (by decide), up_eq, u1_ne (by decide)]; exact H0⟩)⟩, fun _ => by rw [up_eq, u1_ne (by decide), up_eq, u1_ne (by decide)]; exact H1⟩, A _ ?_⟩
      unfold J_X8_advance_58 leT
      simp (maxSteps := 2000000) (disch := first | assumption | omega) only [jI0, iAdd_j, iSub_j, iMul_j, iNeg_j, Option.bind_some, jlt_t, jlt_f, jlt, jle_t, jle_f, jle, jeq_t, jeq_f, jeq, ↓reduceIte, o10, h4, w5, ob, H4, H3, ol, w10, ow]
    · have d1 : ¬ (97 ≤ T s ∧ T s ≤ 122) := fun h => c1 (decide_eq_true h)
      have d2 : ¬ (97 ≤ i8 (T s) ∧ i8 (T s) ≤ 122) := by omega
      rw [bI_f d2] at ol
      by_cases c2 : dgB T s = true
      · have e1 : 48 ≤ T s ∧ T s ≤ 57 := of_decide_eq_true c2
        have e2 : 48 ≤ i8 (T s) ∧ i8 (T s) ≤ 57 := by omega
        rw [bI_t e2] at od
        obtain ⟨G2, ⟨x1, x2, x3, x4⟩, x5⟩ := oNum (N := N) (q := q) (T := T) (n := n) (s := s) 600 N s (up (up H 10 6 2) 10 7 0) (by omega) (by omega) (by omega) (by omega) (by omega) (fun i i0 i1 => by omega) (by rw [up_eq, u1_ne (by decide), up_eq, u1_ne (by decide)]; exact H4) (by rw [up_eq, u1_ne (by decide), up_eq, u1_ne (by decide)]; exact H5) (by rw [up_eq, u1_eq, Int.sub_self]; rfl) ((hH.up (by omega)).up (by omega))
        have r1 := ru_ge (dgB T) n 600 s
        have r2 := ru_le (dgB T) n 600 s (by omega)
        have y : ∀ i : Int, i ≠ 5 → i ≠ 6 → i ≠ 7 → G2 10 i = H 10 i := fun i i5 i6 i7 => by rw [x2 i i5 i7, up_eq, u1_ne i7, up_eq, u1_ne i6]
        have y6 : G2 10 6 = 2 := by rw [x2 6 (by decide) (by decide), up_eq, u1_ne (by decide), up_eq, u1_eq]
        have yo : ∀ a, a ≠ 10 → G2 a = H a := fun a ha => by rw [x1 a ha, up_ne ha, up_ne ha]
        have tk : TkC G2 n T := by
          unfold TkC
          rw [y 2 (by decide) (by decide) (by decide), y 3 (by decide) (by decide) (by decide), yo 1 (by decide)]
          exact hH
        have y4 : G2 10 4 = s := by rw [y 4 (by decide) (by decide) (by decide)]; exact H4
        have y0 : G2 10 0 = 0 := by rw [y 0 (by decide) (by decide) (by decide)]; exact H0
        by_cases c4 : 4 < deT T n s - s
        · have of := oFail (N := N) (q := q) (c := 1) y0
          rw [y4] at of
          refine ⟨up (up G2 10 0 1) 10 1 s, ⟨fun a ha => by rw [up_ne ha, up_ne ha, yo a ha]; exact Ho a ha, (tk.up (by omega)).up (by omega), ⟨by rw [up_eq, u1_ne (by decide), up_eq, u1_ne (by decide)]; exact y4, .inr (.inr (.inl ⟨c, c2, by rw [up_eq, u1_ne (by decide), up_eq, u1_ne (by decide)]; exact y6, by rw [up_eq, u1_ne (by decide), up_eq, u1_ne (by decide)]; exact x3, by rw [up_eq, u1_ne (by decide), up_eq, u1_ne (by decide)]; exact x4, fun h => absurd h (by omega), fun _ => ⟨by rw [up_eq, u1_ne (by decide), up_eq, u1_eq], by rw [up_eq, u1_eq]⟩⟩))⟩, fun h => ?_⟩, A _ ?_⟩
          · rw [up_eq, u1_ne (by decide), up_eq, u1_eq] at h
            exact absurd h (by decide)
          · unfold deT at c4
            unfold J_X8_advance_58
            simp (maxSteps := 2000000) (disch := first | assumption | omega) only [jI0, iAdd_j, iSub_j, iMul_j, iNeg_j, Option.bind_some, jlt_t, jlt_f, jlt, jle_t, jle_f, jle, jeq_t, jeq_f, jeq, ↓reduceIte, o10, h4, w5, ob, H4, H3, ol, od, w10, x5, J_X8_advance_235, x3, y4, of]
        · refine ⟨G2, ⟨fun a ha => by rw [yo a ha]; exact Ho a ha, tk, ⟨y4, .inr (.inr (.inl ⟨c, c2, y6, x3, x4, fun _ => y0, fun h => absurd h c4⟩))⟩, fun _ => by rw [y 1 (by decide) (by decide) (by decide)]; exact H1⟩, A _ ?_⟩
          unfold deT at c4
          unfold J_X8_advance_58
          simp (maxSteps := 2000000) (disch := first | assumption | omega) only [jI0, iAdd_j, iSub_j, iMul_j, iNeg_j, Option.bind_some, jlt_t, jlt_f, jlt, jle_t, jle_f, jle, jeq_t, jeq_f, jeq, ↓reduceIte, o10, h4, w5, ob, H4, H3, ol, od, w10, x5, J_X8_advance_235, x3, y4]
      · have e1 : ¬ (48 ≤ T s ∧ T s ≤ 57) := fun h => c2 (decide_eq_true h)
        have e2 : ¬ (48 ≤ i8 (T s) ∧ i8 (T s) ≤ 57) := by omega
        rw [bI_f e2] at od
        by_cases c3 : T s = 59
        · have i59 : i8 (T s) = 59 := by omega
          rw [i59] at ob ol od
          have u4 : up H 10 6 3 10 4 = s := by rw [up_eq, u1_ne (by decide)]; exact H4
          refine ⟨up (up H 10 6 3) 10 5 (s + 1), ⟨fun a ha => by rw [up_ne ha, up_ne ha]; exact Ho a ha, (hH.up (by omega)).up (by omega), ⟨by rw [up_eq, u1_ne (by decide)]; exact u4, .inr (.inr (.inr (.inl ⟨c, c3, by rw [up_eq, u1_ne (by decide), up_eq, u1_eq], by rw [up_eq, u1_eq], by rw [up_eq, u1_ne (by decide), up_eq, u1_ne (by decide)]; exact H0⟩)))⟩, fun _ => by rw [up_eq, u1_ne (by decide), up_eq, u1_ne (by decide)]; exact H1⟩, A _ ?_⟩
          unfold J_X8_advance_58
          simp (maxSteps := 2000000) (disch := first | assumption | omega) only [jI0, iAdd_j, iSub_j, iMul_j, iNeg_j, Option.bind_some, jlt_t, jlt_f, jlt, jle_t, jle_f, jle, jeq_t, jeq_f, jeq, ↓reduceIte, o10, h4, w5, ob, H4, H3, ol, od, w10, u4]
        · have n59 : i8 (T s) ≠ 59 := by omega
          have of := oFail (N := N) (q := q) (c := 1) H0
          rw [H4] at of
          refine ⟨up (up H 10 0 1) 10 1 s, ⟨fun a ha => by rw [up_ne ha, up_ne ha]; exact Ho a ha, (hH.up (by omega)).up (by omega), ⟨by rw [up_eq, u1_ne (by decide), up_eq, u1_ne (by decide)]; exact H4, .inr (.inr (.inr (.inr ⟨c, by simpa using c1, by simpa using c2, c3, by rw [up_eq, u1_ne (by decide), up_eq, u1_eq], by rw [up_eq, u1_eq]⟩)))⟩, fun h => ?_⟩, A _ ?_⟩
          · rw [up_eq, u1_ne (by decide), up_eq, u1_eq] at h
            exact absurd h (by decide)
          · unfold J_X8_advance_58
            simp (maxSteps := 2000000) (disch := first | assumption | omega) only [jI0, iAdd_j, iSub_j, iMul_j, iNeg_j, Option.bind_some, jlt_t, jlt_f, jlt, jle_t, jle_f, jle, jeq_t, jeq_f, jeq, ↓reduceIte, o10, h4, w5, ob, H4, H3, ol, od, of]
  · rw [if_neg c] at ob
    refine ⟨up H 10 6 0, ⟨fun a ha => by rw [up_ne ha]; exact Ho a ha, hH.up (by omega), ⟨by rw [up_eq, u1_ne (by decide)]; exact H4, .inl ⟨by omega, by rw [up_eq, u1_eq], by rw [up_eq, u1_ne (by decide)]; exact H5, by rw [up_eq, u1_ne (by decide)]; exact H0⟩⟩, fun _ => by rw [up_eq, u1_ne (by decide)]; exact H1⟩, A _ ?_⟩
    unfold J_X8_advance_58
    simp (maxSteps := 2000000) (disch := first | assumption | omega) only [jI0, iAdd_j, iSub_j, iMul_j, iNeg_j, Option.bind_some, jlt_t, jlt_f, jlt, jle_t, jle_f, jle, jeq_t, jeq_f, jeq, ↓reduceIte, o10, h4, w5, ob, H4, H3, w10]
end
