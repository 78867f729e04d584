/-! basket: is the token a word -/
section
variable {q : Nat × Nat × (Nat → Nat)} {G : Nat → Int → Int} {N : Nat}
theorem oIsW (hN : 10000 ≤ N) {n s e : Int} {T : Int → Int} {i : Nat} (hi : i < 18) (h : TkC G n T) (w0 : G 10 0 = 0) (k1 : G 10 6 = 1) (e4 : G 10 4 = s) (e5 : G 10 5 = e) (s0 : 0 ≤ s) (s1 : s ≤ e) (s2 : e ≤ n) : f_X8_isWord N 10 (UInt32.ofNat i) (hp q G) = some (jI (cI (isW T s e (sjI i))), hp q G) := by
  have sl := sjI_len i hi
  have l1 := sl.1
  have t3 := h.2.2.1
  unfold f_X8_isWord
  by_cases c : e - s = ((sjI i).length : Nat)
  · have w := oWd35 (N := N) (q := q) hi h s0 (by omega) e4 (sjI i).length N 0 (by omega) (by omega) (fun k hk => absurd hk (by omega))
    have ce : isW T s e (sjI i) = (∀ k : Nat, k < (sjI i).length → T (s + k) = (sjI i).getD k 0) := by
      unfold isW
      exact propext ⟨fun x => x.2, fun x => ⟨c, x⟩⟩
    rw [show ((0 : Nat) : Int) = 0 from rfl] at w
    rw [ce]
    simp (maxSteps := 2000000) (disch := first | assumption | omega) only [jI0, iAdd_j, iSub_j, iMul_j, iNeg_j, Option.bind_some, jlt_t, jlt_f, jlt, jle_t, jle_f, jle, jeq_t, jeq_f, jeq, ↓reduceIte, o10, w0, k1, e4, e5, l1, c, w]
  · have cf : ¬ isW T s e (sjI i) := fun hh => c hh.1
    have c0 := cI_f cf
    rw [c0]
    simp (maxSteps := 2000000) (disch := first | assumption | omega) only [jI0, iAdd_j, iSub_j, iMul_j, iNeg_j, Option.bind_some, jlt_t, jlt_f, jlt, jle_t, jle_f, jle, jeq_t, jeq_f, jeq, ↓reduceIte, o10, w0, k1, e4, e5, l1]
theorem oIsW0 {i : Nat} (w : G 10 0 ≠ 0 ∧ -2147483648 ≤ G 10 0 ∧ G 10 0 < 2147483648) : f_X8_isWord N 10 (UInt32.ofNat i) (hp q G) = some (jI 0, hp q G) := by
  obtain ⟨w0, w1, w2⟩ := w
  unfold f_X8_isWord
  simp (maxSteps := 2000000) (disch := first | assumption | omega) only [jI0, iAdd_j, iSub_j, iMul_j, iNeg_j, Option.bind_some, jlt_t, jlt_f, jlt, jle_t, jle_f, jle, jeq_t, jeq_f, jeq, ↓reduceIte, o10]
theorem oIsWk {i : Nat} (w0 : G 10 0 = 0) (k : G 10 6 ≠ 1 ∧ 0 ≤ G 10 6 ∧ G 10 6 ≤ 3) : f_X8_isWord N 10 (UInt32.ofNat i) (hp q G) = some (jI 0, hp q G) := by
  obtain ⟨k0, k1, k2⟩ := k
  unfold f_X8_isWord
  simp (maxSteps := 2000000) (disch := first | assumption | omega) only [jI0, iAdd_j, iSub_j, iMul_j, iNeg_j, Option.bind_some, jlt_t, jlt_f, jlt, jle_t, jle_f, jle, jeq_t, jeq_f, jeq, ↓reduceIte, o10, w0]
end
