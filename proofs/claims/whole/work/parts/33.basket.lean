/-! the component's basket: plain questions -/
section
variable {q : Nat × Nat × (Nat → Nat)} {G : Nat → Int → Int} {N : Nat}
theorem X0_hasBand {b : Int} (h1 : -2147483648 ≤ b) (h2 : b < 2147483648) (h3 : 0 ≤ G 2 2) (h4 : G 2 2 ≤ 8) : f_X0_hasBand N 2 (jI b) (hp q G) = some (jI (if 0 ≤ b ∧ b < G 2 2 then 1 else 0), hp q G) := by
  unfold f_X0_hasBand
  by_cases c1 : b < 0
  · simp (disch := omega) only [jI0, iAdd_j, iSub_j, iMul_j, iNeg_j, Option.bind_some, jlt_t, jlt_f, jlt, jle_t, jle_f, jle, jeq_t, jeq_f, jeq, ↓reduceIte, o2, if_neg (show ¬ (0 ≤ b ∧ b < G 2 2) by omega)]
  · by_cases c2 : b < G 2 2
    · simp (disch := omega) only [jI0, iAdd_j, iSub_j, iMul_j, iNeg_j, Option.bind_some, jlt_t, jlt_f, jlt, jle_t, jle_f, jle, jeq_t, jeq_f, jeq, ↓reduceIte, o2, if_pos (show (0 ≤ b ∧ b < G 2 2) by omega)]
    · simp (disch := omega) only [jI0, iAdd_j, iSub_j, iMul_j, iNeg_j, Option.bind_some, jlt_t, jlt_f, jlt, jle_t, jle_f, jle, jeq_t, jeq_f, jeq, ↓reduceIte, o2, if_neg (show ¬ (0 ≤ b ∧ b < G 2 2) by omega)]
theorem X0_ofBand {b w : Int} (h1 : 0 ≤ b) (h2 : b < 8) (h3 : 0 ≤ w) (h4 : w < 11) : f_X0_ofBand N 2 (jI b) (jI w) (hp q G) = some (jI (G 4 (b * 11 + w)), hp q G) := by
  unfold f_X0_ofBand
  simp (disch := omega) only [jI0, iAdd_j, iSub_j, iMul_j, iNeg_j, Option.bind_some, jlt_t, jlt_f, jlt, jle_t, jle_f, jle, jeq_t, jeq_f, jeq, ↓reduceIte, o2, n4, l4]
theorem X0_crossingsOf {b : Int} (h1 : 0 ≤ b) (h2 : b < 8) : f_X0_crossingsOf N 2 (jI b) (hp q G) = some (jI (G 4 (b * 11 + 3) * G 2 0), hp q G) := by
  unfold f_X0_crossingsOf
  simp (disch := omega) only [jI0, iAdd_j, iSub_j, iMul_j, iNeg_j, Option.bind_some, jlt_t, jlt_f, jlt, jle_t, jle_f, jle, jeq_t, jeq_f, jeq, ↓reduceIte, o2, X0_ofBand]
theorem X0_slipsAt (hN : 10000 ≤ N) {b j i : Int} (hs : 0 ≤ G 2 3 ∧ G 2 3 ≤ 8) (hb : -2147483648 ≤ b ∧ b < 2147483648) (hj : -2147483648 ≤ j ∧ j < 2147483648) (hi : -2147483648 ≤ i ∧ i < 2147483648)
   (hv : ∀ k : Int, 0 ≤ k → k < 24 → -2147483648 ≤ G 5 k ∧ G 5 k < 2147483648) : f_X0_slipsAt N 2 (jI b) (jI j) (jI i) (hp q G) = some (jI (sm (fun k => if G 5 (3 * k) = b ∧ G 5 (3 * k + 1) = j ∧ G 5 (3 * k + 2) = i then 1 else 0) (G 2 3).toNat), hp q G) := by
  unfold f_X0_slipsAt
  refine loopE (fun n (s : Int × Int) => L_X0_slipsAt_6 N n 2 (jI b) (jI j) (jI i) (jI s.1) (jI s.2) (hp q G)) (fun k => (sm (fun k => if G 5 (3 * k) = b ∧ G 5 (3 * k + 1) = j ∧ G 5 (3 * k + 2) = i then 1 else 0) k, (k : Int))) (G 2 3).toNat (by omega) ?_ ?_
  · intro n k hk
    have v0 := hv (3 * k) (by omega) (by omega)
    have v1 := hv (3 * k + 1) (by omega) (by omega)
    have v2 := hv (3 * k + 2) (by omega) (by omega)
    have e0 : (k : Int) * 3 = 3 * k := by omega
    show L_X0_slipsAt_6 N (n + 1) 2 (jI b) (jI j) (jI i) (jI _) (jI _) (hp q G) = L_X0_slipsAt_6 N n 2 (jI b) (jI j) (jI i) (jI _) (jI _) (hp q G)
    rw [L_X0_slipsAt_6]
    simp only [sm]
    by_cases c1 : G 5 (3 * k) = b <;> by_cases c2 : G 5 (3 * k + 1) = j <;> by_cases c3 : G 5 (3 * k + 2) = i <;> simp (disch := omega) only [jI0, iAdd_j, iSub_j, iMul_j, iNeg_j, Option.bind_some, jlt_t, jlt_f, jlt, jle_t, jle_f, jle, jeq_t, jeq_f, jeq, ↓reduceIte, o2, l5, e0, c1, c2, c3, Int.natCast_succ, and_true, and_false, true_and, false_and, Int.add_zero]
  · intro n
    show L_X0_slipsAt_6 N (n + 1) 2 (jI b) (jI j) (jI i) (jI _) (jI _) (hp q G) = _
    rw [L_X0_slipsAt_6]
    simp (disch := omega) only [jI0, iAdd_j, iSub_j, iMul_j, iNeg_j, Option.bind_some, jlt_t, jlt_f, jlt, jle_t, jle_f, jle, jeq_t, jeq_f, jeq, ↓reduceIte, o2]
end
