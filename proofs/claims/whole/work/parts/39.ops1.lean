/-! calls: rod, fault, count, status, total, undo, ways -/
section
variable {K1 K2 : (Int → Int) → (Int → Int) → Prop} {q : Nat × Nat × (Nat → Nat)} {G : Nat → Int → Int} {N : Nat}
theorem mCross (hV : BV (G 102)) {b j i : Int} (h1 : -2147483648 ≤ b) (h2 : b < 2147483648) (h3 : -2147483648 ≤ j) (h4 : j < 2147483648) (h5 : -2147483648 ≤ i) (h6 : i < 2147483648) : f_X12_isCrossing N 100 (jI b) (jI j) (jI i) (hp q G) = some (bI (((0 ≤ b ∧ b < G 102 26) ∧ 0 ≤ j ∧ j < G 102 (27 + b)) ∧ 0 ≤ i ∧ i < sCr (G 102) b), hp q G) := by
  have g := hV.1
  unfold f_X12_isCrossing
  by_cases c1 : 0 ≤ b ∧ b < G 102 26
  · have w := hV.2.2.1 b c1.1 c1.2
    have f := crF hV c1.1 c1.2
    by_cases c2 : 0 ≤ j ∧ j < G 102 (27 + b)
    · by_cases c3 : 0 ≤ i ∧ i < sCr (G 102) b
      · simp (maxSteps := 2000000) (disch := first | assumption | omega) only [jI0, iAdd_j, iSub_j, iMul_j, iNeg_j, Option.bind_some, jlt_t, jlt_f, jlt, jle_t, jle_f, jle, jeq_t, jeq_f, jeq, ↓reduceIte, o100, l102, mBand, mCr, jlL, X12_within, bI_t, bI_f]
      · simp (maxSteps := 2000000) (disch := first | assumption | omega) only [jI0, iAdd_j, iSub_j, iMul_j, iNeg_j, Option.bind_some, jlt_t, jlt_f, jlt, jle_t, jle_f, jle, jeq_t, jeq_f, jeq, ↓reduceIte, o100, l102, mBand, mCr, jlL, X12_within, bI_t, bI_f]
    · simp (maxSteps := 2000000) (disch := first | assumption | omega) only [jI0, iAdd_j, iSub_j, iMul_j, iNeg_j, Option.bind_some, jlt_t, jlt_f, jlt, jle_t, jle_f, jle, jeq_t, jeq_f, jeq, ↓reduceIte, o100, l102, mBand, mCr, jlL, X12_within, bI_t, bI_f]
  · simp (maxSteps := 2000000) (disch := first | assumption | omega) only [jI0, iAdd_j, iSub_j, iMul_j, iNeg_j, Option.bind_some, jlt_t, jlt_f, jlt, jle_t, jle_f, jle, jeq_t, jeq_f, jeq, ↓reduceIte, o100, l102, mBand, bI_t, bI_f]
theorem op_rod (hI : INV K1 K2 q G) {k w : Int} (h1 : -2147483648 ≤ k) (h2 : k < 2147483648) (h3 : -2147483648 ≤ w) (h4 : w < 2147483648) : OP K1 K2 q G (f_X11_rod N 0 (jI k) (jI w)) (f_X12_rod N 100 (jI k) (jI w)) := by
  have hB := hI.1.1; have hV := hB.1; have hT := hI.1.2.1; have g := hV.1
  by_cases c : 0 ≤ k ∧ k < G 102 1
  · by_cases d : 0 ≤ w ∧ w ≤ 3
    · have e := hB.2.2.1 k w c.1 c.2 (by omega) (by omega)
      refine OP.ans hI (jI (G 102 (2 + 6 * w + k))) ?_ ?_
      · unfold f_X11_rod f_X0_ofKind
        simp (maxSteps := 2000000) (disch := first | assumption | omega) only [jI0, iAdd_j, iSub_j, iMul_j, iNeg_j, Option.bind_some, jlt_t, jlt_f, jlt, jle_t, jle_f, jle, jeq_t, jeq_f, jeq, ↓reduceIte, o0, o2, hKind, n3, l3, e, bI_t]
      · unfold f_X12_rod
        simp (maxSteps := 2000000) (disch := first | assumption | omega) only [jI0, iAdd_j, iSub_j, iMul_j, iNeg_j, Option.bind_some, jlt_t, jlt_f, jlt, jle_t, jle_f, jle, jeq_t, jeq_f, jeq, ↓reduceIte, o100, w100t, mKind, l102, jlL, X12_within, bI_t]
    · refine OP.rf hI (-2) (jI (-2)) ?_ ?_
      · unfold f_X11_rod
        by_cases d1 : w < 0
        · simp (maxSteps := 2000000) (disch := first | assumption | omega) only [jI0, iAdd_j, iSub_j, iMul_j, iNeg_j, Option.bind_some, jlt_t, jlt_f, jlt, jle_t, jle_f, jle, jeq_t, jeq_f, jeq, ↓reduceIte, o0, o2, hKind, bI_t, X11_refuse]
        · simp (maxSteps := 2000000) (disch := first | assumption | omega) only [jI0, iAdd_j, iSub_j, iMul_j, iNeg_j, Option.bind_some, jlt_t, jlt_f, jlt, jle_t, jle_f, jle, jeq_t, jeq_f, jeq, ↓reduceIte, o0, o2, hKind, bI_t, X11_refuse]
      · intro G1 hM e eo; have hV1 := hM.1; have hT1 := hM.2; rw [← e] at g c
        unfold f_X12_rod
        simp (maxSteps := 2000000) (disch := first | assumption | omega) only [jI0, iAdd_j, iSub_j, iMul_j, iNeg_j, Option.bind_some, jlt_t, jlt_f, jlt, jle_t, jle_f, jle, jeq_t, jeq_f, jeq, ↓reduceIte, o100, w100t, mKind, l102, jlL, X12_within, bI_t, bI_f, X12_no]
  · refine OP.rf hI (-2) (jI (-2)) ?_ ?_
    · unfold f_X11_rod
      simp (maxSteps := 2000000) (disch := first | assumption | omega) only [jI0, iAdd_j, iSub_j, iMul_j, iNeg_j, Option.bind_some, jlt_t, jlt_f, jlt, jle_t, jle_f, jle, jeq_t, jeq_f, jeq, ↓reduceIte, o0, o2, hKind, bI_f, X11_refuse]
    · intro G1 hM e eo; have hV1 := hM.1; have hT1 := hM.2; rw [← e] at g c
      unfold f_X12_rod
      simp (maxSteps := 2000000) (disch := first | assumption | omega) only [jI0, iAdd_j, iSub_j, iMul_j, iNeg_j, Option.bind_some, jlt_t, jlt_f, jlt, jle_t, jle_f, jle, jeq_t, jeq_f, jeq, ↓reduceIte, o100, w100t, mKind, bI_f, X12_no]
theorem op_fault (hI : INV K1 K2 q G) {w : Int} (h3 : -2147483648 ≤ w) (h4 : w < 2147483648) : OP K1 K2 q G (f_X11_fault N 0 (jI w)) (f_X12_fault N 100 (jI w)) := by
  have hB := hI.1.1; have hV := hB.1; have hT := hI.1.2.1; have g := hV.1
  have e := hI.1.2.2.2.2.2.2.2.2.1
  unfold f_X11_fault f_X12_fault
  by_cases c0 : w = 0
  · refine OP.ans hI (jI (G 100 14)) ?_ ?_ <;> simp (maxSteps := 2000000) (disch := first | assumption | omega) only [jI0, iAdd_j, iSub_j, iMul_j, iNeg_j, Option.bind_some, jlt_t, jlt_f, jlt, jle_t, jle_f, jle, jeq_t, jeq_f, jeq, ↓reduceIte, c0, o0, o10, o100, w100t, e]
  by_cases c1 : w = 1
  · refine OP.ans hI (jI (G 100 15)) ?_ ?_ <;> simp (maxSteps := 2000000) (disch := first | assumption | omega) only [jI0, iAdd_j, iSub_j, iMul_j, iNeg_j, Option.bind_some, jlt_t, jlt_f, jlt, jle_t, jle_f, jle, jeq_t, jeq_f, jeq, ↓reduceIte, c1, o0, o10, o100, w100t, e]
  · refine OP.ans hI (jI (-1)) ?_ ?_ <;> simp (maxSteps := 2000000) (disch := first | assumption | omega) only [jI0, iAdd_j, iSub_j, iMul_j, iNeg_j, Option.bind_some, jlt_t, jlt_f, jlt, jle_t, jle_f, jle, jeq_t, jeq_f, jeq, ↓reduceIte, o0, o10, o100, w100t, e]
theorem op_status (hI : INV K1 K2 q G) {w : Int} (h3 : -2147483648 ≤ w) (h4 : w < 2147483648) : OP K1 K2 q G (f_X11_status N 0 (jI w)) (f_X12_status N 100 (jI w)) := by
  have hB := hI.1.1; have hV := hB.1; have hT := hI.1.2.1; have g := hV.1
  unfold f_X11_status f_X12_status
  by_cases c : 0 ≤ w ∧ w < 6
  · have e := hI.2 w c.1 c.2
    refine OP.ans hI (jI (G 101 w)) ?_ ?_ <;> simp (maxSteps := 2000000) (disch := first | assumption | omega) only [jI0, iAdd_j, iSub_j, iMul_j, iNeg_j, Option.bind_some, jlt_t, jlt_f, jlt, jle_t, jle_f, jle, jeq_t, jeq_f, jeq, ↓reduceIte, o0, n98, l98, o100, l101, w100t, e, jlL, X12_within, bI_t]
  · refine OP.ans hI (jI (-1)) ?_ ?_
    · by_cases c1 : w < 0 <;> simp (maxSteps := 2000000) (disch := first | assumption | omega) only [jI0, iAdd_j, iSub_j, iMul_j, iNeg_j, Option.bind_some, jlt_t, jlt_f, jlt, jle_t, jle_f, jle, jeq_t, jeq_f, jeq, ↓reduceIte, o0, n98]
    · simp (maxSteps := 2000000) (disch := first | assumption | omega) only [jI0, iAdd_j, iSub_j, iMul_j, iNeg_j, Option.bind_some, jlt_t, jlt_f, jlt, jle_t, jle_f, jle, jeq_t, jeq_f, jeq, ↓reduceIte, o100, w100t, jlL, X12_within, bI_f]
theorem op_total (hN : 10000 ≤ N) (hI : INV K1 K2 q G) : OP K1 K2 q G (f_X11_total N 0) (f_X12_total N 100) := by
  have hB := hI.1.1; have hV := hB.1; have hT := hI.1.2.1; have g := hV.1
  unfold f_X11_total f_X12_total
  refine OP.ans hI (jI (sAh (G 102) (G 102 26).toNat)) ?_ ?_ <;> simp (maxSteps := 2000000) (disch := first | assumption | omega) only [jI0, iAdd_j, iSub_j, iMul_j, iNeg_j, Option.bind_some, jlt_t, jlt_f, jlt, jle_t, jle_f, jle, jeq_t, jeq_f, jeq, ↓reduceIte, o0, o2, oAll, o100, l102, w100t, mAhead]
theorem op_undo (hN : 10000 ≤ N) (hI : INV K1 K2 q G) {b j i : Int} (h1 : -2147483648 ≤ b) (h2 : b < 2147483648) (h3 : -2147483648 ≤ j) (h4 : j < 2147483648) (h5 : -2147483648 ≤ i) (h6 : i < 2147483648) (P : Prop) [Decidable P] : OP K1 K2 q G (f_X11_undo N 0 (jI b) (jI j) (jI i) (bI P)) (f_X12_undo N 100 (jI b) (jI j) (jI i) (bI P)) := by
  have hB := hI.1.1; have hV := hB.1; have hT := hI.1.2.1; have g := hV.1
  by_cases c : ((0 ≤ b ∧ b < G 102 26) ∧ 0 ≤ j ∧ j < G 102 (27 + b)) ∧ 0 ≤ i ∧ i < sCr (G 102) b
  · unfold f_X11_undo f_X12_undo
    by_cases d : P
    · refine OP.ans hI (jI (sAh (G 102) (G 102 26).toNat - sWh (G 102) b j i)) ?_ ?_ <;> simp (maxSteps := 2000000) (disch := first | assumption | omega) only [jI0, iAdd_j, iSub_j, iMul_j, iNeg_j, Option.bind_some, jlt_t, jlt_f, jlt, jle_t, jle_f, jle, jeq_t, jeq_f, jeq, ↓reduceIte, bI_t d, o0, o2, oAll, hCross, oWhen, mWhen, mCross, o100, l102, w100t, mAhead, bI_t]
    · refine OP.ans hI (jI (sWh (G 102) b j i + 1)) ?_ ?_ <;> simp (maxSteps := 2000000) (disch := first | assumption | omega) only [jI0, iAdd_j, iSub_j, iMul_j, iNeg_j, Option.bind_some, jlt_t, jlt_f, jlt, jle_t, jle_f, jle, jeq_t, jeq_f, jeq, ↓reduceIte, bI_f d, o0, o2, oAll, hCross, oWhen, mWhen, mCross, o100, l102, w100t, mAhead, bI_t]
  · refine OP.rf hI (-2) (jI (-2)) ?_ ?_
    · unfold f_X11_undo
      simp (maxSteps := 2000000) (disch := first | assumption | omega) only [jI0, iAdd_j, iSub_j, iMul_j, iNeg_j, Option.bind_some, jlt_t, jlt_f, jlt, jle_t, jle_f, jle, jeq_t, jeq_f, jeq, ↓reduceIte, o0, o2, hCross, bI_f, X11_refuse]
    · intro G1 hM e eo; have hV1 := hM.1; have hT1 := hM.2; rw [← e] at g c
      unfold f_X12_undo
      simp (maxSteps := 2000000) (disch := first | assumption | omega) only [jI0, iAdd_j, iSub_j, iMul_j, iNeg_j, Option.bind_some, jlt_t, jlt_f, jlt, jle_t, jle_f, jle, jeq_t, jeq_f, jeq, ↓reduceIte, o100, w100t, mCross, bI_f, X12_no]
theorem op_count (hI : INV K1 K2 q G) {w : Int} (h3 : -2147483648 ≤ w) (h4 : w < 2147483648) : OP K1 K2 q G (f_X11_count N 0 (jI w)) (f_X12_count N 100 (jI w)) := by
  have hB := hI.1.1; have hV := hB.1; have hT := hI.1.2.1; have g := hV.1
  have e := hB.2.1
  have e7 := hI.1.2.2.2.2.2.2.2.1.1
  unfold f_X11_count f_X12_count
  by_cases c0 : w = 0
  · refine OP.ans hI (jI (G 102 0)) ?_ ?_ <;> simp (maxSteps := 2000000) (disch := first | assumption | omega) only [jI0, iAdd_j, iSub_j, iMul_j, iNeg_j, Option.bind_some, jlt_t, jlt_f, jlt, jle_t, jle_f, jle, jeq_t, jeq_f, jeq, ↓reduceIte, c0, o0, o2, o100, w100t, l102, e]
  by_cases c1 : w = 1
  · refine OP.ans hI (jI (G 102 1)) ?_ ?_ <;> simp (maxSteps := 2000000) (disch := first | assumption | omega) only [jI0, iAdd_j, iSub_j, iMul_j, iNeg_j, Option.bind_some, jlt_t, jlt_f, jlt, jle_t, jle_f, jle, jeq_t, jeq_f, jeq, ↓reduceIte, c1, o0, o2, o100, w100t, l102, e]
  by_cases c2 : w = 2
  · refine OP.ans hI (jI (G 102 26)) ?_ ?_ <;> simp (maxSteps := 2000000) (disch := first | assumption | omega) only [jI0, iAdd_j, iSub_j, iMul_j, iNeg_j, Option.bind_some, jlt_t, jlt_f, jlt, jle_t, jle_f, jle, jeq_t, jeq_f, jeq, ↓reduceIte, c2, o0, o2, o100, w100t, l102, e]
  by_cases c3 : w = 3
  · refine OP.ans hI (jI (G 102 115)) ?_ ?_ <;> simp (maxSteps := 2000000) (disch := first | assumption | omega) only [jI0, iAdd_j, iSub_j, iMul_j, iNeg_j, Option.bind_some, jlt_t, jlt_f, jlt, jle_t, jle_f, jle, jeq_t, jeq_f, jeq, ↓reduceIte, c3, o0, o2, o100, w100t, l102, e]
  by_cases c4 : w = 4
  · refine OP.ans hI (jI (G 102 140)) ?_ ?_ <;> simp (maxSteps := 2000000) (disch := first | assumption | omega) only [jI0, iAdd_j, iSub_j, iMul_j, iNeg_j, Option.bind_some, jlt_t, jlt_f, jlt, jle_t, jle_f, jle, jeq_t, jeq_f, jeq, ↓reduceIte, c4, o0, o2, o100, w100t, l102, e]
  by_cases c5 : w = 5
  · refine OP.ans hI (jI (G 102 141)) ?_ ?_ <;> simp (maxSteps := 2000000) (disch := first | assumption | omega) only [jI0, iAdd_j, iSub_j, iMul_j, iNeg_j, Option.bind_some, jlt_t, jlt_f, jlt, jle_t, jle_f, jle, jeq_t, jeq_f, jeq, ↓reduceIte, c5, o0, o2, o100, w100t, l102, e]
  by_cases c6 : w = 6
  · refine OP.ans hI (jI (G 102 142)) ?_ ?_ <;> simp (maxSteps := 2000000) (disch := first | assumption | omega) only [jI0, iAdd_j, iSub_j, iMul_j, iNeg_j, Option.bind_some, jlt_t, jlt_f, jlt, jle_t, jle_f, jle, jeq_t, jeq_f, jeq, ↓reduceIte, c6, o0, o2, o100, w100t, l102, e]
  by_cases c7 : w = 7
  · refine OP.ans hI (jI (G 100 6)) ?_ ?_ <;> simp (maxSteps := 2000000) (disch := first | assumption | omega) only [jI0, iAdd_j, iSub_j, iMul_j, iNeg_j, Option.bind_some, jlt_t, jlt_f, jlt, jle_t, jle_f, jle, jeq_t, jeq_f, jeq, ↓reduceIte, c7, o0, o2, o100, w100t, l102, e7]
  by_cases c8 : w = 8
  · rcases hI.1.2.2.1 with ⟨d1, d2⟩ | ⟨d1, d2, d3, -⟩
    · refine OP.ans hI (jI (-1)) ?_ ?_ <;> simp (maxSteps := 2000000) (disch := first | assumption | omega) only [jI0, iAdd_j, iSub_j, iMul_j, iNeg_j, Option.bind_some, jlt_t, jlt_f, jlt, jle_t, jle_f, jle, jeq_t, jeq_f, jeq, ↓reduceIte, c8, o0, o17, o100, w100t, l102, d1, d2]
    · refine OP.ans hI (jI (G 17 0)) ?_ ?_ <;> simp (maxSteps := 2000000) (disch := first | assumption | omega) only [jI0, iAdd_j, iSub_j, iMul_j, iNeg_j, Option.bind_some, jlt_t, jlt_f, jlt, jle_t, jle_f, jle, jeq_t, jeq_f, jeq, ↓reduceIte, c8, o0, o17, o100, w100t, l102, d3]
  by_cases c9 : w = 9
  · rcases hI.1.2.2.2.1 with ⟨d1, d2⟩ | ⟨d1, d2, d3, -⟩
    · refine OP.ans hI (jI (-1)) ?_ ?_ <;> simp (maxSteps := 2000000) (disch := first | assumption | omega) only [jI0, iAdd_j, iSub_j, iMul_j, iNeg_j, Option.bind_some, jlt_t, jlt_f, jlt, jle_t, jle_f, jle, jeq_t, jeq_f, jeq, ↓reduceIte, c9, o0, o21, o100, w100t, l102, d1, d2]
    · refine OP.ans hI (jI (G 21 0)) ?_ ?_ <;> simp (maxSteps := 2000000) (disch := first | assumption | omega) only [jI0, iAdd_j, iSub_j, iMul_j, iNeg_j, Option.bind_some, jlt_t, jlt_f, jlt, jle_t, jle_f, jle, jeq_t, jeq_f, jeq, ↓reduceIte, c9, o0, o21, o100, w100t, l102, d3]
  refine OP.ans hI (jI (-1)) ?_ ?_ <;> simp (maxSteps := 2000000) (disch := first | assumption | omega) only [jI0, iAdd_j, iSub_j, iMul_j, iNeg_j, Option.bind_some, jlt_t, jlt_f, jlt, jle_t, jle_f, jle, jeq_t, jeq_f, jeq, ↓reduceIte, o0, o100, w100t]
end
