/-! the model's plain questions; more of the component's -/
def sSa (A : Int → Int) (b j i : Int) : Int := (if A (67 + b) = 1 then A (59 + b) - j - i else A (59 + b) + j + i) % A 0
def sOf (A : Int → Int) (b j s : Int) : Int := (if A (67 + b) = 1 then A (59 + b) - j - s else s - A (59 + b) - j) % A 0
def sRa (A : Int → Int) (b j i : Int) : Int := min (i / sSt A (A 140) (A (83 + 4 * b + j))) (sRd A (A 140) (A (83 + 4 * b + j)) (sCr A b) - 1)
theorem stF {A : Int → Int} {k lap : Int} (h : BV A) (h1 : 0 ≤ k) (h2 : k < A 1) (h3 : 0 ≤ lap) : 1 ≤ sSt A lap k ∧ sSt A lap k ≤ 99 := by
  have f := h.2.1 k h1 h2
  unfold sSt
  omega
theorem rdF {A : Int → Int} {k lap c : Int} (h : BV A) (h1 : 0 ≤ k) (h2 : k < A 1) (h3 : 0 ≤ lap) (h4 : 0 ≤ c) (h5 : c ≤ 1280) : 1 ≤ sRd A lap k c ∧ sRd A lap k c ≤ 1400 := by
  have f := h.2.1 k h1 h2
  have s := stF h h1 h2 h3
  unfold sRd
  split
  · have e1 : 0 ≤ (c - A (2 + k) + sSt A lap k - 1) / sSt A lap k := Int.ediv_nonneg (by omega) (by omega)
    have e2 : (c - A (2 + k) + sSt A lap k - 1) / sSt A lap k ≤ c - A (2 + k) + sSt A lap k - 1 := Int.ediv_le_self _ (by omega)
    omega
  · omega
section
variable {q : Nat × Nat × (Nat → Nat)} {G : Nat → Int → Int} {N : Nat}
theorem mBand (hV : BV (G 102)) {b : Int} (h1 : -2147483648 ≤ b) (h2 : b < 2147483648) : f_X12_isBand N 100 (jI b) (hp q G) = some (bI (0 ≤ b ∧ b < G 102 26), hp q G) := by
  have g := hV.1
  exact X12_isBand h1 h2 (by omega) (by omega)
theorem mKind (hV : BV (G 102)) {b : Int} (h1 : -2147483648 ≤ b) (h2 : b < 2147483648) : f_X12_isKind N 100 (jI b) (hp q G) = some (bI (0 ≤ b ∧ b < G 102 1), hp q G) := by
  have g := hV.1
  unfold f_X12_isKind
  simp (maxSteps := 2000000) (disch := first | assumption | omega) only [jI0, iAdd_j, iSub_j, iMul_j, iNeg_j, Option.bind_some, jlt_t, jlt_f, jlt, jle_t, jle_f, jle, jeq_t, jeq_f, jeq, ↓reduceIte, o100, l102, jlL, X12_within, bI_and]
  congr 3
  apply propext
  omega
theorem mStake (hV : BV (G 102)) {b : Int} (h1 : -2147483648 ≤ b) (h2 : b < 2147483648) : f_X12_isStake N 100 (jI b) (hp q G) = some (bI (0 ≤ b ∧ b < G 102 0), hp q G) := by
  have g := hV.1
  unfold f_X12_isStake
  simp (maxSteps := 2000000) (disch := first | assumption | omega) only [jI0, iAdd_j, iSub_j, iMul_j, iNeg_j, Option.bind_some, jlt_t, jlt_f, jlt, jle_t, jle_f, jle, jeq_t, jeq_f, jeq, ↓reduceIte, o100, l102, jlL, X12_within, bI_and]
  congr 3
  apply propext
  omega
theorem mCr (hV : BV (G 102)) {b : Int} (h1 : 0 ≤ b) (h2 : b < G 102 26) : f_X12_crossingsOf N 100 (jI b) (hp q G) = some (jI (sCr (G 102) b), hp q G) := by
  have g := hV.1
  unfold f_X12_crossingsOf sCr
  simp (maxSteps := 2000000) (disch := first | assumption | omega) only [jI0, iAdd_j, iSub_j, iMul_j, iNeg_j, Option.bind_some, jlt_t, jlt_f, jlt, jle_t, jle_f, jle, jeq_t, jeq_f, jeq, ↓reduceIte, o100, l102]
theorem mKindOf (hV : BV (G 102)) {b j : Int} (h1 : 0 ≤ b) (h2 : b < G 102 26) (h3 : 0 ≤ j) (h4 : j < 4) : f_X12_kindOf N 100 (jI b) (jI j) (hp q G) = some (jI (G 102 (83 + 4 * b + j)), hp q G) := by
  have g := hV.1
  unfold f_X12_kindOf
  simp (maxSteps := 2000000) (disch := first | assumption | omega) only [jI0, iAdd_j, iSub_j, iMul_j, iNeg_j, Option.bind_some, jlt_t, jlt_f, jlt, jle_t, jle_f, jle, jeq_t, jeq_f, jeq, ↓reduceIte, o100, l102]
theorem mAhead (hN : 10000 ≤ N) (hV : BV (G 102)) {b : Int} (h1 : 0 ≤ b) (h2 : b ≤ G 102 26) : f_X12_allAhead N 100 (jI b) (hp q G) = some (jI (sAh (G 102) b.toNat), hp q G) := by
  have g := hV.1
  unfold f_X12_allAhead
  refine loopE (fun n (s : Int × Int) => L_X12_allAhead_4 N n 100 (jI b) (jI s.1) (jI s.2) (hp q G)) (fun k => (sAh (G 102) k, (k : Int))) b.toNat (by omega) ?_ ?_
  · intro n k hk
    show L_X12_allAhead_4 N (n + 1) 100 (jI b) (jI _) (jI _) (hp q G) = L_X12_allAhead_4 N n 100 (jI b) (jI _) (jI _) (hp q G)
    rw [L_X12_allAhead_4]
    simp (maxSteps := 2000000) (disch := first | assumption | omega) only [jI0, iAdd_j, iSub_j, iMul_j, iNeg_j, Option.bind_some, jlt_t, jlt_f, jlt, jle_t, jle_f, jle, jeq_t, jeq_f, jeq, ↓reduceIte, o100, l102, mCr, sAh, sm, Int.natCast_succ]
  · intro n
    show L_X12_allAhead_4 N (n + 1) 100 (jI b) (jI _) (jI _) (hp q G) = _
    rw [L_X12_allAhead_4]
    simp (maxSteps := 2000000) (disch := first | assumption | omega) only [jI0, iAdd_j, iSub_j, iMul_j, iNeg_j, Option.bind_some, jlt_t, jlt_f, jlt, jle_t, jle_f, jle, jeq_t, jeq_f, jeq, ↓reduceIte, o100]
theorem mWhen (hN : 10000 ≤ N) (hV : BV (G 102)) {b j i : Int} (h1 : 0 ≤ b) (h2 : b < G 102 26) : f_X12_when N 100 (jI b) (jI j) (jI i) (hp q G) = some (jI (sWh (G 102) b j i), hp q G) := by
  have g := hV.1
  unfold f_X12_when sWh
  simp (maxSteps := 2000000) (disch := first | assumption | omega) only [jI0, iAdd_j, iSub_j, iMul_j, iNeg_j, Option.bind_some, jlt_t, jlt_f, jlt, jle_t, jle_f, jle, jeq_t, jeq_f, jeq, ↓reduceIte, o100, l102, mAhead]
theorem mStep (hV : BV (G 102)) {k : Int} (h1 : 0 ≤ k) (h2 : k < G 102 1) : f_X12_stepOf N 100 (jI k) (hp q G) = some (jI (sSt (G 102) (G 102 140) k), hp q G) := by
  have g := hV.1
  have f := hV.2.1 k h1 h2
  unfold f_X12_stepOf sSt
  by_cases c : G 102 (2 + k) - G 102 140 < 1
  · simp (maxSteps := 2000000) (disch := first | assumption | omega) only [jI0, iAdd_j, iSub_j, iMul_j, iNeg_j, Option.bind_some, jlt_t, jlt_f, jlt, jle_t, jle_f, jle, jeq_t, jeq_f, jeq, ↓reduceIte, o100, l102]
    rw [Int.max_eq_left (by omega)]
  · simp (maxSteps := 2000000) (disch := first | assumption | omega) only [jI0, iAdd_j, iSub_j, iMul_j, iNeg_j, Option.bind_some, jlt_t, jlt_f, jlt, jle_t, jle_f, jle, jeq_t, jeq_f, jeq, ↓reduceIte, o100, l102]
    rw [Int.max_eq_right (by omega)]
theorem mRods (hV : BV (G 102)) {k c : Int} (h1 : 0 ≤ k) (h2 : k < G 102 1) (h3 : 0 ≤ c) (h4 : c ≤ 1280) : f_X12_rodsFor N 100 (jI k) (jI c) (hp q G) = some (jI (sRd (G 102) (G 102 140) k c), hp q G) := by
  have g := hV.1
  have f := hV.2.1 k h1 h2
  have s := stF hV h1 h2 (lap := G 102 140) (by omega)
  unfold f_X12_rodsFor sRd
  by_cases d : 0 < c - G 102 (2 + k)
  · simp (maxSteps := 2000000) (disch := first | assumption | omega) only [jI0, iAdd_j, iSub_j, iMul_j, iNeg_j, Option.bind_some, jlt_t, jlt_f, jlt, jle_t, jle_f, jle, jeq_t, jeq_f, jeq, ↓reduceIte, o100, l102, mStep, iDiv_j, d]
  · simp (maxSteps := 2000000) (disch := first | assumption | omega) only [jI0, iAdd_j, iSub_j, iMul_j, iNeg_j, Option.bind_some, jlt_t, jlt_f, jlt, jle_t, jle_f, jle, jeq_t, jeq_f, jeq, ↓reduceIte, o100, l102, mStep, iDiv_j, d]
theorem oRods (hB : BB G) {k lap c : Int} (h1 : 0 ≤ k) (h2 : k < G 102 1) (h3 : 0 ≤ lap) (h3' : lap ≤ 20) (h4 : 0 ≤ c) (h5 : c ≤ 1280) : f_X0_rodsFor N 2 (jI k) (jI lap) (jI c) (hp q G) = some (jI (sRd (G 102) lap k c), hp q G) := by
  have f := hB.1.2.1 k h1 h2
  have s := stF hB.1 h1 h2 h3
  unfold f_X0_rodsFor sRd
  by_cases d : 0 < c - G 102 (2 + k)
  · simp (maxSteps := 2000000) (disch := first | assumption | omega) only [jI0, iAdd_j, iSub_j, iMul_j, iNeg_j, Option.bind_some, jlt_t, jlt_f, jlt, jle_t, jle_f, jle, jeq_t, jeq_f, jeq, ↓reduceIte, o2, oKind, oStep, iDiv_j, d]
  · simp (maxSteps := 2000000) (disch := first | assumption | omega) only [jI0, iAdd_j, iSub_j, iMul_j, iNeg_j, Option.bind_some, jlt_t, jlt_f, jlt, jle_t, jle_f, jle, jeq_t, jeq_f, jeq, ↓reduceIte, o2, oKind, oStep, iDiv_j, d]
theorem raF {A : Int → Int} (hV : BV A) {b j i : Int} (h1 : 0 ≤ b) (h2 : b < A 26) (h3 : 0 ≤ j) (h4 : j < A (27 + b)) (h5 : 0 ≤ i) (h6 : i < sCr A b) : (0 ≤ i / sSt A (A 140) (A (83 + 4 * b + j)) ∧ i / sSt A (A 140) (A (83 + 4 * b + j)) ≤ 1280) ∧ 0 ≤ sRa A b j i ∧ sRa A b j i ≤ 1280 := by
  have g := hV.1
  have c := crF hV h1 h2
  have k := hV.2.2.2.1 b j h1 h2 h3 h4
  have s := stF hV k.1 k.2 (lap := A 140) (by omega)
  have r := rdF hV k.1 k.2 (lap := A 140) (c := sCr A b) (by omega) (by omega) (by omega)
  have e1 : 0 ≤ i / sSt A (A 140) (A (83 + 4 * b + j)) := Int.ediv_nonneg (by omega) (by omega)
  have e2 : i / sSt A (A 140) (A (83 + 4 * b + j)) ≤ i := Int.ediv_le_self _ (by omega)
  unfold sRa
  omega
theorem mRodAt (hV : BV (G 102)) {b j i : Int} (h1 : 0 ≤ b) (h2 : b < G 102 26) (h3 : 0 ≤ j) (h4 : j < G 102 (27 + b)) (h5 : 0 ≤ i) (h6 : i < sCr (G 102) b) : f_X12_rodAt N 100 (jI b) (jI j) (jI i) (hp q G) = some (jI (sRa (G 102) b j i), hp q G) := by
  have g := hV.1
  have w := hV.2.2.1 b h1 h2
  have c := crF hV h1 h2
  have k := hV.2.2.2.1 b j h1 h2 h3 h4
  have s := stF hV k.1 k.2 (lap := G 102 140) (by omega)
  have r := rdF hV k.1 k.2 (lap := G 102 140) (c := sCr (G 102) b) (by omega) (by omega) (by omega)
  have e := raF hV h1 h2 h3 h4 h5 h6
  unfold f_X12_rodAt sRa
  by_cases d : sRd (G 102) (G 102 140) (G 102 (83 + 4 * b + j)) (sCr (G 102) b) - 1 < i / sSt (G 102) (G 102 140) (G 102 (83 + 4 * b + j))
  · simp (maxSteps := 2000000) (disch := first | assumption | omega) only [jI0, iAdd_j, iSub_j, iMul_j, iNeg_j, Option.bind_some, jlt_t, jlt_f, jlt, jle_t, jle_f, jle, jeq_t, jeq_f, jeq, ↓reduceIte, o100, l102, mKindOf, mStep, mRods, mCr, iDiv_j]
    rw [Int.min_eq_right (by omega)]
  · simp (maxSteps := 2000000) (disch := first | assumption | omega) only [jI0, iAdd_j, iSub_j, iMul_j, iNeg_j, Option.bind_some, jlt_t, jlt_f, jlt, jle_t, jle_f, jle, jeq_t, jeq_f, jeq, ↓reduceIte, o100, l102, mKindOf, mStep, mRods, mCr, iDiv_j]
    rw [Int.min_eq_left (by omega)]
theorem oRodAt (hB : BB G) {b j i : Int} (h1 : 0 ≤ b) (h2 : b < G 102 26) (h3 : 0 ≤ j) (h4 : j < G 102 (27 + b)) (h5 : 0 ≤ i) (h6 : i < sCr (G 102) b) : f_X0_rodAt N 2 (jI b) (jI j) (jI i) (hp q G) = some (jI (sRa (G 102) b j i), hp q G) := by
  have g := hB.1.1
  have c := crF hB.1 h1 h2
  have k := hB.1.2.2.2.1 b j h1 h2 h3 h4
  have s := stF hB.1 k.1 k.2 (lap := G 102 140) (by omega)
  have r := rdF hB.1 k.1 k.2 (lap := G 102 140) (c := sCr (G 102) b) (by omega) (by omega) (by omega)
  have e := raF hB.1 h1 h2 h3 h4 h5 h6
  unfold f_X0_rodAt sRa
  simp (maxSteps := 2000000) (disch := first | assumption | omega) only [jI0, iAdd_j, iSub_j, iMul_j, iNeg_j, Option.bind_some, jlt_t, jlt_f, jlt, jle_t, jle_f, jle, jeq_t, jeq_f, jeq, ↓reduceIte, o2, hB.2.1, oKindOf, oStep, oRods, oCr, iDiv_j, iMin_j]
theorem mStakeAt (hV : BV (G 102)) {b j i : Int} (h1 : 0 ≤ b) (h2 : b < G 102 26) (h3 : 0 ≤ j) (h4 : j < 4) (h5 : 0 ≤ i) (h6 : i ≤ 1280) : f_X12_stakeAt N 100 (jI b) (jI j) (jI i) (hp q G) = some (jI (sSa (G 102) b j i), hp q G) := by
  have g := hV.1
  have w := hV.2.2.1 b h1 h2
  unfold f_X12_stakeAt sSa
  by_cases c : G 102 (67 + b) = 1
  · simp (maxSteps := 2000000) (disch := first | assumption | omega) only [jI0, iAdd_j, iSub_j, iMul_j, iNeg_j, Option.bind_some, jlt_t, jlt_f, jlt, jle_t, jle_f, jle, jeq_t, jeq_f, jeq, ↓reduceIte, o100, l102, X12_round, c]
  · simp (maxSteps := 2000000) (disch := first | assumption | omega) only [jI0, iAdd_j, iSub_j, iMul_j, iNeg_j, Option.bind_some, jlt_t, jlt_f, jlt, jle_t, jle_f, jle, jeq_t, jeq_f, jeq, ↓reduceIte, o100, l102, X12_round, c]
theorem oStakeAt (hB : BB G) {b j i : Int} (h1 : 0 ≤ b) (h2 : b < G 102 26) (h3 : 0 ≤ j) (h4 : j < 4) (h5 : 0 ≤ i) (h6 : i ≤ 1280) : f_X0_stakeAt N 2 (jI b) (jI j) (jI i) (hp q G) = some (jI (sSa (G 102) b j i), hp q G) := by
  have g := hB.1.1
  have w := hB.1.2.2.1 b h1 h2
  unfold f_X0_stakeAt sSa
  by_cases c : G 102 (67 + b) = 1
  · simp (maxSteps := 2000000) (disch := first | assumption | omega) only [jI0, iAdd_j, iSub_j, iMul_j, iNeg_j, Option.bind_some, jlt_t, jlt_f, jlt, jle_t, jle_f, jle, jeq_t, jeq_f, jeq, ↓reduceIte, o2, oBand, oRing, J9_floorMod, c]
  · simp (maxSteps := 2000000) (disch := first | assumption | omega) only [jI0, iAdd_j, iSub_j, iMul_j, iNeg_j, Option.bind_some, jlt_t, jlt_f, jlt, jle_t, jle_f, jle, jeq_t, jeq_f, jeq, ↓reduceIte, o2, oBand, oRing, J9_floorMod, c]
theorem oOff (hB : BB G) {b j s : Int} (h1 : 0 ≤ b) (h2 : b < G 102 26) (h3 : 0 ≤ j) (h4 : j < 4) (h5 : 0 ≤ s) (h6 : s < G 102 0) : f_X0_offsetOf N 2 (jI b) (jI j) (jI s) (hp q G) = some (jI (sOf (G 102) b j s), hp q G) := by
  have g := hB.1.1
  have w := hB.1.2.2.1 b h1 h2
  unfold f_X0_offsetOf sOf
  by_cases c : G 102 (67 + b) = 1
  · simp (maxSteps := 2000000) (disch := first | assumption | omega) only [jI0, iAdd_j, iSub_j, iMul_j, iNeg_j, Option.bind_some, jlt_t, jlt_f, jlt, jle_t, jle_f, jle, jeq_t, jeq_f, jeq, ↓reduceIte, o2, oBand, oRing, J9_floorMod, c]
  · simp (maxSteps := 2000000) (disch := first | assumption | omega) only [jI0, iAdd_j, iSub_j, iMul_j, iNeg_j, Option.bind_some, jlt_t, jlt_f, jlt, jle_t, jle_f, jle, jeq_t, jeq_f, jeq, ↓reduceIte, o2, oBand, oRing, J9_floorMod, c]
theorem mIndex (hV : BV (G 102)) {b j r s : Int} (h1 : 0 ≤ b) (h2 : b < G 102 26) (h3 : 0 ≤ j) (h4 : j < 4) (h5 : 0 ≤ s) (h6 : s < G 102 0) : f_X12_indexAt N 100 (jI b) (jI j) (jI r) (jI s) (hp q G) = some (jI (r * G 102 0 + sOf (G 102) b j s), hp q G) := by
  have g := hV.1
  have w := hV.2.2.1 b h1 h2
  unfold f_X12_indexAt sOf J_X12_indexAt_44
  by_cases c : G 102 (67 + b) = 1
  · simp (maxSteps := 2000000) (disch := first | assumption | omega) only [jI0, iAdd_j, iSub_j, iMul_j, iNeg_j, Option.bind_some, jlt_t, jlt_f, jlt, jle_t, jle_f, jle, jeq_t, jeq_f, jeq, ↓reduceIte, o100, l102, X12_round, c]
  · simp (maxSteps := 2000000) (disch := first | assumption | omega) only [jI0, iAdd_j, iSub_j, iMul_j, iNeg_j, Option.bind_some, jlt_t, jlt_f, jlt, jle_t, jle_f, jle, jeq_t, jeq_f, jeq, ↓reduceIte, o100, l102, X12_round, c]
theorem mPlace (hN : 10000 ≤ N) (hV : BV (G 102)) {b j i : Int} (hb : -2147483648 ≤ b ∧ b < 2147483648) (hj : -2147483648 ≤ j ∧ j < 2147483648) (hi : -2147483648 ≤ i ∧ i < 2147483648) : f_X12_placeIn N 100 (jI b) (jI j) (jI i) (hp q G) = some (jI (sPl (G 102) b j i), hp q G) := by
  have g := hV.1
  unfold f_X12_placeIn sPl
  refine Eq.trans ?_ (loopE (N := N) (fun n (s : Int × Int) => L_X12_placeIn_6 N n 100 (jI b) (jI j) (jI i) (jI s.1) (jI s.2) (hp q G)) (fun k => (i + sm (fun s => if G 102 (116 + s) = b ∧ G 102 (124 + s) = j ∧ G 102 (132 + s) ≤ i then 1 else 0) k, (k : Int))) (G 102 115).toNat (by omega) ?_ ?_)
  · show _ = L_X12_placeIn_6 N N 100 (jI b) (jI j) (jI i) (jI (i + 0)) (jI 0) (hp q G)
    rw [Int.add_zero]
  · intro n k hk
    have v := hV.2.2.2.2 k (by omega) (by omega)
    show L_X12_placeIn_6 N (n + 1) 100 (jI b) (jI j) (jI i) (jI _) (jI _) (hp q G) = L_X12_placeIn_6 N n 100 (jI b) (jI j) (jI i) (jI _) (jI _) (hp q G)
    rw [L_X12_placeIn_6]
    simp only [sm]
    by_cases c1 : G 102 (116 + k) = b
    · by_cases c2 : G 102 (124 + k) = j
      · by_cases c3 : G 102 (132 + k) ≤ i
        · rw [if_pos ⟨c1, c2, c3⟩]
          simp (maxSteps := 2000000) (disch := first | assumption | omega) only [jI0, iAdd_j, iSub_j, iMul_j, iNeg_j, Option.bind_some, jlt_t, jlt_f, jlt, jle_t, jle_f, jle, jeq_t, jeq_f, jeq, ↓reduceIte, o100, l102, Int.natCast_succ, Int.add_assoc]
        · rw [if_neg (fun h => c3 h.2.2)]
          simp (maxSteps := 2000000) (disch := first | assumption | omega) only [jI0, iAdd_j, iSub_j, iMul_j, iNeg_j, Option.bind_some, jlt_t, jlt_f, jlt, jle_t, jle_f, jle, jeq_t, jeq_f, jeq, ↓reduceIte, o100, l102, Int.natCast_succ, Int.add_zero]
      · rw [if_neg (fun h => c2 h.2.1)]
        simp (maxSteps := 2000000) (disch := first | assumption | omega) only [jI0, iAdd_j, iSub_j, iMul_j, iNeg_j, Option.bind_some, jlt_t, jlt_f, jlt, jle_t, jle_f, jle, jeq_t, jeq_f, jeq, ↓reduceIte, o100, l102, Int.natCast_succ, Int.add_zero]
    · rw [if_neg (fun h => c1 h.1)]
      simp (maxSteps := 2000000) (disch := first | assumption | omega) only [jI0, iAdd_j, iSub_j, iMul_j, iNeg_j, Option.bind_some, jlt_t, jlt_f, jlt, jle_t, jle_f, jle, jeq_t, jeq_f, jeq, ↓reduceIte, o100, l102, Int.natCast_succ, Int.add_zero]
  · intro n
    show L_X12_placeIn_6 N (n + 1) 100 (jI b) (jI j) (jI i) (jI _) (jI _) (hp q G) = _
    rw [L_X12_placeIn_6]
    simp (maxSteps := 2000000) (disch := first | assumption | omega) only [jI0, iAdd_j, iSub_j, iMul_j, iNeg_j, Option.bind_some, jlt_t, jlt_f, jlt, jle_t, jle_f, jle, jeq_t, jeq_f, jeq, ↓reduceIte, o100, l102]
theorem plF {A : Int → Int} (hV : BV A) {b j i : Int} : i ≤ sPl A b j i ∧ sPl A b j i ≤ i + 8 := by
  have g := hV.1
  have := sm_le (f := fun s => if A (116 + s) = b ∧ A (124 + s) = j ∧ A (132 + s) ≤ i then 1 else 0) (c := 1) (n := (A 115).toNat) (fun k _ => by split <;> omega)
  unfold sPl
  omega
theorem mOver (hN : 10000 ≤ N) (hV : BV (G 102)) {b j i : Int} (h1 : 0 ≤ b) (h2 : b < G 102 26) (h3 : 0 ≤ j) (h4 : j < 4) (h5 : 0 ≤ i) (h6 : i ≤ 1280) : f_X12_isOver N 100 (jI b) (jI j) (jI i) (hp q G) = some (bI (sOv (G 102) b j i = true), hp q G) := by
  have g := hV.1
  have w := hV.2.2.1 b h1 h2
  have p := plF hV (b := b) (j := j) (i := i)
  have m0 := Int.emod_nonneg (sPl (G 102) b j i) (show G 102 (35 + b) + G 102 (43 + b) ≠ 0 by omega)
  have m1 := Int.emod_lt_of_pos (sPl (G 102) b j i) (show 0 < G 102 (35 + b) + G 102 (43 + b) by omega)
  unfold f_X12_isOver sOv
  simp only [decide_eq_true_eq]
  by_cases c : sPl (G 102) b j i % (G 102 (35 + b) + G 102 (43 + b)) < G 102 (35 + b)
  · simp (maxSteps := 2000000) (disch := first | assumption | omega) only [jI0, iAdd_j, iSub_j, iMul_j, iNeg_j, Option.bind_some, jlt_t, jlt_f, jlt, jle_t, jle_f, jle, jeq_t, jeq_f, jeq, ↓reduceIte, o100, l102, mPlace, iRem_p, bI_t]
  · simp (maxSteps := 2000000) (disch := first | assumption | omega) only [jI0, iAdd_j, iSub_j, iMul_j, iNeg_j, Option.bind_some, jlt_t, jlt_f, jlt, jle_t, jle_f, jle, jeq_t, jeq_f, jeq, ↓reduceIte, o100, l102, mPlace, iRem_p, bI_f]
end
