/-! the component's BASKET, by the model's numbers -/
def BB (G : Nat → Int → Int) : Prop := BV (G 102) ∧ BR (G 2) (G 3) (G 4) (G 5) (G 102)
theorem mulB {a b c d : Int} (h0 : 0 ≤ a) (h1 : a ≤ c) (h2 : 0 ≤ b) (h3 : b ≤ d) : 0 ≤ a * b ∧ a * b ≤ c * d := ⟨Int.mul_nonneg h0 h2, Int.mul_le_mul h1 h3 h2 (by omega)⟩
/-- CROSSINGS of a band's weaver -/
def sCr (A : Int → Int) (b : Int) : Int := A (51 + b) * A 0
theorem crF {A : Int → Int} {b : Int} (h : BV A) (h0 : 0 ≤ b) (h1 : b < A 26) : 0 < sCr A b ∧ sCr A b ≤ 1280 := by
  have g := h.1
  have f := h.2.2.1 b h0 h1
  have := mulB (a := A (51 + b)) (b := A 0) (c := 40) (d := 32) (by omega) (by omega) (by omega) (by omega)
  have p := Int.mul_pos (show 0 < A (51 + b) by omega) (show 0 < A 0 by omega)
  unfold sCr
  omega
/-- what all weavers of the bands ahead weave -/
def sAh (A : Int → Int) (n : Nat) : Int := sm (fun k => A (27 + k) * sCr A k) n
theorem ahF {A : Int → Int} (h : BV A) {n : Nat} (hn : (n : Int) ≤ A 26) : 0 ≤ sAh A n ∧ sAh A n ≤ 5120 * n := by
  apply sm_le
  intro k hk
  have f := h.2.2.1 k (by omega) (by omega)
  have c := crF h (b := k) (by omega) (by omega)
  have := mulB (a := A (27 + k)) (b := sCr A k) (c := 4) (d := 1280) (by omega) (by omega) (by omega) (by omega)
  omega
def sWh (A : Int → Int) (b j i : Int) : Int := sAh A b.toNat + i * A (27 + b) + j
def sSt (A : Int → Int) (lap k : Int) : Int := max 1 (A (2 + k) - lap)
def sRd (A : Int → Int) (lap k c : Int) : Int := if 0 < c - A (2 + k) then 1 + (c - A (2 + k) + sSt A lap k - 1) / sSt A lap k else 1
section
variable {q : Nat × Nat × (Nat → Nat)} {G : Nat → Int → Int} {N : Nat}
theorem hBand (hB : BB G) {b : Int} (h1 : -2147483648 ≤ b) (h2 : b < 2147483648) : f_X0_hasBand N 2 (jI b) (hp q G) = some (bI (0 ≤ b ∧ b < G 102 26), hp q G) := by
  have g := hB.1.1
  have e := hB.2.1.2.2.1
  rw [X0_hasBand h1 h2 (by omega) (by omega)]
  simp only [e]
theorem hKind (hB : BB G) {b : Int} (h1 : -2147483648 ≤ b) (h2 : b < 2147483648) : f_X0_hasKind N 2 (jI b) (hp q G) = some (bI (0 ≤ b ∧ b < G 102 1), hp q G) := by
  have g := hB.1.1
  unfold f_X0_hasKind
  by_cases c1 : b < 0
  · simp (maxSteps := 2000000) (disch := first | assumption | omega) only [jI0, iAdd_j, iSub_j, iMul_j, iNeg_j, Option.bind_some, jlt_t, jlt_f, jlt, jle_t, jle_f, jle, jeq_t, jeq_f, jeq, ↓reduceIte, o2, bI_f, hB.2.1]
  · by_cases c2 : b < G 102 1
    · simp (maxSteps := 2000000) (disch := first | assumption | omega) only [jI0, iAdd_j, iSub_j, iMul_j, iNeg_j, Option.bind_some, jlt_t, jlt_f, jlt, jle_t, jle_f, jle, jeq_t, jeq_f, jeq, ↓reduceIte, o2, bI_t, hB.2.1]
    · simp (maxSteps := 2000000) (disch := first | assumption | omega) only [jI0, iAdd_j, iSub_j, iMul_j, iNeg_j, Option.bind_some, jlt_t, jlt_f, jlt, jle_t, jle_f, jle, jeq_t, jeq_f, jeq, ↓reduceIte, o2, bI_f, hB.2.1]
theorem hStake (hB : BB G) {b : Int} (h1 : -2147483648 ≤ b) (h2 : b < 2147483648) : f_X0_hasStake N 2 (jI b) (hp q G) = some (bI (0 ≤ b ∧ b < G 102 0), hp q G) := by
  have g := hB.1.1
  unfold f_X0_hasStake
  by_cases c1 : b < 0
  · simp (maxSteps := 2000000) (disch := first | assumption | omega) only [jI0, iAdd_j, iSub_j, iMul_j, iNeg_j, Option.bind_some, jlt_t, jlt_f, jlt, jle_t, jle_f, jle, jeq_t, jeq_f, jeq, ↓reduceIte, o2, bI_f, hB.2.1]
  · by_cases c2 : b < G 102 0
    · simp (maxSteps := 2000000) (disch := first | assumption | omega) only [jI0, iAdd_j, iSub_j, iMul_j, iNeg_j, Option.bind_some, jlt_t, jlt_f, jlt, jle_t, jle_f, jle, jeq_t, jeq_f, jeq, ↓reduceIte, o2, bI_t, hB.2.1]
    · simp (maxSteps := 2000000) (disch := first | assumption | omega) only [jI0, iAdd_j, iSub_j, iMul_j, iNeg_j, Option.bind_some, jlt_t, jlt_f, jlt, jle_t, jle_f, jle, jeq_t, jeq_f, jeq, ↓reduceIte, o2, bI_f, hB.2.1]
/-- a band's numbers -/
theorem oBand (hB : BB G) {b : Int} (h1 : 0 ≤ b) (h2 : b < G 102 26) : f_X0_ofBand N 2 (jI b) (jI 0) (hp q G) = some (jI (G 102 (27 + b)), hp q G) ∧ f_X0_ofBand N 2 (jI b) (jI 1) (hp q G) = some (jI (G 102 (35 + b)), hp q G) ∧ f_X0_ofBand N 2 (jI b) (jI 2) (hp q G) = some (jI (G 102 (43 + b)), hp q G) ∧ f_X0_ofBand N 2 (jI b) (jI 3) (hp q G) = some (jI (G 102 (51 + b)), hp q G) ∧ f_X0_ofBand N 2 (jI b) (jI 4) (hp q G) = some (jI (G 102 (59 + b)), hp q G) ∧ f_X0_ofBand N 2 (jI b) (jI 5) (hp q G) = some (jI (G 102 (67 + b)), hp q G) ∧ f_X0_ofBand N 2 (jI b) (jI 6) (hp q G) = some (jI (G 102 (75 + b)), hp q G) := by
  have g := hB.1.1
  have e := fun w h0 h1' => hB.2.2.2.1 b w h1 h2 h0 h1'
  refine ⟨?_, ?_, ?_, ?_, ?_, ?_, ?_⟩ <;> rw [X0_ofBand h1 (by omega) (by omega) (by omega), e _ (by omega) (by omega)] <;> rfl
theorem oKindOf (hB : BB G) {b j : Int} (h1 : 0 ≤ b) (h2 : b < G 102 26) (h3 : 0 ≤ j) (h4 : j < G 102 (27 + b)) : f_X0_kindOf N 2 (jI b) (jI j) (hp q G) = some (jI (G 102 (83 + 4 * b + j)), hp q G) := by
  have g := hB.1.1
  have f := hB.1.2.2.1 b h1 h2
  have e := hB.2.2.2.2.1 b j h1 h2 h3 h4
  unfold f_X0_kindOf
  simp (maxSteps := 2000000) (disch := first | assumption | omega) only [jI0, iAdd_j, iSub_j, iMul_j, iNeg_j, Option.bind_some, jlt_t, jlt_f, jlt, jle_t, jle_f, jle, jeq_t, jeq_f, jeq, ↓reduceIte, o2, X0_ofBand, e]
theorem oKind (hB : BB G) {k : Int} (h1 : 0 ≤ k) (h2 : k < G 102 1) : f_X0_ofKind N 2 (jI k) (jI 0) (hp q G) = some (jI (G 102 (2 + k)), hp q G) ∧ f_X0_ofKind N 2 (jI k) (jI 1) (hp q G) = some (jI (G 102 (8 + k)), hp q G) ∧ f_X0_ofKind N 2 (jI k) (jI 2) (hp q G) = some (jI (G 102 (14 + k)), hp q G) ∧ f_X0_ofKind N 2 (jI k) (jI 3) (hp q G) = some (jI (G 102 (20 + k)), hp q G) := by
  have g := hB.1.1
  have e := fun w h0 h1' => hB.2.2.1 k w h1 h2 h0 h1'
  unfold f_X0_ofKind
  refine ⟨?_, ?_, ?_, ?_⟩ <;> simp (maxSteps := 2000000) (disch := first | assumption | omega) only [jI0, iAdd_j, iSub_j, iMul_j, iNeg_j, Option.bind_some, jlt_t, jlt_f, jlt, jle_t, jle_f, jle, jeq_t, jeq_f, jeq, ↓reduceIte, o2, n3, l3, e] <;> rfl
theorem oCr (hB : BB G) {b : Int} (h1 : 0 ≤ b) (h2 : b < G 102 26) : f_X0_crossingsOf N 2 (jI b) (hp q G) = some (jI (sCr (G 102) b), hp q G) := by
  unfold f_X0_crossingsOf sCr
  simp (maxSteps := 2000000) (disch := first | assumption | omega) only [jI0, iAdd_j, iSub_j, iMul_j, iNeg_j, Option.bind_some, jlt_t, jlt_f, jlt, jle_t, jle_f, jle, jeq_t, jeq_f, jeq, ↓reduceIte, o2, oBand, hB.2.1]
theorem hWeaver (hB : BB G) {b j : Int} (h1 : -2147483648 ≤ b) (h2 : b < 2147483648) (h3 : -2147483648 ≤ j) (h4 : j < 2147483648) : f_X0_hasWeaver N 2 (jI b) (jI j) (hp q G) = some (bI ((0 ≤ b ∧ b < G 102 26) ∧ 0 ≤ j ∧ j < G 102 (27 + b)), hp q G) := by
  have g := hB.1.1
  unfold f_X0_hasWeaver
  by_cases c1 : 0 ≤ b ∧ b < G 102 26
  · have f := hB.1.2.2.1 b c1.1 c1.2
    by_cases c2 : j < 0
    · simp (maxSteps := 2000000) (disch := first | assumption | omega) only [jI0, iAdd_j, iSub_j, iMul_j, iNeg_j, Option.bind_some, jlt_t, jlt_f, jlt, jle_t, jle_f, jle, jeq_t, jeq_f, jeq, ↓reduceIte, o2, hBand, bI_t, bI_f]
    · by_cases c3 : j < G 102 (27 + b)
      · simp (maxSteps := 2000000) (disch := first | assumption | omega) only [jI0, iAdd_j, iSub_j, iMul_j, iNeg_j, Option.bind_some, jlt_t, jlt_f, jlt, jle_t, jle_f, jle, jeq_t, jeq_f, jeq, ↓reduceIte, o2, hBand, oBand, bI_t, bI_f]
      · simp (maxSteps := 2000000) (disch := first | assumption | omega) only [jI0, iAdd_j, iSub_j, iMul_j, iNeg_j, Option.bind_some, jlt_t, jlt_f, jlt, jle_t, jle_f, jle, jeq_t, jeq_f, jeq, ↓reduceIte, o2, hBand, oBand, bI_t, bI_f]
  · simp (maxSteps := 2000000) (disch := first | assumption | omega) only [jI0, iAdd_j, iSub_j, iMul_j, iNeg_j, Option.bind_some, jlt_t, jlt_f, jlt, jle_t, jle_f, jle, jeq_t, jeq_f, jeq, ↓reduceIte, o2, hBand, bI_t, bI_f]
theorem hCross (hB : BB G) {b j i : Int} (h1 : -2147483648 ≤ b) (h2 : b < 2147483648) (h3 : -2147483648 ≤ j) (h4 : j < 2147483648) (h5 : -2147483648 ≤ i) (h6 : i < 2147483648) : f_X0_hasCrossing N 2 (jI b) (jI j) (jI i) (hp q G) = some (bI (((0 ≤ b ∧ b < G 102 26) ∧ 0 ≤ j ∧ j < G 102 (27 + b)) ∧ 0 ≤ i ∧ i < sCr (G 102) b), hp q G) := by
  have g := hB.1.1
  unfold f_X0_hasCrossing
  by_cases c1 : (0 ≤ b ∧ b < G 102 26) ∧ 0 ≤ j ∧ j < G 102 (27 + b)
  · have f := crF hB.1 c1.1.1 c1.1.2
    by_cases c2 : i < 0
    · simp (maxSteps := 2000000) (disch := first | assumption | omega) only [jI0, iAdd_j, iSub_j, iMul_j, iNeg_j, Option.bind_some, jlt_t, jlt_f, jlt, jle_t, jle_f, jle, jeq_t, jeq_f, jeq, ↓reduceIte, o2, hWeaver, bI_t, bI_f]
    · by_cases c3 : i < sCr (G 102) b
      · simp (maxSteps := 2000000) (disch := first | assumption | omega) only [jI0, iAdd_j, iSub_j, iMul_j, iNeg_j, Option.bind_some, jlt_t, jlt_f, jlt, jle_t, jle_f, jle, jeq_t, jeq_f, jeq, ↓reduceIte, o2, hWeaver, oCr, bI_t, bI_f]
      · simp (maxSteps := 2000000) (disch := first | assumption | omega) only [jI0, iAdd_j, iSub_j, iMul_j, iNeg_j, Option.bind_some, jlt_t, jlt_f, jlt, jle_t, jle_f, jle, jeq_t, jeq_f, jeq, ↓reduceIte, o2, hWeaver, oCr, bI_t, bI_f]
  · simp (maxSteps := 2000000) (disch := first | assumption | omega) only [jI0, iAdd_j, iSub_j, iMul_j, iNeg_j, Option.bind_some, jlt_t, jlt_f, jlt, jle_t, jle_f, jle, jeq_t, jeq_f, jeq, ↓reduceIte, o2, hWeaver, bI_t, bI_f]
theorem oRing (hB : BB G) (h : 0 < G 102 0) : f_X0_ring N 2 (hp q G) = some (jI (G 102 0), hp q G) := by
  have g := hB.1.1
  unfold f_X0_ring
  simp (maxSteps := 2000000) (disch := first | assumption | omega) only [jI0, iAdd_j, iSub_j, iMul_j, iNeg_j, Option.bind_some, jlt_t, jlt_f, jlt, jle_t, jle_f, jle, jeq_t, jeq_f, jeq, ↓reduceIte, o2, hB.2.1, iMax_j]
  rw [Int.max_eq_right (by omega)]
theorem oWv (hB : BB G) {b : Int} (h1 : 0 ≤ b) (h2 : b < G 102 26) : f_X0_weaversOf N 2 (jI b) (hp q G) = some (jI (G 102 (27 + b)), hp q G) := by
  have f := hB.1.2.2.1 b h1 h2
  unfold f_X0_weaversOf
  simp (maxSteps := 2000000) (disch := first | assumption | omega) only [jI0, iAdd_j, iSub_j, iMul_j, iNeg_j, Option.bind_some, jlt_t, jlt_f, jlt, jle_t, jle_f, jle, jeq_t, jeq_f, jeq, ↓reduceIte, o2, oBand, iMax_j]
  rw [Int.max_eq_right (by omega)]
theorem oPer (hB : BB G) {b : Int} (h1 : 0 ≤ b) (h2 : b < G 102 26) : f_X0_periodOf N 2 (jI b) (hp q G) = some (jI (G 102 (35 + b) + G 102 (43 + b)), hp q G) := by
  have f := hB.1.2.2.1 b h1 h2
  unfold f_X0_periodOf
  simp (maxSteps := 2000000) (disch := first | assumption | omega) only [jI0, iAdd_j, iSub_j, iMul_j, iNeg_j, Option.bind_some, jlt_t, jlt_f, jlt, jle_t, jle_f, jle, jeq_t, jeq_f, jeq, ↓reduceIte, o2, oBand, iMax_j]
  rw [Int.max_eq_right (by omega)]
theorem oRows (hB : BB G) {b : Int} (h1 : 0 ≤ b) (h2 : b < G 102 26) : f_X0_rowsOf N 2 (jI b) (hp q G) = some (jI (G 102 (27 + b) * G 102 (51 + b)), hp q G) := by
  unfold f_X0_rowsOf
  simp (maxSteps := 2000000) (disch := first | assumption | omega) only [jI0, iAdd_j, iSub_j, iMul_j, iNeg_j, Option.bind_some, jlt_t, jlt_f, jlt, jle_t, jle_f, jle, jeq_t, jeq_f, jeq, ↓reduceIte, o2, oBand]
theorem oAhead (hN : 10000 ≤ N) (hB : BB G) {b : Int} (h1 : 0 ≤ b) (h2 : b ≤ G 102 26) : f_X0_aheadOf N 2 (jI b) (hp q G) = some (jI (sAh (G 102) b.toNat), hp q G) := by
  have g := hB.1.1
  unfold f_X0_aheadOf
  refine loopE (fun n (s : Int × Int) => L_X0_aheadOf_4 N n 2 (jI b) (jI s.1) (jI s.2) (hp q G)) (fun k => (sAh (G 102) k, (k : Int))) b.toNat (by omega) ?_ ?_
  · intro n k hk
    show L_X0_aheadOf_4 N (n + 1) 2 (jI b) (jI _) (jI _) (hp q G) = L_X0_aheadOf_4 N n 2 (jI b) (jI _) (jI _) (hp q G)
    rw [L_X0_aheadOf_4]
    simp (maxSteps := 2000000) (disch := first | assumption | omega) only [jI0, iAdd_j, iSub_j, iMul_j, iNeg_j, Option.bind_some, jlt_t, jlt_f, jlt, jle_t, jle_f, jle, jeq_t, jeq_f, jeq, ↓reduceIte, o2, hB.2.1, oBand, oCr, sAh, sm, Int.natCast_succ]
  · intro n
    show L_X0_aheadOf_4 N (n + 1) 2 (jI b) (jI _) (jI _) (hp q G) = _
    rw [L_X0_aheadOf_4]
    simp (maxSteps := 2000000) (disch := first | assumption | omega) only [jI0, iAdd_j, iSub_j, iMul_j, iNeg_j, Option.bind_some, jlt_t, jlt_f, jlt, jle_t, jle_f, jle, jeq_t, jeq_f, jeq, ↓reduceIte, o2]
theorem oWhen (hN : 10000 ≤ N) (hB : BB G) {b j i : Int} (h1 : 0 ≤ b) (h2 : b < G 102 26) : f_X0_whenOf N 2 (jI b) (jI j) (jI i) (hp q G) = some (jI (sWh (G 102) b j i), hp q G) := by
  unfold f_X0_whenOf sWh
  simp (maxSteps := 2000000) (disch := first | assumption | omega) only [jI0, iAdd_j, iSub_j, iMul_j, iNeg_j, Option.bind_some, jlt_t, jlt_f, jlt, jle_t, jle_f, jle, jeq_t, jeq_f, jeq, ↓reduceIte, o2, oAhead, oBand]
theorem oAll (hN : 10000 ≤ N) (hB : BB G) : f_X0_allCrossings N 2 (hp q G) = some (jI (sAh (G 102) (G 102 26).toNat), hp q G) := by
  have g := hB.1.1
  unfold f_X0_allCrossings
  simp (maxSteps := 2000000) (disch := first | assumption | omega) only [jI0, iAdd_j, iSub_j, iMul_j, iNeg_j, Option.bind_some, jlt_t, jlt_f, jlt, jle_t, jle_f, jle, jeq_t, jeq_f, jeq, ↓reduceIte, o2, hB.2.1, oAhead]
theorem oStep (hB : BB G) {k lap : Int} (h1 : 0 ≤ k) (h2 : k < G 102 1) (h3 : 0 ≤ lap) (h4 : lap ≤ 20) : f_X0_rodStep N 2 (jI k) (jI lap) (hp q G) = some (jI (sSt (G 102) lap k), hp q G) := by
  have f := hB.1.2.1 k h1 h2
  unfold f_X0_rodStep sSt
  simp (maxSteps := 2000000) (disch := first | assumption | omega) only [jI0, iAdd_j, iSub_j, iMul_j, iNeg_j, Option.bind_some, jlt_t, jlt_f, jlt, jle_t, jle_f, jle, jeq_t, jeq_f, jeq, ↓reduceIte, o2, oKind, iMax_j]
end
