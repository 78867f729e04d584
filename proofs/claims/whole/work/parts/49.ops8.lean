/-! calls: height, loose, width, wander -/
def sHt (A : Int → Int) (b d : Int) (n : Nat) : Int := sm (fun j => A (8 + A (83 + 4 * b + j)) * (if d = 0 then 100 else 100 - A (14 + A (83 + 4 * b + j)))) n
def sH (A : Int → Int) (b d : Int) : Int := sHt A b d (A (27 + b)).toNat * A (51 + b)
theorem sH_r {A : Int → Int} (hV : BV A) {b d : Int} (h1 : 0 ≤ b) (h2 : b < A 26) : 0 ≤ sH A b d ∧ sH A b d ≤ 144000 := by
  have wb := hV.2.2.1 b h1 h2
  have s : 0 ≤ sHt A b d (A (27 + b)).toNat ∧ sHt A b d (A (27 + b)).toNat ≤ 900 * (A (27 + b)).toNat := by
    apply sm_le
    intro j hj
    have kd := hV.2.2.2.1 b j h1 h2 (by omega) (by omega)
    have p := hV.2.1 _ kd.1 kd.2
    split
    · omega
    · have := mulB (a := A (8 + A (83 + 4 * b + j))) (b := 100 - A (14 + A (83 + 4 * b + j))) (c := 9) (d := 100) (by omega) (by omega) (by omega) (by omega)
      omega
  have := mulB (a := sHt A b d (A (27 + b)).toNat) (b := A (51 + b)) (c := 3600) (d := 40) (by omega) (by omega) (by omega) (by omega)
  unfold sH
  omega
def sWd (A : Int → Int) : Nat → Int
  | 0 => A 141
  | k + 1 => max 1 (sWd A k + A (75 + k) * A (51 + k))
theorem sWd_r {A : Int → Int} (hV : BV A) : ∀ k : Nat, (k : Int) ≤ A 26 → 1 ≤ sWd A k ∧ sWd A k ≤ 999 + 360 * k
  | 0, _ => by have g := hV.1; simp only [sWd]; omega
  | k + 1, h => by
    have r := sWd_r hV k (by omega)
    have wb := hV.2.2.1 k (by omega) (by omega)
    have p : A (75 + k) * A (51 + k) ≤ 360 := by
      by_cases c : 0 ≤ A (75 + k)
      · have := mulB (a := A (75 + k)) (b := A (51 + k)) (c := 9) (d := 40) (by omega) (by omega) (by omega) (by omega)
        omega
      · have := Int.mul_nonpos_of_nonpos_of_nonneg (show A (75 + k) ≤ 0 by omega) (show 0 ≤ A (51 + k) by omega)
        omega
    simp only [sWd]
    omega
section
variable {K1 K2 : (Int → Int) → (Int → Int) → Prop} {q : Nat × Nat × (Nat → Nat)} {G : Nat → Int → Int} {N : Nat}
theorem oDries (hB : BB G) {k : Int} (h1 : 0 ≤ k) (h2 : k < G 102 1) : f_X0_driesTo N 2 (jI k) (hp q G) = some (jI (100 - G 102 (14 + k)), hp q G) := by
  unfold f_X0_driesTo
  simp (maxSteps := 2000000) (disch := first | assumption | omega) only [jI0, iAdd_j, iSub_j, iMul_j, iNeg_j, Option.bind_some, jlt_t, jlt_f, jlt, jle_t, jle_f, jle, jeq_t, jeq_f, jeq, ↓reduceIte, o0, o2, o12, hBand, hStake, hKind, hCross, hWeaver, oBand, oKindOf, oKind, oCr, oRing, oWv, oPer, oRows, oAhead, oWhen, oAll, oStep, oRods, oRodAt, oStakeAt, oOff, bI_t, bI_f, X11_refuse]
theorem oHt (hN : 10000 ≤ N) (hB : BB G) {b d : Int} (hb : 0 ≤ b) (hb2 : b < G 102 26) (hd : d = 0 ∨ d = 1) : f_X0_heightOf N 2 (jI b) (jI d) (hp q G) = some (jI (sH (G 102) b d), hp q G) := by
  have wb := hB.1.2.2.1 b hb hb2
  unfold f_X0_heightOf
  refine loopE (fun n (t : Int × Int) => L_X0_heightOf_5 N n 2 (jI b) (jI d) (jI t.1) (jI t.2) (hp q G)) (fun i => (sHt (G 102) b d i, (i : Int))) (G 102 (27 + b)).toNat (by omega) ?_ ?_
  · intro n i hi
    show L_X0_heightOf_5 N (n + 1) 2 (jI b) (jI d) (jI (sHt (G 102) b d i)) (jI (i : Int)) (hp q G) = L_X0_heightOf_5 N n 2 (jI b) (jI d) (jI (sHt (G 102) b d (i + 1))) (jI ((i + 1 : Nat) : Int)) (hp q G)
    have kd := hB.1.2.2.2.1 b i hb hb2 (by omega) (by omega)
    rw [L_X0_heightOf_5]
    simp only [sHt, sm]
    rcases hd with rfl | rfl
    · simp (maxSteps := 2000000) (disch := first | assumption | omega) only [jI0, iAdd_j, iSub_j, iMul_j, iNeg_j, Option.bind_some, jlt_t, jlt_f, jlt, jle_t, jle_f, jle, jeq_t, jeq_f, jeq, ↓reduceIte, o0, o2, o12, hBand, hStake, hKind, hCross, hWeaver, oBand, oKindOf, oKind, oCr, oRing, oWv, oPer, oRows, oAhead, oWhen, oAll, oStep, oRods, oRodAt, oStakeAt, oOff, bI_t, bI_f, X11_refuse, Int.natCast_succ]
    · simp (maxSteps := 2000000) (disch := first | assumption | omega) only [jI0, iAdd_j, iSub_j, iMul_j, iNeg_j, Option.bind_some, jlt_t, jlt_f, jlt, jle_t, jle_f, jle, jeq_t, jeq_f, jeq, ↓reduceIte, o0, o2, o12, hBand, hStake, hKind, hCross, hWeaver, oBand, oKindOf, oKind, oCr, oRing, oWv, oPer, oRows, oAhead, oWhen, oAll, oStep, oRods, oRodAt, oStakeAt, oOff, bI_t, bI_f, X11_refuse, oDries, Int.natCast_succ, show ¬ (1 : Int) = 0 by omega]
  · intro n
    show L_X0_heightOf_5 N (n + 1) 2 (jI b) (jI d) (jI _) (jI ((G 102 (27 + b)).toNat : Int)) (hp q G) = _
    rw [L_X0_heightOf_5]
    unfold sH
    simp (maxSteps := 2000000) (disch := first | assumption | omega) only [jI0, iAdd_j, iSub_j, iMul_j, iNeg_j, Option.bind_some, jlt_t, jlt_f, jlt, jle_t, jle_f, jle, jeq_t, jeq_f, jeq, ↓reduceIte, o0, o2, o12, hBand, hStake, hKind, hCross, hWeaver, oBand, oKindOf, oKind, oCr, oRing, oWv, oPer, oRows, oAhead, oWhen, oAll, oStep, oRods, oRodAt, oStakeAt, oOff, bI_t, bI_f, X11_refuse]
theorem mHt (hN : 10000 ≤ N) (hV : BV (G 102)) {b d : Int} (hb : 0 ≤ b) (hb2 : b < G 102 26) (hd : d = 0 ∨ d = 1) : f_X12_heightOf N 100 (jI b) (jI d) (hp q G) = some (jI (sH (G 102) b d), hp q G) := by
  have g := hV.1
  have wb := hV.2.2.1 b hb hb2
  unfold f_X12_heightOf
  refine loopE (fun n (t : Int × Int) => L_X12_heightOf_5 N n 100 (jI b) (jI d) (jI t.1) (jI t.2) (hp q G)) (fun i => (sHt (G 102) b d i, (i : Int))) (G 102 (27 + b)).toNat (by omega) ?_ ?_
  · intro n i hi
    show L_X12_heightOf_5 N (n + 1) 100 (jI b) (jI d) (jI (sHt (G 102) b d i)) (jI (i : Int)) (hp q G) = L_X12_heightOf_5 N n 100 (jI b) (jI d) (jI (sHt (G 102) b d (i + 1))) (jI ((i + 1 : Nat) : Int)) (hp q G)
    have kd := hV.2.2.2.1 b i hb hb2 (by omega) (by omega)
    rw [L_X12_heightOf_5]
    simp only [sHt, sm]
    rcases hd with rfl | rfl
    · simp (maxSteps := 2000000) (disch := first | assumption | omega) only [jI0, iAdd_j, iSub_j, iMul_j, iNeg_j, Option.bind_some, jlt_t, jlt_f, jlt, jle_t, jle_f, jle, jeq_t, jeq_f, jeq, ↓reduceIte, o100, w100t, l102, mBand, mStake, mKind, mCross, mCr, mKindOf, mAhead, mWhen, mStep, mRods, mRodAt, mStakeAt, mIndex, mOver, mOverIn, jlL, X12_within, bI_t, bI_f, X12_no, Int.natCast_succ]
    · simp (maxSteps := 2000000) (disch := first | assumption | omega) only [jI0, iAdd_j, iSub_j, iMul_j, iNeg_j, Option.bind_some, jlt_t, jlt_f, jlt, jle_t, jle_f, jle, jeq_t, jeq_f, jeq, ↓reduceIte, o100, w100t, l102, mBand, mStake, mKind, mCross, mCr, mKindOf, mAhead, mWhen, mStep, mRods, mRodAt, mStakeAt, mIndex, mOver, mOverIn, jlL, X12_within, bI_t, bI_f, X12_no, Int.natCast_succ, show ¬ (1 : Int) = 0 by omega]
  · intro n
    show L_X12_heightOf_5 N (n + 1) 100 (jI b) (jI d) (jI _) (jI ((G 102 (27 + b)).toNat : Int)) (hp q G) = _
    rw [L_X12_heightOf_5]
    unfold sH
    simp (maxSteps := 2000000) (disch := first | assumption | omega) only [jI0, iAdd_j, iSub_j, iMul_j, iNeg_j, Option.bind_some, jlt_t, jlt_f, jlt, jle_t, jle_f, jle, jeq_t, jeq_f, jeq, ↓reduceIte, o100, w100t, l102, mBand, mStake, mKind, mCross, mCr, mKindOf, mAhead, mWhen, mStep, mRods, mRodAt, mStakeAt, mIndex, mOver, mOverIn, jlL, X12_within, bI_t, bI_f, X12_no]
theorem op_height (hN : 10000 ≤ N) (hI : INV K1 K2 q G) {b d : Int} (h1 : -2147483648 ≤ b) (h2 : b < 2147483648) (hd : d = 0 ∨ d = 1) : OP K1 K2 q G (f_X11_height N 0 (jI b) (jI d)) (f_X12_height N 100 (jI b) (jI d)) := by
  have hB := hI.1.1; have hV := hB.1; have hT := hI.1.2.1; have g := hV.1
  have e := hB.2.1
  by_cases c1 : b = -1
  · subst c1
    refine OP.ans hI (jI (sm (fun k => sH (G 102) k d) (G 102 26).toNat)) ?_ ?_
    · unfold f_X11_height
      simp (maxSteps := 2000000) (disch := first | assumption | omega) only [jI0, iAdd_j, iSub_j, iMul_j, iNeg_j, Option.bind_some, jlt_t, jlt_f, jlt, jle_t, jle_f, jle, jeq_t, jeq_f, jeq, ↓reduceIte, o0, o2, o12, hBand, hStake, hKind, hCross, hWeaver, oBand, oKindOf, oKind, oCr, oRing, oWv, oPer, oRows, oAhead, oWhen, oAll, oStep, oRods, oRodAt, oStakeAt, oOff, bI_t, bI_f, X11_refuse]
      refine loopE (fun n (t : Int × Int) => L_X11_height_10 N n 0 (jI d) (jI t.1) (jI t.2) (hp q G)) (fun i => (sm (fun k => sH (G 102) k d) i, (i : Int))) (G 102 26).toNat (by omega) ?_ ?_
      · intro n i hi
        show L_X11_height_10 N (n + 1) 0 (jI d) (jI _) (jI (i : Int)) (hp q G) = L_X11_height_10 N n 0 (jI d) (jI (sm (fun k => sH (G 102) k d) (i + 1))) (jI ((i + 1 : Nat) : Int)) (hp q G)
        rw [L_X11_height_10]
        simp only [sm]
        simp (maxSteps := 2000000) (disch := first | assumption | omega) only [jI0, iAdd_j, iSub_j, iMul_j, iNeg_j, Option.bind_some, jlt_t, jlt_f, jlt, jle_t, jle_f, jle, jeq_t, jeq_f, jeq, ↓reduceIte, o0, o2, o12, hBand, hStake, hKind, hCross, hWeaver, oBand, oKindOf, oKind, oCr, oRing, oWv, oPer, oRows, oAhead, oWhen, oAll, oStep, oRods, oRodAt, oStakeAt, oOff, bI_t, bI_f, X11_refuse, e, oHt, Int.natCast_succ]
      · intro n
        show L_X11_height_10 N (n + 1) 0 (jI d) (jI _) (jI ((G 102 26).toNat : Int)) (hp q G) = _
        rw [L_X11_height_10]
        simp (maxSteps := 2000000) (disch := first | assumption | omega) only [jI0, iAdd_j, iSub_j, iMul_j, iNeg_j, Option.bind_some, jlt_t, jlt_f, jlt, jle_t, jle_f, jle, jeq_t, jeq_f, jeq, ↓reduceIte, o0, o2, o12, hBand, hStake, hKind, hCross, hWeaver, oBand, oKindOf, oKind, oCr, oRing, oWv, oPer, oRows, oAhead, oWhen, oAll, oStep, oRods, oRodAt, oStakeAt, oOff, bI_t, bI_f, X11_refuse, e]
    · unfold f_X12_height J_X12_height_25
      simp (maxSteps := 2000000) (disch := first | assumption | omega) only [jI0, iAdd_j, iSub_j, iMul_j, iNeg_j, Option.bind_some, jlt_t, jlt_f, jlt, jle_t, jle_f, jle, jeq_t, jeq_f, jeq, ↓reduceIte, o100, w100t, l102, mBand, mStake, mKind, mCross, mCr, mKindOf, mAhead, mWhen, mStep, mRods, mRodAt, mStakeAt, mIndex, mOver, mOverIn, jlL, X12_within, bI_t, bI_f, X12_no]
      refine loopE (fun n (t : Int × Int) => L_X12_height_42 N n 100 (jI d) (jI t.1) (jI t.2) (hp q G)) (fun i => (sm (fun k => sH (G 102) k d) i, (i : Int))) (G 102 26).toNat (by omega) ?_ ?_
      · intro n i hi
        show L_X12_height_42 N (n + 1) 100 (jI d) (jI _) (jI (i : Int)) (hp q G) = L_X12_height_42 N n 100 (jI d) (jI (sm (fun k => sH (G 102) k d) (i + 1))) (jI ((i + 1 : Nat) : Int)) (hp q G)
        rw [L_X12_height_42]
        simp only [sm]
        simp (maxSteps := 2000000) (disch := first | assumption | omega) only [jI0, iAdd_j, iSub_j, iMul_j, iNeg_j, Option.bind_some, jlt_t, jlt_f, jlt, jle_t, jle_f, jle, jeq_t, jeq_f, jeq, ↓reduceIte, o100, w100t, l102, mBand, mStake, mKind, mCross, mCr, mKindOf, mAhead, mWhen, mStep, mRods, mRodAt, mStakeAt, mIndex, mOver, mOverIn, jlL, X12_within, bI_t, bI_f, X12_no, mHt, Int.natCast_succ]
      · intro n
        show L_X12_height_42 N (n + 1) 100 (jI d) (jI _) (jI ((G 102 26).toNat : Int)) (hp q G) = _
        rw [L_X12_height_42]
        simp (maxSteps := 2000000) (disch := first | assumption | omega) only [jI0, iAdd_j, iSub_j, iMul_j, iNeg_j, Option.bind_some, jlt_t, jlt_f, jlt, jle_t, jle_f, jle, jeq_t, jeq_f, jeq, ↓reduceIte, o100, w100t, l102, mBand, mStake, mKind, mCross, mCr, mKindOf, mAhead, mWhen, mStep, mRods, mRodAt, mStakeAt, mIndex, mOver, mOverIn, jlL, X12_within, bI_t, bI_f, X12_no]
  · by_cases c : 0 ≤ b ∧ b < G 102 26
    · refine OP.ans hI (jI (sH (G 102) b d)) ?_ ?_
      · unfold f_X11_height
        simp (maxSteps := 2000000) (disch := first | assumption | omega) only [jI0, iAdd_j, iSub_j, iMul_j, iNeg_j, Option.bind_some, jlt_t, jlt_f, jlt, jle_t, jle_f, jle, jeq_t, jeq_f, jeq, ↓reduceIte, o0, o2, o12, hBand, hStake, hKind, hCross, hWeaver, oBand, oKindOf, oKind, oCr, oRing, oWv, oPer, oRows, oAhead, oWhen, oAll, oStep, oRods, oRodAt, oStakeAt, oOff, bI_t, bI_f, X11_refuse, oHt]
      · unfold f_X12_height J_X12_height_25
        simp (maxSteps := 2000000) (disch := first | assumption | omega) only [jI0, iAdd_j, iSub_j, iMul_j, iNeg_j, Option.bind_some, jlt_t, jlt_f, jlt, jle_t, jle_f, jle, jeq_t, jeq_f, jeq, ↓reduceIte, o100, w100t, l102, mBand, mStake, mKind, mCross, mCr, mKindOf, mAhead, mWhen, mStep, mRods, mRodAt, mStakeAt, mIndex, mOver, mOverIn, jlL, X12_within, bI_t, bI_f, X12_no, mHt]
    · refine OP.rf hI (-2) (jI (-2)) (by unfold f_X11_height; simp (maxSteps := 2000000) (disch := first | assumption | omega) only [jI0, iAdd_j, iSub_j, iMul_j, iNeg_j, Option.bind_some, jlt_t, jlt_f, jlt, jle_t, jle_f, jle, jeq_t, jeq_f, jeq, ↓reduceIte, o0, o2, o12, hBand, hStake, hKind, hCross, hWeaver, oBand, oKindOf, oKind, oCr, oRing, oWv, oPer, oRows, oAhead, oWhen, oAll, oStep, oRods, oRodAt, oStakeAt, oOff, bI_t, bI_f, X11_refuse]) (by intro G1 hM e eo; have hV1 := hM.1; have hT1 := hM.2; (try rw [← e] at dm); (try rw [← e] at dr); (try rw [← e] at de); (try rw [← e] at dl); (try rw [← e] at hb); (try rw [← e] at hj); (try rw [← e] at hr); (try rw [← e] at hs); (try rw [← e] at pl); (try rw [← e] at al); (try rw [← e] at g); (try rw [← e] at c); (try rw [← e] at c1); (try rw [← e] at c2); (try rw [← e] at c3); (try rw [← e] at c4); (try rw [← e] at c5); (try rw [← e] at c6); (try rw [← e] at wb); (try rw [← e] at pr); (try rw [← e] at kd); (try rw [← e] at cr); (try rw [← e] at fe); (try rw [← e] at ra); (try rw [← e] at f1); (try rw [← e] at f2); (try rw [← e] at f3); (try rw [← e] at f4); (try rw [← e]); unfold f_X12_height; simp (maxSteps := 2000000) (disch := first | assumption | omega) only [jI0, iAdd_j, iSub_j, iMul_j, iNeg_j, Option.bind_some, jlt_t, jlt_f, jlt, jle_t, jle_f, jle, jeq_t, jeq_f, jeq, ↓reduceIte, o100, w100t, l102, mBand, mStake, mKind, mCross, mCr, mKindOf, mAhead, mWhen, mStep, mRods, mRodAt, mStakeAt, mIndex, mOver, mOverIn, jlL, X12_within, bI_t, bI_f, X12_no])
/-- the loosest of the first bands -/
def sLs (A : Int → Int) : Nat → Int
  | 0 => -1
  | k + 1 => if sLs A k = -1 then k else if (sH A (sLs A k) 0 - sH A (sLs A k) 1) * sH A k 0 < (sH A k 0 - sH A k 1) * sH A (sLs A k) 0 then k else sLs A k
theorem sLs_r (A : Int → Int) : ∀ k : Nat, (sLs A k = -1 ∧ k = 0) ∨ (0 ≤ sLs A k ∧ sLs A k < k)
  | 0 => .inl ⟨rfl, rfl⟩
  | k + 1 => by
    have := sLs_r A k
    simp only [sLs, Int.natCast_succ]
    split
    · omega
    · split <;> omega
theorem mul_r {a b c d : Int} (h1 : -c ≤ a) (h2 : a ≤ c) (h3 : 0 ≤ b) (h4 : b ≤ d) : -(c * d) ≤ a * b ∧ a * b ≤ c * d := by
  by_cases x : 0 ≤ a
  · have := mulB x h2 h3 h4; omega
  · have := mulB (a := -a) (b := b) (c := c) (d := d) (by omega) (by omega) h3 h4
    rw [Int.neg_mul] at this
    omega
theorem op_loose (hN : 10000 ≤ N) (hI : INV K1 K2 q G) : OP K1 K2 q G (f_X11_loose N 0) (f_X12_loose N 100) := by
  have hB := hI.1.1; have hV := hB.1; have hT := hI.1.2.1; have g := hV.1
  have e := hB.2.1
  have R : ∀ i j : Int, 0 ≤ i → i < G 102 26 → 0 ≤ j → j < G 102 26 → -20736000000 ≤ (sH (G 102) i 0 - sH (G 102) i 1) * sH (G 102) j 0 ∧ (sH (G 102) i 0 - sH (G 102) i 1) * sH (G 102) j 0 ≤ 20736000000 := fun i j i0 i1 j0 j1 => by
    have a := sH_r hV i0 i1 (d := 0)
    have b := sH_r hV i0 i1 (d := 1)
    have c := sH_r hV j0 j1 (d := 0)
    have := mul_r (a := sH (G 102) i 0 - sH (G 102) i 1) (b := sH (G 102) j 0) (c := 144000) (d := 144000) (by omega) (by omega) (by omega) (by omega)
    omega
  refine OP.ans hI (jI (sLs (G 102) (G 102 26).toNat)) ?_ ?_
  · unfold f_X11_loose f_X0_loosest
    simp (maxSteps := 2000000) (disch := first | assumption | omega) only [jI0, iAdd_j, iSub_j, iMul_j, iNeg_j, Option.bind_some, jlt_t, jlt_f, jlt, jle_t, jle_f, jle, jeq_t, jeq_f, jeq, ↓reduceIte, o0, o2, o12, hBand, hStake, hKind, hCross, hWeaver, oBand, oKindOf, oKind, oCr, oRing, oWv, oPer, oRows, oAhead, oWhen, oAll, oStep, oRods, oRodAt, oStakeAt, oOff, bI_t, bI_f, X11_refuse]
    refine (loopE (N := N) (fun n (t : Int × Int × Int × Int) => L_X0_loosest_10 N n 2 (jI t.1) (jL t.2.1) (jL t.2.2.1) (jI t.2.2.2) (hp q G)) (fun i => (sLs (G 102) i, (if i = 0 then 0 else sH (G 102) (sLs (G 102) i) 0 - sH (G 102) (sLs (G 102) i) 1), (if i = 0 then 1 else sH (G 102) (sLs (G 102) i) 0), (i : Int))) (G 102 26).toNat (r := some (jI (sLs (G 102) (G 102 26).toNat), hp q G)) (by omega) ?_ ?_) |> (fun z => by rw [show L_X0_loosest_10 N N 2 (jI (-1)) (jL 0) (jL 1) (jI 0) (hp q G) = _ from z]; simp (maxSteps := 2000000) (disch := first | assumption | omega) only [jI0, iAdd_j, iSub_j, iMul_j, iNeg_j, Option.bind_some, jlt_t, jlt_f, jlt, jle_t, jle_f, jle, jeq_t, jeq_f, jeq, ↓reduceIte])
    · intro n i hi
      show L_X0_loosest_10 N (n + 1) 2 (jI (sLs (G 102) i)) (jL (if i = 0 then 0 else sH (G 102) (sLs (G 102) i) 0 - sH (G 102) (sLs (G 102) i) 1)) (jL (if i = 0 then 1 else sH (G 102) (sLs (G 102) i) 0)) (jI (i : Int)) (hp q G) = L_X0_loosest_10 N n 2 (jI (sLs (G 102) (i + 1))) (jL (if i + 1 = 0 then 0 else sH (G 102) (sLs (G 102) (i + 1)) 0 - sH (G 102) (sLs (G 102) (i + 1)) 1)) (jL (if i + 1 = 0 then 1 else sH (G 102) (sLs (G 102) (i + 1)) 0)) (jI ((i + 1 : Nat) : Int)) (hp q G)
      have r := sLs_r (G 102) i
      have a := sH_r hV (b := i) (by omega) (by omega) (d := 0)
      have b := sH_r hV (b := i) (by omega) (by omega) (d := 1)
      rw [L_X0_loosest_10]
      simp only [show ¬ i + 1 = 0 by omega, ↓reduceIte]
      rcases r with ⟨r1, rfl⟩ | ⟨r1, r2⟩
      · simp only [sLs, ↓reduceIte]
        simp (maxSteps := 2000000) (disch := first | assumption | omega) only [jI0, iAdd_j, iSub_j, iMul_j, iNeg_j, Option.bind_some, jlt_t, jlt_f, jlt, jle_t, jle_f, jle, jeq_t, jeq_f, jeq, ↓reduceIte, o0, o2, o12, hBand, hStake, hKind, hCross, hWeaver, oBand, oKindOf, oKind, oCr, oRing, oWv, oPer, oRows, oAhead, oWhen, oAll, oStep, oRods, oRodAt, oStakeAt, oOff, bI_t, bI_f, X11_refuse, e, oHt, jlL, lSub_j, Int.natCast_succ]
      · have x := R (sLs (G 102) i) i (by omega) (by omega) (by omega) (by omega)
        have y := R i (sLs (G 102) i) (by omega) (by omega) (by omega) (by omega)
        simp only [sLs, show ¬ sLs (G 102) i = -1 by omega, show ¬ i = 0 by omega, ↓reduceIte]
        by_cases d : (sH (G 102) (sLs (G 102) i) 0 - sH (G 102) (sLs (G 102) i) 1) * sH (G 102) i 0 < (sH (G 102) i 0 - sH (G 102) i 1) * sH (G 102) (sLs (G 102) i) 0
        · simp (maxSteps := 2000000) (disch := first | assumption | omega) only [jI0, iAdd_j, iSub_j, iMul_j, iNeg_j, Option.bind_some, jlt_t, jlt_f, jlt, jle_t, jle_f, jle, jeq_t, jeq_f, jeq, ↓reduceIte, o0, o2, o12, hBand, hStake, hKind, hCross, hWeaver, oBand, oKindOf, oKind, oCr, oRing, oWv, oPer, oRows, oAhead, oWhen, oAll, oStep, oRods, oRodAt, oStakeAt, oOff, bI_t, bI_f, X11_refuse, e, oHt, jlL, lSub_j, lMul_j, llt, d, Int.natCast_succ]
        · simp (maxSteps := 2000000) (disch := first | assumption | omega) only [jI0, iAdd_j, iSub_j, iMul_j, iNeg_j, Option.bind_some, jlt_t, jlt_f, jlt, jle_t, jle_f, jle, jeq_t, jeq_f, jeq, ↓reduceIte, o0, o2, o12, hBand, hStake, hKind, hCross, hWeaver, oBand, oKindOf, oKind, oCr, oRing, oWv, oPer, oRows, oAhead, oWhen, oAll, oStep, oRods, oRodAt, oStakeAt, oOff, bI_t, bI_f, X11_refuse, e, oHt, jlL, lSub_j, lMul_j, llt, d, Int.natCast_succ]
    · intro n
      show L_X0_loosest_10 N (n + 1) 2 (jI _) (jL _) (jL _) (jI ((G 102 26).toNat : Int)) (hp q G) = _
      rw [L_X0_loosest_10]
      simp (maxSteps := 2000000) (disch := first | assumption | omega) only [jI0, iAdd_j, iSub_j, iMul_j, iNeg_j, Option.bind_some, jlt_t, jlt_f, jlt, jle_t, jle_f, jle, jeq_t, jeq_f, jeq, ↓reduceIte, o0, o2, o12, hBand, hStake, hKind, hCross, hWeaver, oBand, oKindOf, oKind, oCr, oRing, oWv, oPer, oRows, oAhead, oWhen, oAll, oStep, oRods, oRodAt, oStakeAt, oOff, bI_t, bI_f, X11_refuse, e]
  · unfold f_X12_loose
    simp (maxSteps := 2000000) (disch := first | assumption | omega) only [jI0, iAdd_j, iSub_j, iMul_j, iNeg_j, Option.bind_some, jlt_t, jlt_f, jlt, jle_t, jle_f, jle, jeq_t, jeq_f, jeq, ↓reduceIte, o100, w100t, l102, mBand, mStake, mKind, mCross, mCr, mKindOf, mAhead, mWhen, mStep, mRods, mRodAt, mStakeAt, mIndex, mOver, mOverIn, jlL, X12_within, bI_t, bI_f, X12_no]
    refine loopE (N := N) (fun n (t : Int × Int) => L_X12_loose_9 N n 100 (jI t.1) (jI t.2) (hp q G)) (fun i => (sLs (G 102) i, (i : Int))) (G 102 26).toNat (by omega) ?_ ?_
    · intro n i hi
      show L_X12_loose_9 N (n + 1) 100 (jI (sLs (G 102) i)) (jI (i : Int)) (hp q G) = L_X12_loose_9 N n 100 (jI (sLs (G 102) (i + 1))) (jI ((i + 1 : Nat) : Int)) (hp q G)
      have r := sLs_r (G 102) i
      have a := sH_r hV (b := i) (by omega) (by omega) (d := 0)
      have b := sH_r hV (b := i) (by omega) (by omega) (d := 1)
      rw [L_X12_loose_9]
      rcases r with ⟨r1, rfl⟩ | ⟨r1, r2⟩
      · simp only [sLs, ↓reduceIte]
        simp (maxSteps := 2000000) (disch := first | assumption | omega) only [jI0, iAdd_j, iSub_j, iMul_j, iNeg_j, Option.bind_some, jlt_t, jlt_f, jlt, jle_t, jle_f, jle, jeq_t, jeq_f, jeq, ↓reduceIte, o100, w100t, l102, mBand, mStake, mKind, mCross, mCr, mKindOf, mAhead, mWhen, mStep, mRods, mRodAt, mStakeAt, mIndex, mOver, mOverIn, jlL, X12_within, bI_t, bI_f, X12_no, mHt, Int.natCast_succ]
      · have x := R (sLs (G 102) i) i (by omega) (by omega) (by omega) (by omega)
        have y := R i (sLs (G 102) i) (by omega) (by omega) (by omega) (by omega)
        have a' := sH_r hV (b := sLs (G 102) i) (by omega) (by omega) (d := 0)
        have b' := sH_r hV (b := sLs (G 102) i) (by omega) (by omega) (d := 1)
        simp only [sLs, show ¬ sLs (G 102) i = -1 by omega, ↓reduceIte]
        by_cases d : (sH (G 102) (sLs (G 102) i) 0 - sH (G 102) (sLs (G 102) i) 1) * sH (G 102) i 0 < (sH (G 102) i 0 - sH (G 102) i 1) * sH (G 102) (sLs (G 102) i) 0
        · simp (maxSteps := 2000000) (disch := first | assumption | omega) only [jI0, iAdd_j, iSub_j, iMul_j, iNeg_j, Option.bind_some, jlt_t, jlt_f, jlt, jle_t, jle_f, jle, jeq_t, jeq_f, jeq, ↓reduceIte, o100, w100t, l102, mBand, mStake, mKind, mCross, mCr, mKindOf, mAhead, mWhen, mStep, mRods, mRodAt, mStakeAt, mIndex, mOver, mOverIn, jlL, X12_within, bI_t, bI_f, X12_no, mHt, lMul_j, llt, d, Int.natCast_succ]
        · simp (maxSteps := 2000000) (disch := first | assumption | omega) only [jI0, iAdd_j, iSub_j, iMul_j, iNeg_j, Option.bind_some, jlt_t, jlt_f, jlt, jle_t, jle_f, jle, jeq_t, jeq_f, jeq, ↓reduceIte, o100, w100t, l102, mBand, mStake, mKind, mCross, mCr, mKindOf, mAhead, mWhen, mStep, mRods, mRodAt, mStakeAt, mIndex, mOver, mOverIn, jlL, X12_within, bI_t, bI_f, X12_no, mHt, lMul_j, llt, d, Int.natCast_succ]
    · intro n
      show L_X12_loose_9 N (n + 1) 100 (jI _) (jI ((G 102 26).toNat : Int)) (hp q G) = _
      rw [L_X12_loose_9]
      simp (maxSteps := 2000000) (disch := first | assumption | omega) only [jI0, iAdd_j, iSub_j, iMul_j, iNeg_j, Option.bind_some, jlt_t, jlt_f, jlt, jle_t, jle_f, jle, jeq_t, jeq_f, jeq, ↓reduceIte, o100, w100t, l102, mBand, mStake, mKind, mCross, mCr, mKindOf, mAhead, mWhen, mStep, mRods, mRodAt, mStakeAt, mIndex, mOver, mOverIn, jlL, X12_within, bI_t, bI_f, X12_no]
theorem mOne {h : mH} {v : Int} (h1 : -2147483648 ≤ v) (h2 : v < 2147483648) : f_X12_atLeastOne N (jI v) h = some (jI (max 1 v), h) := by
  unfold f_X12_atLeastOne
  by_cases c : v < 1
  · simp (maxSteps := 2000000) (disch := first | assumption | omega) only [jI0, iAdd_j, iSub_j, iMul_j, iNeg_j, Option.bind_some, jlt_t, jlt_f, jlt, jle_t, jle_f, jle, jeq_t, jeq_f, jeq, ↓reduceIte]
    rw [Int.max_eq_left (by omega)]
  · simp (maxSteps := 2000000) (disch := first | assumption | omega) only [jI0, iAdd_j, iSub_j, iMul_j, iNeg_j, Option.bind_some, jlt_t, jlt_f, jlt, jle_t, jle_f, jle, jeq_t, jeq_f, jeq, ↓reduceIte]
    rw [Int.max_eq_right (by omega)]
theorem op_width (hN : 10000 ≤ N) (hI : INV K1 K2 q G) {b : Int} (h1 : -2147483648 ≤ b) (h2 : b < 2147483648) : OP K1 K2 q G (f_X11_width N 0 (jI b)) (f_X12_width N 100 (jI b)) := by
  have hB := hI.1.1; have hV := hB.1; have hT := hI.1.2.1; have g := hV.1
  have e := hB.2.1
  by_cases c : -1 ≤ b ∧ b < G 102 26
  · have P : ∀ k : Nat, (k : Int) < G 102 26 → -360 ≤ G 102 (75 + k) * G 102 (51 + k) ∧ G 102 (75 + k) * G 102 (51 + k) ≤ 360 := fun k hk => by
      have wb := hV.2.2.1 k (by omega) (by omega)
      have := mul_r (a := G 102 (75 + k)) (b := G 102 (51 + k)) (c := 9) (d := 40) (by omega) (by omega) (by omega) (by omega)
      omega
    have L : f_X0_widthBehind N 2 (jI b) (hp q G) = some (jI (sWd (G 102) (b + 1).toNat), hp q G) := by
      unfold f_X0_widthBehind
      simp (maxSteps := 2000000) (disch := first | assumption | omega) only [jI0, iAdd_j, iSub_j, iMul_j, iNeg_j, Option.bind_some, jlt_t, jlt_f, jlt, jle_t, jle_f, jle, jeq_t, jeq_f, jeq, ↓reduceIte, o0, o2, o12, hBand, hStake, hKind, hCross, hWeaver, oBand, oKindOf, oKind, oCr, oRing, oWv, oPer, oRows, oAhead, oWhen, oAll, oStep, oRods, oRodAt, oStakeAt, oOff, bI_t, bI_f, X11_refuse, e]
      refine loopE (fun n (t : Int × Int) => L_X0_widthBehind_7 N n 2 (jI b) (jI t.1) (jI t.2) (hp q G)) (fun i => (sWd (G 102) i, (i : Int))) (b + 1).toNat (by omega) ?_ ?_
      · intro n i hi
        show L_X0_widthBehind_7 N (n + 1) 2 (jI b) (jI (sWd (G 102) i)) (jI (i : Int)) (hp q G) = L_X0_widthBehind_7 N n 2 (jI b) (jI (sWd (G 102) (i + 1))) (jI ((i + 1 : Nat) : Int)) (hp q G)
        have r := sWd_r hV i (by omega)
        have p := P i (by omega)
        rw [L_X0_widthBehind_7]
        simp only [sWd]
        simp (maxSteps := 2000000) (disch := first | assumption | omega) only [jI0, iAdd_j, iSub_j, iMul_j, iNeg_j, Option.bind_some, jlt_t, jlt_f, jlt, jle_t, jle_f, jle, jeq_t, jeq_f, jeq, ↓reduceIte, o0, o2, o12, hBand, hStake, hKind, hCross, hWeaver, oBand, oKindOf, oKind, oCr, oRing, oWv, oPer, oRows, oAhead, oWhen, oAll, oStep, oRods, oRodAt, oStakeAt, oOff, bI_t, bI_f, X11_refuse, e, iMax_j, Int.natCast_succ]
      · intro n
        show L_X0_widthBehind_7 N (n + 1) 2 (jI b) (jI _) (jI ((b + 1).toNat : Int)) (hp q G) = _
        rw [L_X0_widthBehind_7]
        simp (maxSteps := 2000000) (disch := first | assumption | omega) only [jI0, iAdd_j, iSub_j, iMul_j, iNeg_j, Option.bind_some, jlt_t, jlt_f, jlt, jle_t, jle_f, jle, jeq_t, jeq_f, jeq, ↓reduceIte, o0, o2, o12, hBand, hStake, hKind, hCross, hWeaver, oBand, oKindOf, oKind, oCr, oRing, oWv, oPer, oRows, oAhead, oWhen, oAll, oStep, oRods, oRodAt, oStakeAt, oOff, bI_t, bI_f, X11_refuse]
    have M : L_X12_width_36 N N 100 (jI b) (jI (G 102 141)) (jI 0) (hp q G) = some (jI (sWd (G 102) (b + 1).toNat), hp q G) := by
      refine loopE (fun n (t : Int × Int) => L_X12_width_36 N n 100 (jI b) (jI t.1) (jI t.2) (hp q G)) (fun i => (sWd (G 102) i, (i : Int))) (b + 1).toNat (by omega) ?_ ?_
      · intro n i hi
        show L_X12_width_36 N (n + 1) 100 (jI b) (jI (sWd (G 102) i)) (jI (i : Int)) (hp q G) = L_X12_width_36 N n 100 (jI b) (jI (sWd (G 102) (i + 1))) (jI ((i + 1 : Nat) : Int)) (hp q G)
        have r := sWd_r hV i (by omega)
        have p := P i (by omega)
        rw [L_X12_width_36]
        simp only [sWd]
        simp (maxSteps := 2000000) (disch := first | assumption | omega) only [jI0, iAdd_j, iSub_j, iMul_j, iNeg_j, Option.bind_some, jlt_t, jlt_f, jlt, jle_t, jle_f, jle, jeq_t, jeq_f, jeq, ↓reduceIte, o100, w100t, l102, mBand, mStake, mKind, mCross, mCr, mKindOf, mAhead, mWhen, mStep, mRods, mRodAt, mStakeAt, mIndex, mOver, mOverIn, jlL, X12_within, bI_t, bI_f, X12_no, mOne, Int.natCast_succ]
      · intro n
        show L_X12_width_36 N (n + 1) 100 (jI b) (jI _) (jI ((b + 1).toNat : Int)) (hp q G) = _
        rw [L_X12_width_36]
        simp (maxSteps := 2000000) (disch := first | assumption | omega) only [jI0, iAdd_j, iSub_j, iMul_j, iNeg_j, Option.bind_some, jlt_t, jlt_f, jlt, jle_t, jle_f, jle, jeq_t, jeq_f, jeq, ↓reduceIte, o100, w100t, l102, mBand, mStake, mKind, mCross, mCr, mKindOf, mAhead, mWhen, mStep, mRods, mRodAt, mStakeAt, mIndex, mOver, mOverIn, jlL, X12_within, bI_t, bI_f, X12_no]
    refine OP.ans hI (jI (sWd (G 102) (b + 1).toNat)) ?_ ?_
    · unfold f_X11_width
      by_cases d : b = -1
      · subst d
        simp (maxSteps := 2000000) (disch := first | assumption | omega) only [jI0, iAdd_j, iSub_j, iMul_j, iNeg_j, Option.bind_some, jlt_t, jlt_f, jlt, jle_t, jle_f, jle, jeq_t, jeq_f, jeq, ↓reduceIte, o0, o2, o12, hBand, hStake, hKind, hCross, hWeaver, oBand, oKindOf, oKind, oCr, oRing, oWv, oPer, oRows, oAhead, oWhen, oAll, oStep, oRods, oRodAt, oStakeAt, oOff, bI_t, bI_f, X11_refuse, L]
      · simp (maxSteps := 2000000) (disch := first | assumption | omega) only [jI0, iAdd_j, iSub_j, iMul_j, iNeg_j, Option.bind_some, jlt_t, jlt_f, jlt, jle_t, jle_f, jle, jeq_t, jeq_f, jeq, ↓reduceIte, o0, o2, o12, hBand, hStake, hKind, hCross, hWeaver, oBand, oKindOf, oKind, oCr, oRing, oWv, oPer, oRows, oAhead, oWhen, oAll, oStep, oRods, oRodAt, oStakeAt, oOff, bI_t, bI_f, X11_refuse, L]
    · unfold f_X12_width
      by_cases d : b = -1
      · subst d
        simp (maxSteps := 2000000) (disch := first | assumption | omega) only [jI0, iAdd_j, iSub_j, iMul_j, iNeg_j, Option.bind_some, jlt_t, jlt_f, jlt, jle_t, jle_f, jle, jeq_t, jeq_f, jeq, ↓reduceIte, o100, w100t, l102, mBand, mStake, mKind, mCross, mCr, mKindOf, mAhead, mWhen, mStep, mRods, mRodAt, mStakeAt, mIndex, mOver, mOverIn, jlL, X12_within, bI_t, bI_f, X12_no, M]
      · simp (maxSteps := 2000000) (disch := first | assumption | omega) only [jI0, iAdd_j, iSub_j, iMul_j, iNeg_j, Option.bind_some, jlt_t, jlt_f, jlt, jle_t, jle_f, jle, jeq_t, jeq_f, jeq, ↓reduceIte, o100, w100t, l102, mBand, mStake, mKind, mCross, mCr, mKindOf, mAhead, mWhen, mStep, mRods, mRodAt, mStakeAt, mIndex, mOver, mOverIn, jlL, X12_within, bI_t, bI_f, X12_no, M]
  · refine OP.rf hI (-2) (jI (-2)) (by unfold f_X11_width; simp (maxSteps := 2000000) (disch := first | assumption | omega) only [jI0, iAdd_j, iSub_j, iMul_j, iNeg_j, Option.bind_some, jlt_t, jlt_f, jlt, jle_t, jle_f, jle, jeq_t, jeq_f, jeq, ↓reduceIte, o0, o2, o12, hBand, hStake, hKind, hCross, hWeaver, oBand, oKindOf, oKind, oCr, oRing, oWv, oPer, oRows, oAhead, oWhen, oAll, oStep, oRods, oRodAt, oStakeAt, oOff, bI_t, bI_f, X11_refuse]) (by intro G1 hM e eo; have hV1 := hM.1; have hT1 := hM.2; (try rw [← e] at dm); (try rw [← e] at dr); (try rw [← e] at de); (try rw [← e] at dl); (try rw [← e] at hb); (try rw [← e] at hj); (try rw [← e] at hr); (try rw [← e] at hs); (try rw [← e] at pl); (try rw [← e] at al); (try rw [← e] at g); (try rw [← e] at c); (try rw [← e] at c1); (try rw [← e] at c2); (try rw [← e] at c3); (try rw [← e] at c4); (try rw [← e] at c5); (try rw [← e] at c6); (try rw [← e] at wb); (try rw [← e] at pr); (try rw [← e] at kd); (try rw [← e] at cr); (try rw [← e] at fe); (try rw [← e] at ra); (try rw [← e] at f1); (try rw [← e] at f2); (try rw [← e] at f3); (try rw [← e] at f4); (try rw [← e]); unfold f_X12_width; simp (maxSteps := 2000000) (disch := first | assumption | omega) only [jI0, iAdd_j, iSub_j, iMul_j, iNeg_j, Option.bind_some, jlt_t, jlt_f, jlt, jle_t, jle_f, jle, jeq_t, jeq_f, jeq, ↓reduceIte, o100, w100t, l102, mBand, mStake, mKind, mCross, mCr, mKindOf, mAhead, mWhen, mStep, mRods, mRodAt, mStakeAt, mIndex, mOver, mOverIn, jlL, X12_within, bI_t, bI_f, X12_no])
end
