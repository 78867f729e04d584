/-! calls: rods, waste, cost, cheaper, height, loose, width -/
def sWk (A : Int → Int) (b k : Int) (n : Nat) : Int := sm (fun j => if A (83 + 4 * b + j) = k then 1 else 0) n
def sRt (A : Int → Int) (k : Int) (n : Nat) : Int := sm (fun b => sWk A b k (A (27 + b)).toNat * sRd A (A 140) k (sCr A b)) n
def sLo (A : Int → Int) (k b : Int) : Int := (sRd A (A 140) k (sCr A b) - 1) * sSt A (A 140) k + A (2 + k) - sCr A b
def sWs (A : Int → Int) (k : Int) (n : Nat) : Int := sm (fun b => sWk A b k (A (27 + b)).toNat * sLo A k b) n
def sCo (A : Int → Int) (n : Nat) : Int := sm (fun k => sRt A k (A 26).toNat * A (20 + k)) n
/-- the first least one, and it -/
def chB (f : Int → Int) : Nat → Int × Int
  | 0 => (0, f 0)
  | k + 1 => if f (k + 1) < (chB f k).2 then (k + 1, f (k + 1)) else chB f k
theorem chB_r {f : Int → Int} {c d : Int} : ∀ k : Nat, (∀ i : Nat, i ≤ k → c ≤ f i ∧ f i ≤ d) → 0 ≤ (chB f k).1 ∧ (chB f k).1 ≤ k ∧ c ≤ (chB f k).2 ∧ (chB f k).2 ≤ d
  | 0, h => by have := h 0 (by omega); simp only [chB]; rw [show ((0 : Nat) : Int) = 0 from rfl] at this; omega
  | k + 1, h => by
    have := chB_r k (fun i hi => h i (by omega))
    have := h (k + 1) (by omega)
    simp only [chB]
    rw [Int.natCast_succ] at this ⊢
    split <;> omega
section
variable {K1 K2 : (Int → Int) → (Int → Int) → Prop} {q : Nat × Nat × (Nat → Nat)} {G : Nat → Int → Int} {N : Nat}
theorem oWk (hN : 10000 ≤ N) (hB : BB G) {b k : Int} (hb : 0 ≤ b) (hb2 : b < G 102 26) (hk : 0 ≤ k) (hk2 : k < G 102 1) : f_X0_weaversOfKind N 2 (jI b) (jI k) (hp q G) = some (jI (sWk (G 102) b k (G 102 (27 + b)).toNat), hp q G) := by
  have g := hB.1.1
  have wb := hB.1.2.2.1 b hb hb2
  unfold f_X0_weaversOfKind
  refine loopE (fun n (t : Int × Int) => L_X0_weaversOfKind_5 N n 2 (jI b) (jI k) (jI t.1) (jI t.2) (hp q G)) (fun i => (sWk (G 102) b k i, (i : Int))) (G 102 (27 + b)).toNat (by omega) ?_ ?_
  · intro n i hi
    show L_X0_weaversOfKind_5 N (n + 1) 2 (jI b) (jI k) (jI (sWk (G 102) b k i)) (jI (i : Int)) (hp q G) = L_X0_weaversOfKind_5 N n 2 (jI b) (jI k) (jI (sWk (G 102) b k (i + 1))) (jI ((i + 1 : Nat) : Int)) (hp q G)
    have kd := hB.1.2.2.2.1 b i hb hb2 (by omega) (by omega)
    rw [L_X0_weaversOfKind_5]
    simp only [sWk, sm]
    by_cases d : G 102 (83 + 4 * b + i) = k <;> simp (maxSteps := 2000000) (disch := first | assumption | omega) only [jI0, iAdd_j, iSub_j, iMul_j, iNeg_j, Option.bind_some, jlt_t, jlt_f, jlt, jle_t, jle_f, jle, jeq_t, jeq_f, jeq, ↓reduceIte, o0, o2, o12, hBand, hStake, hKind, hCross, hWeaver, oBand, oKindOf, oKind, oCr, oRing, oWv, oPer, oRows, oAhead, oWhen, oAll, oStep, oRods, oRodAt, oStakeAt, oOff, bI_t, bI_f, X11_refuse, d, Int.natCast_succ, Int.add_zero]
  · intro n
    show L_X0_weaversOfKind_5 N (n + 1) 2 (jI b) (jI k) (jI _) (jI ((G 102 (27 + b)).toNat : Int)) (hp q G) = _
    rw [L_X0_weaversOfKind_5]
    simp (maxSteps := 2000000) (disch := first | assumption | omega) only [jI0, iAdd_j, iSub_j, iMul_j, iNeg_j, Option.bind_some, jlt_t, jlt_f, jlt, jle_t, jle_f, jle, jeq_t, jeq_f, jeq, ↓reduceIte, o0, o2, o12, hBand, hStake, hKind, hCross, hWeaver, oBand, oKindOf, oKind, oCr, oRing, oWv, oPer, oRows, oAhead, oWhen, oAll, oStep, oRods, oRodAt, oStakeAt, oOff, bI_t, bI_f, X11_refuse]
theorem oTaken (hN : 10000 ≤ N) (hB : BB G) {k : Int} (hk : 0 ≤ k) (hk2 : k < G 102 1) : f_X0_rodsTaken N 2 (jI k) (hp q G) = some (jI (sRt (G 102) k (G 102 26).toNat), hp q G) := by
  have g := hB.1.1
  have e := hB.2.1
  unfold f_X0_rodsTaken
  refine loopE (fun n (t : Int × Int) => L_X0_rodsTaken_4 N n 2 (jI k) (jI t.1) (jI t.2) (hp q G)) (fun i => (sRt (G 102) k i, (i : Int))) (G 102 26).toNat (by omega) ?_ ?_
  · intro n i hi
    show L_X0_rodsTaken_4 N (n + 1) 2 (jI k) (jI (sRt (G 102) k i)) (jI (i : Int)) (hp q G) = L_X0_rodsTaken_4 N n 2 (jI k) (jI (sRt (G 102) k (i + 1))) (jI ((i + 1 : Nat) : Int)) (hp q G)
    have cr := crF hB.1 (b := i) (by omega) (by omega)
    rw [L_X0_rodsTaken_4]
    simp only [sRt, sm]
    simp (maxSteps := 2000000) (disch := first | assumption | omega) only [jI0, iAdd_j, iSub_j, iMul_j, iNeg_j, Option.bind_some, jlt_t, jlt_f, jlt, jle_t, jle_f, jle, jeq_t, jeq_f, jeq, ↓reduceIte, o0, o2, o12, hBand, hStake, hKind, hCross, hWeaver, oBand, oKindOf, oKind, oCr, oRing, oWv, oPer, oRows, oAhead, oWhen, oAll, oStep, oRods, oRodAt, oStakeAt, oOff, bI_t, bI_f, X11_refuse, e, oWk, Int.natCast_succ]
  · intro n
    show L_X0_rodsTaken_4 N (n + 1) 2 (jI k) (jI _) (jI ((G 102 26).toNat : Int)) (hp q G) = _
    rw [L_X0_rodsTaken_4]
    simp (maxSteps := 2000000) (disch := first | assumption | omega) only [jI0, iAdd_j, iSub_j, iMul_j, iNeg_j, Option.bind_some, jlt_t, jlt_f, jlt, jle_t, jle_f, jle, jeq_t, jeq_f, jeq, ↓reduceIte, o0, o2, o12, hBand, hStake, hKind, hCross, hWeaver, oBand, oKindOf, oKind, oCr, oRing, oWv, oPer, oRows, oAhead, oWhen, oAll, oStep, oRods, oRodAt, oStakeAt, oOff, bI_t, bI_f, X11_refuse, e]
theorem oLeft (hN : 10000 ≤ N) (hB : BB G) {k : Int} (hk : 0 ≤ k) (hk2 : k < G 102 1) : f_X0_leftOver N 2 (jI k) (hp q G) = some (jI (sWs (G 102) k (G 102 26).toNat), hp q G) := by
  have g := hB.1.1
  have e := hB.2.1
  unfold f_X0_leftOver
  refine loopE (fun n (t : Int × Int) => L_X0_leftOver_4 N n 2 (jI k) (jI t.1) (jI t.2) (hp q G)) (fun i => (sWs (G 102) k i, (i : Int))) (G 102 26).toNat (by omega) ?_ ?_
  · intro n i hi
    show L_X0_leftOver_4 N (n + 1) 2 (jI k) (jI (sWs (G 102) k i)) (jI (i : Int)) (hp q G) = L_X0_leftOver_4 N n 2 (jI k) (jI (sWs (G 102) k (i + 1))) (jI ((i + 1 : Nat) : Int)) (hp q G)
    have cr := crF hB.1 (b := i) (by omega) (by omega)
    rw [L_X0_leftOver_4]
    simp only [sWs, sLo, sm]
    simp (maxSteps := 2000000) (disch := first | assumption | omega) only [jI0, iAdd_j, iSub_j, iMul_j, iNeg_j, Option.bind_some, jlt_t, jlt_f, jlt, jle_t, jle_f, jle, jeq_t, jeq_f, jeq, ↓reduceIte, o0, o2, o12, hBand, hStake, hKind, hCross, hWeaver, oBand, oKindOf, oKind, oCr, oRing, oWv, oPer, oRows, oAhead, oWhen, oAll, oStep, oRods, oRodAt, oStakeAt, oOff, bI_t, bI_f, X11_refuse, e, oWk, Int.natCast_succ]
  · intro n
    show L_X0_leftOver_4 N (n + 1) 2 (jI k) (jI _) (jI ((G 102 26).toNat : Int)) (hp q G) = _
    rw [L_X0_leftOver_4]
    simp (maxSteps := 2000000) (disch := first | assumption | omega) only [jI0, iAdd_j, iSub_j, iMul_j, iNeg_j, Option.bind_some, jlt_t, jlt_f, jlt, jle_t, jle_f, jle, jeq_t, jeq_f, jeq, ↓reduceIte, o0, o2, o12, hBand, hStake, hKind, hCross, hWeaver, oBand, oKindOf, oKind, oCr, oRing, oWv, oPer, oRows, oAhead, oWhen, oAll, oStep, oRods, oRodAt, oStakeAt, oOff, bI_t, bI_f, X11_refuse, e]
theorem mTaken (hN : 10000 ≤ N) (hV : BV (G 102)) {k : Int} (hk : 0 ≤ k) (hk2 : k < G 102 1) : f_X12_rodsOf N 100 (jI k) (hp q G) = some (jI (sRt (G 102) k (G 102 26).toNat), hp q G) := by
  have g := hV.1
  unfold f_X12_rodsOf
  refine loopE (fun n (t : Int × Int) => L_X12_rodsOf_4 N n 100 (jI k) (jI t.1) (jI t.2) (hp q G)) (fun i => (sRt (G 102) k i, (i : Int))) (G 102 26).toNat (by omega) ?_ ?_
  · intro n i hi
    show L_X12_rodsOf_4 N (n + 1) 100 (jI k) (jI (sRt (G 102) k i)) (jI (i : Int)) (hp q G) = L_X12_rodsOf_4 N n 100 (jI k) (jI (sRt (G 102) k (i + 1))) (jI ((i + 1 : Nat) : Int)) (hp q G)
    have cr := crF hV (b := i) (by omega) (by omega)
    have wb := hV.2.2.1 i (by omega) (by omega)
    rw [L_X12_rodsOf_4]
    simp (maxSteps := 2000000) (disch := first | assumption | omega) only [jI0, iAdd_j, iSub_j, iMul_j, iNeg_j, Option.bind_some, jlt_t, jlt_f, jlt, jle_t, jle_f, jle, jeq_t, jeq_f, jeq, ↓reduceIte, o100, w100t, l102, mBand, mStake, mKind, mCross, mCr, mKindOf, mAhead, mWhen, mStep, mRods, mRodAt, mStakeAt, mIndex, mOver, mOverIn, jlL, X12_within, bI_t, bI_f, X12_no]
    refine (loopE (N := N) (fun m (t : Int × Int) => L_X12_rodsOf_18 N (L_X12_rodsOf_4 N n) m 100 (jI k) (jI t.1) (jI i) (jI t.2) (hp q G)) (fun j => (sRt (G 102) k i + sWk (G 102) i k j * sRd (G 102) (G 102 140) k (sCr (G 102) i), (j : Int))) (G 102 (27 + i)).toNat (by omega) ?_ ?_) |> Eq.trans ?_
    · show _ = L_X12_rodsOf_18 N (L_X12_rodsOf_4 N n) N 100 (jI k) (jI (sRt (G 102) k i + 0 * _)) (jI i) (jI 0) (hp q G)
      rw [Int.zero_mul, Int.add_zero]
    · intro m j hj
      show L_X12_rodsOf_18 N (L_X12_rodsOf_4 N n) (m + 1) 100 (jI k) (jI (sRt (G 102) k i + sWk (G 102) i k j * sRd (G 102) (G 102 140) k (sCr (G 102) i))) (jI i) (jI j) (hp q G) = L_X12_rodsOf_18 N (L_X12_rodsOf_4 N n) m 100 (jI k) (jI (sRt (G 102) k i + sWk (G 102) i k (j + 1) * sRd (G 102) (G 102 140) k (sCr (G 102) i))) (jI i) (jI ((j + 1 : Nat) : Int)) (hp q G)
      have kd := hV.2.2.2.1 i j (by omega) (by omega) (by omega) (by omega)
      rw [L_X12_rodsOf_18]
      simp only [sWk, sm]
      by_cases d : G 102 (83 + 4 * i + j) = k
      · rw [if_pos d, Int.add_mul, Int.one_mul, ← Int.add_assoc]
        simp (maxSteps := 2000000) (disch := first | assumption | omega) only [jI0, iAdd_j, iSub_j, iMul_j, iNeg_j, Option.bind_some, jlt_t, jlt_f, jlt, jle_t, jle_f, jle, jeq_t, jeq_f, jeq, ↓reduceIte, o100, w100t, l102, mBand, mStake, mKind, mCross, mCr, mKindOf, mAhead, mWhen, mStep, mRods, mRodAt, mStakeAt, mIndex, mOver, mOverIn, jlL, X12_within, bI_t, bI_f, X12_no, Int.natCast_succ]
      · rw [if_neg d, Int.add_zero]
        simp (maxSteps := 2000000) (disch := first | assumption | omega) only [jI0, iAdd_j, iSub_j, iMul_j, iNeg_j, Option.bind_some, jlt_t, jlt_f, jlt, jle_t, jle_f, jle, jeq_t, jeq_f, jeq, ↓reduceIte, o100, w100t, l102, mBand, mStake, mKind, mCross, mCr, mKindOf, mAhead, mWhen, mStep, mRods, mRodAt, mStakeAt, mIndex, mOver, mOverIn, jlL, X12_within, bI_t, bI_f, X12_no, Int.natCast_succ, Int.add_zero]
    · intro m
      show L_X12_rodsOf_18 N (L_X12_rodsOf_4 N n) (m + 1) 100 (jI k) (jI (sRt (G 102) k i + sWk (G 102) i k (G 102 (27 + i)).toNat * sRd (G 102) (G 102 140) k (sCr (G 102) i))) (jI i) (jI ((G 102 (27 + i)).toNat : Int)) (hp q G) = L_X12_rodsOf_4 N n 100 (jI k) (jI (sRt (G 102) k (i + 1))) (jI ((i + 1 : Nat) : Int)) (hp q G)
      rw [L_X12_rodsOf_18]
      simp (maxSteps := 2000000) (disch := first | assumption | omega) only [jI0, iAdd_j, iSub_j, iMul_j, iNeg_j, Option.bind_some, jlt_t, jlt_f, jlt, jle_t, jle_f, jle, jeq_t, jeq_f, jeq, ↓reduceIte, o100, w100t, l102, mBand, mStake, mKind, mCross, mCr, mKindOf, mAhead, mWhen, mStep, mRods, mRodAt, mStakeAt, mIndex, mOver, mOverIn, jlL, X12_within, bI_t, bI_f, X12_no, Int.natCast_succ]
      rfl
  · intro n
    show L_X12_rodsOf_4 N (n + 1) 100 (jI k) (jI _) (jI ((G 102 26).toNat : Int)) (hp q G) = _
    rw [L_X12_rodsOf_4]
    simp (maxSteps := 2000000) (disch := first | assumption | omega) only [jI0, iAdd_j, iSub_j, iMul_j, iNeg_j, Option.bind_some, jlt_t, jlt_f, jlt, jle_t, jle_f, jle, jeq_t, jeq_f, jeq, ↓reduceIte, o100, w100t, l102, mBand, mStake, mKind, mCross, mCr, mKindOf, mAhead, mWhen, mStep, mRods, mRodAt, mStakeAt, mIndex, mOver, mOverIn, jlL, X12_within, bI_t, bI_f, X12_no]
theorem op_rods (hN : 10000 ≤ N) (hI : INV K1 K2 q G) {k : Int} (h1 : -2147483648 ≤ k) (h2 : k < 2147483648) : OP K1 K2 q G (f_X11_rods N 0 (jI k)) (f_X12_rods N 100 (jI k)) := by
  have hB := hI.1.1; have hV := hB.1; have hT := hI.1.2.1; have g := hV.1
  by_cases c : 0 ≤ k ∧ k < G 102 1
  · refine OP.ans hI (jI (sRt (G 102) k (G 102 26).toNat)) ?_ ?_
    · unfold f_X11_rods
      simp (maxSteps := 2000000) (disch := first | assumption | omega) only [jI0, iAdd_j, iSub_j, iMul_j, iNeg_j, Option.bind_some, jlt_t, jlt_f, jlt, jle_t, jle_f, jle, jeq_t, jeq_f, jeq, ↓reduceIte, o0, o2, o12, hBand, hStake, hKind, hCross, hWeaver, oBand, oKindOf, oKind, oCr, oRing, oWv, oPer, oRows, oAhead, oWhen, oAll, oStep, oRods, oRodAt, oStakeAt, oOff, bI_t, bI_f, X11_refuse, oTaken]
    · unfold f_X12_rods
      simp (maxSteps := 2000000) (disch := first | assumption | omega) only [jI0, iAdd_j, iSub_j, iMul_j, iNeg_j, Option.bind_some, jlt_t, jlt_f, jlt, jle_t, jle_f, jle, jeq_t, jeq_f, jeq, ↓reduceIte, o100, w100t, l102, mBand, mStake, mKind, mCross, mCr, mKindOf, mAhead, mWhen, mStep, mRods, mRodAt, mStakeAt, mIndex, mOver, mOverIn, jlL, X12_within, bI_t, bI_f, X12_no, mTaken]
  · refine OP.rf hI (-2) (jI (-2)) (by unfold f_X11_rods; simp (maxSteps := 2000000) (disch := first | assumption | omega) only [jI0, iAdd_j, iSub_j, iMul_j, iNeg_j, Option.bind_some, jlt_t, jlt_f, jlt, jle_t, jle_f, jle, jeq_t, jeq_f, jeq, ↓reduceIte, o0, o2, o12, hBand, hStake, hKind, hCross, hWeaver, oBand, oKindOf, oKind, oCr, oRing, oWv, oPer, oRows, oAhead, oWhen, oAll, oStep, oRods, oRodAt, oStakeAt, oOff, bI_t, bI_f, X11_refuse]) (by intro G1 hM e eo; have hV1 := hM.1; have hT1 := hM.2; (try rw [← e] at dm); (try rw [← e] at dr); (try rw [← e] at de); (try rw [← e] at dl); (try rw [← e] at hb); (try rw [← e] at hj); (try rw [← e] at hr); (try rw [← e] at hs); (try rw [← e] at pl); (try rw [← e] at al); (try rw [← e] at g); (try rw [← e] at c); (try rw [← e] at c1); (try rw [← e] at c2); (try rw [← e] at c3); (try rw [← e] at c4); (try rw [← e] at c5); (try rw [← e] at c6); (try rw [← e] at wb); (try rw [← e] at pr); (try rw [← e] at kd); (try rw [← e] at cr); (try rw [← e] at fe); (try rw [← e] at ra); (try rw [← e] at f1); (try rw [← e] at f2); (try rw [← e] at f3); (try rw [← e] at f4); (try rw [← e]); unfold f_X12_rods; simp (maxSteps := 2000000) (disch := first | assumption | omega) only [jI0, iAdd_j, iSub_j, iMul_j, iNeg_j, Option.bind_some, jlt_t, jlt_f, jlt, jle_t, jle_f, jle, jeq_t, jeq_f, jeq, ↓reduceIte, o100, w100t, l102, mBand, mStake, mKind, mCross, mCr, mKindOf, mAhead, mWhen, mStep, mRods, mRodAt, mStakeAt, mIndex, mOver, mOverIn, jlL, X12_within, bI_t, bI_f, X12_no])
theorem op_waste (hN : 10000 ≤ N) (hI : INV K1 K2 q G) {k : Int} (h1 : -2147483648 ≤ k) (h2 : k < 2147483648) : OP K1 K2 q G (f_X11_waste N 0 (jI k)) (f_X12_waste N 100 (jI k)) := by
  have hB := hI.1.1; have hV := hB.1; have hT := hI.1.2.1; have g := hV.1
  by_cases c : 0 ≤ k ∧ k < G 102 1
  · refine OP.ans hI (jI (sWs (G 102) k (G 102 26).toNat)) ?_ ?_
    · unfold f_X11_waste
      simp (maxSteps := 2000000) (disch := first | assumption | omega) only [jI0, iAdd_j, iSub_j, iMul_j, iNeg_j, Option.bind_some, jlt_t, jlt_f, jlt, jle_t, jle_f, jle, jeq_t, jeq_f, jeq, ↓reduceIte, o0, o2, o12, hBand, hStake, hKind, hCross, hWeaver, oBand, oKindOf, oKind, oCr, oRing, oWv, oPer, oRows, oAhead, oWhen, oAll, oStep, oRods, oRodAt, oStakeAt, oOff, bI_t, bI_f, X11_refuse, oLeft]
    · unfold f_X12_waste
      simp (maxSteps := 2000000) (disch := first | assumption | omega) only [jI0, iAdd_j, iSub_j, iMul_j, iNeg_j, Option.bind_some, jlt_t, jlt_f, jlt, jle_t, jle_f, jle, jeq_t, jeq_f, jeq, ↓reduceIte, o100, w100t, l102, mBand, mStake, mKind, mCross, mCr, mKindOf, mAhead, mWhen, mStep, mRods, mRodAt, mStakeAt, mIndex, mOver, mOverIn, jlL, X12_within, bI_t, bI_f, X12_no]
      refine loopE (fun n (t : Int × Int) => L_X12_waste_24 N n 100 (jI k) (jI t.1) (jI t.2) (hp q G)) (fun i => (sWs (G 102) k i, (i : Int))) (G 102 26).toNat (by omega) ?_ ?_
      · intro n i hi
        show L_X12_waste_24 N (n + 1) 100 (jI k) (jI (sWs (G 102) k i)) (jI (i : Int)) (hp q G) = L_X12_waste_24 N n 100 (jI k) (jI (sWs (G 102) k (i + 1))) (jI ((i + 1 : Nat) : Int)) (hp q G)
        have cr := crF hV (b := i) (by omega) (by omega)
        have wb := hV.2.2.1 i (by omega) (by omega)
        rw [L_X12_waste_24]
        simp (maxSteps := 2000000) (disch := first | assumption | omega) only [jI0, iAdd_j, iSub_j, iMul_j, iNeg_j, Option.bind_some, jlt_t, jlt_f, jlt, jle_t, jle_f, jle, jeq_t, jeq_f, jeq, ↓reduceIte, o100, w100t, l102, mBand, mStake, mKind, mCross, mCr, mKindOf, mAhead, mWhen, mStep, mRods, mRodAt, mStakeAt, mIndex, mOver, mOverIn, jlL, X12_within, bI_t, bI_f, X12_no]
        refine (loopE (N := N) (fun m (t : Int × Int) => L_X12_waste_73 N (L_X12_waste_24 N n) m 100 (jI k) (jI t.1) (jI i) (jI (sLo (G 102) k i)) (jI t.2) (hp q G)) (fun j => (sWs (G 102) k i + sWk (G 102) i k j * sLo (G 102) k i, (j : Int))) (G 102 (27 + i)).toNat (by omega) ?_ ?_) |> Eq.trans ?_
        · show _ = L_X12_waste_73 N (L_X12_waste_24 N n) N 100 (jI k) (jI (sWs (G 102) k i + 0 * _)) (jI i) (jI _) (jI 0) (hp q G)
          rw [Int.zero_mul, Int.add_zero]
          rfl
        · intro m j hj
          show L_X12_waste_73 N (L_X12_waste_24 N n) (m + 1) 100 (jI k) (jI (sWs (G 102) k i + sWk (G 102) i k j * sLo (G 102) k i)) (jI i) (jI (sLo (G 102) k i)) (jI j) (hp q G) = L_X12_waste_73 N (L_X12_waste_24 N n) m 100 (jI k) (jI (sWs (G 102) k i + sWk (G 102) i k (j + 1) * sLo (G 102) k i)) (jI i) (jI (sLo (G 102) k i)) (jI ((j + 1 : Nat) : Int)) (hp q G)
          rw [L_X12_waste_73]
          simp only [sWk, sm]
          have kd := hV.2.2.2.1 i j (by omega) (by omega) (by omega) (by omega)
          by_cases d : G 102 (83 + 4 * i + j) = k
          · rw [if_pos d, Int.add_mul, Int.one_mul, ← Int.add_assoc]
            simp (maxSteps := 2000000) (disch := first | assumption | omega) only [jI0, iAdd_j, iSub_j, iMul_j, iNeg_j, Option.bind_some, jlt_t, jlt_f, jlt, jle_t, jle_f, jle, jeq_t, jeq_f, jeq, ↓reduceIte, o100, w100t, l102, mBand, mStake, mKind, mCross, mCr, mKindOf, mAhead, mWhen, mStep, mRods, mRodAt, mStakeAt, mIndex, mOver, mOverIn, jlL, X12_within, bI_t, bI_f, X12_no, Int.natCast_succ]
          · rw [if_neg d, Int.add_zero]
            simp (maxSteps := 2000000) (disch := first | assumption | omega) only [jI0, iAdd_j, iSub_j, iMul_j, iNeg_j, Option.bind_some, jlt_t, jlt_f, jlt, jle_t, jle_f, jle, jeq_t, jeq_f, jeq, ↓reduceIte, o100, w100t, l102, mBand, mStake, mKind, mCross, mCr, mKindOf, mAhead, mWhen, mStep, mRods, mRodAt, mStakeAt, mIndex, mOver, mOverIn, jlL, X12_within, bI_t, bI_f, X12_no, Int.natCast_succ, Int.add_zero]
        · intro m
          show L_X12_waste_73 N (L_X12_waste_24 N n) (m + 1) 100 (jI k) (jI (sWs (G 102) k i + sWk (G 102) i k (G 102 (27 + i)).toNat * sLo (G 102) k i)) (jI i) (jI (sLo (G 102) k i)) (jI ((G 102 (27 + i)).toNat : Int)) (hp q G) = L_X12_waste_24 N n 100 (jI k) (jI (sWs (G 102) k (i + 1))) (jI ((i + 1 : Nat) : Int)) (hp q G)
          rw [L_X12_waste_73]
          simp (maxSteps := 2000000) (disch := first | assumption | omega) only [jI0, iAdd_j, iSub_j, iMul_j, iNeg_j, Option.bind_some, jlt_t, jlt_f, jlt, jle_t, jle_f, jle, jeq_t, jeq_f, jeq, ↓reduceIte, o100, w100t, l102, mBand, mStake, mKind, mCross, mCr, mKindOf, mAhead, mWhen, mStep, mRods, mRodAt, mStakeAt, mIndex, mOver, mOverIn, jlL, X12_within, bI_t, bI_f, X12_no, Int.natCast_succ]
          rfl
      · intro n
        show L_X12_waste_24 N (n + 1) 100 (jI k) (jI _) (jI ((G 102 26).toNat : Int)) (hp q G) = _
        rw [L_X12_waste_24]
        simp (maxSteps := 2000000) (disch := first | assumption | omega) only [jI0, iAdd_j, iSub_j, iMul_j, iNeg_j, Option.bind_some, jlt_t, jlt_f, jlt, jle_t, jle_f, jle, jeq_t, jeq_f, jeq, ↓reduceIte, o100, w100t, l102, mBand, mStake, mKind, mCross, mCr, mKindOf, mAhead, mWhen, mStep, mRods, mRodAt, mStakeAt, mIndex, mOver, mOverIn, jlL, X12_within, bI_t, bI_f, X12_no]
  · refine OP.rf hI (-2) (jI (-2)) (by unfold f_X11_waste; simp (maxSteps := 2000000) (disch := first | assumption | omega) only [jI0, iAdd_j, iSub_j, iMul_j, iNeg_j, Option.bind_some, jlt_t, jlt_f, jlt, jle_t, jle_f, jle, jeq_t, jeq_f, jeq, ↓reduceIte, o0, o2, o12, hBand, hStake, hKind, hCross, hWeaver, oBand, oKindOf, oKind, oCr, oRing, oWv, oPer, oRows, oAhead, oWhen, oAll, oStep, oRods, oRodAt, oStakeAt, oOff, bI_t, bI_f, X11_refuse]) (by intro G1 hM e eo; have hV1 := hM.1; have hT1 := hM.2; (try rw [← e] at dm); (try rw [← e] at dr); (try rw [← e] at de); (try rw [← e] at dl); (try rw [← e] at hb); (try rw [← e] at hj); (try rw [← e] at hr); (try rw [← e] at hs); (try rw [← e] at pl); (try rw [← e] at al); (try rw [← e] at g); (try rw [← e] at c); (try rw [← e] at c1); (try rw [← e] at c2); (try rw [← e] at c3); (try rw [← e] at c4); (try rw [← e] at c5); (try rw [← e] at c6); (try rw [← e] at wb); (try rw [← e] at pr); (try rw [← e] at kd); (try rw [← e] at cr); (try rw [← e] at fe); (try rw [← e] at ra); (try rw [← e] at f1); (try rw [← e] at f2); (try rw [← e] at f3); (try rw [← e] at f4); (try rw [← e]); unfold f_X12_waste; simp (maxSteps := 2000000) (disch := first | assumption | omega) only [jI0, iAdd_j, iSub_j, iMul_j, iNeg_j, Option.bind_some, jlt_t, jlt_f, jlt, jle_t, jle_f, jle, jeq_t, jeq_f, jeq, ↓reduceIte, o100, w100t, l102, mBand, mStake, mKind, mCross, mCr, mKindOf, mAhead, mWhen, mStep, mRods, mRodAt, mStakeAt, mIndex, mOver, mOverIn, jlL, X12_within, bI_t, bI_f, X12_no])
theorem op_cost (hN : 10000 ≤ N) (hI : INV K1 K2 q G) : OP K1 K2 q G (f_X11_cost N 0) (f_X12_cost N 100) := by
  have hB := hI.1.1; have hV := hB.1; have hT := hI.1.2.1; have g := hV.1
  have e := hB.2.1
  refine OP.ans hI (jI (sCo (G 102) (G 102 1).toNat)) ?_ ?_
  · unfold f_X11_cost
    refine loopE (fun n (t : Int × Int) => L_X11_cost_4 N n 0 (jI t.1) (jI t.2) (hp q G)) (fun i => (sCo (G 102) i, (i : Int))) (G 102 1).toNat (by omega) ?_ ?_
    · intro n i hi
      show L_X11_cost_4 N (n + 1) 0 (jI (sCo (G 102) i)) (jI (i : Int)) (hp q G) = L_X11_cost_4 N n 0 (jI (sCo (G 102) (i + 1))) (jI ((i + 1 : Nat) : Int)) (hp q G)
      rw [L_X11_cost_4]
      simp only [sCo, sm]
      simp (maxSteps := 2000000) (disch := first | assumption | omega) only [jI0, iAdd_j, iSub_j, iMul_j, iNeg_j, Option.bind_some, jlt_t, jlt_f, jlt, jle_t, jle_f, jle, jeq_t, jeq_f, jeq, ↓reduceIte, o0, o2, o12, hBand, hStake, hKind, hCross, hWeaver, oBand, oKindOf, oKind, oCr, oRing, oWv, oPer, oRows, oAhead, oWhen, oAll, oStep, oRods, oRodAt, oStakeAt, oOff, bI_t, bI_f, X11_refuse, e, oTaken, Int.natCast_succ]
    · intro n
      show L_X11_cost_4 N (n + 1) 0 (jI _) (jI ((G 102 1).toNat : Int)) (hp q G) = _
      rw [L_X11_cost_4]
      simp (maxSteps := 2000000) (disch := first | assumption | omega) only [jI0, iAdd_j, iSub_j, iMul_j, iNeg_j, Option.bind_some, jlt_t, jlt_f, jlt, jle_t, jle_f, jle, jeq_t, jeq_f, jeq, ↓reduceIte, o0, o2, o12, hBand, hStake, hKind, hCross, hWeaver, oBand, oKindOf, oKind, oCr, oRing, oWv, oPer, oRows, oAhead, oWhen, oAll, oStep, oRods, oRodAt, oStakeAt, oOff, bI_t, bI_f, X11_refuse, e]
  · unfold f_X12_cost
    simp (maxSteps := 2000000) (disch := first | assumption | omega) only [jI0, iAdd_j, iSub_j, iMul_j, iNeg_j, Option.bind_some, jlt_t, jlt_f, jlt, jle_t, jle_f, jle, jeq_t, jeq_f, jeq, ↓reduceIte, o100, w100t, l102, mBand, mStake, mKind, mCross, mCr, mKindOf, mAhead, mWhen, mStep, mRods, mRodAt, mStakeAt, mIndex, mOver, mOverIn, jlL, X12_within, bI_t, bI_f, X12_no]
    refine loopE (fun n (t : Int × Int) => L_X12_cost_9 N n 100 (jI t.1) (jI t.2) (hp q G)) (fun i => (sCo (G 102) i, (i : Int))) (G 102 1).toNat (by omega) ?_ ?_
    · intro n i hi
      show L_X12_cost_9 N (n + 1) 100 (jI (sCo (G 102) i)) (jI (i : Int)) (hp q G) = L_X12_cost_9 N n 100 (jI (sCo (G 102) (i + 1))) (jI ((i + 1 : Nat) : Int)) (hp q G)
      rw [L_X12_cost_9]
      simp only [sCo, sm]
      simp (maxSteps := 2000000) (disch := first | assumption | omega) only [jI0, iAdd_j, iSub_j, iMul_j, iNeg_j, Option.bind_some, jlt_t, jlt_f, jlt, jle_t, jle_f, jle, jeq_t, jeq_f, jeq, ↓reduceIte, o100, w100t, l102, mBand, mStake, mKind, mCross, mCr, mKindOf, mAhead, mWhen, mStep, mRods, mRodAt, mStakeAt, mIndex, mOver, mOverIn, jlL, X12_within, bI_t, bI_f, X12_no, mTaken, Int.natCast_succ]
    · intro n
      show L_X12_cost_9 N (n + 1) 100 (jI _) (jI ((G 102 1).toNat : Int)) (hp q G) = _
      rw [L_X12_cost_9]
      simp (maxSteps := 2000000) (disch := first | assumption | omega) only [jI0, iAdd_j, iSub_j, iMul_j, iNeg_j, Option.bind_some, jlt_t, jlt_f, jlt, jle_t, jle_f, jle, jeq_t, jeq_f, jeq, ↓reduceIte, o100, w100t, l102, mBand, mStake, mKind, mCross, mCr, mKindOf, mAhead, mWhen, mStep, mRods, mRodAt, mStakeAt, mIndex, mOver, mOverIn, jlL, X12_within, bI_t, bI_f, X12_no]
theorem op_cheaper (hN : 10000 ≤ N) (hI : INV K1 K2 q G) {b : Int} (h1 : -2147483648 ≤ b) (h2 : b < 2147483648) : OP K1 K2 q G (f_X11_cheaper N 0 (jI b)) (f_X12_cheaper N 100 (jI b)) := by
  have hB := hI.1.1; have hV := hB.1; have hT := hI.1.2.1; have g := hV.1
  have e := hB.2.1
  by_cases c : 0 ≤ b ∧ b < G 102 26
  · have wb := hV.2.2.1 b c.1 c.2
    have cr := crF hV c.1 c.2
    have kd := hV.2.2.2.1 b 0 c.1 c.2 (by omega) (by omega)
    generalize hf : (fun k => sRd (G 102) (G 102 140) k (sCr (G 102) b) * G 102 (20 + k)) = f
    have fe : ∀ k, sRd (G 102) (G 102 140) k (sCr (G 102) b) * G 102 (20 + k) = f k := fun k => by rw [← hf]
    have F : ∀ k : Nat, (k : Int) < G 102 1 → 0 ≤ f k ∧ f k ≤ 138600 := fun k hk => by
      have a := rdF hV (k := k) (lap := G 102 140) (c := sCr (G 102) b) (by omega) hk (by omega) (by omega) (by omega)
      have p := hV.2.1 k (by omega) hk
      have := mulB (a := sRd (G 102) (G 102 140) k (sCr (G 102) b)) (b := G 102 (20 + k)) (c := 1400) (d := 99) (by omega) (by omega) (by omega) (by omega)
      rw [← fe]; omega
    have F2 : ∀ k : Nat, (k : Int) < G 102 1 → 0 ≤ (chB f k).1 ∧ (chB f k).1 ≤ k ∧ 0 ≤ (chB f k).2 ∧ (chB f k).2 ≤ 138600 := fun k hk => chB_r k (fun i hi => F i (by omega))
    refine OP.ans hI (jI (chB f ((G 102 1).toNat - 1)).1) ?_ ?_
    · unfold f_X11_cheaper f_X0_cheapestKind
      simp (maxSteps := 2000000) (disch := first | assumption | omega) only [jI0, iAdd_j, iSub_j, iMul_j, iNeg_j, Option.bind_some, jlt_t, jlt_f, jlt, jle_t, jle_f, jle, jeq_t, jeq_f, jeq, ↓reduceIte, o0, o2, o12, hBand, hStake, hKind, hCross, hWeaver, oBand, oKindOf, oKind, oCr, oRing, oWv, oPer, oRows, oAhead, oWhen, oAll, oStep, oRods, oRodAt, oStakeAt, oOff, bI_t, bI_f, X11_refuse]
      refine (loopE (N := N) (fun n (t : (Int × Int) × Int) => L_X0_cheapestKind_7 N n 2 (jI b) (jI t.1.1) (jI t.1.2) (jI t.2) (hp q G)) (fun i => (if i = 0 then (0, 0) else chB f (i - 1), (i : Int))) (G 102 1).toNat (r := some (jI (chB f ((G 102 1).toNat - 1)).1, hp q G)) (by omega) ?_ ?_) |> (fun z => by rw [show L_X0_cheapestKind_7 N N 2 (jI b) (jI 0) (jI 0) (jI 0) (hp q G) = _ from z]; simp (maxSteps := 2000000) (disch := first | assumption | omega) only [jI0, iAdd_j, iSub_j, iMul_j, iNeg_j, Option.bind_some, jlt_t, jlt_f, jlt, jle_t, jle_f, jle, jeq_t, jeq_f, jeq, ↓reduceIte])
      · intro n i hi
        show L_X0_cheapestKind_7 N (n + 1) 2 (jI b) (jI (if i = 0 then ((0 : Int), (0 : Int)) else chB f (i - 1)).1) (jI (if i = 0 then ((0 : Int), (0 : Int)) else chB f (i - 1)).2) (jI (i : Int)) (hp q G) = L_X0_cheapestKind_7 N n 2 (jI b) (jI (if i + 1 = 0 then ((0 : Int), (0 : Int)) else chB f (i + 1 - 1)).1) (jI (if i + 1 = 0 then ((0 : Int), (0 : Int)) else chB f (i + 1 - 1)).2) (jI ((i + 1 : Nat) : Int)) (hp q G)
        have f1 := F i (by omega)
        rw [L_X0_cheapestKind_7]
        simp only [show ¬ i + 1 = 0 by omega, ↓reduceIte, Nat.add_sub_cancel]
        match i, hi, f1 with
        | 0, hi, f1 =>
          rw [show ((0 : Nat) : Int) = 0 from rfl] at f1 ⊢
          simp (maxSteps := 2000000) (disch := first | assumption | omega) only [jI0, iAdd_j, iSub_j, iMul_j, iNeg_j, Option.bind_some, jlt_t, jlt_f, jlt, jle_t, jle_f, jle, jeq_t, jeq_f, jeq, ↓reduceIte, o0, o2, o12, hBand, hStake, hKind, hCross, hWeaver, oBand, oKindOf, oKind, oCr, oRing, oWv, oPer, oRows, oAhead, oWhen, oAll, oStep, oRods, oRodAt, oStakeAt, oOff, bI_t, bI_f, X11_refuse, e, fe, chB]
          rfl
        | i + 1, hi, f1 =>
          have f2 := F2 i (by omega)
          simp only [show ¬ i + 1 = 0 by omega, ↓reduceIte, Nat.add_sub_cancel, chB]
          rw [Int.natCast_succ] at f1 ⊢
          by_cases d : f (i + 1) < (chB f i).2 <;> simp (maxSteps := 2000000) (disch := first | assumption | omega) only [jI0, iAdd_j, iSub_j, iMul_j, iNeg_j, Option.bind_some, jlt_t, jlt_f, jlt, jle_t, jle_f, jle, jeq_t, jeq_f, jeq, ↓reduceIte, o0, o2, o12, hBand, hStake, hKind, hCross, hWeaver, oBand, oKindOf, oKind, oCr, oRing, oWv, oPer, oRows, oAhead, oWhen, oAll, oStep, oRods, oRodAt, oStakeAt, oOff, bI_t, bI_f, X11_refuse, e, fe, d, Int.natCast_succ]
      · intro n
        show L_X0_cheapestKind_7 N (n + 1) 2 (jI b) (jI (if (G 102 1).toNat = 0 then ((0 : Int), (0 : Int)) else chB f ((G 102 1).toNat - 1)).1) (jI _) (jI ((G 102 1).toNat : Int)) (hp q G) = _
        rw [L_X0_cheapestKind_7, if_neg (by omega)]
        simp (maxSteps := 2000000) (disch := first | assumption | omega) only [jI0, iAdd_j, iSub_j, iMul_j, iNeg_j, Option.bind_some, jlt_t, jlt_f, jlt, jle_t, jle_f, jle, jeq_t, jeq_f, jeq, ↓reduceIte, o0, o2, o12, hBand, hStake, hKind, hCross, hWeaver, oBand, oKindOf, oKind, oCr, oRing, oWv, oPer, oRows, oAhead, oWhen, oAll, oStep, oRods, oRodAt, oStakeAt, oOff, bI_t, bI_f, X11_refuse, e]
    · unfold f_X12_cheaper
      simp (maxSteps := 2000000) (disch := first | assumption | omega) only [jI0, iAdd_j, iSub_j, iMul_j, iNeg_j, Option.bind_some, jlt_t, jlt_f, jlt, jle_t, jle_f, jle, jeq_t, jeq_f, jeq, ↓reduceIte, o100, w100t, l102, mBand, mStake, mKind, mCross, mCr, mKindOf, mAhead, mWhen, mStep, mRods, mRodAt, mStakeAt, mIndex, mOver, mOverIn, jlL, X12_within, bI_t, bI_f, X12_no]
      refine (loopE (N := N) (fun n (t : (Int × Int) × Int) => L_X12_cheaper_27 N n 100 (jI b) (jI t.1.1) (jI t.1.2) (jI t.2) (hp q G)) (fun i => (if i = 0 then (-1, 0) else chB f (i - 1), (i : Int))) (G 102 1).toNat (r := some (jI (chB f ((G 102 1).toNat - 1)).1, hp q G)) (by omega) ?_ ?_)
      · intro n i hi
        show L_X12_cheaper_27 N (n + 1) 100 (jI b) (jI (if i = 0 then ((-1 : Int), (0 : Int)) else chB f (i - 1)).1) (jI (if i = 0 then ((-1 : Int), (0 : Int)) else chB f (i - 1)).2) (jI (i : Int)) (hp q G) = L_X12_cheaper_27 N n 100 (jI b) (jI (if i + 1 = 0 then ((-1 : Int), (0 : Int)) else chB f (i + 1 - 1)).1) (jI (if i + 1 = 0 then ((-1 : Int), (0 : Int)) else chB f (i + 1 - 1)).2) (jI ((i + 1 : Nat) : Int)) (hp q G)
        have f1 := F i (by omega)
        rw [L_X12_cheaper_27]
        simp only [show ¬ i + 1 = 0 by omega, ↓reduceIte, Nat.add_sub_cancel]
        match i, hi, f1 with
        | 0, hi, f1 =>
          rw [show ((0 : Nat) : Int) = 0 from rfl] at f1 ⊢
          simp (maxSteps := 2000000) (disch := first | assumption | omega) only [jI0, iAdd_j, iSub_j, iMul_j, iNeg_j, Option.bind_some, jlt_t, jlt_f, jlt, jle_t, jle_f, jle, jeq_t, jeq_f, jeq, ↓reduceIte, o100, w100t, l102, mBand, mStake, mKind, mCross, mCr, mKindOf, mAhead, mWhen, mStep, mRods, mRodAt, mStakeAt, mIndex, mOver, mOverIn, jlL, X12_within, bI_t, bI_f, X12_no, fe, chB]
          rfl
        | i + 1, hi, f1 =>
          have f2 := F2 i (by omega)
          simp only [show ¬ i + 1 = 0 by omega, ↓reduceIte, Nat.add_sub_cancel, chB]
          rw [Int.natCast_succ] at f1 ⊢
          by_cases d : f (i + 1) < (chB f i).2 <;> simp (maxSteps := 2000000) (disch := first | assumption | omega) only [jI0, iAdd_j, iSub_j, iMul_j, iNeg_j, Option.bind_some, jlt_t, jlt_f, jlt, jle_t, jle_f, jle, jeq_t, jeq_f, jeq, ↓reduceIte, o100, w100t, l102, mBand, mStake, mKind, mCross, mCr, mKindOf, mAhead, mWhen, mStep, mRods, mRodAt, mStakeAt, mIndex, mOver, mOverIn, jlL, X12_within, bI_t, bI_f, X12_no, fe, d, Int.natCast_succ]
      · intro n
        show L_X12_cheaper_27 N (n + 1) 100 (jI b) (jI (if (G 102 1).toNat = 0 then ((-1 : Int), (0 : Int)) else chB f ((G 102 1).toNat - 1)).1) (jI _) (jI ((G 102 1).toNat : Int)) (hp q G) = _
        rw [L_X12_cheaper_27, if_neg (by omega)]
        simp (maxSteps := 2000000) (disch := first | assumption | omega) only [jI0, iAdd_j, iSub_j, iMul_j, iNeg_j, Option.bind_some, jlt_t, jlt_f, jlt, jle_t, jle_f, jle, jeq_t, jeq_f, jeq, ↓reduceIte, o100, w100t, l102, mBand, mStake, mKind, mCross, mCr, mKindOf, mAhead, mWhen, mStep, mRods, mRodAt, mStakeAt, mIndex, mOver, mOverIn, jlL, X12_within, bI_t, bI_f, X12_no]
  · refine OP.rf hI (-2) (jI (-2)) (by unfold f_X11_cheaper; simp (maxSteps := 2000000) (disch := first | assumption | omega) only [jI0, iAdd_j, iSub_j, iMul_j, iNeg_j, Option.bind_some, jlt_t, jlt_f, jlt, jle_t, jle_f, jle, jeq_t, jeq_f, jeq, ↓reduceIte, o0, o2, o12, hBand, hStake, hKind, hCross, hWeaver, oBand, oKindOf, oKind, oCr, oRing, oWv, oPer, oRows, oAhead, oWhen, oAll, oStep, oRods, oRodAt, oStakeAt, oOff, bI_t, bI_f, X11_refuse]) (by intro G1 hM e eo; have hV1 := hM.1; have hT1 := hM.2; (try rw [← e] at dm); (try rw [← e] at dr); (try rw [← e] at de); (try rw [← e] at dl); (try rw [← e] at hb); (try rw [← e] at hj); (try rw [← e] at hr); (try rw [← e] at hs); (try rw [← e] at pl); (try rw [← e] at al); (try rw [← e] at g); (try rw [← e] at c); (try rw [← e] at c1); (try rw [← e] at c2); (try rw [← e] at c3); (try rw [← e] at c4); (try rw [← e] at c5); (try rw [← e] at c6); (try rw [← e] at wb); (try rw [← e] at pr); (try rw [← e] at kd); (try rw [← e] at cr); (try rw [← e] at fe); (try rw [← e] at ra); (try rw [← e] at f1); (try rw [← e] at f2); (try rw [← e] at f3); (try rw [← e] at f4); (try rw [← e]); unfold f_X12_cheaper; simp (maxSteps := 2000000) (disch := first | assumption | omega) only [jI0, iAdd_j, iSub_j, iMul_j, iNeg_j, Option.bind_some, jlt_t, jlt_f, jlt, jle_t, jle_f, jle, jeq_t, jeq_f, jeq, ↓reduceIte, o100, w100t, l102, mBand, mStake, mKind, mCross, mCr, mKindOf, mAhead, mWhen, mStep, mRods, mRodAt, mStakeAt, mIndex, mOver, mOverIn, jlL, X12_within, bI_t, bI_f, X12_no])
end
