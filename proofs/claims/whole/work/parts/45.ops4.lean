/-! the call run -/
section
variable {K1 K2 : (Int → Int) → (Int → Int) → Prop} {q : Nat × Nat × (Nat → Nat)} {G : Nat → Int → Int} {N : Nat}
def bz (b : Bool) : Int := if b = true then 1 else 0
theorem bI_bz (b : Bool) : bI (b = true) = jI (bz b) := rfl
theorem bz_r (b : Bool) : 0 ≤ bz b ∧ bz b ≤ 1 := by cases b <;> decide
/-- most, now, was -/
def sRn (f : Int → Bool) : Nat → Int × Int × Int
  | 0 => (0, 0, 0)
  | k + 1 =>
    let now := if 0 < k ∧ bz (f k) = (sRn f k).2.2 then (sRn f k).2.1 + 1 else 1
    (max (sRn f k).1 now, now, bz (f k))
theorem sRn_r (f : Int → Bool) : ∀ k, 0 ≤ (sRn f k).1 ∧ (sRn f k).1 ≤ k ∧ 0 ≤ (sRn f k).2.1 ∧ (sRn f k).2.1 ≤ k ∧ 0 ≤ (sRn f k).2.2 ∧ (sRn f k).2.2 ≤ 1
  | 0 => ⟨Int.le_refl _, Int.le_refl _, Int.le_refl _, Int.le_refl _, Int.le_refl _, show (0 : Int) ≤ 1 by omega⟩
  | k + 1 => by
    have := sRn_r f k
    have := bz_r (f k)
    simp only [sRn]
    split <;> omega
theorem op_run (hN : 10000 ≤ N) (hI : INV K1 K2 q G) {b s : Int} (h1 : -2147483648 ≤ b) (h2 : b < 2147483648) (h5 : -2147483648 ≤ s) (h6 : s < 2147483648) : OP K1 K2 q G (f_X11_run N 0 (jI b) (jI s)) (f_X12_run N 100 (jI b) (jI s)) := by
  have hB := hI.1.1; have hV := hB.1; have hT := hI.1.2.1; have g := hV.1
  by_cases c : 0 ≤ b ∧ b < G 102 26
  · have wb := hV.2.2.1 b c.1 c.2
    have pr := mulB (a := G 102 (27 + b)) (b := G 102 (51 + b)) (c := 4) (d := 40) (by omega) (by omega) (by omega) (by omega)
    by_cases c3 : 0 ≤ s ∧ s < G 102 0
    · generalize hf : (fun row => sOI (G 102) b row s) = f
      have fe : ∀ k, sOI (G 102) b k s = f k := fun k => by rw [← hf]
      refine OP.sc hI (jI (sRn f (G 102 (27 + b) * G 102 (51 + b)).toNat).1) ?_ ?_
      · have L : ∃ G1, WK G G1 ∧ f_X10_longestRun N 12 (jI b) (jI s) (hp q G) = some (jI (sRn f (G 102 (27 + b) * G 102 (51 + b)).toNat).1, hp q G1) := by
          unfold f_X10_longestRun
          refine loopQ (fun n (t : (Int × Int × Int) × Int × (Nat → Int → Int)) => L_X10_longestRun_11 N n 12 (jI b) (jI s) (jI t.1.1) (jI t.1.2.1) (jI t.1.2.2) (jI t.2.1) (hp q t.2.2)) (fun k t => t.1 = sRn f k ∧ t.2.1 = k ∧ WK G t.2.2) (G 102 (27 + b) * G 102 (51 + b)).toNat (fun r => ∃ G1, WK G G1 ∧ r = some (jI (sRn f (G 102 (27 + b) * G 102 (51 + b)).toNat).1, hp q G1)) (by omega) (s := ((0, 0, 0), 0, G)) ⟨rfl, rfl, WK.refl hI.wv⟩ ?_ ?_
          · rintro n k ⟨a, i, G1⟩ hk ⟨rfl, rfl, hw⟩
            simp only at hw
            have e2 := hw.e
            have hB1 := hw.bb hB
            obtain ⟨G2, hw2, e⟩ := oOver (q := q) hN hB1 hw.wv (b := b) (row := k) (s := s) (by rw [e2]; exact c) (by rw [e2]; omega) (by rw [e2]; exact c3)
            refine ⟨(sRn f (k + 1), ((k + 1 : Nat) : Int), G2), ⟨rfl, rfl, hw.trans hw2⟩, ?_⟩
            show L_X10_longestRun_11 N (n + 1) 12 (jI b) (jI s) (jI (sRn f k).1) (jI (sRn f k).2.1) (jI (sRn f k).2.2) (jI k) (hp q G1) = L_X10_longestRun_11 N n 12 (jI b) (jI s) (jI (sRn f (k + 1)).1) (jI (sRn f (k + 1)).2.1) (jI (sRn f (k + 1)).2.2) (jI ((k + 1 : Nat) : Int)) (hp q G2)
            rw [L_X10_longestRun_11]
            have rr := sRn_r f k
            have br := bz_r (f k)
            rw [e2, fe, bI_bz] at e
            simp only [sRn]
            by_cases d0 : 0 < (k : Int)
            · by_cases d : bz (f k) = (sRn f k).2.2
              · simp (maxSteps := 2000000) (disch := first | assumption | omega | (rw [e2]; omega)) only [jI0, iAdd_j, iSub_j, iMul_j, iNeg_j, Option.bind_some, jlt_t, jlt_f, jlt, jle_t, jle_f, jle, jeq_t, jeq_f, jeq, ↓reduceIte, o0, o2, o12, hBand, hStake, hKind, hCross, hWeaver, oBand, oKindOf, oKind, oCr, oRing, oWv, oPer, oRows, oAhead, oWhen, oAll, oStep, oRods, oRodAt, oStakeAt, oOff, bI_t, bI_f, X11_refuse, e, d, d0, show 0 < k by omega, true_and, Int.natCast_succ, iMax_j, e2]
              · simp (maxSteps := 2000000) (disch := first | assumption | omega | (rw [e2]; omega)) only [jI0, iAdd_j, iSub_j, iMul_j, iNeg_j, Option.bind_some, jlt_t, jlt_f, jlt, jle_t, jle_f, jle, jeq_t, jeq_f, jeq, ↓reduceIte, o0, o2, o12, hBand, hStake, hKind, hCross, hWeaver, oBand, oKindOf, oKind, oCr, oRing, oWv, oPer, oRows, oAhead, oWhen, oAll, oStep, oRods, oRodAt, oStakeAt, oOff, bI_t, bI_f, X11_refuse, e, d, d0, show 0 < k by omega, true_and, Int.natCast_succ, iMax_j, e2]
            · simp (maxSteps := 2000000) (disch := first | assumption | omega | (rw [e2]; omega)) only [jI0, iAdd_j, iSub_j, iMul_j, iNeg_j, Option.bind_some, jlt_t, jlt_f, jlt, jle_t, jle_f, jle, jeq_t, jeq_f, jeq, ↓reduceIte, o0, o2, o12, hBand, hStake, hKind, hCross, hWeaver, oBand, oKindOf, oKind, oCr, oRing, oWv, oPer, oRows, oAhead, oWhen, oAll, oStep, oRods, oRodAt, oStakeAt, oOff, bI_t, bI_f, X11_refuse, e, d0, show ¬ 0 < k by omega, false_and, Int.natCast_succ, iMax_j, e2]
          · rintro n ⟨a, i, G1⟩ ⟨rfl, rfl, hw⟩
            simp only at hw
            have e2 := hw.e
            have hB1 := hw.bb hB
            refine ⟨G1, hw, ?_⟩
            show L_X10_longestRun_11 N (n + 1) 12 (jI b) (jI s) (jI _) (jI _) (jI _) (jI ((G 102 (27 + b) * G 102 (51 + b)).toNat : Int)) (hp q G1) = _
            rw [L_X10_longestRun_11]
            simp (maxSteps := 2000000) (disch := first | assumption | omega | (rw [e2]; omega)) only [jI0, iAdd_j, iSub_j, iMul_j, iNeg_j, Option.bind_some, jlt_t, jlt_f, jlt, jle_t, jle_f, jle, jeq_t, jeq_f, jeq, ↓reduceIte, o0, o2, o12, hBand, hStake, hKind, hCross, hWeaver, oBand, oKindOf, oKind, oCr, oRing, oWv, oPer, oRows, oAhead, oWhen, oAll, oStep, oRods, oRodAt, oStakeAt, oOff, bI_t, bI_f, X11_refuse, e2]
        obtain ⟨G1, hw, e⟩ := L
        refine ⟨G1, hw.sc, ?_⟩
        unfold f_X11_run
        simp (maxSteps := 2000000) (disch := first | assumption | omega) only [jI0, iAdd_j, iSub_j, iMul_j, iNeg_j, Option.bind_some, jlt_t, jlt_f, jlt, jle_t, jle_f, jle, jeq_t, jeq_f, jeq, ↓reduceIte, o0, o2, o12, hBand, hStake, hKind, hCross, hWeaver, oBand, oKindOf, oKind, oCr, oRing, oWv, oPer, oRows, oAhead, oWhen, oAll, oStep, oRods, oRodAt, oStakeAt, oOff, bI_t, bI_f, X11_refuse, e]
      · intro G1 s1 hM e
        refine ⟨G1, SC.refl, ?_⟩
        have hV1 := hM.1; have hT1 := hM.2; (try rw [← e] at dm); (try rw [← e] at dr); (try rw [← e] at de); (try rw [← e] at dl); (try rw [← e] at hb); (try rw [← e] at hj); (try rw [← e] at hr); (try rw [← e] at hs); (try rw [← e] at pl); (try rw [← e] at al); (try rw [← e] at g); (try rw [← e] at c); (try rw [← e] at c1); (try rw [← e] at c2); (try rw [← e] at c3); (try rw [← e] at c4); (try rw [← e] at c5); (try rw [← e] at c6); (try rw [← e] at wb); (try rw [← e] at pr); (try rw [← e] at kd); (try rw [← e] at cr); (try rw [← e] at fe); (try rw [← e] at ra); (try rw [← e] at f1); (try rw [← e] at f2); (try rw [← e] at f3); (try rw [← e] at f4); (try rw [← e])
        unfold f_X12_run
        simp (maxSteps := 2000000) (disch := first | assumption | omega) only [jI0, iAdd_j, iSub_j, iMul_j, iNeg_j, Option.bind_some, jlt_t, jlt_f, jlt, jle_t, jle_f, jle, jeq_t, jeq_f, jeq, ↓reduceIte, o100, w100t, l102, mBand, mStake, mKind, mCross, mCr, mKindOf, mAhead, mWhen, mStep, mRods, mRodAt, mStakeAt, mIndex, mOver, mOverIn, jlL, X12_within, bI_t, bI_f, X12_no]
        refine loopE (fun n (t : (Int × Int × Int) × Int) => L_X12_run_39 N n 100 (jI b) (jI s) (jI t.1.1) (jI t.1.2.1) (jI t.1.2.2) (jI t.2) (hp q G1)) (fun k => (sRn f k, (k : Int))) (G1 102 (27 + b) * G1 102 (51 + b)).toNat (by omega) ?_ ?_
        · intro n k hk
          show L_X12_run_39 N (n + 1) 100 (jI b) (jI s) (jI (sRn f k).1) (jI (sRn f k).2.1) (jI (sRn f k).2.2) (jI k) (hp q G1) = L_X12_run_39 N n 100 (jI b) (jI s) (jI (sRn f (k + 1)).1) (jI (sRn f (k + 1)).2.1) (jI (sRn f (k + 1)).2.2) (jI ((k + 1 : Nat) : Int)) (hp q G1)
          have rr := sRn_r f k
          have br := bz_r (f k)
          have J : ∀ v : Int, 0 ≤ v → v ≤ 200 → J_X12_run_93 N (L_X12_run_39 N n) 100 (jI b) (jI s) (jI (sRn f k).1) (jI k) (jI (bz (f k))) (jI v) (hp q G1) = L_X12_run_39 N n 100 (jI b) (jI s) (jI (max (sRn f k).1 v)) (jI v) (jI (bz (f k))) (jI (k + 1)) (hp q G1) := by
            intro v v0 v1
            unfold J_X12_run_93
            by_cases d : (sRn f k).1 < v
            · simp (maxSteps := 2000000) (disch := first | assumption | omega) only [jI0, iAdd_j, iSub_j, iMul_j, iNeg_j, Option.bind_some, jlt_t, jlt_f, jlt, jle_t, jle_f, jle, jeq_t, jeq_f, jeq, ↓reduceIte]
              rw [Int.max_eq_right (by omega)]
            · simp (maxSteps := 2000000) (disch := first | assumption | omega) only [jI0, iAdd_j, iSub_j, iMul_j, iNeg_j, Option.bind_some, jlt_t, jlt_f, jlt, jle_t, jle_f, jle, jeq_t, jeq_f, jeq, ↓reduceIte]
              rw [Int.max_eq_left (by omega)]
          rw [L_X12_run_39]
          simp only [sRn]
          by_cases d0 : 0 < (k : Int)
          · by_cases d : bz (f k) = (sRn f k).2.2
            · simp (maxSteps := 2000000) (disch := first | assumption | omega) only [jI0, iAdd_j, iSub_j, iMul_j, iNeg_j, Option.bind_some, jlt_t, jlt_f, jlt, jle_t, jle_f, jle, jeq_t, jeq_f, jeq, ↓reduceIte, o100, w100t, l102, mBand, mStake, mKind, mCross, mCr, mKindOf, mAhead, mWhen, mStep, mRods, mRodAt, mStakeAt, mIndex, mOver, mOverIn, jlL, X12_within, bI_t, bI_f, X12_no, fe, bI_bz, d, d0, show 0 < k by omega, true_and, Int.natCast_succ, J]
              rw [← d]
              simp (maxSteps := 2000000) (disch := first | assumption | omega) only [jI0, iAdd_j, iSub_j, iMul_j, iNeg_j, Option.bind_some, jlt_t, jlt_f, jlt, jle_t, jle_f, jle, jeq_t, jeq_f, jeq, ↓reduceIte, J]
            · simp (maxSteps := 2000000) (disch := first | assumption | omega) only [jI0, iAdd_j, iSub_j, iMul_j, iNeg_j, Option.bind_some, jlt_t, jlt_f, jlt, jle_t, jle_f, jle, jeq_t, jeq_f, jeq, ↓reduceIte, o100, w100t, l102, mBand, mStake, mKind, mCross, mCr, mKindOf, mAhead, mWhen, mStep, mRods, mRodAt, mStakeAt, mIndex, mOver, mOverIn, jlL, X12_within, bI_t, bI_f, X12_no, fe, bI_bz, d, d0, show 0 < k by omega, true_and, Int.natCast_succ, J]
          · simp (maxSteps := 2000000) (disch := first | assumption | omega) only [jI0, iAdd_j, iSub_j, iMul_j, iNeg_j, Option.bind_some, jlt_t, jlt_f, jlt, jle_t, jle_f, jle, jeq_t, jeq_f, jeq, ↓reduceIte, o100, w100t, l102, mBand, mStake, mKind, mCross, mCr, mKindOf, mAhead, mWhen, mStep, mRods, mRodAt, mStakeAt, mIndex, mOver, mOverIn, jlL, X12_within, bI_t, bI_f, X12_no, fe, bI_bz, d0, show ¬ 0 < k by omega, false_and, Int.natCast_succ, J]
        · intro n
          show L_X12_run_39 N (n + 1) 100 (jI b) (jI s) (jI _) (jI _) (jI _) (jI ((G1 102 (27 + b) * G1 102 (51 + b)).toNat : Int)) (hp q G1) = _
          rw [L_X12_run_39]
          simp (maxSteps := 2000000) (disch := first | assumption | omega) only [jI0, iAdd_j, iSub_j, iMul_j, iNeg_j, Option.bind_some, jlt_t, jlt_f, jlt, jle_t, jle_f, jle, jeq_t, jeq_f, jeq, ↓reduceIte, o100, w100t, l102, mBand, mStake, mKind, mCross, mCr, mKindOf, mAhead, mWhen, mStep, mRods, mRodAt, mStakeAt, mIndex, mOver, mOverIn, jlL, X12_within, bI_t, bI_f, X12_no]
    · refine OP.rf hI (-2) (jI (-2)) ?_ ?_
      · unfold f_X11_run
        simp (maxSteps := 2000000) (disch := first | assumption | omega) only [jI0, iAdd_j, iSub_j, iMul_j, iNeg_j, Option.bind_some, jlt_t, jlt_f, jlt, jle_t, jle_f, jle, jeq_t, jeq_f, jeq, ↓reduceIte, o0, o2, hBand, hStake, bI_t, bI_f, X11_refuse]
      · intro G1 hM e eo
        have hV1 := hM.1; have hT1 := hM.2; (try rw [← e] at dm); (try rw [← e] at dr); (try rw [← e] at de); (try rw [← e] at dl); (try rw [← e] at hb); (try rw [← e] at hj); (try rw [← e] at hr); (try rw [← e] at hs); (try rw [← e] at pl); (try rw [← e] at al); (try rw [← e] at g); (try rw [← e] at c); (try rw [← e] at c1); (try rw [← e] at c2); (try rw [← e] at c3); (try rw [← e] at c4); (try rw [← e] at c5); (try rw [← e] at c6); (try rw [← e] at wb); (try rw [← e] at pr); (try rw [← e] at kd); (try rw [← e] at cr); (try rw [← e] at fe); (try rw [← e] at ra); (try rw [← e] at f1); (try rw [← e] at f2); (try rw [← e] at f3); (try rw [← e] at f4); (try rw [← e])
        unfold f_X12_run
        simp (maxSteps := 2000000) (disch := first | assumption | omega) only [jI0, iAdd_j, iSub_j, iMul_j, iNeg_j, Option.bind_some, jlt_t, jlt_f, jlt, jle_t, jle_f, jle, jeq_t, jeq_f, jeq, ↓reduceIte, o100, w100t, l102, mBand, mStake, mKind, mCross, mCr, mKindOf, mAhead, mWhen, mStep, mRods, mRodAt, mStakeAt, mIndex, mOver, mOverIn, jlL, X12_within, bI_t, bI_f, X12_no]
  · refine OP.rf hI (-2) (jI (-2)) ?_ ?_
    · unfold f_X11_run
      simp (maxSteps := 2000000) (disch := first | assumption | omega) only [jI0, iAdd_j, iSub_j, iMul_j, iNeg_j, Option.bind_some, jlt_t, jlt_f, jlt, jle_t, jle_f, jle, jeq_t, jeq_f, jeq, ↓reduceIte, o0, o2, hBand, bI_f, X11_refuse]
    · intro G1 hM e eo
      have hV1 := hM.1; have hT1 := hM.2; (try rw [← e] at dm); (try rw [← e] at dr); (try rw [← e] at de); (try rw [← e] at dl); (try rw [← e] at hb); (try rw [← e] at hj); (try rw [← e] at hr); (try rw [← e] at hs); (try rw [← e] at pl); (try rw [← e] at al); (try rw [← e] at g); (try rw [← e] at c); (try rw [← e] at c1); (try rw [← e] at c2); (try rw [← e] at c3); (try rw [← e] at c4); (try rw [← e] at c5); (try rw [← e] at c6); (try rw [← e] at wb); (try rw [← e] at pr); (try rw [← e] at kd); (try rw [← e] at cr); (try rw [← e] at fe); (try rw [← e] at ra); (try rw [← e] at f1); (try rw [← e] at f2); (try rw [← e] at f3); (try rw [← e] at f4); (try rw [← e])
      unfold f_X12_run
      simp (maxSteps := 2000000) (disch := first | assumption | omega) only [jI0, iAdd_j, iSub_j, iMul_j, iNeg_j, Option.bind_some, jlt_t, jlt_f, jlt, jle_t, jle_f, jle, jeq_t, jeq_f, jeq, ↓reduceIte, o100, w100t, l102, mBand, mStake, mKind, mCross, mCr, mKindOf, mAhead, mWhen, mStep, mRods, mRodAt, mStakeAt, mIndex, mOver, mOverIn, jlL, X12_within, bI_t, bI_f, X12_no]
end
