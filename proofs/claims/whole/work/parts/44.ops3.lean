/-! calls: seen, overs, run -/
section
variable {K1 K2 : (Int → Int) → (Int → Int) → Prop} {q : Nat × Nat × (Nat → Nat)} {G : Nat → Int → Int} {N : Nat}
theorem bI_eq {P Q : Prop} [Decidable P] [Decidable Q] : (bI P = bI Q) = (P ↔ Q) := by
  by_cases h : P <;> by_cases k : Q
  · rw [bI_t h, bI_t k]; simp [h, k]
  · rw [bI_t h, bI_f k, jeq_f (by omega)]; simp [h, k]
  · rw [bI_f h, bI_t k, jeq_f (by omega)]; simp [h, k]
  · rw [bI_f h, bI_f k]; simp [h, k]
theorem INV.wv (hI : INV K1 K2 q G) : WV (G 12 5) (G 13) (G 102) := hI.1.2.2.2.2.2.2.2.2.2.2.1
theorem WK.wv {G1 : Nat → Int → Int} (h : WK G G1) : WV (G1 12 5) (G1 13) (G1 102) := by rw [h.e]; exact h.2
theorem op_seen (hN : 10000 ≤ N) (hI : INV K1 K2 q G) {b row s : Int} (h1 : -2147483648 ≤ b) (h2 : b < 2147483648) (h3 : -2147483648 ≤ row) (h4 : row < 2147483648) (h5 : -2147483648 ≤ s) (h6 : s < 2147483648) (P : Prop) [Decidable P] : OP K1 K2 q G (f_X11_seen N 0 (jI b) (jI row) (jI s) (bI P)) (f_X12_seen N 100 (jI b) (jI row) (jI s) (bI P)) := by
  have hB := hI.1.1; have hV := hB.1; have hT := hI.1.2.1; have g := hV.1
  by_cases c : 0 ≤ b ∧ b < G 102 26
  · have wb := hV.2.2.1 b c.1 c.2
    have pr := mulB (a := G 102 (27 + b)) (b := G 102 (51 + b)) (c := 4) (d := 40) (by omega) (by omega) (by omega) (by omega)
    by_cases c2 : 0 ≤ row ∧ row < G 102 (27 + b) * G 102 (51 + b)
    · by_cases c3 : 0 ≤ s ∧ s < G 102 0
      · obtain ⟨dm, dr, de, dl⟩ := rowDm hV c c2
        have kd := hV.2.2.2.1 b _ c.1 c.2 dm.1 dm.2
        refine OP.sc hI (if bI (sOI (G 102) b row s = true) = bI P then jI (-1) else jI (G 102 (83 + 4 * b + row % G 102 (27 + b)))) ?_ ?_
        · obtain ⟨G1, hw, e⟩ := oOver (q := q) hN hB hI.wv c c2 c3
          have hB1 := hw.bb hB
          have e2 := hw.e
          refine ⟨G1, hw.sc, ?_⟩
          unfold f_X11_seen f_X10_kindSeen
          simp (maxSteps := 2000000) (disch := first | assumption | omega | (rw [e2]; omega)) only [jI0, iAdd_j, iSub_j, iMul_j, iNeg_j, Option.bind_some, jlt_t, jlt_f, jlt, jle_t, jle_f, jle, jeq_t, jeq_f, jeq, ↓reduceIte, o0, o2, o12, hBand, hStake, hKind, hCross, hWeaver, oBand, oKindOf, oKind, oCr, oRing, oWv, oPer, oRows, oAhead, oWhen, oAll, oStep, oRods, oRodAt, oStakeAt, oOff, bI_t, bI_f, X11_refuse, e, iRem_p, e2]
          split <;> rfl
        · intro G1 s1 hM e
          refine ⟨G1, SC.refl, ?_⟩
          have hV1 := hM.1; have hT1 := hM.2; (try rw [← e] at dm); (try rw [← e] at dr); (try rw [← e] at de); (try rw [← e] at dl); (try rw [← e] at hb); (try rw [← e] at hj); (try rw [← e] at hr); (try rw [← e] at hs); (try rw [← e] at pl); (try rw [← e] at al); (try rw [← e] at g); (try rw [← e] at c); (try rw [← e] at c1); (try rw [← e] at c2); (try rw [← e] at c3); (try rw [← e] at c4); (try rw [← e] at c5); (try rw [← e] at c6); (try rw [← e] at wb); (try rw [← e] at pr); (try rw [← e] at kd); (try rw [← e] at cr); (try rw [← e] at fe); (try rw [← e] at ra); (try rw [← e] at f1); (try rw [← e] at f2); (try rw [← e] at f3); (try rw [← e] at f4); (try rw [← e])
          unfold f_X12_seen
          simp (maxSteps := 2000000) (disch := first | assumption | omega) only [jI0, iAdd_j, iSub_j, iMul_j, iNeg_j, Option.bind_some, jlt_t, jlt_f, jlt, jle_t, jle_f, jle, jeq_t, jeq_f, jeq, ↓reduceIte, o100, w100t, l102, mBand, mStake, mKind, mCross, mCr, mKindOf, mAhead, mWhen, mStep, mRods, mRodAt, mStakeAt, mIndex, mOver, mOverIn, jlL, X12_within, bI_t, bI_f, X12_no, iRem_p]
          split <;> rfl
      · refine OP.rf hI (-2) (jI (-2)) ?_ ?_
        · unfold f_X11_seen
          simp (maxSteps := 2000000) (disch := first | assumption | omega) only [jI0, iAdd_j, iSub_j, iMul_j, iNeg_j, Option.bind_some, jlt_t, jlt_f, jlt, jle_t, jle_f, jle, jeq_t, jeq_f, jeq, ↓reduceIte, o0, o2, hBand, hStake, oRows, bI_t, bI_f, X11_refuse]
        · intro G1 hM e eo
          have hV1 := hM.1; have hT1 := hM.2; (try rw [← e] at dm); (try rw [← e] at dr); (try rw [← e] at de); (try rw [← e] at dl); (try rw [← e] at hb); (try rw [← e] at hj); (try rw [← e] at hr); (try rw [← e] at hs); (try rw [← e] at pl); (try rw [← e] at al); (try rw [← e] at g); (try rw [← e] at c); (try rw [← e] at c1); (try rw [← e] at c2); (try rw [← e] at c3); (try rw [← e] at c4); (try rw [← e] at c5); (try rw [← e] at c6); (try rw [← e] at wb); (try rw [← e] at pr); (try rw [← e] at kd); (try rw [← e] at cr); (try rw [← e] at fe); (try rw [← e] at ra); (try rw [← e] at f1); (try rw [← e] at f2); (try rw [← e] at f3); (try rw [← e] at f4); (try rw [← e])
          unfold f_X12_seen
          simp (maxSteps := 2000000) (disch := first | assumption | omega) only [jI0, iAdd_j, iSub_j, iMul_j, iNeg_j, Option.bind_some, jlt_t, jlt_f, jlt, jle_t, jle_f, jle, jeq_t, jeq_f, jeq, ↓reduceIte, o100, w100t, l102, mBand, mStake, mKind, mCross, mCr, mKindOf, mAhead, mWhen, mStep, mRods, mRodAt, mStakeAt, mIndex, mOver, mOverIn, jlL, X12_within, bI_t, bI_f, X12_no]
    · refine OP.rf hI (-2) (jI (-2)) ?_ ?_
      · unfold f_X11_seen
        by_cases c4 : row < 0 <;> simp (maxSteps := 2000000) (disch := first | assumption | omega) only [jI0, iAdd_j, iSub_j, iMul_j, iNeg_j, Option.bind_some, jlt_t, jlt_f, jlt, jle_t, jle_f, jle, jeq_t, jeq_f, jeq, ↓reduceIte, o0, o2, hBand, oRows, bI_t, X11_refuse]
      · intro G1 hM e eo
        have hV1 := hM.1; have hT1 := hM.2; (try rw [← e] at dm); (try rw [← e] at dr); (try rw [← e] at de); (try rw [← e] at dl); (try rw [← e] at hb); (try rw [← e] at hj); (try rw [← e] at hr); (try rw [← e] at hs); (try rw [← e] at pl); (try rw [← e] at al); (try rw [← e] at g); (try rw [← e] at c); (try rw [← e] at c1); (try rw [← e] at c2); (try rw [← e] at c3); (try rw [← e] at c4); (try rw [← e] at c5); (try rw [← e] at c6); (try rw [← e] at wb); (try rw [← e] at pr); (try rw [← e] at kd); (try rw [← e] at cr); (try rw [← e] at fe); (try rw [← e] at ra); (try rw [← e] at f1); (try rw [← e] at f2); (try rw [← e] at f3); (try rw [← e] at f4); (try rw [← e])
        unfold f_X12_seen
        simp (maxSteps := 2000000) (disch := first | assumption | omega) only [jI0, iAdd_j, iSub_j, iMul_j, iNeg_j, Option.bind_some, jlt_t, jlt_f, jlt, jle_t, jle_f, jle, jeq_t, jeq_f, jeq, ↓reduceIte, o100, w100t, l102, mBand, mStake, mKind, mCross, mCr, mKindOf, mAhead, mWhen, mStep, mRods, mRodAt, mStakeAt, mIndex, mOver, mOverIn, jlL, X12_within, bI_t, bI_f, X12_no]
  · refine OP.rf hI (-2) (jI (-2)) ?_ ?_
    · unfold f_X11_seen
      simp (maxSteps := 2000000) (disch := first | assumption | omega) only [jI0, iAdd_j, iSub_j, iMul_j, iNeg_j, Option.bind_some, jlt_t, jlt_f, jlt, jle_t, jle_f, jle, jeq_t, jeq_f, jeq, ↓reduceIte, o0, o2, hBand, bI_f, X11_refuse]
    · intro G1 hM e eo
      have hV1 := hM.1; have hT1 := hM.2; (try rw [← e] at dm); (try rw [← e] at dr); (try rw [← e] at de); (try rw [← e] at dl); (try rw [← e] at hb); (try rw [← e] at hj); (try rw [← e] at hr); (try rw [← e] at hs); (try rw [← e] at pl); (try rw [← e] at al); (try rw [← e] at g); (try rw [← e] at c); (try rw [← e] at c1); (try rw [← e] at c2); (try rw [← e] at c3); (try rw [← e] at c4); (try rw [← e] at c5); (try rw [← e] at c6); (try rw [← e] at wb); (try rw [← e] at pr); (try rw [← e] at kd); (try rw [← e] at cr); (try rw [← e] at fe); (try rw [← e] at ra); (try rw [← e] at f1); (try rw [← e] at f2); (try rw [← e] at f3); (try rw [← e] at f4); (try rw [← e])
      unfold f_X12_seen
      simp (maxSteps := 2000000) (disch := first | assumption | omega) only [jI0, iAdd_j, iSub_j, iMul_j, iNeg_j, Option.bind_some, jlt_t, jlt_f, jlt, jle_t, jle_f, jle, jeq_t, jeq_f, jeq, ↓reduceIte, o100, w100t, l102, mBand, mStake, mKind, mCross, mCr, mKindOf, mAhead, mWhen, mStep, mRods, mRodAt, mStakeAt, mIndex, mOver, mOverIn, jlL, X12_within, bI_t, bI_f, X12_no]
def sOvs (A : Int → Int) (b s : Int) (n : Nat) : Int := sm (fun row => if sOI A b row s = true then 1 else 0) n
theorem op_overs (hN : 10000 ≤ N) (hI : INV K1 K2 q G) {b s : Int} (h1 : -2147483648 ≤ b) (h2 : b < 2147483648) (h5 : -2147483648 ≤ s) (h6 : s < 2147483648) : OP K1 K2 q G (f_X11_overs N 0 (jI b) (jI s)) (f_X12_overs N 100 (jI b) (jI s)) := by
  have hB := hI.1.1; have hV := hB.1; have hT := hI.1.2.1; have g := hV.1
  by_cases c : 0 ≤ b ∧ b < G 102 26
  · have wb := hV.2.2.1 b c.1 c.2
    have pr := mulB (a := G 102 (27 + b)) (b := G 102 (51 + b)) (c := 4) (d := 40) (by omega) (by omega) (by omega) (by omega)
    by_cases c3 : 0 ≤ s ∧ s < G 102 0
    · refine OP.sc hI (jI (sOvs (G 102) b s (G 102 (27 + b) * G 102 (51 + b)).toNat)) ?_ ?_
      · have L : ∃ G1, WK G G1 ∧ f_X10_oversAt N 12 (jI b) (jI s) (hp q G) = some (jI (sOvs (G 102) b s (G 102 (27 + b) * G 102 (51 + b)).toNat), hp q G1) := by
          unfold f_X10_oversAt
          refine loopQ (fun n (t : Int × Int × (Nat → Int → Int)) => L_X10_oversAt_5 N n 12 (jI b) (jI s) (jI t.1) (jI t.2.1) (hp q t.2.2)) (fun k t => t.1 = sOvs (G 102) b s k ∧ t.2.1 = k ∧ WK G t.2.2) (G 102 (27 + b) * G 102 (51 + b)).toNat (fun r => ∃ G1, WK G G1 ∧ r = some (jI (sOvs (G 102) b s (G 102 (27 + b) * G 102 (51 + b)).toNat), hp q G1)) (by omega) (s := (0, 0, G)) ⟨rfl, rfl, WK.refl hI.wv⟩ ?_ ?_
          · rintro n k ⟨a, i, G1⟩ hk ⟨rfl, rfl, hw⟩
            simp only at hw
            have e2 := hw.e
            have hB1 := hw.bb hB
            obtain ⟨G2, hw2, e⟩ := oOver (q := q) hN hB1 hw.wv (b := b) (row := k) (s := s) (by rw [e2]; exact c) (by rw [e2]; omega) (by rw [e2]; exact c3)
            refine ⟨(sOvs (G 102) b s (k + 1), ((k + 1 : Nat) : Int), G2), ⟨rfl, rfl, hw.trans hw2⟩, ?_⟩
            show L_X10_oversAt_5 N (n + 1) 12 (jI b) (jI s) (jI (sOvs (G 102) b s k)) (jI k) (hp q G1) = L_X10_oversAt_5 N n 12 (jI b) (jI s) (jI (sOvs (G 102) b s (k + 1))) (jI ((k + 1 : Nat) : Int)) (hp q G2)
            rw [L_X10_oversAt_5]
            simp only [sOvs, sm]
            rw [e2] at e
            by_cases d : sOI (G 102) b k s = true
            · rw [bI_t d] at e
              rw [if_pos d]
              simp (maxSteps := 2000000) (disch := first | assumption | omega | (rw [e2]; omega)) only [jI0, iAdd_j, iSub_j, iMul_j, iNeg_j, Option.bind_some, jlt_t, jlt_f, jlt, jle_t, jle_f, jle, jeq_t, jeq_f, jeq, ↓reduceIte, o0, o2, o12, hBand, hStake, hKind, hCross, hWeaver, oBand, oKindOf, oKind, oCr, oRing, oWv, oPer, oRows, oAhead, oWhen, oAll, oStep, oRods, oRodAt, oStakeAt, oOff, bI_t, bI_f, X11_refuse, e, Int.natCast_succ, e2]
            · rw [bI_f d] at e
              rw [if_neg d]
              simp (maxSteps := 2000000) (disch := first | assumption | omega | (rw [e2]; omega)) only [jI0, iAdd_j, iSub_j, iMul_j, iNeg_j, Option.bind_some, jlt_t, jlt_f, jlt, jle_t, jle_f, jle, jeq_t, jeq_f, jeq, ↓reduceIte, o0, o2, o12, hBand, hStake, hKind, hCross, hWeaver, oBand, oKindOf, oKind, oCr, oRing, oWv, oPer, oRows, oAhead, oWhen, oAll, oStep, oRods, oRodAt, oStakeAt, oOff, bI_t, bI_f, X11_refuse, e, Int.natCast_succ, Int.add_zero, e2]
          · rintro n ⟨a, i, G1⟩ ⟨rfl, rfl, hw⟩
            simp only at hw
            have e2 := hw.e
            have hB1 := hw.bb hB
            refine ⟨G1, hw, ?_⟩
            show L_X10_oversAt_5 N (n + 1) 12 (jI b) (jI s) (jI _) (jI ((G 102 (27 + b) * G 102 (51 + b)).toNat : Int)) (hp q G1) = _
            rw [L_X10_oversAt_5]
            simp (maxSteps := 2000000) (disch := first | assumption | omega | (rw [e2]; omega)) only [jI0, iAdd_j, iSub_j, iMul_j, iNeg_j, Option.bind_some, jlt_t, jlt_f, jlt, jle_t, jle_f, jle, jeq_t, jeq_f, jeq, ↓reduceIte, o0, o2, o12, hBand, hStake, hKind, hCross, hWeaver, oBand, oKindOf, oKind, oCr, oRing, oWv, oPer, oRows, oAhead, oWhen, oAll, oStep, oRods, oRodAt, oStakeAt, oOff, bI_t, bI_f, X11_refuse, e2]
        obtain ⟨G1, hw, e⟩ := L
        refine ⟨G1, hw.sc, ?_⟩
        unfold f_X11_overs
        simp (maxSteps := 2000000) (disch := first | assumption | omega) only [jI0, iAdd_j, iSub_j, iMul_j, iNeg_j, Option.bind_some, jlt_t, jlt_f, jlt, jle_t, jle_f, jle, jeq_t, jeq_f, jeq, ↓reduceIte, o0, o2, o12, hBand, hStake, hKind, hCross, hWeaver, oBand, oKindOf, oKind, oCr, oRing, oWv, oPer, oRows, oAhead, oWhen, oAll, oStep, oRods, oRodAt, oStakeAt, oOff, bI_t, bI_f, X11_refuse, e]
      · intro G1 s1 hM e
        refine ⟨G1, SC.refl, ?_⟩
        have hV1 := hM.1; have hT1 := hM.2; (try rw [← e] at dm); (try rw [← e] at dr); (try rw [← e] at de); (try rw [← e] at dl); (try rw [← e] at hb); (try rw [← e] at hj); (try rw [← e] at hr); (try rw [← e] at hs); (try rw [← e] at pl); (try rw [← e] at al); (try rw [← e] at g); (try rw [← e] at c); (try rw [← e] at c1); (try rw [← e] at c2); (try rw [← e] at c3); (try rw [← e] at c4); (try rw [← e] at c5); (try rw [← e] at c6); (try rw [← e] at wb); (try rw [← e] at pr); (try rw [← e] at kd); (try rw [← e] at cr); (try rw [← e] at fe); (try rw [← e] at ra); (try rw [← e] at f1); (try rw [← e] at f2); (try rw [← e] at f3); (try rw [← e] at f4); (try rw [← e])
        unfold f_X12_overs
        simp (maxSteps := 2000000) (disch := first | assumption | omega) only [jI0, iAdd_j, iSub_j, iMul_j, iNeg_j, Option.bind_some, jlt_t, jlt_f, jlt, jle_t, jle_f, jle, jeq_t, jeq_f, jeq, ↓reduceIte, o100, w100t, l102, mBand, mStake, mKind, mCross, mCr, mKindOf, mAhead, mWhen, mStep, mRods, mRodAt, mStakeAt, mIndex, mOver, mOverIn, jlL, X12_within, bI_t, bI_f, X12_no]
        refine loopE (fun n (t : Int × Int) => L_X12_overs_33 N n 100 (jI b) (jI s) (jI t.1) (jI t.2) (hp q G1)) (fun k => (sOvs (G1 102) b s k, (k : Int))) (G1 102 (27 + b) * G1 102 (51 + b)).toNat (by omega) ?_ ?_
        · intro n k hk
          show L_X12_overs_33 N (n + 1) 100 (jI b) (jI s) (jI (sOvs (G1 102) b s k)) (jI k) (hp q G1) = L_X12_overs_33 N n 100 (jI b) (jI s) (jI (sOvs (G1 102) b s (k + 1))) (jI ((k + 1 : Nat) : Int)) (hp q G1)
          rw [L_X12_overs_33]
          simp only [sOvs, sm]
          by_cases d : sOI (G1 102) b k s = true
          · rw [if_pos d]
            simp (maxSteps := 2000000) (disch := first | assumption | omega) only [jI0, iAdd_j, iSub_j, iMul_j, iNeg_j, Option.bind_some, jlt_t, jlt_f, jlt, jle_t, jle_f, jle, jeq_t, jeq_f, jeq, ↓reduceIte, o100, w100t, l102, mBand, mStake, mKind, mCross, mCr, mKindOf, mAhead, mWhen, mStep, mRods, mRodAt, mStakeAt, mIndex, mOver, mOverIn, jlL, X12_within, bI_t, bI_f, X12_no, Int.natCast_succ]
          · rw [if_neg d]
            simp (maxSteps := 2000000) (disch := first | assumption | omega) only [jI0, iAdd_j, iSub_j, iMul_j, iNeg_j, Option.bind_some, jlt_t, jlt_f, jlt, jle_t, jle_f, jle, jeq_t, jeq_f, jeq, ↓reduceIte, o100, w100t, l102, mBand, mStake, mKind, mCross, mCr, mKindOf, mAhead, mWhen, mStep, mRods, mRodAt, mStakeAt, mIndex, mOver, mOverIn, jlL, X12_within, bI_t, bI_f, X12_no, Int.natCast_succ, Int.add_zero]
        · intro n
          show L_X12_overs_33 N (n + 1) 100 (jI b) (jI s) (jI _) (jI ((G1 102 (27 + b) * G1 102 (51 + b)).toNat : Int)) (hp q G1) = _
          rw [L_X12_overs_33]
          simp (maxSteps := 2000000) (disch := first | assumption | omega) only [jI0, iAdd_j, iSub_j, iMul_j, iNeg_j, Option.bind_some, jlt_t, jlt_f, jlt, jle_t, jle_f, jle, jeq_t, jeq_f, jeq, ↓reduceIte, o100, l102]
    · refine OP.rf hI (-2) (jI (-2)) ?_ ?_
      · unfold f_X11_overs
        simp (maxSteps := 2000000) (disch := first | assumption | omega) only [jI0, iAdd_j, iSub_j, iMul_j, iNeg_j, Option.bind_some, jlt_t, jlt_f, jlt, jle_t, jle_f, jle, jeq_t, jeq_f, jeq, ↓reduceIte, o0, o2, hBand, hStake, bI_t, bI_f, X11_refuse]
      · intro G1 hM e eo
        have hV1 := hM.1; have hT1 := hM.2; (try rw [← e] at dm); (try rw [← e] at dr); (try rw [← e] at de); (try rw [← e] at dl); (try rw [← e] at hb); (try rw [← e] at hj); (try rw [← e] at hr); (try rw [← e] at hs); (try rw [← e] at pl); (try rw [← e] at al); (try rw [← e] at g); (try rw [← e] at c); (try rw [← e] at c1); (try rw [← e] at c2); (try rw [← e] at c3); (try rw [← e] at c4); (try rw [← e] at c5); (try rw [← e] at c6); (try rw [← e] at wb); (try rw [← e] at pr); (try rw [← e] at kd); (try rw [← e] at cr); (try rw [← e] at fe); (try rw [← e] at ra); (try rw [← e] at f1); (try rw [← e] at f2); (try rw [← e] at f3); (try rw [← e] at f4); (try rw [← e])
        unfold f_X12_overs
        simp (maxSteps := 2000000) (disch := first | assumption | omega) only [jI0, iAdd_j, iSub_j, iMul_j, iNeg_j, Option.bind_some, jlt_t, jlt_f, jlt, jle_t, jle_f, jle, jeq_t, jeq_f, jeq, ↓reduceIte, o100, w100t, l102, mBand, mStake, mKind, mCross, mCr, mKindOf, mAhead, mWhen, mStep, mRods, mRodAt, mStakeAt, mIndex, mOver, mOverIn, jlL, X12_within, bI_t, bI_f, X12_no]
  · refine OP.rf hI (-2) (jI (-2)) ?_ ?_
    · unfold f_X11_overs
      simp (maxSteps := 2000000) (disch := first | assumption | omega) only [jI0, iAdd_j, iSub_j, iMul_j, iNeg_j, Option.bind_some, jlt_t, jlt_f, jlt, jle_t, jle_f, jle, jeq_t, jeq_f, jeq, ↓reduceIte, o0, o2, hBand, bI_f, X11_refuse]
    · intro G1 hM e eo
      have hV1 := hM.1; have hT1 := hM.2; (try rw [← e] at dm); (try rw [← e] at dr); (try rw [← e] at de); (try rw [← e] at dl); (try rw [← e] at hb); (try rw [← e] at hj); (try rw [← e] at hr); (try rw [← e] at hs); (try rw [← e] at pl); (try rw [← e] at al); (try rw [← e] at g); (try rw [← e] at c); (try rw [← e] at c1); (try rw [← e] at c2); (try rw [← e] at c3); (try rw [← e] at c4); (try rw [← e] at c5); (try rw [← e] at c6); (try rw [← e] at wb); (try rw [← e] at pr); (try rw [← e] at kd); (try rw [← e] at cr); (try rw [← e] at fe); (try rw [← e] at ra); (try rw [← e] at f1); (try rw [← e] at f2); (try rw [← e] at f3); (try rw [← e] at f4); (try rw [← e])
      unfold f_X12_overs
      simp (maxSteps := 2000000) (disch := first | assumption | omega) only [jI0, iAdd_j, iSub_j, iMul_j, iNeg_j, Option.bind_some, jlt_t, jlt_f, jlt, jle_t, jle_f, jle, jeq_t, jeq_f, jeq, ↓reduceIte, o100, w100t, l102, mBand, mStake, mKind, mCross, mCr, mKindOf, mAhead, mWhen, mStep, mRods, mRodAt, mStakeAt, mIndex, mOver, mOverIn, jlL, X12_within, bI_t, bI_f, X12_no]
end
