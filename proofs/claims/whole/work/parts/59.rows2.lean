/-! write, copy -/
/-- a call that answers a long -/
def OP64 (K1 K2 : (Int → Int) → (Int → Int) → Prop) (q : Nat × Nat × (Nat → Nat)) (G : Nat → Int → Int) (F1 F2 : mH → Option (Int64 × mH)) : Prop := ∃ r q' G1 G2, F1 (hp q G) = some (r, hp q' G1) ∧ F2 (hp q' G1) = some (r, hp q' G2) ∧ INV K1 K2 q' G2
def cutv (so : Int) (x : Int64) : Int64 := if so = 0 then (iByt x.toInt32).toInt64 else if so = 1 then (iSho x.toInt32).toInt64 else if so = 2 then x.toInt32.toInt64 else x
theorem cut01 {so : Int} : cutv so (jL 0) = jL 0 ∧ cutv so (jL 1) = jL 1 := by
  unfold cutv
  split
  · exact ⟨by decide, by decide⟩
  · split
    · exact ⟨by decide, by decide⟩
    · split
      · exact ⟨by decide, by decide⟩
      · exact ⟨rfl, rfl⟩
theorem emod_succ {x c : Int} (hc : 0 < c) : (x + 1) % c = if x % c + 1 < c then x % c + 1 else 0 := by
  have m0 := Int.emod_nonneg x (show c ≠ 0 by omega)
  have m1 := Int.emod_lt_of_pos x hc
  have em := Int.emod_add_mul_ediv x c
  rw [show x + 1 = (x % c + 1) + c * (x / c) by omega, Int.add_mul_emod_self_left]
  by_cases d : x % c + 1 < c
  · rw [if_pos d]
    exact Int.emod_eq_of_lt (by omega) d
  · rw [if_neg d, show x % c + 1 = c by omega, Int.emod_self]
section
variable {K1 K2 : (Int → Int) → (Int → Int) → Prop} {q : Nat × Nat × (Nat → Nat)} {G : Nat → Int → Int} {N : Nat}
theorem OP64.rf {F1 F2 : mH → Option (Int64 × mH)} (hI : INV K1 K2 q G) (c : Int) (r : Int64) (h1 : F1 (hp q G) = some (r, hp q (up G 98 (rfz c) (G 98 (rfz c) + 1)))) (h2 : ∀ G1, MV G1 → G1 102 = G 102 → (∀ a, a ≠ 98 → G1 a = G a) → F2 (hp q G1) = some (r, hp q (up G1 101 (rfz c) (G1 101 (rfz c) + 1)))) : OP64 K1 K2 q G F1 F2 := by
  refine ⟨r, q, _, _, h1, h2 _ ⟨?_, ?_⟩ ?_ ?_, ?_, ?_⟩
  · exact hI.1.1.1
  · exact hI.1.2.1
  · rfl
  · intro a ha; exact up_ne ha
  · refine INV0.of hI.1 ?_ hI.1.2.1 rfl rfl rfl rfl rfl rfl rfl rfl rfl
    intro a ha
    rw [up_ne (by rintro rfl; cases ha), up_ne (by rintro rfl; cases ha)]
  · intro k k0 k1
    rw [up_ne (by decide), up_eq, up_eq, up_ne (by decide)]
    have e := hI.2 k k0 k1
    have e2 := hI.2 (rfz c) (rfz_r c).1 (rfz_r c).2
    by_cases hk : k = rfz c
    · subst hk; rw [u1_eq, u1_eq, e]
    · rw [u1_ne hk, u1_ne hk, e]
theorem oCut {r : Nat} (hr : r < 4) {x : Int64} (h0 : 0 ≤ G (37 + 2 * r) 1) (h1 : G (37 + 2 * r) 1 ≤ 3) : f_X5_cut N (37 + 2 * r) x (hp q G) = some (cutv (G (37 + 2 * r) 1) x, hp q G) := by
  unfold f_X5_cut cutv
  by_cases c0 : G (37 + 2 * r) 1 = 0
  · rw [if_pos c0]; simp (maxSteps := 2000000) (disch := first | assumption | omega) only [jI0, iAdd_j, iSub_j, iMul_j, iNeg_j, Option.bind_some, jlt_t, jlt_f, jlt, jle_t, jle_f, jle, jeq_t, jeq_f, jeq, ↓reduceIte, ro]
  · by_cases c1 : G (37 + 2 * r) 1 = 1
    · rw [if_neg c0, if_pos c1]; simp (maxSteps := 2000000) (disch := first | assumption | omega) only [jI0, iAdd_j, iSub_j, iMul_j, iNeg_j, Option.bind_some, jlt_t, jlt_f, jlt, jle_t, jle_f, jle, jeq_t, jeq_f, jeq, ↓reduceIte, ro]
    · by_cases c2 : G (37 + 2 * r) 1 = 2
      · rw [if_neg c0, if_neg c1, if_pos c2]; simp (maxSteps := 2000000) (disch := first | assumption | omega) only [jI0, iAdd_j, iSub_j, iMul_j, iNeg_j, Option.bind_some, jlt_t, jlt_f, jlt, jle_t, jle_f, jle, jeq_t, jeq_f, jeq, ↓reduceIte, ro]
      · rw [if_neg c0, if_neg c1, if_neg c2]; simp (maxSteps := 2000000) (disch := first | assumption | omega) only [jI0, iAdd_j, iSub_j, iMul_j, iNeg_j, Option.bind_some, jlt_t, jlt_f, jlt, jle_t, jle_f, jle, jeq_t, jeq_f, jeq, ↓reduceIte, ro]
theorem mCut {h : mH} {so : Int} {x : Int64} (h0 : 0 ≤ so) (h1 : so ≤ 3) : f_X12_cut N x (jI so) h = some (cutv so x, h) := by
  unfold f_X12_cut cutv
  by_cases c0 : so = 0
  · rw [if_pos c0]; simp (maxSteps := 2000000) (disch := first | assumption | omega) only [jI0, iAdd_j, iSub_j, iMul_j, iNeg_j, Option.bind_some, jlt_t, jlt_f, jlt, jle_t, jle_f, jle, jeq_t, jeq_f, jeq, ↓reduceIte]
  · by_cases c1 : so = 1
    · rw [if_neg c0, if_pos c1]; simp (maxSteps := 2000000) (disch := first | assumption | omega) only [jI0, iAdd_j, iSub_j, iMul_j, iNeg_j, Option.bind_some, jlt_t, jlt_f, jlt, jle_t, jle_f, jle, jeq_t, jeq_f, jeq, ↓reduceIte]
    · by_cases c2 : so = 2
      · rw [if_neg c0, if_neg c1, if_pos c2]; simp (maxSteps := 2000000) (disch := first | assumption | omega) only [jI0, iAdd_j, iSub_j, iMul_j, iNeg_j, Option.bind_some, jlt_t, jlt_f, jlt, jle_t, jle_f, jle, jeq_t, jeq_f, jeq, ↓reduceIte]
      · rw [if_neg c0, if_neg c1, if_neg c2]; simp (maxSteps := 2000000) (disch := first | assumption | omega) only [jI0, iAdd_j, iSub_j, iMul_j, iNeg_j, Option.bind_some, jlt_t, jlt_f, jlt, jle_t, jle_f, jle, jeq_t, jeq_f, jeq, ↓reduceIte]
theorem oPut {r : Nat} (hr : r < 4) {x : Int64} {i : Int} (i0 : 0 ≤ i) (i1 : i < G (37 + 2 * r) 0) (n1 : G (37 + 2 * r) 0 ≤ 40) (h0 : 0 ≤ G (37 + 2 * r) 1) (h1 : G (37 + 2 * r) 1 ≤ 3) {v : Int} (hv : cutv (G (37 + 2 * r) 1) x = jL v) : f_X5_put N (37 + 2 * r) (jI i) x (hp q G) = some (jL v, hp q (up G (38 + 2 * r) i v)) := by
  have c := oCut (q := q) (N := N) (G := G) hr (x := x) h0 h1
  rw [hv] at c
  have e : up G (38 + 2 * r) i v (38 + 2 * r) i = v := by rw [up_eq, u1_eq]
  unfold f_X5_put
  simp (maxSteps := 2000000) (disch := first | assumption | omega) only [jI0, iAdd_j, iSub_j, iMul_j, iNeg_j, Option.bind_some, jlt_t, jlt_f, jlt, jle_t, jle_f, jle, jeq_t, jeq_f, jeq, ↓reduceIte, ro, c, rs, rl, e]
theorem op_write (hN : 10000 ≤ N) (hI : INV K1 K2 q G) {row i : Int} {x : Int64} (h1 : -2147483648 ≤ row) (h2 : row < 2147483648) (h3 : -2147483648 ≤ i) (h4 : i < 2147483648) : OP64 K1 K2 q G (f_X11_write N 0 (jI row) (jI i) x) (f_X12_write N 100 (jI row) (jI i) x) := by
  have hB := hI.1.1; have hV := hB.1; have hT := hI.1.2.1; have g := hV.1
  by_cases c : 0 ≤ row ∧ row < 4
  · obtain ⟨r, rfl⟩ := Int.eq_ofNat_of_zero_le c.1
    have hr : r < 4 := by omega
    rcases hI.rp hr with ⟨m1, m2⟩ | ⟨p1, p2, p3, p4, p5, p6, p7⟩
    · refine OP64.rf hI (-6) (jI (-6)).toInt64 ?_ ?_
      · unfold f_X11_write
        simp (maxSteps := 2000000) (disch := first | assumption | omega) only [jI0, iAdd_j, iSub_j, iMul_j, iNeg_j, Option.bind_some, jlt_t, jlt_f, jlt, jle_t, jle_f, jle, jeq_t, jeq_f, jeq, ↓reduceIte, o0, o2, o12, hBand, hStake, hKind, hCross, hWeaver, oBand, oKindOf, oKind, oCr, oRing, oWv, oPer, oRows, oAhead, oWhen, oAll, oStep, oRods, oRodAt, oStakeAt, oOff, bI_t, bI_f, X11_refuse, oIsRow, rA, ro, oMiss]
      · intro G1 hM e eo
        rw [← eo 117 (by decide)] at m2
        have hV1 := hM.1; have hT1 := hM.2; (try rw [← e] at dm); (try rw [← e] at dr); (try rw [← e] at de); (try rw [← e] at dl); (try rw [← e] at hb); (try rw [← e] at hj); (try rw [← e] at hr); (try rw [← e] at hs); (try rw [← e] at pl); (try rw [← e] at al); (try rw [← e] at g); (try rw [← e] at c); (try rw [← e] at c1); (try rw [← e] at c2); (try rw [← e] at c3); (try rw [← e] at c4); (try rw [← e] at c5); (try rw [← e] at c6); (try rw [← e] at wb); (try rw [← e] at pr); (try rw [← e] at kd); (try rw [← e] at cr); (try rw [← e] at fe); (try rw [← e] at ra); (try rw [← e] at f1); (try rw [← e] at f2); (try rw [← e] at f3); (try rw [← e] at f4); (try rw [← e])
        unfold f_X12_write
        simp (maxSteps := 2000000) (disch := first | assumption | omega) only [jI0, iAdd_j, iSub_j, iMul_j, iNeg_j, Option.bind_some, jlt_t, jlt_f, jlt, jle_t, jle_f, jle, jeq_t, jeq_f, jeq, ↓reduceIte, o100, w100t, l102, mBand, mStake, mKind, mCross, mCr, mKindOf, mAhead, mWhen, mStep, mRods, mRodAt, mStakeAt, mIndex, mOver, mOverIn, jlL, X12_within, bI_t, bI_f, X12_no, l117]
    · by_cases c1 : 0 ≤ i ∧ i < G (37 + 2 * r) 0
      · generalize hy : (cutv (G (37 + 2 * r) 1) x).toInt = v
        have vr := i64_r (cutv (G (37 + 2 * r) 1) x)
        rw [hy] at vr
        have hv : cutv (G (37 + 2 * r) 1) x = jL v := by rw [← hy]; exact jL_of _
        have cz : ¬ bI (G (37 + 2 * r) 0 = -1) = jI 1 := by rw [bI_1]; omega
        refine ⟨jL v, q, up G (38 + 2 * r) i v, up (up G (38 + 2 * r) i v) 119 (40 * r + i) v, ?_, ?_, ?_⟩
        · unfold f_X11_write
          have op := oPut (q := q) (N := N) (G := G) hr (x := x) c1.1 c1.2 p2 p5 p6 hv
          simp (maxSteps := 2000000) (disch := first | assumption | omega) only [jI0, iAdd_j, iSub_j, iMul_j, iNeg_j, Option.bind_some, jlt_t, jlt_f, jlt, jle_t, jle_f, jle, jeq_t, jeq_f, jeq, ↓reduceIte, o0, o2, o12, hBand, hStake, hKind, hCross, hWeaver, oBand, oKindOf, oKind, oCr, oRing, oWv, oPer, oRows, oAhead, oWhen, oAll, oStep, oRods, oRodAt, oStakeAt, oOff, bI_t, bI_f, X11_refuse, oIsRow, rA, ro, oMiss, op]
        · unfold f_X12_write
          have T1 : up G (38 + 2 * r) i v 100 0 = 0 := by rw [up_ne (by omega)]; exact hT
          have wt := w100t (q := q) T1
          have e7 : up G (38 + 2 * r) i v 117 r = G (37 + 2 * r) 1 := by rw [up_ne (by omega), p4]
          have e8 : up G (38 + 2 * r) i v 118 r = G (37 + 2 * r) 0 := by rw [up_ne (by omega), p3]
          have e9 : up (up G (38 + 2 * r) i v) 119 (40 * r + i) v 119 (40 * r + i) = v := by rw [up_eq, u1_eq]
          have mc := mCut (N := N) (h := hp q (up G (38 + 2 * r) i v)) (x := x) p5 p6
          rw [hv] at mc
          simp (maxSteps := 2000000) (disch := first | assumption | omega) only [jI0, iAdd_j, iSub_j, iMul_j, iNeg_j, Option.bind_some, jlt_t, jlt_f, jlt, jle_t, jle_f, jle, jeq_t, jeq_f, jeq, ↓reduceIte, wt, jlL, X12_within, bI_t, o100, l117, l118, e7, e8, mc, s119, l119, e9]
        · refine hI.row hr ?_ ?_ ?_ ?_
          · intro a a1 a2 a3 a4 a5
            rw [up_ne a5, up_ne a2]
          · intro j hj
            rw [up_ne (by decide), up_ne (by omega), up_ne (by decide), up_ne (by omega)]
            exact ⟨rfl, rfl⟩
          · intro j hj
            rw [up_eq, u1_ne (by omega), up_ne (by omega)]
          · right
            rw [up_ne (show 37 + 2 * r ≠ 119 by omega), up_ne (show 37 + 2 * r ≠ 38 + 2 * r by omega), up_ne (show 38 + 2 * r ≠ 119 by omega), up_eq, up_ne (show 117 ≠ 119 by decide), up_ne (show 117 ≠ 38 + 2 * r by omega), up_ne (show 118 ≠ 119 by decide), up_ne (show 118 ≠ 38 + 2 * r by omega), up_eq, up_ne (show 119 ≠ 38 + 2 * r by omega)]
            refine ⟨p1, p2, p3, p4, p5, p6, fun k k0 k1 => ?_⟩
            by_cases d : k = i
            · subst d
              rw [u1_eq, u1_eq]
              exact ⟨rfl, vr.1, vr.2⟩
            · rw [u1_ne d, u1_ne (by omega)]
              have := p7 k k0 k1
              exact ⟨this.1.symm, this.2⟩
      · refine OP64.rf hI (-7) (jI (-7)).toInt64 ?_ ?_
        · unfold f_X11_write
          by_cases d : i < 0 <;> simp (maxSteps := 2000000) (disch := first | assumption | omega) only [jI0, iAdd_j, iSub_j, iMul_j, iNeg_j, Option.bind_some, jlt_t, jlt_f, jlt, jle_t, jle_f, jle, jeq_t, jeq_f, jeq, ↓reduceIte, o0, o2, o12, hBand, hStake, hKind, hCross, hWeaver, oBand, oKindOf, oKind, oCr, oRing, oWv, oPer, oRows, oAhead, oWhen, oAll, oStep, oRods, oRodAt, oStakeAt, oOff, bI_t, bI_f, X11_refuse, oIsRow, rA, ro, oMiss]
        · intro G1 hM e eo
          rw [← eo 117 (by decide)] at p4
          rw [← eo 118 (by decide)] at p3
          have hV1 := hM.1; have hT1 := hM.2; (try rw [← e] at dm); (try rw [← e] at dr); (try rw [← e] at de); (try rw [← e] at dl); (try rw [← e] at hb); (try rw [← e] at hj); (try rw [← e] at hr); (try rw [← e] at hs); (try rw [← e] at pl); (try rw [← e] at al); (try rw [← e] at g); (try rw [← e] at c); (try rw [← e] at c1); (try rw [← e] at c2); (try rw [← e] at c3); (try rw [← e] at c4); (try rw [← e] at c5); (try rw [← e] at c6); (try rw [← e] at wb); (try rw [← e] at pr); (try rw [← e] at kd); (try rw [← e] at cr); (try rw [← e] at fe); (try rw [← e] at ra); (try rw [← e] at f1); (try rw [← e] at f2); (try rw [← e] at f3); (try rw [← e] at f4); (try rw [← e])
          unfold f_X12_write
          simp (maxSteps := 2000000) (disch := first | assumption | omega) only [jI0, iAdd_j, iSub_j, iMul_j, iNeg_j, Option.bind_some, jlt_t, jlt_f, jlt, jle_t, jle_f, jle, jeq_t, jeq_f, jeq, ↓reduceIte, o100, w100t, l102, mBand, mStake, mKind, mCross, mCr, mKindOf, mAhead, mWhen, mStep, mRods, mRodAt, mStakeAt, mIndex, mOver, mOverIn, jlL, X12_within, bI_t, bI_f, X12_no, l117, l118]
  · refine OP64.rf hI (-2) (jI (-2)).toInt64 ?_ ?_
    · unfold f_X11_write
      simp (maxSteps := 2000000) (disch := first | assumption | omega) only [jI0, iAdd_j, iSub_j, iMul_j, iNeg_j, Option.bind_some, jlt_t, jlt_f, jlt, jle_t, jle_f, jle, jeq_t, jeq_f, jeq, ↓reduceIte, o0, o2, o12, hBand, hStake, hKind, hCross, hWeaver, oBand, oKindOf, oKind, oCr, oRing, oWv, oPer, oRows, oAhead, oWhen, oAll, oStep, oRods, oRodAt, oStakeAt, oOff, bI_t, bI_f, X11_refuse, oIsRow]
    · intro G1 hM e eo
      have hV1 := hM.1; have hT1 := hM.2; (try rw [← e] at dm); (try rw [← e] at dr); (try rw [← e] at de); (try rw [← e] at dl); (try rw [← e] at hb); (try rw [← e] at hj); (try rw [← e] at hr); (try rw [← e] at hs); (try rw [← e] at pl); (try rw [← e] at al); (try rw [← e] at g); (try rw [← e] at c); (try rw [← e] at c1); (try rw [← e] at c2); (try rw [← e] at c3); (try rw [← e] at c4); (try rw [← e] at c5); (try rw [← e] at c6); (try rw [← e] at wb); (try rw [← e] at pr); (try rw [← e] at kd); (try rw [← e] at cr); (try rw [← e] at fe); (try rw [← e] at ra); (try rw [← e] at f1); (try rw [← e] at f2); (try rw [← e] at f3); (try rw [← e] at f4); (try rw [← e])
      unfold f_X12_write
      simp (maxSteps := 2000000) (disch := first | assumption | omega) only [jI0, iAdd_j, iSub_j, iMul_j, iNeg_j, Option.bind_some, jlt_t, jlt_f, jlt, jle_t, jle_f, jle, jeq_t, jeq_f, jeq, ↓reduceIte, o100, w100t, l102, mBand, mStake, mKind, mCross, mCr, mKindOf, mAhead, mWhen, mStep, mRods, mRodAt, mStakeAt, mIndex, mOver, mOverIn, jlL, X12_within, bI_t, bI_f, X12_no]
theorem op_copy (hN : 10000 ≤ N) (hI : INV K1 K2 q G) {b j i row : Int} (h1 : -2147483648 ≤ b) (h2 : b < 2147483648) (h3 : -2147483648 ≤ j) (h4 : j < 2147483648) (h5 : -2147483648 ≤ i) (h6 : i < 2147483648) (h7 : -2147483648 ≤ row) (h8 : row < 2147483648) : OP K1 K2 q G (f_X11_copy N 0 (jI b) (jI j) (jI i) (jI row)) (f_X12_copy N 100 (jI b) (jI j) (jI i) (jI row)) := by
  have hB := hI.1.1; have hV := hB.1; have hT := hI.1.2.1; have g := hV.1
  by_cases c : ((0 ≤ b ∧ b < G 102 26) ∧ 0 ≤ j ∧ j < G 102 (27 + b)) ∧ 0 ≤ i ∧ i < sCr (G 102) b
  · have wb := hV.2.2.1 b c.1.1.1 c.1.1.2
    have cr := crF hV c.1.1.1 c.1.1.2
    by_cases c1 : 0 ≤ row ∧ row < 4
    · obtain ⟨r, rfl⟩ := Int.eq_ofNat_of_zero_le c1.1
      have hr : r < 4 := by omega
      rcases hI.rp hr with ⟨m1, m2⟩ | ⟨p1, p2, p3, p4, p5, p6, p7⟩
      · refine OP.rf hI (-6) (jI (-6)) ?_ ?_
        · unfold f_X11_copy
          simp (maxSteps := 2000000) (disch := first | assumption | omega) only [jI0, iAdd_j, iSub_j, iMul_j, iNeg_j, Option.bind_some, jlt_t, jlt_f, jlt, jle_t, jle_f, jle, jeq_t, jeq_f, jeq, ↓reduceIte, o0, o2, o12, hBand, hStake, hKind, hCross, hWeaver, oBand, oKindOf, oKind, oCr, oRing, oWv, oPer, oRows, oAhead, oWhen, oAll, oStep, oRods, oRodAt, oStakeAt, oOff, bI_t, bI_f, X11_refuse, oIsRow, rA, ro, oMiss]
        · intro G1 hM e eo
          rw [← eo 117 (by decide)] at m2
          have hV1 := hM.1; have hT1 := hM.2; (try rw [← e] at dm); (try rw [← e] at dr); (try rw [← e] at de); (try rw [← e] at dl); (try rw [← e] at hb); (try rw [← e] at hj); (try rw [← e] at hr); (try rw [← e] at hs); (try rw [← e] at pl); (try rw [← e] at al); (try rw [← e] at g); (try rw [← e] at c); (try rw [← e] at c1); (try rw [← e] at c2); (try rw [← e] at c3); (try rw [← e] at c4); (try rw [← e] at c5); (try rw [← e] at c6); (try rw [← e] at wb); (try rw [← e] at pr); (try rw [← e] at kd); (try rw [← e] at cr); (try rw [← e] at fe); (try rw [← e] at ra); (try rw [← e] at f1); (try rw [← e] at f2); (try rw [← e] at f3); (try rw [← e] at f4); (try rw [← e])
          unfold f_X12_copy
          simp (maxSteps := 2000000) (disch := first | assumption | omega) only [jI0, iAdd_j, iSub_j, iMul_j, iNeg_j, Option.bind_some, jlt_t, jlt_f, jlt, jle_t, jle_f, jle, jeq_t, jeq_f, jeq, ↓reduceIte, o100, w100t, l102, mBand, mStake, mKind, mCross, mCr, mKindOf, mAhead, mWhen, mStep, mRods, mRodAt, mStakeAt, mIndex, mOver, mOverIn, jlL, X12_within, bI_t, bI_f, X12_no, l117]
      · have em : ∀ k : Nat, 0 ≤ (i + k) % sCr (G 102) b ∧ (i + k) % sCr (G 102) b < sCr (G 102) b := fun k => ⟨Int.emod_nonneg _ (by omega), Int.emod_lt_of_pos _ cr.1⟩
        have i0e : (i + ((0 : Nat) : Int)) % sCr (G 102) b = i := by
          rw [show i + ((0 : Nat) : Int) = i by omega]
          exact Int.emod_eq_of_lt c.2.1 c.2.2
        have L : ∃ G1, ((∀ a, (a < 12 ∨ 13 < a) → a ≠ 38 + 2 * r → G1 a = G a) ∧ WV (G1 12 5) (G1 13) (G 102) ∧ ∀ k : Int, 0 ≤ k → k < G (37 + 2 * r) 0 → G1 (38 + 2 * r) k = bz (sOv (G 102) b j ((i + k) % sCr (G 102) b))) ∧ L_X11_copy_59 N N 0 (jI b) (jI j) (37 + 2 * r) (jI i) (jI 0) (hp q G) = some (jI (G (37 + 2 * r) 0), hp q G1) := by
          refine loopG (N := N) (fun m (t : (Int × Int) × (Nat → Int → Int)) => L_X11_copy_59 N m 0 (jI b) (jI j) (37 + 2 * r) (jI t.1.1) (jI t.1.2) (hp q t.2)) (fun k t => t.1 = ((i + k) % sCr (G 102) b, (k : Int)) ∧ (∀ a, (a < 12 ∨ 13 < a) → a ≠ 38 + 2 * r → t.2 a = G a) ∧ WV (t.2 12 5) (t.2 13) (G 102) ∧ ∀ k' : Int, 0 ≤ k' → k' < (k : Int) → t.2 (38 + 2 * r) k' = bz (sOv (G 102) b j ((i + k') % sCr (G 102) b))) (G (37 + 2 * r) 0).toNat (by omega) (s := ((i, 0), G)) ⟨by rw [i0e]; rfl, fun _ _ _ => rfl, hI.wv, fun k' k0 k1 => by omega⟩ ?_ ?_
          · rintro m k ⟨z, G1⟩ hk ⟨rfl, t1, t2, t3⟩
            simp only at t1 t2 t3
            have e2 : G1 102 = G 102 := t1 102 (by omega) (by omega)
            have e37 : G1 (37 + 2 * r) = G (37 + 2 * r) := t1 _ (by omega) (by omega)
            have hB1 : BB G1 := by unfold BB at *; rw [t1 102 (by omega) (by omega), t1 2 (by omega) (by omega), t1 3 (by omega) (by omega), t1 4 (by omega) (by omega), t1 5 (by omega) (by omega)]; exact hB
            have emk := em k
            obtain ⟨G2, hw2, e⟩ := oGoes (q := q) hN hB1 (by rw [e2]; exact t2) (b := b) (j := j) (i := (i + k) % sCr (G 102) b) (by rw [e2]; exact c.1.1) (by rw [e2]; exact c.1.2) (by rw [e2]; exact emk)
            rw [e2] at e
            have e3 := hw2.e
            have f37 : G2 (37 + 2 * r) = G (37 + 2 * r) := by rw [hw2.1 _ (by omega)]; exact e37
            have hv : cutv (G2 (37 + 2 * r) 1) (jL (bz (sOv (G 102) b j ((i + k) % sCr (G 102) b)))) = jL (bz (sOv (G 102) b j ((i + k) % sCr (G 102) b))) := by
              unfold bz
              split
              · exact cut01.2
              · exact cut01.1
            have op := oPut (q := q) (N := N) (G := G2) hr (i := (k : Int)) (x := jL (bz (sOv (G 102) b j ((i + k) % sCr (G 102) b)))) (by omega) (by rw [f37]; omega) (by rw [f37]; exact p2) (by rw [f37]; exact p5) (by rw [f37]; exact p6) hv
            have hB3 : BB (up G2 (38 + 2 * r) k (bz (sOv (G 102) b j ((i + k) % sCr (G 102) b)))) := by
              have := hw2.bb hB1
              unfold BB at *
              rw [up_ne (by omega), up_ne (by omega), up_ne (by omega), up_ne (by omega), up_ne (by omega)]
              exact this
            have oc : f_X0_crossingsOf N 2 (jI b) (hp q (up G2 (38 + 2 * r) k (bz (sOv (G 102) b j ((i + k) % sCr (G 102) b))))) = some (jI (sCr (G 102) b), hp q (up G2 (38 + 2 * r) k (bz (sOv (G 102) b j ((i + k) % sCr (G 102) b))))) := by
              have := oCr (q := q) (N := N) hB3 (b := b) c.1.1.1 (by rw [up_ne (by omega), e3, e2]; exact c.1.1.2)
              rw [up_ne (show 102 ≠ 38 + 2 * r by omega), e3, e2] at this
              exact this
            have g37 : gI (hp q G1) 5 (37 + 2 * r) 0 = some (jI (G (37 + 2 * r) 0)) := by
              have := (ro (q := q) (G := G1) hr).2.1
              rw [e37] at this
              exact this
            refine ⟨(((i + ((k + 1 : Nat) : Int)) % sCr (G 102) b, ((k + 1 : Nat) : Int)), up G2 (38 + 2 * r) k (bz (sOv (G 102) b j ((i + k) % sCr (G 102) b)))), ⟨rfl, ?_, ?_, ?_⟩, ?_⟩
            · intro a a1 a2
              show up G2 _ _ _ a = _
              rw [up_ne a2, hw2.1 a a1]
              exact t1 a a1 a2
            · show WV (up G2 _ _ _ 12 5) (up G2 _ _ _ 13) (G 102)
              rw [up_ne (by omega), up_ne (by omega)]
              have := hw2.2
              rw [e2] at this
              exact this
            · intro k' k0 k1
              show up G2 (38 + 2 * r) k _ (38 + 2 * r) k' = _
              rw [up_eq]
              by_cases d : k' = k
              · subst d; rw [u1_eq]
              · rw [u1_ne d, hw2.1 _ (by omega)]
                exact t3 k' k0 (by omega)
            · show L_X11_copy_59 N (m + 1) 0 (jI b) (jI j) (37 + 2 * r) (jI ((i + k) % sCr (G 102) b)) (jI (k : Int)) (hp q G1) = L_X11_copy_59 N m 0 (jI b) (jI j) (37 + 2 * r) (jI ((i + ((k + 1 : Nat) : Int)) % sCr (G 102) b)) (jI ((k + 1 : Nat) : Int)) (hp q (up G2 (38 + 2 * r) k (bz (sOv (G 102) b j ((i + k) % sCr (G 102) b)))))
              have es := emod_succ (x := i + k) cr.1
              have J : ∀ v : Int, f_X5_put N (37 + 2 * r) (jI k) (jL v) (hp q G2) = some (jL (bz (sOv (G 102) b j ((i + k) % sCr (G 102) b))), hp q (up G2 (38 + 2 * r) k (bz (sOv (G 102) b j ((i + k) % sCr (G 102) b))))) → J_X11_copy_92 N (L_X11_copy_59 N m) 0 (jI b) (jI j) (37 + 2 * r) (jI ((i + k) % sCr (G 102) b)) (jI k) (37 + 2 * r) (jI k) (jL v) (hp q G2) = L_X11_copy_59 N m 0 (jI b) (jI j) (37 + 2 * r) (jI ((i + ((k + 1 : Nat) : Int)) % sCr (G 102) b)) (jI ((k + 1 : Nat) : Int)) (hp q (up G2 (38 + 2 * r) k (bz (sOv (G 102) b j ((i + k) % sCr (G 102) b))))) := by
                intro v ev
                unfold J_X11_copy_92
                rw [Int.natCast_succ, ← Int.add_assoc, es]
                by_cases d : (i + k) % sCr (G 102) b + 1 < sCr (G 102) b
                · rw [if_pos d]
                  simp (maxSteps := 2000000) (disch := first | assumption | omega) only [jI0, iAdd_j, iSub_j, iMul_j, iNeg_j, Option.bind_some, jlt_t, jlt_f, jlt, jle_t, jle_f, jle, jeq_t, jeq_f, jeq, ↓reduceIte, ro, ev, o0, o2, oc]
                · rw [if_neg d]
                  simp (maxSteps := 2000000) (disch := first | assumption | omega) only [jI0, iAdd_j, iSub_j, iMul_j, iNeg_j, Option.bind_some, jlt_t, jlt_f, jlt, jle_t, jle_f, jle, jeq_t, jeq_f, jeq, ↓reduceIte, ro, ev, o0, o2, oc]
              rw [L_X11_copy_59]
              by_cases d : sOv (G 102) b j ((i + k) % sCr (G 102) b) = true
              · rw [bI_t d] at e
                have z : bz (sOv (G 102) b j ((i + k) % sCr (G 102) b)) = 1 := if_pos d
                have J1 := J 1 (by rw [z] at op ⊢; exact op)
                simp (maxSteps := 2000000) (disch := first | assumption | omega) only [jI0, iAdd_j, iSub_j, iMul_j, iNeg_j, Option.bind_some, jlt_t, jlt_f, jlt, jle_t, jle_f, jle, jeq_t, jeq_f, jeq, ↓reduceIte, g37, o0, o12, e]
                exact J1
              · rw [bI_f d] at e
                have z : bz (sOv (G 102) b j ((i + k) % sCr (G 102) b)) = 0 := if_neg d
                have J1 := J 0 (by rw [z] at op ⊢; exact op)
                simp (maxSteps := 2000000) (disch := first | assumption | omega) only [jI0, iAdd_j, iSub_j, iMul_j, iNeg_j, Option.bind_some, jlt_t, jlt_f, jlt, jle_t, jle_f, jle, jeq_t, jeq_f, jeq, ↓reduceIte, g37, o0, o12, e]
                exact J1
          · rintro m ⟨z, G1⟩ ⟨rfl, t1, t2, t3⟩
            simp only at t1 t2 t3
            have e37 : G1 (37 + 2 * r) = G (37 + 2 * r) := t1 _ (by omega) (by omega)
            have g37 : gI (hp q G1) 5 (37 + 2 * r) 0 = some (jI (G (37 + 2 * r) 0)) := by
              have := (ro (q := q) (G := G1) hr).2.1
              rw [e37] at this
              exact this
            refine ⟨G1, ⟨t1, t2, fun k k0 k1 => t3 k k0 (by omega)⟩, ?_⟩
            show L_X11_copy_59 N (m + 1) 0 (jI b) (jI j) (37 + 2 * r) (jI _) (jI ((G (37 + 2 * r) 0).toNat : Int)) (hp q G1) = _
            rw [L_X11_copy_59]
            simp (maxSteps := 2000000) (disch := first | assumption | omega) only [jI0, iAdd_j, iSub_j, iMul_j, iNeg_j, Option.bind_some, jlt_t, jlt_f, jlt, jle_t, jle_f, jle, jeq_t, jeq_f, jeq, ↓reduceIte, g37]
        obtain ⟨G1, ⟨a1, a2, a3⟩, e1⟩ := L
        have T1 : G1 100 0 = 0 := by rw [a1 100 (by omega) (by omega)]; exact hT
        have e102 : G1 102 = G 102 := a1 102 (by omega) (by omega)
        have M : ∃ G2, ((∀ a, a ≠ 119 → G2 a = G1 a) ∧ ∀ k : Int, G2 119 k = if 40 * r ≤ k ∧ k < 40 * r + G (37 + 2 * r) 0 then bz (sOv (G 102) b j ((i + (k - 40 * r)) % sCr (G 102) b)) else G1 119 k) ∧ L_X12_copy_56 N N 100 (jI b) (jI j) (jI i) (jI r) (jI 0) (hp q G1) = some (jI (G (37 + 2 * r) 0), hp q G2) := by
          refine loopG (N := N) (fun m (t : Int × (Nat → Int → Int)) => L_X12_copy_56 N m 100 (jI b) (jI j) (jI i) (jI r) (jI t.1) (hp q t.2)) (fun k t => t.1 = k ∧ (∀ a, a ≠ 119 → t.2 a = G1 a) ∧ ∀ k' : Int, t.2 119 k' = if 40 * r ≤ k' ∧ k' < 40 * r + (k : Int) then bz (sOv (G 102) b j ((i + (k' - 40 * r)) % sCr (G 102) b)) else G1 119 k') (G (37 + 2 * r) 0).toNat (by omega) (s := (0, G1)) ⟨rfl, fun _ _ => rfl, fun k' => by rw [if_neg (by omega)]⟩ ?_ ?_
          · rintro m k ⟨z, G2⟩ hk ⟨rfl, t1, t2⟩
            simp only at t1 t2
            have e2 : G2 102 = G 102 := by rw [t1 102 (by decide)]; exact e102
            have hV2 : BV (G2 102) := by rw [e2]; exact hV
            have e8 : G2 118 r = G (37 + 2 * r) 0 := by rw [t1 118 (by decide), a1 118 (by omega) (by omega), p3]
            have emk := em k
            have mo := mOver (q := q) hN hV2 (b := b) (j := j) (i := (i + k) % sCr (G 102) b) c.1.1.1 (by rw [e2]; exact c.1.1.2) c.1.2.1 (by omega) emk.1 (by omega)
            rw [e2] at mo
            refine ⟨(((k + 1 : Nat) : Int), up G2 119 (40 * r + k) (bz (sOv (G 102) b j ((i + k) % sCr (G 102) b)))), ⟨rfl, fun a ha => (up_ne ha).trans (t1 a ha), fun k' => ?_⟩, ?_⟩
            · show up G2 119 (40 * r + k) _ 119 k' = _
              rw [up_eq]
              by_cases d : k' = 40 * r + k
              · rw [d, u1_eq, if_pos (by omega), show 40 * (r : Int) + k - 40 * r = k by omega]
              · rw [u1_ne d, t2 k']
                by_cases d2 : 40 * (r : Int) ≤ k' ∧ k' < 40 * r + (k : Int)
                · rw [if_pos d2, if_pos (by omega)]
                · rw [if_neg d2, if_neg (by omega)]
            · show L_X12_copy_56 N (m + 1) 100 (jI b) (jI j) (jI i) (jI r) (jI (k : Int)) (hp q G2) = L_X12_copy_56 N m 100 (jI b) (jI j) (jI i) (jI r) (jI ((k + 1 : Nat) : Int)) (hp q (up G2 119 (40 * r + k) (bz (sOv (G 102) b j ((i + k) % sCr (G 102) b)))))
              have mc := mCr (q := q) (N := N) hV2 (b := b) c.1.1.1 (by rw [e2]; exact c.1.1.2)
              rw [e2] at mc
              rw [L_X12_copy_56]
              by_cases d : sOv (G 102) b j ((i + k) % sCr (G 102) b) = true
              · rw [bI_t d] at mo
                have z : bz (sOv (G 102) b j ((i + k) % sCr (G 102) b)) = 1 := if_pos d
                rw [z]
                simp (maxSteps := 2000000) (disch := first | assumption | omega) only [jI0, iAdd_j, iSub_j, iMul_j, iNeg_j, Option.bind_some, jlt_t, jlt_f, jlt, jle_t, jle_f, jle, jeq_t, jeq_f, jeq, ↓reduceIte, o100, l118, e8, mc, iRem_p, mo, s119, Int.natCast_succ]
              · rw [bI_f d] at mo
                have z : bz (sOv (G 102) b j ((i + k) % sCr (G 102) b)) = 0 := if_neg d
                rw [z]
                simp (maxSteps := 2000000) (disch := first | assumption | omega) only [jI0, iAdd_j, iSub_j, iMul_j, iNeg_j, Option.bind_some, jlt_t, jlt_f, jlt, jle_t, jle_f, jle, jeq_t, jeq_f, jeq, ↓reduceIte, o100, l118, e8, mc, iRem_p, mo, s119, Int.natCast_succ]
          · rintro m ⟨z, G2⟩ ⟨rfl, t1, t2⟩
            simp only at t1 t2
            have e8 : G2 118 r = G (37 + 2 * r) 0 := by rw [t1 118 (by decide), a1 118 (by omega) (by omega), p3]
            refine ⟨G2, ⟨t1, fun k => by rw [t2 k]; congr 1; apply propext; omega⟩, ?_⟩
            show L_X12_copy_56 N (m + 1) 100 (jI b) (jI j) (jI i) (jI r) (jI ((G (37 + 2 * r) 0).toNat : Int)) (hp q G2) = _
            rw [L_X12_copy_56]
            simp (maxSteps := 2000000) (disch := first | assumption | omega) only [jI0, iAdd_j, iSub_j, iMul_j, iNeg_j, Option.bind_some, jlt_t, jlt_f, jlt, jle_t, jle_f, jle, jeq_t, jeq_f, jeq, ↓reduceIte, o100, l118, e8]
        obtain ⟨G2, ⟨b1, b2⟩, e2'⟩ := M
        have hV1 : BV (G1 102) := by rw [e102]; exact hV
        refine ⟨jI (G (37 + 2 * r) 0), q, G1, G2, ?_, ?_, ?_⟩
        · unfold f_X11_copy
          simp (maxSteps := 2000000) (disch := first | assumption | omega) only [jI0, iAdd_j, iSub_j, iMul_j, iNeg_j, Option.bind_some, jlt_t, jlt_f, jlt, jle_t, jle_f, jle, jeq_t, jeq_f, jeq, ↓reduceIte, o0, o2, o12, hBand, hStake, hKind, hCross, hWeaver, oBand, oKindOf, oKind, oCr, oRing, oWv, oPer, oRows, oAhead, oWhen, oAll, oStep, oRods, oRodAt, oStakeAt, oOff, bI_t, bI_f, X11_refuse, oIsRow, rA, ro, oMiss, e1]
        · unfold f_X12_copy
          have wt := w100t (q := q) T1
          have mcs := mCross (q := q) (N := N) hV1 h1 h2 h3 h4 h5 h6
          rw [e102] at mcs
          have e7 : G1 117 r = G (37 + 2 * r) 1 := by rw [a1 117 (by omega) (by omega), p4]
          simp (maxSteps := 2000000) (disch := first | assumption | omega) only [jI0, iAdd_j, iSub_j, iMul_j, iNeg_j, Option.bind_some, jlt_t, jlt_f, jlt, jle_t, jle_f, jle, jeq_t, jeq_f, jeq, ↓reduceIte, wt, o100, mcs, bI_t, jlL, X12_within, l117, e7, e2']
        · have hw : WK G (fun a => if a = 12 ∨ a = 13 then G1 a else G a) := ⟨fun a ha => if_neg (by omega), a2⟩
          refine (hI.sc hw.sc).row hr ?_ ?_ ?_ ?_
          · intro a x1 x2 x3 x4 x5
            rw [b1 a x5]
            show G1 a = if a = 12 ∨ a = 13 then G1 a else G a
            by_cases d : a = 12 ∨ a = 13
            · rw [if_pos d]
            · rw [if_neg d]; exact a1 a (by omega) x2
          · intro k hk
            rw [b1 117 (by decide), b1 118 (by decide), a1 117 (by omega) (by omega), a1 118 (by omega) (by omega)]
            exact ⟨rfl, rfl⟩
          · intro k hk
            rw [b2, if_neg (by omega), a1 119 (by omega) (by omega)]
            rfl
          · right
            rw [b1 _ (show 37 + 2 * r ≠ 119 by omega), b1 _ (show 38 + 2 * r ≠ 119 by omega), b1 117 (by decide), b1 118 (by decide), a1 (37 + 2 * r) (by omega) (by omega), a1 117 (by omega) (by omega), a1 118 (by omega) (by omega)]
            refine ⟨p1, p2, p3, p4, p5, p6, fun k k0 k1 => ?_⟩
            have br := bz_r (sOv (G 102) b j ((i + k) % sCr (G 102) b))
            rw [a3 k k0 k1, b2, if_pos (by omega), show 40 * (r : Int) + k - 40 * r = k by omega]
            omega
    · refine OP.rf hI (-2) (jI (-2)) ?_ ?_
      · unfold f_X11_copy
        simp (maxSteps := 2000000) (disch := first | assumption | omega) only [jI0, iAdd_j, iSub_j, iMul_j, iNeg_j, Option.bind_some, jlt_t, jlt_f, jlt, jle_t, jle_f, jle, jeq_t, jeq_f, jeq, ↓reduceIte, o0, o2, o12, hBand, hStake, hKind, hCross, hWeaver, oBand, oKindOf, oKind, oCr, oRing, oWv, oPer, oRows, oAhead, oWhen, oAll, oStep, oRods, oRodAt, oStakeAt, oOff, bI_t, bI_f, X11_refuse, oIsRow]
      · intro G1 hM e eo
        have hV1 := hM.1; have hT1 := hM.2; (try rw [← e] at dm); (try rw [← e] at dr); (try rw [← e] at de); (try rw [← e] at dl); (try rw [← e] at hb); (try rw [← e] at hj); (try rw [← e] at hr); (try rw [← e] at hs); (try rw [← e] at pl); (try rw [← e] at al); (try rw [← e] at g); (try rw [← e] at c); (try rw [← e] at c1); (try rw [← e] at c2); (try rw [← e] at c3); (try rw [← e] at c4); (try rw [← e] at c5); (try rw [← e] at c6); (try rw [← e] at wb); (try rw [← e] at pr); (try rw [← e] at kd); (try rw [← e] at cr); (try rw [← e] at fe); (try rw [← e] at ra); (try rw [← e] at f1); (try rw [← e] at f2); (try rw [← e] at f3); (try rw [← e] at f4); (try rw [← e])
        unfold f_X12_copy
        simp (maxSteps := 2000000) (disch := first | assumption | omega) only [jI0, iAdd_j, iSub_j, iMul_j, iNeg_j, Option.bind_some, jlt_t, jlt_f, jlt, jle_t, jle_f, jle, jeq_t, jeq_f, jeq, ↓reduceIte, o100, w100t, l102, mBand, mStake, mKind, mCross, mCr, mKindOf, mAhead, mWhen, mStep, mRods, mRodAt, mStakeAt, mIndex, mOver, mOverIn, jlL, X12_within, bI_t, bI_f, X12_no]
  · refine OP.rf hI (-2) (jI (-2)) ?_ ?_
    · unfold f_X11_copy
      simp (maxSteps := 2000000) (disch := first | assumption | omega) only [jI0, iAdd_j, iSub_j, iMul_j, iNeg_j, Option.bind_some, jlt_t, jlt_f, jlt, jle_t, jle_f, jle, jeq_t, jeq_f, jeq, ↓reduceIte, o0, o2, o12, hBand, hStake, hKind, hCross, hWeaver, oBand, oKindOf, oKind, oCr, oRing, oWv, oPer, oRows, oAhead, oWhen, oAll, oStep, oRods, oRodAt, oStakeAt, oOff, bI_t, bI_f, X11_refuse]
    · intro G1 hM e eo
      have hV1 := hM.1; have hT1 := hM.2; (try rw [← e] at dm); (try rw [← e] at dr); (try rw [← e] at de); (try rw [← e] at dl); (try rw [← e] at hb); (try rw [← e] at hj); (try rw [← e] at hr); (try rw [← e] at hs); (try rw [← e] at pl); (try rw [← e] at al); (try rw [← e] at g); (try rw [← e] at c); (try rw [← e] at c1); (try rw [← e] at c2); (try rw [← e] at c3); (try rw [← e] at c4); (try rw [← e] at c5); (try rw [← e] at c6); (try rw [← e] at wb); (try rw [← e] at pr); (try rw [← e] at kd); (try rw [← e] at cr); (try rw [← e] at fe); (try rw [← e] at ra); (try rw [← e] at f1); (try rw [← e] at f2); (try rw [← e] at f3); (try rw [← e] at f4); (try rw [← e])
      unfold f_X12_copy
      simp (maxSteps := 2000000) (disch := first | assumption | omega) only [jI0, iAdd_j, iSub_j, iMul_j, iNeg_j, Option.bind_some, jlt_t, jlt_f, jlt, jle_t, jle_f, jle, jeq_t, jeq_f, jeq, ↓reduceIte, o100, w100t, l102, mBand, mStake, mKind, mCross, mCr, mKindOf, mAhead, mWhen, mStep, mRods, mRodAt, mStakeAt, mIndex, mOver, mOverIn, jlL, X12_within, bI_t, bI_f, X12_no]
end
