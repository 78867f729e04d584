/-! calls that read the rows: crossing, seen, overs, run -/
theorem iAnd_1 {a : Int} (h0 : 0 ≤ a) : iAnd (jI a) (jI 1) = jI (a % 2) := by
  obtain ⟨n, rfl⟩ := Int.eq_ofNat_of_zero_le h0
  have := iAnd_n n 1
  rw [Nat.and_one_is_mod] at this
  exact this.trans (by rw [Int.natCast_emod]; rfl)
/-- but for what is made anew each time -/
def SC (G G2 : Nat → Int → Int) : Prop := (∀ a, relv a = true → a ≠ 13 → G2 a = G a) ∧ (G2 100 0 = G 100 0 ∧ G2 0 1 = G 0 1 ∧ G2 100 6 = G 100 6 ∧ G2 10 0 = G 10 0 ∧ G2 10 1 = G 10 1 ∧ G2 100 14 = G 100 14 ∧ G2 100 15 = G 100 15 ∧ G2 25 7 = G 25 7 ∧ G2 25 8 = G 25 8) ∧ (G2 98 = G 98 ∧ G2 101 = G 101) ∧ (WV (G 12 5) (G 13) (G 102) → WV (G2 12 5) (G2 13) (G 102))
section
variable {K1 K2 : (Int → Int) → (Int → Int) → Prop} {q : Nat × Nat × (Nat → Nat)} {G : Nat → Int → Int} {N : Nat}
theorem SC.refl : SC G G := ⟨fun _ _ _ => rfl, ⟨rfl, rfl, rfl, rfl, rfl, rfl, rfl, rfl, rfl⟩, ⟨rfl, rfl⟩, id⟩
theorem SC.e {G1 : Nat → Int → Int} (h : SC G G1) : G1 102 = G 102 := h.1 102 rfl (by decide)
theorem SC.trans {G1 G2 : Nat → Int → Int} (h1 : SC G G1) (h2 : SC G1 G2) : SC G G2 := by
  have e := h1.e
  obtain ⟨a1, ⟨b1, b2, b3, b4, b5, b6, b7, b8, b9⟩, ⟨c1, c2⟩, d1⟩ := h1
  obtain ⟨x1, ⟨y1, y2, y3, y4, y5, y6, y7, y8, y9⟩, ⟨z1, z2⟩, w1⟩ := h2
  rw [e] at w1
  exact ⟨fun a h0 h1 => (x1 a h0 h1).trans (a1 a h0 h1), ⟨y1.trans b1, y2.trans b2, y3.trans b3, y4.trans b4, y5.trans b5, y6.trans b6, y7.trans b7, y8.trans b8, y9.trans b9⟩, ⟨z1.trans c1, z2.trans c2⟩, fun h => w1 (d1 h)⟩
theorem WK.sc {G1 : Nat → Int → Int} (h : WK G G1) : SC G G1 := by
  refine ⟨fun a h0 h1 => h.1 a ?_, ⟨?_, ?_, ?_, ?_, ?_, ?_, ?_, ?_, ?_⟩, ⟨h.1 98 (by omega), h.1 101 (by omega)⟩, fun _ => h.2⟩
  · by_cases c : a < 12 ∨ 13 < a
    · exact c
    · have : a = 12 ∨ a = 13 ∨ a = 14 ∨ a = 15 ∨ a = 16 := by omega
      rcases this with rfl | rfl | rfl | rfl | rfl
      · cases h0
      · exact absurd rfl h1
      · cases h0
      · cases h0
      · cases h0
  all_goals rw [h.1 _ (by omega)]
theorem INV.sc {G2 : Nat → Int → Int} (hI : INV K1 K2 q G) (h : SC G G2) : INV K1 K2 q G2 := by
  obtain ⟨i0, i1⟩ := hI
  obtain ⟨a1, ⟨b1, b2, b3, b4, b5, b6, b7, b8, b9⟩, ⟨c1, c2⟩, d1⟩ := h
  have e : ∀ a, (relv a && !(a == 13)) = true → G2 a = G a := fun a h => a1 a (by simp at h; exact h.1) (by simp at h; exact h.2)
  refine ⟨?_, fun k k0 k1 => by rw [c1, c2]; exact i1 k k0 k1⟩
  unfold INV0 BB BW at *
  rw [e 1 rfl, e 2 rfl, e 3 rfl, e 4 rfl, e 5 rfl, e 17 rfl, e 18 rfl, e 20 rfl, e 21 rfl, e 22 rfl, e 23 rfl, e 31 rfl, e 32 rfl, e 34 rfl, e 37 rfl, e 38 rfl, e 39 rfl, e 40 rfl, e 41 rfl, e 42 rfl, e 43 rfl, e 44 rfl, e 46 rfl, e 47 rfl, e 48 rfl, e 49 rfl, e 50 rfl, e 51 rfl, e 52 rfl, e 54 rfl, e 55 rfl, e 56 rfl, e 57 rfl, e 60 rfl, e 62 rfl, e 63 rfl, e 64 rfl, e 65 rfl, e 66 rfl, e 67 rfl, e 68 rfl, e 70 rfl, e 71 rfl, e 72 rfl, e 73 rfl, e 76 rfl, e 82 rfl, e 102 rfl, e 103 rfl, e 104 rfl, e 117 rfl, e 118 rfl, e 119 rfl, b1, b2, b3, b4, b5, b6, b7, b8, b9]
  obtain ⟨t1, t2, t3, t4, t5, t6, t7, t8, t9, t10, t11, t12⟩ := i0
  exact ⟨t1, t2, t3, t4, t5, t6, t7, t8, t9, t10, d1 t11, t12⟩
/-- what the model's side of a call may use -/
def SM (G G1 : Nat → Int → Int) : Prop := SC G G1 ∧ MV G1
theorem OP.sc {F1 F2 : mH → Option (Int32 × mH)} (hI : INV K1 K2 q G) (r : Int32) (h1 : ∃ G1, SC G G1 ∧ F1 (hp q G) = some (r, hp q G1)) (h2 : ∀ G1, SC G G1 → MV G1 → G1 102 = G 102 → ∃ G2, SC G1 G2 ∧ F2 (hp q G1) = some (r, hp q G2)) : OP K1 K2 q G F1 F2 := by
  obtain ⟨G1, s1, e1⟩ := h1
  have i1 := hI.sc s1
  obtain ⟨G2, s2, e2⟩ := h2 G1 s1 ⟨i1.1.1.1, i1.1.2.1⟩ s1.e
  exact ⟨r, q, G1, G2, e1, e2, i1.sc s2⟩
theorem op_crossing (hN : 10000 ≤ N) (hI : INV K1 K2 q G) {b j i w : Int} (h1 : -2147483648 ≤ b) (h2 : b < 2147483648) (h3 : -2147483648 ≤ j) (h4 : j < 2147483648) (h5 : -2147483648 ≤ i) (h6 : i < 2147483648) (h7 : -2147483648 ≤ w) (h8 : w < 2147483648) : OP K1 K2 q G (f_X11_crossing N 0 (jI b) (jI j) (jI i) (jI w)) (f_X12_crossing N 100 (jI b) (jI j) (jI i) (jI w)) := by
  have hB := hI.1.1; have hV := hB.1; have hT := hI.1.2.1; have g := hV.1
  by_cases c : ((0 ≤ b ∧ b < G 102 26) ∧ 0 ≤ j ∧ j < G 102 (27 + b)) ∧ 0 ≤ i ∧ i < sCr (G 102) b
  · have wb := hV.2.2.1 b c.1.1.1 c.1.1.2
    have cr := crF hV c.1.1.1 c.1.1.2
    have ra := raF hV c.1.1.1 c.1.1.2 c.1.2.1 c.1.2.2 c.2.1 c.2.2
    have kd := hV.2.2.2.1 b j c.1.1.1 c.1.1.2 c.1.2.1 c.1.2.2
    have o4 := hB.2.1.2.2.2.2.1
    by_cases c1 : w = 1
    · subst c1
      refine OP.sc hI (bI (sOv (G 102) b j i = true)) ?_ ?_
      · obtain ⟨G1, hw, e⟩ := oGoes (q := q) hN hB hI.1.2.2.2.2.2.2.2.2.2.2.1 c.1.1 c.1.2 c.2
        refine ⟨G1, hw.sc, ?_⟩
        unfold f_X11_crossing
        by_cases d : sOv (G 102) b j i = true
        · rw [bI_t d] at e ⊢
          simp (maxSteps := 2000000) (disch := first | assumption | omega) only [jI0, iAdd_j, iSub_j, iMul_j, iNeg_j, Option.bind_some, jlt_t, jlt_f, jlt, jle_t, jle_f, jle, jeq_t, jeq_f, jeq, ↓reduceIte, o0, o2, o12, hBand, hStake, hKind, hCross, hWeaver, oBand, oKindOf, oKind, oCr, oRing, oWv, oPer, oRows, oAhead, oWhen, oAll, oStep, oRods, oRodAt, oStakeAt, oOff, bI_t, bI_f, X11_refuse, e]
        · rw [bI_f d] at e ⊢
          simp (maxSteps := 2000000) (disch := first | assumption | omega) only [jI0, iAdd_j, iSub_j, iMul_j, iNeg_j, Option.bind_some, jlt_t, jlt_f, jlt, jle_t, jle_f, jle, jeq_t, jeq_f, jeq, ↓reduceIte, o0, o2, o12, hBand, hStake, hKind, hCross, hWeaver, oBand, oKindOf, oKind, oCr, oRing, oWv, oPer, oRows, oAhead, oWhen, oAll, oStep, oRods, oRodAt, oStakeAt, oOff, bI_t, bI_f, X11_refuse, e]
      · intro G1 s1 hM e
        refine ⟨G1, SC.refl, ?_⟩
        have hV1 := hM.1; have hT1 := hM.2; (try rw [← e] at dm); (try rw [← e] at dr); (try rw [← e] at de); (try rw [← e] at dl); (try rw [← e] at hb); (try rw [← e] at hj); (try rw [← e] at hr); (try rw [← e] at hs); (try rw [← e] at pl); (try rw [← e] at al); (try rw [← e] at g); (try rw [← e] at c); (try rw [← e] at c1); (try rw [← e] at c2); (try rw [← e] at c3); (try rw [← e] at c4); (try rw [← e] at c5); (try rw [← e] at c6); (try rw [← e] at wb); (try rw [← e] at pr); (try rw [← e] at kd); (try rw [← e] at cr); (try rw [← e] at fe); (try rw [← e] at ra); (try rw [← e] at f1); (try rw [← e] at f2); (try rw [← e] at f3); (try rw [← e] at f4); (try rw [← e])
        unfold f_X12_crossing
        by_cases d : sOv (G1 102) b j i = true
        · rw [bI_t d]
          simp (maxSteps := 2000000) (disch := first | assumption | omega) only [jI0, iAdd_j, iSub_j, iMul_j, iNeg_j, Option.bind_some, jlt_t, jlt_f, jlt, jle_t, jle_f, jle, jeq_t, jeq_f, jeq, ↓reduceIte, o100, w100t, l102, mBand, mStake, mKind, mCross, mCr, mKindOf, mAhead, mWhen, mStep, mRods, mRodAt, mStakeAt, mIndex, mOver, mOverIn, jlL, X12_within, bI_t, bI_f, X12_no]
        · rw [bI_f d]
          simp (maxSteps := 2000000) (disch := first | assumption | omega) only [jI0, iAdd_j, iSub_j, iMul_j, iNeg_j, Option.bind_some, jlt_t, jlt_f, jlt, jle_t, jle_f, jle, jeq_t, jeq_f, jeq, ↓reduceIte, o100, w100t, l102, mBand, mStake, mKind, mCross, mCr, mKindOf, mAhead, mWhen, mStep, mRods, mRodAt, mStakeAt, mIndex, mOver, mOverIn, jlL, X12_within, bI_t, bI_f, X12_no]
    by_cases c0 : w = 0
    · subst c0
      refine OP.ans hI (jI (sSa (G 102) b j i)) ?_ ?_
      · unfold f_X11_crossing
        simp (maxSteps := 2000000) (disch := first | assumption | omega) only [jI0, iAdd_j, iSub_j, iMul_j, iNeg_j, Option.bind_some, jlt_t, jlt_f, jlt, jle_t, jle_f, jle, jeq_t, jeq_f, jeq, ↓reduceIte, o0, o2, hCross, bI_t, oRodAt, oStakeAt]
      · unfold f_X12_crossing
        simp (maxSteps := 2000000) (disch := first | assumption | omega) only [jI0, iAdd_j, iSub_j, iMul_j, iNeg_j, Option.bind_some, jlt_t, jlt_f, jlt, jle_t, jle_f, jle, jeq_t, jeq_f, jeq, ↓reduceIte, o100, w100t, mCross, bI_t, jlL, X12_within, mRodAt, mStakeAt]
    by_cases c2 : w = 2
    · subst c2
      refine OP.ans hI (jI (sRa (G 102) b j i)) ?_ ?_
      · unfold f_X11_crossing
        simp (maxSteps := 2000000) (disch := first | assumption | omega) only [jI0, iAdd_j, iSub_j, iMul_j, iNeg_j, Option.bind_some, jlt_t, jlt_f, jlt, jle_t, jle_f, jle, jeq_t, jeq_f, jeq, ↓reduceIte, o0, o2, hCross, bI_t, oRodAt]
      · unfold f_X12_crossing
        simp (maxSteps := 2000000) (disch := first | assumption | omega) only [jI0, iAdd_j, iSub_j, iMul_j, iNeg_j, Option.bind_some, jlt_t, jlt_f, jlt, jle_t, jle_f, jle, jeq_t, jeq_f, jeq, ↓reduceIte, o100, w100t, mCross, bI_t, jlL, X12_within, mRodAt]
    by_cases c3 : w = 3
    · subst c3
      refine OP.ans hI (jI (i - sRa (G 102) b j i * sSt (G 102) (G 102 140) (G 102 (83 + 4 * b + j)))) ?_ ?_
      · unfold f_X11_crossing
        simp (maxSteps := 2000000) (disch := first | assumption | omega) only [jI0, iAdd_j, iSub_j, iMul_j, iNeg_j, Option.bind_some, jlt_t, jlt_f, jlt, jle_t, jle_f, jle, jeq_t, jeq_f, jeq, ↓reduceIte, o0, o2, hCross, bI_t, oRodAt, oKindOf, oStep, o4]
      · unfold f_X12_crossing
        simp (maxSteps := 2000000) (disch := first | assumption | omega) only [jI0, iAdd_j, iSub_j, iMul_j, iNeg_j, Option.bind_some, jlt_t, jlt_f, jlt, jle_t, jle_f, jle, jeq_t, jeq_f, jeq, ↓reduceIte, o100, w100t, mCross, bI_t, jlL, X12_within, mRodAt, mKindOf, mStep]
    by_cases c4 : w = 4
    · subst c4
      have m2 : sRa (G 102) b j i % 2 = 0 ∨ sRa (G 102) b j i % 2 = 1 := by omega
      refine OP.ans hI (jI (1 - sRa (G 102) b j i % 2)) ?_ ?_
      · unfold f_X11_crossing
        rcases m2 with m2 | m2 <;> simp (maxSteps := 2000000) (disch := first | assumption | omega) only [jI0, iAdd_j, iSub_j, iMul_j, iNeg_j, Option.bind_some, jlt_t, jlt_f, jlt, jle_t, jle_f, jle, jeq_t, jeq_f, jeq, ↓reduceIte, o0, o2, hCross, bI_t, oRodAt, iAnd_1, m2] <;> rfl
      · unfold f_X12_crossing
        simp (maxSteps := 2000000) (disch := first | assumption | omega) only [jI0, iAdd_j, iSub_j, iMul_j, iNeg_j, Option.bind_some, jlt_t, jlt_f, jlt, jle_t, jle_f, jle, jeq_t, jeq_f, jeq, ↓reduceIte, o100, w100t, mCross, bI_t, jlL, X12_within, mRodAt, iRem_p]
    by_cases c5 : w = 5
    · subst c5
      refine OP.ans hI (jI (sWh (G 102) b j i)) ?_ ?_
      · unfold f_X11_crossing
        simp (maxSteps := 2000000) (disch := first | assumption | omega) only [jI0, iAdd_j, iSub_j, iMul_j, iNeg_j, Option.bind_some, jlt_t, jlt_f, jlt, jle_t, jle_f, jle, jeq_t, jeq_f, jeq, ↓reduceIte, o0, o2, hCross, bI_t, oRodAt, oWhen]
      · unfold f_X12_crossing
        simp (maxSteps := 2000000) (disch := first | assumption | omega) only [jI0, iAdd_j, iSub_j, iMul_j, iNeg_j, Option.bind_some, jlt_t, jlt_f, jlt, jle_t, jle_f, jle, jeq_t, jeq_f, jeq, ↓reduceIte, o100, w100t, mCross, bI_t, jlL, X12_within, mRodAt, mWhen]
    · refine OP.rf hI (-2) (jI (-2)) ?_ ?_
      · unfold f_X11_crossing
        simp (maxSteps := 2000000) (disch := first | assumption | omega) only [jI0, iAdd_j, iSub_j, iMul_j, iNeg_j, Option.bind_some, jlt_t, jlt_f, jlt, jle_t, jle_f, jle, jeq_t, jeq_f, jeq, ↓reduceIte, o0, o2, o12, hBand, hStake, hKind, hCross, hWeaver, oBand, oKindOf, oKind, oCr, oRing, oWv, oPer, oRows, oAhead, oWhen, oAll, oStep, oRods, oRodAt, oStakeAt, oOff, bI_t, bI_f, X11_refuse]
      · intro G1 hM e eo
        have hV1 := hM.1; have hT1 := hM.2; (try rw [← e] at dm); (try rw [← e] at dr); (try rw [← e] at de); (try rw [← e] at dl); (try rw [← e] at hb); (try rw [← e] at hj); (try rw [← e] at hr); (try rw [← e] at hs); (try rw [← e] at pl); (try rw [← e] at al); (try rw [← e] at g); (try rw [← e] at c); (try rw [← e] at c1); (try rw [← e] at c2); (try rw [← e] at c3); (try rw [← e] at c4); (try rw [← e] at c5); (try rw [← e] at c6); (try rw [← e] at wb); (try rw [← e] at pr); (try rw [← e] at kd); (try rw [← e] at cr); (try rw [← e] at fe); (try rw [← e] at ra); (try rw [← e] at f1); (try rw [← e] at f2); (try rw [← e] at f3); (try rw [← e] at f4); (try rw [← e])
        unfold f_X12_crossing
        simp (maxSteps := 2000000) (disch := first | assumption | omega) only [jI0, iAdd_j, iSub_j, iMul_j, iNeg_j, Option.bind_some, jlt_t, jlt_f, jlt, jle_t, jle_f, jle, jeq_t, jeq_f, jeq, ↓reduceIte, o100, w100t, l102, mBand, mStake, mKind, mCross, mCr, mKindOf, mAhead, mWhen, mStep, mRods, mRodAt, mStakeAt, mIndex, mOver, mOverIn, jlL, X12_within, bI_t, bI_f, X12_no]
  · refine OP.rf hI (-2) (jI (-2)) (by unfold f_X11_crossing; simp (maxSteps := 2000000) (disch := first | assumption | omega) only [jI0, iAdd_j, iSub_j, iMul_j, iNeg_j, Option.bind_some, jlt_t, jlt_f, jlt, jle_t, jle_f, jle, jeq_t, jeq_f, jeq, ↓reduceIte, o0, o2, o12, hBand, hStake, hKind, hCross, hWeaver, oBand, oKindOf, oKind, oCr, oRing, oWv, oPer, oRows, oAhead, oWhen, oAll, oStep, oRods, oRodAt, oStakeAt, oOff, bI_t, bI_f, X11_refuse]) (by intro G1 hM e eo; have hV1 := hM.1; have hT1 := hM.2; (try rw [← e] at dm); (try rw [← e] at dr); (try rw [← e] at de); (try rw [← e] at dl); (try rw [← e] at hb); (try rw [← e] at hj); (try rw [← e] at hr); (try rw [← e] at hs); (try rw [← e] at pl); (try rw [← e] at al); (try rw [← e] at g); (try rw [← e] at c); (try rw [← e] at c1); (try rw [← e] at c2); (try rw [← e] at c3); (try rw [← e] at c4); (try rw [← e] at c5); (try rw [← e] at c6); (try rw [← e] at wb); (try rw [← e] at pr); (try rw [← e] at kd); (try rw [← e] at cr); (try rw [← e] at fe); (try rw [← e] at ra); (try rw [← e] at f1); (try rw [← e] at f2); (try rw [← e] at f3); (try rw [← e] at f4); (try rw [← e]); unfold f_X12_crossing; simp (maxSteps := 2000000) (disch := first | assumption | omega) only [jI0, iAdd_j, iSub_j, iMul_j, iNeg_j, Option.bind_some, jlt_t, jlt_f, jlt, jle_t, jle_f, jle, jeq_t, jeq_f, jeq, ↓reduceIte, o100, w100t, l102, mBand, mStake, mKind, mCross, mCr, mKindOf, mAhead, mWhen, mStep, mRods, mRodAt, mStakeAt, mIndex, mOver, mOverIn, jlL, X12_within, bI_t, bI_f, X12_no])
end
