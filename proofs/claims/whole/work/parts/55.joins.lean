/-! calls: joins, hide, hold, gives -/
/-- JOINS of a weaver: all, or those SEEN -/
def sJw (A : Int → Int) (b j lap : Int) (P : Prop) [Decidable P] (n : Nat) : Int := sm (fun r => if P → sOv A b j ((r + 1) * sSt A lap (A (83 + 4 * b + j))) = true then 1 else 0) n
def sJo (A : Int → Int) (b lap : Int) (P : Prop) [Decidable P] (n : Nat) : Int := sm (fun j => sJw A b j lap P (sRd A lap (A (83 + 4 * b + j)) (sCr A b) - 1).toNat) n
theorem rodIn {A : Int → Int} {k lap c r : Int} (h : BV A) (h1 : 0 ≤ k) (h2 : k < A 1) (h3 : 0 ≤ lap) (h4 : 0 ≤ c) (h5 : c ≤ 1280) (h6 : 0 ≤ r) (h7 : r + 1 < sRd A lap k c) : 0 ≤ (r + 1) * sSt A lap k ∧ (r + 1) * sSt A lap k < c := by
  have f := h.2.1 k h1 h2
  have s := stF h h1 h2 h3
  have m0 := Int.mul_nonneg (show 0 ≤ r + 1 by omega) (show 0 ≤ sSt A lap k by omega)
  refine ⟨m0, ?_⟩
  unfold sRd at h7
  by_cases d : 0 < c - A (2 + k)
  · rw [if_pos d] at h7
    have l : sSt A lap k ≤ A (2 + k) := by unfold sSt; omega
    have q := Int.ediv_mul_le (c - A (2 + k) + sSt A lap k - 1) (show sSt A lap k ≠ 0 by omega)
    have m := Int.mul_le_mul_of_nonneg_right (show r + 1 ≤ (c - A (2 + k) + sSt A lap k - 1) / sSt A lap k by omega) (show 0 ≤ sSt A lap k by omega)
    omega
  · rw [if_neg d] at h7
    omega
theorem sJw_r {A : Int → Int} {b j lap : Int} (P : Prop) [Decidable P] {n : Nat} : 0 ≤ sJw A b j lap P n ∧ sJw A b j lap P n ≤ n := sm_r1
theorem sJo_r {A : Int → Int} (h : BV A) {b lap : Int} (P : Prop) [Decidable P] (hb : 0 ≤ b ∧ b < A 26) (h3 : 0 ≤ lap) : 0 ≤ sJo A b lap P (A (27 + b)).toNat ∧ sJo A b lap P (A (27 + b)).toNat ≤ 1400 * (A (27 + b)).toNat := by
  have wb := h.2.2.1 b hb.1 hb.2
  have cr := crF h hb.1 hb.2
  apply sm_le
  intro j hj
  have kd := h.2.2.2.1 b j hb.1 hb.2 (by omega) (by omega)
  have rd := rdF h (lap := lap) kd.1 kd.2 h3 (c := sCr A b) (by omega) (by omega)
  have := sJw_r (A := A) (b := b) (j := j) (lap := lap) P (n := (sRd A lap (A (83 + 4 * b + j)) (sCr A b) - 1).toNat)
  omega
section
variable {K1 K2 : (Int → Int) → (Int → Int) → Prop} {q : Nat × Nat × (Nat → Nat)} {G : Nat → Int → Int} {N : Nat}
theorem oJoins (hN : 10000 ≤ N) (hB : BB G) (hW : WV (G 12 5) (G 13) (G 102)) {b lap : Int} (hb : 0 ≤ b ∧ b < G 102 26) (hl : 0 ≤ lap ∧ lap ≤ 20) (P : Prop) [Decidable P] : ∃ G', WK G G' ∧ f_X10_joinsOf N 12 (jI b) (jI lap) (bI P) (hp q G) = some (jI (sJo (G 102) b lap P (G 102 (27 + b)).toNat), hp q G') := by
  have g := hB.1.1
  have wb := hB.1.2.2.1 b hb.1 hb.2
  have cr := crF hB.1 hb.1 hb.2
  unfold f_X10_joinsOf
  refine loopQ (fun n (t : Int × Int × (Nat → Int → Int)) => L_X10_joinsOf_6 N n 12 (jI b) (jI lap) (bI P) (jI t.1) (jI t.2.1) (hp q t.2.2)) (fun k t => t.1 = sJo (G 102) b lap P k ∧ t.2.1 = k ∧ WK G t.2.2) (G 102 (27 + b)).toNat (fun r => ∃ G1, WK G G1 ∧ r = some (jI (sJo (G 102) b lap P (G 102 (27 + b)).toNat), hp q G1)) (by omega) (s := (0, 0, G)) ⟨rfl, rfl, WK.refl hW⟩ ?_ ?_
  · rintro n j ⟨z, i, G1⟩ hj ⟨rfl, rfl, hw⟩
    simp only at hw
    have e2 := hw.e
    have hB1 := hw.bb hB
    have kd := hB.1.2.2.2.1 b j hb.1 hb.2 (by omega) (by omega)
    have rd := rdF hB.1 (lap := lap) kd.1 kd.2 hl.1 (c := sCr (G 102) b) (by omega) (by omega)
    generalize hS : sJo (G 102) b lap P j = S0
    have IN : ∃ G2, WK G G2 ∧ L_X10_joinsOf_67 N (L_X10_joinsOf_6 N n) N 12 (jI b) (jI lap) (bI P) (jI S0) (jI (j : Int)) (jI (sSt (G 102) lap (G 102 (83 + 4 * b + j)))) (jI (sRd (G 102) lap (G 102 (83 + 4 * b + j)) (sCr (G 102) b))) (jI 1) (hp q G1) = L_X10_joinsOf_6 N n 12 (jI b) (jI lap) (bI P) (jI (sJo (G 102) b lap P (j + 1))) (jI ((j + 1 : Nat) : Int)) (hp q G2) := by
      refine loopQ (fun n' (t : Int × Int × (Nat → Int → Int)) => L_X10_joinsOf_67 N (L_X10_joinsOf_6 N n) n' 12 (jI b) (jI lap) (bI P) (jI t.1) (jI (j : Int)) (jI (sSt (G 102) lap (G 102 (83 + 4 * b + j)))) (jI (sRd (G 102) lap (G 102 (83 + 4 * b + j)) (sCr (G 102) b))) (jI t.2.1) (hp q t.2.2)) (fun r t => t.1 = S0 + sJw (G 102) b j lap P r ∧ t.2.1 = ((r + 1 : Nat) : Int) ∧ WK G t.2.2) (sRd (G 102) lap (G 102 (83 + 4 * b + j)) (sCr (G 102) b) - 1).toNat (fun r => ∃ G2, WK G G2 ∧ r = L_X10_joinsOf_6 N n 12 (jI b) (jI lap) (bI P) (jI (sJo (G 102) b lap P (j + 1))) (jI ((j + 1 : Nat) : Int)) (hp q G2)) (by omega) (s := (S0, 1, G1)) ⟨by simp [sJw, sm], rfl, hw⟩ ?_ ?_
      · rintro m r ⟨z, r', G2⟩ hr ⟨rfl, rfl, hw2⟩
        simp only at hw2
        have e2 := hw2.e
        have hB1 := hw2.bb hB
        have ri := rodIn hB.1 kd.1 kd.2 hl.1 (c := sCr (G 102) b) (by omega) (by omega) (r := (r : Int)) (by omega) (by omega)
        by_cases p : P
        · obtain ⟨G3, hw3, e⟩ := oGoes (q := q) hN hB1 hw2.wv (b := b) (j := j) (i := ((r : Int) + 1) * sSt (G 102) lap (G 102 (83 + 4 * b + j))) (by rw [e2]; exact hb) (by rw [e2]; omega) (by rw [e2]; exact ri)
          rw [e2] at e
          refine ⟨(S0 + sJw (G 102) b j lap P (r + 1), ((r + 1 + 1 : Nat) : Int), G3), ⟨rfl, rfl, hw2.trans hw3⟩, ?_⟩
          show L_X10_joinsOf_67 N (L_X10_joinsOf_6 N n) (m + 1) 12 (jI b) (jI lap) (bI P) (jI (S0 + sJw (G 102) b j lap P r)) (jI (j : Int)) (jI (sSt (G 102) lap (G 102 (83 + 4 * b + j)))) (jI (sRd (G 102) lap (G 102 (83 + 4 * b + j)) (sCr (G 102) b))) (jI ((r + 1 : Nat) : Int)) (hp q G2) = L_X10_joinsOf_67 N (L_X10_joinsOf_6 N n) m 12 (jI b) (jI lap) (bI P) (jI (S0 + sJw (G 102) b j lap P (r + 1))) (jI (j : Int)) (jI (sSt (G 102) lap (G 102 (83 + 4 * b + j)))) (jI (sRd (G 102) lap (G 102 (83 + 4 * b + j)) (sCr (G 102) b))) (jI ((r + 1 + 1 : Nat) : Int)) (hp q G3)
          simp only [sJw, sm, Int.natCast_succ]
          by_cases d : sOv (G 102) b j (((r : Int) + 1) * sSt (G 102) lap (G 102 (83 + 4 * b + j))) = true
          · rw [bI_t d] at e
            have z : P → sOv (G 102) b j (((r : Int) + 1) * sSt (G 102) lap (G 102 (83 + 4 * b + j))) = true := fun _ => d
            rw [if_pos z, ← Int.add_assoc, L_X10_joinsOf_67, bI_t p]
            simp (maxSteps := 2000000) (disch := first | assumption | omega) only [jI0, iAdd_j, iSub_j, iMul_j, iNeg_j, Option.bind_some, jlt_t, jlt_f, jlt, jle_t, jle_f, jle, jeq_t, jeq_f, jeq, ↓reduceIte, o12, e]
          · rw [bI_f d] at e
            have z : ¬ (P → sOv (G 102) b j (((r : Int) + 1) * sSt (G 102) lap (G 102 (83 + 4 * b + j))) = true) := fun h => d (h p)
            rw [if_neg z, Int.add_zero, L_X10_joinsOf_67, bI_t p]
            simp (maxSteps := 2000000) (disch := first | assumption | omega) only [jI0, iAdd_j, iSub_j, iMul_j, iNeg_j, Option.bind_some, jlt_t, jlt_f, jlt, jle_t, jle_f, jle, jeq_t, jeq_f, jeq, ↓reduceIte, o12, e]
        · refine ⟨(S0 + sJw (G 102) b j lap P (r + 1), ((r + 1 + 1 : Nat) : Int), G2), ⟨rfl, rfl, hw2⟩, ?_⟩
          show L_X10_joinsOf_67 N (L_X10_joinsOf_6 N n) (m + 1) 12 (jI b) (jI lap) (bI P) (jI (S0 + sJw (G 102) b j lap P r)) (jI (j : Int)) (jI (sSt (G 102) lap (G 102 (83 + 4 * b + j)))) (jI (sRd (G 102) lap (G 102 (83 + 4 * b + j)) (sCr (G 102) b))) (jI ((r + 1 : Nat) : Int)) (hp q G2) = L_X10_joinsOf_67 N (L_X10_joinsOf_6 N n) m 12 (jI b) (jI lap) (bI P) (jI (S0 + sJw (G 102) b j lap P (r + 1))) (jI (j : Int)) (jI (sSt (G 102) lap (G 102 (83 + 4 * b + j)))) (jI (sRd (G 102) lap (G 102 (83 + 4 * b + j)) (sCr (G 102) b))) (jI ((r + 1 + 1 : Nat) : Int)) (hp q G2)
          simp only [sJw, sm, Int.natCast_succ]
          have z : P → sOv (G 102) b j (((r : Int) + 1) * sSt (G 102) lap (G 102 (83 + 4 * b + j))) = true := fun h => absurd h p
          rw [if_pos z, ← Int.add_assoc, L_X10_joinsOf_67, bI_f p]
          simp (maxSteps := 2000000) (disch := first | assumption | omega) only [jI0, iAdd_j, iSub_j, iMul_j, iNeg_j, Option.bind_some, jlt_t, jlt_f, jlt, jle_t, jle_f, jle, jeq_t, jeq_f, jeq, ↓reduceIte]
      · rintro m ⟨z, r', G2⟩ ⟨rfl, rfl, hw2⟩
        simp only at hw2
        refine ⟨G2, hw2, ?_⟩
        show L_X10_joinsOf_67 N (L_X10_joinsOf_6 N n) (m + 1) 12 (jI b) (jI lap) (bI P) (jI _) (jI (j : Int)) (jI (sSt (G 102) lap (G 102 (83 + 4 * b + j)))) (jI (sRd (G 102) lap (G 102 (83 + 4 * b + j)) (sCr (G 102) b))) (jI (((sRd (G 102) lap (G 102 (83 + 4 * b + j)) (sCr (G 102) b) - 1).toNat + 1 : Nat) : Int)) (hp q G2) = _
        rw [L_X10_joinsOf_67]
        simp (maxSteps := 2000000) (disch := first | assumption | omega) only [jI0, iAdd_j, iSub_j, iMul_j, iNeg_j, Option.bind_some, jlt_t, jlt_f, jlt, jle_t, jle_f, jle, jeq_t, jeq_f, jeq, ↓reduceIte, Int.natCast_succ]
        rw [← hS]
        rfl
    obtain ⟨G2, hw2, e⟩ := IN
    refine ⟨(_, ((j + 1 : Nat) : Int), G2), ⟨rfl, rfl, hw2⟩, ?_⟩
    refine Eq.trans ?_ e
    show L_X10_joinsOf_6 N (n + 1) 12 (jI b) (jI lap) (bI P) (jI S0) (jI (j : Int)) (hp q G1) = _
    rw [L_X10_joinsOf_6]
    simp (maxSteps := 2000000) (disch := first | assumption | omega | (rw [e2]; omega)) only [jI0, iAdd_j, iSub_j, iMul_j, iNeg_j, Option.bind_some, jlt_t, jlt_f, jlt, jle_t, jle_f, jle, jeq_t, jeq_f, jeq, ↓reduceIte, o0, o2, o12, hBand, hStake, hKind, hCross, hWeaver, oBand, oKindOf, oKind, oCr, oRing, oWv, oPer, oRows, oAhead, oWhen, oAll, oStep, oRods, oRodAt, oStakeAt, oOff, bI_t, bI_f, X11_refuse, e2]
  · rintro n ⟨z, i, G1⟩ ⟨rfl, rfl, hw⟩
    simp only at hw
    have e2 := hw.e
    have hB1 := hw.bb hB
    refine ⟨G1, hw, ?_⟩
    show L_X10_joinsOf_6 N (n + 1) 12 (jI b) (jI lap) (bI P) (jI _) (jI ((G 102 (27 + b)).toNat : Int)) (hp q G1) = _
    rw [L_X10_joinsOf_6]
    simp (maxSteps := 2000000) (disch := first | assumption | omega | (rw [e2]; omega)) only [jI0, iAdd_j, iSub_j, iMul_j, iNeg_j, Option.bind_some, jlt_t, jlt_f, jlt, jle_t, jle_f, jle, jeq_t, jeq_f, jeq, ↓reduceIte, o0, o2, o12, hBand, hStake, hKind, hCross, hWeaver, oBand, oKindOf, oKind, oCr, oRing, oWv, oPer, oRows, oAhead, oWhen, oAll, oStep, oRods, oRodAt, oStakeAt, oOff, bI_t, bI_f, X11_refuse, e2]
theorem mJoins (hN : 10000 ≤ N) (hV : BV (G 102)) {b : Int} (hb : 0 ≤ b ∧ b < G 102 26) (P : Prop) [Decidable P] : f_X12_joinsOf N 100 (jI b) (bI P) (hp q G) = some (jI (sJo (G 102) b (G 102 140) P (G 102 (27 + b)).toNat), hp q G) := by
  have g := hV.1
  have wb := hV.2.2.1 b hb.1 hb.2
  have cr := crF hV hb.1 hb.2
  unfold f_X12_joinsOf
  refine loopE (N := N) (fun n (t : Int × Int) => L_X12_joinsOf_5 N n 100 (jI b) (bI P) (jI t.1) (jI t.2) (hp q G)) (fun k => (sJo (G 102) b (G 102 140) P k, (k : Int))) (G 102 (27 + b)).toNat (by omega) ?_ ?_
  · intro n j hj
    show L_X12_joinsOf_5 N (n + 1) 100 (jI b) (bI P) (jI (sJo (G 102) b (G 102 140) P j)) (jI (j : Int)) (hp q G) = L_X12_joinsOf_5 N n 100 (jI b) (bI P) (jI (sJo (G 102) b (G 102 140) P (j + 1))) (jI ((j + 1 : Nat) : Int)) (hp q G)
    have kd := hV.2.2.2.1 b j hb.1 hb.2 (by omega) (by omega)
    have rd := rdF hV (lap := G 102 140) kd.1 kd.2 (by omega) (c := sCr (G 102) b) (by omega) (by omega)
    rw [L_X12_joinsOf_5]
    simp (maxSteps := 2000000) (disch := first | assumption | omega) only [jI0, iAdd_j, iSub_j, iMul_j, iNeg_j, Option.bind_some, jlt_t, jlt_f, jlt, jle_t, jle_f, jle, jeq_t, jeq_f, jeq, ↓reduceIte, o100, w100t, l102, mBand, mStake, mKind, mCross, mCr, mKindOf, mAhead, mWhen, mStep, mRods, mRodAt, mStakeAt, mIndex, mOver, mOverIn, jlL, X12_within, bI_t, bI_f, X12_no]
    have e1 : sJo (G 102) b (G 102 140) P (j + 1) = sJo (G 102) b (G 102 140) P j + sJw (G 102) b j (G 102 140) P (sRd (G 102) (G 102 140) (G 102 (83 + 4 * b + j)) (sCr (G 102) b) - 1).toNat := rfl
    rw [e1]
    generalize sJo (G 102) b (G 102 140) P j = S0
    refine (loopE (N := N) (fun n' (t : Int × Int) => L_X12_joinsOf_40 N (L_X12_joinsOf_5 N n) n' 100 (jI b) (bI P) (jI t.1) (jI (j : Int)) (jI (sRd (G 102) (G 102 140) (G 102 (83 + 4 * b + j)) (sCr (G 102) b))) (jI t.2) (hp q G)) (fun r => (S0 + sJw (G 102) b j (G 102 140) P r, ((r + 1 : Nat) : Int))) (sRd (G 102) (G 102 140) (G 102 (83 + 4 * b + j)) (sCr (G 102) b) - 1).toNat (by omega) ?_ ?_) |> Eq.trans ?_
    · show _ = L_X12_joinsOf_40 N (L_X12_joinsOf_5 N n) N 100 (jI b) (bI P) (jI (S0 + 0)) (jI (j : Int)) (jI (sRd (G 102) (G 102 140) (G 102 (83 + 4 * b + j)) (sCr (G 102) b))) (jI 1) (hp q G)
      rw [Int.add_zero]
    · intro m r hr
      show L_X12_joinsOf_40 N (L_X12_joinsOf_5 N n) (m + 1) 100 (jI b) (bI P) (jI (S0 + sJw (G 102) b j (G 102 140) P r)) (jI (j : Int)) (jI (sRd (G 102) (G 102 140) (G 102 (83 + 4 * b + j)) (sCr (G 102) b))) (jI ((r + 1 : Nat) : Int)) (hp q G) = L_X12_joinsOf_40 N (L_X12_joinsOf_5 N n) m 100 (jI b) (bI P) (jI (S0 + sJw (G 102) b j (G 102 140) P (r + 1))) (jI (j : Int)) (jI (sRd (G 102) (G 102 140) (G 102 (83 + 4 * b + j)) (sCr (G 102) b))) (jI ((r + 1 + 1 : Nat) : Int)) (hp q G)
      have ri := rodIn hV kd.1 kd.2 (show 0 ≤ G 102 140 by omega) (c := sCr (G 102) b) (by omega) (by omega) (r := (r : Int)) (by omega) (by omega)
      simp only [sJw, sm, Int.natCast_succ]
      by_cases p : P
      · by_cases d : sOv (G 102) b j (((r : Int) + 1) * sSt (G 102) (G 102 140) (G 102 (83 + 4 * b + j))) = true
        · have z : P → sOv (G 102) b j (((r : Int) + 1) * sSt (G 102) (G 102 140) (G 102 (83 + 4 * b + j))) = true := fun _ => d
          rw [if_pos z, ← Int.add_assoc, L_X12_joinsOf_40, bI_t p]
          simp (maxSteps := 2000000) (disch := first | assumption | omega) only [jI0, iAdd_j, iSub_j, iMul_j, iNeg_j, Option.bind_some, jlt_t, jlt_f, jlt, jle_t, jle_f, jle, jeq_t, jeq_f, jeq, ↓reduceIte, o100, w100t, l102, mBand, mStake, mKind, mCross, mCr, mKindOf, mAhead, mWhen, mStep, mRods, mRodAt, mStakeAt, mIndex, mOver, mOverIn, jlL, X12_within, bI_t, bI_f, X12_no]
        · have z : ¬ (P → sOv (G 102) b j (((r : Int) + 1) * sSt (G 102) (G 102 140) (G 102 (83 + 4 * b + j))) = true) := fun h => d (h p)
          rw [if_neg z, Int.add_zero, L_X12_joinsOf_40, bI_t p]
          simp (maxSteps := 2000000) (disch := first | assumption | omega) only [jI0, iAdd_j, iSub_j, iMul_j, iNeg_j, Option.bind_some, jlt_t, jlt_f, jlt, jle_t, jle_f, jle, jeq_t, jeq_f, jeq, ↓reduceIte, o100, w100t, l102, mBand, mStake, mKind, mCross, mCr, mKindOf, mAhead, mWhen, mStep, mRods, mRodAt, mStakeAt, mIndex, mOver, mOverIn, jlL, X12_within, bI_t, bI_f, X12_no, Int.add_zero]
      · have z : P → sOv (G 102) b j (((r : Int) + 1) * sSt (G 102) (G 102 140) (G 102 (83 + 4 * b + j))) = true := fun h => absurd h p
        rw [if_pos z, ← Int.add_assoc, L_X12_joinsOf_40, bI_f p]
        simp (maxSteps := 2000000) (disch := first | assumption | omega) only [jI0, iAdd_j, iSub_j, iMul_j, iNeg_j, Option.bind_some, jlt_t, jlt_f, jlt, jle_t, jle_f, jle, jeq_t, jeq_f, jeq, ↓reduceIte, o100, w100t, l102, mBand, mStake, mKind, mCross, mCr, mKindOf, mAhead, mWhen, mStep, mRods, mRodAt, mStakeAt, mIndex, mOver, mOverIn, jlL, X12_within, bI_t, bI_f, X12_no]
    · intro m
      show L_X12_joinsOf_40 N (L_X12_joinsOf_5 N n) (m + 1) 100 (jI b) (bI P) (jI _) (jI (j : Int)) (jI (sRd (G 102) (G 102 140) (G 102 (83 + 4 * b + j)) (sCr (G 102) b))) (jI (((sRd (G 102) (G 102 140) (G 102 (83 + 4 * b + j)) (sCr (G 102) b) - 1).toNat + 1 : Nat) : Int)) (hp q G) = _
      rw [L_X12_joinsOf_40]
      simp (maxSteps := 2000000) (disch := first | assumption | omega) only [jI0, iAdd_j, iSub_j, iMul_j, iNeg_j, Option.bind_some, jlt_t, jlt_f, jlt, jle_t, jle_f, jle, jeq_t, jeq_f, jeq, ↓reduceIte, o100, w100t, l102, mBand, mStake, mKind, mCross, mCr, mKindOf, mAhead, mWhen, mStep, mRods, mRodAt, mStakeAt, mIndex, mOver, mOverIn, jlL, X12_within, bI_t, bI_f, X12_no, Int.natCast_succ]
  · intro n
    show L_X12_joinsOf_5 N (n + 1) 100 (jI b) (bI P) (jI _) (jI ((G 102 (27 + b)).toNat : Int)) (hp q G) = _
    rw [L_X12_joinsOf_5]
    simp (maxSteps := 2000000) (disch := first | assumption | omega) only [jI0, iAdd_j, iSub_j, iMul_j, iNeg_j, Option.bind_some, jlt_t, jlt_f, jlt, jle_t, jle_f, jle, jeq_t, jeq_f, jeq, ↓reduceIte, o100, w100t, l102, mBand, mStake, mKind, mCross, mCr, mKindOf, mAhead, mWhen, mStep, mRods, mRodAt, mStakeAt, mIndex, mOver, mOverIn, jlL, X12_within, bI_t, bI_f, X12_no]
theorem op_joins (hN : 10000 ≤ N) (hI : INV K1 K2 q G) {b : Int} (h1 : -2147483648 ≤ b) (h2 : b < 2147483648) (P : Prop) [Decidable P] : OP K1 K2 q G (f_X11_joins N 0 (jI b) (bI P)) (f_X12_joins N 100 (jI b) (bI P)) := by
  have hB := hI.1.1; have hV := hB.1; have hT := hI.1.2.1; have g := hV.1
  by_cases c : 0 ≤ b ∧ b < G 102 26
  · refine OP.sc hI (jI (sJo (G 102) b (G 102 140) P (G 102 (27 + b)).toNat)) ?_ ?_
    · obtain ⟨G1, hw, e⟩ := oJoins (q := q) hN hB hI.wv c (lap := G 102 140) (by omega) P
      have e4 := hB.2.1.2.2.2.2.1
      refine ⟨G1, hw.sc, ?_⟩
      unfold f_X11_joins
      simp (maxSteps := 2000000) (disch := first | assumption | omega) only [jI0, iAdd_j, iSub_j, iMul_j, iNeg_j, Option.bind_some, jlt_t, jlt_f, jlt, jle_t, jle_f, jle, jeq_t, jeq_f, jeq, ↓reduceIte, o0, o2, o12, hBand, hStake, hKind, hCross, hWeaver, oBand, oKindOf, oKind, oCr, oRing, oWv, oPer, oRows, oAhead, oWhen, oAll, oStep, oRods, oRodAt, oStakeAt, oOff, bI_t, bI_f, X11_refuse, e4, e]
    · intro G1 s1 hM e
      refine ⟨G1, SC.refl, ?_⟩
      have hV1 := hM.1; have hT1 := hM.2; (try rw [← e] at dm); (try rw [← e] at dr); (try rw [← e] at de); (try rw [← e] at dl); (try rw [← e] at hb); (try rw [← e] at hj); (try rw [← e] at hr); (try rw [← e] at hs); (try rw [← e] at pl); (try rw [← e] at al); (try rw [← e] at g); (try rw [← e] at c); (try rw [← e] at c1); (try rw [← e] at c2); (try rw [← e] at c3); (try rw [← e] at c4); (try rw [← e] at c5); (try rw [← e] at c6); (try rw [← e] at wb); (try rw [← e] at pr); (try rw [← e] at kd); (try rw [← e] at cr); (try rw [← e] at fe); (try rw [← e] at ra); (try rw [← e] at f1); (try rw [← e] at f2); (try rw [← e] at f3); (try rw [← e] at f4); (try rw [← e])
      unfold f_X12_joins
      simp (maxSteps := 2000000) (disch := first | assumption | omega) only [jI0, iAdd_j, iSub_j, iMul_j, iNeg_j, Option.bind_some, jlt_t, jlt_f, jlt, jle_t, jle_f, jle, jeq_t, jeq_f, jeq, ↓reduceIte, o100, w100t, l102, mBand, mStake, mKind, mCross, mCr, mKindOf, mAhead, mWhen, mStep, mRods, mRodAt, mStakeAt, mIndex, mOver, mOverIn, jlL, X12_within, bI_t, bI_f, X12_no, mJoins]
  · refine OP.rf hI (-2) (jI (-2)) (by unfold f_X11_joins; simp (maxSteps := 2000000) (disch := first | assumption | omega) only [jI0, iAdd_j, iSub_j, iMul_j, iNeg_j, Option.bind_some, jlt_t, jlt_f, jlt, jle_t, jle_f, jle, jeq_t, jeq_f, jeq, ↓reduceIte, o0, o2, o12, hBand, hStake, hKind, hCross, hWeaver, oBand, oKindOf, oKind, oCr, oRing, oWv, oPer, oRows, oAhead, oWhen, oAll, oStep, oRods, oRodAt, oStakeAt, oOff, bI_t, bI_f, X11_refuse]) (by intro G1 hM e eo; have hV1 := hM.1; have hT1 := hM.2; (try rw [← e] at dm); (try rw [← e] at dr); (try rw [← e] at de); (try rw [← e] at dl); (try rw [← e] at hb); (try rw [← e] at hj); (try rw [← e] at hr); (try rw [← e] at hs); (try rw [← e] at pl); (try rw [← e] at al); (try rw [← e] at g); (try rw [← e] at c); (try rw [← e] at c1); (try rw [← e] at c2); (try rw [← e] at c3); (try rw [← e] at c4); (try rw [← e] at c5); (try rw [← e] at c6); (try rw [← e] at wb); (try rw [← e] at pr); (try rw [← e] at kd); (try rw [← e] at cr); (try rw [← e] at fe); (try rw [← e] at ra); (try rw [← e] at f1); (try rw [← e] at f2); (try rw [← e] at f3); (try rw [← e] at f4); (try rw [← e]); unfold f_X12_joins; simp (maxSteps := 2000000) (disch := first | assumption | omega) only [jI0, iAdd_j, iSub_j, iMul_j, iNeg_j, Option.bind_some, jlt_t, jlt_f, jlt, jle_t, jle_f, jle, jeq_t, jeq_f, jeq, ↓reduceIte, o100, w100t, l102, mBand, mStake, mKind, mCross, mCr, mKindOf, mAhead, mWhen, mStep, mRods, mRodAt, mStakeAt, mIndex, mOver, mOverIn, jlL, X12_within, bI_t, bI_f, X12_no])
def sLg (A : Int → Int) (b : Int) : Nat → Int
  | 0 => 0
  | j + 1 => max (sLg A b j) (A (2 + A (83 + 4 * b + j)))
theorem sLg_r {A : Int → Int} (hV : BV A) {b : Int} (hb : 0 ≤ b ∧ b < A 26) : ∀ n : Nat, (n : Int) ≤ A (27 + b) → 0 ≤ sLg A b n ∧ sLg A b n ≤ 99 ∧ ∀ j : Nat, j < n → A (2 + A (83 + 4 * b + j)) ≤ sLg A b n
  | 0, _ => ⟨Int.le_refl _, show (0 : Int) ≤ 99 by omega, fun j hj => by omega⟩
  | n + 1, h => by
    have ih := sLg_r hV hb n (by omega)
    have kd := hV.2.2.2.1 b n hb.1 hb.2 (by omega) (by omega)
    have f := hV.2.1 _ kd.1 kd.2
    simp only [sLg]
    refine ⟨by omega, by omega, fun j hj => ?_⟩
    by_cases c : j = n
    · subst c; omega
    · have := ih.2.2 j (by omega); omega
theorem oLongest (hN : 10000 ≤ N) (hB : BB G) {b : Int} (hb : 0 ≤ b ∧ b < G 102 26) : f_X0_longestRod N 2 (jI b) (hp q G) = some (jI (sLg (G 102) b (G 102 (27 + b)).toNat), hp q G) := by
  have wb := hB.1.2.2.1 b hb.1 hb.2
  unfold f_X0_longestRod
  refine loopE (N := N) (fun n (t : Int × Int) => L_X0_longestRod_4 N n 2 (jI b) (jI t.1) (jI t.2) (hp q G)) (fun k => (sLg (G 102) b k, (k : Int))) (G 102 (27 + b)).toNat (by omega) ?_ ?_
  · intro n j hj
    show L_X0_longestRod_4 N (n + 1) 2 (jI b) (jI (sLg (G 102) b j)) (jI (j : Int)) (hp q G) = L_X0_longestRod_4 N n 2 (jI b) (jI (sLg (G 102) b (j + 1))) (jI ((j + 1 : Nat) : Int)) (hp q G)
    have kd := hB.1.2.2.2.1 b j hb.1 hb.2 (by omega) (by omega)
    have f := hB.1.2.1 _ kd.1 kd.2
    have lr := sLg_r hB.1 hb j (by omega)
    rw [L_X0_longestRod_4]
    simp only [sLg]
    simp (maxSteps := 2000000) (disch := first | assumption | omega) only [jI0, iAdd_j, iSub_j, iMul_j, iNeg_j, Option.bind_some, jlt_t, jlt_f, jlt, jle_t, jle_f, jle, jeq_t, jeq_f, jeq, ↓reduceIte, o0, o2, o12, hBand, hStake, hKind, hCross, hWeaver, oBand, oKindOf, oKind, oCr, oRing, oWv, oPer, oRows, oAhead, oWhen, oAll, oStep, oRods, oRodAt, oStakeAt, oOff, bI_t, bI_f, X11_refuse, iMax_j, Int.natCast_succ]
  · intro n
    show L_X0_longestRod_4 N (n + 1) 2 (jI b) (jI _) (jI ((G 102 (27 + b)).toNat : Int)) (hp q G) = _
    rw [L_X0_longestRod_4]
    simp (maxSteps := 2000000) (disch := first | assumption | omega) only [jI0, iAdd_j, iSub_j, iMul_j, iNeg_j, Option.bind_some, jlt_t, jlt_f, jlt, jle_t, jle_f, jle, jeq_t, jeq_f, jeq, ↓reduceIte, o0, o2, o12, hBand, hStake, hKind, hCross, hWeaver, oBand, oKindOf, oKind, oCr, oRing, oWv, oPer, oRows, oAhead, oWhen, oAll, oStep, oRods, oRodAt, oStakeAt, oOff, bI_t, bI_f, X11_refuse]
/-- beyond the longest rod an overlap changes nothing -/
theorem jo_far {A : Int → Int} (hV : BV A) {b o p : Int} (hb : 0 ≤ b ∧ b < A 26) (ho : sLg A b (A (27 + b)).toNat - 1 ≤ o) (hp : sLg A b (A (27 + b)).toNat - 1 ≤ p) : sJo A b o True (A (27 + b)).toNat = sJo A b p True (A (27 + b)).toNat := by
  have wb := hV.2.2.1 b hb.1 hb.2
  have lr := sLg_r hV hb (A (27 + b)).toNat (by omega)
  apply sm_congr
  intro j hj
  have l := lr.2.2 j hj
  have s : sSt A o (A (83 + 4 * b + j)) = sSt A p (A (83 + 4 * b + j)) := by unfold sSt; omega
  have r : sRd A o (A (83 + 4 * b + j)) (sCr A b) = sRd A p (A (83 + 4 * b + j)) (sCr A b) := by unfold sRd; rw [s]
  show sJw A b j o True _ = sJw A b j p True _
  rw [r]
  unfold sJw
  rw [s]
theorem chB_min {f : Int → Int} : ∀ (k i : Nat), i ≤ k → (chB f k).2 ≤ f i
  | 0, i, h => by
    have : i = 0 := by omega
    subst this
    exact Int.le_refl _
  | k + 1, i, h => by
    have ih := chB_min (f := f) k
    simp only [chB]
    by_cases c : i = k + 1
    · subst c
      rw [Int.natCast_succ]
      split
      · exact Int.le_refl _
      · omega
    · have := ih i (by omega)
      split
      · show f (k + 1) ≤ f i; omega
      · exact this
theorem chB_far {f : Int → Int} {m : Nat} : ∀ d : Nat, (∀ i : Nat, m < i → f i = f m) → chB f (m + d) = chB f m
  | 0, _ => rfl
  | d + 1, h => by
    have ih := chB_far (f := f) (m := m) d h
    have l := chB_min (f := f) (m + d) m (by omega)
    have e := h (m + d + 1) (by omega)
    rw [Int.natCast_succ] at e
    show (if f (((m + d : Nat) : Int) + 1) < (chB f (m + d)).2 then _ else chB f (m + d)) = _
    rw [if_neg (by omega), ih]
theorem BV_lap {A : Int → Int} (h : BV A) {f : Int} (hf : 0 ≤ f ∧ f ≤ 20) : BV (u1 A 140 f) := by
  obtain ⟨g, h1, h2, h3, h4⟩ := h
  refine ⟨?_, ?_, ?_, ?_, ?_⟩
  · simp (disch := omega) only [u1_ne, u1_eq]
    omega
  · intro k k0 k1
    simp (disch := omega) only [u1_ne] at k1
    simp (disch := omega) only [u1_ne]
    exact h1 k k0 k1
  · intro b' k0 k1
    simp (disch := omega) only [u1_ne] at k1
    simp (disch := omega) only [u1_ne]
    exact h2 b' k0 k1
  · intro b' j k0 k1 j0 j1
    have := h2 b' k0 (by simp (disch := omega) only [u1_ne] at k1; exact k1)
    simp (disch := omega) only [u1_ne] at k1
    simp (disch := omega) only [u1_ne] at j1
    simp (disch := omega) only [u1_ne]
    exact h3 b' j k0 k1 j0 j1
  · intro s k0 k1
    simp (disch := omega) only [u1_ne] at k1
    simp (disch := omega) only [u1_ne]
    exact h4 s k0 k1
theorem sJo_u {A : Int → Int} (hV : BV A) {b o v : Int} (hb : 0 ≤ b ∧ b < A 26) : sJo (u1 A 140 v) b o True (A (27 + b)).toNat = sJo A b o True (A (27 + b)).toNat := by
  have g := hV.1
  have wb := hV.2.2.1 b hb.1 hb.2
  apply sm_congr
  intro j hj
  have kd := hV.2.2.2.1 b j hb.1 hb.2 (by omega) (by omega)
  have e1 : u1 A 140 v (83 + 4 * b + j) = A (83 + 4 * b + j) := u1_ne (by omega)
  have s : sSt (u1 A 140 v) o (A (83 + 4 * b + j)) = sSt A o (A (83 + 4 * b + j)) := by
    unfold sSt
    rw [u1_ne (by omega)]
  have c : sCr (u1 A 140 v) b = sCr A b := by
    unfold sCr
    rw [u1_ne (by omega), u1_ne (by omega)]
  have r : sRd (u1 A 140 v) o (A (83 + 4 * b + j)) (sCr A b) = sRd A o (A (83 + 4 * b + j)) (sCr A b) := by
    unfold sRd
    rw [s, u1_ne (by omega)]
  show sJw (u1 A 140 v) b j o True _ = sJw A b j o True _
  rw [e1, c, r]
  unfold sJw
  rw [e1, s]
  apply sm_congr
  intro k hk
  rw [sOv_u hV (by omega) (by omega) (by omega)]
theorem op_hide (hN : 10000 ≤ N) (hI : INV K1 K2 q G) {b w : Int} (h1 : -2147483648 ≤ b) (h2 : b < 2147483648) (h3 : -2147483648 ≤ w) (h4 : w < 2147483648) : OP K1 K2 q G (f_X11_hide N 0 (jI b) (jI w)) (f_X12_hide N 100 (jI b) (jI w)) := by
  have hB := hI.1.1; have hV := hB.1; have hT := hI.1.2.1; have g := hV.1
  by_cases c : 0 ≤ b ∧ b < G 102 26
  · have wb := hV.2.2.1 b c.1 c.2
    by_cases c1 : 0 ≤ w ∧ w ≤ 1
    · have kd := hV.2.2.2.1 b 0 c.1 c.2 (by omega) (by omega)
      have fk := hV.2.1 _ kd.1 kd.2
      have lr := sLg_r hV c (G 102 (27 + b)).toNat (by omega)
      have l0 := lr.2.2 0 (by omega)
      rw [show ((0 : Nat) : Int) = 0 from rfl] at l0
      generalize hf : (fun o => sJo (G 102) b o True (G 102 (27 + b)).toNat) = f
      have fe : ∀ o, sJo (G 102) b o True (G 102 (27 + b)).toNat = f o := fun o => by rw [← hf]
      have F : ∀ o : Nat, 0 ≤ f o ∧ f o ≤ 5600 := fun o => by
        have := sJo_r hV (b := b) (lap := (o : Int)) True c (by omega)
        rw [← fe]; omega
      have F2 : ∀ k : Nat, 0 ≤ (chB f k).1 ∧ (chB f k).1 ≤ k ∧ 0 ≤ (chB f k).2 ∧ (chB f k).2 ≤ 5600 := fun k => chB_r k (fun i _ => F i)
      generalize hL : sLg (G 102) b (G 102 (27 + b)).toNat = L at lr l0
      have hm : ∃ m : Nat, m ≤ 20 ∧ (m : Int) = min 20 (L - 1) ∧ chB f m = chB f 20 := by
        refine ⟨(min 20 (L - 1)).toNat, by omega, by omega, ?_⟩
        by_cases d : 20 ≤ L - 1
        · exact congrArg (chB f) (by omega)
        · have := chB_far (f := f) (m := (L - 1).toNat) (20 - (L - 1).toNat) (fun i hi => by
            rw [← fe, ← fe]
            exact jo_far hV c (by rw [hL]; omega) (by rw [hL]; omega))
          rw [show (L - 1).toNat + (20 - (L - 1).toNat) = 20 by omega] at this
          rw [show (min 20 (L - 1)).toNat = (L - 1).toNat by omega]
          exact this.symm
      obtain ⟨m, m20, mL, mE⟩ := hm
      generalize hMM : chB f 20 = M at mE
      refine OP.sc hI (jI (if w = 0 then (M).1 else (M).2)) ?_ ?_
      · obtain ⟨G1, hw1, e1⟩ := oJoins (q := q) hN hB hI.wv c (lap := 0) (by omega) True
        have e2 := hw1.e
        have hB1 := hw1.bb hB
        have bt : bI True = jI 1 := bI_t trivial
        have eL := oLongest (q := q) hN hB1 (b := b) (by rw [e2]; exact c)
        rw [e2, hL] at eL
        rw [fe, bt] at e1
        have LP : ∃ G2, WK G G2 ∧ L_X11_hide_54 N N 0 (jI b) (jI w) (jI 0) (jI (f 0)) (jI L) (jI 1) (hp q G1) = some (jI (if w = 0 then (M).1 else (M).2), hp q G2) := by
          refine loopQ (fun n (t : (Int × Int) × Int × (Nat → Int → Int)) => L_X11_hide_54 N n 0 (jI b) (jI w) (jI t.1.1) (jI t.1.2) (jI L) (jI t.2.1) (hp q t.2.2)) (fun k t => t.1 = chB f k ∧ t.2.1 = ((k + 1 : Nat) : Int) ∧ WK G t.2.2) m (fun r => ∃ G1, WK G G1 ∧ r = some (jI (if w = 0 then (M).1 else (M).2), hp q G1)) (by omega) (s := ((0, f 0), 1, G1)) ⟨rfl, rfl, hw1⟩ ?_ ?_
          · rintro n k ⟨p, i, G2⟩ hk ⟨rfl, rfl, hw⟩
            simp only at hw
            obtain ⟨G3, hw3, e3⟩ := oJoins (q := q) hN (hw.bb hB) hw.wv (b := b) (lap := ((k + 1 : Nat) : Int)) (by rw [hw.e]; exact c) (by omega) True
            rw [hw.e, fe, bt] at e3
            have f1 := F (k + 1)
            have f2 := F2 k
            refine ⟨(chB f (k + 1), ((k + 1 + 1 : Nat) : Int), G3), ⟨rfl, rfl, hw.trans hw3⟩, ?_⟩
            show L_X11_hide_54 N (n + 1) 0 (jI b) (jI w) (jI (chB f k).1) (jI (chB f k).2) (jI L) (jI ((k + 1 : Nat) : Int)) (hp q G2) = L_X11_hide_54 N n 0 (jI b) (jI w) (jI (chB f (k + 1)).1) (jI (chB f (k + 1)).2) (jI L) (jI ((k + 1 + 1 : Nat) : Int)) (hp q G3)
            rw [L_X11_hide_54]
            simp only [chB]
            rw [Int.natCast_succ] at e3 f1
            by_cases d : f (k + 1) < (chB f k).2
            · rw [if_pos d]
              simp (maxSteps := 2000000) (disch := first | assumption | omega) only [jI0, iAdd_j, iSub_j, iMul_j, iNeg_j, Option.bind_some, jlt_t, jlt_f, jlt, jle_t, jle_f, jle, jeq_t, jeq_f, jeq, ↓reduceIte, o0, o12, e3, Int.natCast_succ]
            · rw [if_neg d]
              simp (maxSteps := 2000000) (disch := first | assumption | omega) only [jI0, iAdd_j, iSub_j, iMul_j, iNeg_j, Option.bind_some, jlt_t, jlt_f, jlt, jle_t, jle_f, jle, jeq_t, jeq_f, jeq, ↓reduceIte, o0, o12, e3, Int.natCast_succ]
          · rintro n ⟨p, i, G2⟩ ⟨rfl, rfl, hw⟩
            simp only at hw
            refine ⟨G2, hw, ?_⟩
            show L_X11_hide_54 N (n + 1) 0 (jI b) (jI w) (jI (chB f m).1) (jI (chB f m).2) (jI L) (jI ((m + 1 : Nat) : Int)) (hp q G2) = _
            rw [L_X11_hide_54, mE]
            by_cases w0 : w = 0
            · rw [if_pos w0]
              by_cases d : m = 20
              · subst d; simp (maxSteps := 2000000) (disch := first | assumption | omega) only [jI0, iAdd_j, iSub_j, iMul_j, iNeg_j, Option.bind_some, jlt_t, jlt_f, jlt, jle_t, jle_f, jle, jeq_t, jeq_f, jeq, ↓reduceIte]
              · simp (maxSteps := 2000000) (disch := first | assumption | omega) only [jI0, iAdd_j, iSub_j, iMul_j, iNeg_j, Option.bind_some, jlt_t, jlt_f, jlt, jle_t, jle_f, jle, jeq_t, jeq_f, jeq, ↓reduceIte]
            · rw [if_neg w0]
              by_cases d : m = 20
              · subst d; simp (maxSteps := 2000000) (disch := first | assumption | omega) only [jI0, iAdd_j, iSub_j, iMul_j, iNeg_j, Option.bind_some, jlt_t, jlt_f, jlt, jle_t, jle_f, jle, jeq_t, jeq_f, jeq, ↓reduceIte]
              · simp (maxSteps := 2000000) (disch := first | assumption | omega) only [jI0, iAdd_j, iSub_j, iMul_j, iNeg_j, Option.bind_some, jlt_t, jlt_f, jlt, jle_t, jle_f, jle, jeq_t, jeq_f, jeq, ↓reduceIte]
        obtain ⟨G2, hw2, e⟩ := LP
        refine ⟨G2, hw2.sc, ?_⟩
        unfold f_X11_hide
        simp (maxSteps := 2000000) (disch := first | assumption | omega) only [jI0, iAdd_j, iSub_j, iMul_j, iNeg_j, Option.bind_some, jlt_t, jlt_f, jlt, jle_t, jle_f, jle, jeq_t, jeq_f, jeq, ↓reduceIte, o0, o2, o12, hBand, hStake, hKind, hCross, hWeaver, oBand, oKindOf, oKind, oCr, oRing, oWv, oPer, oRows, oAhead, oWhen, oAll, oStep, oRods, oRodAt, oStakeAt, oOff, bI_t, bI_f, X11_refuse, e1, eL, e]
      · intro G1 s1 hM e
        refine ⟨G1, SC.refl, ?_⟩
        have hV1 := hM.1; have hT1 := hM.2; (try rw [← e] at dm); (try rw [← e] at dr); (try rw [← e] at de); (try rw [← e] at dl); (try rw [← e] at hb); (try rw [← e] at hj); (try rw [← e] at hr); (try rw [← e] at hs); (try rw [← e] at pl); (try rw [← e] at al); (try rw [← e] at g); (try rw [← e] at c); (try rw [← e] at c1); (try rw [← e] at c2); (try rw [← e] at c3); (try rw [← e] at c4); (try rw [← e] at c5); (try rw [← e] at c6); (try rw [← e] at wb); (try rw [← e] at pr); (try rw [← e] at kd); (try rw [← e] at cr); (try rw [← e] at fe); (try rw [← e] at ra); (try rw [← e] at f1); (try rw [← e] at f2); (try rw [← e] at f3); (try rw [← e] at f4); (try rw [← e])
        unfold f_X12_hide
        simp (maxSteps := 2000000) (disch := first | assumption | omega) only [jI0, iAdd_j, iSub_j, iMul_j, iNeg_j, Option.bind_some, jlt_t, jlt_f, jlt, jle_t, jle_f, jle, jeq_t, jeq_f, jeq, ↓reduceIte, o100, w100t, l102, mBand, mStake, mKind, mCross, mCr, mKindOf, mAhead, mWhen, mStep, mRods, mRodAt, mStakeAt, mIndex, mOver, mOverIn, jlL, X12_within, bI_t, bI_f, X12_no]
        refine (loopE (N := N) (fun n (t : (Int × Int) × Int × Int) => L_X12_hide_48 N n 100 (jI b) (jI w) (jI (G1 102 140)) (jI t.1.1) (jI t.1.2) (jI t.2.1) (hp q (up G1 102 140 t.2.2))) (fun k => ((if k = 0 then (0, -1) else chB f (k - 1)), (k : Int), (if k = 0 then G1 102 140 else (k : Int) - 1))) 21 (r := some (jI (if w = 0 then (M).1 else (M).2), hp q G1)) (by omega) ?_ ?_) |> Eq.trans ?_
        · show _ = L_X12_hide_48 N N 100 (jI b) (jI w) (jI (G1 102 140)) (jI 0) (jI (-1)) (jI 0) (hp q (up G1 102 140 (G1 102 140)))
          rw [up_self]
        · intro n k hk
          show L_X12_hide_48 N (n + 1) 100 (jI b) (jI w) (jI (G1 102 140)) (jI (if k = 0 then ((0 : Int), (-1 : Int)) else chB f (k - 1)).1) (jI (if k = 0 then ((0 : Int), (-1 : Int)) else chB f (k - 1)).2) (jI (k : Int)) (hp q (up G1 102 140 (if k = 0 then G1 102 140 else (k : Int) - 1))) = L_X12_hide_48 N n 100 (jI b) (jI w) (jI (G1 102 140)) (jI (if k + 1 = 0 then ((0 : Int), (-1 : Int)) else chB f (k + 1 - 1)).1) (jI (if k + 1 = 0 then ((0 : Int), (-1 : Int)) else chB f (k + 1 - 1)).2) (jI ((k + 1 : Nat) : Int)) (hp q (up G1 102 140 (if k + 1 = 0 then G1 102 140 else ((k + 1 : Nat) : Int) - 1)))
          generalize hG : up G1 102 140 (if k = 0 then G1 102 140 else (k : Int) - 1) = G2
          have st : up G2 102 140 k = up G1 102 140 k := by rw [← hG, up_up]
          have bv : BV (up G1 102 140 k 102) := by rw [up_eq]; exact BV_lap hV1 (by omega)
          have sq := mJoins (q := q) hN bv (b := b) (by rw [up_eq, u1_ne (by omega)]; exact c) True
          have bt : bI True = jI 1 := bI_t trivial
          rw [up_eq, u1_eq, u1_ne (show 27 + b ≠ 140 by omega), sJo_u hV1 c, fe, bt] at sq
          have f1 := F k
          rw [L_X12_hide_48]
          simp only [show ¬ k + 1 = 0 by omega, ↓reduceIte, Nat.add_sub_cancel, show ((k + 1 : Nat) : Int) - 1 = (k : Int) by omega]
          match k, hk, f1, sq, st, bv with
          | 0, hk, f1, sq, st, bv =>
            rw [show ((0 : Nat) : Int) = 0 from rfl] at *
            simp (maxSteps := 2000000) (disch := first | assumption | omega) only [jI0, iAdd_j, iSub_j, iMul_j, iNeg_j, Option.bind_some, jlt_t, jlt_f, jlt, jle_t, jle_f, jle, jeq_t, jeq_f, jeq, ↓reduceIte, o100, l102, s102, st, sq, chB, Int.natCast_succ]
            rfl
          | k + 1, hk, f1, sq, st, bv =>
            have f2 := F2 k
            simp only [show ¬ k + 1 = 0 by omega, ↓reduceIte, Nat.add_sub_cancel, chB]
            rw [Int.natCast_succ] at *
            by_cases d : f (k + 1) < (chB f k).2
            · rw [if_pos d]
              simp (maxSteps := 2000000) (disch := first | assumption | omega) only [jI0, iAdd_j, iSub_j, iMul_j, iNeg_j, Option.bind_some, jlt_t, jlt_f, jlt, jle_t, jle_f, jle, jeq_t, jeq_f, jeq, ↓reduceIte, o100, l102, s102, st, sq, Int.natCast_succ]
            · rw [if_neg d]
              simp (maxSteps := 2000000) (disch := first | assumption | omega) only [jI0, iAdd_j, iSub_j, iMul_j, iNeg_j, Option.bind_some, jlt_t, jlt_f, jlt, jle_t, jle_f, jle, jeq_t, jeq_f, jeq, ↓reduceIte, o100, l102, s102, st, sq, Int.natCast_succ]
        · intro n
          show L_X12_hide_48 N (n + 1) 100 (jI b) (jI w) (jI (G1 102 140)) (jI (if (21 : Nat) = 0 then ((0 : Int), (-1 : Int)) else chB f (21 - 1)).1) (jI (if (21 : Nat) = 0 then ((0 : Int), (-1 : Int)) else chB f (21 - 1)).2) (jI ((21 : Nat) : Int)) (hp q (up G1 102 140 (if (21 : Nat) = 0 then G1 102 140 else ((21 : Nat) : Int) - 1))) = _
          rw [if_neg (show ¬ (21 : Nat) = 0 by omega), if_neg (show ¬ (21 : Nat) = 0 by omega), show (21 : Nat) - 1 = 20 from rfl, hMM, L_X12_hide_48]
          by_cases w0 : w = 0
          · rw [if_pos w0]
            simp (maxSteps := 2000000) (disch := first | assumption | omega) only [jI0, iAdd_j, iSub_j, iMul_j, iNeg_j, Option.bind_some, jlt_t, jlt_f, jlt, jle_t, jle_f, jle, jeq_t, jeq_f, jeq, ↓reduceIte, o100, l102, s102, up_up, up_self]
          · rw [if_neg w0]
            simp (maxSteps := 2000000) (disch := first | assumption | omega) only [jI0, iAdd_j, iSub_j, iMul_j, iNeg_j, Option.bind_some, jlt_t, jlt_f, jlt, jle_t, jle_f, jle, jeq_t, jeq_f, jeq, ↓reduceIte, o100, l102, s102, up_up, up_self]
    · refine OP.rf hI (-2) (jI (-2)) ?_ ?_
      · unfold f_X11_hide
        by_cases d : w < 0 <;> simp (maxSteps := 2000000) (disch := first | assumption | omega) only [jI0, iAdd_j, iSub_j, iMul_j, iNeg_j, Option.bind_some, jlt_t, jlt_f, jlt, jle_t, jle_f, jle, jeq_t, jeq_f, jeq, ↓reduceIte, o0, o2, o12, hBand, hStake, hKind, hCross, hWeaver, oBand, oKindOf, oKind, oCr, oRing, oWv, oPer, oRows, oAhead, oWhen, oAll, oStep, oRods, oRodAt, oStakeAt, oOff, bI_t, bI_f, X11_refuse]
      · intro G1 hM e eo
        have hV1 := hM.1; have hT1 := hM.2; (try rw [← e] at dm); (try rw [← e] at dr); (try rw [← e] at de); (try rw [← e] at dl); (try rw [← e] at hb); (try rw [← e] at hj); (try rw [← e] at hr); (try rw [← e] at hs); (try rw [← e] at pl); (try rw [← e] at al); (try rw [← e] at g); (try rw [← e] at c); (try rw [← e] at c1); (try rw [← e] at c2); (try rw [← e] at c3); (try rw [← e] at c4); (try rw [← e] at c5); (try rw [← e] at c6); (try rw [← e] at wb); (try rw [← e] at pr); (try rw [← e] at kd); (try rw [← e] at cr); (try rw [← e] at fe); (try rw [← e] at ra); (try rw [← e] at f1); (try rw [← e] at f2); (try rw [← e] at f3); (try rw [← e] at f4); (try rw [← e])
        unfold f_X12_hide
        simp (maxSteps := 2000000) (disch := first | assumption | omega) only [jI0, iAdd_j, iSub_j, iMul_j, iNeg_j, Option.bind_some, jlt_t, jlt_f, jlt, jle_t, jle_f, jle, jeq_t, jeq_f, jeq, ↓reduceIte, o100, w100t, l102, mBand, mStake, mKind, mCross, mCr, mKindOf, mAhead, mWhen, mStep, mRods, mRodAt, mStakeAt, mIndex, mOver, mOverIn, jlL, X12_within, bI_t, bI_f, X12_no]
  · refine OP.rf hI (-2) (jI (-2)) (by unfold f_X11_hide; simp (maxSteps := 2000000) (disch := first | assumption | omega) only [jI0, iAdd_j, iSub_j, iMul_j, iNeg_j, Option.bind_some, jlt_t, jlt_f, jlt, jle_t, jle_f, jle, jeq_t, jeq_f, jeq, ↓reduceIte, o0, o2, o12, hBand, hStake, hKind, hCross, hWeaver, oBand, oKindOf, oKind, oCr, oRing, oWv, oPer, oRows, oAhead, oWhen, oAll, oStep, oRods, oRodAt, oStakeAt, oOff, bI_t, bI_f, X11_refuse]) (by intro G1 hM e eo; have hV1 := hM.1; have hT1 := hM.2; (try rw [← e] at dm); (try rw [← e] at dr); (try rw [← e] at de); (try rw [← e] at dl); (try rw [← e] at hb); (try rw [← e] at hj); (try rw [← e] at hr); (try rw [← e] at hs); (try rw [← e] at pl); (try rw [← e] at al); (try rw [← e] at g); (try rw [← e] at c); (try rw [← e] at c1); (try rw [← e] at c2); (try rw [← e] at c3); (try rw [← e] at c4); (try rw [← e] at c5); (try rw [← e] at c6); (try rw [← e] at wb); (try rw [← e] at pr); (try rw [← e] at kd); (try rw [← e] at cr); (try rw [← e] at fe); (try rw [← e] at ra); (try rw [← e] at f1); (try rw [← e] at f2); (try rw [← e] at f3); (try rw [← e] at f4); (try rw [← e]); unfold f_X12_hide; simp (maxSteps := 2000000) (disch := first | assumption | omega) only [jI0, iAdd_j, iSub_j, iMul_j, iNeg_j, Option.bind_some, jlt_t, jlt_f, jlt, jle_t, jle_f, jle, jeq_t, jeq_f, jeq, ↓reduceIte, o100, w100t, l102, mBand, mStake, mKind, mCross, mCr, mKindOf, mAhead, mWhen, mStep, mRods, mRodAt, mStakeAt, mIndex, mOver, mOverIn, jlL, X12_within, bI_t, bI_f, X12_no])
end
