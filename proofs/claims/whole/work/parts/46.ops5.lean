/-! calls: band, mend, step, counts -/
section
variable {K1 K2 : (Int → Int) → (Int → Int) → Prop} {q : Nat × Nat × (Nat → Nat)} {G : Nat → Int → Int} {N : Nat}
theorem first_or (p : Nat → Prop) : ∀ m, (∀ k, k < m → ¬ p k) ∨ ∃ k, k < m ∧ p k ∧ ∀ i, i < k → ¬ p i
  | 0 => .inl (fun k hk => by omega)
  | m + 1 => by
    rcases first_or p m with h | ⟨k, h1, h2, h3⟩
    · by_cases c : p m
      · exact .inr ⟨m, by omega, c, h⟩
      · refine .inl (fun k hk => ?_)
        by_cases d : k = m
        · subst d; exact c
        · exact h k (by omega)
    · exact .inr ⟨k, by omega, h2, h3⟩
theorem mSlips (hN : 10000 ≤ N) (hV : BV (G 102)) {b : Int} (hb : 0 ≤ b ∧ b < 8) : f_X12_slipsOf N 100 (jI b) (hp q G) = some (jI (sBs (G 102) b), hp q G) := by
  have g := hV.1
  unfold f_X12_slipsOf sBs
  refine loopE (fun n (s : Int × Int) => L_X12_slipsOf_4 N n 100 (jI b) (jI s.1) (jI s.2) (hp q G)) (fun k => (sm (fun s => if G 102 (116 + s) = b then 1 else 0) k, (k : Int))) (G 102 115).toNat (by omega) ?_ ?_
  · intro n k hk
    have v := hV.2.2.2.2 k (by omega) (by omega)
    show L_X12_slipsOf_4 N (n + 1) 100 (jI b) (jI _) (jI _) (hp q G) = L_X12_slipsOf_4 N n 100 (jI b) (jI _) (jI _) (hp q G)
    rw [L_X12_slipsOf_4]
    simp only [sm]
    by_cases c1 : G 102 (116 + k) = b <;> simp (maxSteps := 2000000) (disch := first | assumption | omega) only [jI0, iAdd_j, iSub_j, iMul_j, iNeg_j, Option.bind_some, jlt_t, jlt_f, jlt, jle_t, jle_f, jle, jeq_t, jeq_f, jeq, ↓reduceIte, o100, l102, c1, Int.natCast_succ, Int.add_zero]
  · intro n
    show L_X12_slipsOf_4 N (n + 1) 100 (jI b) (jI _) (jI _) (hp q G) = _
    rw [L_X12_slipsOf_4]
    simp (maxSteps := 2000000) (disch := first | assumption | omega) only [jI0, iAdd_j, iSub_j, iMul_j, iNeg_j, Option.bind_some, jlt_t, jlt_f, jlt, jle_t, jle_f, jle, jeq_t, jeq_f, jeq, ↓reduceIte, o100, l102]
theorem op_band (hN : 10000 ≤ N) (hI : INV K1 K2 q G) {b w : Int} (h1 : -2147483648 ≤ b) (h2 : b < 2147483648) (h3 : -2147483648 ≤ w) (h4 : w < 2147483648) : OP K1 K2 q G (f_X11_band N 0 (jI b) (jI w)) (f_X12_band N 100 (jI b) (jI w)) := by
  have hB := hI.1.1; have hV := hB.1; have hT := hI.1.2.1; have g := hV.1
  by_cases c : 0 ≤ b ∧ b < G 102 26
  · have wb := hV.2.2.1 b c.1 c.2
    by_cases c1 : 0 ≤ w ∧ w ≤ 5
    · have x := hB.2.2.2.1 b w c.1 c.2 (by omega) (by omega)
      refine OP.ans hI (jI (G 102 (27 + 8 * w + b))) ?_ ?_
      · unfold f_X11_band
        simp (maxSteps := 2000000) (disch := first | assumption | omega) only [jI0, iAdd_j, iSub_j, iMul_j, iNeg_j, Option.bind_some, jlt_t, jlt_f, jlt, jle_t, jle_f, jle, jeq_t, jeq_f, jeq, ↓reduceIte, o0, o2, o12, hBand, hStake, hKind, hCross, hWeaver, oBand, oKindOf, oKind, oCr, oRing, oWv, oPer, oRows, oAhead, oWhen, oAll, oStep, oRods, oRodAt, oStakeAt, oOff, bI_t, bI_f, X11_refuse, X0_ofBand, x]
      · unfold f_X12_band
        simp (maxSteps := 2000000) (disch := first | assumption | omega) only [jI0, iAdd_j, iSub_j, iMul_j, iNeg_j, Option.bind_some, jlt_t, jlt_f, jlt, jle_t, jle_f, jle, jeq_t, jeq_f, jeq, ↓reduceIte, o100, w100t, l102, mBand, mStake, mKind, mCross, mCr, mKindOf, mAhead, mWhen, mStep, mRods, mRodAt, mStakeAt, mIndex, mOver, mOverIn, jlL, X12_within, bI_t, bI_f, X12_no]
    · by_cases c2 : w = 6
      · subst c2
        refine OP.ans hI (jI (sBs (G 102) b)) ?_ ?_
        · unfold f_X11_band J_X11_band_37
          simp (maxSteps := 2000000) (disch := first | assumption | omega) only [jI0, iAdd_j, iSub_j, iMul_j, iNeg_j, Option.bind_some, jlt_t, jlt_f, jlt, jle_t, jle_f, jle, jeq_t, jeq_f, jeq, ↓reduceIte, o0, o2, o12, hBand, hStake, hKind, hCross, hWeaver, oBand, oKindOf, oKind, oCr, oRing, oWv, oPer, oRows, oAhead, oWhen, oAll, oStep, oRods, oRodAt, oStakeAt, oOff, bI_t, bI_f, X11_refuse, oSlips]
        · unfold f_X12_band
          simp (maxSteps := 2000000) (disch := first | assumption | omega) only [jI0, iAdd_j, iSub_j, iMul_j, iNeg_j, Option.bind_some, jlt_t, jlt_f, jlt, jle_t, jle_f, jle, jeq_t, jeq_f, jeq, ↓reduceIte, o100, w100t, l102, mBand, mStake, mKind, mCross, mCr, mKindOf, mAhead, mWhen, mStep, mRods, mRodAt, mStakeAt, mIndex, mOver, mOverIn, jlL, X12_within, bI_t, bI_f, X12_no, mSlips]
      · by_cases c3 : 10 ≤ w ∧ w - 10 < G 102 (27 + b)
        · refine OP.ans hI (jI (G 102 (83 + 4 * b + (w - 10)))) ?_ ?_
          · unfold f_X11_band J_X11_band_37 J_X11_band_66
            simp (maxSteps := 2000000) (disch := first | assumption | omega) only [jI0, iAdd_j, iSub_j, iMul_j, iNeg_j, Option.bind_some, jlt_t, jlt_f, jlt, jle_t, jle_f, jle, jeq_t, jeq_f, jeq, ↓reduceIte, o0, o2, o12, hBand, hStake, hKind, hCross, hWeaver, oBand, oKindOf, oKind, oCr, oRing, oWv, oPer, oRows, oAhead, oWhen, oAll, oStep, oRods, oRodAt, oStakeAt, oOff, bI_t, bI_f, X11_refuse]
          · unfold f_X12_band
            simp (maxSteps := 2000000) (disch := first | assumption | omega) only [jI0, iAdd_j, iSub_j, iMul_j, iNeg_j, Option.bind_some, jlt_t, jlt_f, jlt, jle_t, jle_f, jle, jeq_t, jeq_f, jeq, ↓reduceIte, o100, w100t, l102, mBand, mStake, mKind, mCross, mCr, mKindOf, mAhead, mWhen, mStep, mRods, mRodAt, mStakeAt, mIndex, mOver, mOverIn, jlL, X12_within, bI_t, bI_f, X12_no]
            rw [show 83 + 4 * b + (w - 10) = 83 + 4 * b + w - 10 by omega]
        · refine OP.rf hI (-2) (jI (-2)) ?_ ?_
          · unfold f_X11_band J_X11_band_37 J_X11_band_66
            by_cases c4 : w < 0
            · simp (maxSteps := 2000000) (disch := first | assumption | omega) only [jI0, iAdd_j, iSub_j, iMul_j, iNeg_j, Option.bind_some, jlt_t, jlt_f, jlt, jle_t, jle_f, jle, jeq_t, jeq_f, jeq, ↓reduceIte, o0, o2, o12, hBand, hStake, hKind, hCross, hWeaver, oBand, oKindOf, oKind, oCr, oRing, oWv, oPer, oRows, oAhead, oWhen, oAll, oStep, oRods, oRodAt, oStakeAt, oOff, bI_t, bI_f, X11_refuse]
            · by_cases c5 : w < 10 <;> simp (maxSteps := 2000000) (disch := first | assumption | omega) only [jI0, iAdd_j, iSub_j, iMul_j, iNeg_j, Option.bind_some, jlt_t, jlt_f, jlt, jle_t, jle_f, jle, jeq_t, jeq_f, jeq, ↓reduceIte, o0, o2, o12, hBand, hStake, hKind, hCross, hWeaver, oBand, oKindOf, oKind, oCr, oRing, oWv, oPer, oRows, oAhead, oWhen, oAll, oStep, oRods, oRodAt, oStakeAt, oOff, bI_t, bI_f, X11_refuse]
          · intro G1 hM e eo
            have hV1 := hM.1; have hT1 := hM.2; (try rw [← e] at dm); (try rw [← e] at dr); (try rw [← e] at de); (try rw [← e] at dl); (try rw [← e] at hb); (try rw [← e] at hj); (try rw [← e] at hr); (try rw [← e] at hs); (try rw [← e] at pl); (try rw [← e] at al); (try rw [← e] at g); (try rw [← e] at c); (try rw [← e] at c1); (try rw [← e] at c2); (try rw [← e] at c3); (try rw [← e] at c4); (try rw [← e] at c5); (try rw [← e] at c6); (try rw [← e] at wb); (try rw [← e] at pr); (try rw [← e] at kd); (try rw [← e] at cr); (try rw [← e] at fe); (try rw [← e] at ra); (try rw [← e] at f1); (try rw [← e] at f2); (try rw [← e] at f3); (try rw [← e] at f4); (try rw [← e])
            unfold f_X12_band
            simp (maxSteps := 2000000) (disch := first | assumption | omega) only [jI0, iAdd_j, iSub_j, iMul_j, iNeg_j, Option.bind_some, jlt_t, jlt_f, jlt, jle_t, jle_f, jle, jeq_t, jeq_f, jeq, ↓reduceIte, o100, w100t, l102, mBand, mStake, mKind, mCross, mCr, mKindOf, mAhead, mWhen, mStep, mRods, mRodAt, mStakeAt, mIndex, mOver, mOverIn, jlL, X12_within, bI_t, bI_f, X12_no]
  · refine OP.rf hI (-2) (jI (-2)) (by unfold f_X11_band; simp (maxSteps := 2000000) (disch := first | assumption | omega) only [jI0, iAdd_j, iSub_j, iMul_j, iNeg_j, Option.bind_some, jlt_t, jlt_f, jlt, jle_t, jle_f, jle, jeq_t, jeq_f, jeq, ↓reduceIte, o0, o2, o12, hBand, hStake, hKind, hCross, hWeaver, oBand, oKindOf, oKind, oCr, oRing, oWv, oPer, oRows, oAhead, oWhen, oAll, oStep, oRods, oRodAt, oStakeAt, oOff, bI_t, bI_f, X11_refuse]) (by intro G1 hM e eo; have hV1 := hM.1; have hT1 := hM.2; (try rw [← e] at dm); (try rw [← e] at dr); (try rw [← e] at de); (try rw [← e] at dl); (try rw [← e] at hb); (try rw [← e] at hj); (try rw [← e] at hr); (try rw [← e] at hs); (try rw [← e] at pl); (try rw [← e] at al); (try rw [← e] at g); (try rw [← e] at c); (try rw [← e] at c1); (try rw [← e] at c2); (try rw [← e] at c3); (try rw [← e] at c4); (try rw [← e] at c5); (try rw [← e] at c6); (try rw [← e] at wb); (try rw [← e] at pr); (try rw [← e] at kd); (try rw [← e] at cr); (try rw [← e] at fe); (try rw [← e] at ra); (try rw [← e] at f1); (try rw [← e] at f2); (try rw [← e] at f3); (try rw [← e] at f4); (try rw [← e]); unfold f_X12_band; simp (maxSteps := 2000000) (disch := first | assumption | omega) only [jI0, iAdd_j, iSub_j, iMul_j, iNeg_j, Option.bind_some, jlt_t, jlt_f, jlt, jle_t, jle_f, jle, jeq_t, jeq_f, jeq, ↓reduceIte, o100, w100t, l102, mBand, mStake, mKind, mCross, mCr, mKindOf, mAhead, mWhen, mStep, mRods, mRodAt, mStakeAt, mIndex, mOver, mOverIn, jlL, X12_within, bI_t, bI_f, X12_no])
def fm (f : Int → Int) : Nat → Int
  | 0 => f 0
  | k + 1 => min (fm f k) (f (k + 1))
theorem fm_le (f : Int → Int) : ∀ k, fm f k ≤ f 0
  | 0 => Int.le_refl _
  | k + 1 => by have := fm_le f k; simp only [fm]; omega
theorem fm_ge {f : Int → Int} {c : Int} : ∀ k : Nat, (∀ i : Nat, i ≤ k → c ≤ f i) → c ≤ fm f k
  | 0, h => h 0 (by omega)
  | k + 1, h => by
    have := fm_ge k (fun i hi => h i (by omega))
    have := h (k + 1) (by omega)
    simp only [fm]
    rw [Int.natCast_succ] at this
    omega
theorem ah_mono {A : Int → Int} (hV : BV A) {n : Nat} : ∀ d : Nat, ((n + d : Nat) : Int) ≤ A 26 → sAh A n ≤ sAh A (n + d)
  | 0, _ => Int.le_refl _
  | d + 1, h => by
    have i := ah_mono hV (n := n) d (by omega)
    have w := hV.2.2.1 ((n + d : Nat) : Int) (by omega) (by omega)
    have c := crF hV (b := ((n + d : Nat) : Int)) (by omega) (by omega)
    have p := Int.mul_nonneg (a := A (27 + ((n + d : Nat) : Int))) (b := sCr A ((n + d : Nat) : Int)) (by omega) (by omega)
    have : sAh A (n + (d + 1)) = sAh A (n + d) + A (27 + ((n + d : Nat) : Int)) * sCr A ((n + d : Nat) : Int) := rfl
    omega
theorem whF {A : Int → Int} (hV : BV A) {b j i : Int} (h1 : 0 ≤ b) (h2 : b < A 26) (h3 : 0 ≤ j) (h4 : j < A (27 + b)) (h5 : 0 ≤ i) (h6 : i < sCr A b) : 0 ≤ sWh A b j i ∧ sWh A b j i < sAh A (A 26).toNat ∧ sAh A (A 26).toNat ≤ 40960 := by
  have g := hV.1
  have m := ah_mono hV (n := b.toNat + 1) ((A 26).toNat - (b.toNat + 1)) (by omega)
  rw [show b.toNat + 1 + ((A 26).toNat - (b.toNat + 1)) = (A 26).toNat by omega] at m
  have e : sAh A (b.toNat + 1) = sAh A b.toNat + A (27 + b) * sCr A b := by
    show sAh A b.toNat + A (27 + ((b.toNat : Nat) : Int)) * sCr A ((b.toNat : Nat) : Int) = _
    rw [show ((b.toNat : Nat) : Int) = b by omega]
  have a := ahF hV (n := b.toNat) (by omega)
  have a2 := ahF hV (n := (A 26).toNat) (by omega)
  have p := Int.mul_le_mul_of_nonneg_right (show i + 1 ≤ sCr A b by omega) (show 0 ≤ A (27 + b) by omega)
  have p2 := Int.mul_nonneg h5 (show 0 ≤ A (27 + b) by omega)
  rw [Int.add_mul, Int.one_mul, Int.mul_comm (sCr A b)] at p
  unfold sWh
  omega
theorem op_mend (hN : 10000 ≤ N) (hI : INV K1 K2 q G) {b r s : Int} (h1 : -2147483648 ≤ b) (h2 : b < 2147483648) (h3 : -2147483648 ≤ r) (h4 : r < 2147483648) (h5 : -2147483648 ≤ s) (h6 : s < 2147483648) : OP K1 K2 q G (f_X11_mend N 0 (jI b) (jI r) (jI s)) (f_X12_mend N 100 (jI b) (jI r) (jI s)) := by
  have hB := hI.1.1; have hV := hB.1; have hT := hI.1.2.1; have g := hV.1
  by_cases c : 0 ≤ b ∧ b < G 102 26
  · have wb := hV.2.2.1 b c.1 c.2
    by_cases c1 : 0 ≤ r ∧ r < G 102 (51 + b)
    · by_cases c2 : 0 ≤ s ∧ s < G 102 0
      · have e0 := hB.2.1.1
        have F : ∀ j, 0 ≤ j → j < G 102 (27 + b) → 0 ≤ sWh (G 102) b j (r * G 102 0 + sOf (G 102) b j s) ∧ sWh (G 102) b j (r * G 102 0 + sOf (G 102) b j s) < sAh (G 102) (G 102 26).toNat ∧ sAh (G 102) (G 102 26).toNat ≤ 40960 := by
          intro j j0 j1
          have o := ofF (A := G 102) (by omega) (b := b) (j := j) (s := s)
          have pl := rowPl hV c ⟨j0, j1⟩ c1
          have p := Int.mul_le_mul_of_nonneg_right (show r + 1 ≤ G 102 (51 + b) by omega) (show 0 ≤ G 102 0 by omega)
          rw [Int.add_mul, Int.one_mul] at p
          exact whF hV c.1 c.2 j0 j1 (by omega) (by unfold sCr; omega)
        generalize hf : (fun j => sWh (G 102) b j (r * G 102 0 + sOf (G 102) b j s)) = f at F
        have fe : ∀ j, sWh (G 102) b j (r * G 102 0 + sOf (G 102) b j s) = f j := fun j => by rw [← hf]
        have F2 : ∀ j : Int, 0 ≤ j → j < G 102 (27 + b) → 0 ≤ f j ∧ f j < sAh (G 102) (G 102 26).toNat ∧ sAh (G 102) (G 102 26).toNat ≤ 40960 := fun j j0 j1 => by rw [← fe]; exact F j j0 j1
        have F3 : ∀ k : Nat, (k : Int) < G 102 (27 + b) → 0 ≤ fm f k ∧ fm f k < sAh (G 102) (G 102 26).toNat ∧ sAh (G 102) (G 102 26).toNat ≤ 40960 := fun k hk => by
          have := fm_le f k
          have := F2 0 (by omega) (by omega)
          have := fm_ge (f := f) (c := 0) k (fun i hi => (F2 i (by omega) (by omega)).1)
          omega
        have L : f_X0_firstTouch N 2 (jI b) (jI r) (jI s) (hp q G) = some (jI (fm f ((G 102 (27 + b)).toNat - 1)), hp q G) := by
          unfold f_X0_firstTouch
          simp (maxSteps := 2000000) (disch := first | assumption | omega) only [jI0, iAdd_j, iSub_j, iMul_j, iNeg_j, Option.bind_some, jlt_t, jlt_f, jlt, jle_t, jle_f, jle, jeq_t, jeq_f, jeq, ↓reduceIte, o0, o2, o12, hBand, hStake, hKind, hCross, hWeaver, oBand, oKindOf, oKind, oCr, oRing, oWv, oPer, oRows, oAhead, oWhen, oAll, oStep, oRods, oRodAt, oStakeAt, oOff, bI_t, bI_f, X11_refuse, e0]
          refine (loopE (N := N) (fun n (t : Int × Int) => L_X0_firstTouch_25 N n 2 (jI b) (jI r) (jI s) (jI t.1) (jI t.2) (hp q G)) (fun k => (fm f k, ((k + 1 : Nat) : Int))) ((G 102 (27 + b)).toNat - 1) (by omega) ?_ ?_) |> Eq.trans ?_
          · show L_X0_firstTouch_25 N N 2 (jI b) (jI r) (jI s) (jI _) (jI 1) (hp q G) = L_X0_firstTouch_25 N N 2 (jI b) (jI r) (jI s) (jI (f 0)) (jI 1) (hp q G)
            rw [fe]
          · intro n k hk
            show L_X0_firstTouch_25 N (n + 1) 2 (jI b) (jI r) (jI s) (jI (fm f k)) (jI ((k + 1 : Nat) : Int)) (hp q G) = L_X0_firstTouch_25 N n 2 (jI b) (jI r) (jI s) (jI (min (fm f k) (f (k + 1)))) (jI ((k + 1 + 1 : Nat) : Int)) (hp q G)
            have f3 := F3 k (by omega)
            have f2 := F2 (k + 1) (by omega) (by omega)
            rw [L_X0_firstTouch_25]
            simp (maxSteps := 2000000) (disch := first | assumption | omega) only [jI0, iAdd_j, iSub_j, iMul_j, iNeg_j, Option.bind_some, jlt_t, jlt_f, jlt, jle_t, jle_f, jle, jeq_t, jeq_f, jeq, ↓reduceIte, o0, o2, o12, hBand, hStake, hKind, hCross, hWeaver, oBand, oKindOf, oKind, oCr, oRing, oWv, oPer, oRows, oAhead, oWhen, oAll, oStep, oRods, oRodAt, oStakeAt, oOff, bI_t, bI_f, X11_refuse, e0, fe, iMin_j, Int.natCast_succ]
          · intro n
            show L_X0_firstTouch_25 N (n + 1) 2 (jI b) (jI r) (jI s) (jI _) (jI ((((G 102 (27 + b)).toNat - 1) + 1 : Nat) : Int)) (hp q G) = _
            rw [L_X0_firstTouch_25]
            simp (maxSteps := 2000000) (disch := first | assumption | omega) only [jI0, iAdd_j, iSub_j, iMul_j, iNeg_j, Option.bind_some, jlt_t, jlt_f, jlt, jle_t, jle_f, jle, jeq_t, jeq_f, jeq, ↓reduceIte, o0, o2, o12, hBand, hStake, hKind, hCross, hWeaver, oBand, oKindOf, oKind, oCr, oRing, oWv, oPer, oRows, oAhead, oWhen, oAll, oStep, oRods, oRodAt, oStakeAt, oOff, bI_t, bI_f, X11_refuse]
        refine OP.ans hI (jI (sAh (G 102) (G 102 26).toNat - fm f ((G 102 (27 + b)).toNat - 1))) ?_ ?_
        · unfold f_X11_mend
          simp (maxSteps := 2000000) (disch := first | assumption | omega) only [jI0, iAdd_j, iSub_j, iMul_j, iNeg_j, Option.bind_some, jlt_t, jlt_f, jlt, jle_t, jle_f, jle, jeq_t, jeq_f, jeq, ↓reduceIte, o0, o2, o12, hBand, hStake, hKind, hCross, hWeaver, oBand, oKindOf, oKind, oCr, oRing, oWv, oPer, oRows, oAhead, oWhen, oAll, oStep, oRods, oRodAt, oStakeAt, oOff, bI_t, bI_f, X11_refuse, L]
        · unfold f_X12_mend
          simp (maxSteps := 2000000) (disch := first | assumption | omega) only [jI0, iAdd_j, iSub_j, iMul_j, iNeg_j, Option.bind_some, jlt_t, jlt_f, jlt, jle_t, jle_f, jle, jeq_t, jeq_f, jeq, ↓reduceIte, o100, w100t, l102, mBand, mStake, mKind, mCross, mCr, mKindOf, mAhead, mWhen, mStep, mRods, mRodAt, mStakeAt, mIndex, mOver, mOverIn, jlL, X12_within, bI_t, bI_f, X12_no]
          refine loopE (fun n (t : Int × Int) => L_X12_mend_65 N n 100 (jI b) (jI r) (jI s) (jI t.1) (jI t.2) (hp q G)) (fun k => ((if k = 0 then sAh (G 102) (G 102 26).toNat else fm f (k - 1)), (k : Int))) (G 102 (27 + b)).toNat (by omega) ?_ ?_
          · intro n k hk
            show L_X12_mend_65 N (n + 1) 100 (jI b) (jI r) (jI s) (jI (if k = 0 then sAh (G 102) (G 102 26).toNat else fm f (k - 1))) (jI k) (hp q G) = L_X12_mend_65 N n 100 (jI b) (jI r) (jI s) (jI (if k + 1 = 0 then sAh (G 102) (G 102 26).toNat else fm f (k + 1 - 1))) (jI ((k + 1 : Nat) : Int)) (hp q G)
            have f2 := F2 k (by omega) (by omega)
            rw [L_X12_mend_65]
            simp only [show ¬ k + 1 = 0 by omega, ↓reduceIte, Nat.add_sub_cancel]
            match k, hk, f2 with
            | 0, hk, f2 =>
              rw [show ((0 : Nat) : Int) = 0 from rfl] at f2 ⊢
              simp (maxSteps := 2000000) (disch := first | assumption | omega) only [jI0, iAdd_j, iSub_j, iMul_j, iNeg_j, Option.bind_some, jlt_t, jlt_f, jlt, jle_t, jle_f, jle, jeq_t, jeq_f, jeq, ↓reduceIte, o100, w100t, l102, mBand, mStake, mKind, mCross, mCr, mKindOf, mAhead, mWhen, mStep, mRods, mRodAt, mStakeAt, mIndex, mOver, mOverIn, jlL, X12_within, bI_t, bI_f, X12_no, fe, fm]
              rfl
            | k + 1, hk, f2 =>
              have f3 := F3 k (by omega)
              simp only [show ¬ k + 1 = 0 by omega, ↓reduceIte, Nat.add_sub_cancel, fm]
              rw [Int.natCast_succ] at f2 ⊢
              by_cases d : f (k + 1) < fm f k
              · simp (maxSteps := 2000000) (disch := first | assumption | omega) only [jI0, iAdd_j, iSub_j, iMul_j, iNeg_j, Option.bind_some, jlt_t, jlt_f, jlt, jle_t, jle_f, jle, jeq_t, jeq_f, jeq, ↓reduceIte, o100, w100t, l102, mBand, mStake, mKind, mCross, mCr, mKindOf, mAhead, mWhen, mStep, mRods, mRodAt, mStakeAt, mIndex, mOver, mOverIn, jlL, X12_within, bI_t, bI_f, X12_no, fe, Int.natCast_succ]
                rw [Int.min_eq_right (by omega)]
              · simp (maxSteps := 2000000) (disch := first | assumption | omega) only [jI0, iAdd_j, iSub_j, iMul_j, iNeg_j, Option.bind_some, jlt_t, jlt_f, jlt, jle_t, jle_f, jle, jeq_t, jeq_f, jeq, ↓reduceIte, o100, w100t, l102, mBand, mStake, mKind, mCross, mCr, mKindOf, mAhead, mWhen, mStep, mRods, mRodAt, mStakeAt, mIndex, mOver, mOverIn, jlL, X12_within, bI_t, bI_f, X12_no, fe, Int.natCast_succ]
                rw [Int.min_eq_left (by omega)]
          · intro n
            show L_X12_mend_65 N (n + 1) 100 (jI b) (jI r) (jI s) (jI (if (G 102 (27 + b)).toNat = 0 then sAh (G 102) (G 102 26).toNat else fm f ((G 102 (27 + b)).toNat - 1))) (jI ((G 102 (27 + b)).toNat : Int)) (hp q G) = _
            rw [L_X12_mend_65, if_neg (by omega)]
            simp (maxSteps := 2000000) (disch := first | assumption | omega) only [jI0, iAdd_j, iSub_j, iMul_j, iNeg_j, Option.bind_some, jlt_t, jlt_f, jlt, jle_t, jle_f, jle, jeq_t, jeq_f, jeq, ↓reduceIte, o100, w100t, l102, mBand, mStake, mKind, mCross, mCr, mKindOf, mAhead, mWhen, mStep, mRods, mRodAt, mStakeAt, mIndex, mOver, mOverIn, jlL, X12_within, bI_t, bI_f, X12_no]
      · refine OP.rf hI (-2) (jI (-2)) (by unfold f_X11_mend; simp (maxSteps := 2000000) (disch := first | assumption | omega) only [jI0, iAdd_j, iSub_j, iMul_j, iNeg_j, Option.bind_some, jlt_t, jlt_f, jlt, jle_t, jle_f, jle, jeq_t, jeq_f, jeq, ↓reduceIte, o0, o2, o12, hBand, hStake, hKind, hCross, hWeaver, oBand, oKindOf, oKind, oCr, oRing, oWv, oPer, oRows, oAhead, oWhen, oAll, oStep, oRods, oRodAt, oStakeAt, oOff, bI_t, bI_f, X11_refuse]) (by intro G1 hM e eo; have hV1 := hM.1; have hT1 := hM.2; (try rw [← e] at dm); (try rw [← e] at dr); (try rw [← e] at de); (try rw [← e] at dl); (try rw [← e] at hb); (try rw [← e] at hj); (try rw [← e] at hr); (try rw [← e] at hs); (try rw [← e] at pl); (try rw [← e] at al); (try rw [← e] at g); (try rw [← e] at c); (try rw [← e] at c1); (try rw [← e] at c2); (try rw [← e] at c3); (try rw [← e] at c4); (try rw [← e] at c5); (try rw [← e] at c6); (try rw [← e] at wb); (try rw [← e] at pr); (try rw [← e] at kd); (try rw [← e] at cr); (try rw [← e] at fe); (try rw [← e] at ra); (try rw [← e] at f1); (try rw [← e] at f2); (try rw [← e] at f3); (try rw [← e] at f4); (try rw [← e]); unfold f_X12_mend; simp (maxSteps := 2000000) (disch := first | assumption | omega) only [jI0, iAdd_j, iSub_j, iMul_j, iNeg_j, Option.bind_some, jlt_t, jlt_f, jlt, jle_t, jle_f, jle, jeq_t, jeq_f, jeq, ↓reduceIte, o100, w100t, l102, mBand, mStake, mKind, mCross, mCr, mKindOf, mAhead, mWhen, mStep, mRods, mRodAt, mStakeAt, mIndex, mOver, mOverIn, jlL, X12_within, bI_t, bI_f, X12_no])
    · refine OP.rf hI (-2) (jI (-2)) ?_ ?_
      · unfold f_X11_mend
        by_cases d : r < 0 <;> simp (maxSteps := 2000000) (disch := first | assumption | omega) only [jI0, iAdd_j, iSub_j, iMul_j, iNeg_j, Option.bind_some, jlt_t, jlt_f, jlt, jle_t, jle_f, jle, jeq_t, jeq_f, jeq, ↓reduceIte, o0, o2, o12, hBand, hStake, hKind, hCross, hWeaver, oBand, oKindOf, oKind, oCr, oRing, oWv, oPer, oRows, oAhead, oWhen, oAll, oStep, oRods, oRodAt, oStakeAt, oOff, bI_t, bI_f, X11_refuse]
      · intro G1 hM e eo
        have hV1 := hM.1; have hT1 := hM.2; (try rw [← e] at dm); (try rw [← e] at dr); (try rw [← e] at de); (try rw [← e] at dl); (try rw [← e] at hb); (try rw [← e] at hj); (try rw [← e] at hr); (try rw [← e] at hs); (try rw [← e] at pl); (try rw [← e] at al); (try rw [← e] at g); (try rw [← e] at c); (try rw [← e] at c1); (try rw [← e] at c2); (try rw [← e] at c3); (try rw [← e] at c4); (try rw [← e] at c5); (try rw [← e] at c6); (try rw [← e] at wb); (try rw [← e] at pr); (try rw [← e] at kd); (try rw [← e] at cr); (try rw [← e] at fe); (try rw [← e] at ra); (try rw [← e] at f1); (try rw [← e] at f2); (try rw [← e] at f3); (try rw [← e] at f4); (try rw [← e])
        unfold f_X12_mend
        simp (maxSteps := 2000000) (disch := first | assumption | omega) only [jI0, iAdd_j, iSub_j, iMul_j, iNeg_j, Option.bind_some, jlt_t, jlt_f, jlt, jle_t, jle_f, jle, jeq_t, jeq_f, jeq, ↓reduceIte, o100, w100t, l102, mBand, mStake, mKind, mCross, mCr, mKindOf, mAhead, mWhen, mStep, mRods, mRodAt, mStakeAt, mIndex, mOver, mOverIn, jlL, X12_within, bI_t, bI_f, X12_no]
  · refine OP.rf hI (-2) (jI (-2)) (by unfold f_X11_mend; simp (maxSteps := 2000000) (disch := first | assumption | omega) only [jI0, iAdd_j, iSub_j, iMul_j, iNeg_j, Option.bind_some, jlt_t, jlt_f, jlt, jle_t, jle_f, jle, jeq_t, jeq_f, jeq, ↓reduceIte, o0, o2, o12, hBand, hStake, hKind, hCross, hWeaver, oBand, oKindOf, oKind, oCr, oRing, oWv, oPer, oRows, oAhead, oWhen, oAll, oStep, oRods, oRodAt, oStakeAt, oOff, bI_t, bI_f, X11_refuse]) (by intro G1 hM e eo; have hV1 := hM.1; have hT1 := hM.2; (try rw [← e] at dm); (try rw [← e] at dr); (try rw [← e] at de); (try rw [← e] at dl); (try rw [← e] at hb); (try rw [← e] at hj); (try rw [← e] at hr); (try rw [← e] at hs); (try rw [← e] at pl); (try rw [← e] at al); (try rw [← e] at g); (try rw [← e] at c); (try rw [← e] at c1); (try rw [← e] at c2); (try rw [← e] at c3); (try rw [← e] at c4); (try rw [← e] at c5); (try rw [← e] at c6); (try rw [← e] at wb); (try rw [← e] at pr); (try rw [← e] at kd); (try rw [← e] at cr); (try rw [← e] at fe); (try rw [← e] at ra); (try rw [← e] at f1); (try rw [← e] at f2); (try rw [← e] at f3); (try rw [← e] at f4); (try rw [← e]); unfold f_X12_mend; simp (maxSteps := 2000000) (disch := first | assumption | omega) only [jI0, iAdd_j, iSub_j, iMul_j, iNeg_j, Option.bind_some, jlt_t, jlt_f, jlt, jle_t, jle_f, jle, jeq_t, jeq_f, jeq, ↓reduceIte, o100, w100t, l102, mBand, mStake, mKind, mCross, mCr, mKindOf, mAhead, mWhen, mStep, mRods, mRodAt, mStakeAt, mIndex, mOver, mOverIn, jlL, X12_within, bI_t, bI_f, X12_no])
end
