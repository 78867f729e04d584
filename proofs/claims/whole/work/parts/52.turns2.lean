/-! calls: repeats, seam, turn, spiral -/
section
variable {K1 K2 : (Int → Int) → (Int → Int) → Prop} {q : Nat × Nat × (Nat → Nat)} {G : Nat → Int → Int} {N : Nat}
theorem m61 (hN : 10000 ≤ N) (hV : BV (G 102)) {b m : Int} (hb : 0 ≤ b ∧ b < G 102 26) (hm : 0 ≤ m ∧ m ≤ 200) (k50 : Nat → Int32 → Int32 → Int32 → mH → Option (Int32 × mH)) : L_X12_repeats_61 N k50 N 100 (jI b) (jI (G 102 (27 + b) * G 102 (51 + b))) (jI m) (jI 1) (jI 0) (hp q G) = J_X12_repeats_93 N k50 100 (jI b) (jI (G 102 (27 + b) * G 102 (51 + b))) (jI m) (jI (cI (rBh (G 102) b m))) (hp q G) := by
  have g := hV.1
  have wb := hV.2.2.1 b hb.1 hb.2
  have pr := mulB (a := G 102 (27 + b)) (b := G 102 (51 + b)) (c := 4) (d := 40) (by omega) (by omega) (by omega) (by omega)
  have ST : ∀ (n k : Nat), (k : Int) + m < G 102 (27 + b) * G 102 (51 + b) → L_X12_repeats_61 N k50 (n + 1) 100 (jI b) (jI (G 102 (27 + b) * G 102 (51 + b))) (jI m) (jI 1) (jI k) (hp q G) = L_X12_repeats_61 N k50 n 100 (jI b) (jI (G 102 (27 + b) * G 102 (51 + b))) (jI m) (jI (cI (rAl (G 102) b k (k + m)))) (jI ((k + 1 : Nat) : Int)) (hp q G) := by
    intro n k hk
    rw [L_X12_repeats_61]
    simp (maxSteps := 2000000) (disch := first | assumption | omega) only [jI0, iAdd_j, iSub_j, iMul_j, iNeg_j, Option.bind_some, jlt_t, jlt_f, jlt, jle_t, jle_f, jle, jeq_t, jeq_f, jeq, ↓reduceIte, o100, w100t, l102, mBand, mStake, mKind, mCross, mCr, mKindOf, mAhead, mWhen, mStep, mRods, mRodAt, mStakeAt, mIndex, mOver, mOverIn, jlL, X12_within, bI_t, bI_f, X12_no, mAlike, Int.natCast_succ]
  rcases first_or (fun k => (k : Int) + m < G 102 (27 + b) * G 102 (51 + b) ∧ ¬ rAl (G 102) b k (k + m)) (G 102 (27 + b) * G 102 (51 + b) - m).toNat with F | ⟨k0, h0, ⟨h1, h1'⟩, F⟩
  · have all : rBh (G 102) b m := by
      intro row r0 r1
      have := F row.toNat (by omega)
      rw [show ((row.toNat : Nat) : Int) = row by omega] at this
      exact Classical.byContradiction (fun h => this ⟨r1, h⟩)
    rw [cI_t all]
    refine loopE (fun n (s : Int) => L_X12_repeats_61 N k50 n 100 (jI b) (jI (G 102 (27 + b) * G 102 (51 + b))) (jI m) (jI 1) (jI s) (hp q G)) (fun k => (k : Int)) (G 102 (27 + b) * G 102 (51 + b) - m).toNat (by omega) ?_ ?_
    · intro n k hk
      show L_X12_repeats_61 N k50 (n + 1) 100 (jI b) (jI (G 102 (27 + b) * G 102 (51 + b))) (jI m) (jI 1) (jI (k : Int)) (hp q G) = _
      rw [ST n k (by omega), cI_t (all k (by omega) (by omega))]
    · intro n
      show L_X12_repeats_61 N k50 (n + 1) 100 (jI b) (jI (G 102 (27 + b) * G 102 (51 + b))) (jI m) (jI 1) (jI ((G 102 (27 + b) * G 102 (51 + b) - m).toNat : Int)) (hp q G) = _
      rw [L_X12_repeats_61]
      simp (maxSteps := 2000000) (disch := first | assumption | omega) only [jI0, iAdd_j, iSub_j, iMul_j, iNeg_j, Option.bind_some, jlt_t, jlt_f, jlt, jle_t, jle_f, jle, jeq_t, jeq_f, jeq, ↓reduceIte, o100, w100t, l102, mBand, mStake, mKind, mCross, mCr, mKindOf, mAhead, mWhen, mStep, mRods, mRodAt, mStakeAt, mIndex, mOver, mOverIn, jlL, X12_within, bI_t, bI_f, X12_no]
  · have nall : ¬ rBh (G 102) b m := fun h => h1' (h k0 (by omega) h1)
    rw [cI_f nall]
    refine (loopE (N := N) (fun n (s : Int × Int) => L_X12_repeats_61 N k50 n 100 (jI b) (jI (G 102 (27 + b) * G 102 (51 + b))) (jI m) (jI s.1) (jI s.2) (hp q G)) (fun k => ((if k ≤ k0 then 1 else 0), (k : Int))) (k0 + 1) (by omega) ?_ ?_) |> Eq.trans ?_
    · show _ = L_X12_repeats_61 N k50 N 100 (jI b) (jI (G 102 (27 + b) * G 102 (51 + b))) (jI m) (jI (if 0 ≤ k0 then 1 else 0)) (jI 0) (hp q G)
      rw [if_pos (by omega)]
    · intro n k hk
      show L_X12_repeats_61 N k50 (n + 1) 100 (jI b) (jI (G 102 (27 + b) * G 102 (51 + b))) (jI m) (jI (if k ≤ k0 then 1 else 0)) (jI (k : Int)) (hp q G) = L_X12_repeats_61 N k50 n 100 (jI b) (jI (G 102 (27 + b) * G 102 (51 + b))) (jI m) (jI (if k + 1 ≤ k0 then 1 else 0)) (jI ((k + 1 : Nat) : Int)) (hp q G)
      rw [if_pos (by omega), ST n k (by omega)]
      by_cases c : k = k0
      · subst c
        rw [cI_f h1', if_neg (by omega)]
      · rw [cI_t (Classical.byContradiction (fun h => F k (by omega) ⟨by omega, h⟩)), if_pos (by omega)]
    · intro n
      show L_X12_repeats_61 N k50 (n + 1) 100 (jI b) (jI (G 102 (27 + b) * G 102 (51 + b))) (jI m) (jI (if k0 + 1 ≤ k0 then 1 else 0)) (jI ((k0 + 1 : Nat) : Int)) (hp q G) = _
      rw [if_neg (show ¬ k0 + 1 ≤ k0 by omega), L_X12_repeats_61]
      by_cases c : ((k0 + 1 : Nat) : Int) + m < G 102 (27 + b) * G 102 (51 + b) <;> simp (maxSteps := 2000000) (disch := first | assumption | omega) only [jI0, iAdd_j, iSub_j, iMul_j, iNeg_j, Option.bind_some, jlt_t, jlt_f, jlt, jle_t, jle_f, jle, jeq_t, jeq_f, jeq, ↓reduceIte, o100, w100t, l102, mBand, mStake, mKind, mCross, mCr, mKindOf, mAhead, mWhen, mStep, mRods, mRodAt, mStakeAt, mIndex, mOver, mOverIn, jlL, X12_within, bI_t, bI_f, X12_no]
theorem op_repeats (hN : 10000 ≤ N) (hI : INV K1 K2 q G) {b : Int} (h1 : -2147483648 ≤ b) (h2 : b < 2147483648) : OP K1 K2 q G (f_X11_repeats N 0 (jI b)) (f_X12_repeats N 100 (jI b)) := by
  have hB := hI.1.1; have hV := hB.1; have hT := hI.1.2.1; have g := hV.1
  by_cases c : 0 ≤ b ∧ b < G 102 26
  · have wb := hV.2.2.1 b c.1 c.2
    have pr := mulB (a := G 102 (27 + b)) (b := G 102 (51 + b)) (c := 4) (d := 40) (by omega) (by omega) (by omega) (by omega)
    have KB : ∀ k : Nat, (k : Int) + 1 < G 102 (51 + b) → 0 ≤ ((k : Int) + 1) * G 102 (27 + b) ∧ ((k : Int) + 1) * G 102 (27 + b) ≤ 160 ∧ ((k : Int) + 1) * G 102 (27 + b) < G 102 (27 + b) * G 102 (51 + b) ∧ (((k : Int) + 1) * G 102 (27 + b)) % G 102 (27 + b) = 0 := fun k hk => by
      have a := Int.mul_lt_mul_of_pos_right hk (show 0 < G 102 (27 + b) by omega)
      have a0 := Int.mul_nonneg (show 0 ≤ (k : Int) + 1 by omega) (show 0 ≤ G 102 (27 + b) by omega)
      rw [Int.mul_comm (G 102 (51 + b))] at a
      exact ⟨a0, by omega, a, Int.mul_emod_left _ _⟩
    have ME : ∀ k : Nat, (((k + 1 : Nat) : Int) + 1) * G 102 (27 + b) = ((k : Int) + 1) * G 102 (27 + b) + G 102 (27 + b) := fun k => by
      rw [Int.natCast_succ, Int.add_mul ((k : Int) + 1), Int.one_mul]
    have LA : ∀ k : Nat, (k : Int) + 1 = G 102 (51 + b) → ((k : Int) + 1) * G 102 (27 + b) = G 102 (27 + b) * G 102 (51 + b) := fun k hk => by rw [hk, Int.mul_comm]
    have K1e : ((0 : Nat) : Int) + 1 = 1 := rfl
    have CS : ∀ (n k : Nat) (G1 : Nat → Int → Int), (k : Int) + 1 < G 102 (51 + b) → WK G G1 → ∃ G2, WK G G2 ∧ L_X10_rowsTillAgain_18 N (n + 1) 12 (jI b) (jI (G 102 (27 + b) * G 102 (51 + b))) (jI (((k : Int) + 1) * G 102 (27 + b))) (hp q G1) = if cI (rBh (G 102) b (((k : Int) + 1) * G 102 (27 + b))) = 1 then some (jI (((k : Int) + 1) * G 102 (27 + b)), hp q G2) else L_X10_rowsTillAgain_18 N n 12 (jI b) (jI (G 102 (27 + b) * G 102 (51 + b))) (jI ((((k + 1 : Nat) : Int) + 1) * G 102 (27 + b))) (hp q G2) := by
      intro n k G1 hk hw
      have e2 := hw.e
      have kb := KB k hk
      obtain ⟨G2, hw2, e⟩ := oSame (q := q) hN (hw.bb hB) hw.wv (b := b) (m := ((k : Int) + 1) * G 102 (27 + b)) (by rw [e2]; exact c) (by omega) (by rw [e2]; exact kb.2.2.2)
      rw [e2] at e
      refine ⟨G2, hw.trans hw2, ?_⟩
      have hB2 := hw2.bb (hw.bb hB)
      have ew := oWv (q := q) (N := N) hB2 (b := b) c.1 (by rw [(hw.trans hw2).e]; exact c.2)
      rw [(hw.trans hw2).e] at ew
      rw [L_X10_rowsTillAgain_18, ME]
      by_cases d : rBh (G 102) b (((k : Int) + 1) * G 102 (27 + b))
      · rw [cI_t d] at e ⊢
        simp (maxSteps := 2000000) (disch := first | assumption | omega) only [jI0, iAdd_j, iSub_j, iMul_j, iNeg_j, Option.bind_some, jlt_t, jlt_f, jlt, jle_t, jle_f, jle, jeq_t, jeq_f, jeq, ↓reduceIte, o12, o2, e, ew]
      · have cz : ¬ cI (rBh (G 102) b (((k : Int) + 1) * G 102 (27 + b))) = 1 := by rw [cI_f d]; omega
        rw [if_neg cz]
        rw [cI_f d] at e
        simp (maxSteps := 2000000) (disch := first | assumption | omega) only [jI0, iAdd_j, iSub_j, iMul_j, iNeg_j, Option.bind_some, jlt_t, jlt_f, jlt, jle_t, jle_f, jle, jeq_t, jeq_f, jeq, ↓reduceIte, o12, o2, e, ew]
    rcases first_or (fun k => rBh (G 102) b (((k : Int) + 1) * G 102 (27 + b))) (G 102 (51 + b) - 1).toNat with F | ⟨k0, h0, h1, F⟩
    · refine OP.sc hI (jI (G 102 (27 + b) * G 102 (51 + b))) ?_ ?_
      · have L : ∃ G1, WK G G1 ∧ L_X10_rowsTillAgain_18 N N 12 (jI b) (jI (G 102 (27 + b) * G 102 (51 + b))) (jI ((((0 : Nat) : Int) + 1) * G 102 (27 + b))) (hp q G) = some (jI (G 102 (27 + b) * G 102 (51 + b)), hp q G1) := by
          refine loopQ (fun n (t : Int × (Nat → Int → Int)) => L_X10_rowsTillAgain_18 N n 12 (jI b) (jI (G 102 (27 + b) * G 102 (51 + b))) (jI ((t.1 + 1) * G 102 (27 + b))) (hp q t.2)) (fun k t => t.1 = k ∧ WK G t.2) (G 102 (51 + b) - 1).toNat (fun r => ∃ G1, WK G G1 ∧ r = some (jI (G 102 (27 + b) * G 102 (51 + b)), hp q G1)) (by omega) (s := (0, G)) ⟨rfl, WK.refl hI.wv⟩ ?_ ?_
          · rintro n k ⟨i, G1⟩ hk ⟨rfl, hw⟩
            obtain ⟨G2, hw2, e⟩ := CS n k G1 (by omega) hw
            rw [if_neg (by rw [cI_f (F k hk)]; omega)] at e
            exact ⟨(((k + 1 : Nat) : Int), G2), ⟨rfl, hw2⟩, e⟩
          · rintro n ⟨i, G1⟩ ⟨rfl, hw⟩
            refine ⟨G1, hw, ?_⟩
            show L_X10_rowsTillAgain_18 N (n + 1) 12 (jI b) (jI (G 102 (27 + b) * G 102 (51 + b))) (jI ((((G 102 (51 + b) - 1).toNat : Int) + 1) * G 102 (27 + b))) (hp q G1) = _
            rw [L_X10_rowsTillAgain_18, LA _ (by omega)]
            simp (maxSteps := 2000000) (disch := first | assumption | omega) only [jI0, iAdd_j, iSub_j, iMul_j, iNeg_j, Option.bind_some, jlt_t, jlt_f, jlt, jle_t, jle_f, jle, jeq_t, jeq_f, jeq, ↓reduceIte]
        obtain ⟨G1, hw, e⟩ := L
        rw [K1e, Int.one_mul] at e
        refine ⟨G1, hw.sc, ?_⟩
        unfold f_X11_repeats f_X10_rowsTillAgain
        simp (maxSteps := 2000000) (disch := first | assumption | omega) only [jI0, iAdd_j, iSub_j, iMul_j, iNeg_j, Option.bind_some, jlt_t, jlt_f, jlt, jle_t, jle_f, jle, jeq_t, jeq_f, jeq, ↓reduceIte, o0, o2, o12, hBand, hStake, hKind, hCross, hWeaver, oBand, oKindOf, oKind, oCr, oRing, oWv, oPer, oRows, oAhead, oWhen, oAll, oStep, oRods, oRodAt, oStakeAt, oOff, bI_t, bI_f, X11_refuse, e]
      · intro G1 s1 hM e
        refine ⟨G1, SC.refl, ?_⟩
        have hV1 := hM.1; have hT1 := hM.2; (try rw [← e] at dm); (try rw [← e] at dr); (try rw [← e] at de); (try rw [← e] at dl); (try rw [← e] at hb); (try rw [← e] at hj); (try rw [← e] at hr); (try rw [← e] at hs); (try rw [← e] at pl); (try rw [← e] at al); (try rw [← e] at g); (try rw [← e] at c); (try rw [← e] at c1); (try rw [← e] at c2); (try rw [← e] at c3); (try rw [← e] at c4); (try rw [← e] at c5); (try rw [← e] at c6); (try rw [← e] at wb); (try rw [← e] at pr); (try rw [← e] at kd); (try rw [← e] at cr); (try rw [← e] at fe); (try rw [← e] at ra); (try rw [← e] at f1); (try rw [← e] at f2); (try rw [← e] at f3); (try rw [← e] at f4); (try rw [← e])
        rw [← e] at KB ME LA F
        unfold f_X12_repeats
        simp (maxSteps := 2000000) (disch := first | assumption | omega) only [jI0, iAdd_j, iSub_j, iMul_j, iNeg_j, Option.bind_some, jlt_t, jlt_f, jlt, jle_t, jle_f, jle, jeq_t, jeq_f, jeq, ↓reduceIte, o100, w100t, l102, mBand, mStake, mKind, mCross, mCr, mKindOf, mAhead, mWhen, mStep, mRods, mRodAt, mStakeAt, mIndex, mOver, mOverIn, jlL, X12_within, bI_t, bI_f, X12_no]
        refine (loopE (N := N) (fun n (t : Int) => L_X12_repeats_50 N n 100 (jI b) (jI (G1 102 (27 + b) * G1 102 (51 + b))) (jI ((t + 1) * G1 102 (27 + b))) (hp q G1)) (fun k => (k : Int)) (G1 102 (51 + b) - 1).toNat (by omega) ?_ ?_) |> Eq.trans ?_
        · show _ = L_X12_repeats_50 N N 100 (jI b) (jI (G1 102 (27 + b) * G1 102 (51 + b))) (jI ((((0 : Nat) : Int) + 1) * G1 102 (27 + b))) (hp q G1)
          rw [K1e, Int.one_mul]
        · intro n k hk
          show L_X12_repeats_50 N (n + 1) 100 (jI b) (jI (G1 102 (27 + b) * G1 102 (51 + b))) (jI (((k : Int) + 1) * G1 102 (27 + b))) (hp q G1) = L_X12_repeats_50 N n 100 (jI b) (jI (G1 102 (27 + b) * G1 102 (51 + b))) (jI ((((k + 1 : Nat) : Int) + 1) * G1 102 (27 + b))) (hp q G1)
          have kb := KB k (by omega)
          rw [L_X12_repeats_50, ME]
          simp (maxSteps := 2000000) (disch := first | assumption | omega) only [jI0, iAdd_j, iSub_j, iMul_j, iNeg_j, Option.bind_some, jlt_t, jlt_f, jlt, jle_t, jle_f, jle, jeq_t, jeq_f, jeq, ↓reduceIte, o100, w100t, l102, mBand, mStake, mKind, mCross, mCr, mKindOf, mAhead, mWhen, mStep, mRods, mRodAt, mStakeAt, mIndex, mOver, mOverIn, jlL, X12_within, bI_t, bI_f, X12_no, m61]
          unfold J_X12_repeats_93
          rw [cI_f (F k hk)]
          simp (maxSteps := 2000000) (disch := first | assumption | omega) only [jI0, iAdd_j, iSub_j, iMul_j, iNeg_j, Option.bind_some, jlt_t, jlt_f, jlt, jle_t, jle_f, jle, jeq_t, jeq_f, jeq, ↓reduceIte, o100, w100t, l102, mBand, mStake, mKind, mCross, mCr, mKindOf, mAhead, mWhen, mStep, mRods, mRodAt, mStakeAt, mIndex, mOver, mOverIn, jlL, X12_within, bI_t, bI_f, X12_no]
        · intro n
          show L_X12_repeats_50 N (n + 1) 100 (jI b) (jI (G1 102 (27 + b) * G1 102 (51 + b))) (jI ((((G1 102 (51 + b) - 1).toNat : Int) + 1) * G1 102 (27 + b))) (hp q G1) = _
          rw [L_X12_repeats_50, LA _ (by omega)]
          simp (maxSteps := 2000000) (disch := first | assumption | omega) only [jI0, iAdd_j, iSub_j, iMul_j, iNeg_j, Option.bind_some, jlt_t, jlt_f, jlt, jle_t, jle_f, jle, jeq_t, jeq_f, jeq, ↓reduceIte]
    · refine OP.sc hI (jI (((k0 : Int) + 1) * G 102 (27 + b))) ?_ ?_
      · have L : ∃ G1, WK G G1 ∧ L_X10_rowsTillAgain_18 N N 12 (jI b) (jI (G 102 (27 + b) * G 102 (51 + b))) (jI ((((0 : Nat) : Int) + 1) * G 102 (27 + b))) (hp q G) = some (jI (((k0 : Int) + 1) * G 102 (27 + b)), hp q G1) := by
          refine loopQ (fun n (t : Int × (Nat → Int → Int)) => L_X10_rowsTillAgain_18 N n 12 (jI b) (jI (G 102 (27 + b) * G 102 (51 + b))) (jI ((t.1 + 1) * G 102 (27 + b))) (hp q t.2)) (fun k t => t.1 = k ∧ WK G t.2) k0 (fun r => ∃ G1, WK G G1 ∧ r = some (jI (((k0 : Int) + 1) * G 102 (27 + b)), hp q G1)) (by omega) (s := (0, G)) ⟨rfl, WK.refl hI.wv⟩ ?_ ?_
          · rintro n k ⟨i, G1⟩ hk ⟨rfl, hw⟩
            obtain ⟨G2, hw2, e⟩ := CS n k G1 (by omega) hw
            rw [if_neg (by rw [cI_f (F k hk)]; omega)] at e
            exact ⟨(((k + 1 : Nat) : Int), G2), ⟨rfl, hw2⟩, e⟩
          · rintro n ⟨i, G1⟩ ⟨rfl, hw⟩
            obtain ⟨G2, hw2, e⟩ := CS n k0 G1 (by omega) hw
            rw [if_pos (cI_t h1)] at e
            exact ⟨G2, hw2, e⟩
        obtain ⟨G1, hw, e⟩ := L
        rw [K1e, Int.one_mul] at e
        refine ⟨G1, hw.sc, ?_⟩
        unfold f_X11_repeats f_X10_rowsTillAgain
        simp (maxSteps := 2000000) (disch := first | assumption | omega) only [jI0, iAdd_j, iSub_j, iMul_j, iNeg_j, Option.bind_some, jlt_t, jlt_f, jlt, jle_t, jle_f, jle, jeq_t, jeq_f, jeq, ↓reduceIte, o0, o2, o12, hBand, hStake, hKind, hCross, hWeaver, oBand, oKindOf, oKind, oCr, oRing, oWv, oPer, oRows, oAhead, oWhen, oAll, oStep, oRods, oRodAt, oStakeAt, oOff, bI_t, bI_f, X11_refuse, e]
      · intro G1 s1 hM e
        refine ⟨G1, SC.refl, ?_⟩
        have hV1 := hM.1; have hT1 := hM.2; (try rw [← e] at dm); (try rw [← e] at dr); (try rw [← e] at de); (try rw [← e] at dl); (try rw [← e] at hb); (try rw [← e] at hj); (try rw [← e] at hr); (try rw [← e] at hs); (try rw [← e] at pl); (try rw [← e] at al); (try rw [← e] at g); (try rw [← e] at c); (try rw [← e] at c1); (try rw [← e] at c2); (try rw [← e] at c3); (try rw [← e] at c4); (try rw [← e] at c5); (try rw [← e] at c6); (try rw [← e] at wb); (try rw [← e] at pr); (try rw [← e] at kd); (try rw [← e] at cr); (try rw [← e] at fe); (try rw [← e] at ra); (try rw [← e] at f1); (try rw [← e] at f2); (try rw [← e] at f3); (try rw [← e] at f4); (try rw [← e])
        rw [← e] at KB ME LA F h0 h1
        unfold f_X12_repeats
        simp (maxSteps := 2000000) (disch := first | assumption | omega) only [jI0, iAdd_j, iSub_j, iMul_j, iNeg_j, Option.bind_some, jlt_t, jlt_f, jlt, jle_t, jle_f, jle, jeq_t, jeq_f, jeq, ↓reduceIte, o100, w100t, l102, mBand, mStake, mKind, mCross, mCr, mKindOf, mAhead, mWhen, mStep, mRods, mRodAt, mStakeAt, mIndex, mOver, mOverIn, jlL, X12_within, bI_t, bI_f, X12_no]
        refine (loopE (N := N) (fun n (t : Int) => L_X12_repeats_50 N n 100 (jI b) (jI (G1 102 (27 + b) * G1 102 (51 + b))) (jI ((t + 1) * G1 102 (27 + b))) (hp q G1)) (fun k => (k : Int)) k0 (by omega) ?_ ?_) |> Eq.trans ?_
        · show _ = L_X12_repeats_50 N N 100 (jI b) (jI (G1 102 (27 + b) * G1 102 (51 + b))) (jI ((((0 : Nat) : Int) + 1) * G1 102 (27 + b))) (hp q G1)
          rw [K1e, Int.one_mul]
        · intro n k hk
          show L_X12_repeats_50 N (n + 1) 100 (jI b) (jI (G1 102 (27 + b) * G1 102 (51 + b))) (jI (((k : Int) + 1) * G1 102 (27 + b))) (hp q G1) = L_X12_repeats_50 N n 100 (jI b) (jI (G1 102 (27 + b) * G1 102 (51 + b))) (jI ((((k + 1 : Nat) : Int) + 1) * G1 102 (27 + b))) (hp q G1)
          have kb := KB k (by omega)
          rw [L_X12_repeats_50, ME]
          simp (maxSteps := 2000000) (disch := first | assumption | omega) only [jI0, iAdd_j, iSub_j, iMul_j, iNeg_j, Option.bind_some, jlt_t, jlt_f, jlt, jle_t, jle_f, jle, jeq_t, jeq_f, jeq, ↓reduceIte, o100, w100t, l102, mBand, mStake, mKind, mCross, mCr, mKindOf, mAhead, mWhen, mStep, mRods, mRodAt, mStakeAt, mIndex, mOver, mOverIn, jlL, X12_within, bI_t, bI_f, X12_no, m61]
          unfold J_X12_repeats_93
          rw [cI_f (F k hk)]
          simp (maxSteps := 2000000) (disch := first | assumption | omega) only [jI0, iAdd_j, iSub_j, iMul_j, iNeg_j, Option.bind_some, jlt_t, jlt_f, jlt, jle_t, jle_f, jle, jeq_t, jeq_f, jeq, ↓reduceIte, o100, w100t, l102, mBand, mStake, mKind, mCross, mCr, mKindOf, mAhead, mWhen, mStep, mRods, mRodAt, mStakeAt, mIndex, mOver, mOverIn, jlL, X12_within, bI_t, bI_f, X12_no]
        · intro n
          show L_X12_repeats_50 N (n + 1) 100 (jI b) (jI (G1 102 (27 + b) * G1 102 (51 + b))) (jI (((k0 : Int) + 1) * G1 102 (27 + b))) (hp q G1) = _
          have kb := KB k0 (by omega)
          rw [L_X12_repeats_50]
          simp (maxSteps := 2000000) (disch := first | assumption | omega) only [jI0, iAdd_j, iSub_j, iMul_j, iNeg_j, Option.bind_some, jlt_t, jlt_f, jlt, jle_t, jle_f, jle, jeq_t, jeq_f, jeq, ↓reduceIte, o100, w100t, l102, mBand, mStake, mKind, mCross, mCr, mKindOf, mAhead, mWhen, mStep, mRods, mRodAt, mStakeAt, mIndex, mOver, mOverIn, jlL, X12_within, bI_t, bI_f, X12_no, m61]
          unfold J_X12_repeats_93
          rw [cI_t h1]
          simp (maxSteps := 2000000) (disch := first | assumption | omega) only [jI0, iAdd_j, iSub_j, iMul_j, iNeg_j, Option.bind_some, jlt_t, jlt_f, jlt, jle_t, jle_f, jle, jeq_t, jeq_f, jeq, ↓reduceIte, o100, w100t, l102, mBand, mStake, mKind, mCross, mCr, mKindOf, mAhead, mWhen, mStep, mRods, mRodAt, mStakeAt, mIndex, mOver, mOverIn, jlL, X12_within, bI_t, bI_f, X12_no]
  · refine OP.rf hI (-2) (jI (-2)) (by unfold f_X11_repeats; simp (maxSteps := 2000000) (disch := first | assumption | omega) only [jI0, iAdd_j, iSub_j, iMul_j, iNeg_j, Option.bind_some, jlt_t, jlt_f, jlt, jle_t, jle_f, jle, jeq_t, jeq_f, jeq, ↓reduceIte, o0, o2, o12, hBand, hStake, hKind, hCross, hWeaver, oBand, oKindOf, oKind, oCr, oRing, oWv, oPer, oRows, oAhead, oWhen, oAll, oStep, oRods, oRodAt, oStakeAt, oOff, bI_t, bI_f, X11_refuse]) (by intro G1 hM e eo; have hV1 := hM.1; have hT1 := hM.2; (try rw [← e] at dm); (try rw [← e] at dr); (try rw [← e] at de); (try rw [← e] at dl); (try rw [← e] at hb); (try rw [← e] at hj); (try rw [← e] at hr); (try rw [← e] at hs); (try rw [← e] at pl); (try rw [← e] at al); (try rw [← e] at g); (try rw [← e] at c); (try rw [← e] at c1); (try rw [← e] at c2); (try rw [← e] at c3); (try rw [← e] at c4); (try rw [← e] at c5); (try rw [← e] at c6); (try rw [← e] at wb); (try rw [← e] at pr); (try rw [← e] at kd); (try rw [← e] at cr); (try rw [← e] at fe); (try rw [← e] at ra); (try rw [← e] at f1); (try rw [← e] at f2); (try rw [← e] at f3); (try rw [← e] at f4); (try rw [← e]); unfold f_X12_repeats; simp (maxSteps := 2000000) (disch := first | assumption | omega) only [jI0, iAdd_j, iSub_j, iMul_j, iNeg_j, Option.bind_some, jlt_t, jlt_f, jlt, jle_t, jle_f, jle, jeq_t, jeq_f, jeq, ↓reduceIte, o100, w100t, l102, mBand, mStake, mKind, mCross, mCr, mKindOf, mAhead, mWhen, mStep, mRods, mRodAt, mStakeAt, mIndex, mOver, mOverIn, jlL, X12_within, bI_t, bI_f, X12_no])
end
