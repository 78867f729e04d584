/-! the call wander -/
theorem jI_wrap (x : Int) : jI x = jI (x % 4294967296) := by
  unfold jI
  apply Int32.toInt_inj.mp
  rw [Int32.toInt_ofInt, Int32.toInt_ofInt]
  exact (Int.emod_bmod x (2 ^ 32)).symm
/-- a draw -/
def dr (x : Int) : Int := 1103515245 * x + 12345
def hi (x : Int) : Int := x % 4294967296 / 65536
theorem hi_r (x : Int) : 0 ≤ hi x ∧ hi x < 65536 := by unfold hi; omega
theorem drw (x : Int) : iUsr (jI x) (jI 16) = jI (hi x) := by
  have r0 : 0 ≤ x % 4294967296 ∧ x % 4294967296 < 4294967296 := by omega
  obtain ⟨n, hn⟩ := Int.eq_ofNat_of_zero_le r0.1
  have h := iUsr_n (n := n) (by omega) (s := 16) (by omega)
  rw [jI_wrap x, hn]
  unfold hi
  rw [hn]
  exact h
def itr {σ : Type} (f : σ → σ) : Nat → σ → σ
  | 0, s => s
  | n + 1, s => f (itr f n s)
/-- one round: x, WIDTH, least, greatest -/
def wst (l : Int) (s : Int × Int × Int × Int) : Int × Int × Int × Int := (dr s.1, max 1 (s.2.1 + l + hi (dr s.1) % 3 - 1), min s.2.2.1 (max 1 (s.2.1 + l + hi (dr s.1) % 3 - 1)), max s.2.2.2 (max 1 (s.2.1 + l + hi (dr s.1) % 3 - 1)))
def sWa (A : Int → Int) (x : Int) : Nat → Int × Int × Int × Int
  | 0 => (x, A 141, if A 26 = 0 then A 141 else 2147483647, if A 26 = 0 then A 141 else 0)
  | b + 1 => itr (wst (A (75 + b))) (A (51 + b)).toNat (sWa A x b)
def wRg (c : Int) (s : Int × Int × Int × Int) : Prop := (1 ≤ s.2.1 ∧ s.2.1 ≤ c) ∧ (1 ≤ s.2.2.1 ∧ s.2.2.1 ≤ 2147483647) ∧ 0 ≤ s.2.2.2 ∧ s.2.2.2 ≤ c
theorem wst_r {l c : Int} {s : Int × Int × Int × Int} (hl : l ≤ 9) (h : wRg c s) : wRg (c + 11) (wst l s) := by
  have := hi_r (dr s.1)
  unfold wRg wst at *
  simp only
  omega
theorem wit_r {l c : Int} {s : Int × Int × Int × Int} (hl : l ≤ 9) (h : wRg c s) : ∀ n : Nat, wRg (c + 11 * n) (itr (wst l) n s)
  | 0 => by rw [show c + 11 * ((0 : Nat) : Int) = c by omega]; exact h
  | n + 1 => by
    rw [show c + 11 * ((n + 1 : Nat) : Int) = c + 11 * n + 11 by omega]
    exact wst_r hl (wit_r hl h n)
theorem sWa_r {A : Int → Int} (hV : BV A) (x : Int) : ∀ b : Nat, (b : Int) ≤ A 26 → wRg (999 + 440 * b) (sWa A x b)
  | 0, _ => by
    have g := hV.1
    unfold wRg sWa
    simp only
    split <;> omega
  | b + 1, h => by
    have wb := hV.2.2.1 b (by omega) (by omega)
    have := wit_r (l := A (75 + b)) (by omega) (sWa_r hV x b (by omega)) (A (51 + b)).toNat
    unfold sWa
    unfold wRg at *
    omega
section
variable {K1 K2 : (Int → Int) → (Int → Int) → Prop} {q : Nat × Nat × (Nat → Nat)} {G : Nat → Int → Int} {N : Nat}
theorem op_wander (hN : 10000 ≤ N) (hI : INV K1 K2 q G) {x w : Int} (h3 : -2147483648 ≤ w) (h4 : w < 2147483648) : OP K1 K2 q G (f_X11_wander N 0 (jI x) (jI w)) (f_X12_wander N 100 (jI x) (jI w)) := by
  have hB := hI.1.1; have hV := hB.1; have hT := hI.1.2.1; have g := hV.1
  have e := hB.2.1
  by_cases c : 0 ≤ w ∧ w ≤ 2
  · have X : ∀ v : Int, iAdd (iMul (jI 1103515245) (jI v)) (jI 12345) = jI (dr v) := fun v => by rw [iMul_j, iAdd_j]; rfl
    have L : L_X0_wanderFrom_46 N N 2 (jI w) (jI x) (jI (G 102 141)) (jI (if G 102 26 = 0 then G 102 141 else 2147483647)) (jI (if G 102 26 = 0 then G 102 141 else 0)) (jI 0) (hp q G) = some (jI (if w = 0 then (sWa (G 102) x (G 102 26).toNat).2.1 else if w = 1 then (sWa (G 102) x (G 102 26).toNat).2.2.1 else (sWa (G 102) x (G 102 26).toNat).2.2.2), hp q G) := by
      refine loopE (fun n (t : (Int × Int × Int × Int) × Int) => L_X0_wanderFrom_46 N n 2 (jI w) (jI t.1.1) (jI t.1.2.1) (jI t.1.2.2.1) (jI t.1.2.2.2) (jI t.2) (hp q G)) (fun b => (sWa (G 102) x b, (b : Int))) (G 102 26).toNat (by omega) ?_ ?_
      · intro n b hb
        show L_X0_wanderFrom_46 N (n + 1) 2 (jI w) (jI (sWa (G 102) x b).1) (jI (sWa (G 102) x b).2.1) (jI (sWa (G 102) x b).2.2.1) (jI (sWa (G 102) x b).2.2.2) (jI b) (hp q G) = L_X0_wanderFrom_46 N n 2 (jI w) (jI (sWa (G 102) x (b + 1)).1) (jI (sWa (G 102) x (b + 1)).2.1) (jI (sWa (G 102) x (b + 1)).2.2.1) (jI (sWa (G 102) x (b + 1)).2.2.2) (jI ((b + 1 : Nat) : Int)) (hp q G)
        have wb := hV.2.2.1 b (by omega) (by omega)
        have rg := sWa_r hV x b (by omega)
        rw [L_X0_wanderFrom_46]
        simp (maxSteps := 2000000) (disch := first | assumption | omega) only [jI0, iAdd_j, iSub_j, iMul_j, iNeg_j, Option.bind_some, jlt_t, jlt_f, jlt, jle_t, jle_f, jle, jeq_t, jeq_f, jeq, ↓reduceIte, o0, o2, o12, hBand, hStake, hKind, hCross, hWeaver, oBand, oKindOf, oKind, oCr, oRing, oWv, oPer, oRows, oAhead, oWhen, oAll, oStep, oRods, oRodAt, oStakeAt, oOff, bI_t, bI_f, X11_refuse, e]
        refine loopE (N := N) (fun m (t : (Int × Int × Int × Int) × Int) => L_X0_wanderFrom_58 N (L_X0_wanderFrom_46 N n) m 2 (jI w) (jI t.1.1) (jI t.1.2.1) (jI t.1.2.2.1) (jI t.1.2.2.2) (jI b) (jI t.2) (hp q G)) (fun r => (itr (wst (G 102 (75 + b))) r (sWa (G 102) x b), (r : Int))) (G 102 (51 + b)).toNat (by omega) ?_ ?_
        · intro m r hr
          show L_X0_wanderFrom_58 N (L_X0_wanderFrom_46 N n) (m + 1) 2 (jI w) (jI (itr (wst (G 102 (75 + b))) r (sWa (G 102) x b)).1) (jI (itr (wst (G 102 (75 + b))) r (sWa (G 102) x b)).2.1) (jI (itr (wst (G 102 (75 + b))) r (sWa (G 102) x b)).2.2.1) (jI (itr (wst (G 102 (75 + b))) r (sWa (G 102) x b)).2.2.2) (jI b) (jI r) (hp q G) = L_X0_wanderFrom_58 N (L_X0_wanderFrom_46 N n) m 2 (jI w) (jI (wst (G 102 (75 + b)) (itr (wst (G 102 (75 + b))) r (sWa (G 102) x b))).1) (jI (wst (G 102 (75 + b)) (itr (wst (G 102 (75 + b))) r (sWa (G 102) x b))).2.1) (jI (wst (G 102 (75 + b)) (itr (wst (G 102 (75 + b))) r (sWa (G 102) x b))).2.2.1) (jI (wst (G 102 (75 + b)) (itr (wst (G 102 (75 + b))) r (sWa (G 102) x b))).2.2.2) (jI b) (jI ((r + 1 : Nat) : Int)) (hp q G)
          have rg2 := wit_r (l := G 102 (75 + b)) (by omega) rg r
          generalize itr (wst (G 102 (75 + b))) r (sWa (G 102) x b) = s at rg2 ⊢
          have hr1 := hi_r (dr s.1)
          unfold wRg at rg2
          rw [L_X0_wanderFrom_58]
          unfold f_X11_drawn wst
          simp only [X]
          simp (maxSteps := 2000000) (disch := first | assumption | omega) only [jI0, iAdd_j, iSub_j, iMul_j, iNeg_j, Option.bind_some, jlt_t, jlt_f, jlt, jle_t, jle_f, jle, jeq_t, jeq_f, jeq, ↓reduceIte, o0, o2, o12, hBand, hStake, hKind, hCross, hWeaver, oBand, oKindOf, oKind, oCr, oRing, oWv, oPer, oRows, oAhead, oWhen, oAll, oStep, oRods, oRodAt, oStakeAt, oOff, bI_t, bI_f, X11_refuse, drw, iRem_p, iMax_j, iMin_j, Int.natCast_succ]
        · intro m
          show L_X0_wanderFrom_58 N (L_X0_wanderFrom_46 N n) (m + 1) 2 (jI w) (jI _) (jI _) (jI _) (jI _) (jI b) (jI ((G 102 (51 + b)).toNat : Int)) (hp q G) = _
          rw [L_X0_wanderFrom_58]
          simp (maxSteps := 2000000) (disch := first | assumption | omega) only [jI0, iAdd_j, iSub_j, iMul_j, iNeg_j, Option.bind_some, jlt_t, jlt_f, jlt, jle_t, jle_f, jle, jeq_t, jeq_f, jeq, ↓reduceIte, o0, o2, o12, hBand, hStake, hKind, hCross, hWeaver, oBand, oKindOf, oKind, oCr, oRing, oWv, oPer, oRows, oAhead, oWhen, oAll, oStep, oRods, oRodAt, oStakeAt, oOff, bI_t, bI_f, X11_refuse, Int.natCast_succ]
          rfl
      · intro n
        show L_X0_wanderFrom_46 N (n + 1) 2 (jI w) (jI _) (jI _) (jI _) (jI _) (jI ((G 102 26).toNat : Int)) (hp q G) = _
        rw [L_X0_wanderFrom_46]
        by_cases w0 : w = 0
        · rw [if_pos w0]
          simp (maxSteps := 2000000) (disch := first | assumption | omega) only [jI0, iAdd_j, iSub_j, iMul_j, iNeg_j, Option.bind_some, jlt_t, jlt_f, jlt, jle_t, jle_f, jle, jeq_t, jeq_f, jeq, ↓reduceIte, o0, o2, o12, hBand, hStake, hKind, hCross, hWeaver, oBand, oKindOf, oKind, oCr, oRing, oWv, oPer, oRows, oAhead, oWhen, oAll, oStep, oRods, oRodAt, oStakeAt, oOff, bI_t, bI_f, X11_refuse, e]
        · by_cases w1 : w = 1
          · rw [if_neg w0, if_pos w1]
            simp (maxSteps := 2000000) (disch := first | assumption | omega) only [jI0, iAdd_j, iSub_j, iMul_j, iNeg_j, Option.bind_some, jlt_t, jlt_f, jlt, jle_t, jle_f, jle, jeq_t, jeq_f, jeq, ↓reduceIte, o0, o2, o12, hBand, hStake, hKind, hCross, hWeaver, oBand, oKindOf, oKind, oCr, oRing, oWv, oPer, oRows, oAhead, oWhen, oAll, oStep, oRods, oRodAt, oStakeAt, oOff, bI_t, bI_f, X11_refuse, e]
          · rw [if_neg w0, if_neg w1]
            simp (maxSteps := 2000000) (disch := first | assumption | omega) only [jI0, iAdd_j, iSub_j, iMul_j, iNeg_j, Option.bind_some, jlt_t, jlt_f, jlt, jle_t, jle_f, jle, jeq_t, jeq_f, jeq, ↓reduceIte, o0, o2, o12, hBand, hStake, hKind, hCross, hWeaver, oBand, oKindOf, oKind, oCr, oRing, oWv, oPer, oRows, oAhead, oWhen, oAll, oStep, oRods, oRodAt, oStakeAt, oOff, bI_t, bI_f, X11_refuse, e]
    refine OP.ans hI (jI (if w = 0 then (sWa (G 102) x (G 102 26).toNat).2.1 else if w = 1 then (sWa (G 102) x (G 102 26).toNat).2.2.1 else (sWa (G 102) x (G 102 26).toNat).2.2.2)) ?_ ?_
    · unfold f_X11_wander f_X0_wanderFrom J_X0_wanderFrom_24
      by_cases d : G 102 26 = 0
      · rw [if_pos d, if_pos d] at L
        simp (maxSteps := 2000000) (disch := first | assumption | omega) only [jI0, iAdd_j, iSub_j, iMul_j, iNeg_j, Option.bind_some, jlt_t, jlt_f, jlt, jle_t, jle_f, jle, jeq_t, jeq_f, jeq, ↓reduceIte, o0, o2, o12, hBand, hStake, hKind, hCross, hWeaver, oBand, oKindOf, oKind, oCr, oRing, oWv, oPer, oRows, oAhead, oWhen, oAll, oStep, oRods, oRodAt, oStakeAt, oOff, bI_t, bI_f, X11_refuse, e, L]
      · rw [if_neg d, if_neg d] at L
        simp (maxSteps := 2000000) (disch := first | assumption | omega) only [jI0, iAdd_j, iSub_j, iMul_j, iNeg_j, Option.bind_some, jlt_t, jlt_f, jlt, jle_t, jle_f, jle, jeq_t, jeq_f, jeq, ↓reduceIte, o0, o2, o12, hBand, hStake, hKind, hCross, hWeaver, oBand, oKindOf, oKind, oCr, oRing, oWv, oPer, oRows, oAhead, oWhen, oAll, oStep, oRods, oRodAt, oStakeAt, oOff, bI_t, bI_f, X11_refuse, e, L]
    · unfold f_X12_wander
      simp (maxSteps := 2000000) (disch := first | assumption | omega) only [jI0, iAdd_j, iSub_j, iMul_j, iNeg_j, Option.bind_some, jlt_t, jlt_f, jlt, jle_t, jle_f, jle, jeq_t, jeq_f, jeq, ↓reduceIte, o100, w100t, l102, mBand, mStake, mKind, mCross, mCr, mKindOf, mAhead, mWhen, mStep, mRods, mRodAt, mStakeAt, mIndex, mOver, mOverIn, jlL, X12_within, bI_t, bI_f, X12_no]
      refine (loopE (N := N) (fun n (t : (Int × Int × Int × Int) × Int) => L_X12_wander_45 N n 100 (jI w) (jI t.1.1) (jI t.1.2.1) (jI t.1.2.2.1) (jI t.1.2.2.2) (jI t.2) (hp q G)) (fun b => (((sWa (G 102) x b).1, (sWa (G 102) x b).2.1, (if b = 0 then -1 else (sWa (G 102) x b).2.2.1), (if b = 0 then -1 else (sWa (G 102) x b).2.2.2)), (b : Int))) (G 102 26).toNat (r := some (jI (if w = 0 then (sWa (G 102) x (G 102 26).toNat).2.1 else if w = 1 then (sWa (G 102) x (G 102 26).toNat).2.2.1 else (sWa (G 102) x (G 102 26).toNat).2.2.2), hp q G)) (by omega) ?_ ?_)
      · intro n b hb
        show L_X12_wander_45 N (n + 1) 100 (jI w) (jI (sWa (G 102) x b).1) (jI (sWa (G 102) x b).2.1) (jI (if b = 0 then -1 else (sWa (G 102) x b).2.2.1)) (jI (if b = 0 then -1 else (sWa (G 102) x b).2.2.2)) (jI b) (hp q G) = L_X12_wander_45 N n 100 (jI w) (jI (sWa (G 102) x (b + 1)).1) (jI (sWa (G 102) x (b + 1)).2.1) (jI (if b + 1 = 0 then -1 else (sWa (G 102) x (b + 1)).2.2.1)) (jI (if b + 1 = 0 then -1 else (sWa (G 102) x (b + 1)).2.2.2)) (jI ((b + 1 : Nat) : Int)) (hp q G)
        have wb := hV.2.2.1 b (by omega) (by omega)
        have rg := sWa_r hV x b (by omega)
        rw [L_X12_wander_45, if_neg (show ¬ b + 1 = 0 by omega), if_neg (show ¬ b + 1 = 0 by omega)]
        simp (maxSteps := 2000000) (disch := first | assumption | omega) only [jI0, iAdd_j, iSub_j, iMul_j, iNeg_j, Option.bind_some, jlt_t, jlt_f, jlt, jle_t, jle_f, jle, jeq_t, jeq_f, jeq, ↓reduceIte, o100, w100t, l102, mBand, mStake, mKind, mCross, mCr, mKindOf, mAhead, mWhen, mStep, mRods, mRodAt, mStakeAt, mIndex, mOver, mOverIn, jlL, X12_within, bI_t, bI_f, X12_no]
        refine (loopE (N := N) (fun m (t : (Int × Int × Int × Int) × Int) => L_X12_wander_60 N (L_X12_wander_45 N n) m 100 (jI w) (jI t.1.1) (jI t.1.2.1) (jI t.1.2.2.1) (jI t.1.2.2.2) (jI b) (jI t.2) (hp q G)) (fun r => (((itr (wst (G 102 (75 + b))) r (sWa (G 102) x b)).1, (itr (wst (G 102 (75 + b))) r (sWa (G 102) x b)).2.1, (if b = 0 ∧ r = 0 then -1 else (itr (wst (G 102 (75 + b))) r (sWa (G 102) x b)).2.2.1), (if b = 0 ∧ r = 0 then -1 else (itr (wst (G 102 (75 + b))) r (sWa (G 102) x b)).2.2.2)), (r : Int))) (G 102 (51 + b)).toNat (by omega) ?_ ?_) |> Eq.trans ?_
        · show _ = L_X12_wander_60 N (L_X12_wander_45 N n) N 100 (jI w) (jI (sWa (G 102) x b).1) (jI (sWa (G 102) x b).2.1) (jI (if b = 0 ∧ 0 = 0 then -1 else (sWa (G 102) x b).2.2.1)) (jI (if b = 0 ∧ 0 = 0 then -1 else (sWa (G 102) x b).2.2.2)) (jI b) (jI 0) (hp q G)
          simp only [and_true]
        · intro m r hr
          show L_X12_wander_60 N (L_X12_wander_45 N n) (m + 1) 100 (jI w) (jI (itr (wst (G 102 (75 + b))) r (sWa (G 102) x b)).1) (jI (itr (wst (G 102 (75 + b))) r (sWa (G 102) x b)).2.1) (jI (if b = 0 ∧ r = 0 then -1 else (itr (wst (G 102 (75 + b))) r (sWa (G 102) x b)).2.2.1)) (jI (if b = 0 ∧ r = 0 then -1 else (itr (wst (G 102 (75 + b))) r (sWa (G 102) x b)).2.2.2)) (jI b) (jI r) (hp q G) = L_X12_wander_60 N (L_X12_wander_45 N n) m 100 (jI w) (jI (wst (G 102 (75 + b)) (itr (wst (G 102 (75 + b))) r (sWa (G 102) x b))).1) (jI (wst (G 102 (75 + b)) (itr (wst (G 102 (75 + b))) r (sWa (G 102) x b))).2.1) (jI (if b = 0 ∧ r + 1 = 0 then -1 else (wst (G 102 (75 + b)) (itr (wst (G 102 (75 + b))) r (sWa (G 102) x b))).2.2.1)) (jI (if b = 0 ∧ r + 1 = 0 then -1 else (wst (G 102 (75 + b)) (itr (wst (G 102 (75 + b))) r (sWa (G 102) x b))).2.2.2)) (jI b) (jI ((r + 1 : Nat) : Int)) (hp q G)
          have rg2 := wit_r (l := G 102 (75 + b)) (by omega) rg r
          have z0 : b = 0 ∧ r = 0 → (itr (wst (G 102 (75 + b))) r (sWa (G 102) x b)).2.2.1 = 2147483647 ∧ (itr (wst (G 102 (75 + b))) r (sWa (G 102) x b)).2.2.2 = 0 := by
            rintro ⟨rfl, rfl⟩
            have : ¬ G 102 26 = 0 := by omega
            simp only [itr, sWa, if_neg this]
            exact ⟨trivial, trivial⟩
          generalize itr (wst (G 102 (75 + b))) r (sWa (G 102) x b) = s at rg2 z0 ⊢
          have hr1 := hi_r (dr s.1)
          unfold wRg at rg2
          rw [if_neg (show ¬ (b = 0 ∧ r + 1 = 0) by omega), if_neg (show ¬ (b = 0 ∧ r + 1 = 0) by omega)]
          rw [L_X12_wander_60]
          unfold wst
          simp only [X]
          generalize hw : max 1 (s.2.1 + G 102 (75 + b) + hi (dr s.1) % 3 - 1) = w2
          have hw1 : 1 ≤ w2 ∧ w2 ≤ 999 + 440 * b + 11 * r + 11 := by omega
          have J : ∀ l' m' : Int, -1 ≤ m' → m' ≤ 2147483647 → J_X12_wander_132 N (L_X12_wander_60 N (L_X12_wander_45 N n) m) 100 (jI w) (jI (dr s.1)) (jI w2) (jI m') (jI b) (jI r) (jI l') (hp q G) = L_X12_wander_60 N (L_X12_wander_45 N n) m 100 (jI w) (jI (dr s.1)) (jI w2) (jI l') (jI (max m' w2)) (jI b) (jI (r + 1)) (hp q G) := by
            intro l' m' m0 m1
            unfold J_X12_wander_132
            by_cases d : m' < w2
            · simp (maxSteps := 2000000) (disch := first | assumption | omega) only [jI0, iAdd_j, iSub_j, iMul_j, iNeg_j, Option.bind_some, jlt_t, jlt_f, jlt, jle_t, jle_f, jle, jeq_t, jeq_f, jeq, ↓reduceIte]
              rw [Int.max_eq_right (by omega)]
            · simp (maxSteps := 2000000) (disch := first | assumption | omega) only [jI0, iAdd_j, iSub_j, iMul_j, iNeg_j, Option.bind_some, jlt_t, jlt_f, jlt, jle_t, jle_f, jle, jeq_t, jeq_f, jeq, ↓reduceIte]
              rw [Int.max_eq_left (by omega)]
          by_cases z : b = 0 ∧ r = 0
          · obtain ⟨z1, z2⟩ := z0 z
            rw [if_pos z, if_pos z, z1, z2]
            simp (maxSteps := 2000000) (disch := first | assumption | omega) only [jI0, iAdd_j, iSub_j, iMul_j, iNeg_j, Option.bind_some, jlt_t, jlt_f, jlt, jle_t, jle_f, jle, jeq_t, jeq_f, jeq, ↓reduceIte, o100, w100t, l102, mBand, mStake, mKind, mCross, mCr, mKindOf, mAhead, mWhen, mStep, mRods, mRodAt, mStakeAt, mIndex, mOver, mOverIn, jlL, X12_within, bI_t, bI_f, X12_no, drw, iRem_p, mOne, hw, J, Int.natCast_succ]
            congr 2
            · omega
            · omega
          · rw [if_neg z, if_neg z]
            by_cases d : w2 < s.2.2.1
            · simp (maxSteps := 2000000) (disch := first | assumption | omega) only [jI0, iAdd_j, iSub_j, iMul_j, iNeg_j, Option.bind_some, jlt_t, jlt_f, jlt, jle_t, jle_f, jle, jeq_t, jeq_f, jeq, ↓reduceIte, o100, w100t, l102, mBand, mStake, mKind, mCross, mCr, mKindOf, mAhead, mWhen, mStep, mRods, mRodAt, mStakeAt, mIndex, mOver, mOverIn, jlL, X12_within, bI_t, bI_f, X12_no, drw, iRem_p, mOne, hw, J, Int.natCast_succ]
              rw [Int.min_eq_right (by omega)]
            · simp (maxSteps := 2000000) (disch := first | assumption | omega) only [jI0, iAdd_j, iSub_j, iMul_j, iNeg_j, Option.bind_some, jlt_t, jlt_f, jlt, jle_t, jle_f, jle, jeq_t, jeq_f, jeq, ↓reduceIte, o100, w100t, l102, mBand, mStake, mKind, mCross, mCr, mKindOf, mAhead, mWhen, mStep, mRods, mRodAt, mStakeAt, mIndex, mOver, mOverIn, jlL, X12_within, bI_t, bI_f, X12_no, drw, iRem_p, mOne, hw, J, Int.natCast_succ]
              rw [Int.min_eq_left (by omega)]
        · intro m
          show L_X12_wander_60 N (L_X12_wander_45 N n) (m + 1) 100 (jI w) (jI _) (jI _) (jI (if b = 0 ∧ (G 102 (51 + b)).toNat = 0 then _ else _)) (jI (if b = 0 ∧ (G 102 (51 + b)).toNat = 0 then _ else _)) (jI b) (jI ((G 102 (51 + b)).toNat : Int)) (hp q G) = _
          rw [L_X12_wander_60, if_neg (by omega), if_neg (by omega)]
          simp (maxSteps := 2000000) (disch := first | assumption | omega) only [jI0, iAdd_j, iSub_j, iMul_j, iNeg_j, Option.bind_some, jlt_t, jlt_f, jlt, jle_t, jle_f, jle, jeq_t, jeq_f, jeq, ↓reduceIte, o100, w100t, l102, mBand, mStake, mKind, mCross, mCr, mKindOf, mAhead, mWhen, mStep, mRods, mRodAt, mStakeAt, mIndex, mOver, mOverIn, jlL, X12_within, bI_t, bI_f, X12_no, Int.natCast_succ]
          rfl
      · intro n
        show L_X12_wander_45 N (n + 1) 100 (jI w) (jI _) (jI _) (jI (if (G 102 26).toNat = 0 then -1 else (sWa (G 102) x (G 102 26).toNat).2.2.1)) (jI (if (G 102 26).toNat = 0 then -1 else (sWa (G 102) x (G 102 26).toNat).2.2.2)) (jI ((G 102 26).toNat : Int)) (hp q G) = _
        rw [L_X12_wander_45]
        have rg := sWa_r hV x (G 102 26).toNat (by omega)
        unfold wRg at rg
        by_cases z : G 102 26 = 0
        · rw [z]
          simp only [show (0 : Int).toNat = 0 from rfl, ↓reduceIte, sWa, z]
          simp (maxSteps := 2000000) (disch := first | assumption | omega) only [jI0, iAdd_j, iSub_j, iMul_j, iNeg_j, Option.bind_some, jlt_t, jlt_f, jlt, jle_t, jle_f, jle, jeq_t, jeq_f, jeq, ↓reduceIte, o100, w100t, l102, mBand, mStake, mKind, mCross, mCr, mKindOf, mAhead, mWhen, mStep, mRods, mRodAt, mStakeAt, mIndex, mOver, mOverIn, jlL, X12_within, bI_t, bI_f, X12_no]
          split
          · rfl
          · split <;> rfl
        · rw [if_neg (by omega), if_neg (by omega)]
          by_cases w0 : w = 0
          · rw [if_pos w0]
            simp (maxSteps := 2000000) (disch := first | assumption | omega) only [jI0, iAdd_j, iSub_j, iMul_j, iNeg_j, Option.bind_some, jlt_t, jlt_f, jlt, jle_t, jle_f, jle, jeq_t, jeq_f, jeq, ↓reduceIte, o100, w100t, l102, mBand, mStake, mKind, mCross, mCr, mKindOf, mAhead, mWhen, mStep, mRods, mRodAt, mStakeAt, mIndex, mOver, mOverIn, jlL, X12_within, bI_t, bI_f, X12_no]
          · by_cases w1 : w = 1
            · rw [if_neg w0, if_pos w1]
              simp (maxSteps := 2000000) (disch := first | assumption | omega) only [jI0, iAdd_j, iSub_j, iMul_j, iNeg_j, Option.bind_some, jlt_t, jlt_f, jlt, jle_t, jle_f, jle, jeq_t, jeq_f, jeq, ↓reduceIte, o100, w100t, l102, mBand, mStake, mKind, mCross, mCr, mKindOf, mAhead, mWhen, mStep, mRods, mRodAt, mStakeAt, mIndex, mOver, mOverIn, jlL, X12_within, bI_t, bI_f, X12_no]
            · rw [if_neg w0, if_neg w1]
              simp (maxSteps := 2000000) (disch := first | assumption | omega) only [jI0, iAdd_j, iSub_j, iMul_j, iNeg_j, Option.bind_some, jlt_t, jlt_f, jlt, jle_t, jle_f, jle, jeq_t, jeq_f, jeq, ↓reduceIte, o100, w100t, l102, mBand, mStake, mKind, mCross, mCr, mKindOf, mAhead, mWhen, mStep, mRods, mRodAt, mStakeAt, mIndex, mOver, mOverIn, jlL, X12_within, bI_t, bI_f, X12_no]
  · refine OP.rf hI (-2) (jI (-2)) ?_ ?_
    · unfold f_X11_wander
      by_cases d : w < 0 <;> simp (maxSteps := 2000000) (disch := first | assumption | omega) only [jI0, iAdd_j, iSub_j, iMul_j, iNeg_j, Option.bind_some, jlt_t, jlt_f, jlt, jle_t, jle_f, jle, jeq_t, jeq_f, jeq, ↓reduceIte, o0, o2, o12, hBand, hStake, hKind, hCross, hWeaver, oBand, oKindOf, oKind, oCr, oRing, oWv, oPer, oRows, oAhead, oWhen, oAll, oStep, oRods, oRodAt, oStakeAt, oOff, bI_t, bI_f, X11_refuse]
    · intro G1 hM e eo
      have hV1 := hM.1; have hT1 := hM.2; (try rw [← e] at dm); (try rw [← e] at dr); (try rw [← e] at de); (try rw [← e] at dl); (try rw [← e] at hb); (try rw [← e] at hj); (try rw [← e] at hr); (try rw [← e] at hs); (try rw [← e] at pl); (try rw [← e] at al); (try rw [← e] at g); (try rw [← e] at c); (try rw [← e] at c1); (try rw [← e] at c2); (try rw [← e] at c3); (try rw [← e] at c4); (try rw [← e] at c5); (try rw [← e] at c6); (try rw [← e] at wb); (try rw [← e] at pr); (try rw [← e] at kd); (try rw [← e] at cr); (try rw [← e] at fe); (try rw [← e] at ra); (try rw [← e] at f1); (try rw [← e] at f2); (try rw [← e] at f3); (try rw [← e] at f4); (try rw [← e])
      unfold f_X12_wander
      simp (maxSteps := 2000000) (disch := first | assumption | omega) only [jI0, iAdd_j, iSub_j, iMul_j, iNeg_j, Option.bind_some, jlt_t, jlt_f, jlt, jle_t, jle_f, jle, jeq_t, jeq_f, jeq, ↓reduceIte, o100, w100t, l102, mBand, mStake, mKind, mCross, mCr, mKindOf, mAhead, mWhen, mStep, mRods, mRodAt, mStakeAt, mIndex, mOver, mOverIn, jlL, X12_within, bI_t, bI_f, X12_no]
end
