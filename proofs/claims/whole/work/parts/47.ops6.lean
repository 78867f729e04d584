/-! calls: step, counts -/
section
variable {K1 K2 : (Int → Int) → (Int → Int) → Prop} {q : Nat × Nat × (Nat → Nat)} {G : Nat → Int → Int} {N : Nat}
theorem X11_stakesCan {h : mH} {n : Int} (h1 : -2147483648 ≤ n) (h2 : n < 2147483648) : f_X11_stakesCan N (jI n) h = some (bI (3 ≤ n ∧ n ≤ 999), h) := by
  unfold f_X11_stakesCan
  by_cases c1 : n < 3
  · simp (maxSteps := 2000000) (disch := first | assumption | omega) only [jI0, iAdd_j, iSub_j, iMul_j, iNeg_j, Option.bind_some, jlt_t, jlt_f, jlt, jle_t, jle_f, jle, jeq_t, jeq_f, jeq, ↓reduceIte, bI_f]
  · by_cases c2 : 999 < n
    · simp (maxSteps := 2000000) (disch := first | assumption | omega) only [jI0, iAdd_j, iSub_j, iMul_j, iNeg_j, Option.bind_some, jlt_t, jlt_f, jlt, jle_t, jle_f, jle, jeq_t, jeq_f, jeq, ↓reduceIte, bI_f]
    · simp (maxSteps := 2000000) (disch := first | assumption | omega) only [jI0, iAdd_j, iSub_j, iMul_j, iNeg_j, Option.bind_some, jlt_t, jlt_f, jlt, jle_t, jle_f, jle, jeq_t, jeq_f, jeq, ↓reduceIte, bI_t]
theorem X11_strokeCan {h : mH} {a b : Int} (h1 : -2147483648 ≤ a) (h2 : a < 2147483648) (h3 : -2147483648 ≤ b) (h4 : b < 2147483648) : f_X11_strokeCan N (jI a) (jI b) h = some (bI ((1 ≤ a ∧ a ≤ 9) ∧ 1 ≤ b ∧ b ≤ 9), h) := by
  unfold f_X11_strokeCan
  by_cases c1 : a < 1
  · simp (maxSteps := 2000000) (disch := first | assumption | omega) only [jI0, iAdd_j, iSub_j, iMul_j, iNeg_j, Option.bind_some, jlt_t, jlt_f, jlt, jle_t, jle_f, jle, jeq_t, jeq_f, jeq, ↓reduceIte, bI_f]
  · by_cases c2 : 9 < a
    · simp (maxSteps := 2000000) (disch := first | assumption | omega) only [jI0, iAdd_j, iSub_j, iMul_j, iNeg_j, Option.bind_some, jlt_t, jlt_f, jlt, jle_t, jle_f, jle, jeq_t, jeq_f, jeq, ↓reduceIte, bI_f]
    · by_cases c3 : b < 1
      · simp (maxSteps := 2000000) (disch := first | assumption | omega) only [jI0, iAdd_j, iSub_j, iMul_j, iNeg_j, Option.bind_some, jlt_t, jlt_f, jlt, jle_t, jle_f, jle, jeq_t, jeq_f, jeq, ↓reduceIte, bI_f]
      · by_cases c4 : 9 < b
        · simp (maxSteps := 2000000) (disch := first | assumption | omega) only [jI0, iAdd_j, iSub_j, iMul_j, iNeg_j, Option.bind_some, jlt_t, jlt_f, jlt, jle_t, jle_f, jle, jeq_t, jeq_f, jeq, ↓reduceIte, bI_f]
        · simp (maxSteps := 2000000) (disch := first | assumption | omega) only [jI0, iAdd_j, iSub_j, iMul_j, iNeg_j, Option.bind_some, jlt_t, jlt_f, jlt, jle_t, jle_f, jle, jeq_t, jeq_f, jeq, ↓reduceIte, bI_t]
theorem X12_gcd {h : mH} : ∀ (y x n : Nat), x < 2147483648 → y < 2147483648 → y < n → L_X12_common_4 N n (jI x) (jI y) h = some (jI (Nat.gcd x y : Nat), h) := by
  intro y
  induction y using Nat.strongRecOn with
  | _ y ih =>
    intro x n hx hy hn
    obtain ⟨n', rfl⟩ : ∃ n', n = n' + 1 := ⟨n - 1, by omega⟩
    rw [L_X12_common_4]
    by_cases c : y = 0
    · subst c
      simp (maxSteps := 2000000) (disch := first | assumption | omega) only [jI0, iAdd_j, iSub_j, iMul_j, iNeg_j, Option.bind_some, jlt_t, jlt_f, jlt, jle_t, jle_f, jle, jeq_t, jeq_f, jeq, ↓reduceIte]
      rw [Nat.gcd_zero_right]
    · have l := Nat.mod_lt x (show 0 < y by omega)
      have e := ih (x % y) l y n' hy (by omega) (by omega)
      have r := iRem_p (a := x) (b := y) (by omega) (by omega) (by omega) (by omega)
      rw [← Int.natCast_emod] at r
      have ge : Nat.gcd y (x % y) = Nat.gcd x y := by rw [Nat.gcd_comm x y, Nat.gcd_rec y x, Nat.gcd_comm]
      rw [ge] at e
      simp (maxSteps := 2000000) (disch := first | assumption | omega) only [jI0, iAdd_j, iSub_j, iMul_j, iNeg_j, Option.bind_some, jlt_t, jlt_f, jlt, jle_t, jle_f, jle, jeq_t, jeq_f, jeq, ↓reduceIte, r, e]
theorem X11_gcd {h : mH} : ∀ (y x n t : Nat), x < 2147483648 → y < 2147483648 → y < n → 0 < Nat.gcd x y → t + y ≤ 63 → L_X11_commonDivisor_7 N n (jI x) (jI y) (jI t) h = some (jI (Nat.gcd x y : Nat), h) := by
  intro y
  induction y using Nat.strongRecOn with
  | _ y ih =>
    intro x n t hx hy hn hg ht
    obtain ⟨n', rfl⟩ : ∃ n', n = n' + 1 := ⟨n - 1, by omega⟩
    rw [L_X11_commonDivisor_7]
    by_cases c : y = 0
    · subst c
      rw [Nat.gcd_zero_right] at *
      simp (maxSteps := 2000000) (disch := first | assumption | omega) only [jI0, iAdd_j, iSub_j, iMul_j, iNeg_j, Option.bind_some, jlt_t, jlt_f, jlt, jle_t, jle_f, jle, jeq_t, jeq_f, jeq, ↓reduceIte, iMax_j]
      rw [Int.max_eq_right (by omega)]
    · have l := Nat.mod_lt x (show 0 < y by omega)
      have ge : Nat.gcd y (x % y) = Nat.gcd x y := by rw [Nat.gcd_comm x y, Nat.gcd_rec y x, Nat.gcd_comm]
      have e := ih (x % y) l y n' (t + 1) hy (by omega) (by omega) (by rw [ge]; exact hg) (by omega)
      have r := iRem_p (a := x) (b := y) (by omega) (by omega) (by omega) (by omega)
      rw [← Int.natCast_emod] at r
      rw [ge, Int.natCast_succ] at e
      simp (maxSteps := 2000000) (disch := first | assumption | omega) only [jI0, iAdd_j, iSub_j, iMul_j, iNeg_j, Option.bind_some, jlt_t, jlt_f, jlt, jle_t, jle_f, jle, jeq_t, jeq_f, jeq, ↓reduceIte, r, e]
theorem op_step (hN : 10000 ≤ N) (hI : INV K1 K2 q G) {a b c d : Int} (h1 : -2147483648 ≤ a) (h2 : a < 2147483648) (h3 : -2147483648 ≤ b) (h4 : b < 2147483648) (h5 : -2147483648 ≤ c) (h6 : c < 2147483648) (h7 : -2147483648 ≤ d) (h8 : d < 2147483648) : OP K1 K2 q G (f_X11_step N 0 (jI a) (jI b) (jI c) (jI d)) (f_X12_step N 100 (jI a) (jI b) (jI c) (jI d)) := by
  have hB := hI.1.1; have hV := hB.1; have hT := hI.1.2.1; have g := hV.1
  by_cases c1 : 3 ≤ a ∧ a ≤ 999
  · by_cases c2 : (1 ≤ b ∧ b ≤ 9) ∧ 1 ≤ c ∧ c ≤ 9
    · by_cases d0 : d = 0
      · subst d0
        refine OP.ans hI (jI (a % (b + c))) ?_ ?_
        · unfold f_X11_step
          simp (maxSteps := 2000000) (disch := first | assumption | omega) only [jI0, iAdd_j, iSub_j, iMul_j, iNeg_j, Option.bind_some, jlt_t, jlt_f, jlt, jle_t, jle_f, jle, jeq_t, jeq_f, jeq, ↓reduceIte, o0, o2, o12, hBand, hStake, hKind, hCross, hWeaver, oBand, oKindOf, oKind, oCr, oRing, oWv, oPer, oRows, oAhead, oWhen, oAll, oStep, oRods, oRodAt, oStakeAt, oOff, bI_t, bI_f, X11_refuse, X11_stakesCan, X11_strokeCan, iRem_p]
        · unfold f_X12_step
          simp (maxSteps := 2000000) (disch := first | assumption | omega) only [jI0, iAdd_j, iSub_j, iMul_j, iNeg_j, Option.bind_some, jlt_t, jlt_f, jlt, jle_t, jle_f, jle, jeq_t, jeq_f, jeq, ↓reduceIte, o100, w100t, l102, mBand, mStake, mKind, mCross, mCr, mKindOf, mAhead, mWhen, mStep, mRods, mRodAt, mStakeAt, mIndex, mOver, mOverIn, jlL, X12_within, bI_t, bI_f, X12_no, iRem_p]
      by_cases d1 : d = 1
      · subst d1
        obtain ⟨x, rfl⟩ := Int.eq_ofNat_of_zero_le (show 0 ≤ a by omega)
        obtain ⟨y, hy⟩ := Int.eq_ofNat_of_zero_le (show 0 ≤ b + c by omega)
        have gp : 0 < Nat.gcd x y := Nat.gcd_pos_of_pos_left _ (by omega)
        have gl : Nat.gcd x y ≤ x := Nat.gcd_le_left _ (by omega)
        have e1 := X11_gcd (N := N) (h := hp q G) y x N 0 (by omega) (by omega) (by omega) gp (by omega)
        have e2 := X12_gcd (N := N) (h := hp q G) y x N (by omega) (by omega) (by omega)
        refine OP.ans hI (jI ((y : Int) / (Nat.gcd x y : Nat))) ?_ ?_
        · unfold f_X11_step f_X11_commonDivisor
          rw [show jI ((0 : Nat) : Int) = jI 0 from rfl] at e1
          simp (maxSteps := 2000000) (disch := first | assumption | omega) only [jI0, iAdd_j, iSub_j, iMul_j, iNeg_j, Option.bind_some, jlt_t, jlt_f, jlt, jle_t, jle_f, jle, jeq_t, jeq_f, jeq, ↓reduceIte, o0, o2, o12, hBand, hStake, hKind, hCross, hWeaver, oBand, oKindOf, oKind, oCr, oRing, oWv, oPer, oRows, oAhead, oWhen, oAll, oStep, oRods, oRodAt, oStakeAt, oOff, bI_t, bI_f, X11_refuse, X11_stakesCan, X11_strokeCan, hy, e1, iDiv_j]
        · unfold f_X12_step f_X12_common
          simp (maxSteps := 2000000) (disch := first | assumption | omega) only [jI0, iAdd_j, iSub_j, iMul_j, iNeg_j, Option.bind_some, jlt_t, jlt_f, jlt, jle_t, jle_f, jle, jeq_t, jeq_f, jeq, ↓reduceIte, o100, w100t, l102, mBand, mStake, mKind, mCross, mCr, mKindOf, mAhead, mWhen, mStep, mRods, mRodAt, mStakeAt, mIndex, mOver, mOverIn, jlL, X12_within, bI_t, bI_f, X12_no, hy, e2, iDiv_j]
      by_cases d2 : d = 2
      · subst d2
        have M : ∀ k : Nat, 0 ≤ ((k : Int) + a) % (b + c) ∧ ((k : Int) + a) % (b + c) < b + c := fun k => ⟨Int.emod_nonneg _ (by omega), Int.emod_lt_of_pos _ (by omega)⟩
        rcases first_or (fun k => ((k : Int) < b) ↔ (((k : Int) + a) % (b + c) < b)) (b + c).toNat with F | ⟨m, m0, m1, F⟩
        · refine OP.ans hI (jI 1) ?_ ?_
          · have L : f_X11_turnsOver N (jI a) (jI b) (jI (b + c)) (hp q G) = some (jI 1, hp q G) := by
              unfold f_X11_turnsOver
              refine loopE (fun n (t : Int) => L_X11_turnsOver_2 N n (jI a) (jI b) (jI (b + c)) (jI t) (hp q G)) (fun k => (k : Int)) (b + c).toNat (by omega) ?_ ?_
              · intro n k hk
                show L_X11_turnsOver_2 N (n + 1) (jI a) (jI b) (jI (b + c)) (jI (k : Int)) (hp q G) = L_X11_turnsOver_2 N n (jI a) (jI b) (jI (b + c)) (jI ((k + 1 : Nat) : Int)) (hp q G)
                have fk := F k hk
                have mk := M k
                rw [L_X11_turnsOver_2]
                unfold J_X11_turnsOver_17
                by_cases x : (k : Int) < b <;> by_cases y : ((k : Int) + a) % (b + c) < b
                · exact absurd ⟨fun _ => y, fun _ => x⟩ fk
                · simp (maxSteps := 2000000) (disch := first | assumption | omega) only [jI0, iAdd_j, iSub_j, iMul_j, iNeg_j, Option.bind_some, jlt_t, jlt_f, jlt, jle_t, jle_f, jle, jeq_t, jeq_f, jeq, ↓reduceIte, iRem_p, Int.natCast_succ]
                · simp (maxSteps := 2000000) (disch := first | assumption | omega) only [jI0, iAdd_j, iSub_j, iMul_j, iNeg_j, Option.bind_some, jlt_t, jlt_f, jlt, jle_t, jle_f, jle, jeq_t, jeq_f, jeq, ↓reduceIte, iRem_p, Int.natCast_succ]
                · exact absurd ⟨fun h => absurd h x, fun h => absurd h y⟩ fk
              · intro n
                show L_X11_turnsOver_2 N (n + 1) (jI a) (jI b) (jI (b + c)) (jI ((b + c).toNat : Int)) (hp q G) = _
                rw [L_X11_turnsOver_2]
                simp (maxSteps := 2000000) (disch := first | assumption | omega) only [jI0, iAdd_j, iSub_j, iMul_j, iNeg_j, Option.bind_some, jlt_t, jlt_f, jlt, jle_t, jle_f, jle, jeq_t, jeq_f, jeq, ↓reduceIte]
            unfold f_X11_step
            simp (maxSteps := 2000000) (disch := first | assumption | omega) only [jI0, iAdd_j, iSub_j, iMul_j, iNeg_j, Option.bind_some, jlt_t, jlt_f, jlt, jle_t, jle_f, jle, jeq_t, jeq_f, jeq, ↓reduceIte, o0, o2, o12, hBand, hStake, hKind, hCross, hWeaver, oBand, oKindOf, oKind, oCr, oRing, oWv, oPer, oRows, oAhead, oWhen, oAll, oStep, oRods, oRodAt, oStakeAt, oOff, bI_t, bI_f, X11_refuse, X11_stakesCan, X11_strokeCan, L]
          · unfold f_X12_step
            simp (maxSteps := 2000000) (disch := first | assumption | omega) only [jI0, iAdd_j, iSub_j, iMul_j, iNeg_j, Option.bind_some, jlt_t, jlt_f, jlt, jle_t, jle_f, jle, jeq_t, jeq_f, jeq, ↓reduceIte, o100, w100t, l102, mBand, mStake, mKind, mCross, mCr, mKindOf, mAhead, mWhen, mStep, mRods, mRodAt, mStakeAt, mIndex, mOver, mOverIn, jlL, X12_within, bI_t, bI_f, X12_no]
            refine loopE (fun n (t : Int) => L_X12_step_99 N n (jI a) (jI b) (jI (b + c)) (jI t) (hp q G)) (fun k => (k : Int)) (b + c).toNat (by omega) ?_ ?_
            · intro n k hk
              show L_X12_step_99 N (n + 1) (jI a) (jI b) (jI (b + c)) (jI (k : Int)) (hp q G) = L_X12_step_99 N n (jI a) (jI b) (jI (b + c)) (jI ((k + 1 : Nat) : Int)) (hp q G)
              have fk := F k hk
              have mk := M k
              rw [L_X12_step_99]
              unfold J_X12_step_122
              by_cases x : (k : Int) < b <;> by_cases y : ((k : Int) + a) % (b + c) < b
              · exact absurd ⟨fun _ => y, fun _ => x⟩ fk
              · simp (maxSteps := 2000000) (disch := first | assumption | omega) only [jI0, iAdd_j, iSub_j, iMul_j, iNeg_j, Option.bind_some, jlt_t, jlt_f, jlt, jle_t, jle_f, jle, jeq_t, jeq_f, jeq, ↓reduceIte, iRem_p, Int.natCast_succ]
              · simp (maxSteps := 2000000) (disch := first | assumption | omega) only [jI0, iAdd_j, iSub_j, iMul_j, iNeg_j, Option.bind_some, jlt_t, jlt_f, jlt, jle_t, jle_f, jle, jeq_t, jeq_f, jeq, ↓reduceIte, iRem_p, Int.natCast_succ]
              · exact absurd ⟨fun h => absurd h x, fun h => absurd h y⟩ fk
            · intro n
              show L_X12_step_99 N (n + 1) (jI a) (jI b) (jI (b + c)) (jI ((b + c).toNat : Int)) (hp q G) = _
              rw [L_X12_step_99]
              simp (maxSteps := 2000000) (disch := first | assumption | omega) only [jI0, iAdd_j, iSub_j, iMul_j, iNeg_j, Option.bind_some, jlt_t, jlt_f, jlt, jle_t, jle_f, jle, jeq_t, jeq_f, jeq, ↓reduceIte]
        · refine OP.ans hI (jI 0) ?_ ?_
          · have L : f_X11_turnsOver N (jI a) (jI b) (jI (b + c)) (hp q G) = some (jI 0, hp q G) := by
              unfold f_X11_turnsOver
              refine loopE (fun n (t : Int) => L_X11_turnsOver_2 N n (jI a) (jI b) (jI (b + c)) (jI t) (hp q G)) (fun k => (k : Int)) m (by omega) ?_ ?_
              · intro n k hk
                show L_X11_turnsOver_2 N (n + 1) (jI a) (jI b) (jI (b + c)) (jI (k : Int)) (hp q G) = L_X11_turnsOver_2 N n (jI a) (jI b) (jI (b + c)) (jI ((k + 1 : Nat) : Int)) (hp q G)
                have fk := F k hk
                have mk := M k
                rw [L_X11_turnsOver_2]
                unfold J_X11_turnsOver_17
                by_cases x : (k : Int) < b <;> by_cases y : ((k : Int) + a) % (b + c) < b
                · exact absurd ⟨fun _ => y, fun _ => x⟩ fk
                · simp (maxSteps := 2000000) (disch := first | assumption | omega) only [jI0, iAdd_j, iSub_j, iMul_j, iNeg_j, Option.bind_some, jlt_t, jlt_f, jlt, jle_t, jle_f, jle, jeq_t, jeq_f, jeq, ↓reduceIte, iRem_p, Int.natCast_succ]
                · simp (maxSteps := 2000000) (disch := first | assumption | omega) only [jI0, iAdd_j, iSub_j, iMul_j, iNeg_j, Option.bind_some, jlt_t, jlt_f, jlt, jle_t, jle_f, jle, jeq_t, jeq_f, jeq, ↓reduceIte, iRem_p, Int.natCast_succ]
                · exact absurd ⟨fun h => absurd h x, fun h => absurd h y⟩ fk
              · intro n
                show L_X11_turnsOver_2 N (n + 1) (jI a) (jI b) (jI (b + c)) (jI (m : Int)) (hp q G) = _
                have mk := M m
                rw [L_X11_turnsOver_2]
                unfold J_X11_turnsOver_17
                by_cases x : (m : Int) < b
                · have y := m1.mp x
                  simp (maxSteps := 2000000) (disch := first | assumption | omega) only [jI0, iAdd_j, iSub_j, iMul_j, iNeg_j, Option.bind_some, jlt_t, jlt_f, jlt, jle_t, jle_f, jle, jeq_t, jeq_f, jeq, ↓reduceIte, iRem_p]
                · have y := fun h => x (m1.mpr h)
                  simp (maxSteps := 2000000) (disch := first | assumption | omega) only [jI0, iAdd_j, iSub_j, iMul_j, iNeg_j, Option.bind_some, jlt_t, jlt_f, jlt, jle_t, jle_f, jle, jeq_t, jeq_f, jeq, ↓reduceIte, iRem_p]
            unfold f_X11_step
            simp (maxSteps := 2000000) (disch := first | assumption | omega) only [jI0, iAdd_j, iSub_j, iMul_j, iNeg_j, Option.bind_some, jlt_t, jlt_f, jlt, jle_t, jle_f, jle, jeq_t, jeq_f, jeq, ↓reduceIte, o0, o2, o12, hBand, hStake, hKind, hCross, hWeaver, oBand, oKindOf, oKind, oCr, oRing, oWv, oPer, oRows, oAhead, oWhen, oAll, oStep, oRods, oRodAt, oStakeAt, oOff, bI_t, bI_f, X11_refuse, X11_stakesCan, X11_strokeCan, L]
          · unfold f_X12_step
            simp (maxSteps := 2000000) (disch := first | assumption | omega) only [jI0, iAdd_j, iSub_j, iMul_j, iNeg_j, Option.bind_some, jlt_t, jlt_f, jlt, jle_t, jle_f, jle, jeq_t, jeq_f, jeq, ↓reduceIte, o100, w100t, l102, mBand, mStake, mKind, mCross, mCr, mKindOf, mAhead, mWhen, mStep, mRods, mRodAt, mStakeAt, mIndex, mOver, mOverIn, jlL, X12_within, bI_t, bI_f, X12_no]
            refine loopE (fun n (t : Int) => L_X12_step_99 N n (jI a) (jI b) (jI (b + c)) (jI t) (hp q G)) (fun k => (k : Int)) m (by omega) ?_ ?_
            · intro n k hk
              show L_X12_step_99 N (n + 1) (jI a) (jI b) (jI (b + c)) (jI (k : Int)) (hp q G) = L_X12_step_99 N n (jI a) (jI b) (jI (b + c)) (jI ((k + 1 : Nat) : Int)) (hp q G)
              have fk := F k hk
              have mk := M k
              rw [L_X12_step_99]
              unfold J_X12_step_122
              by_cases x : (k : Int) < b <;> by_cases y : ((k : Int) + a) % (b + c) < b
              · exact absurd ⟨fun _ => y, fun _ => x⟩ fk
              · simp (maxSteps := 2000000) (disch := first | assumption | omega) only [jI0, iAdd_j, iSub_j, iMul_j, iNeg_j, Option.bind_some, jlt_t, jlt_f, jlt, jle_t, jle_f, jle, jeq_t, jeq_f, jeq, ↓reduceIte, iRem_p, Int.natCast_succ]
              · simp (maxSteps := 2000000) (disch := first | assumption | omega) only [jI0, iAdd_j, iSub_j, iMul_j, iNeg_j, Option.bind_some, jlt_t, jlt_f, jlt, jle_t, jle_f, jle, jeq_t, jeq_f, jeq, ↓reduceIte, iRem_p, Int.natCast_succ]
              · exact absurd ⟨fun h => absurd h x, fun h => absurd h y⟩ fk
            · intro n
              show L_X12_step_99 N (n + 1) (jI a) (jI b) (jI (b + c)) (jI (m : Int)) (hp q G) = _
              have mk := M m
              rw [L_X12_step_99]
              unfold J_X12_step_122
              by_cases x : (m : Int) < b
              · have y := m1.mp x
                simp (maxSteps := 2000000) (disch := first | assumption | omega) only [jI0, iAdd_j, iSub_j, iMul_j, iNeg_j, Option.bind_some, jlt_t, jlt_f, jlt, jle_t, jle_f, jle, jeq_t, jeq_f, jeq, ↓reduceIte, iRem_p]
              · have y := fun h => x (m1.mpr h)
                simp (maxSteps := 2000000) (disch := first | assumption | omega) only [jI0, iAdd_j, iSub_j, iMul_j, iNeg_j, Option.bind_some, jlt_t, jlt_f, jlt, jle_t, jle_f, jle, jeq_t, jeq_f, jeq, ↓reduceIte, iRem_p]
      · refine OP.rf hI (-3) (jI (-3)) ?_ ?_
        · unfold f_X11_step
          by_cases x : d < 0 <;> simp (maxSteps := 2000000) (disch := first | assumption | omega) only [jI0, iAdd_j, iSub_j, iMul_j, iNeg_j, Option.bind_some, jlt_t, jlt_f, jlt, jle_t, jle_f, jle, jeq_t, jeq_f, jeq, ↓reduceIte, o0, o2, o12, hBand, hStake, hKind, hCross, hWeaver, oBand, oKindOf, oKind, oCr, oRing, oWv, oPer, oRows, oAhead, oWhen, oAll, oStep, oRods, oRodAt, oStakeAt, oOff, bI_t, bI_f, X11_refuse, X11_stakesCan, X11_strokeCan]
        · intro G1 hM e eo
          have hV1 := hM.1; have hT1 := hM.2; (try rw [← e] at dm); (try rw [← e] at dr); (try rw [← e] at de); (try rw [← e] at dl); (try rw [← e] at hb); (try rw [← e] at hj); (try rw [← e] at hr); (try rw [← e] at hs); (try rw [← e] at pl); (try rw [← e] at al); (try rw [← e] at g); (try rw [← e] at c); (try rw [← e] at c1); (try rw [← e] at c2); (try rw [← e] at c3); (try rw [← e] at c4); (try rw [← e] at c5); (try rw [← e] at c6); (try rw [← e] at wb); (try rw [← e] at pr); (try rw [← e] at kd); (try rw [← e] at cr); (try rw [← e] at fe); (try rw [← e] at ra); (try rw [← e] at f1); (try rw [← e] at f2); (try rw [← e] at f3); (try rw [← e] at f4); (try rw [← e])
          unfold f_X12_step
          simp (maxSteps := 2000000) (disch := first | assumption | omega) only [jI0, iAdd_j, iSub_j, iMul_j, iNeg_j, Option.bind_some, jlt_t, jlt_f, jlt, jle_t, jle_f, jle, jeq_t, jeq_f, jeq, ↓reduceIte, o100, w100t, l102, mBand, mStake, mKind, mCross, mCr, mKindOf, mAhead, mWhen, mStep, mRods, mRodAt, mStakeAt, mIndex, mOver, mOverIn, jlL, X12_within, bI_t, bI_f, X12_no]
    · refine OP.rf hI (-3) (jI (-3)) ?_ ?_
      · unfold f_X11_step
        simp (maxSteps := 2000000) (disch := first | assumption | omega) only [jI0, iAdd_j, iSub_j, iMul_j, iNeg_j, Option.bind_some, jlt_t, jlt_f, jlt, jle_t, jle_f, jle, jeq_t, jeq_f, jeq, ↓reduceIte, o0, o2, o12, hBand, hStake, hKind, hCross, hWeaver, oBand, oKindOf, oKind, oCr, oRing, oWv, oPer, oRows, oAhead, oWhen, oAll, oStep, oRods, oRodAt, oStakeAt, oOff, bI_t, bI_f, X11_refuse, X11_stakesCan, X11_strokeCan]
      · intro G1 hM e eo
        have hV1 := hM.1; have hT1 := hM.2; (try rw [← e] at dm); (try rw [← e] at dr); (try rw [← e] at de); (try rw [← e] at dl); (try rw [← e] at hb); (try rw [← e] at hj); (try rw [← e] at hr); (try rw [← e] at hs); (try rw [← e] at pl); (try rw [← e] at al); (try rw [← e] at g); (try rw [← e] at c); (try rw [← e] at c1); (try rw [← e] at c2); (try rw [← e] at c3); (try rw [← e] at c4); (try rw [← e] at c5); (try rw [← e] at c6); (try rw [← e] at wb); (try rw [← e] at pr); (try rw [← e] at kd); (try rw [← e] at cr); (try rw [← e] at fe); (try rw [← e] at ra); (try rw [← e] at f1); (try rw [← e] at f2); (try rw [← e] at f3); (try rw [← e] at f4); (try rw [← e])
        unfold f_X12_step
        by_cases x : 1 ≤ b ∧ b ≤ 9 <;> simp (maxSteps := 2000000) (disch := first | assumption | omega) only [jI0, iAdd_j, iSub_j, iMul_j, iNeg_j, Option.bind_some, jlt_t, jlt_f, jlt, jle_t, jle_f, jle, jeq_t, jeq_f, jeq, ↓reduceIte, o100, w100t, l102, mBand, mStake, mKind, mCross, mCr, mKindOf, mAhead, mWhen, mStep, mRods, mRodAt, mStakeAt, mIndex, mOver, mOverIn, jlL, X12_within, bI_t, bI_f, X12_no]
  · refine OP.rf hI (-3) (jI (-3)) ?_ ?_
    · unfold f_X11_step
      simp (maxSteps := 2000000) (disch := first | assumption | omega) only [jI0, iAdd_j, iSub_j, iMul_j, iNeg_j, Option.bind_some, jlt_t, jlt_f, jlt, jle_t, jle_f, jle, jeq_t, jeq_f, jeq, ↓reduceIte, o0, o2, o12, hBand, hStake, hKind, hCross, hWeaver, oBand, oKindOf, oKind, oCr, oRing, oWv, oPer, oRows, oAhead, oWhen, oAll, oStep, oRods, oRodAt, oStakeAt, oOff, bI_t, bI_f, X11_refuse, X11_stakesCan]
    · intro G1 hM e eo
      have hV1 := hM.1; have hT1 := hM.2; (try rw [← e] at dm); (try rw [← e] at dr); (try rw [← e] at de); (try rw [← e] at dl); (try rw [← e] at hb); (try rw [← e] at hj); (try rw [← e] at hr); (try rw [← e] at hs); (try rw [← e] at pl); (try rw [← e] at al); (try rw [← e] at g); (try rw [← e] at c); (try rw [← e] at c1); (try rw [← e] at c2); (try rw [← e] at c3); (try rw [← e] at c4); (try rw [← e] at c5); (try rw [← e] at c6); (try rw [← e] at wb); (try rw [← e] at pr); (try rw [← e] at kd); (try rw [← e] at cr); (try rw [← e] at fe); (try rw [← e] at ra); (try rw [← e] at f1); (try rw [← e] at f2); (try rw [← e] at f3); (try rw [← e] at f4); (try rw [← e])
      unfold f_X12_step
      simp (maxSteps := 2000000) (disch := first | assumption | omega) only [jI0, iAdd_j, iSub_j, iMul_j, iNeg_j, Option.bind_some, jlt_t, jlt_f, jlt, jle_t, jle_f, jle, jeq_t, jeq_f, jeq, ↓reduceIte, o100, w100t, l102, mBand, mStake, mKind, mCross, mCr, mKindOf, mAhead, mWhen, mStep, mRods, mRodAt, mStakeAt, mIndex, mOver, mOverIn, jlL, X12_within, bI_t, bI_f, X12_no]
theorem op_counts (hN : 10000 ≤ N) (hI : INV K1 K2 q G) {a b c d f : Int} (h1 : -2147483648 ≤ a) (h2 : a < 2147483648) (h3 : -2147483648 ≤ b) (h4 : b < 2147483648) (h5 : -2147483648 ≤ c) (h6 : c < 2147483648) (h7 : -2147483648 ≤ d) (h8 : d < 2147483648) (h9 : -2147483648 ≤ f) (h10 : f < 2147483648) : OP K1 K2 q G (f_X11_counts N 0 (jI a) (jI b) (jI c) (jI d) (jI f)) (f_X12_counts N 100 (jI a) (jI b) (jI c) (jI d) (jI f)) := by
  have hB := hI.1.1; have hV := hB.1; have hT := hI.1.2.1; have g := hV.1
  by_cases c1 : (3 ≤ a ∧ a ≤ 999) ∧ (3 ≤ b ∧ b ≤ 999) ∧ a ≤ b
  · by_cases c2 : (1 ≤ c ∧ c ≤ 9) ∧ 1 ≤ d ∧ d ≤ 9
    · by_cases c3 : 0 ≤ f
      · have M : ∀ k : Nat, 0 ≤ (a + k) % (c + d) ∧ (a + k) % (c + d) < c + d := fun k => ⟨Int.emod_nonneg _ (by omega), Int.emod_lt_of_pos _ (by omega)⟩
        refine OP.ans hI (jI (sm (fun k => if (a + k) % (c + d) = f then 1 else 0) (b - a + 1).toNat)) ?_ ?_
        · unfold f_X11_counts
          simp (maxSteps := 2000000) (disch := first | assumption | omega) only [jI0, iAdd_j, iSub_j, iMul_j, iNeg_j, Option.bind_some, jlt_t, jlt_f, jlt, jle_t, jle_f, jle, jeq_t, jeq_f, jeq, ↓reduceIte, o0, o2, o12, hBand, hStake, hKind, hCross, hWeaver, oBand, oKindOf, oKind, oCr, oRing, oWv, oPer, oRows, oAhead, oWhen, oAll, oStep, oRods, oRodAt, oStakeAt, oOff, bI_t, bI_f, X11_refuse, X11_stakesCan, X11_strokeCan]
          refine (loopE (N := N) (fun n (t : Int × Int) => L_X11_counts_52 N n (jI b) (jI f) (jI (c + d)) (jI t.1) (jI t.2) (hp q G)) (fun k => (sm (fun k => if (a + k) % (c + d) = f then 1 else 0) k, a + k)) (b - a + 1).toNat (by omega) ?_ ?_) |> Eq.trans ?_
          · show _ = L_X11_counts_52 N N (jI b) (jI f) (jI (c + d)) (jI 0) (jI (a + 0)) (hp q G)
            rw [Int.add_zero]
          · intro n k hk
            show L_X11_counts_52 N (n + 1) (jI b) (jI f) (jI (c + d)) (jI _) (jI (a + k)) (hp q G) = L_X11_counts_52 N n (jI b) (jI f) (jI (c + d)) (jI _) (jI (a + ((k + 1 : Nat) : Int))) (hp q G)
            have mk := M k
            rw [L_X11_counts_52]
            simp only [sm]
            by_cases x : (a + k) % (c + d) = f <;> simp (maxSteps := 2000000) (disch := first | assumption | omega) only [jI0, iAdd_j, iSub_j, iMul_j, iNeg_j, Option.bind_some, jlt_t, jlt_f, jlt, jle_t, jle_f, jle, jeq_t, jeq_f, jeq, ↓reduceIte, iRem_p, x, Int.natCast_succ, Int.add_assoc, Int.add_zero]
          · intro n
            show L_X11_counts_52 N (n + 1) (jI b) (jI f) (jI (c + d)) (jI _) (jI (a + ((b - a + 1).toNat : Int))) (hp q G) = _
            rw [L_X11_counts_52]
            simp (maxSteps := 2000000) (disch := first | assumption | omega) only [jI0, iAdd_j, iSub_j, iMul_j, iNeg_j, Option.bind_some, jlt_t, jlt_f, jlt, jle_t, jle_f, jle, jeq_t, jeq_f, jeq, ↓reduceIte]
        · unfold f_X12_counts
          simp (maxSteps := 2000000) (disch := first | assumption | omega) only [jI0, iAdd_j, iSub_j, iMul_j, iNeg_j, Option.bind_some, jlt_t, jlt_f, jlt, jle_t, jle_f, jle, jeq_t, jeq_f, jeq, ↓reduceIte, o100, w100t, l102, mBand, mStake, mKind, mCross, mCr, mKindOf, mAhead, mWhen, mStep, mRods, mRodAt, mStakeAt, mIndex, mOver, mOverIn, jlL, X12_within, bI_t, bI_f, X12_no]
          refine (loopE (N := N) (fun n (t : Int × Int) => L_X12_counts_75 N n (jI b) (jI c) (jI d) (jI f) (jI t.1) (jI t.2) (hp q G)) (fun k => (sm (fun k => if (a + k) % (c + d) = f then 1 else 0) k, a + k)) (b - a + 1).toNat (by omega) ?_ ?_) |> Eq.trans ?_
          · show _ = L_X12_counts_75 N N (jI b) (jI c) (jI d) (jI f) (jI 0) (jI (a + 0)) (hp q G)
            rw [Int.add_zero]
          · intro n k hk
            show L_X12_counts_75 N (n + 1) (jI b) (jI c) (jI d) (jI f) (jI _) (jI (a + k)) (hp q G) = L_X12_counts_75 N n (jI b) (jI c) (jI d) (jI f) (jI _) (jI (a + ((k + 1 : Nat) : Int))) (hp q G)
            have mk := M k
            rw [L_X12_counts_75]
            simp only [sm]
            by_cases x : (a + k) % (c + d) = f <;> simp (maxSteps := 2000000) (disch := first | assumption | omega) only [jI0, iAdd_j, iSub_j, iMul_j, iNeg_j, Option.bind_some, jlt_t, jlt_f, jlt, jle_t, jle_f, jle, jeq_t, jeq_f, jeq, ↓reduceIte, iRem_p, x, Int.natCast_succ, Int.add_assoc, Int.add_zero]
          · intro n
            show L_X12_counts_75 N (n + 1) (jI b) (jI c) (jI d) (jI f) (jI _) (jI (a + ((b - a + 1).toNat : Int))) (hp q G) = _
            rw [L_X12_counts_75]
            simp (maxSteps := 2000000) (disch := first | assumption | omega) only [jI0, iAdd_j, iSub_j, iMul_j, iNeg_j, Option.bind_some, jlt_t, jlt_f, jlt, jle_t, jle_f, jle, jeq_t, jeq_f, jeq, ↓reduceIte]
      · refine OP.rf hI (-3) (jI (-3)) ?_ ?_
        · unfold f_X11_counts
          simp (maxSteps := 2000000) (disch := first | assumption | omega) only [jI0, iAdd_j, iSub_j, iMul_j, iNeg_j, Option.bind_some, jlt_t, jlt_f, jlt, jle_t, jle_f, jle, jeq_t, jeq_f, jeq, ↓reduceIte, o0, o2, o12, hBand, hStake, hKind, hCross, hWeaver, oBand, oKindOf, oKind, oCr, oRing, oWv, oPer, oRows, oAhead, oWhen, oAll, oStep, oRods, oRodAt, oStakeAt, oOff, bI_t, bI_f, X11_refuse, X11_stakesCan, X11_strokeCan]
        · intro G1 hM e eo
          have hV1 := hM.1; have hT1 := hM.2; (try rw [← e] at dm); (try rw [← e] at dr); (try rw [← e] at de); (try rw [← e] at dl); (try rw [← e] at hb); (try rw [← e] at hj); (try rw [← e] at hr); (try rw [← e] at hs); (try rw [← e] at pl); (try rw [← e] at al); (try rw [← e] at g); (try rw [← e] at c); (try rw [← e] at c1); (try rw [← e] at c2); (try rw [← e] at c3); (try rw [← e] at c4); (try rw [← e] at c5); (try rw [← e] at c6); (try rw [← e] at wb); (try rw [← e] at pr); (try rw [← e] at kd); (try rw [← e] at cr); (try rw [← e] at fe); (try rw [← e] at ra); (try rw [← e] at f1); (try rw [← e] at f2); (try rw [← e] at f3); (try rw [← e] at f4); (try rw [← e])
          unfold f_X12_counts
          simp (maxSteps := 2000000) (disch := first | assumption | omega) only [jI0, iAdd_j, iSub_j, iMul_j, iNeg_j, Option.bind_some, jlt_t, jlt_f, jlt, jle_t, jle_f, jle, jeq_t, jeq_f, jeq, ↓reduceIte, o100, w100t, l102, mBand, mStake, mKind, mCross, mCr, mKindOf, mAhead, mWhen, mStep, mRods, mRodAt, mStakeAt, mIndex, mOver, mOverIn, jlL, X12_within, bI_t, bI_f, X12_no]
    · refine OP.rf hI (-3) (jI (-3)) ?_ ?_
      · unfold f_X11_counts
        simp (maxSteps := 2000000) (disch := first | assumption | omega) only [jI0, iAdd_j, iSub_j, iMul_j, iNeg_j, Option.bind_some, jlt_t, jlt_f, jlt, jle_t, jle_f, jle, jeq_t, jeq_f, jeq, ↓reduceIte, o0, o2, o12, hBand, hStake, hKind, hCross, hWeaver, oBand, oKindOf, oKind, oCr, oRing, oWv, oPer, oRows, oAhead, oWhen, oAll, oStep, oRods, oRodAt, oStakeAt, oOff, bI_t, bI_f, X11_refuse, X11_stakesCan, X11_strokeCan]
      · intro G1 hM e eo
        have hV1 := hM.1; have hT1 := hM.2; (try rw [← e] at dm); (try rw [← e] at dr); (try rw [← e] at de); (try rw [← e] at dl); (try rw [← e] at hb); (try rw [← e] at hj); (try rw [← e] at hr); (try rw [← e] at hs); (try rw [← e] at pl); (try rw [← e] at al); (try rw [← e] at g); (try rw [← e] at c); (try rw [← e] at c1); (try rw [← e] at c2); (try rw [← e] at c3); (try rw [← e] at c4); (try rw [← e] at c5); (try rw [← e] at c6); (try rw [← e] at wb); (try rw [← e] at pr); (try rw [← e] at kd); (try rw [← e] at cr); (try rw [← e] at fe); (try rw [← e] at ra); (try rw [← e] at f1); (try rw [← e] at f2); (try rw [← e] at f3); (try rw [← e] at f4); (try rw [← e])
        unfold f_X12_counts
        by_cases x : 1 ≤ c ∧ c ≤ 9 <;> simp (maxSteps := 2000000) (disch := first | assumption | omega) only [jI0, iAdd_j, iSub_j, iMul_j, iNeg_j, Option.bind_some, jlt_t, jlt_f, jlt, jle_t, jle_f, jle, jeq_t, jeq_f, jeq, ↓reduceIte, o100, w100t, l102, mBand, mStake, mKind, mCross, mCr, mKindOf, mAhead, mWhen, mStep, mRods, mRodAt, mStakeAt, mIndex, mOver, mOverIn, jlL, X12_within, bI_t, bI_f, X12_no]
  · refine OP.rf hI (-3) (jI (-3)) ?_ ?_
    · unfold f_X11_counts
      by_cases x : 3 ≤ a ∧ a ≤ 999
      · by_cases y : 3 ≤ b ∧ b ≤ 999 <;> simp (maxSteps := 2000000) (disch := first | assumption | omega) only [jI0, iAdd_j, iSub_j, iMul_j, iNeg_j, Option.bind_some, jlt_t, jlt_f, jlt, jle_t, jle_f, jle, jeq_t, jeq_f, jeq, ↓reduceIte, o0, o2, o12, hBand, hStake, hKind, hCross, hWeaver, oBand, oKindOf, oKind, oCr, oRing, oWv, oPer, oRows, oAhead, oWhen, oAll, oStep, oRods, oRodAt, oStakeAt, oOff, bI_t, bI_f, X11_refuse, X11_stakesCan]
      · simp (maxSteps := 2000000) (disch := first | assumption | omega) only [jI0, iAdd_j, iSub_j, iMul_j, iNeg_j, Option.bind_some, jlt_t, jlt_f, jlt, jle_t, jle_f, jle, jeq_t, jeq_f, jeq, ↓reduceIte, o0, o2, o12, hBand, hStake, hKind, hCross, hWeaver, oBand, oKindOf, oKind, oCr, oRing, oWv, oPer, oRows, oAhead, oWhen, oAll, oStep, oRods, oRodAt, oStakeAt, oOff, bI_t, bI_f, X11_refuse, X11_stakesCan]
    · intro G1 hM e eo
      have hV1 := hM.1; have hT1 := hM.2; (try rw [← e] at dm); (try rw [← e] at dr); (try rw [← e] at de); (try rw [← e] at dl); (try rw [← e] at hb); (try rw [← e] at hj); (try rw [← e] at hr); (try rw [← e] at hs); (try rw [← e] at pl); (try rw [← e] at al); (try rw [← e] at g); (try rw [← e] at c); (try rw [← e] at c1); (try rw [← e] at c2); (try rw [← e] at c3); (try rw [← e] at c4); (try rw [← e] at c5); (try rw [← e] at c6); (try rw [← e] at wb); (try rw [← e] at pr); (try rw [← e] at kd); (try rw [← e] at cr); (try rw [← e] at fe); (try rw [← e] at ra); (try rw [← e] at f1); (try rw [← e] at f2); (try rw [← e] at f3); (try rw [← e] at f4); (try rw [← e])
      unfold f_X12_counts
      by_cases x : 3 ≤ a ∧ a ≤ 999 <;> simp (maxSteps := 2000000) (disch := first | assumption | omega) only [jI0, iAdd_j, iSub_j, iMul_j, iNeg_j, Option.bind_some, jlt_t, jlt_f, jlt, jle_t, jle_f, jle, jeq_t, jeq_f, jeq, ↓reduceIte, o100, w100t, l102, mBand, mStake, mKind, mCross, mCr, mKindOf, mAhead, mWhen, mStep, mRods, mRodAt, mStakeAt, mIndex, mOver, mOverIn, jlL, X12_within, bI_t, bI_f, X12_no]
end
