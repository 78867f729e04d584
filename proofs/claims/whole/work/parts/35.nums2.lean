/-! division that rounds to 0, floorMod -/
theorem tdiv_r {a b : Int} (a1 : -2147483648 ≤ a) (a2 : a < 2147483648) (b1 : 0 < b) : -2147483648 ≤ a.tdiv b ∧ a.tdiv b < 2147483648 := by
  by_cases h : 0 ≤ a
  · rw [Int.tdiv_eq_ediv_of_nonneg h]
    have e1 : 0 ≤ a / b := Int.ediv_nonneg h (by omega)
    have e2 : a / b ≤ a := Int.ediv_le_self b h
    omega
  · have e : a.tdiv b = -((-a) / b) := by
      have : a = -(-a) := by omega
      rw [this, Int.neg_tdiv, Int.tdiv_eq_ediv_of_nonneg (by omega)]
      simp
    have e1 : 0 ≤ (-a) / b := Int.ediv_nonneg (by omega) (by omega)
    have e2 : (-a) / b ≤ -a := Int.ediv_le_self b (by omega)
    omega
theorem iDiv_t {a b : Int} (a1 : -2147483648 ≤ a) (a2 : a < 2147483648) (b1 : 0 < b) (b2 : b < 2147483648) : jI a / jI b = jI (a.tdiv b) := by
  apply Int32.toInt_inj.mp
  rw [Int32.toInt_div_of_ne_right, jI_toInt (by omega) a2, jI_toInt (by omega) b2]
  · have := tdiv_r a1 a2 b1
    rw [jI_toInt this.1 this.2]
  · intro e
    have := congrArg Int32.toInt e
    rw [jI_toInt (by omega) b2] at this
    have h2 : (-1 : Int32).toInt = -1 := by decide
    omega
theorem iRem_t {a b : Int} (a1 : -2147483648 ≤ a) (a2 : a < 2147483648) (b1 : 0 < b) (b2 : b < 2147483648) : iRem (jI a) (jI b) = jI (a.tmod b) := by
  unfold iRem
  rw [iDiv_t a1 a2 b1 b2, jI_mul, jI_sub, Int.tmod_def, Int.mul_comm]
theorem tmod_neg {a b : Int} (h : a < 0) (hb : 0 < b) : a.tmod b = -((-a) % b) := by
  have : a = -(-a) := by omega
  rw [this, Int.neg_tmod, Int.tmod_eq_emod_of_nonneg (by omega)]
  simp
theorem emod_neg {a b : Int} (hb : 0 < b) : a % b = if (-a) % b = 0 then 0 else b - (-a) % b := by
  have e := Int.emod_add_mul_ediv (-a) b
  have r0 := Int.emod_nonneg (-a) (show b ≠ 0 by omega)
  have r1 := Int.emod_lt_of_pos (-a) hb
  by_cases h : (-a) % b = 0
  · rw [if_pos h]
    have : a = b * (-((-a) / b)) := by rw [Int.mul_neg]; omega
    rw [this]
    exact Int.mul_emod_right _ _
  · rw [if_neg h]
    have : a = (b - (-a) % b) + b * (-((-a) / b) - 1) := by rw [Int.mul_sub, Int.mul_neg]; omega
    rw [this, Int.add_mul_emod_self_left, ← this]
    exact Int.emod_eq_of_lt (by omega) (by omega)
theorem iXor_lt {a b : Int} (a1 : -2147483648 ≤ a) (a2 : a < 2147483648) (b1 : 0 ≤ b) (b2 : b < 2147483648) : (iXor (jI a) (jI b) < jI 0) = (a < 0) := by
  apply propext
  rw [Int32.lt_iff_toInt_lt]
  show (iXor (jI a) (jI b)).toInt < 0 ↔ _
  have m : ∀ x : Int32, (x.toInt < 0) ↔ x.toBitVec.msb = true := fun x => by
    rw [BitVec.msb_eq_toInt]
    show x.toInt < 0 ↔ decide (x.toInt < 0) = true
    simp
  rw [m]
  have ha := m (jI a)
  have hb := m (jI b)
  rw [jI_toInt a1 a2] at ha
  rw [jI_toInt (by omega) b2] at hb
  unfold iXor
  rw [Int32.toBitVec_xor, BitVec.msb_xor]
  have hb2 : (jI b).toBitVec.msb = false := by
    cases hh : (jI b).toBitVec.msb
    · rfl
    · have := hb.mpr hh; omega
  rw [hb2, Bool.xor_false]
  exact ha.symm
theorem J9_floorMod {N : Nat} {h : mH} {a b : Int} (a1 : -2147483648 ≤ a) (a2 : a < 2147483648) (b1 : 0 < b) (b2 : b < 2147483648) : f_J9_floorMod_7cf53 N (jI a) (jI b) h = some (jI (a % b), h) := by
  unfold f_J9_floorMod_7cf53
  by_cases c : a < 0
  · have r0 := Int.emod_nonneg (-a) (show b ≠ 0 by omega)
    have r1 := Int.emod_lt_of_pos (-a) b1
    simp only [iRem_t a1 a2 b1 b2, tmod_neg c b1]
    rw [show a % b = _ from emod_neg (a := a) b1]
    by_cases d : (-a) % b = 0
    · simp (maxSteps := 2000000) (disch := first | assumption | omega) only [jI0, iAdd_j, iSub_j, iMul_j, iNeg_j, Option.bind_some, jlt_t, jlt_f, jlt, jle_t, jle_f, jle, jeq_t, jeq_f, jeq, ↓reduceIte, iXor_lt, c, d, Int.neg_zero]
    · simp (maxSteps := 2000000) (disch := first | assumption | omega) only [jI0, iAdd_j, iSub_j, iMul_j, iNeg_j, Option.bind_some, jlt_t, jlt_f, jlt, jle_t, jle_f, jle, jeq_t, jeq_f, jeq, ↓reduceIte, iXor_lt, c, d]
      congr 3
      omega
  · simp only [iRem_t a1 a2 b1 b2, Int.tmod_eq_emod_of_nonneg (show 0 ≤ a by omega)]
    simp (maxSteps := 2000000) (disch := first | assumption | omega) only [jI0, iAdd_j, iSub_j, iMul_j, iNeg_j, Option.bind_some, jlt_t, jlt_f, jlt, jle_t, jle_f, jle, jeq_t, jeq_f, jeq, ↓reduceIte, iXor_lt, c]
theorem X12_round {N : Nat} {h : mH} {a b : Int} (a1 : -2147483648 ≤ a) (a2 : a < 2147483648) (b1 : 0 < b) (b2 : b < 2147483648) : f_X12_round N (jI a) (jI b) h = some (jI (a % b), h) := by
  unfold f_X12_round
  by_cases c : a < 0
  · have r0 := Int.emod_nonneg (-a) (show b ≠ 0 by omega)
    have r1 := Int.emod_lt_of_pos (-a) b1
    simp only [iRem_t a1 a2 b1 b2, tmod_neg c b1]
    rw [show a % b = _ from emod_neg (a := a) b1]
    by_cases d : (-a) % b = 0
    · simp (maxSteps := 2000000) (disch := first | assumption | omega) only [jI0, iAdd_j, iSub_j, iMul_j, iNeg_j, Option.bind_some, jlt_t, jlt_f, jlt, jle_t, jle_f, jle, jeq_t, jeq_f, jeq, ↓reduceIte, d, Int.neg_zero]
    · simp (maxSteps := 2000000) (disch := first | assumption | omega) only [jI0, iAdd_j, iSub_j, iMul_j, iNeg_j, Option.bind_some, jlt_t, jlt_f, jlt, jle_t, jle_f, jle, jeq_t, jeq_f, jeq, ↓reduceIte, d]
      congr 3
      omega
  · have r0 := Int.emod_nonneg a (show b ≠ 0 by omega)
    have r1 := Int.emod_lt_of_pos a b1
    simp only [iRem_t a1 a2 b1 b2, Int.tmod_eq_emod_of_nonneg (show 0 ≤ a by omega)]
    simp (maxSteps := 2000000) (disch := first | assumption | omega) only [jI0, iAdd_j, iSub_j, iMul_j, iNeg_j, Option.bind_some, jlt_t, jlt_f, jlt, jle_t, jle_f, jle, jeq_t, jeq_f, jeq, ↓reduceIte, Int.emod_nonneg]
