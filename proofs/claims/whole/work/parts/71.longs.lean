/-! longs, bit by bit -/
def lb (x : Int64) (k : Nat) : Bool := x.toBitVec.getLsbD k
theorem lb_ge {x : Int64} {k : Nat} (h : 64 ≤ k) : lb x k = false := BitVec.getLsbD_of_ge _ _ h
theorem lb_ext {x y : Int64} (h : ∀ k, k < 64 → lb x k = lb y k) : x = y := Int64.toBitVec_inj.mp (BitVec.eq_of_getLsbD_eq h)
theorem lb_and (x y : Int64) (k : Nat) : lb (lAnd x y) k = (lb x k && lb y k) := by
  unfold lb lAnd
  rw [Int64.toBitVec_and, BitVec.getLsbD_and]
theorem lb_or (x y : Int64) (k : Nat) : lb (lOr x y) k = (lb x k || lb y k) := by
  unfold lb lOr
  rw [Int64.toBitVec_or, BitVec.getLsbD_or]
theorem lb_n (m k : Nat) : lb (jL m) k = (decide (k < 64) && m.testBit k) := by
  unfold lb jL
  rw [Int64.toBitVec_ofInt, BitVec.ofInt_natCast, BitVec.getLsbD_ofNat]
theorem sh6 (s : Nat) (h : s < 64) : ((jI s).toInt64 &&& 63).toBitVec.smod 64 = BitVec.ofNat 64 s ∧ ((jI s).toInt64.toUInt64 &&& Int64.toUInt64 63).toBitVec % 64 = BitVec.ofNat 64 s := by
  have : ∀ s : Fin 64, ((jI (s.val : Nat)).toInt64 &&& 63).toBitVec.smod 64 = BitVec.ofNat 64 s ∧ ((jI (s.val : Nat)).toInt64.toUInt64 &&& Int64.toUInt64 63).toBitVec % 64 = BitVec.ofNat 64 s := by decide +kernel
  exact this ⟨s, h⟩
theorem lb_shl (x : Int64) {s : Nat} (h1 : s < 64) (k : Nat) : lb (lShl x (jI s)) k = (decide (k < 64) && !decide (k < s) && lb x (k - s)) := by
  unfold lb lShl
  show (x.toBitVec <<< (((jI s).toInt64 &&& 63).toBitVec.smod 64)).getLsbD k = _
  rw [(sh6 s h1).1, BitVec.shiftLeft_eq', BitVec.toNat_ofNat, Nat.mod_eq_of_lt (by omega), BitVec.getLsbD_shiftLeft]
theorem lb_usr (x : Int64) {s : Nat} (h1 : s < 64) (k : Nat) : lb (lUsr x (jI s)) k = lb x (s + k) := by
  unfold lb lUsr
  show (x.toBitVec >>> (((jI s).toInt64.toUInt64 &&& Int64.toUInt64 63).toBitVec % 64)).getLsbD k = _
  rw [(sh6 s h1).2, BitVec.ushiftRight_eq', BitVec.toNat_ofNat, Nat.mod_eq_of_lt (by omega), BitVec.getLsbD_ushiftRight]
theorem lAnd_n (a b : Nat) : lAnd (jL a) (jL b) = jL ((a &&& b : Nat) : Int) := by
  apply lb_ext
  intro k hk
  rw [lb_and, lb_n, lb_n, lb_n, Nat.testBit_and]
  simp [hk]
theorem lOr_n (a b : Nat) : lOr (jL a) (jL b) = jL ((a ||| b : Nat) : Int) := by
  apply lb_ext
  intro k hk
  rw [lb_or, lb_n, lb_n, lb_n, Nat.testBit_or]
  simp [hk]
theorem lUsr_n {n : Nat} (hn : n < 2 ^ 64) {s : Nat} (hs : s < 64) : lUsr (jL n) (jI s) = jL ((n / 2 ^ s : Nat) : Int) := by
  apply lb_ext
  intro k hk
  rw [lb_usr _ hs, lb_n, lb_n, Nat.testBit_div_two_pow]
  by_cases c : s + k < 64
  · simp [c, hk, Nat.add_comm]
  · have : n.testBit (k + s) = false := Nat.testBit_lt_two_pow (Nat.lt_of_lt_of_le hn (Nat.pow_le_pow_right (by omega) (by omega)))
    simp [c, this]
theorem lShl_n (n : Nat) {s : Nat} (hs : s < 64) : lShl (jL n) (jI s) = jL ((n * 2 ^ s : Nat) : Int) := by
  apply lb_ext
  intro k hk
  rw [lb_shl _ hs, lb_n, lb_n, Nat.testBit_mul_two_pow]
  by_cases c : k < s
  · simp [c, hk, show ¬ s ≤ k by omega]
  · simp [c, hk, show s ≤ k by omega, show k - s < 64 by omega]
theorem lShr_n {n : Nat} (hn : n < 2 ^ 63) {s : Nat} (hs : s < 64) : lShr (jL n) (jI s) = jL ((n / 2 ^ s : Nat) : Int) := by
  apply lb_ext
  intro k hk
  have hm : (jL n).toBitVec.msb = false := by
    rw [BitVec.msb_eq_getLsbD_last]
    have := lb_n n 63
    unfold lb at this
    show (jL n).toBitVec.getLsbD 63 = false
    rw [this, Nat.testBit_lt_two_pow hn]
    rfl
  have e : lb (lShr (jL n) (jI s)) k = if s + k < 64 then lb (jL n) (s + k) else false := by
    unfold lb lShr
    show ((jL n).toBitVec.sshiftRight' (((jI s).toInt64 &&& 63).toBitVec.smod 64)).getLsbD k = _
    rw [(sh6 s hs).1, BitVec.sshiftRight_eq', BitVec.toNat_ofNat, Nat.mod_eq_of_lt (by omega), BitVec.getLsbD_sshiftRight, hm]
    simp [show ¬ 64 ≤ k by omega]
  rw [e, lb_n, lb_n, Nat.testBit_div_two_pow]
  by_cases c : s + k < 64
  · rw [if_pos c]
    simp [c, hk, Nat.add_comm]
  · have : n.testBit (k + s) = false := Nat.testBit_lt_two_pow (Nat.lt_of_lt_of_le hn (Nat.pow_le_pow_right (by omega) (by omega)))
    rw [if_neg c]
    simp [this]
theorem lBit {M t : Nat} (hM : M < 2 ^ 63) (ht : t < 64) : (lAnd (lShr (jL M) (jI t)) (jL 1) = jL 1) = (M.testBit t = true) := by
  have e1 : (1 : Int) = ((1 : Nat) : Int) := rfl
  have l : M / 2 ^ t % 2 < 2 := Nat.mod_lt _ (by omega)
  rw [lShr_n hM ht, e1, lAnd_n, Nat.and_one_is_mod, Nat.testBit_eq_decide_div_mod_eq, decide_eq_true_eq]
  rw [jL_eq (by omega) (by omega) (by omega) (by omega)]
  exact propext (by omega)
