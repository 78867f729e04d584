/-! numbers: jI, jL -/
theorem jI0 : (0 : Int32) = jI 0 := rfl
theorem jI1 : (1 : Int32) = jI 1 := rfl
theorem jI_add (a b : Int) : jI a + jI b = jI (a + b) := (Int32.ofInt_add a b).symm
theorem jI_sub (a b : Int) : jI a - jI b = jI (a - b) := (Int32.ofInt_sub a b).symm
theorem jI_mul (a b : Int) : jI a * jI b = jI (a * b) := (Int32.ofInt_mul a b).symm
theorem jI_neg (a : Int) : -jI a = jI (-a) := (Int32.ofInt_neg a).symm
theorem iAdd_j (a b : Int) : iAdd (jI a) (jI b) = jI (a + b) := jI_add a b
theorem iSub_j (a b : Int) : iSub (jI a) (jI b) = jI (a - b) := jI_sub a b
theorem iMul_j (a b : Int) : iMul (jI a) (jI b) = jI (a * b) := jI_mul a b
theorem iNeg_j (a : Int) : iNeg (jI a) = jI (-a) := jI_neg a
theorem jI_of (x : Int32) : x = jI x.toInt := (Int32.ofInt_toInt x).symm
theorem jI_lt {a b : Int} (a1 : -2147483648 ≤ a) (a2 : a < 2147483648) (b1 : -2147483648 ≤ b) (b2 : b < 2147483648) : (jI a < jI b) ↔ a < b := by
  rw [Int32.lt_iff_toInt_lt, jI_toInt a1 a2, jI_toInt b1 b2]
theorem jI_le {a b : Int} (a1 : -2147483648 ≤ a) (a2 : a < 2147483648) (b1 : -2147483648 ≤ b) (b2 : b < 2147483648) : (jI a ≤ jI b) ↔ a ≤ b := by
  rw [Int32.le_iff_toInt_le, jI_toInt a1 a2, jI_toInt b1 b2]
theorem jI_eq {a b : Int} (a1 : -2147483648 ≤ a) (a2 : a < 2147483648) (b1 : -2147483648 ≤ b) (b2 : b < 2147483648) : (jI a = jI b) ↔ a = b := by
  rw [← Int32.toInt_inj, jI_toInt a1 a2, jI_toInt b1 b2]
theorem jI_nat {a : Int} (a1 : 0 ≤ a) (a2 : a < 2147483648) : (jI a).toNatClampNeg = a.toNat := by
  show (jI a).toInt.toNat = _
  rw [jI_toInt (by omega) a2]
theorem jI_div {a b : Int} (a1 : 0 ≤ a) (a2 : a < 2147483648) (b1 : 0 < b) (b2 : b < 2147483648) : jI a / jI b = jI (a / b) := by
  apply Int32.toInt_inj.mp
  rw [Int32.toInt_div_of_ne_right, jI_toInt (by omega) a2, jI_toInt (by omega) b2]
  · have e1 : 0 ≤ a / b := Int.ediv_nonneg a1 (by omega)
    have e2 : a / b ≤ a := Int.ediv_le_self b a1
    rw [jI_toInt (by omega) (by omega), Int.tdiv_eq_ediv_of_nonneg a1]
  · intro e
    have := congrArg Int32.toInt e
    rw [jI_toInt (by omega) b2] at this
    have h2 : (-1 : Int32).toInt = -1 := by decide
    omega
theorem iDiv_j {a b : Int} (a1 : 0 ≤ a) (a2 : a < 2147483648) (b1 : 0 < b) (b2 : b < 2147483648) : iDiv (jI a) (jI b) = jI (a / b) := jI_div a1 a2 b1 b2
theorem iRem_p {a b : Int} (a1 : 0 ≤ a) (a2 : a < 2147483648) (b1 : 0 < b) (b2 : b < 2147483648) : iRem (jI a) (jI b) = jI (a % b) := by
  unfold iRem
  rw [jI_div a1 a2 b1 b2, jI_mul, jI_sub]
  congr 1
  have := Int.emod_add_mul_ediv a b
  rw [Int.mul_comm] at this
  omega
theorem iMax_j {a b : Int} (a1 : -2147483648 ≤ a) (a2 : a < 2147483648) (b1 : -2147483648 ≤ b) (b2 : b < 2147483648) : iMax (jI a) (jI b) = jI (max a b) := by
  unfold iMax
  by_cases h : a < b
  · rw [if_pos ((jI_lt a1 a2 b1 b2).mpr h), Int.max_eq_right (by omega)]
  · rw [if_neg (fun q => h ((jI_lt a1 a2 b1 b2).mp q)), Int.max_eq_left (by omega)]
theorem iMin_j {a b : Int} (a1 : -2147483648 ≤ a) (a2 : a < 2147483648) (b1 : -2147483648 ≤ b) (b2 : b < 2147483648) : iMin (jI a) (jI b) = jI (min a b) := by
  unfold iMin
  by_cases h : b < a
  · rw [if_pos ((jI_lt b1 b2 a1 a2).mpr h), Int.min_eq_right (by omega)]
  · rw [if_neg (fun q => h ((jI_lt b1 b2 a1 a2).mp q)), Int.min_eq_left (by omega)]
theorem iAbs_j {a : Int} (a1 : -2147483648 ≤ a) (a2 : a < 2147483648) : iAbs (jI a) = jI a.natAbs := by
  unfold iAbs
  rw [jI0]
  by_cases h : 0 ≤ a
  · rw [if_pos ((jI_le (by omega) (by omega) a1 a2).mpr h)]
    congr 1
    omega
  · rw [if_neg (fun q => h ((jI_le (by omega) (by omega) a1 a2).mp q)), jI_sub]
    congr 1
    omega
theorem jI_l {a : Int} (a1 : -2147483648 ≤ a) (a2 : a < 2147483648) : (jI a).toInt64 = jL a := by
  apply Int64.toInt_inj.mp
  rw [Int32.toInt_toInt64, jI_toInt a1 a2]
  unfold jL
  rw [Int64.toInt_ofInt_of_le (by omega) (by omega)]
theorem jL_toInt {c : Int} (h1 : -9223372036854775808 ≤ c) (h2 : c < 9223372036854775808) : (jL c).toInt = c := by
  unfold jL
  exact Int64.toInt_ofInt_of_le (by simpa using h1) (by simpa using h2)
theorem jL_of (x : Int64) : x = jL x.toInt := (Int64.ofInt_toInt x).symm
theorem jL_add (a b : Int) : jL a + jL b = jL (a + b) := (Int64.ofInt_add a b).symm
theorem jL_sub (a b : Int) : jL a - jL b = jL (a - b) := (Int64.ofInt_sub a b).symm
theorem jL_mul (a b : Int) : jL a * jL b = jL (a * b) := (Int64.ofInt_mul a b).symm
theorem lAdd_j (a b : Int) : lAdd (jL a) (jL b) = jL (a + b) := jL_add a b
theorem lSub_j (a b : Int) : lSub (jL a) (jL b) = jL (a - b) := jL_sub a b
theorem lMul_j (a b : Int) : lMul (jL a) (jL b) = jL (a * b) := jL_mul a b
theorem jL_lt {a b : Int} (a1 : -9223372036854775808 ≤ a) (a2 : a < 9223372036854775808) (b1 : -9223372036854775808 ≤ b) (b2 : b < 9223372036854775808) : (jL a < jL b) ↔ a < b := by
  rw [Int64.lt_iff_toInt_lt, jL_toInt a1 a2, jL_toInt b1 b2]
theorem jL_eq {a b : Int} (a1 : -9223372036854775808 ≤ a) (a2 : a < 9223372036854775808) (b1 : -9223372036854775808 ≤ b) (b2 : b < 9223372036854775808) : (jL a = jL b) ↔ a = b := by
  rw [← Int64.toInt_inj, jL_toInt a1 a2, jL_toInt b1 b2]
theorem i32_r (x : Int32) : -2147483648 ≤ x.toInt ∧ x.toInt < 2147483648 := ⟨by have := Int32.le_toInt x; simpa using this, by have := Int32.toInt_lt x; simpa using this⟩
theorem i64_r (x : Int64) : -9223372036854775808 ≤ x.toInt ∧ x.toInt < 9223372036854775808 := ⟨by have := Int64.le_toInt x; simpa using this, by have := Int64.toInt_lt x; simpa using this⟩
/-! cells -/
theorem cell_lt {h : mH} {a : Nat} {e : mE} (hc : cell h a = some e) : a < h.1 := by
  unfold cell at hc
  by_cases h1 : a < h.1
  · exact h1
  · rw [if_neg h1] at hc; cases hc
theorem cell_mS {h : mH} {a : Nat} {e e0 : mE} (hc : cell h a = some e0) : cell (mS h a e) a = some e := by
  have := cell_lt hc
  unfold cell mS
  simp [this]
theorem cell_mSn {h : mH} {a b : Nat} {e : mE} (hn : b ≠ a) : cell (mS h a e) b = cell h b := by
  unfold cell mS
  simp [hn]
theorem cell_mP {h : mH} {n : Nat} {e : mE} : cell (mP h n e) h.1 = some e := by
  unfold cell mP
  simp
theorem cell_mPn {h : mH} {b n : Nat} {e : mE} (hb : b < h.1) : cell (mP h n e) b = cell h b := by
  unfold cell mP
  have : b ≠ h.1 := Nat.ne_of_lt hb
  simp [this, hb, Nat.lt_succ_of_lt hb]
theorem mS_self {h : mH} {a : Nat} {e : mE} (hc : cell h a = some e) : mS h a e = h := by
  have h1 := cell_lt hc
  unfold cell at hc
  rw [if_pos h1] at hc
  have h2 := Option.some.inj hc
  obtain ⟨n, s, f⟩ := h
  unfold mS
  congr 2
  funext j
  by_cases hj : j = a
  · subst hj; simp; exact h2.symm
  · simp [hj]
theorem gI_c {h : mH} {ci a k : Nat} {fs : List Value} {x : Int32} (hc : cell h a = some (.inr (ci, fs))) (hv : fs[k]? = some (.int x)) : gI h ci a k = some x := by
  unfold gI gV
  rw [hc]
  simp [Nat.beq_refl, hv]
theorem gL_c {h : mH} {ci a k : Nat} {fs : List Value} {x : Int64} (hc : cell h a = some (.inr (ci, fs))) (hv : fs[k]? = some (.long x)) : gL h ci a k = some x := by
  unfold gL gV
  rw [hc]
  simp [Nat.beq_refl, hv]
theorem gR_c {h : mH} {ci a k : Nat} {fs : List Value} {x : Nat} (hc : cell h a = some (.inr (ci, fs))) (hv : fs[k]? = some (.ref x)) : gR h ci a k = some x := by
  unfold gR gV
  rw [hc]
  simp [Nat.beq_refl, hv]
theorem rcv_c {h : mH} {ci a : Nat} {fs : List Value} (hc : cell h a = some (.inr (ci, fs))) : rcv h ci a = some () := by
  unfold rcv
  rw [hc]
  simp [Nat.beq_refl]
theorem pV_c {h : mH} {ci a k : Nat} {fs : List Value} {v : Value} (hc : cell h a = some (.inr (ci, fs))) (hk : k < fs.length) : pV h ci a k v = some (mS h a (.inr (ci, fs.set k v))) := by
  unfold pV
  rw [hc]
  have e : Nat.blt k fs.length = true := by simp [Nat.blt]; omega
  simp [Nat.beq_refl, e]
theorem ldI_c {h : mH} {t a n : Nat} {f : Nat → Int32} {i : Int} (hc : cell h a = some (.inl (t, n, .inl f))) (h0 : 0 ≤ i) (h1 : i < n) (h2 : i < 2147483648) : ldI t h a (jI i) = some (f i.toNat) := by
  unfold ldI
  rw [hc]
  have e1 : (jI i).toNatClampNeg = i.toNat := jI_nat h0 h2
  have e2 : ¬ jI i < 0 := by rw [jI0, jI_lt (by omega) h2 (by omega) (by omega)]; omega
  simp only [e1]
  rw [if_pos ⟨trivial, fun q => q.elim e2 (fun q => by omega)⟩]
theorem ldL_c {h : mH} {a n : Nat} {f : Nat → Int64} {i : Int} (hc : cell h a = some (.inl (1, n, .inr (.inl f)))) (h0 : 0 ≤ i) (h1 : i < n) (h2 : i < 2147483648) : ldL h a (jI i) = some (f i.toNat) := by
  unfold ldL
  rw [hc]
  have e1 : (jI i).toNatClampNeg = i.toNat := jI_nat h0 h2
  have e2 : ¬ jI i < 0 := by rw [jI0, jI_lt (by omega) h2 (by omega) (by omega)]; omega
  simp only [e1]
  rw [if_pos ⟨trivial, fun q => q.elim e2 (fun q => by omega)⟩]
theorem ldR_c {h : mH} {t a n : Nat} {f : Nat → Option Nat} {i : Int} (hc : cell h a = some (.inl (t, n, .inr (.inr (.inr (.inr f)))))) (h0 : 0 ≤ i) (h1 : i < n) (h2 : i < 2147483648) : ldR t h a (jI i) = f i.toNat := by
  unfold ldR
  rw [hc]
  have e1 : (jI i).toNatClampNeg = i.toNat := jI_nat h0 h2
  have e2 : ¬ jI i < 0 := by rw [jI0, jI_lt (by omega) h2 (by omega) (by omega)]; omega
  simp only [e1]
  rw [if_pos ⟨trivial, fun q => q.elim e2 (fun q => by omega)⟩]
theorem stI_c {h : mH} {t a n : Nat} {f : Nat → Int32} {i : Int} {x : Int32} (hc : cell h a = some (.inl (t, n, .inl f))) (h0 : 0 ≤ i) (h1 : i < n) (h2 : i < 2147483648) : stI t h a (jI i) x = some (mS h a (.inl (t, n, .inl (upd f i.toNat (narB t x))))) := by
  unfold stI
  rw [hc]
  have e1 : (jI i).toNatClampNeg = i.toNat := jI_nat h0 h2
  have e2 : ¬ jI i < 0 := by rw [jI0, jI_lt (by omega) h2 (by omega) (by omega)]; omega
  simp only [e1]
  rw [if_pos ⟨trivial, fun q => q.elim e2 (fun q => by omega)⟩]
theorem stL_c {h : mH} {a n : Nat} {f : Nat → Int64} {i : Int} {x : Int64} (hc : cell h a = some (.inl (1, n, .inr (.inl f)))) (h0 : 0 ≤ i) (h1 : i < n) (h2 : i < 2147483648) : stL h a (jI i) x = some (mS h a (.inl (1, n, .inr (.inl (vp_updL f i.toNat x))))) := by
  unfold stL
  rw [hc]
  have e1 : (jI i).toNatClampNeg = i.toNat := jI_nat h0 h2
  have e2 : ¬ jI i < 0 := by rw [jI0, jI_lt (by omega) h2 (by omega) (by omega)]; omega
  simp only [e1]
  rw [if_pos ⟨trivial, fun q => q.elim e2 (fun q => by omega)⟩]
theorem lnA_c {h : mH} {t a n : Nat} {g} (hc : cell h a = some (.inl (t, n, g))) (ht : t < 6) : lnA h a = some (jI n) := by
  unfold lnA
  rw [hc]
  have e : Nat.blt t 6 = true := by simp [Nat.blt]; omega
  simp only [e]
  show some (Int32.ofNat n) = some (Int32.ofInt n)
  rw [Int32.ofInt_eq_ofNat]
