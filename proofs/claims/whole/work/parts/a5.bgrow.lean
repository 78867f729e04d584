/-! bowl: rows of leans, grown by one band; what their numbers tell -/
def bW (A s : Int → Int) (b : Nat) : Int := wA (roF A) (A 141) s b
def bP (A U : Int → Int) (row : Int) (s : Int → Int) (b : Nat) : Int := pc (roF A) (wiF U row) (A 141) s b
def bO (U : Int → Int) (row x : Int) (b : Nat) : Int := off (wiF U row) x b
def bE (A U : Int → Int) (row : Int) (s : Int → Int) (b : Nat) : Int := en (roF A) (wiF U row) (A 141) s b
def bG (A U : Int → Int) (row d : Int) (n : Nat) : Int → Int := gr (roF A) (wiF U row) (A 141) d n
def sw (b : Nat) : Nat := 2 ^ (5 * (7 - b))
def lw (A : Int → Int) : Nat → Int
  | 0 => A 141
  | b + 1 => max 1 (lw A b - 9 * roF A b)
def su (A U : Int → Int) (row : Int) (b : Nat) : Int := max 0 (max (lw A (b + 1) - wiF U row b) (wiF U row b - mo A (b + 1)))
def ss (A U : Int → Int) (row : Int) : Nat → Int
  | 0 => 0
  | b + 1 => ss A U row b + su A U row b
theorem sw_v : sw 0 = 34359738368 ∧ sw 1 = 1073741824 ∧ sw 2 = 33554432 ∧ sw 3 = 1048576 ∧ sw 4 = 32768 ∧ sw 5 = 1024 ∧ sw 6 = 32 ∧ sw 7 = 1 := by decide +kernel
section
variable {A U s : Int → Int} {row d l : Int} {n b : Nat}
theorem u1_lo : ∀ j : Nat, j < b → u1 s b l j = s j := fun j hj => u1_ne (by omega)
theorem bW_s : bW A s (b + 1) = wB (roF A) (bW A s b) (s b) b := rfl
theorem bP_s : bP A U row s (b + 1) = bP A U row s b + bO U row (bW A s (b + 1)) b := rfl
theorem bW_u : bW A (u1 s b l) (b + 1) = wB (roF A) (bW A s b) l b := by
  rw [bW_s, u1_eq]
  unfold bW
  rw [(agree (roF A) (fun _ => 0) (A 141) b u1_lo).2.1]
theorem bP_u : bP A U row (u1 s b l) (b + 1) = bP A U row s b + bO U row (wB (roF A) (bW A s b) l b) b := by
  rw [bP_s, bW_u]
  unfold bP
  rw [(agree (roF A) (wiF U row) (A 141) b u1_lo).2.2]
theorem dgt_u {j : Int} : dgt (u1 s b l) ((b : Int) + 1) j = if j = b then l else dgt s b j := by
  unfold dgt
  by_cases c : j = b
  · rw [if_pos c, c, u1_eq, if_pos (by omega)]
  · rw [if_neg c, u1_ne c]
    by_cases c2 : j < b
    · rw [if_pos c2, if_pos (by omega)]
    · rw [if_neg c2, if_neg (by omega)]
theorem cd_u (hb : b ≤ 7) : cd (u1 s b l) ((b + 1 : Nat) : Int) = cd s b + l * (sw b : Nat) := by
  have z : dgt s b b = 0 := dgt_ge (by omega)
  have e : ∀ j : Int, (j = b ∧ dgt (u1 s b l) ((b : Int) + 1) j = l ∧ dgt s b j = 0) ∨ (j ≠ b ∧ dgt (u1 s b l) ((b : Int) + 1) j = dgt s b j) := fun j => by
    rw [dgt_u]
    by_cases c : j = b
    · exact .inl ⟨c, if_pos c, by rw [c]; exact z⟩
    · exact .inr ⟨c, if_neg c⟩
  have e0 := e 0
  have e1 := e 1
  have e2 := e 2
  have e3 := e 3
  have e4 := e 4
  have e5 := e 5
  have e6 := e 6
  have e7 := e 7
  obtain ⟨v0, v1, v2, v3, v4, v5, v6, v7⟩ := sw_v
  rw [Int.natCast_succ]
  unfold cd
  generalize dgt (u1 s b l) ((b : Int) + 1) 0 = x0 at *
  generalize dgt (u1 s b l) ((b : Int) + 1) 1 = x1 at *
  generalize dgt (u1 s b l) ((b : Int) + 1) 2 = x2 at *
  generalize dgt (u1 s b l) ((b : Int) + 1) 3 = x3 at *
  generalize dgt (u1 s b l) ((b : Int) + 1) 4 = x4 at *
  generalize dgt (u1 s b l) ((b : Int) + 1) 5 = x5 at *
  generalize dgt (u1 s b l) ((b : Int) + 1) 6 = x6 at *
  generalize dgt (u1 s b l) ((b : Int) + 1) 7 = x7 at *
  generalize dgt s b 0 = y0 at *
  generalize dgt s b 1 = y1 at *
  generalize dgt s b 2 = y2 at *
  generalize dgt s b 3 = y3 at *
  generalize dgt s b 4 = y4 at *
  generalize dgt s b 5 = y5 at *
  generalize dgt s b 6 = y6 at *
  generalize dgt s b 7 = y7 at *
  clear e z
  have b8 : b = 0 ∨ b = 1 ∨ b = 2 ∨ b = 3 ∨ b = 4 ∨ b = 5 ∨ b = 6 ∨ b = 7 := by omega
  rcases b8 with x | x | x | x | x | x | x | x <;> subst x
  · rw [v0]; omega
  · rw [v1]; omega
  · rw [v2]; omega
  · rw [v3]; omega
  · rw [v4]; omega
  · rw [v5]; omega
  · rw [v6]; omega
  · rw [v7]; omega
theorem bE_u (hb : b ≤ 7) : bE A U row (u1 s b l) (b + 1) = bE A U row s b + bO U row (wB (roF A) (bW A s b) l b) b * 1099511627776 + l * (sw b : Nat) := by
  have e1 : bE A U row (u1 s b l) (b + 1) = bP A U row (u1 s b l) (b + 1) * 1099511627776 + cd (u1 s b l) ((b + 1 : Nat) : Int) := rfl
  have e2 : bE A U row s b = bP A U row s b * 1099511627776 + cd s b := rfl
  rw [e1, e2, bP_u, cd_u hb]
  omega
theorem bE_0 : bE A U row s 0 = 0 := rfl
theorem fe_u (h : fe d s b) (l0 : 0 ≤ l) (l1 : l ≤ 18) (ha : adm d b (ah s b) l = true) : fe d (u1 s b l) (b + 1) := by
  intro j hj
  have e : ah (u1 s b l) j = ah s j := (agree (fun _ => 0) (fun _ => 0) 0 j (fun i hi => u1_lo (s := s) (l := l) (b := b) i (by omega))).1
  by_cases c : j = b
  · rw [e, c, u1_eq]
    exact ⟨⟨l0, l1⟩, ha⟩
  · have f := h j (by omega)
    rw [e, u1_lo j (by omega)]
    exact f
theorem fe_pre {m : Nat} (h : fe d s n) (hm : m ≤ n) : fe d s m := fun j hj => h j (by omega)
theorem bP_r (h : BN A U row d n) : ∀ b : Nat, b ≤ n → fe d s b → (0 ≤ bP A U row s b ∧ bP A U row s b ≤ 9998 * b) ∧ (1 ≤ bW A s b ∧ bW A s b ≤ mo A b) ∧ lw A b ≤ bW A s b ∧ lw A b ≤ 999
  | 0, _, _ => by
    have W := h.2.2.1
    refine ⟨⟨?_, ?_⟩, ⟨?_, ?_⟩, ?_, ?_⟩
    · show (0 : Int) ≤ 0; omega
    · show (0 : Int) ≤ _; omega
    · exact W.1
    · exact Int.le_refl _
    · exact Int.le_refl _
    · exact W.2
  | b + 1, hb, hf => by
    obtain ⟨i1, i2, i3, i4⟩ := bP_r h b (by omega) (fe_pre hf (by omega))
    have f := hf b (by omega)
    have w := wB_r h (show b < n by omega) i2.1 i2.2 f.1.1 f.1.2
    have o := off_r h (show b < n by omega) w.1.1 w.1.2
    have r := h.2.2.2.1 b (by omega) (by omega)
    have x2 : (-9) * roF A b ≤ (s b - 9) * roF A b := Int.mul_le_mul_of_nonneg_right (by omega) (by omega)
    have e1 : bP A U row s (b + 1) = bP A U row s b + off (wiF U row) (wB (roF A) (bW A s b) (s b) b) b := rfl
    have e2 : bW A s (b + 1) = wB (roF A) (bW A s b) (s b) b := rfl
    have e3 : lw A (b + 1) = max 1 (lw A b - 9 * roF A b) := rfl
    have e4 : wB (roF A) (bW A s b) (s b) b = max 1 (bW A s b + (s b - 9) * roF A b) := rfl
    rw [e1, e2, e3]
    refine ⟨by omega, w.1, by omega, by omega⟩
theorem lw_1 (h : BN A U row d n) : ∀ b : Nat, b ≤ n → 1 ≤ lw A b ∧ lw A b ≤ 999
  | 0, _ => h.2.2.1
  | b + 1, hb => by
    have i := lw_1 h b (by omega)
    have r := h.2.2.2.1 b (by omega) (by omega)
    rw [lw]
    omega
theorem su_r (h : BN A U row d n) (hb : b < n) : 0 ≤ su A U row b ∧ su A U row b ≤ 9998 := by
  have i := lw_1 h (b + 1) (by omega)
  have m := mo_r h (b + 1) (by omega)
  have w := h.2.2.2.2.1 b (by omega) (by omega)
  have n8 := h.2.1
  unfold su
  omega
theorem su_le (h : BN A U row d n) (hb : b < n) (hf : fe d s (b + 1)) : su A U row b ≤ bO U row (bW A s (b + 1)) b := by
  obtain ⟨i1, i2, i3, i4⟩ := bP_r (s := s) h (b + 1) (by omega) hf
  unfold su bO off
  omega
theorem ss_pre (h : BN A U row d n) : ∀ b : Nat, b ≤ n → fe d s b → 0 ≤ ss A U row b ∧ ss A U row b ≤ bP A U row s b
  | 0, _, _ => ⟨Int.le_refl _, Int.le_refl _⟩
  | b + 1, hb, hf => by
    have i := ss_pre h b (by omega) (fe_pre hf (by omega))
    have r := su_r h (show b < n by omega)
    have x := su_le h (show b < n by omega) hf
    rw [ss, bP_s]
    omega
theorem ss_post (h : BN A U row d n) (hf : fe d s n) : ∀ k b : Nat, b + k = n → ss A U row n - ss A U row b ≤ bP A U row s n - bP A U row s b := by
  intro k
  induction k with
  | zero =>
    intro b hb
    have e : b = n := by omega
    rw [e]
    omega
  | succ k ih =>
    intro b hb
    have i := ih (b + 1) (by omega)
    have x := su_le h (show b < n by omega) (fe_pre hf (show b + 1 ≤ n by omega))
    rw [ss, bP_s] at i
    omega
theorem ss_one (h : BN A U row d n) (hf : fe d s n) (hb : b < n) : ss A U row n - su A U row b + bO U row (bW A s (b + 1)) b ≤ bP A U row s n := by
  have i := ss_pre h b (by omega) (fe_pre hf (show b ≤ n by omega))
  have j := ss_post h hf (n - b - 1) (b + 1) (by omega)
  rw [ss, bP_s] at j
  omega
theorem bE_r (h : BN A U row d n) {b : Nat} (hb : b ≤ n) (hf : fe d s b) : (0 ≤ bE A U row s b ∧ bE A U row s b < 144115188075855872) ∧ bE A U row s b / 1099511627776 = bP A U row s b := by
  have i := (bP_r (s := s) h b hb hf).1
  have c := cd_r d hf
  have n8 := h.2.1
  have e : bE A U row s b = bP A U row s b * 1099511627776 + cd s b := rfl
  rw [e]
  omega
theorem bE_d (h : BN A U row d n) {m : Nat} (hm : m ≤ n) (hf : fe d s m) {k : Nat} (hk : k < m) : bE A U row s m / (sw k : Nat) % 32 = s k := by
  have n8 := h.2.1
  have e : bE A U row s m = bP A U row s m * 1099511627776 + cd s m := rfl
  have ek : dgt s m k = s k := dgt_lt (by omega)
  have h0 := dgt_r d hf (j := 0) (by omega)
  have h1 := dgt_r d hf (j := 1) (by omega)
  have h2 := dgt_r d hf (j := 2) (by omega)
  have h3 := dgt_r d hf (j := 3) (by omega)
  have h4 := dgt_r d hf (j := 4) (by omega)
  have h5 := dgt_r d hf (j := 5) (by omega)
  have h6 := dgt_r d hf (j := 6) (by omega)
  have h7 := dgt_r d hf (j := 7) (by omega)
  obtain ⟨v0, v1, v2, v3, v4, v5, v6, v7⟩ := sw_v
  rw [e, ← ek]
  unfold cd
  have k8 : k = 0 ∨ k = 1 ∨ k = 2 ∨ k = 3 ∨ k = 4 ∨ k = 5 ∨ k = 6 ∨ k = 7 := by omega
  rcases k8 with x | x | x | x | x | x | x | x <;> subst x
  · rw [v0, show ((0 : Nat) : Int) = 0 from rfl]; omega
  · rw [v1, show ((1 : Nat) : Int) = 1 from rfl]; omega
  · rw [v2, show ((2 : Nat) : Int) = 2 from rfl]; omega
  · rw [v3, show ((3 : Nat) : Int) = 3 from rfl]; omega
  · rw [v4, show ((4 : Nat) : Int) = 4 from rfl]; omega
  · rw [v5, show ((5 : Nat) : Int) = 5 from rfl]; omega
  · rw [v6, show ((6 : Nat) : Int) = 6 from rfl]; omega
  · rw [v7, show ((7 : Nat) : Int) = 7 from rfl]; omega
end
/-! longs -/
theorem lMin_j {a b : Int} (ha : -9223372036854775808 ≤ a ∧ a < 9223372036854775808) (hb : -9223372036854775808 ≤ b ∧ b < 9223372036854775808) : lMin (jL a) (jL b) = jL (min a b) := by
  unfold lMin
  by_cases c : b < a
  · rw [if_pos ((jL_lt hb.1 hb.2 ha.1 ha.2).mpr c), show min a b = b by omega]
  · rw [if_neg (fun hh => c ((jL_lt hb.1 hb.2 ha.1 ha.2).mp hh)), show min a b = a by omega]
theorem lUsr_i {x : Int} (h0 : 0 ≤ x) (h1 : x < 9223372036854775808) {s : Nat} (hs : s < 64) : lUsr (jL x) (jI s) = jL (x / ((2 ^ s : Nat) : Int)) := by
  obtain ⟨m, rfl⟩ := Int.eq_ofNat_of_zero_le h0
  rw [lUsr_n (by omega) hs]
  rfl
theorem lShl_i {x : Int} (h0 : 0 ≤ x) {s : Nat} (hs : s < 64) : lShl (jL x) (jI s) = jL (x * ((2 ^ s : Nat) : Int)) := by
  obtain ⟨m, rfl⟩ := Int.eq_ofNat_of_zero_le h0
  rw [lShl_n m hs]
  rfl
theorem lAnd31 {x : Int} (h0 : 0 ≤ x) : lAnd (jL x) (jL 31) = jL (x % 32) := by
  obtain ⟨m, rfl⟩ := Int.eq_ofNat_of_zero_le h0
  rw [show (31 : Int) = ((31 : Nat) : Int) from rfl, lAnd_n, show (31 : Nat) = 2 ^ 5 - 1 from rfl, Nat.and_two_pow_sub_one_eq_mod]
  rfl
