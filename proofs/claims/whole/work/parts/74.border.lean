/-! call: border -/
/-- digits -/
def dg (c e w : Nat) : Nat := w / c ^ e % c
theorem dg_s {c e w : Nat} (hc : 0 < c) (h : (w + 1) % c ^ e = 0) : (w + 1) / c ^ e = w / c ^ e + 1 := by
  have p : 0 < c ^ e := Nat.pow_pos hc
  have d := Nat.div_add_mod (w + 1) (c ^ e)
  rw [h, Nat.add_zero] at d
  obtain ⟨x, hx⟩ : ∃ x, (w + 1) / c ^ e = x + 1 := by
    cases hq : (w + 1) / c ^ e with
    | zero => rw [hq] at d; omega
    | succ x => exact ⟨x, rfl⟩
  rw [hx] at d ⊢
  rw [Nat.mul_succ] at d
  have e1 : w = (c ^ e - 1) + c ^ e * x := by omega
  have : w / c ^ e = x := by
    rw [e1, Nat.add_mul_div_left _ _ p, Nat.div_eq_of_lt (by omega), Nat.zero_add]
  omega
theorem dg_eq {c e w : Nat} (hc : 0 < c) (h : (w + 1) % c ^ e = 0) (h2 : dg c e w < c - 1) : dg c e (w + 1) = dg c e w + 1 := by
  unfold dg at *
  rw [dg_s hc h, Nat.add_mod, Nat.mod_eq_of_lt (show 1 < c by omega), Nat.mod_eq_of_lt (by omega)]
theorem dg_hi {c e w : Nat} (hc : 0 < c) (h : (w + 1) % c ^ e = 0) (h2 : dg c e w < c - 1) : ∀ d, dg c (e + 1 + d) (w + 1) = dg c (e + 1 + d) w := by
  intro d
  have e0 : (w + 1) / c ^ (e + 1) = w / c ^ (e + 1) := by
    rw [Nat.pow_succ, ← Nat.div_div_eq_div_mul, ← Nat.div_div_eq_div_mul, dg_s hc h]
    unfold dg at h2
    generalize w / c ^ e = x at *
    have := Nat.div_add_mod x c
    have e1 : x + 1 = (x % c + 1) + c * (x / c) := by omega
    rw [e1, Nat.add_mul_div_left _ _ hc, Nat.div_eq_of_lt (by omega), Nat.zero_add]
  unfold dg
  rw [Nat.pow_add c (e + 1) d, ← Nat.div_div_eq_div_mul, ← Nat.div_div_eq_div_mul, e0]
theorem dg_lo {c e w : Nat} (hc : 0 < c) (h : (w + 1) % c ^ e = 0) {i : Nat} (hi : i < e) : dg c i (w + 1) = 0 := by
  unfold dg
  obtain ⟨d, rfl⟩ : ∃ d, e = i + 1 + d := ⟨e - i - 1, by omega⟩
  obtain ⟨x, hx⟩ := Nat.dvd_of_mod_eq_zero h
  rw [hx, Nat.pow_add, Nat.pow_succ, Nat.mul_assoc, Nat.mul_assoc, Nat.mul_div_cancel_left _ (Nat.pow_pos hc), Nat.mul_mod_right]
theorem dg_next {c e w : Nat} (hc : 0 < c) (h : (w + 1) % c ^ e = 0) (h2 : dg c e w = c - 1) : (w + 1) % c ^ (e + 1) = 0 := by
  apply Nat.mod_eq_zero_of_dvd
  obtain ⟨x, hx⟩ := Nat.dvd_of_mod_eq_zero h
  have s := dg_s hc h
  rw [hx, Nat.mul_div_cancel_left _ (Nat.pow_pos hc)] at s
  unfold dg at h2
  rw [hx, Nat.pow_succ]
  apply Nat.mul_dvd_mul_left
  generalize w / c ^ e = y at *
  subst s
  have := Nat.div_add_mod y c
  exact ⟨y / c + 1, by rw [Nat.mul_succ]; omega⟩
theorem dg_lt {c e w : Nat} (hc : 0 < c) : dg c e w < c := Nat.mod_lt _ hc
/-- the moves of a number -/
def mvW (m c w : Nat) : Int → Int := fun k => 1 + (dg c (((m : Int) - 1 - k).toNat) w : Nat)
theorem mvW_r {m c w : Nat} {k : Int} (hc : 0 < c) : 1 ≤ mvW m c w k ∧ mvW m c w k ≤ c := by
  have := dg_lt (e := ((m : Int) - 1 - k).toNat) (w := w) hc
  unfold mvW
  omega
/-- as one number -/
def bdg (mv : Int → Int) : Nat → Int
  | 0 => 0
  | k + 1 => 10 * bdg mv k + mv k
theorem bdg_r {mv : Int → Int} (h : ∀ k : Nat, k < 4 → 1 ≤ mv k ∧ mv k ≤ 6) {k : Nat} (hk : k ≤ 4) : 0 ≤ bdg mv k ∧ bdg mv k ≤ 6666 := by
  have h0 := h 0 (by omega)
  have h1 := h 1 (by omega)
  have h2 := h 2 (by omega)
  have h3 := h 3 (by omega)
  have : k = 0 ∨ k = 1 ∨ k = 2 ∨ k = 3 ∨ k = 4 := by omega
  rcases this with rfl | rfl | rfl | rfl | rfl <;> simp only [bdg] <;> omega
theorem bdg_c {mv mv2 : Int → Int} : ∀ {k : Nat}, (∀ j : Nat, j < k → mv2 j = mv j) → bdg mv2 k = bdg mv k
  | 0, _ => rfl
  | k + 1, h => by simp only [bdg]; rw [bdg_c (fun j hj => h j (by omega)), h k (by omega)]
theorem sm_rev : ∀ (n : Nat) (f : Int → Int), sm (fun j => f ((n : Int) - 1 - j)) n = sm f n
  | 0, _ => rfl
  | n + 1, f => by
    rw [sm_head (g := f)]
    show sm (fun j => f (((n + 1 : Nat) : Int) - 1 - j)) n + f (((n + 1 : Nat) : Int) - 1 - n) = _
    rw [show ((n + 1 : Nat) : Int) - 1 - (n : Int) = 0 by omega, ← sm_rev n (fun k => f (k + 1)), Int.add_comm]
    congr 1
    apply sm_congr
    intro k hk
    show f _ = f _
    congr 1
    omega
/-- how many close, the least sum, the first of it -/
def brS (m c : Nat) (S : Int) : Nat → Nat × Int × Int
  | 0 => (0, -1, -1)
  | w + 1 => if clB (mvW m c w) m S S.toNat = true then ((brS m c S w).1 + 1, if (brS m c S w).1 = 0 ∨ sm (mvW m c w) m < (brS m c S w).2.1 then (sm (mvW m c w) m, bdg (mvW m c w) m) else (brS m c S w).2) else brS m c S w
theorem brS_r {m c : Nat} {S : Int} (hm : m ≤ 4) (hc : 0 < c ∧ c ≤ 6) : ∀ w, (brS m c S w).1 ≤ w ∧ -1 ≤ (brS m c S w).2.1 ∧ (brS m c S w).2.1 ≤ 24 ∧ -1 ≤ (brS m c S w).2.2 ∧ (brS m c S w).2.2 ≤ 6666 ∧ ((brS m c S w).1 = 0 ↔ (brS m c S w).2.1 = -1)
  | 0 => by show (0 : Nat) ≤ 0 ∧ (-1 : Int) ≤ -1 ∧ (-1 : Int) ≤ 24 ∧ (-1 : Int) ≤ -1 ∧ (-1 : Int) ≤ 6666 ∧ ((0 : Nat) = 0 ↔ (-1 : Int) = -1); omega
  | w + 1 => by
    obtain ⟨a1, a2, a3, a4, a5, a6⟩ := brS_r (S := S) hm hc w
    have s : 0 ≤ sm (mvW m c w) m ∧ sm (mvW m c w) m ≤ 6 * m := sm_le (fun k _ => by have := mvW_r (m := m) (w := w) (k := (k : Int)) hc.1; omega)
    have b := bdg_r (mv := mvW m c w) (fun k _ => by have := mvW_r (m := m) (w := w) (k := (k : Int)) hc.1; omega) hm
    simp only [brS]
    split
    · split
      · refine ⟨?_, ?_, ?_, ?_, ?_, ?_⟩ <;> simp only <;> omega
      · refine ⟨?_, ?_, ?_, ?_, ?_, ?_⟩ <;> simp only <;> omega
    · refine ⟨?_, ?_, ?_, ?_, ?_, ?_⟩ <;> omega
/-- one stake on each: it closes -/
theorem cl_one {mv : Int → Int} {m S : Int} (hm : 1 ≤ m) (hS : 3 ≤ S) (h : ∀ k, 0 ≤ k → k < m → mv k = 1) : ∀ s : Nat, (s : Int) ≤ S → clB mv m S s = true ∧ ∀ t, clU mv m S s t = true ↔ (1 ≤ t ∧ t ≤ s ∧ t < S) ∨ (t = 0 ∧ s = S)
  | 0, _ => ⟨rfl, fun t => ⟨fun x => (by cases x), fun x => by omega⟩⟩
  | s + 1, hs => by
    obtain ⟨a, b⟩ := cl_one hm hS h s (by omega)
    have e : clT mv m S s = if (s : Int) + 1 < S then (s : Int) + 1 else 0 := by
      have v := h ((s : Int) % m) (Int.emod_nonneg _ (by omega)) (Int.emod_lt_of_pos _ (by omega))
      rw [clT_e (by omega) (by omega), v]
      by_cases d : (s : Int) + 1 < S
      · rw [if_pos d, if_pos d]
      · rw [if_neg d, if_neg d]; omega
    have n : clU mv m S s (clT mv m S s) = false := by
      cases hc : clU mv m S s (clT mv m S s) with
      | false => rfl
      | true =>
        have := (b _).mp hc
        rw [e] at this
        by_cases d : (s : Int) + 1 < S
        · rw [if_pos d] at this; omega
        · rw [if_neg d] at this; omega
    refine ⟨?_, fun t => ?_⟩
    · show (clB mv m S s && !clU mv m S s (clT mv m S s)) = true
      rw [a, n]; rfl
    · show (clU mv m S s t || decide (clT mv m S s = t)) = true ↔ _
      rw [Bool.or_eq_true, decide_eq_true_eq, b t, e]
      by_cases d : (s : Int) + 1 < S
      · rw [if_pos d]; omega
      · rw [if_neg d]; omega
theorem brS_1 {m c : Nat} {S : Int} (hm : 1 ≤ m) (hc : 1 ≤ c) (hS : 3 ≤ S) : ∀ d, 1 ≤ (brS m c S (1 + d)).1
  | 0 => by
    have e : ∀ k : Int, 0 ≤ k → k < m → mvW m c 0 k = 1 := fun k _ _ => by
      unfold mvW dg
      rw [Nat.zero_div, Nat.zero_mod]
      rfl
    have := (cl_one (mv := mvW m c 0) (m := m) (S := S) (by omega) hS e S.toNat (by omega)).1
    show 1 ≤ (brS m c S (0 + 1)).1
    simp only [brS]
    rw [if_pos this]
    exact Nat.le_refl 1
  | d + 1 => by
    have := brS_1 hm hc hS d
    show 1 ≤ (brS m c S ((1 + d) + 1)).1
    simp only [brS]
    split
    · show 1 ≤ (brS m c S (1 + d)).1 + 1; omega
    · exact this
