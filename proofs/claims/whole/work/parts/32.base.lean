/-! rows for going through the printed functions over the flat memory -/
theorem jlt_t {a b : Int} (h : -2147483648 ≤ a ∧ a < b ∧ b < 2147483648) : (jI a < jI b) = True := eq_true ((jI_lt (by omega) (by omega) (by omega) (by omega)).mpr h.2.1)
theorem jlt_f {a b : Int} (h : -2147483648 ≤ b ∧ b ≤ a ∧ a < 2147483648) : (jI a < jI b) = False := eq_false (fun q => by have := (jI_lt (by omega) (by omega) (by omega) (by omega)).mp q; omega)
theorem jlt {a b : Int} (h : -2147483648 ≤ a ∧ a < 2147483648 ∧ -2147483648 ≤ b ∧ b < 2147483648) : (jI a < jI b) = (a < b) := propext (jI_lt h.1 h.2.1 h.2.2.1 h.2.2.2)
theorem jle_t {a b : Int} (h : -2147483648 ≤ a ∧ a ≤ b ∧ b < 2147483648) : (jI a ≤ jI b) = True := eq_true ((jI_le (by omega) (by omega) (by omega) (by omega)).mpr h.2.1)
theorem jle_f {a b : Int} (h : -2147483648 ≤ b ∧ b < a ∧ a < 2147483648) : (jI a ≤ jI b) = False := eq_false (fun q => by have := (jI_le (by omega) (by omega) (by omega) (by omega)).mp q; omega)
theorem jle {a b : Int} (h : -2147483648 ≤ a ∧ a < 2147483648 ∧ -2147483648 ≤ b ∧ b < 2147483648) : (jI a ≤ jI b) = (a ≤ b) := propext (jI_le h.1 h.2.1 h.2.2.1 h.2.2.2)
theorem jeq_t {a b : Int} (h : a = b) : (jI a = jI b) = True := eq_true (h ▸ rfl)
theorem jeq_f {a b : Int} (h : a ≠ b ∧ -2147483648 ≤ a ∧ a < 2147483648 ∧ -2147483648 ≤ b ∧ b < 2147483648) : (jI a = jI b) = False := eq_false (fun q => h.1 ((jI_eq h.2.1 h.2.2.1 h.2.2.2.1 h.2.2.2.2).mp q))
theorem jeq {a b : Int} (h : -2147483648 ≤ a ∧ a < 2147483648 ∧ -2147483648 ≤ b ∧ b < 2147483648) : (jI a = jI b) = (a = b) := propext (jI_eq h.1 h.2.1 h.2.2.1 h.2.2.2)
/-- a loop whose turns are known one by one -/
theorem loop {σ ρ : Type} (F : Nat → σ → Option ρ) (st : Nat → σ) (m : Nat) (hs : ∀ n k, k < m → F (n + 1) (st k) = F n (st (k + 1))) : ∀ j k n, j + k = m → F (n + j) (st k) = F n (st m)
  | 0, k, n, h => by
    have : k = m := by omega
    subst this; rfl
  | j + 1, k, n, h => by
    rw [← Nat.add_assoc, hs (n + j) k (by omega)]
    exact loop F st m hs j (k + 1) n (by omega)
theorem loopE {σ ρ : Type} (F : Nat → σ → Option ρ) (st : Nat → σ) (m : Nat) {r : Option ρ} {N : Nat} (hN : m < N) (hs : ∀ n k, k < m → F (n + 1) (st k) = F n (st (k + 1))) (he : ∀ n, F (n + 1) (st m) = r) : F N (st 0) = r := by
  have h := loop F st m hs m 0 (N - m) (by omega)
  rw [show N - m + m = N by omega] at h
  rw [h, show N - m = N - m - 1 + 1 by omega]
  exact he _
/-- sums -/
def sm (f : Int → Int) : Nat → Int
  | 0 => 0
  | n + 1 => sm f n + f n
theorem sm_le {f : Int → Int} {c : Int} : ∀ {n : Nat}, (∀ k : Nat, k < n → 0 ≤ f k ∧ f k ≤ c) → 0 ≤ sm f n ∧ sm f n ≤ c * n
  | 0, _ => by simp [sm]
  | n + 1, h => by
    have h1 := sm_le (n := n) (fun k hk => h k (by omega))
    have h2 := h n (by omega)
    simp only [sm]
    have : c * ((n + 1 : Nat) : Int) = c * n + c := by rw [Int.natCast_succ, Int.mul_add]; omega
    omega
theorem sm_congr {f g : Int → Int} : ∀ {n : Nat}, (∀ k : Nat, k < n → f k = g k) → sm f n = sm g n
  | 0, _ => rfl
  | n + 1, h => by simp only [sm]; rw [sm_congr (fun k hk => h k (by omega)), h n (by omega)]
