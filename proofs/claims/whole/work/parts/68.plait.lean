/-! call: plait; what it is made of -/
def plx (x : Int) : Int := if x < 0 then -1 - x else x
def plP (v : Int → Int) : Nat → Int → Int
  | 0 => id
  | i + 1 => u1 (u1 (plP v i) (plx (v i)) (plP v i (plx (v i) + 1))) (plx (v i) + 1) (plP v i (plx (v i)))
def PM (P : Int → Int) (m : Int) : Prop := (∀ k, 0 ≤ k → k < m → 0 ≤ P k ∧ P k < m) ∧ (∀ k j, 0 ≤ k → k < m → 0 ≤ j → j < m → P k = P j → k = j)
theorem PM.swap {P : Int → Int} {m p : Int} (h : PM P m) (h0 : 0 ≤ p) (h1 : p + 1 < m) : PM (u1 (u1 P p (P (p + 1))) (p + 1) (P p)) m := by
  obtain ⟨a, b⟩ := h
  have e : ∀ k, u1 (u1 P p (P (p + 1))) (p + 1) (P p) k = P (if k = p then p + 1 else if k = p + 1 then p else k) := by
    intro k
    by_cases c : k = p + 1
    · rw [c, u1_eq, if_neg (by omega), if_pos rfl]
    · rw [u1_ne c]
      by_cases d : k = p
      · rw [d, u1_eq, if_pos rfl]
      · rw [u1_ne d, if_neg d, if_neg c]
  refine ⟨fun k k0 k1 => ?_, fun k j k0 k1 j0 j1 x => ?_⟩
  · rw [e k]
    apply a
    · split
      · omega
      · split <;> omega
    · split
      · omega
      · split <;> omega
  · rw [e k, e j] at x
    have := b _ _ (by split; omega; split <;> omega) (by split; omega; split <;> omega) (by split; omega; split <;> omega) (by split; omega; split <;> omega) x
    by_cases c1 : k = p
    · rw [if_pos c1] at this
      by_cases c2 : j = p
      · omega
      · rw [if_neg c2] at this
        by_cases c3 : j = p + 1
        · rw [if_pos c3] at this; omega
        · rw [if_neg c3] at this; omega
    · rw [if_neg c1] at this
      by_cases c2 : k = p + 1
      · rw [if_pos c2] at this
        by_cases c3 : j = p
        · rw [if_pos c3] at this; omega
        · rw [if_neg c3] at this
          by_cases c4 : j = p + 1
          · omega
          · rw [if_neg c4] at this; omega
      · rw [if_neg c2] at this
        by_cases c3 : j = p
        · rw [if_pos c3] at this; omega
        · rw [if_neg c3] at this
          by_cases c4 : j = p + 1
          · rw [if_pos c4] at this; omega
          · rw [if_neg c4] at this; omega
theorem plP_m {v : Int → Int} {m : Int} : ∀ {i : Nat}, (∀ k : Nat, k < i → 0 ≤ plx (v k) ∧ plx (v k) + 1 < m) → PM (plP v i) m
  | 0, _ => ⟨fun k k0 k1 => ⟨k0, k1⟩, fun k j _ _ _ _ x => x⟩
  | i + 1, h => (plP_m (fun k hk => h k (by omega))).swap (h i (by omega)).1 (h i (by omega)).2
theorem plx_r {x m : Int} (h0 : 1 - m ≤ x) (h1 : x ≤ m - 2) : 0 ≤ plx x ∧ plx x + 1 < m := by
  unfold plx
  split <;> omega
/-- the pigeons -/
theorem pig : ∀ (m : Nat) (f : Nat → Nat), (∀ i, i ≤ m → f i < m) → ∃ a b, a < b ∧ b ≤ m ∧ f a = f b
  | 0, f, h => by have := h 0 (by omega); omega
  | m + 1, f, h => by
    by_cases c : ∃ a, a ≤ m ∧ f a = f (m + 1)
    · obtain ⟨a, a1, a2⟩ := c
      exact ⟨a, m + 1, by omega, by omega, a2⟩
    · have n : ∀ a, a ≤ m → f a ≠ f (m + 1) := fun a ha x => c ⟨a, ha, x⟩
      have hl := h (m + 1) (by omega)
      obtain ⟨a, b, a1, a2, a3⟩ := pig m (fun a => if f a = m then f (m + 1) else f a) (by
        intro i hi
        have := h i (by omega)
        have := n i hi
        show (if f i = m then f (m + 1) else f i) < m
        split <;> omega)
      refine ⟨a, b, a1, by omega, ?_⟩
      have na := n a (by omega)
      have nb := n b (by omega)
      (try simp only at a3)
      by_cases c1 : f a = m
      · rw [if_pos c1] at a3
        by_cases c2 : f b = m
        · omega
        · rw [if_neg c2] at a3; omega
      · rw [if_neg c1] at a3
        by_cases c2 : f b = m
        · rw [if_pos c2] at a3; omega
        · rw [if_neg c2] at a3; omega
theorem leastN {p : Nat → Prop} : ∀ n, p n → ∃ m, m ≤ n ∧ p m ∧ ∀ i, i < m → ¬ p i := by
  intro n
  induction n using Nat.strongRecOn with
  | ind n ih =>
    intro h
    by_cases c : ∃ i, i < n ∧ p i
    · obtain ⟨i, i1, i2⟩ := c
      obtain ⟨m, m1, m2⟩ := ih i i1 i2
      exact ⟨m, by omega, m2⟩
    · exact ⟨n, by omega, h, fun i hi x => c ⟨i, hi, x⟩⟩
def itP (P : Int → Int) (k : Int) : Nat → Int
  | 0 => k
  | i + 1 => P (itP P k i)
theorem itP_r {P : Int → Int} {m k : Int} (h : PM P m) (k0 : 0 ≤ k) (k1 : k < m) : ∀ i, 0 ≤ itP P k i ∧ itP P k i < m
  | 0 => ⟨k0, k1⟩
  | i + 1 => by
    have := itP_r h k0 k1 i
    exact h.1 _ this.1 this.2
theorem itP_b {P : Int → Int} {m k : Int} (h : PM P m) (k0 : 0 ≤ k) (k1 : k < m) : ∀ a d, itP P k a = itP P k (a + d) → itP P k d = k
  | 0, d, e => by
    rw [Nat.zero_add] at e
    exact e.symm
  | a + 1, d, e => by
    have r1 := itP_r h k0 k1 a
    have r2 := itP_r h k0 k1 (a + d)
    rw [show a + 1 + d = (a + d) + 1 by omega] at e
    exact itP_b h k0 k1 a d (h.2 _ _ r1.1 r1.2 r2.1 r2.2 e)
/-- how long a ring is -/
def RG (P : Int → Int) (m : Nat) (k : Int) (L : Nat) : Prop := 1 ≤ L ∧ L ≤ m ∧ itP P k L = k ∧ ∀ i, 1 ≤ i → i < L → itP P k i ≠ k
theorem RG_ex {P : Int → Int} {m : Nat} {k : Int} (h : PM P m) (k0 : 0 ≤ k) (k1 : k < m) : ∃ L, RG P m k L := by
  obtain ⟨a, b, a1, a2, a3⟩ := pig m (fun i => (itP P k i).toNat) (fun i _ => by have := itP_r h k0 k1 i; show (itP P k i).toNat < m; omega)
  have ra := itP_r h k0 k1 a
  have rb := itP_r h k0 k1 b
  have a4 : (itP P k a).toNat = (itP P k b).toNat := a3
  have e := itP_b h k0 k1 a (b - a) (by rw [show a + (b - a) = b by omega]; omega)
  obtain ⟨L, l1, ⟨l2, l3⟩, l4⟩ := leastN (p := fun i => 1 ≤ i ∧ itP P k i = k) (b - a) ⟨by omega, e⟩
  exact ⟨L, l2, by omega, l3, fun i i0 i1 x => l4 i i1 ⟨i0, x⟩⟩
/-- the order -/
def orP (L : Nat → Nat) : Nat → Nat
  | 0 => 1
  | k + 1 => orP L k / Nat.gcd (orP L k) (L k) * L k
theorem orP_r {L : Nat → Nat} : ∀ {k : Nat}, (∀ i, i < k → 1 ≤ L i ∧ L i ≤ 9) → orP L k ∣ 2520 ∧ 0 < orP L k
  | 0, _ => ⟨⟨2520, show 2520 = 1 * 2520 from (Nat.one_mul _).symm⟩, Nat.one_pos⟩
  | k + 1, h => by
    have ih := orP_r (L := L) (k := k) (fun i hi => h i (by omega))
    have l := h k (by omega)
    have ld : L k ∣ 2520 := by
      have : L k = 1 ∨ L k = 2 ∨ L k = 3 ∨ L k = 4 ∨ L k = 5 ∨ L k = 6 ∨ L k = 7 ∨ L k = 8 ∨ L k = 9 := by omega
      rcases this with e | e | e | e | e | e | e | e | e <;> rw [e] <;> decide
    have gd := Nat.gcd_dvd_left (orP L k) (L k)
    have e : orP L k / Nat.gcd (orP L k) (L k) * L k = Nat.lcm (orP L k) (L k) := by
      unfold Nat.lcm
      rw [Nat.mul_comm, Nat.mul_comm (orP L k), Nat.mul_div_assoc _ gd]
    show orP L k / Nat.gcd (orP L k) (L k) * L k ∣ 2520 ∧ 0 < orP L k / Nat.gcd (orP L k) (L k) * L k
    rw [e]
    exact ⟨Nat.lcm_dvd ih.1 ld, Nat.lcm_pos ih.2 (by omega)⟩
/-- what is left -/
def plS (v : Int → Int) : Nat → Nat × (Int → Int)
  | 0 => (0, fun _ => 0)
  | i + 1 => if 0 < (plS v i).1 ∧ (plS v i).2 ((plS v i).1 - 1) = -1 - v i then ((plS v i).1 - 1, (plS v i).2) else ((plS v i).1 + 1, u1 (plS v i).2 (plS v i).1 (v i))
theorem plS_r {v : Int → Int} : ∀ {i : Nat}, (∀ k : Nat, k < i → -9 ≤ v k ∧ v k ≤ 9) → (plS v i).1 ≤ i ∧ ∀ j : Int, 0 ≤ j → j < (plS v i).1 → -9 ≤ (plS v i).2 j ∧ (plS v i).2 j ≤ 9
  | 0, _ => ⟨Nat.le_refl _, fun j j0 j1 => by
    have : j < ((0 : Nat) : Int) := j1
    omega⟩
  | i + 1, h => by
    have ih := plS_r (v := v) (i := i) (fun k hk => h k (by omega))
    have hi := h i (by omega)
    simp only [plS]
    split
    · refine ⟨by show (plS v i).1 - 1 ≤ _; omega, fun j j0 j1 => ih.2 j j0 ?_⟩
      have : j < (((plS v i).1 - 1 : Nat) : Int) := j1
      omega
    · refine ⟨by show (plS v i).1 + 1 ≤ _; omega, fun j j0 j1 => ?_⟩
      have j2 : j < (((plS v i).1 + 1 : Nat) : Int) := j1
      show -9 ≤ u1 _ _ _ j ∧ u1 _ _ _ j ≤ 9
      by_cases c : j = (plS v i).1
      · rw [c, u1_eq]; exact hi
      · rw [u1_ne c]; exact ih.2 j j0 (by omega)
