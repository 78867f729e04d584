/-! bits of an int; loops by a growing fact -/
theorem loopP {σ ρ : Type} (F : Nat → σ → Option ρ) (I : Nat → σ → Prop) (m : Nat) (Q : Option ρ → Prop) (hs : ∀ n k s, k < m → I k s → ∃ s', I (k + 1) s' ∧ F (n + 1) s = F n s') (he : ∀ n s, I m s → Q (F (n + 1) s)) : ∀ (d k n : Nat) (s : σ), k + d = m → I k s → d < n → Q (F n s)
  | 0, k, n, s, hk, hi, hn => by
    have e : k = m := by omega
    subst e
    obtain ⟨n', rfl⟩ : ∃ n', n = n' + 1 := ⟨n - 1, by omega⟩
    exact he n' s hi
  | d + 1, k, n, s, hk, hi, hn => by
    obtain ⟨n', rfl⟩ : ∃ n', n = n' + 1 := ⟨n - 1, by omega⟩
    obtain ⟨s', hi', e⟩ := hs n' k s (by omega) hi
    rw [e]
    exact loopP F I m Q hs he d (k + 1) n' s' (by omega) hi' (by omega)
/-- from the beginning on -/
theorem loopQ {σ ρ : Type} (F : Nat → σ → Option ρ) (I : Nat → σ → Prop) (m : Nat) (Q : Option ρ → Prop) {N : Nat} (hN : m < N) {s : σ} (h0 : I 0 s) (hs : ∀ n k s, k < m → I k s → ∃ s', I (k + 1) s' ∧ F (n + 1) s = F n s') (he : ∀ n s, I m s → Q (F (n + 1) s)) : Q (F N s) := loopP F I m Q hs he m 0 N s (by omega) h0 hN
def ib (x : Int32) (k : Nat) : Bool := x.toBitVec.getLsbD k
theorem ib_ge {x : Int32} {k : Nat} (h : 32 ≤ k) : ib x k = false := BitVec.getLsbD_of_ge _ _ h
theorem ib_ext {x y : Int32} (h : ∀ k, k < 32 → ib x k = ib y k) : x = y := Int32.toBitVec_inj.mp (BitVec.eq_of_getLsbD_eq h)
theorem ib_and (x y : Int32) (k : Nat) : ib (iAnd x y) k = (ib x k && ib y k) := by
  unfold ib iAnd
  rw [Int32.toBitVec_and, BitVec.getLsbD_and]
theorem ib_or (x y : Int32) (k : Nat) : ib (iOr x y) k = (ib x k || ib y k) := by
  unfold ib iOr
  rw [Int32.toBitVec_or, BitVec.getLsbD_or]
theorem ib_xor (x y : Int32) (k : Nat) : ib (iXor x y) k = (ib x k ^^ ib y k) := by
  unfold ib iXor
  rw [Int32.toBitVec_xor, BitVec.getLsbD_xor]
theorem ib_n (m k : Nat) : ib (jI m) k = (decide (k < 32) && m.testBit k) := by
  unfold ib jI
  rw [Int32.toBitVec_ofInt, BitVec.ofInt_natCast, BitVec.getLsbD_ofNat]
theorem ib_0 (k : Nat) : ib (jI 0) k = false := by
  have := ib_n 0 k
  simpa using this
theorem ib_1 (k : Nat) : ib (jI 1) k = decide (k = 0) := by
  have := ib_n 1 k
  rw [show ((1 : Nat) : Int) = 1 from rfl] at this
  rw [this]
  by_cases c : k = 0
  · subst c; rfl
  · have : (1 : Nat).testBit k = false := by
      cases h : (1 : Nat).testBit k
      · rfl
      · exact absurd (Nat.testBit_one_eq_true_iff_self_eq_zero.mp h) c
    simp [c, this]
theorem ib_m1 (k : Nat) : ib (jI (-1)) k = decide (k < 32) := by
  by_cases h : k < 32
  · have : ∀ k : Fin 32, ib (jI (-1)) k.val = true := by decide
    rw [decide_eq_true h]
    exact this ⟨k, h⟩
  · rw [ib_ge (by omega), decide_eq_false h]
theorem sh5 (s : Nat) (h : s < 32) : (jI s &&& 31).toBitVec.smod 32 = BitVec.ofNat 32 s ∧ ((jI s).toUInt32 &&& Int32.toUInt32 31).toBitVec % 32 = BitVec.ofNat 32 s := by
  have : ∀ s : Fin 32, (jI (s.val : Nat) &&& 31).toBitVec.smod 32 = BitVec.ofNat 32 s ∧ ((jI (s.val : Nat)).toUInt32 &&& Int32.toUInt32 31).toBitVec % 32 = BitVec.ofNat 32 s := by decide +kernel
  exact this ⟨s, h⟩
theorem ib_shl (x : Int32) {s : Int} (h0 : 0 ≤ s) (h1 : s < 32) (k : Nat) : ib (iShl x (jI s)) k = (decide (k < 32) && !decide (k < s.toNat) && ib x (k - s.toNat)) := by
  obtain ⟨s, rfl⟩ := Int.eq_ofNat_of_zero_le h0
  unfold ib iShl
  show (x.toBitVec <<< ((jI s &&& 31).toBitVec.smod 32)).getLsbD k = _
  rw [(sh5 s (by omega)).1, BitVec.shiftLeft_eq', BitVec.toNat_ofNat, Nat.mod_eq_of_lt (by omega), BitVec.getLsbD_shiftLeft]
  rfl
theorem ib_usr (x : Int32) {s : Int} (h0 : 0 ≤ s) (h1 : s < 32) (k : Nat) : ib (iUsr x (jI s)) k = ib x (s.toNat + k) := by
  obtain ⟨s, rfl⟩ := Int.eq_ofNat_of_zero_le h0
  unfold ib iUsr
  show (x.toBitVec >>> (((jI s).toUInt32 &&& Int32.toUInt32 31).toBitVec % 32)).getLsbD k = _
  rw [(sh5 s (by omega)).2, BitVec.ushiftRight_eq', BitVec.toNat_ofNat, Nat.mod_eq_of_lt (by omega), BitVec.getLsbD_ushiftRight]
  rfl
/-- one bit looked at -/
theorem bit1 (x : Int32) : iAnd x (jI 1) = bI (ib x 0 = true) := by
  apply ib_ext
  intro k hk
  rw [ib_and, ib_1]
  by_cases c : k = 0
  · subst c
    by_cases h : ib x 0 = true
    · rw [bI_t h, ib_1, h]; rfl
    · rw [bI_f h, ib_0]; simp [h]
  · by_cases h : ib x 0 = true
    · rw [bI_t h, ib_1]; simp [c]
    · rw [bI_f h, ib_0]; simp [c]
theorem bitAt (x : Int32) {s : Int} (h0 : 0 ≤ s) (h1 : s < 32) : iAnd (iUsr x (jI s)) (jI 1) = bI (ib x s.toNat = true) := by
  rw [bit1, ib_usr x h0 h1]
  rfl
theorem msk_bit (f : Int → Bool) : ∀ (n k : Nat), (msk f n).testBit k = (decide (k < n) && f k) ∧ msk f n < 2 ^ n
  | 0, k => by simp [msk]
  | n + 1, k => by
    have h := msk_bit f n k
    have hl := h.2
    unfold msk
    by_cases c : f n = true
    · rw [if_pos c]
      constructor
      · rw [Nat.add_comm, show 2 ^ n + msk f n = 2 ^ n * 1 + msk f n by omega, Nat.testBit_two_pow_mul_add _ hl]
        by_cases e : k < n
        · rw [if_pos e, h.1]; simp [e, show k < n + 1 by omega]
        · rw [if_neg e]
          by_cases e2 : k = n
          · subst e2; simp [c]
          · have : (1 : Nat).testBit (k - n) = false := by
              cases h : (1 : Nat).testBit (k - n)
              · rfl
              · have := Nat.testBit_one_eq_true_iff_self_eq_zero.mp h; omega
            simp [this, show ¬ k < n + 1 by omega]
      · rw [Nat.pow_succ]; omega
    · rw [if_neg c, Nat.add_zero]
      constructor
      · rw [h.1]
        by_cases e : k = n
        · subst e; simp [c]
        · have : decide (k < n + 1) = decide (k < n) := by
            apply decide_eq_decide.mpr; omega
          rw [this]
      · rw [Nat.pow_succ]; omega
theorem ib_msk (f : Int → Bool) {n : Nat} (hn : n ≤ 32) (k : Nat) : ib (jI (msk f n)) k = (decide (k < n) && f k) := by
  rw [ib_n, (msk_bit f n k).1]
  by_cases c : k < n
  · simp [c, show k < 32 by omega]
  · simp [c]
theorem msk_next (f : Int → Bool) {n : Nat} (hn : n < 32) : (f n = true → iOr (jI (msk f n)) (iShl (jI 1) (jI n)) = jI (msk f (n + 1))) ∧ (¬ f n = true → jI (msk f n) = jI (msk f (n + 1))) := by
  constructor
  · intro h
    apply ib_ext
    intro k hk
    rw [ib_or, ib_msk f (by omega), ib_msk f (by omega), ib_shl _ (by omega) (by omega), ib_1]
    by_cases c : k = n
    · subst c; simp [h, hk]
    · by_cases d : k < n
      · simp [d, show k < n + 1 by omega]
      · simp [d, hk, show ¬ k < n + 1 by omega, show ¬ k - n = 0 by omega]
  · intro h
    show jI (msk f n) = jI ((msk f n + if f n then 2 ^ n else 0 : Nat) : Int)
    rw [if_neg h]
    rfl
theorem msk_congr {f g : Int → Bool} : ∀ {n : Nat}, (∀ k : Nat, k < n → f k = g k) → msk f n = msk g n
  | 0, _ => rfl
  | n + 1, h => by
    unfold msk
    rw [msk_congr (fun k hk => h k (by omega)), h n (by omega)]
/-! how many bits -/
def bb (x : Int32) (k : Nat) : Nat := if ib x k then 1 else 0
def pcn (x : Int32) : Nat → Nat
  | 0 => 0
  | n + 1 => pcn x n + bb x n
theorem iUsr_n {n : Nat} (hn : n < 2 ^ 32) {s : Nat} (hs : s < 32) : iUsr (jI n) (jI s) = jI ((n / 2 ^ s : Nat) : Int) := by
  apply ib_ext
  intro k hk
  rw [ib_usr _ (by omega) (by omega), ib_n, ib_n, Nat.testBit_div_two_pow]
  by_cases c : s + k < 32
  · simp [c, hk, Nat.add_comm]
  · have : n.testBit (k + s) = false := Nat.testBit_lt_two_pow (Nat.lt_of_lt_of_le hn (Nat.pow_le_pow_right (by omega) (by omega)))
    simp [c, this]
theorem iAnd_n (a b : Nat) : iAnd (jI a) (jI b) = jI ((a &&& b : Nat) : Int) := by
  apply ib_ext
  intro k hk
  rw [ib_and, ib_n, ib_n, ib_n, Nat.testBit_and]
  simp [hk]
theorem iSub_n {a b : Nat} (h : b ≤ a) : iSub (jI a) (jI b) = jI ((a - b : Nat) : Int) := by
  rw [iSub_j, Int.ofNat_sub h]
theorem iAdd_n (a b : Nat) : iAdd (jI a) (jI b) = jI ((a + b : Nat) : Int) := by
  rw [iAdd_j, Int.natCast_add]
/-- digits -/
def dgv (B : Nat) (f : Nat → Nat) : Nat → Nat
  | 0 => 0
  | n + 1 => f 0 + B * dgv B (fun i => f (i + 1)) n
theorem dgv_and {w : Nat} : ∀ (n : Nat) (f g : Nat → Nat), (∀ i, i < n → f i < 2 ^ w) → (∀ i, i < n → g i < 2 ^ w) → dgv (2 ^ w) f n &&& dgv (2 ^ w) g n = dgv (2 ^ w) (fun i => f i &&& g i) n
  | 0, _, _, _, _ => by simp [dgv]
  | n + 1, f, g, hf, hg => by
    unfold dgv
    rw [← dgv_and n (fun i => f (i + 1)) (fun i => g (i + 1)) (fun i h => hf _ (by omega)) (fun i h => hg _ (by omega))]
    apply Nat.eq_of_testBit_eq
    intro j
    have h0 := hf 0 (by omega)
    have h1 := hg 0 (by omega)
    have hb : f 0 &&& g 0 < 2 ^ w := Nat.and_lt_two_pow _ h1
    rw [Nat.testBit_and, Nat.add_comm (f 0), Nat.add_comm (g 0), Nat.add_comm (f 0 &&& g 0), Nat.testBit_two_pow_mul_add _ h0, Nat.testBit_two_pow_mul_add _ h1, Nat.testBit_two_pow_mul_add _ hb]
    by_cases c : j < w
    · simp [c, Nat.testBit_and]
    · simp [c, Nat.testBit_and]
theorem dgv_div {B : Nat} {f : Nat → Nat} {n : Nat} (h : f 0 < B) : dgv B f (n + 1) / B = dgv B (fun i => f (i + 1)) n := by
  show (f 0 + B * dgv B (fun i => f (i + 1)) n) / B = _
  rw [Nat.add_mul_div_left _ _ (by omega), Nat.div_eq_of_lt h, Nat.zero_add]
theorem dgv_last {B : Nat} : ∀ {n : Nat} {f : Nat → Nat}, f n = 0 → dgv B f (n + 1) = dgv B f n
  | 0, f, h => by show f 0 + B * 0 = 0; omega
  | n + 1, f, h => by
    show f 0 + B * dgv B (fun i => f (i + 1)) (n + 1) = f 0 + B * dgv B (fun i => f (i + 1)) n
    rw [dgv_last (n := n) (f := fun i => f (i + 1)) h]
theorem dgv_lt {B : Nat} (hB : 0 < B) : ∀ {n : Nat} {f : Nat → Nat}, (∀ i, f i < B) → dgv B f n < B ^ n
  | 0, _, _ => by simp [dgv]
  | n + 1, f, h => by
    have ih := dgv_lt hB (n := n) (f := fun i => f (i + 1)) (fun i => h _)
    have h0 := h 0
    have := Nat.mul_le_mul_left B (show dgv B (fun i => f (i + 1)) n + 1 ≤ B ^ n from ih)
    rw [Nat.mul_add, Nat.mul_one] at this
    show f 0 + B * dgv B (fun i => f (i + 1)) n < B ^ (n + 1)
    rw [Nat.pow_succ, Nat.mul_comm (B ^ n)]
    omega
theorem dgv_c1 : ∀ (n : Nat) (f : Nat → Nat), (∀ i, f i ≤ 1) → dgv 2 (fun i => if i % 2 = 0 then f (i + 1) else 0) (2 * n) ≤ dgv 2 f (2 * n) ∧ dgv 2 f (2 * n) - dgv 2 (fun i => if i % 2 = 0 then f (i + 1) else 0) (2 * n) = dgv 4 (fun i => f (2 * i) + f (2 * i + 1)) n
  | 0, _, _ => by simp [dgv]
  | n + 1, f, h => by
    have ih := dgv_c1 n (fun i => f (i + 2)) (fun i => h _)
    have e : dgv 2 (fun i => if i % 2 = 0 then f (i + 1) else 0) (2 * (n + 1)) = f 1 + 2 * (0 + 2 * dgv 2 (fun i => if i % 2 = 0 then f (i + 1 + 2) else 0) (2 * n)) := by
      show f 1 + 2 * (0 + 2 * dgv 2 (fun i => if (i + 1 + 1) % 2 = 0 then f (i + 1 + 1 + 1) else 0) (2 * n)) = _
      have : (fun i => if (i + 1 + 1) % 2 = 0 then f (i + 1 + 1 + 1) else 0) = (fun i => if i % 2 = 0 then f (i + 1 + 2) else 0) := by
        funext i
        rw [show (i + 1 + 1) % 2 = i % 2 by omega]
      rw [this]
    have e2 : dgv 2 f (2 * (n + 1)) = f 0 + 2 * (f 1 + 2 * dgv 2 (fun i => f (i + 2)) (2 * n)) := rfl
    have e3 : dgv 4 (fun i => f (2 * i) + f (2 * i + 1)) (n + 1) = f 0 + f 1 + 4 * dgv 4 (fun i => f (2 * i + 2) + f (2 * i + 1 + 2)) n := rfl
    have h0 := h 0
    have h1 := h 1
    rw [e, e2, e3]
    omega
theorem dgv_c2 : ∀ (n : Nat) (c : Nat → Nat), dgv 4 (fun i => if i % 2 = 0 then c i else 0) (2 * n) + dgv 4 (fun i => if i % 2 = 0 then c (i + 1) else 0) (2 * n) = dgv 16 (fun i => c (2 * i) + c (2 * i + 1)) n
  | 0, _ => by simp [dgv]
  | n + 1, c => by
    have ih := dgv_c2 n (fun i => c (i + 2))
    have e : dgv 4 (fun i => if i % 2 = 0 then c (i + 1) else 0) (2 * (n + 1)) = c 1 + 4 * (0 + 4 * dgv 4 (fun i => if i % 2 = 0 then c (i + 1 + 2) else 0) (2 * n)) := by
      show c 1 + 4 * (0 + 4 * dgv 4 (fun i => if (i + 1 + 1) % 2 = 0 then c (i + 1 + 1 + 1) else 0) (2 * n)) = _
      have : (fun i => if (i + 1 + 1) % 2 = 0 then c (i + 1 + 1 + 1) else 0) = (fun i => if i % 2 = 0 then c (i + 1 + 2) else 0) := by
        funext i
        rw [show (i + 1 + 1) % 2 = i % 2 by omega]
      rw [this]
    have e2 : dgv 4 (fun i => if i % 2 = 0 then c i else 0) (2 * (n + 1)) = c 0 + 4 * (0 + 4 * dgv 4 (fun i => if i % 2 = 0 then c (i + 2) else 0) (2 * n)) := by
      show c 0 + 4 * (0 + 4 * dgv 4 (fun i => if (i + 1 + 1) % 2 = 0 then c (i + 1 + 1) else 0) (2 * n)) = _
      have : (fun i => if (i + 1 + 1) % 2 = 0 then c (i + 1 + 1) else 0) = (fun i => if i % 2 = 0 then c (i + 2) else 0) := by
        funext i
        rw [show (i + 1 + 1) % 2 = i % 2 by omega]
      rw [this]
    have e3 : dgv 16 (fun i => c (2 * i) + c (2 * i + 1)) (n + 1) = c 0 + c 1 + 16 * dgv 16 (fun i => c (2 * i + 2) + c (2 * i + 1 + 2)) n := rfl
    rw [e, e2, e3]
    omega
theorem dgv_congr {B : Nat} : ∀ {n : Nat} {f g : Nat → Nat}, (∀ i, i < n → f i = g i) → dgv B f n = dgv B g n
  | 0, _, _, _ => rfl
  | n + 1, f, g, h => by
    unfold dgv
    rw [h 0 (by omega), dgv_congr (n := n) (fun i hi => h (i + 1) (by omega))]
theorem bb_le (x : Int32) (k : Nat) : bb x k ≤ 1 := by unfold bb; split <;> omega
theorem and_1 {a : Nat} (h : a ≤ 1) : a &&& 1 = a := by
  match a, h with
  | 0, _ => rfl
  | 1, _ => rfl
theorem and_3 {a : Nat} (h : a ≤ 3) : a &&& 3 = a := by
  match a, h with
  | 0, _ => rfl
  | 1, _ => rfl
  | 2, _ => rfl
  | 3, _ => rfl
theorem and_f {a : Nat} (h : a ≤ 15) : a &&& 15 = a := by
  rw [show 15 = 2 ^ 4 - 1 from rfl, Nat.and_two_pow_sub_one_eq_mod, Nat.mod_eq_of_lt (by omega)]
theorem dgv_bit : ∀ (n : Nat) (f : Nat → Nat) (j : Nat), (∀ i, i < n → f i ≤ 1) → (dgv 2 f n).testBit j = (decide (j < n) && decide (f j = 1))
  | 0, f, j, _ => by simp [dgv]
  | n + 1, f, j, h => by
    unfold dgv
    have h0 := h 0 (by omega)
    rw [Nat.add_comm, show 2 * dgv 2 (fun i => f (i + 1)) n = 2 ^ 1 * dgv 2 (fun i => f (i + 1)) n from rfl, Nat.testBit_two_pow_mul_add _ (show f 0 < 2 ^ 1 by omega)]
    match j with
    | 0 =>
      rw [if_pos (by omega), Nat.testBit_zero]
      have : f 0 = 0 ∨ f 0 = 1 := by omega
      rcases this with e | e <;> rw [e] <;> simp
    | j + 1 =>
      rw [if_neg (by omega), show j + 1 - 1 = j from rfl, dgv_bit n (fun i => f (i + 1)) j (fun i hi => h _ (by omega))]
      simp
theorem jI_dgv (x : Int32) : x = jI ((dgv 2 (bb x) 32 : Nat) : Int) := by
  apply ib_ext
  intro k hk
  rw [ib_n, dgv_bit 32 _ _ (fun i _ => bb_le x i)]
  unfold bb
  by_cases c : ib x k = true
  · simp [c, hk]
  · simp [c, hk]
theorem pc_2 (x : Int32) : iSub x (iAnd (iUsr x (jI 1)) (jI 1431655765)) = jI ((dgv 4 (fun i => bb x (2 * i) + bb x (2 * i + 1)) 16 : Nat) : Int) := by
  have q1 : (dgv 2 (bb x) 32 / 2 &&& 1431655765) = dgv 2 (fun i => if i % 2 = 0 then bb x (i + 1) else 0) 31 := by
    have m : 1431655765 = dgv (2 ^ 1) (fun i => if i % 2 = 0 then 1 else 0) 31 := by decide
    rw [show dgv 2 (bb x) 32 / 2 = _ from dgv_div (by have := bb_le x 0; omega), m]
    refine (dgv_and (w := 1) 31 _ _ (fun i _ => ?_) (fun i _ => ?_)).trans (dgv_congr (fun i _ => ?_))
    · have := bb_le x (i + 1); omega
    · split <;> omega
    · show bb x (i + 1) &&& (if i % 2 = 0 then 1 else 0) = _
      split
      · exact and_1 (bb_le _ _)
      · exact Nat.and_zero _
  have z1 : dgv 2 (fun i => if i % 2 = 0 then bb x (i + 1) else 0) 32 = dgv 2 (fun i => if i % 2 = 0 then bb x (i + 1) else 0) 31 := dgv_last rfl
  have w1 := dgv_c1 16 (bb x) (bb_le x)
  rw [show 2 * 16 = 32 from rfl, z1] at w1
  have hX : dgv 2 (bb x) 32 < 2 ^ 32 := dgv_lt (by omega) (fun i => by have := bb_le x i; omega)
  have e1 : iAnd (iUsr x (jI 1)) (jI 1431655765) = jI ((dgv 2 (fun i => if i % 2 = 0 then bb x (i + 1) else 0) 31 : Nat) : Int) := by
    have u := iUsr_n hX (s := 1) (by omega)
    rw [← jI_dgv] at u
    have v := iAnd_n (dgv 2 (bb x) 32 / 2 ^ 1) 1431655765
    rw [← u] at v
    rw [show 2 ^ 1 = 2 from rfl, q1] at v
    exact v
  rw [e1, ← w1.2]
  have := iSub_n w1.1
  rw [← jI_dgv] at this
  exact this
theorem pc_c (x : Int32) (i : Nat) : bb x (2 * i) + bb x (2 * i + 1) ≤ 2 := by have := bb_le x (2 * i); have := bb_le x (2 * i + 1); omega
theorem pc_4 (x : Int32) : iAdd (iAnd (jI ((dgv 4 (fun i => bb x (2 * i) + bb x (2 * i + 1)) 16 : Nat) : Int)) (jI 858993459)) (iAnd (iUsr (jI ((dgv 4 (fun i => bb x (2 * i) + bb x (2 * i + 1)) 16 : Nat) : Int)) (jI 2)) (jI 858993459)) = jI ((dgv 16 (fun i => bb x (4 * i) + bb x (4 * i + 1) + bb x (4 * i + 2) + bb x (4 * i + 3)) 8 : Nat) : Int) := by
  have c := pc_c x
  have q2 : (dgv 4 (fun i => bb x (2 * i) + bb x (2 * i + 1)) 16 &&& 858993459) = dgv 4 (fun i => if i % 2 = 0 then bb x (2 * i) + bb x (2 * i + 1) else 0) 16 := by
    have m : 858993459 = dgv (2 ^ 2) (fun i => if i % 2 = 0 then 3 else 0) 16 := by decide
    rw [m]
    refine (dgv_and (w := 2) 16 _ _ (fun i _ => ?_) (fun i _ => ?_)).trans (dgv_congr (fun i _ => ?_))
    · have := c i; omega
    · split <;> omega
    · show (bb x (2 * i) + bb x (2 * i + 1)) &&& (if i % 2 = 0 then 3 else 0) = _
      split
      · exact and_3 (by have := c i; omega)
      · exact Nat.and_zero _
  have q3 : (dgv 4 (fun i => bb x (2 * i) + bb x (2 * i + 1)) 16 / 4 &&& 858993459) = dgv 4 (fun i => if i % 2 = 0 then bb x (2 * (i + 1)) + bb x (2 * (i + 1) + 1) else 0) 15 := by
    have m : 858993459 = dgv (2 ^ 2) (fun i => if i % 2 = 0 then 3 else 0) 15 := by decide
    rw [dgv_div (by have := c 0; omega), m]
    refine (dgv_and (w := 2) 15 _ _ (fun i _ => ?_) (fun i _ => ?_)).trans (dgv_congr (fun i _ => ?_))
    · have := c (i + 1); omega
    · split <;> omega
    · show (bb x (2 * (i + 1)) + bb x (2 * (i + 1) + 1)) &&& (if i % 2 = 0 then 3 else 0) = _
      split
      · exact and_3 (by have := c (i + 1); omega)
      · exact Nat.and_zero _
  have z2 : dgv 4 (fun i => if i % 2 = 0 then bb x (2 * (i + 1)) + bb x (2 * (i + 1) + 1) else 0) 16 = dgv 4 (fun i => if i % 2 = 0 then bb x (2 * (i + 1)) + bb x (2 * (i + 1) + 1) else 0) 15 := dgv_last rfl
  have w2 : dgv 4 (fun i => if i % 2 = 0 then bb x (2 * i) + bb x (2 * i + 1) else 0) 16 + dgv 4 (fun i => if i % 2 = 0 then bb x (2 * (i + 1)) + bb x (2 * (i + 1) + 1) else 0) 15 = dgv 16 (fun i => bb x (4 * i) + bb x (4 * i + 1) + bb x (4 * i + 2) + bb x (4 * i + 3)) 8 := by
    have := dgv_c2 8 (fun i => bb x (2 * i) + bb x (2 * i + 1))
    rw [show 2 * 8 = 16 from rfl] at this
    rw [z2] at this
    rw [this]
    apply dgv_congr
    intro i _
    rw [show 2 * (2 * i) = 4 * i by omega, show 2 * (2 * i + 1) = 4 * i + 2 by omega, show 4 * i + 2 + 1 = 4 * i + 3 from rfl]
    omega
  have l4 : dgv 4 (fun i => bb x (2 * i) + bb x (2 * i + 1)) 16 < 2 ^ 32 := dgv_lt (B := 4) (n := 16) (by omega) (fun i => by have := c i; omega)
  have u := iUsr_n l4 (s := 2) (by omega)
  have v := iAnd_n (dgv 4 (fun i => bb x (2 * i) + bb x (2 * i + 1)) 16 / 2 ^ 2) 858993459
  rw [show 2 ^ 2 = 4 from rfl, q3] at v
  rw [show 2 ^ 2 = 4 from rfl] at u
  have v' := iAnd_n (dgv 4 (fun i => bb x (2 * i) + bb x (2 * i + 1)) 16) 858993459
  rw [q2] at v'
  rw [← w2, ← iAdd_n]
  exact congr (congrArg iAdd v') ((congrArg (fun z => iAnd z (jI 858993459)) u).trans v)
theorem pc_d (x : Int32) (i : Nat) : bb x (4 * i) + bb x (4 * i + 1) + bb x (4 * i + 2) + bb x (4 * i + 3) ≤ 4 := by have := bb_le x (4 * i); have := bb_le x (4 * i + 1); have := bb_le x (4 * i + 2); have := bb_le x (4 * i + 3); omega
/-- sums of neighbours -/
theorem dgv_c3 : ∀ (n : Nat) (f : Nat → Nat), dgv 16 f (n + 1) + dgv 16 (fun i => f (i + 1)) n = dgv 16 (fun i => f i + (if i < n then f (i + 1) else 0)) (n + 1)
  | 0, f => by simp [dgv]
  | n + 1, f => by
    have ih := dgv_c3 n (fun i => f (i + 1))
    have e : dgv 16 (fun i => f i + (if i < n + 1 then f (i + 1) else 0)) (n + 1 + 1) = f 0 + f 1 + 16 * dgv 16 (fun i => f (i + 1) + (if i < n then f (i + 1 + 1) else 0)) (n + 1) := by
      show (f 0 + (if 0 < n + 1 then f 1 else 0)) + 16 * dgv 16 (fun i => f (i + 1) + (if i + 1 < n + 1 then f (i + 1 + 1) else 0)) (n + 1) = _
      rw [if_pos (by omega)]
      congr 3
      funext i
      by_cases c : i < n
      · rw [if_pos (by omega), if_pos c]
      · rw [if_neg (by omega), if_neg c]
    rw [e, ← ih]
    show f 0 + 16 * dgv 16 (fun i => f (i + 1)) (n + 1) + (f 1 + 16 * dgv 16 (fun i => f (i + 1 + 1)) n) = _
    omega
theorem pc_8 (x : Int32) : iAnd (iAdd (jI ((dgv 16 (fun i => bb x (4 * i) + bb x (4 * i + 1) + bb x (4 * i + 2) + bb x (4 * i + 3)) 8 : Nat) : Int)) (iUsr (jI ((dgv 16 (fun i => bb x (4 * i) + bb x (4 * i + 1) + bb x (4 * i + 2) + bb x (4 * i + 3)) 8 : Nat) : Int)) (jI 4))) (jI 252645135) = jI ((dgv 16 (fun i => if i % 2 = 0 then bb x (4 * i) + bb x (4 * i + 1) + bb x (4 * i + 2) + bb x (4 * i + 3) + (if i < 7 then bb x (4 * (i + 1)) + bb x (4 * (i + 1) + 1) + bb x (4 * (i + 1) + 2) + bb x (4 * (i + 1) + 3) else 0) else 0) 8 : Nat) : Int) := by
  have d := pc_d x
  have w3 : dgv 16 (fun i => bb x (4 * i) + bb x (4 * i + 1) + bb x (4 * i + 2) + bb x (4 * i + 3)) 8 + dgv 16 (fun i => bb x (4 * i) + bb x (4 * i + 1) + bb x (4 * i + 2) + bb x (4 * i + 3)) 8 / 16 = dgv 16 (fun i => bb x (4 * i) + bb x (4 * i + 1) + bb x (4 * i + 2) + bb x (4 * i + 3) + (if i < 7 then bb x (4 * (i + 1)) + bb x (4 * (i + 1) + 1) + bb x (4 * (i + 1) + 2) + bb x (4 * (i + 1) + 3) else 0)) 8 := by
    rw [dgv_div (by have := d 0; omega)]
    exact dgv_c3 7 (fun i => bb x (4 * i) + bb x (4 * i + 1) + bb x (4 * i + 2) + bb x (4 * i + 3))
  have q4 : (dgv 16 (fun i => bb x (4 * i) + bb x (4 * i + 1) + bb x (4 * i + 2) + bb x (4 * i + 3) + (if i < 7 then bb x (4 * (i + 1)) + bb x (4 * (i + 1) + 1) + bb x (4 * (i + 1) + 2) + bb x (4 * (i + 1) + 3) else 0)) 8 &&& 252645135) = dgv 16 (fun i => if i % 2 = 0 then bb x (4 * i) + bb x (4 * i + 1) + bb x (4 * i + 2) + bb x (4 * i + 3) + (if i < 7 then bb x (4 * (i + 1)) + bb x (4 * (i + 1) + 1) + bb x (4 * (i + 1) + 2) + bb x (4 * (i + 1) + 3) else 0) else 0) 8 := by
    have m : 252645135 = dgv (2 ^ 4) (fun i => if i % 2 = 0 then 15 else 0) 8 := by decide
    rw [m]
    refine (dgv_and (w := 4) 8 _ _ (fun i _ => ?_) (fun i _ => ?_)).trans (dgv_congr (fun i _ => ?_))
    · have := d i; have := d (i + 1); show _ + _ < 16; split <;> omega
    · split <;> omega
    · show (_ + _) &&& (if i % 2 = 0 then 15 else 0) = (if i % 2 = 0 then _ else 0)
      by_cases e : i % 2 = 0
      · rw [if_pos e, if_pos e]
        exact and_f (by have := d i; have := d (i + 1); split <;> omega)
      · rw [if_neg e, if_neg e]
        exact Nat.and_zero _
  have l16 : dgv 16 (fun i => bb x (4 * i) + bb x (4 * i + 1) + bb x (4 * i + 2) + bb x (4 * i + 3)) 8 < 2 ^ 32 := dgv_lt (B := 16) (n := 8) (by omega) (fun i => by have := d i; omega)
  have u := iUsr_n l16 (s := 4) (by omega)
  rw [show 2 ^ 4 = 16 from rfl] at u
  have a := iAdd_n (dgv 16 (fun i => bb x (4 * i) + bb x (4 * i + 1) + bb x (4 * i + 2) + bb x (4 * i + 3)) 8) (dgv 16 (fun i => bb x (4 * i) + bb x (4 * i + 1) + bb x (4 * i + 2) + bb x (4 * i + 3)) 8 / 16)
  rw [w3] at a
  have v := iAnd_n (dgv 16 (fun i => bb x (4 * i) + bb x (4 * i + 1) + bb x (4 * i + 2) + bb x (4 * i + 3) + (if i < 7 then bb x (4 * (i + 1)) + bb x (4 * (i + 1) + 1) + bb x (4 * (i + 1) + 2) + bb x (4 * (i + 1) + 3) else 0)) 8) 252645135
  rw [q4] at v
  rw [← a, ← u] at v
  exact v
/-- by bytes -/
theorem dgv_b (b : Nat → Nat) : dgv 16 (fun i => if i % 2 = 0 then b (4 * i) + b (4 * i + 1) + b (4 * i + 2) + b (4 * i + 3) + (if i < 7 then b (4 * (i + 1)) + b (4 * (i + 1) + 1) + b (4 * (i + 1) + 2) + b (4 * (i + 1) + 3) else 0) else 0) 8 = dgv 256 (fun i => (b (8 * i) + b (8 * i + 1) + b (8 * i + 2) + b (8 * i + 3)) + (b (8 * i + 4) + b (8 * i + 5) + b (8 * i + 6) + b (8 * i + 7))) 4 := by
  show (b 0 + b 1 + b 2 + b 3 + (b 4 + b 5 + b 6 + b 7)) + 16 * (0 + 16 * ((b 8 + b 9 + b 10 + b 11 + (b 12 + b 13 + b 14 + b 15)) + 16 * (0 + 16 * ((b 16 + b 17 + b 18 + b 19 + (b 20 + b 21 + b 22 + b 23)) + 16 * (0 + 16 * ((b 24 + b 25 + b 26 + b 27 + (b 28 + b 29 + b 30 + b 31)) + 16 * (0 + 16 * 0))))))) = ((b 0 + b 1 + b 2 + b 3) + (b 4 + b 5 + b 6 + b 7)) + 256 * (((b 8 + b 9 + b 10 + b 11) + (b 12 + b 13 + b 14 + b 15)) + 256 * (((b 16 + b 17 + b 18 + b 19) + (b 20 + b 21 + b 22 + b 23)) + 256 * (((b 24 + b 25 + b 26 + b 27) + (b 28 + b 29 + b 30 + b 31)) + 256 * 0)))
  omega
theorem pc_e {t0 t1 t2 t3 : Nat} (s0 : t0 ≤ 8) (s1 : t1 ≤ 8) (s2 : t2 ≤ 8) (s3 : t3 ≤ 8) (f : Nat) (hf : f = t0 + 256 * (t1 + 256 * (t2 + 256 * t3))) : iAnd (iAdd (iAdd (jI f) (iUsr (jI f) (jI 8))) (iUsr (iAdd (jI f) (iUsr (jI f) (jI 8))) (jI 16))) (jI 63) = jI ((t0 + t1 + t2 + t3 : Nat) : Int) := by
  have g1 : iUsr (jI f) (jI 8) = jI ((f / 256 : Nat) : Int) := iUsr_n (n := f) (by omega) (s := 8) (by omega)
  have g2 : iAdd (jI f) (jI ((f / 256 : Nat) : Int)) = jI ((f + f / 256 : Nat) : Int) := iAdd_n _ _
  have g3 : iUsr (jI ((f + f / 256 : Nat) : Int)) (jI 16) = jI (((f + f / 256) / 65536 : Nat) : Int) := iUsr_n (n := f + f / 256) (by omega) (s := 16) (by omega)
  have g4 : iAdd (jI ((f + f / 256 : Nat) : Int)) (jI (((f + f / 256) / 65536 : Nat) : Int)) = jI ((f + f / 256 + (f + f / 256) / 65536 : Nat) : Int) := iAdd_n _ _
  have g5 : iAnd (jI ((f + f / 256 + (f + f / 256) / 65536 : Nat) : Int)) (jI 63) = jI (((f + f / 256 + (f + f / 256) / 65536) &&& 63 : Nat) : Int) := iAnd_n _ 63
  rw [g1, g2, g3, g4, g5, show (63 : Nat) = 2 ^ 6 - 1 from rfl, Nat.and_two_pow_sub_one_eq_mod]
  have h1 : f / 256 = t1 + 256 * (t2 + 256 * t3) := by omega
  have h2 : (f + f / 256) / 65536 = t2 + t3 + 256 * t3 := by rw [h1]; omega
  have : (f + f / 256 + (f + f / 256) / 65536) % 2 ^ 6 = t0 + t1 + t2 + t3 := by rw [h2, h1]; omega
  rw [this]
theorem pc_s (x : Int32) (k : Nat) : (bb x (8 * k) + bb x (8 * k + 1) + bb x (8 * k + 2) + bb x (8 * k + 3)) + (bb x (8 * k + 4) + bb x (8 * k + 5) + bb x (8 * k + 6) + bb x (8 * k + 7)) ≤ 8 := by
  have h0 := bb_le x (8 * k); have h1 := bb_le x (8 * k + 1); have h2 := bb_le x (8 * k + 2); have h3 := bb_le x (8 * k + 3); have h4 := bb_le x (8 * k + 4); have h5 := bb_le x (8 * k + 5); have h6 := bb_le x (8 * k + 6); have h7 := bb_le x (8 * k + 7)
  omega
theorem pcn8 (x : Int32) (k : Nat) : pcn x (8 * (k + 1)) = pcn x (8 * k) + ((bb x (8 * k) + bb x (8 * k + 1) + bb x (8 * k + 2) + bb x (8 * k + 3)) + (bb x (8 * k + 4) + bb x (8 * k + 5) + bb x (8 * k + 6) + bb x (8 * k + 7))) := by
  show pcn x (8 * k) + bb x (8 * k) + bb x (8 * k + 1) + bb x (8 * k + 2) + bb x (8 * k + 3) + bb x (8 * k + 4) + bb x (8 * k + 5) + bb x (8 * k + 6) + bb x (8 * k + 7) = _
  omega
theorem bitCount {N : Nat} {h : mH} (x : Int32) : f_J6_bitCount_0f7a4 N x h = some (jI (pcn x 32), h) := by
  have e := pc_e (pc_s x 0) (pc_s x 1) (pc_s x 2) (pc_s x 3) (dgv 256 (fun i => (bb x (8 * i) + bb x (8 * i + 1) + bb x (8 * i + 2) + bb x (8 * i + 3)) + (bb x (8 * i + 4) + bb x (8 * i + 5) + bb x (8 * i + 6) + bb x (8 * i + 7))) 4) rfl
  have p : pcn x 32 = _ := (pcn8 x 3)
  rw [pcn8 x 2, pcn8 x 1, pcn8 x 0, show pcn x (8 * 0) = 0 from rfl, Nat.zero_add] at p
  unfold f_J6_bitCount_0f7a4
  simp only [pc_2, pc_4, pc_8]
  rw [dgv_b (bb x), e, p]
