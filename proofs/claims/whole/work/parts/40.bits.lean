/-! bits of an int; loops by a growing fact -/
theorem loopP {σ ρ : Type} (F : Nat → σ → Option ρ) (I : Nat → σ → Prop) (m : Nat) (Q : Option ρ → Prop) (hs : ∀ n k s, k < m → I k s → ∃ s', I (k + 1) s' ∧ F (n + 1) s = F n s') (he : ∀ n s, I m s → Q (F (n + 1) s)) : ∀ (d k n : Nat) (s : σ), k + d = m → I k s → d < n → Q (F n s)
  | 0, k, n, s, hk, hi, hn => by
    have e : k = m := by omega
    subst e
    obtain ⟨n', rfl⟩ : ∃ n', n = n' + 1 := ⟨n - 1, by omega⟩
    exact he n' s hi
  | d + 1, k, n, s, hk, hi, hn => by
    obtain ⟨n', rfl⟩ : ∃ n', n = n' + 1 := ⟨n - 1, by omega⟩
    obtain ⟨s', hi', e⟩ := hs n' k s (by omega) hi
    rw [e]
    exact loopP F I m Q hs he d (k + 1) n' s' (by omega) hi' (by omega)
/-- from the beginning on -/
theorem loopQ {σ ρ : Type} (F : Nat → σ → Option ρ) (I : Nat → σ → Prop) (m : Nat) (Q : Option ρ → Prop) {N : Nat} (hN : m < N) {s : σ} (h0 : I 0 s) (hs : ∀ n k s, k < m → I k s → ∃ s', I (k + 1) s' ∧ F (n + 1) s = F n s') (he : ∀ n s, I m s → Q (F (n + 1) s)) : Q (F N s) := loopP F I m Q hs he m 0 N s (by omega) h0 hN
def ib (x : Int32) (k : Nat) : Bool := x.toBitVec.getLsbD k
theorem ib_ge {x : Int32} {k : Nat} (h : 32 ≤ k) : ib x k = false := BitVec.getLsbD_of_ge _ _ h
theorem ib_ext {x y : Int32} (h : ∀ k, k < 32 → ib x k = ib y k) : x = y := Int32.toBitVec_inj.mp (BitVec.eq_of_getLsbD_eq h)
theorem ib_and (x y : Int32) (k : Nat) : ib (iAnd x y) k = (ib x k && ib y k) := by
  unfold ib iAnd
  rw [Int32.toBitVec_and, BitVec.getLsbD_and]
theorem ib_or (x y : Int32) (k : Nat) : ib (iOr x y) k = (ib x k || ib y k) := by
  unfold ib iOr
  rw [Int32.toBitVec_or, BitVec.getLsbD_or]
theorem ib_xor (x y : Int32) (k : Nat) : ib (iXor x y) k = (ib x k ^^ ib y k) := by
  unfold ib iXor
  rw [Int32.toBitVec_xor, BitVec.getLsbD_xor]
theorem ib_n (m k : Nat) : ib (jI m) k = (decide (k < 32) && m.testBit k) := by
  unfold ib jI
  rw [Int32.toBitVec_ofInt, BitVec.ofInt_natCast, BitVec.getLsbD_ofNat]
theorem ib_0 (k : Nat) : ib (jI 0) k = false := by
  have := ib_n 0 k
  simpa using this
theorem ib_1 (k : Nat) : ib (jI 1) k = decide (k = 0) := by
  have := ib_n 1 k
  rw [show ((1 : Nat) : Int) = 1 from rfl] at this
  rw [this, Nat.testBit_one_eq_true_iff_self_eq_zero.symm.eq ▸ rfl]
  sorry
theorem ib_m1 (k : Nat) : ib (jI (-1)) k = decide (k < 32) := by
  by_cases h : k < 32
  · have : ∀ k : Fin 32, ib (jI (-1)) k.val = true := by decide
    rw [decide_eq_true h]
    exact this ⟨k, h⟩
  · rw [ib_ge (by omega), decide_eq_false h]
theorem sh5 (s : Nat) (h : s < 32) : (jI s &&& 31).toBitVec.smod 32 = BitVec.ofNat 32 s ∧ ((jI s).toUInt32 &&& Int32.toUInt32 31).toBitVec % 32 = BitVec.ofNat 32 s := by
  have : ∀ s : Fin 32, (jI (s.val : Nat) &&& 31).toBitVec.smod 32 = BitVec.ofNat 32 s ∧ ((jI (s.val : Nat)).toUInt32 &&& Int32.toUInt32 31).toBitVec % 32 = BitVec.ofNat 32 s := by decide +kernel
  exact this ⟨s, h⟩
theorem ib_shl (x : Int32) {s : Int} (h0 : 0 ≤ s) (h1 : s < 32) (k : Nat) : ib (iShl x (jI s)) k = (decide (k < 32) && !decide (k < s.toNat) && ib x (k - s.toNat)) := by
  obtain ⟨s, rfl⟩ := Int.eq_ofNat_of_zero_le h0
  unfold ib iShl
  show (x.toBitVec <<< ((jI s &&& 31).toBitVec.smod 32)).getLsbD k = _
  rw [(sh5 s (by omega)).1, BitVec.shiftLeft_eq', BitVec.toNat_ofNat, Nat.mod_eq_of_lt (by omega), BitVec.getLsbD_shiftLeft]
  rfl
theorem ib_usr (x : Int32) {s : Int} (h0 : 0 ≤ s) (h1 : s < 32) (k : Nat) : ib (iUsr x (jI s)) k = ib x (s.toNat + k) := by
  obtain ⟨s, rfl⟩ := Int.eq_ofNat_of_zero_le h0
  unfold ib iUsr
  show (x.toBitVec >>> (((jI s).toUInt32 &&& Int32.toUInt32 31).toBitVec % 32)).getLsbD k = _
  rw [(sh5 s (by omega)).2, BitVec.ushiftRight_eq', BitVec.toNat_ofNat, Nat.mod_eq_of_lt (by omega), BitVec.getLsbD_ushiftRight]
  rfl
/-- one bit looked at -/
theorem bit1 (x : Int32) : iAnd x (jI 1) = bI (ib x 0 = true) := by
  apply ib_ext
  intro k hk
  rw [ib_and, ib_1]
  by_cases c : k = 0
  · subst c
    by_cases h : ib x 0 = true
    · rw [bI_t h, ib_1, h]; rfl
    · rw [bI_f h, ib_0]; simp [h]
  · by_cases h : ib x 0 = true
    · rw [bI_t h, ib_1]; simp [c]
    · rw [bI_f h, ib_0]; simp [c]
theorem bitAt (x : Int32) {s : Int} (h0 : 0 ≤ s) (h1 : s < 32) : iAnd (iUsr x (jI s)) (jI 1) = bI (ib x s.toNat = true) := by
  rw [bit1, ib_usr x h0 h1]
  rfl
theorem msk_bit (f : Int → Bool) : ∀ (n k : Nat), (msk f n).testBit k = (decide (k < n) && f k) ∧ msk f n < 2 ^ n
  | 0, k => by simp [msk]
  | n + 1, k => by
    have h := msk_bit f n k
    have hl := h.2
    unfold msk
    by_cases c : f n = true
    · rw [if_pos c]
      constructor
      · rw [Nat.add_comm, Nat.testBit_two_pow_add_eq' ]
        sorry
      · rw [Nat.pow_succ]; omega
    · rw [if_neg c, Nat.add_zero]
      constructor
      · rw [h.1]
        by_cases e : k = n
        · subst e; simp [c]
        · have : decide (k < n + 1) = decide (k < n) := by
            apply decide_eq_decide.mpr; omega
          rw [this]
      · rw [Nat.pow_succ]; omega
theorem ib_msk (f : Int → Bool) {n : Nat} (hn : n ≤ 32) (k : Nat) : ib (jI (msk f n)) k = (decide (k < n) && f k) := by
  rw [ib_n, (msk_bit f n k).1]
  by_cases c : k < n
  · simp [c, show k < 32 by omega]
  · simp [c]
theorem msk_next (f : Int → Bool) {n : Nat} (hn : n < 32) : (f n = true → iOr (jI (msk f n)) (iShl (jI 1) (jI n)) = jI (msk f (n + 1))) ∧ (¬ f n = true → jI (msk f n) = jI (msk f (n + 1))) := by
  constructor
  · intro h
    apply ib_ext
    intro k hk
    rw [ib_or, ib_msk f (by omega), ib_msk f (by omega), ib_shl _ (by omega) (by omega), ib_1]
    by_cases c : k = n
    · subst c; simp [h, hk]
    · by_cases d : k < n
      · simp [d, show k < n + 1 by omega]
      · simp [d, hk, show ¬ k < n + 1 by omega, show ¬ k - n = 0 by omega]
  · intro h
    show jI (msk f n) = jI ((msk f n + if f n then 2 ^ n else 0 : Nat) : Int)
    rw [if_neg h]
    rfl
theorem msk_congr {f g : Int → Bool} : ∀ {n : Nat}, (∀ k : Nat, k < n → f k = g k) → msk f n = msk g n
  | 0, _ => rfl
  | n + 1, h => by
    unfold msk
    rw [msk_congr (fun k hk => h k (by omega)), h n (by omega)]
/-! how many bits -/
def pcn (x : Int32) : Nat → Nat
  | 0 => 0
  | n + 1 => pcn x n + (if ib x n then 1 else 0)
theorem iUsr_n {n : Nat} (hn : n < 2 ^ 32) {s : Nat} (hs : s < 32) : iUsr (jI n) (jI s) = jI ((n / 2 ^ s : Nat) : Int) := by
  apply ib_ext
  intro k hk
  rw [ib_usr _ (by omega) (by omega), ib_n, ib_n, Nat.testBit_div_two_pow]
  by_cases c : s + k < 32
  · simp [c, hk, Nat.add_comm]
  · have : n.testBit (k + s) = false := Nat.testBit_lt_two_pow (Nat.lt_of_lt_of_le hn (Nat.pow_le_pow_right (by omega) (by omega)))
    simp [c, this]
theorem iAnd_n (a b : Nat) : iAnd (jI a) (jI b) = jI ((a &&& b : Nat) : Int) := by
  apply ib_ext
  intro k hk
  rw [ib_and, ib_n, ib_n, ib_n, Nat.testBit_and]
  simp [hk]
/-- digits -/
def vl (B : Nat) (f : Nat → Nat) : Nat → Nat
  | 0 => 0
  | n + 1 => f 0 + B * vl B (fun i => f (i + 1)) n
theorem vl_and {w : Nat} : ∀ (n : Nat) (f g : Nat → Nat), (∀ i, i < n → f i < 2 ^ w) → (∀ i, i < n → g i < 2 ^ w) → vl (2 ^ w) f n &&& vl (2 ^ w) g n = vl (2 ^ w) (fun i => f i &&& g i) n
  | 0, _, _, _, _ => rfl
  | n + 1, f, g, hf, hg => by
    unfold vl
    rw [← vl_and n (fun i => f (i + 1)) (fun i => g (i + 1)) (fun i h => hf _ (by omega)) (fun i h => hg _ (by omega))]
    apply Nat.eq_of_testBit_eq
    intro j
    have h0 := hf 0 (by omega)
    have h1 := hg 0 (by omega)
    have hb : f 0 &&& g 0 < 2 ^ w := Nat.and_lt_two_pow _ h1
    rw [Nat.testBit_and, Nat.add_comm (f 0), Nat.add_comm (g 0), Nat.add_comm (f 0 &&& g 0), Nat.testBit_two_pow_mul_add _ h0, Nat.testBit_two_pow_mul_add _ h1, Nat.testBit_two_pow_mul_add _ hb]
    by_cases c : j < w
    · simp [c, Nat.testBit_and]
    · simp [c, Nat.testBit_and]
theorem vl_div {B : Nat} {f : Nat → Nat} {n : Nat} (h : f 0 < B) : vl B f (n + 1) / B = vl B (fun i => f (i + 1)) n := by
  unfold vl
  rw [Nat.add_mul_div_left _ _ (by omega), Nat.div_eq_of_lt h, Nat.zero_add]
theorem vl_congr {B : Nat} : ∀ {n : Nat} {f g : Nat → Nat}, (∀ i, i < n → f i = g i) → vl B f n = vl B g n
  | 0, _, _, _ => rfl
  | n + 1, f, g, h => by
    unfold vl
    rw [h 0 (by omega), vl_congr (n := n) (fun i hi => h (i + 1) (by omega))]
def bb (x : Int32) (k : Nat) : Nat := if ib x k then 1 else 0
theorem bb_le (x : Int32) (k : Nat) : bb x k ≤ 1 := by unfold bb; split <;> omega
theorem and_1 {a : Nat} (h : a ≤ 1) : a &&& 1 = a := by
  match a, h with
  | 0, _ => rfl
  | 1, _ => rfl
theorem and_3 {a : Nat} (h : a ≤ 3) : a &&& 3 = a := by
  match a, h with
  | 0, _ => rfl
  | 1, _ => rfl
  | 2, _ => rfl
  | 3, _ => rfl
theorem and_f {a : Nat} (h : a ≤ 15) : a &&& 15 = a := by
  rw [show 15 = 2 ^ 4 - 1 from rfl, Nat.and_two_pow_sub_one_eq_mod, Nat.mod_eq_of_lt (by omega)]
theorem vl_bit : ∀ (n : Nat) (f : Nat → Nat) (j : Nat), (∀ i, i < n → f i ≤ 1) → (vl 2 f n).testBit j = (decide (j < n) && decide (f j = 1))
  | 0, f, j, _ => by simp [vl]
  | n + 1, f, j, h => by
    unfold vl
    have h0 := h 0 (by omega)
    rw [Nat.add_comm, show 2 * vl 2 (fun i => f (i + 1)) n = 2 ^ 1 * vl 2 (fun i => f (i + 1)) n from rfl, Nat.testBit_two_pow_mul_add _ (show f 0 < 2 ^ 1 by omega)]
    match j with
    | 0 =>
      rw [if_pos (by omega), Nat.testBit_zero]
      have : f 0 = 0 ∨ f 0 = 1 := by omega
      rcases this with e | e <;> rw [e] <;> simp
    | j + 1 =>
      rw [if_neg (by omega), show j + 1 - 1 = j from rfl, vl_bit n (fun i => f (i + 1)) j (fun i hi => h _ (by omega))]
      simp
theorem jI_vl (x : Int32) : x = jI ((vl 2 (bb x) 32 : Nat) : Int) := by
  apply ib_ext
  intro k hk
  rw [ib_n, vl_bit 32 _ _ (fun i _ => bb_le x i)]
  unfold bb
  by_cases c : ib x k = true
  · simp [c, hk]
  · simp [c, hk]
theorem bitCount {N : Nat} {h : mH} (x : Int32) : f_J6_bitCount_0f7a4 N x h = some (jI (pcn x 32), h) := by
  have q1 : (vl 2 (bb x) 32 / 2 &&& 1431655765) = vl 2 (fun i => if i % 2 = 0 then bb x (i + 1) else 0) 31 := by
    have m : 1431655765 = vl (2 ^ 1) (fun i => if i % 2 = 0 then 1 else 0) 31 := by decide
    rw [show vl 2 (bb x) 32 / 2 = _ from vl_div (by have := bb_le x 0; omega), m]
    refine (vl_and (w := 1) 31 _ _ (fun i _ => ?_) (fun i _ => ?_)).trans (vl_congr (fun i _ => ?_))
    · have := bb_le x (i + 1); omega
    · split <;> omega
    · show bb x (i + 1) &&& (if i % 2 = 0 then 1 else 0) = _
      split
      · exact and_1 (bb_le _ _)
      · exact Nat.and_zero _
  have b := bb_le x
  have w1 : vl 2 (bb x) 32 - vl 2 (fun i => if i % 2 = 0 then bb x (i + 1) else 0) 31 = vl 4 (fun i => bb x (2 * i) + bb x (2 * i + 1)) 16 ∧ vl 2 (fun i => if i % 2 = 0 then bb x (i + 1) else 0) 31 ≤ vl 2 (bb x) 32 := by
    simp [vl]
    omega
  have c : ∀ i, bb x (2 * i) + bb x (2 * i + 1) ≤ 2 := fun i => by have := b (2 * i); have := b (2 * i + 1); omega
  have q2 : (vl 4 (fun i => bb x (2 * i) + bb x (2 * i + 1)) 16 &&& 858993459) = vl 4 (fun i => if i % 2 = 0 then bb x (2 * i) + bb x (2 * i + 1) else 0) 16 := by
    have m : 858993459 = vl (2 ^ 2) (fun i => if i % 2 = 0 then 3 else 0) 16 := by decide
    rw [m]
    refine (vl_and (w := 2) 16 _ _ (fun i _ => ?_) (fun i _ => ?_)).trans (vl_congr (fun i _ => ?_))
    · have := c i; omega
    · split <;> omega
    · show (bb x (2 * i) + bb x (2 * i + 1)) &&& (if i % 2 = 0 then 3 else 0) = _
      split
      · exact and_3 (by have := c i; omega)
      · exact Nat.and_zero _
  have q3 : (vl 4 (fun i => bb x (2 * i) + bb x (2 * i + 1)) 16 / 4 &&& 858993459) = vl 4 (fun i => if i % 2 = 0 then bb x (2 * (i + 1)) + bb x (2 * (i + 1) + 1) else 0) 15 := by
    have m : 858993459 = vl (2 ^ 2) (fun i => if i % 2 = 0 then 3 else 0) 15 := by decide
    rw [vl_div (by have := c 0; omega), m]
    refine (vl_and (w := 2) 15 _ _ (fun i _ => ?_) (fun i _ => ?_)).trans (vl_congr (fun i _ => ?_))
    · have := c (i + 1); omega
    · split <;> omega
    · show (bb x (2 * (i + 1)) + bb x (2 * (i + 1) + 1)) &&& (if i % 2 = 0 then 3 else 0) = _
      split
      · exact and_3 (by have := c (i + 1); omega)
      · exact Nat.and_zero _
  have w2 : vl 4 (fun i => if i % 2 = 0 then bb x (2 * i) + bb x (2 * i + 1) else 0) 16 + vl 4 (fun i => if i % 2 = 0 then bb x (2 * (i + 1)) + bb x (2 * (i + 1) + 1) else 0) 15 = vl 16 (fun i => bb x (4 * i) + bb x (4 * i + 1) + bb x (4 * i + 2) + bb x (4 * i + 3)) 8 := by
    simp [vl]
    omega
  have d : ∀ i, bb x (4 * i) + bb x (4 * i + 1) + bb x (4 * i + 2) + bb x (4 * i + 3) ≤ 4 := fun i => by have := b (4 * i); have := b (4 * i + 1); have := b (4 * i + 2); have := b (4 * i + 3); omega
  have w3 : vl 16 (fun i => bb x (4 * i) + bb x (4 * i + 1) + bb x (4 * i + 2) + bb x (4 * i + 3)) 8 + vl 16 (fun i => bb x (4 * i) + bb x (4 * i + 1) + bb x (4 * i + 2) + bb x (4 * i + 3)) 8 / 16 = vl 16 (fun i => bb x (4 * i) + bb x (4 * i + 1) + bb x (4 * i + 2) + bb x (4 * i + 3) + (if i < 7 then bb x (4 * (i + 1)) + bb x (4 * (i + 1) + 1) + bb x (4 * (i + 1) + 2) + bb x (4 * (i + 1) + 3) else 0)) 8 := by
    rw [vl_div (by have := d 0; omega)]
    simp [vl]
    omega
  have q4 : (vl 16 (fun i => bb x (4 * i) + bb x (4 * i + 1) + bb x (4 * i + 2) + bb x (4 * i + 3) + (if i < 7 then bb x (4 * (i + 1)) + bb x (4 * (i + 1) + 1) + bb x (4 * (i + 1) + 2) + bb x (4 * (i + 1) + 3) else 0)) 8 &&& 252645135) = vl 16 (fun i => if i % 2 = 0 then bb x (4 * i) + bb x (4 * i + 1) + bb x (4 * i + 2) + bb x (4 * i + 3) + (if i < 7 then bb x (4 * (i + 1)) + bb x (4 * (i + 1) + 1) + bb x (4 * (i + 1) + 2) + bb x (4 * (i + 1) + 3) else 0) else 0) 8 := by
    have m : 252645135 = vl (2 ^ 4) (fun i => if i % 2 = 0 then 15 else 0) 8 := by decide
    rw [m]
    refine (vl_and (w := 4) 8 _ _ (fun i _ => ?_) (fun i _ => ?_)).trans (vl_congr (fun i _ => ?_))
    · have := d i; have := d (i + 1); show _ + _ < 16; split <;> omega
    · split <;> omega
    · show (_ + _) &&& (if i % 2 = 0 then 15 else 0) = _
      split
      · exact and_f (by have := d i; have := d (i + 1); split <;> omega)
      · exact Nat.and_zero _
  have f : vl 16 (fun i => if i % 2 = 0 then bb x (4 * i) + bb x (4 * i + 1) + bb x (4 * i + 2) + bb x (4 * i + 3) + (if i < 7 then bb x (4 * (i + 1)) + bb x (4 * (i + 1) + 1) + bb x (4 * (i + 1) + 2) + bb x (4 * (i + 1) + 3) else 0) else 0) 8 = (bb x 0 + bb x 1 + bb x 2 + bb x 3 + bb x 4 + bb x 5 + bb x 6 + bb x 7) + 256 * ((bb x 8 + bb x 9 + bb x 10 + bb x 11 + bb x 12 + bb x 13 + bb x 14 + bb x 15) + 256 * ((bb x 16 + bb x 17 + bb x 18 + bb x 19 + bb x 20 + bb x 21 + bb x 22 + bb x 23) + 256 * (bb x 24 + bb x 25 + bb x 26 + bb x 27 + bb x 28 + bb x 29 + bb x 30 + bb x 31))) := by
    simp [vl]
    omega
  have p : pcn x 32 = bb x 0 + bb x 1 + bb x 2 + bb x 3 + bb x 4 + bb x 5 + bb x 6 + bb x 7 + (bb x 8 + bb x 9 + bb x 10 + bb x 11 + bb x 12 + bb x 13 + bb x 14 + bb x 15) + (bb x 16 + bb x 17 + bb x 18 + bb x 19 + bb x 20 + bb x 21 + bb x 22 + bb x 23) + (bb x 24 + bb x 25 + bb x 26 + bb x 27 + bb x 28 + bb x 29 + bb x 30 + bb x 31) := by
    simp only [pcn, bb]
    omega
  have l1 : ∀ n, vl 2 (bb x) n < 2 ^ n := by
    suffices ∀ n (g : Nat → Nat), (∀ i, g i ≤ 1) → vl 2 g n < 2 ^ n from fun n => this n _ b
    intro n
    induction n with
    | zero => intro g _; exact Nat.one_pos
    | succ n ih =>
      intro g hg
      have := ih (fun i => g (i + 1)) (fun i => hg _)
      have := hg 0
      unfold vl
      rw [Nat.pow_succ]
      omega
  have l0 := l1 32
  have s1 := b 0
  sorry
