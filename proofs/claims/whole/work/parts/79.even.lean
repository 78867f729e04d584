/-! EVEN: what is the greatest difference, what the search finds -/
def fo {σ : Type} (f : Nat → σ → σ) : Nat → σ → σ
  | 0, s => s
  | i + 1, s => f i (fo f i s)
theorem fo_id {σ : Type} {f : Nat → σ → σ} {s : σ} : ∀ {n : Nat}, (∀ i, i < n → f i s = s) → fo f n s = s
  | 0, _ => rfl
  | n + 1, h => by
    simp only [fo]
    rw [fo_id (fun i hi => h i (by omega)), h n (by omega)]
def mx (f : Int → Int) : Nat → Int
  | 0 => 0
  | k + 1 => max (mx f k) (f k)
theorem mx_0 (f : Int → Int) : ∀ n, 0 ≤ mx f n
  | 0 => Int.le_refl _
  | n + 1 => by have := mx_0 f n; simp only [mx]; omega
theorem mx_le {f : Int → Int} {X : Int} (h0 : 0 ≤ X) : ∀ {n : Nat}, (∀ i : Nat, i < n → f i ≤ X) → mx f n ≤ X
  | 0, _ => h0
  | n + 1, h => by
    have := mx_le (n := n) h0 (fun i hi => h i (by omega))
    have := h n (by omega)
    simp only [mx]; omega
theorem le_mx {f : Int → Int} {i : Nat} : ∀ {n : Nat}, i < n → f i ≤ mx f n
  | 0, h => by omega
  | n + 1, h => by
    simp only [mx]
    by_cases c : i = n
    · subst c; omega
    · have := le_mx (f := f) (i := i) (n := n) (by omega); omega
theorem mx_congr {f g : Int → Int} : ∀ {n : Nat}, (∀ i : Nat, i < n → f i = g i) → mx f n = mx g n
  | 0, _ => rfl
  | n + 1, h => by simp only [mx]; rw [mx_congr (fun i hi => h i (by omega)), h n (by omega)]
def ab (x : Int) : Int := if x < 0 then -x else x
theorem ab_nat (x : Int) : ((x.natAbs : Nat) : Int) = ab x := by unfold ab; split <;> omega
/-- n = 2 m rods; the half of the ring from place s on -/
def evT (f : Int → Int) (n m : Nat) (s : Int) : Int := ab (2 * sm (fun i => f ((s + i) % n)) m - sm f n)
def evO (f : Int → Int) (n m : Nat) : Int := mx (evT f n m) n
/-- the half that ends at a place -/
def evD (f : Int → Int) (m : Nat) (tot p : Int) : Int := if p < (m : Int) - 1 then 0 else ab (2 * sm (fun i => f (p - m + 1 + i)) m - tot)
def evP (f : Int → Int) (m : Nat) (tot : Int) (k : Nat) : Int := mx (fun p => if p = 0 then 0 else evD f m tot p) k
theorem evO_congr {f g : Int → Int} {n m : Nat} (h : ∀ i : Nat, i < n → f i = g i) : evO f n m = evO g n m := by
  unfold evO
  by_cases hn : n = 0
  · subst hn; rfl
  apply mx_congr
  intro i hi
  unfold evT
  rw [sm_congr (n := n) h]
  congr 3
  apply sm_congr
  intro k hk
  have h0 : 0 ≤ ((i : Int) + k) % n := Int.emod_nonneg _ (by omega)
  have h1 : ((i : Int) + k) % n < n := Int.emod_lt_of_pos _ (by omega)
  have := h (((i : Int) + k) % n).toNat (by omega)
  rw [Int.toNat_of_nonneg h0] at this
  exact this
theorem evT_r {f : Int → Int} {n m : Nat} (hn : 0 < n) (n8 : n ≤ 8) (hm : m ≤ 4) (hf : ∀ i : Nat, i < n → 0 ≤ f i ∧ f i ≤ 99) (s : Int) : 0 ≤ evT f n m s ∧ evT f n m s ≤ 800 := by
  have a := sm_le (f := f) (c := 99) (n := n) hf
  have b := sm_le (f := fun i => f ((s + i) % n)) (c := 99) (n := m) (fun k hk => by
    have h0 : 0 ≤ (s + (k : Int)) % n := Int.emod_nonneg _ (by omega)
    have h1 : (s + (k : Int)) % n < n := Int.emod_lt_of_pos _ (by omega)
    have := hf ((s + (k : Int)) % n).toNat (by omega)
    rw [Int.toNat_of_nonneg h0] at this
    exact this)
  unfold evT ab
  split <;> omega
theorem evT_rot {f : Int → Int} {n m : Nat} (h : n = 2 * m) (m4 : m ≤ 4) {s : Nat} (hs : s < m) : evT f n m ((s : Int) + m) = evT f n m s := by
  have e : sm (fun i => f (((s : Int) + m + i) % n)) m + sm (fun i => f (((s : Int) + i) % n)) m = sm f n := by
    subst h
    have : (m = 1 ∧ s = 0) ∨ (m = 2 ∧ s = 0) ∨ (m = 2 ∧ s = 1) ∨ (m = 3 ∧ s = 0) ∨ (m = 3 ∧ s = 1) ∨ (m = 3 ∧ s = 2) ∨ (m = 4 ∧ s = 0) ∨ (m = 4 ∧ s = 1) ∨ (m = 4 ∧ s = 2) ∨ (m = 4 ∧ s = 3) := by omega
    rcases this with ⟨rfl, rfl⟩ | ⟨rfl, rfl⟩ | ⟨rfl, rfl⟩ | ⟨rfl, rfl⟩ | ⟨rfl, rfl⟩ | ⟨rfl, rfl⟩ | ⟨rfl, rfl⟩ | ⟨rfl, rfl⟩ | ⟨rfl, rfl⟩ | ⟨rfl, rfl⟩
    all_goals simp [sm]
    all_goals omega
  unfold evT ab
  split <;> split <;> omega
theorem evO_P {f : Int → Int} {n m : Nat} (h : n = 2 * m) (m1 : 1 ≤ m) (m4 : m ≤ 4) : evO f n m = evP f m (sm f n) n := by
  have D : ∀ p : Nat, (m : Int) - 1 ≤ p → p < n → evD f m (sm f n) p = evT f n m ((p : Int) - m + 1) := by
    intro p h0 h1
    unfold evD evT
    rw [if_neg (by omega)]
    congr 3
    apply sm_congr
    intro k hk
    rw [Int.emod_eq_of_lt (by omega) (by omega)]
  have le1 : ∀ p : Nat, 1 ≤ p → p < n → evD f m (sm f n) p ≤ evP f m (sm f n) n := by
    intro p h0 h1
    have := le_mx (f := fun p => if p = 0 then 0 else evD f m (sm f n) p) h1
    simp only [show ¬ (p : Int) = 0 by omega, ↓reduceIte] at this
    exact this
  apply Int.le_antisymm
  · unfold evO
    refine mx_le (mx_0 _ _) (fun s hs => ?_)
    have hi : ∀ t : Nat, 1 ≤ t → t ≤ m → evT f n m t ≤ evP f m (sm f n) n := by
      intro t t0 t1
      have d := D (t + m - 1) (by omega) (by omega)
      rw [show (((t + m - 1 : Nat) : Int) - m + 1) = t by omega] at d
      rw [← d]
      exact le1 _ (by omega) (by omega)
    by_cases c0 : s = 0
    · subst c0
      have r := evT_rot (f := f) h m4 (s := 0) (by omega)
      rw [← r, show (((0 : Nat) : Int) + m) = m by omega]
      exact hi m m1 (Nat.le_refl _)
    · by_cases c1 : s ≤ m
      · exact hi s (by omega) c1
      · have r := evT_rot (f := f) h m4 (s := s - m) (by omega)
        rw [show (((s - m : Nat) : Int) + m) = s by omega] at r
        rw [r]
        exact hi (s - m) (by omega) (by omega)
  · unfold evP
    refine mx_le (mx_0 _ _) (fun p hp => ?_)
    by_cases c0 : (p : Int) = 0
    · rw [if_pos c0]; exact mx_0 _ _
    · rw [if_neg c0]
      by_cases c : (m : Int) - 1 ≤ p
      · rw [D p c hp]
        have := le_mx (f := evT f n m) (i := p + 1 - m) (n := n) (by omega)
        rw [show ((p + 1 - m : Nat) : Int) = (p : Int) - m + 1 by omega] at this
        exact this
      · unfold evD
        rw [if_pos (by omega)]
        exact mx_0 _ _
theorem evP_next {f : Int → Int} {m : Nat} {tot : Int} {k : Nat} (h : 1 ≤ k) : evP f m tot (k + 1) = max (evP f m tot k) (evD f m tot k) := by
  unfold evP
  simp only [mx]
  rw [if_neg (by omega)]
theorem evD_congr {f g : Int → Int} {m : Nat} {tot : Int} {p : Nat} (h : ∀ i : Nat, i ≤ p → f i = g i) : evD f m tot p = evD g m tot p := by
  unfold evD
  split
  · rfl
  · congr 3
    apply sm_congr
    intro k hk
    have := h ((p : Int) - m + 1 + k).toNat (by omega)
    rw [Int.toNat_of_nonneg (by omega)] at this
    exact this
theorem evP_congr {f g : Int → Int} {m : Nat} {tot : Int} {k : Nat} (h : ∀ i : Nat, i < k → f i = g i) : evP f m tot k = evP g m tot k := by
  unfold evP
  apply mx_congr
  intro p hp
  split
  · rfl
  · exact evD_congr (fun i hi => h i (by omega))
/-- the search: th the rods' THICK, o the order so far, k of it put, U used -/
def evR (th : Int → Int) (n m : Nat) : Nat → (Int → Int) → Nat → Nat → Int × (Int → Int) → Int × (Int → Int)
  | 0, o, _, _, s => if evO (fun i => th (o i)) n m < s.1 then (evO (fun i => th (o i)) n m, o) else s
  | d + 1, o, k, U, s => fo (fun i s => if U.testBit i = true then s else evR th n m d (u1 o k i) (k + 1) (U ||| 2 ^ i) s) n s
/-- what is put and what is used -/
def PI (th : Int → Int) (n : Nat) (o : Int → Int) (k U : Nat) : Prop := 1 ≤ k ∧ U.testBit 0 = true ∧ (∀ i : Nat, i < k → 0 ≤ o i ∧ o i < n) ∧ sm (fun i => th (o i)) k = sm (fun i => if U.testBit i.toNat = true then th i else 0) n ∧ sm (fun i => if U.testBit i.toNat = true then 1 else 0) n = k ∧ U < 256
theorem sm_bit {U i : Nat} {g : Int → Int} (h : U.testBit i = false) : ∀ n : Nat, sm (fun j => if (U ||| 2 ^ i).testBit j.toNat = true then g j else 0) n = sm (fun j => if U.testBit j.toNat = true then g j else 0) n + (if i < n then g i else 0)
  | 0 => rfl
  | n + 1 => by
    simp only [sm]
    rw [sm_bit h n, Int.toNat_natCast, Nat.testBit_or, Nat.testBit_two_pow]
    by_cases c : i = n
    · subst c
      simp [h]
    · by_cases d : i < n
      · simp [c, d, show i < n + 1 by omega]; omega
      · simp [c, d, show ¬ i < n + 1 by omega]
theorem sm_full {U : Nat} : ∀ n : Nat, sm (fun j => if U.testBit j.toNat = true then 1 else 0) n = n → ∀ j, j < n → U.testBit j = true
  | 0, _, j, hj => by omega
  | n + 1, h, j, hj => by
    have b := sm_le (f := fun j => if U.testBit j.toNat = true then 1 else 0) (c := 1) (n := n) (fun k _ => by split <;> omega)
    simp only [sm, Int.toNat_natCast] at h
    by_cases c : U.testBit n = true
    · rw [if_pos c] at h
      by_cases d : j = n
      · subst d; exact c
      · exact sm_full n (by omega) j (by omega)
    · rw [if_neg c] at h
      omega
theorem PI.next {th : Int → Int} {n : Nat} (n8 : n ≤ 8) {o : Int → Int} {k U i : Nat} (h : PI th n o k U) (hi : i < n) (hu : U.testBit i = false) : PI th n (u1 o k i) (k + 1) (U ||| 2 ^ i) := by
  obtain ⟨h1, h2, h3, h4, h5, h6⟩ := h
  refine ⟨by omega, by rw [Nat.testBit_or, h2, Bool.true_or], ?_, ?_, ?_, ?_⟩
  · intro j hj
    by_cases c : (j : Int) = k
    · rw [c, u1_eq]; omega
    · rw [u1_ne c]; exact h3 j (by omega)
  · rw [sm_bit (g := th) hu n, if_pos hi, ← h4]
    simp only [sm]
    rw [u1_eq]
    congr 1
    apply sm_congr
    intro j hj
    rw [u1_ne (by omega)]
  · rw [sm_bit (g := fun _ => 1) hu n, if_pos hi, h5]
    omega
  · exact Nat.or_lt_two_pow (n := 8) h6 (Nat.pow_lt_pow_right (by omega) (by omega))
theorem PI.full {th : Int → Int} {n : Nat} {o : Int → Int} {U : Nat} (h : PI th n o n U) : sm (fun i => th (o i)) n = sm th n := by
  obtain ⟨h1, h2, h3, h4, h5, h6⟩ := h
  rw [h4]
  apply sm_congr
  intro j hj
  rw [Int.toNat_natCast, if_pos (sm_full n h5 j hj)]
theorem evR_no {th : Int → Int} {n m : Nat} (h : n = 2 * m) (m1 : 1 ≤ m) (m4 : m ≤ 4) : ∀ (d : Nat) (o : Int → Int) (k U : Nat) (s : Int × (Int → Int)), k + d = n → PI th n o k U → s.1 ≤ evP (fun i => th (o i)) m (sm th n) k → evR th n m d o k U s = s
  | 0, o, k, U, s, hk, hPI, hs => by
    have : k = n := by omega
    subst this
    simp only [evR]
    rw [if_neg]
    rw [evO_P h m1 m4, hPI.full]
    omega
  | d + 1, o, k, U, s, hk, hPI, hs => by
    simp only [evR]
    apply fo_id
    intro i hi
    by_cases c : U.testBit i = true
    · rw [if_pos c]
    · rw [if_neg c]
      have c' : U.testBit i = false := by simpa using c
      refine evR_no h m1 m4 d _ _ _ s (by omega) (hPI.next (by omega) hi c') ?_
      rw [evP_next hPI.1]
      have e := evP_congr (f := fun j => th (u1 o k i j)) (g := fun j => th (o j)) (m := m) (tot := sm th n) (k := k) (fun j hj => by rw [u1_ne (by omega)])
      rw [e]
      omega
section
variable {K1 K2 : (Int → Int) → (Int → Int) → Prop} {q : Nat × Nat × (Nat → Nat)} {G : Nat → Int → Int} {N : Nat}
theorem iDiv2 {n m : Nat} (h : n = 2 * m) (n8 : n ≤ 8) : iDiv (jI n) (jI 2) = jI m := by
  rw [iDiv_j (by omega) (by omega) (by omega) (by omega), show (n : Int) / 2 = m by omega]
/-- one difference -/
theorem oDiff (hN : 10000 ≤ N) {th o : Int → Int} {n m : Nat} (h : n = 2 * m) (m1 : 1 ≤ m) (m4 : m ≤ 4) (g1 : G 78 1 = n) (g2 : G 78 2 = sm th n) (g3 : ∀ i : Int, 0 ≤ i → i < n → G 79 i = th i ∧ 1 ≤ th i ∧ th i ≤ 99) {p : Nat} (hpn : p < n) (g4 : ∀ i : Int, 0 ≤ i → i ≤ p → G 80 i = o i ∧ 0 ≤ o i ∧ o i < n) : f_X2_differenceAt N 78 (jI p) (hp q G) = some (jI (evD (fun i => th (o i)) m (sm th n) p), hp q G) := by
  have d2 := iDiv2 h (by omega)
  have z2 : (jI 2 = jI 0) = False := jeq_f (by omega)
  have st := sm_le (f := th) (c := 99) (n := n) (fun k hk => by have := g3 k (by omega) (by omega); omega)
  unfold f_X2_differenceAt evD
  by_cases c : (p : Int) < (m : Int) - 1
  · rw [if_pos c]
    simp (maxSteps := 2000000) (disch := first | assumption | omega) only [jI0, iAdd_j, iSub_j, iMul_j, iNeg_j, Option.bind_some, jlt_t, jlt_f, jlt, jle_t, jle_f, jle, jeq_t, jeq_f, jeq, ↓reduceIte, o78, g1, d2, z2]
  · rw [if_neg c]
    have sw : ∀ j : Nat, j ≤ m → 0 ≤ sm (fun i => th (o ((p : Int) - m + 1 + i))) j ∧ sm (fun i => th (o ((p : Int) - m + 1 + i))) j ≤ 99 * j := fun j hj => sm_le (fun k hk => by
      have a := g4 ((p : Int) - m + 1 + k) (by omega) (by omega)
      have b := g3 _ a.2.1 a.2.2
      omega)
    have L : L_X2_differenceAt_31 N N 78 (jI p) (jI 0) (jI ((p : Int) - m + 1)) (hp q G) = some (jI (ab (2 * sm (fun i => th (o ((p : Int) - m + 1 + i))) m - sm th n)), hp q G) := by
      refine (loopE (N := N) (fun f (j : Nat) => L_X2_differenceAt_31 N f 78 (jI p) (jI (2 * sm (fun i => th (o ((p : Int) - m + 1 + i))) j)) (jI ((p : Int) - m + 1 + j)) (hp q G)) (fun j => j) m (r := some (jI (ab (2 * sm (fun i => th (o ((p : Int) - m + 1 + i))) m - sm th n)), hp q G)) (by omega) ?_ ?_) |> Eq.trans ?_
      · show L_X2_differenceAt_31 N N 78 (jI p) (jI 0) (jI ((p : Int) - m + 1)) (hp q G) = L_X2_differenceAt_31 N N 78 (jI p) (jI (2 * 0)) (jI ((p : Int) - m + 1 + ((0 : Nat) : Int))) (hp q G)
        rw [show (p : Int) - m + 1 + ((0 : Nat) : Int) = (p : Int) - m + 1 by omega]
        rfl
      · intro f j hj
        show L_X2_differenceAt_31 N (f + 1) 78 (jI p) (jI (2 * sm (fun i => th (o ((p : Int) - m + 1 + i))) j)) (jI ((p : Int) - m + 1 + j)) (hp q G) = L_X2_differenceAt_31 N f 78 (jI p) (jI (2 * (sm (fun i => th (o ((p : Int) - m + 1 + i))) j + th (o ((p : Int) - m + 1 + j))))) (jI ((p : Int) - m + 1 + ((j + 1 : Nat) : Int))) (hp q G)
        have a := g4 ((p : Int) - m + 1 + j) (by omega) (by omega)
        have b := g3 _ a.2.1 a.2.2
        rw [L_X2_differenceAt_31, Int.mul_add, show (p : Int) - m + 1 + ((j + 1 : Nat) : Int) = (p : Int) - m + 1 + j + 1 by omega]
        simp (maxSteps := 2000000) (disch := first | assumption | omega) only [jI0, iAdd_j, iSub_j, iMul_j, iNeg_j, Option.bind_some, jlt_t, jlt_f, jlt, jle_t, jle_f, jle, jeq_t, jeq_f, jeq, ↓reduceIte, o78, l80, a.1, l79, b.1]
      · intro f
        show L_X2_differenceAt_31 N (f + 1) 78 (jI p) (jI (2 * sm (fun i => th (o ((p : Int) - m + 1 + i))) m)) (jI ((p : Int) - m + 1 + m)) (hp q G) = _
        have s := sw m (Nat.le_refl _)
        rw [L_X2_differenceAt_31]
        simp (maxSteps := 2000000) (disch := first | assumption | omega) only [jI0, iAdd_j, iSub_j, iMul_j, iNeg_j, Option.bind_some, jlt_t, jlt_f, jlt, jle_t, jle_f, jle, jeq_t, jeq_f, jeq, ↓reduceIte, o78, g2, iAbs_j, ab_nat]
    have e : (p : Int) - m + 1 = (p : Int) - m + 1 := rfl
    simp (maxSteps := 2000000) (disch := first | assumption | omega) only [jI0, iAdd_j, iSub_j, iMul_j, iNeg_j, Option.bind_some, jlt_t, jlt_f, jlt, jle_t, jle_f, jle, jeq_t, jeq_f, jeq, ↓reduceIte, o78, g1, d2, z2, L]
/-- what stays as it is, what a search may leave -/
def EvG (th : Int → Int) (n : Nat) (o : Int → Int) (k : Nat) (s : Int × (Int → Int)) (G : Nat → Int → Int) : Prop := G 78 0 = s.1 ∧ G 78 1 = n ∧ G 78 2 = sm th n ∧ (∀ i : Int, 0 ≤ i → i < n → G 79 i = th i ∧ 1 ≤ th i ∧ th i ≤ 99) ∧ (∀ i : Int, 0 ≤ i → i < k → G 80 i = o i ∧ 0 ≤ o i ∧ o i < n) ∧ (s.1 = 2147483647 ∨ ∀ i : Int, 0 ≤ i → i < n → G 81 i = s.2 i) ∧ (0 ≤ s.1 ∧ s.1 ≤ 2147483647)
theorem oPutF (hN : 10000 ≤ N) {th : Int → Int} {n m : Nat} (h : n = 2 * m) (m1 : 1 ≤ m) (m4 : m ≤ 4) : ∀ (d fu : Nat) (o : Int → Int) (k U : Nat) (s : Int × (Int → Int)) (G : Nat → Int → Int), k + d = n → d < fu → PI th n o k U → EvG th n o k s G → evP (fun i => th (o i)) m (sm th n) k < s.1 → ∃ G', (∀ a, a ≠ 78 → a ≠ 80 → a ≠ 81 → G' a = G a) ∧ EvG th n o k (evR th n m d o k U s) G' ∧ f_X2_putFrom N fu 78 (jI k) (jI U) (jI (evP (fun i => th (o i)) m (sm th n) k)) (hp q G) = some (hp q G') := by
  intro d
  induction d with
  | zero =>
    intro fu o k U s G hk hf hPI hg hs
    obtain ⟨fu, rfl⟩ : ∃ x, fu = x + 1 := ⟨fu - 1, by omega⟩
    have kn : k = n := by omega
    subst kn
    obtain ⟨g0, g1, g2, g3, g4, g5, g6⟩ := hg
    have eo : evO (fun i => th (o i)) k m = evP (fun i => th (o i)) m (sm th k) k := by rw [evO_P h m1 m4, hPI.full]
    have w := (w78 q G (evP (fun i => th (o i)) m (sm th k) k)).1
    generalize hW : evP (fun i => th (o i)) m (sm th k) k = W at *
    have cp1 := hcp (q := q) (G := up G 78 0 W) (a0 := 80) (a := 81) (n0 := 8) (n1 := 8) (sp := 0) (dp := 0) (n := 8) (by omega) (by omega) (fun _ => rfl) (fun _ => rfl) (by omega) (by omega) (by omega) (by omega) (by omega) (by omega) (by omega)
    have W0 : 0 ≤ W := by rw [← hW]; exact mx_0 _ _
    refine ⟨cp (up G 78 0 W) 80 0 81 0 8, ?_, ?_, ?_⟩
    · intro a a0 a1 a2
      rw [cp_ne a2, up_ne a0]
    · simp only [evR]
      rw [eo, if_pos hs]
      refine ⟨?_, ?_, ?_, ?_, ?_, ?_, ⟨W0, by simp only; omega⟩⟩
      · rw [cp_ne (by decide), up_eq, u1_eq]
      · rw [cp_ne (by decide), up_eq, u1_ne (by decide)]; exact g1
      · rw [cp_ne (by decide), up_eq, u1_ne (by decide)]; exact g2
      · intro i i0 i1; rw [cp_ne (by decide), up_ne (by decide)]; exact g3 i i0 i1
      · intro i i0 i1; rw [cp_ne (by decide), up_ne (by decide)]; exact g4 i i0 i1
      · right
        intro i i0 i1
        rw [cp_eq]
        simp only
        rw [if_pos (by omega), up_ne (by decide), show (0 : Int) + (i - 0) = i by omega]
        exact (g4 i i0 i1).1
    · rw [f_X2_putFrom]
      simp (maxSteps := 2000000) (disch := first | assumption | omega) only [jI0, iAdd_j, iSub_j, iMul_j, iNeg_j, Option.bind_some, jlt_t, jlt_f, jlt, jle_t, jle_f, jle, jeq_t, jeq_f, jeq, ↓reduceIte, o78, g1, w, cp1]
  | succ d ih =>
    intro fu o k U s G hk hf hPI hg hs
    obtain ⟨fu, rfl⟩ : ∃ x, fu = x + 1 := ⟨fu - 1, by omega⟩
    have k1 := hPI.1
    have u0 := hPI.2.1
    have ub := hPI.2.2.2.2.2
    generalize hW : evP (fun i => th (o i)) m (sm th n) k = W at *
    have W0 : 0 ≤ W := by rw [← hW]; exact mx_0 _ _
    have L : ∃ G', ((∀ a, a ≠ 78 → a ≠ 80 → a ≠ 81 → G' a = G a) ∧ EvG th n o k (evR th n m (d + 1) o k U s) G') ∧ L_X2_putFrom_38 N (f_X2_putFrom N fu) N 78 (jI k) (jI U) (jI W) (jI 1) (hp q G) = some (hp q G') := by
      refine loopG (N := N) (fun f (t : Int × (Nat → Int → Int)) => L_X2_putFrom_38 N (f_X2_putFrom N fu) f 78 (jI k) (jI U) (jI W) (jI t.1) (hp q t.2)) (fun j t => t.1 = ((j + 1 : Nat) : Int) ∧ (∀ a, a ≠ 78 → a ≠ 80 → a ≠ 81 → t.2 a = G a) ∧ EvG th n o k (fo (fun i s => if U.testBit i = true then s else evR th n m d (u1 o k i) (k + 1) (U ||| 2 ^ i) s) (j + 1) s) t.2) (n - 1) (by omega) (s := (1, G)) ⟨rfl, fun _ _ _ _ => rfl, by simp only [fo]; rw [if_pos u0]; exact hg⟩ ?_ ?_
      · rintro f j ⟨i, G1⟩ hj ⟨rfl, t1, t2⟩
        simp only at t1 t2
        have ej : fo (fun i s => if U.testBit i = true then s else evR th n m d (u1 o k i) (k + 1) (U ||| 2 ^ i) s) (j + 1 + 1) s = (if U.testBit (j + 1) = true then (fo (fun i s => if U.testBit i = true then s else evR th n m d (u1 o k i) (k + 1) (U ||| 2 ^ i) s) (j + 1) s) else evR th n m d (u1 o k (j + 1 : Nat)) (k + 1) (U ||| 2 ^ (j + 1)) (fo (fun i s => if U.testBit i = true then s else evR th n m d (u1 o k i) (k + 1) (U ||| 2 ^ i) s) (j + 1) s)) := rfl
        generalize fo (fun i s => if U.testBit i = true then s else evR th n m d (u1 o k i) (k + 1) (U ||| 2 ^ i) s) (j + 1) s = z at *
        have us := usrAt (s := U) (k := ((j + 1 : Nat) : Int)) (by omega) (by omega)
        rw [Int.toNat_natCast] at us
        have g1 := t2.2.1
        by_cases c : U.testBit (j + 1) = true
        · rw [bI_t c] at us
          refine ⟨(((j + 1 + 1 : Nat) : Int), G1), ⟨rfl, t1, by rw [ej, if_pos c]; exact t2⟩, ?_⟩
          show L_X2_putFrom_38 N (f_X2_putFrom N fu) (f + 1) 78 (jI k) (jI U) (jI W) (jI ((j + 1 : Nat) : Int)) (hp q G1) = L_X2_putFrom_38 N (f_X2_putFrom N fu) f 78 (jI k) (jI U) (jI W) (jI ((j + 1 + 1 : Nat) : Int)) (hp q G1)
          rw [L_X2_putFrom_38, show ((j + 1 + 1 : Nat) : Int) = ((j + 1 : Nat) : Int) + 1 by omega]
          simp (maxSteps := 2000000) (disch := first | assumption | omega) only [jI0, iAdd_j, iSub_j, iMul_j, iNeg_j, Option.bind_some, jlt_t, jlt_f, jlt, jle_t, jle_f, jle, jeq_t, jeq_f, jeq, ↓reduceIte, o78, g1, us]
        · have c' : U.testBit (j + 1) = false := by simpa using c
          rw [bI_f c] at us
          have nx := hPI.next (by omega) (i := j + 1) (by omega) c'
          have e2 : EvG th n (u1 o k (j + 1 : Nat)) (k + 1) z (up G1 80 k (j + 1 : Nat)) := by
            obtain ⟨x0, x1, x2, x3, x4, x5, x6⟩ := t2
            refine ⟨by rw [up_ne (by decide)]; exact x0, by rw [up_ne (by decide)]; exact x1, by rw [up_ne (by decide)]; exact x2, fun i i0 i1 => by rw [up_ne (by decide)]; exact x3 i i0 i1, fun i i0 i1 => ?_, x5.imp id (fun y5 i i0 i1 => by rw [up_ne (by decide)]; exact y5 i i0 i1), x6⟩
            rw [up_eq]
            by_cases y : i = k
            · rw [y, u1_eq, u1_eq]
              refine ⟨rfl, by omega, by omega⟩
            · rw [u1_ne y, u1_ne y]
              exact x4 i i0 (by omega)
          have pe : evP (fun i => th (u1 o k (j + 1 : Nat) i)) m (sm th n) (k + 1) = max W (evD (fun i => th (u1 o k (j + 1 : Nat) i)) m (sm th n) k) := by
            rw [evP_next k1, evP_congr (f := fun i => th (u1 o k (j + 1 : Nat) i)) (g := fun i => th (o i)) (k := k) (fun i hi => by rw [u1_ne (by omega)]), hW]
          have df := oDiff (q := q) hN h m1 m4 e2.2.1 e2.2.2.1 e2.2.2.2.1 (p := k) (by omega) (fun i i0 i1 => e2.2.2.2.2.1 i i0 (by omega))
          have dr : 0 ≤ evD (fun i => th (u1 o k (j + 1 : Nat) i)) m (sm th n) k ∧ evD (fun i => th (u1 o k (j + 1 : Nat) i)) m (sm th n) k ≤ 2000 := by
            have st := sm_le (f := th) (c := 99) (n := n) (fun k hk => by have := e2.2.2.2.1 k (by omega) (by omega); omega)
            unfold evD ab
            split
            · omega
            · have sw := sm_le (f := fun i => th (u1 o k (j + 1 : Nat) ((k : Int) - m + 1 + i))) (c := 99) (n := m) (fun r hr => by
                have a := e2.2.2.2.2.1 ((k : Int) - m + 1 + r) (by omega) (by omega)
                have b := e2.2.2.2.1 _ a.2.1 a.2.2
                omega)
              dsimp only
              split <;> omega
          have W1 : W < 2147483647 := by have := hg.2.2.2.2.2.2; omega
          have z0 := e2.1
          have zr := e2.2.2.2.2.2.2
          generalize hD : evD (fun i => th (u1 o k (j + 1 : Nat) i)) m (sm th n) k = D at *
          by_cases c2 : max W D < z.1
          · obtain ⟨G2, y1, y2, y3⟩ := ih fu (u1 o k (j + 1 : Nat)) (k + 1) (U ||| 2 ^ (j + 1)) z (up G1 80 k (j + 1 : Nat)) (by omega) (by omega) nx e2 (by rw [pe]; exact c2)
            rw [pe] at y3
            refine ⟨(((j + 1 + 1 : Nat) : Int), G2), ⟨rfl, ?_, ?_⟩, ?_⟩
            · intro a a0 a1 a2
              show G2 a = G a
              rw [y1 a a0 a1 a2, up_ne a1]
              exact t1 a a0 a1 a2
            · rw [ej, if_neg c]
              obtain ⟨x0, x1, x2, x3, x4, x5, x6⟩ := y2
              refine ⟨x0, x1, x2, x3, fun i i0 i1 => ?_, x5, x6⟩
              have := x4 i i0 (by omega)
              rw [u1_ne (show i ≠ k by omega)] at this
              exact this
            · show L_X2_putFrom_38 N (f_X2_putFrom N fu) (f + 1) 78 (jI k) (jI U) (jI W) (jI ((j + 1 : Nat) : Int)) (hp q G1) = L_X2_putFrom_38 N (f_X2_putFrom N fu) f 78 (jI k) (jI U) (jI W) (jI ((j + 1 + 1 : Nat) : Int)) (hp q G2)
              have sh := shl1 (n := j + 1) (by omega)
              have io : iOr (jI (U : Int)) (jI ((2 ^ (j + 1) : Nat) : Int)) = jI ((U ||| 2 ^ (j + 1) : Nat) : Int) := by
                apply ib_ext
                intro i hi
                rw [ib_or, ib_n, ib_n, ib_n, Nat.testBit_or]
                simp [hi]
              rw [Int.natCast_succ k] at y3
              rw [L_X2_putFrom_38, show ((j + 1 + 1 : Nat) : Int) = ((j + 1 : Nat) : Int) + 1 by omega]
              simp (maxSteps := 2000000) (disch := first | assumption | omega) only [jI0, iAdd_j, iSub_j, iMul_j, iNeg_j, Option.bind_some, jlt_t, jlt_f, jlt, jle_t, jle_f, jle, jeq_t, jeq_f, jeq, ↓reduceIte, o78, g1, us, s80, df, iMax_j, z0, sh, io, y3]
          · refine ⟨(((j + 1 + 1 : Nat) : Int), up G1 80 k (j + 1 : Nat)), ⟨rfl, ?_, ?_⟩, ?_⟩
            · intro a a0 a1 a2
              show up G1 80 k (j + 1 : Nat) a = G a
              rw [up_ne a1]
              exact t1 a a0 a1 a2
            · rw [ej, if_neg c, evR_no h m1 m4 d _ _ _ z (by omega) nx (by rw [pe]; omega)]
              obtain ⟨x0, x1, x2, x3, x4, x5, x6⟩ := e2
              refine ⟨x0, x1, x2, x3, fun i i0 i1 => ?_, x5, x6⟩
              have := x4 i i0 (by omega)
              rw [u1_ne (show i ≠ k by omega)] at this
              exact this
            · show L_X2_putFrom_38 N (f_X2_putFrom N fu) (f + 1) 78 (jI k) (jI U) (jI W) (jI ((j + 1 : Nat) : Int)) (hp q G1) = L_X2_putFrom_38 N (f_X2_putFrom N fu) f 78 (jI k) (jI U) (jI W) (jI ((j + 1 + 1 : Nat) : Int)) (hp q (up G1 80 k (j + 1 : Nat)))
              rw [L_X2_putFrom_38, show ((j + 1 + 1 : Nat) : Int) = ((j + 1 : Nat) : Int) + 1 by omega]
              simp (maxSteps := 2000000) (disch := first | assumption | omega) only [jI0, iAdd_j, iSub_j, iMul_j, iNeg_j, Option.bind_some, jlt_t, jlt_f, jlt, jle_t, jle_f, jle, jeq_t, jeq_f, jeq, ↓reduceIte, o78, g1, us, s80, df, iMax_j, z0]
      · rintro f ⟨i, G1⟩ ⟨rfl, t1, t2⟩
        simp only at t1 t2
        have g1 := t2.2.1
        refine ⟨G1, ⟨t1, ?_⟩, ?_⟩
        · simp only [evR]
          rw [show n - 1 + 1 = n by omega] at t2
          exact t2
        · show L_X2_putFrom_38 N (f_X2_putFrom N fu) (f + 1) 78 (jI k) (jI U) (jI W) (jI ((n - 1 + 1 : Nat) : Int)) (hp q G1) = _
          rw [L_X2_putFrom_38, show n - 1 + 1 = n by omega]
          simp (maxSteps := 2000000) (disch := first | assumption | omega) only [jI0, iAdd_j, iSub_j, iMul_j, iNeg_j, Option.bind_some, jlt_t, jlt_f, jlt, jle_t, jle_f, jle, jeq_t, jeq_f, jeq, ↓reduceIte, o78, g1]
    obtain ⟨G', ⟨x1, x2⟩, x3⟩ := L
    refine ⟨G', x1, x2, ?_⟩
    have g1 := hg.2.1
    rw [f_X2_putFrom]
    simp (maxSteps := 2000000) (disch := first | assumption | omega) only [jI0, iAdd_j, iSub_j, iMul_j, iNeg_j, Option.bind_some, jlt_t, jlt_f, jlt, jle_t, jle_f, jle, jeq_t, jeq_f, jeq, ↓reduceIte, o78, g1, x3]
end
