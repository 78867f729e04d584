/-! the WISH: kinds of weavers -/
/-- a place of the first n rows that weaver j weaves -/
def inW (S k j n r s : Int) : Prop := (0 ≤ r ∧ r < n) ∧ (0 ≤ s ∧ s < S) ∧ r % k = j
def KQ (S : Int) (sg : Int → Int → Int) (k j n v : Int) : Prop := (v = -1 ∧ ∀ r s, inW S k j n r s → sg r s = 46) ∨ (0 ≤ v ∧ v ≤ 5 ∧ (∃ r s, inW S k j n r s ∧ sg r s = 48 + v) ∧ ∀ r s, inW S k j n r s → sg r s = 46 ∨ sg r s = 48 + v)
def KX (S : Int) (sg : Int → Int → Int) (k j n : Int) : Prop := ∃ r s r' s', inW S k j n r s ∧ inW S k j n r' s' ∧ sg r s ≠ 46 ∧ sg r' s' ≠ 46 ∧ sg r s ≠ sg r' s'
/-- what the kind of a row says -/
def WR (S : Int) (sg : Int → Int → Int) (r h : Int) : Prop := (h = -1 ∧ ∀ s, 0 ≤ s → s < S → sg r s = 46) ∨ (0 ≤ h ∧ h ≤ 5 ∧ (∃ s, 0 ≤ s ∧ s < S ∧ sg r s = 48 + h) ∧ ∀ s, 0 ≤ s → s < S → sg r s = 46 ∨ sg r s = 48 + h) ∨ (h = -2 ∧ ∃ s t, 0 ≤ s ∧ s < S ∧ 0 ≤ t ∧ t < S ∧ sg r s ≠ 46 ∧ sg r t ≠ 46 ∧ sg r s ≠ sg r t)
theorem KQ.uniq {S : Int} {sg : Int → Int → Int} {k j n v w : Int} (h : KQ S sg k j n v) (h2 : KQ S sg k j n w) : v = w := by
  rcases h with ⟨a, b⟩ | ⟨a1, a2, ⟨r, s, i, e⟩, b⟩
  · rcases h2 with ⟨c, d⟩ | ⟨c1, c2, ⟨r, s, i, e⟩, d⟩
    · omega
    · have := b r s i; omega
  · rcases h2 with ⟨c, d⟩ | ⟨c1, c2, _, d⟩
    · have := d r s i; omega
    · have := d r s i; omega
theorem KQ.no {S : Int} {sg : Int → Int → Int} {k j n v : Int} (h : KQ S sg k j n v) : ¬ KX S sg k j n := by
  rintro ⟨r, s, r', s', i1, i2, n1, n2, n3⟩
  rcases h with ⟨a, b⟩ | ⟨a1, a2, _, b⟩
  · exact n1 (b r s i1)
  · have x := b r s i1
    have y := b r' s' i2
    omega
theorem KX.mono {S : Int} {sg : Int → Int → Int} {k j n m : Int} (h : KX S sg k j n) (hm : n ≤ m) : KX S sg k j m := by
  obtain ⟨r, s, r', s', i1, i2, n⟩ := h
  unfold inW at *
  exact ⟨r, s, r', s', ⟨⟨i1.1.1, by omega⟩, i1.2⟩, ⟨⟨i2.1.1, by omega⟩, i2.2⟩, n⟩
theorem same_row {k r r' : Int} (hk : 0 < k) (h : r' % k = r % k) (h0 : r ≤ r') (h1 : r' < r + k) : r' = r := by
  have := (Int.emod_eq_emod_iff_emod_sub_eq_zero).mp h
  rw [Int.emod_eq_of_lt (by omega) (by omega)] at this
  omega
/-- one row more -/
theorem KQ.step {S : Int} {sg : Int → Int → Int} {k j r v h m : Int} (hk : 0 < k) (r0 : 0 ≤ r) (hj : r % k = j) (m0 : r < m) (m1 : m ≤ r + k) (q : KQ S sg k j r v) (w : WR S sg r h) : (v = -1 → ((h = -2 ∧ KX S sg k j m) ∨ (h ≠ -2 ∧ KQ S sg k j m h))) ∧ (v ≠ -1 → h = -1 → KQ S sg k j m v) ∧ (v ≠ -1 → h = v → KQ S sg k j m v) ∧ (v ≠ -1 → h ≠ -1 → h ≠ v → KX S sg k j m) := by
  have sp : ∀ r' s, inW S k j m r' s → inW S k j r r' s ∨ (r' = r ∧ 0 ≤ s ∧ s < S) := by
    intro r' s i
    by_cases c : r' < r
    · exact .inl ⟨⟨i.1.1, c⟩, i.2⟩
    · exact .inr ⟨same_row hk (by rw [hj]; exact i.2.2) (by omega) (by have := i.1.2; omega), i.2.1⟩
  have here : ∀ s, 0 ≤ s → s < S → inW S k j m r s := fun s s0 s1 => ⟨⟨r0, m0⟩, ⟨s0, s1⟩, hj⟩
  have old : ∀ r' s, inW S k j r r' s → inW S k j m r' s := fun r' s i => ⟨⟨i.1.1, by have := i.1.2; omega⟩, i.2⟩
  refine ⟨fun hv => ?_, fun hv hh => ?_, fun hv hh => ?_, fun hv h1 h2 => ?_⟩
  · have q1 : ∀ r' s, inW S k j r r' s → sg r' s = 46 := by
      rcases q with ⟨_, b⟩ | ⟨a1, _⟩
      · exact b
      · omega
    rcases w with ⟨a, b⟩ | ⟨a1, a2, ⟨s, s0, s1, e⟩, b⟩ | ⟨a, s, t, s0, s1, t0, t1, n1, n2, n3⟩
    · refine .inr ⟨by omega, .inl ⟨a, fun r' s i => ?_⟩⟩
      rcases sp r' s i with i | ⟨rfl, s0, s1⟩
      · exact q1 r' s i
      · exact b s s0 s1
    · refine .inr ⟨by omega, .inr ⟨a1, a2, ⟨r, s, here s s0 s1, e⟩, fun r' s i => ?_⟩⟩
      rcases sp r' s i with i | ⟨rfl, s0, s1⟩
      · exact .inl (q1 r' s i)
      · exact b s s0 s1
    · exact .inl ⟨a, r, s, r, t, here s s0 s1, here t t0 t1, n1, n2, n3⟩
  · rcases q with ⟨a, _⟩ | ⟨a1, a2, ⟨r', s, i, e⟩, b⟩
    · exact absurd a hv
    · refine .inr ⟨a1, a2, ⟨r', s, old r' s i, e⟩, fun r' s i => ?_⟩
      rcases sp r' s i with i | ⟨rfl, s0, s1⟩
      · exact b r' s i
      · rcases w with ⟨_, c⟩ | ⟨c1, _⟩ | ⟨c, _⟩
        · exact .inl (c s s0 s1)
        · omega
        · omega
  · rcases q with ⟨a, _⟩ | ⟨a1, a2, ⟨r', s, i, e⟩, b⟩
    · exact absurd a hv
    · refine .inr ⟨a1, a2, ⟨r', s, old r' s i, e⟩, fun r' s i => ?_⟩
      rcases sp r' s i with i | ⟨rfl, s0, s1⟩
      · exact b r' s i
      · rcases w with ⟨c, _⟩ | ⟨c1, c2, _, c3⟩ | ⟨c, _⟩
        · omega
        · rw [← hh]; exact c3 s s0 s1
        · omega
  · rcases q with ⟨a, _⟩ | ⟨a1, a2, ⟨r', s, i, e⟩, b⟩
    · exact absurd a hv
    · rcases w with ⟨c, _⟩ | ⟨c1, c2, ⟨t, t0, t1, e2⟩, _⟩ | ⟨c, s', t, s0, s1, t0, t1, n1, n2, n3⟩
      · exact absurd c h1
      · exact ⟨r', s, r, t, old r' s i, here t t0 t1, by omega, by omega, by omega⟩
      · exact ⟨r, s', r, t, here s' s0 s1, here t t0 t1, n1, n2, n3⟩
section
variable {K1 K2 : (Int → Int) → (Int → Int) → Prop} {q : Nat × Nat × (Nat → Nat)} {G : Nat → Int → Int} {N : Nat}
theorem oKow (hN : 10000 ≤ N) {S R k j : Int} {sg : Int → Int → Int} (hR : 1 ≤ R ∧ R ≤ 8) (hk : 1 ≤ k ∧ k ≤ 4) (hj : 0 ≤ j ∧ j < k) (g0 : G 17 0 = R) (hr : ∀ r : Int, 0 ≤ r → r < R → WR S sg r (G 20 r)) : ∃ v : Int, (KQ S sg k j R v ∨ (v = -2 ∧ KX S sg k j R)) ∧ f_X9_kindOfWeaver N 17 (jI k) (jI j) (hp q G) = some (jI v, hp q G) := by
  have mk : iMax (jI 1) (jI k) = jI k := by rw [iMax_j (by omega) (by omega) (by omega) (by omega), Int.max_eq_right (by omega)]
  have LL : ∀ (d f : Nat) (r v : Int), 0 ≤ r → r ≤ 20 → r % k = j → R ≤ r + d → d < f → (KQ S sg k j (min r R) v ∨ (v = -2 ∧ KX S sg k j (min r R))) → ∃ v' : Int, (KQ S sg k j R v' ∨ (v' = -2 ∧ KX S sg k j R)) ∧ L_X9_kindOfWeaver_5 N f 17 (jI k) (jI v) (jI r) (hp q G) = some (jI v', hp q G) := by
    intro d
    induction d with
    | zero =>
      intro f r v r0 r20 _ hd hf hv
      obtain ⟨f, rfl⟩ : ∃ y, f = y + 1 := ⟨f - 1, by omega⟩
      rw [Int.min_eq_right (by omega)] at hv
      refine ⟨v, hv, ?_⟩
      rw [L_X9_kindOfWeaver_5]
      simp (maxSteps := 2000000) (disch := first | assumption | omega) only [jI0, iAdd_j, iSub_j, iMul_j, iNeg_j, Option.bind_some, jlt_t, jlt_f, jlt, jle_t, jle_f, jle, jeq_t, jeq_f, jeq, ↓reduceIte, o17, g0]
    | succ d ih =>
      intro f r v r0 r20 hm hd hf hv
      obtain ⟨f, rfl⟩ : ∃ y, f = y + 1 := ⟨f - 1, by omega⟩
      by_cases c : R ≤ r
      · rw [Int.min_eq_right c] at hv
        refine ⟨v, hv, ?_⟩
        rw [L_X9_kindOfWeaver_5]
        simp (maxSteps := 2000000) (disch := first | assumption | omega) only [jI0, iAdd_j, iSub_j, iMul_j, iNeg_j, Option.bind_some, jlt_t, jlt_f, jlt, jle_t, jle_f, jle, jeq_t, jeq_f, jeq, ↓reduceIte, o17, g0]
      · rw [Int.min_eq_left (by omega)] at hv
        have w := hr r r0 (by omega)
        have hl : -2 ≤ G 20 r ∧ G 20 r ≤ 5 := by
          rcases w with ⟨a, _⟩ | ⟨a, b, _⟩ | ⟨a, _⟩ <;> omega
        have hvr : -2 ≤ v ∧ v ≤ 5 := by
          rcases hv with (⟨a, _⟩ | ⟨a, b, _⟩) | ⟨a, _⟩ <;> omega
        have nm : (r + k) % k = j := by rw [Int.add_emod_right]; exact hm
        generalize hh : G 20 r = h at *
        have nx := fun v' hv' => ih f (r + k) v' (by omega) (by omega) nm (by omega) (by omega) hv'
        have mlt : r < min (r + k) R := by omega
        have mle : min (r + k) R ≤ r + k := Int.min_le_left _ _
        rw [L_X9_kindOfWeaver_5]
        by_cases c1 : v = -1
        · subst c1
          have qv : KQ S sg k j r (-1) := by
            rcases hv with a | ⟨a, _⟩
            · exact a
            · omega
          obtain ⟨v', v1, v2⟩ := nx h (by
            rcases (qv.step (by omega) r0 hm mlt mle w).1 rfl with ⟨a, b⟩ | ⟨a, b⟩
            · exact .inr ⟨a, b⟩
            · exact .inl b)
          refine ⟨v', v1, ?_⟩
          simp (maxSteps := 2000000) (disch := first | assumption | omega) only [jI0, iAdd_j, iSub_j, iMul_j, iNeg_j, Option.bind_some, jlt_t, jlt_f, jlt, jle_t, jle_f, jle, jeq_t, jeq_f, jeq, ↓reduceIte, o17, g0, l20, hh, mk, v2]
        · by_cases c2 : h = -1
          · obtain ⟨v', v1, v2⟩ := nx v (by
              rcases hv with a | ⟨a, b⟩
              · exact .inl ((a.step (by omega) r0 hm mlt mle w).2.1 c1 c2)
              · exact .inr ⟨a, b.mono (by omega)⟩)
            refine ⟨v', v1, ?_⟩
            simp (maxSteps := 2000000) (disch := first | assumption | omega) only [jI0, iAdd_j, iSub_j, iMul_j, iNeg_j, Option.bind_some, jlt_t, jlt_f, jlt, jle_t, jle_f, jle, jeq_t, jeq_f, jeq, ↓reduceIte, o17, g0, l20, hh, c2, mk, v2]
          · by_cases c3 : h = v
            · obtain ⟨v', v1, v2⟩ := nx v (by
                rcases hv with a | ⟨a, b⟩
                · exact .inl ((a.step (by omega) r0 hm mlt mle w).2.2.1 c1 c3)
                · exact .inr ⟨a, b.mono (by omega)⟩)
              refine ⟨v', v1, ?_⟩
              simp (maxSteps := 2000000) (disch := first | assumption | omega) only [jI0, iAdd_j, iSub_j, iMul_j, iNeg_j, Option.bind_some, jlt_t, jlt_f, jlt, jle_t, jle_f, jle, jeq_t, jeq_f, jeq, ↓reduceIte, o17, g0, l20, hh, mk, v2]
            · refine ⟨-2, .inr ⟨rfl, ?_⟩, ?_⟩
              · rcases hv with a | ⟨a, b⟩
                · exact ((a.step (by omega) r0 hm mlt mle w).2.2.2 c1 c2 c3).mono (Int.min_le_right _ _)
                · exact b.mono (by omega)
              · simp (maxSteps := 2000000) (disch := first | assumption | omega) only [jI0, iAdd_j, iSub_j, iMul_j, iNeg_j, Option.bind_some, jlt_t, jlt_f, jlt, jle_t, jle_f, jle, jeq_t, jeq_f, jeq, ↓reduceIte, o17, g0, l20, hh]
  have e0 : min j R = min j R := rfl
  unfold f_X9_kindOfWeaver
  refine LL 8 N j (-1) hj.1 (by omega) (Int.emod_eq_of_lt hj.1 hj.2) (by omega) (by omega) (.inl (.inl ⟨rfl, fun r s i => ?_⟩))
  exfalso
  obtain ⟨i1, i2, i3⟩ := i
  rw [Int.emod_eq_of_lt i1.1 (by omega)] at i3
  omega
/-- all weavers have one kind -/
def AGr (S R : Int) (sg : Int → Int → Int) (k : Int) : Prop := ∀ j, 0 ≤ j → j < k → ¬ KX S sg k j R
theorem oAgr (hN : 10000 ≤ N) {S R k : Int} {sg : Int → Int → Int} (hR : 1 ≤ R ∧ R ≤ 8) (hk : 1 ≤ k ∧ k ≤ 4) (g0 : G 17 0 = R) (hr : ∀ r : Int, 0 ≤ r → r < R → WR S sg r (G 20 r)) : f_X9_kindsAgree N 17 (jI k) (hp q G) = some (jI (cI (AGr S R sg k)), hp q G) := by
  have LL : ∀ (d f : Nat) (j : Int), 0 ≤ j → j + d = k → d < f → (∀ i, 0 ≤ i → i < j → ¬ KX S sg k i R) → L_X9_kindsAgree_2 N f 17 (jI k) (jI j) (hp q G) = some (jI (cI (AGr S R sg k)), hp q G) := by
    intro d
    induction d with
    | zero =>
      intro f j j0 j1 hf hi
      obtain ⟨f, rfl⟩ : ∃ y, f = y + 1 := ⟨f - 1, by omega⟩
      have ag : AGr S R sg k := fun i i0 i1 => hi i i0 (by omega)
      rw [cI_t ag, L_X9_kindsAgree_2]
      simp (maxSteps := 2000000) (disch := first | assumption | omega) only [jI0, iAdd_j, iSub_j, iMul_j, iNeg_j, Option.bind_some, jlt_t, jlt_f, jlt, jle_t, jle_f, jle, jeq_t, jeq_f, jeq, ↓reduceIte]
    | succ d ih =>
      intro f j j0 j1 hf hi
      obtain ⟨f, rfl⟩ : ∃ y, f = y + 1 := ⟨f - 1, by omega⟩
      obtain ⟨v, v1, v2⟩ := oKow (q := q) hN hR hk (j := j) ⟨j0, by omega⟩ g0 hr
      rw [L_X9_kindsAgree_2]
      rcases v1 with a | ⟨rfl, b⟩
      · have vr : -1 ≤ v ∧ v ≤ 5 := by rcases a with ⟨a, _⟩ | ⟨a, b, _⟩ <;> omega
        have := ih f (j + 1) (by omega) (by omega) (by omega) (fun i i0 i1 => by
          by_cases c : i = j
          · subst c; exact a.no
          · exact hi i i0 (by omega))
        simp (maxSteps := 2000000) (disch := first | assumption | omega) only [jI0, iAdd_j, iSub_j, iMul_j, iNeg_j, Option.bind_some, jlt_t, jlt_f, jlt, jle_t, jle_f, jle, jeq_t, jeq_f, jeq, ↓reduceIte, v2, this]
      · have ag : ¬ AGr S R sg k := fun h => h j j0 (by omega) b
        rw [cI_f ag]
        simp (maxSteps := 2000000) (disch := first | assumption | omega) only [jI0, iAdd_j, iSub_j, iMul_j, iNeg_j, Option.bind_some, jlt_t, jlt_f, jlt, jle_t, jle_f, jle, jeq_t, jeq_f, jeq, ↓reduceIte, v2]
  unfold f_X9_kindsAgree
  exact LL k.toNat N 0 (by omega) (by omega) (by omega) (fun i i0 i1 => by omega)
end
