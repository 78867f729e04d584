/-! call: border -/
theorem loopX {σ ρ : Type} (F : Nat → σ → Option ρ) (I : Nat → σ → Prop) : ∀ m : Nat, (∀ n k s, k < m → I k s → ∃ s', I (k + 1) s' ∧ F (n + 1) s = F n s') → ∀ n s, I 0 s → ∃ s', I m s' ∧ F (n + m) s = F n s'
  | 0, _, n, s, h => ⟨s, h, rfl⟩
  | m + 1, hs, n, s, h => by
    obtain ⟨s1, i1, e1⟩ := loopX F I m (fun n k s hk => hs n k s (by omega)) (n + 1) s h
    obtain ⟨s2, i2, e2⟩ := hs n m s1 (by omega) i1
    exact ⟨s2, i2, by rw [show n + (m + 1) = n + 1 + m by omega, e1, e2]⟩
section
variable {K1 K2 : (Int → Int) → (Int → Int) → Prop} {q : Nat × Nat × (Nat → Nat)} {G : Nat → Int → Int} {N : Nat}
theorem oNext {m c w : Nat} (hm : m ≤ 4) (hc : 1 ≤ c ∧ c ≤ 6) : ∀ (k n : Nat) (G1 : Nat → Int → Int), k ≤ m → k < n → (w + 1) % c ^ (m - k) = 0 → (∀ j : Int, 0 ≤ j → j < k → G1 99 j = mvW m c w j) → (∀ j : Int, k ≤ j → j < m → G1 99 j = 1) → ∃ G2, (∀ a, a ≠ 99 → G2 a = G1 a) ∧ ((w + 1) % c ^ m ≠ 0 → ∀ j : Int, 0 ≤ j → j < m → G2 99 j = mvW m c (w + 1) j) ∧ L_X11_nextMoves_4 N n 0 (jI c) (jI ((k : Int) - 1)) (hp q G1) = some (jI (if (w + 1) % c ^ m = 0 then 0 else 1), hp q G2) := by
  intro k
  induction k with
  | zero =>
    intro n G1 hk hn h0 h1 h2
    obtain ⟨n, rfl⟩ : ∃ x, n = x + 1 := ⟨n - 1, by omega⟩
    refine ⟨G1, fun _ _ => rfl, fun h => absurd h0 h, ?_⟩
    rw [Nat.sub_zero] at h0
    rw [L_X11_nextMoves_4, if_pos h0]
    simp (maxSteps := 2000000) (disch := first | assumption | omega) only [jI0, iAdd_j, iSub_j, iMul_j, iNeg_j, Option.bind_some, jlt_t, jlt_f, jlt, jle_t, jle_f, jle, jeq_t, jeq_f, jeq, ↓reduceIte]
  | succ k ih =>
    intro n G1 hk hn h0 h1 h2
    obtain ⟨n, rfl⟩ : ∃ x, n = x + 1 := ⟨n - 1, by omega⟩
    obtain ⟨e, he⟩ : ∃ e, m = e + (k + 1) := ⟨m - (k + 1), by omega⟩
    have me : m - (k + 1) = e := by omega
    rw [me] at h0
    have g := h1 k (by omega) (by omega)
    have te : ((m : Int) - 1 - (k : Int)).toNat = e := by omega
    have ge : mvW m c w k = 1 + (dg c e w : Nat) := by unfold mvW; rw [te]
    rw [ge] at g
    have dl := dg_lt (c := c) (e := e) (w := w) (by omega)
    have ek : (((k + 1 : Nat) : Int) - 1) = k := by omega
    rw [L_X11_nextMoves_4, ek]
    by_cases c1 : dg c e w < c - 1
    · have de := dg_eq (by omega) h0 c1
      have nz : (w + 1) % c ^ m ≠ 0 := fun x => by
        have := dg_lo (c := c) (by omega) x (i := e) (by omega)
        omega
      refine ⟨up G1 99 k (1 + (dg c e w : Nat) + 1), fun a ha => up_ne ha, fun _ j j0 j1 => ?_, ?_⟩
      · rw [up_eq]
        by_cases d : j = k
        · rw [d, u1_eq]
          unfold mvW
          rw [te, de]
          omega
        · rw [u1_ne d]
          by_cases d2 : j < k
          · rw [h1 j j0 (by omega)]
            unfold mvW
            obtain ⟨x, hx⟩ : ∃ x, ((m : Int) - 1 - j).toNat = e + 1 + x := ⟨((m : Int) - 1 - j).toNat - (e + 1), by omega⟩
            rw [hx, dg_hi (by omega) h0 c1]
          · rw [h2 j (by omega) j1]
            unfold mvW
            rw [dg_lo (by omega) h0 (by omega)]
            rfl
      · rw [if_neg nz]
        simp (maxSteps := 2000000) (disch := first | assumption | omega) only [jI0, iAdd_j, iSub_j, iMul_j, iNeg_j, Option.bind_some, jlt_t, jlt_f, jlt, jle_t, jle_f, jle, jeq_t, jeq_f, jeq, ↓reduceIte, o0, l99, g, s99]
    · have dn := dg_next (by omega) h0 (show dg c e w = c - 1 by omega)
      obtain ⟨G2, a1, a2, a3⟩ := ih n (up G1 99 k 1) (by omega) (by omega) (by rw [show m - k = e + 1 by omega]; exact dn) (fun j j0 j1 => by rw [up_eq, u1_ne (by omega)]; exact h1 j j0 (by omega)) (fun j j0 j1 => by
        rw [up_eq]
        by_cases d : j = k
        · rw [d, u1_eq]
        · rw [u1_ne d]; exact h2 j (by omega) j1)
      refine ⟨G2, fun a ha => (a1 a ha).trans (up_ne ha), a2, ?_⟩
      have ek2 : (k : Int) + -1 = (k : Int) - 1 := rfl
      simp (maxSteps := 2000000) (disch := first | assumption | omega) only [jI0, iAdd_j, iSub_j, iMul_j, iNeg_j, Option.bind_some, jlt_t, jlt_f, jlt, jle_t, jle_f, jle, jeq_t, jeq_f, jeq, ↓reduceIte, o0, l99, g, s99, ek2]
      exact a3
theorem oBsum {m c w : Nat} (hm : m ≤ 4) (hc : 1 ≤ c ∧ c ≤ 6) (K : Nat → Int32 → Int32 → Int32 → Int32 → Int32 → Int32 → Int32 → Int32 → mH → Option (Int32 × mH)) {x2 x3 x4 x5 x6 x8 : Int32} (hG : ∀ j : Int, 0 ≤ j → j < m → G 99 j = mvW m c w j) (f : Nat) : L_X11_bordersThatClose_65 N K (f + m) 0 (jI m) x2 x3 x4 x5 x6 x8 (jI 0) (jI 0) (jI 0) (hp q G) = L_X11_bordersThatClose_65 N K f 0 (jI m) x2 x3 x4 x5 x6 x8 (jI (sm (mvW m c w) m)) (jI (bdg (mvW m c w) m)) (jI m) (hp q G) := by
  refine loop (fun f (k : Nat) => L_X11_bordersThatClose_65 N K f 0 (jI m) x2 x3 x4 x5 x6 x8 (jI (sm (mvW m c w) k)) (jI (bdg (mvW m c w) k)) (jI k) (hp q G)) (fun k => k) m ?_ m 0 f (by omega)
  intro f k hk
  show L_X11_bordersThatClose_65 N K (f + 1) 0 (jI m) x2 x3 x4 x5 x6 x8 (jI (sm (mvW m c w) k)) (jI (bdg (mvW m c w) k)) (jI k) (hp q G) = L_X11_bordersThatClose_65 N K f 0 (jI m) x2 x3 x4 x5 x6 x8 (jI (sm (mvW m c w) k + mvW m c w k)) (jI (10 * bdg (mvW m c w) k + mvW m c w k)) (jI ((k + 1 : Nat) : Int)) (hp q G)
  have g := hG k (by omega) (by omega)
  rw [L_X11_bordersThatClose_65, Int.mul_comm 10]
  simp (maxSteps := 2000000) (disch := first | assumption | omega) only [jI0, iAdd_j, iSub_j, iMul_j, iNeg_j, Option.bind_some, jlt_t, jlt_f, jlt, jle_t, jle_f, jle, jeq_t, jeq_f, jeq, ↓reduceIte, o0, l99, g, Int.natCast_succ]
/-- the component's numbers -/
def brO (m c : Nat) (S : Int) (w : Nat) : Int × Int := if (brS m c S w).1 = 0 then (0, 0) else (brS m c S w).2
theorem fill99 {m : Nat} (hN : 10000 ≤ N) (hm : m ≤ 4) : ∃ G1, ((∀ a, a ≠ 99 → G1 a = G a) ∧ ∀ j : Int, 0 ≤ j → j < m → G1 99 j = 1) ∧ f_J7_fill_fda19 N 99 (jI 0) (jI m) (jI 1) (hp q G) = some (hp q G1) := by
  unfold f_J7_fill_fda19 f_J7_rangeCheck_23922
  simp (maxSteps := 2000000) (disch := first | assumption | omega) only [jI0, iAdd_j, iSub_j, iMul_j, iNeg_j, Option.bind_some, jlt_t, jlt_f, jlt, jle_t, jle_f, jle, jeq_t, jeq_f, jeq, ↓reduceIte, n99]
  refine loopG (N := N) (fun f (t : Int × (Nat → Int → Int)) => L_J7_fill_fda19_10 N f 99 (jI m) (jI 1) (jI t.1) (hp q t.2)) (fun k t => t.1 = k ∧ (∀ a, a ≠ 99 → t.2 a = G a) ∧ ∀ j : Int, 0 ≤ j → j < k → t.2 99 j = 1) m (by omega) (s := (0, G)) ⟨rfl, fun _ _ => rfl, fun j j0 j1 => by omega⟩ ?_ ?_
  · rintro f k ⟨i, G1⟩ hk ⟨rfl, t1, t2⟩
    simp only at t1 t2
    refine ⟨(((k + 1 : Nat) : Int), up G1 99 k 1), ⟨rfl, fun a ha => (up_ne ha).trans (t1 a ha), fun j j0 j1 => ?_⟩, ?_⟩
    · show up G1 99 k 1 99 j = 1
      rw [up_eq]
      by_cases c : j = k
      · rw [c, u1_eq]
      · rw [u1_ne c]; exact t2 j j0 (by omega)
    · show L_J7_fill_fda19_10 N (f + 1) 99 (jI m) (jI 1) (jI (k : Int)) (hp q G1) = L_J7_fill_fda19_10 N f 99 (jI m) (jI 1) (jI ((k + 1 : Nat) : Int)) (hp q (up G1 99 k 1))
      rw [L_J7_fill_fda19_10]
      simp (maxSteps := 2000000) (disch := first | assumption | omega) only [jI0, iAdd_j, iSub_j, iMul_j, iNeg_j, Option.bind_some, jlt_t, jlt_f, jlt, jle_t, jle_f, jle, jeq_t, jeq_f, jeq, ↓reduceIte, s99, Int.natCast_succ]
  · rintro f ⟨i, G1⟩ ⟨rfl, t1, t2⟩
    simp only at t1 t2
    refine ⟨G1, ⟨t1, t2⟩, ?_⟩
    show L_J7_fill_fda19_10 N (f + 1) 99 (jI m) (jI 1) (jI (m : Int)) (hp q G1) = _
    rw [L_J7_fill_fda19_10]
    simp (maxSteps := 2000000) (disch := first | assumption | omega) only [jI0, iAdd_j, iSub_j, iMul_j, iNeg_j, Option.bind_some, jlt_t, jlt_f, jlt, jle_t, jle_f, jle, jeq_t, jeq_f, jeq, ↓reduceIte]
theorem pow4 {m c : Nat} (hm : 1 ≤ m ∧ m ≤ 4) (hc : 1 ≤ c ∧ c ≤ 6) : 1 ≤ c ^ m ∧ c ^ m ≤ 1296 := by
  refine ⟨Nat.pow_pos (by omega), ?_⟩
  have h1 : c ^ m ≤ 6 ^ m := Nat.pow_le_pow_left hc.2 m
  have h2 : 6 ^ m ≤ 6 ^ 4 := Nat.pow_le_pow_right (by omega) hm.2
  have : (6 : Nat) ^ 4 = 1296 := rfl
  omega
theorem oBorder (hN : 10000 ≤ N) (hB : BB G) {m c : Nat} {x : Int} (hm : 1 ≤ m ∧ m ≤ 4) (hc : 1 ≤ c ∧ c ≤ 6) (hS : 3 ≤ G 102 0) (hcS : (c : Int) < G 102 0) (hx : 0 ≤ x ∧ x ≤ 2) : ∃ G1, (∀ a, a ≠ 99 → G1 a = G a) ∧ f_X11_bordersThatClose N 0 (jI m) (jI c) (jI x) (hp q G) = some (jI (if x = 0 then ((brS m c (G 102 0) (c ^ m)).1 : Int) else if x = 1 then (brS m c (G 102 0) (c ^ m)).2.1 else (brS m c (G 102 0) (c ^ m)).2.2), hp q G1) := by
  have g := hB.1.1
  have b0 := hB.2.1.1
  have pw := pow4 hm hc
  obtain ⟨G0, ⟨z1, z2⟩, z3⟩ := fill99 (q := q) (G := G) (N := N) (m := m) hN hm.2
  unfold f_X11_bordersThatClose
  simp only [(o0 q G).2, Option.bind_some, z3]
  have mz : ∀ j : Int, 0 ≤ j → j < m → G0 99 j = mvW m c 0 j := fun j j0 j1 => by
    rw [z2 j j0 j1]
    unfold mvW dg
    rw [Nat.zero_div, Nat.zero_mod]
    rfl
  have YY : ∃ G1, (∀ a, a ≠ 99 → G1 a = G a) ∧ L_X11_bordersThatClose_25 N N 0 (jI m) (jI c) (jI x) (jI (brS m c (G 102 0) 0).1) (jI (brO m c (G 102 0) 0).1) (jI (brO m c (G 102 0) 0).2) (jI (if 0 = c ^ m then 0 else 1)) (jI ((0 : Nat) : Int)) (hp q G0) = some (jI (if x = 0 then ((brS m c (G 102 0) (c ^ m)).1 : Int) else if x = 1 then (brS m c (G 102 0) (c ^ m)).2.1 else (brS m c (G 102 0) (c ^ m)).2.2), hp q G1) := by
    refine loopG (N := N) (fun f (t : Nat × (Nat → Int → Int)) => L_X11_bordersThatClose_25 N f 0 (jI m) (jI c) (jI x) (jI (brS m c (G 102 0) t.1).1) (jI (brO m c (G 102 0) t.1).1) (jI (brO m c (G 102 0) t.1).2) (jI (if t.1 = c ^ m then 0 else 1)) (jI t.1) (hp q t.2)) (fun k t => t.1 = k ∧ (∀ a, a ≠ 99 → t.2 a = G a) ∧ (k ≠ c ^ m → ∀ j : Int, 0 ≤ j → j < m → t.2 99 j = mvW m c k j)) (c ^ m) (by omega) (s := (0, G0)) ⟨rfl, z1, fun _ => mz⟩ ?_ ?_
    · rintro f k ⟨i, G1⟩ hk ⟨rfl, t1, t2⟩
      simp only at t1 t2 hk
      have t3 := t2 (by omega)
      have e20 : G1 2 0 = G 102 0 := by rw [t1 2 (by decide), b0]
      have vr : ∀ k : Int, 0 ≤ k → k < m → 1 ≤ G1 99 k ∧ G1 99 k < G 102 0 := fun k k0 k1 => by
        have := mvW_r (m := m) (c := c) (w := i) (k := k) (by omega)
        rw [t3 k k0 k1]
        omega
      have mc := oClosed (q := q) (G := G1) hN (m := m) (S := G 102 0) (by omega) (by omega) vr
      rw [(clB_c (by omega) t3 _).1] at mc
      obtain ⟨G2, n1, n2, n3⟩ := oNext (q := q) (N := N) hm.2 hc (w := i) m N G1 (Nat.le_refl m) (by omega) (by rw [Nat.sub_self, Nat.pow_zero, Nat.mod_one]) t3 (fun j j0 j1 => by omega)
      have nm : ((i + 1) % c ^ m = 0) ↔ i + 1 = c ^ m := by
        constructor
        · intro h
          apply Classical.byContradiction
          intro h2
          rw [Nat.mod_eq_of_lt (by omega)] at h
          omega
        · intro h; rw [h, Nat.mod_self]
      have n4 : f_X11_nextMoves N 0 (jI m) (jI c) (hp q G1) = some (jI (if i + 1 = c ^ m then 0 else 1), hp q G2) := by
        unfold f_X11_nextMoves
        simp only [iSub_j]
        rw [n3]
        congr 3
        by_cases d : i + 1 = c ^ m
        · rw [if_pos d, if_pos (nm.mpr d)]
        · rw [if_neg d, if_neg (fun h => d (nm.mp h))]
      have rr := brS_r (S := G 102 0) hm.2 (c := c) (by omega) i
      have s : 0 ≤ sm (mvW m c i) m ∧ sm (mvW m c i) m ≤ 6 * m := sm_le (fun k _ => by have := mvW_r (m := m) (w := i) (k := (k : Int)) (c := c) (by omega); omega)
      refine ⟨(i + 1, G2), ⟨rfl, fun a ha => (n1 a ha).trans (t1 a ha), fun h => n2 (fun y => h (nm.mp y))⟩, ?_⟩
      show L_X11_bordersThatClose_25 N (f + 1) 0 (jI m) (jI c) (jI x) (jI (brS m c (G 102 0) i).1) (jI (brO m c (G 102 0) i).1) (jI (brO m c (G 102 0) i).2) (jI (if i = c ^ m then 0 else 1)) (jI i) (hp q G1) = L_X11_bordersThatClose_25 N f 0 (jI m) (jI c) (jI x) (jI (brS m c (G 102 0) (i + 1)).1) (jI (brO m c (G 102 0) (i + 1)).1) (jI (brO m c (G 102 0) (i + 1)).2) (jI (if i + 1 = c ^ m then 0 else 1)) (jI ((i + 1 : Nat) : Int)) (hp q G2)
      have es : brS m c (G 102 0) (i + 1) = if clB (mvW m c i) m (G 102 0) (G 102 0).toNat = true then ((brS m c (G 102 0) i).1 + 1, if (brS m c (G 102 0) i).1 = 0 ∨ sm (mvW m c i) m < (brS m c (G 102 0) i).2.1 then (sm (mvW m c i) m, bdg (mvW m c i) m) else (brS m c (G 102 0) i).2) else brS m c (G 102 0) i := rfl
      rw [L_X11_bordersThatClose_25, if_neg (show ¬ i = c ^ m by omega)]
      by_cases cl : clB (mvW m c i) m (G 102 0) (G 102 0).toNat = true
      · rw [if_pos cl] at es
        rw [cl] at mc
        obtain ⟨M, hM⟩ : ∃ M, N = (M + 1) + m := ⟨N - 1 - m, by omega⟩
        have ob := oBsum (q := q) (N := N) (G := G1) hm.2 hc (w := i) (L_X11_bordersThatClose_25 N f) (x2 := jI c) (x3 := jI x) (x4 := jI (brS m c (G 102 0) i).1) (x5 := jI (brO m c (G 102 0) i).1) (x6 := jI (brO m c (G 102 0) i).2) (x8 := jI i) t3 (M + 1)
        rw [← hM, L_X11_bordersThatClose_65] at ob
        have b1 : bz true = 1 := rfl
        have eO : ∀ p : Nat × Int × Int, brS m c (G 102 0) (i + 1) = p → p.1 ≠ 0 → brO m c (G 102 0) (i + 1) = p.2 := fun p hp hn => by unfold brO; rw [hp, if_neg hn]
        by_cases d1 : (brS m c (G 102 0) i).1 = 0
        · rw [if_pos (.inl d1)] at es
          have eO2 := eO _ es (by show (brS m c (G 102 0) i).1 + 1 ≠ 0; omega)
          rw [eO2, es]
          have d1' : jI ((brS m c (G 102 0) i).1 : Int) = jI 0 := by rw [d1]; rfl
          have ob2 : L_X11_bordersThatClose_65 N (L_X11_bordersThatClose_25 N f) N 0 (jI m) (jI c) (jI x) (jI (brS m c (G 102 0) i).1) (jI (brO m c (G 102 0) i).1) (jI (brO m c (G 102 0) i).2) (jI i) (jI 0) (jI 0) (jI 0) (hp q G1) = L_X11_bordersThatClose_25 N f 0 (jI m) (jI c) (jI x) (jI ((brS m c (G 102 0) i).1 + 1)) (jI (sm (mvW m c i) m)) (jI (bdg (mvW m c i) m)) (jI (if i + 1 = c ^ m then 0 else 1)) (jI (i + 1)) (hp q G2) := by
            rw [ob]
            unfold J_X11_bordersThatClose_116
            simp (maxSteps := 2000000) (disch := first | assumption | omega) only [jI0, iAdd_j, iSub_j, iMul_j, iNeg_j, Option.bind_some, jlt_t, jlt_f, jlt, jle_t, jle_f, jle, jeq_t, jeq_f, jeq, ↓reduceIte, d1', o0, n4]
            rw [d1]
            rfl
          simp (maxSteps := 2000000) (disch := first | assumption | omega) only [jI0, iAdd_j, iSub_j, iMul_j, iNeg_j, Option.bind_some, jlt_t, jlt_f, jlt, jle_t, jle_f, jle, jeq_t, jeq_f, jeq, ↓reduceIte, o0, o2, e20, mc, b1, ob2, Int.natCast_succ]
        · by_cases d2 : sm (mvW m c i) m < (brS m c (G 102 0) i).2.1
          · rw [if_pos (.inr d2)] at es
            have eO2 := eO _ es (by show (brS m c (G 102 0) i).1 + 1 ≠ 0; omega)
            have eOi : brO m c (G 102 0) i = (brS m c (G 102 0) i).2 := if_neg d1
            rw [eO2, es, eOi]
            rw [eOi] at ob
            have ob2 : L_X11_bordersThatClose_65 N (L_X11_bordersThatClose_25 N f) N 0 (jI m) (jI c) (jI x) (jI (brS m c (G 102 0) i).1) (jI (brS m c (G 102 0) i).2.1) (jI (brS m c (G 102 0) i).2.2) (jI i) (jI 0) (jI 0) (jI 0) (hp q G1) = L_X11_bordersThatClose_25 N f 0 (jI m) (jI c) (jI x) (jI ((brS m c (G 102 0) i).1 + 1)) (jI (sm (mvW m c i) m)) (jI (bdg (mvW m c i) m)) (jI (if i + 1 = c ^ m then 0 else 1)) (jI (i + 1)) (hp q G2) := by
              rw [ob]
              unfold J_X11_bordersThatClose_116
              simp (maxSteps := 2000000) (disch := first | assumption | omega) only [jI0, iAdd_j, iSub_j, iMul_j, iNeg_j, Option.bind_some, jlt_t, jlt_f, jlt, jle_t, jle_f, jle, jeq_t, jeq_f, jeq, ↓reduceIte, o0, n4]
            simp (maxSteps := 2000000) (disch := first | assumption | omega) only [jI0, iAdd_j, iSub_j, iMul_j, iNeg_j, Option.bind_some, jlt_t, jlt_f, jlt, jle_t, jle_f, jle, jeq_t, jeq_f, jeq, ↓reduceIte, o0, o2, e20, mc, b1, ob2, Int.natCast_succ]
          · rw [if_neg (by omega)] at es
            have eO2 := eO _ es (by show (brS m c (G 102 0) i).1 + 1 ≠ 0; omega)
            have eOi : brO m c (G 102 0) i = (brS m c (G 102 0) i).2 := if_neg d1
            rw [eO2, es, eOi]
            rw [eOi] at ob
            have ob2 : L_X11_bordersThatClose_65 N (L_X11_bordersThatClose_25 N f) N 0 (jI m) (jI c) (jI x) (jI (brS m c (G 102 0) i).1) (jI (brS m c (G 102 0) i).2.1) (jI (brS m c (G 102 0) i).2.2) (jI i) (jI 0) (jI 0) (jI 0) (hp q G1) = L_X11_bordersThatClose_25 N f 0 (jI m) (jI c) (jI x) (jI ((brS m c (G 102 0) i).1 + 1)) (jI (brS m c (G 102 0) i).2.1) (jI (brS m c (G 102 0) i).2.2) (jI (if i + 1 = c ^ m then 0 else 1)) (jI (i + 1)) (hp q G2) := by
              rw [ob]
              unfold J_X11_bordersThatClose_116
              simp (maxSteps := 2000000) (disch := first | assumption | omega) only [jI0, iAdd_j, iSub_j, iMul_j, iNeg_j, Option.bind_some, jlt_t, jlt_f, jlt, jle_t, jle_f, jle, jeq_t, jeq_f, jeq, ↓reduceIte, o0, n4]
            simp (maxSteps := 2000000) (disch := first | assumption | omega) only [jI0, iAdd_j, iSub_j, iMul_j, iNeg_j, Option.bind_some, jlt_t, jlt_f, jlt, jle_t, jle_f, jle, jeq_t, jeq_f, jeq, ↓reduceIte, o0, o2, e20, mc, b1, ob2, Int.natCast_succ]
      · rw [if_neg cl] at es
        have eOi : brO m c (G 102 0) (i + 1) = brO m c (G 102 0) i := by unfold brO; rw [es]
        have cl' : clB (mvW m c i) m (G 102 0) (G 102 0).toNat = false := by simpa using cl
        have b1 : bz false = 0 := rfl
        rw [cl'] at mc
        rw [es, eOi]
        simp (maxSteps := 2000000) (disch := first | assumption | omega) only [jI0, iAdd_j, iSub_j, iMul_j, iNeg_j, Option.bind_some, jlt_t, jlt_f, jlt, jle_t, jle_f, jle, jeq_t, jeq_f, jeq, ↓reduceIte, o0, o2, e20, mc, b1, n4, Int.natCast_succ]
    · rintro f ⟨i, G1⟩ ⟨rfl, t1, t2⟩
      simp only at t1 t2
      have p1 := brS_1 (m := m) (c := c) (S := G 102 0) hm.1 hc.1 hS (c ^ m - 1)
      rw [show 1 + (c ^ m - 1) = c ^ m by omega] at p1
      have rr := brS_r (S := G 102 0) hm.2 (c := c) (by omega) (c ^ m)
      have eOi : brO m c (G 102 0) (c ^ m) = (brS m c (G 102 0) (c ^ m)).2 := if_neg (by omega)
      refine ⟨G1, t1, ?_⟩
      show L_X11_bordersThatClose_25 N (f + 1) 0 (jI m) (jI c) (jI x) (jI (brS m c (G 102 0) (c ^ m)).1) (jI (brO m c (G 102 0) (c ^ m)).1) (jI (brO m c (G 102 0) (c ^ m)).2) (jI (if c ^ m = c ^ m then 0 else 1)) (jI ((c ^ m : Nat) : Int)) (hp q G1) = _
      rw [L_X11_bordersThatClose_25, if_pos rfl, eOi]
      by_cases x0 : x = 0
      · rw [if_pos x0]
        subst x0
        by_cases d : c ^ m < 1296
        · simp (maxSteps := 2000000) (disch := first | assumption | omega) only [jI0, iAdd_j, iSub_j, iMul_j, iNeg_j, Option.bind_some, jlt_t, jlt_f, jlt, jle_t, jle_f, jle, jeq_t, jeq_f, jeq, ↓reduceIte]
        · simp (maxSteps := 2000000) (disch := first | assumption | omega) only [jI0, iAdd_j, iSub_j, iMul_j, iNeg_j, Option.bind_some, jlt_t, jlt_f, jlt, jle_t, jle_f, jle, jeq_t, jeq_f, jeq, ↓reduceIte]
      · rw [if_neg x0]
        by_cases x1 : x = 1
        · rw [if_pos x1]
          subst x1
          by_cases d : c ^ m < 1296
          · simp (maxSteps := 2000000) (disch := first | assumption | omega) only [jI0, iAdd_j, iSub_j, iMul_j, iNeg_j, Option.bind_some, jlt_t, jlt_f, jlt, jle_t, jle_f, jle, jeq_t, jeq_f, jeq, ↓reduceIte]
          · simp (maxSteps := 2000000) (disch := first | assumption | omega) only [jI0, iAdd_j, iSub_j, iMul_j, iNeg_j, Option.bind_some, jlt_t, jlt_f, jlt, jle_t, jle_f, jle, jeq_t, jeq_f, jeq, ↓reduceIte]
        · rw [if_neg x1]
          by_cases d : c ^ m < 1296
          · simp (maxSteps := 2000000) (disch := first | assumption | omega) only [jI0, iAdd_j, iSub_j, iMul_j, iNeg_j, Option.bind_some, jlt_t, jlt_f, jlt, jle_t, jle_f, jle, jeq_t, jeq_f, jeq, ↓reduceIte]
          · simp (maxSteps := 2000000) (disch := first | assumption | omega) only [jI0, iAdd_j, iSub_j, iMul_j, iNeg_j, Option.bind_some, jlt_t, jlt_f, jlt, jle_t, jle_f, jle, jeq_t, jeq_f, jeq, ↓reduceIte]
  obtain ⟨G1, y1, y2⟩ := YY
  rw [if_neg (show ¬ 0 = c ^ m by omega)] at y2
  exact ⟨G1, y1, y2⟩
end
