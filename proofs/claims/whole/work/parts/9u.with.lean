/-! basket: a band's kinds, its way and lean -/
section
variable {q : Nat × Nat × (Nat → Nat)} {G K : Nat → Int → Int} {N : Nat} {T : Int → Int} {n : Int}
theorem J286_dead {b : Int} (k2 : K 100 12 ≠ 0) (kk : -2147483648 ≤ K 100 12 ∧ K 100 12 < 2147483648) {x : Int32} : J_X12_readBand_286 N 100 (jI b) x (hp q K) = some (hp q K) := by
  unfold J_X12_readBand_286
  simp (maxSteps := 2000000) (disch := first | assumption | omega) only [jI0, iAdd_j, iSub_j, iMul_j, iNeg_j, Option.bind_some, jlt_t, jlt_f, jlt, jle_t, jle_f, jle, jeq_t, jeq_f, jeq, ↓reduceIte, o100, k2]
theorem RD.kk (h : RD T n G K) : (G 10 0 = 0 → K 100 12 = 0) ∧ -2147483648 ≤ K 100 12 ∧ K 100 12 < 2147483648 := by
  rcases h.2.2 with a | d
  · have := a.1.2.2.1
    omega
  · rcases d.2 with t | t <;> have := d.1 <;> omega
theorem sWith (hN : 10000 ≤ N) {b mk u v : Int} (hb : 0 ≤ b ∧ b < 8) (hk : 0 ≤ mk ∧ mk ≤ 6) (hv : v = 0 ∨ (1 ≤ v ∧ v ≤ 4)) : ∀ (d fc fm : Nat) (j : Int) (G K : Nat → Int → Int), j + d = 4 → 0 ≤ j → d < fc → d < fm → RD T n G K → (K 100 12 = 0 → u = v) → G 6 1 = mk → K 105 1 = mk → ∃ G' K' : Nat → Int → Int, StW T n G K G' K' ∧ ((∀ a, a ≠ 10 → a ≠ 8 → G' a = G a) ∧ (∀ i : Int, (i < b * 11 + 7 + j ∨ b * 11 + 11 ≤ i) → G' 8 i = G 8 i) ∧ (∀ i : Int, (i < 83 + 4 * b + j ∨ 83 + 4 * b + 4 ≤ i) → K' 105 i = K 105 i)) ∧ (G' 10 0 = 0 → ∀ x : Int, j ≤ x → x < v → G' 8 (b * 11 + 7 + x) = K' 105 (83 + 4 * b + x) ∧ 0 ≤ K' 105 (83 + 4 * b + x) ∧ K' 105 (83 + 4 * b + x) < mk) ∧ L_X8_readBand_153 N fc 10 6 (jI (b * 11)) (jI v) (jI j) (hp q G) = J_X8_readBand_194 N 10 6 (jI (b * 11)) (hp q G') ∧ L_X12_readBand_155 N fm 100 (jI b) (jI u) (jI j) (hp q K) = J_X12_readBand_199 N 100 (jI b) (jI u) (hp q K') := by
  intro d
  induction d with
  | zero =>
    intro fc fm j G K hj j0 h1 h2 h hu g1 k1
    obtain ⟨fc, rfl⟩ : ∃ y, fc = y + 1 := ⟨fc - 1, by omega⟩
    obtain ⟨fm, rfl⟩ : ∃ y, fm = y + 1 := ⟨fm - 1, by omega⟩
    refine ⟨G, K, h.refl.w, ⟨fun _ _ _ => rfl, fun _ _ => rfl, fun _ _ => rfl⟩, fun _ x x0 x1 => absurd x1 (by omega), ?_, ?_⟩
    · rw [L_X8_readBand_153]
      have nn : ¬ j < v := by omega
      simp (maxSteps := 2000000) (disch := first | assumption | omega) only [jI0, iAdd_j, iSub_j, iMul_j, iNeg_j, Option.bind_some, jlt_t, jlt_f, jlt, jle_t, jle_f, jle, jeq_t, jeq_f, jeq, ↓reduceIte, nn]
    · rw [L_X12_readBand_155]
      have kk := h.kk.2
      by_cases w : K 100 12 = 0
      · have e := hu w
        rw [e]
        have nn : ¬ j < v := by omega
        simp (maxSteps := 2000000) (disch := first | assumption | omega) only [jI0, iAdd_j, iSub_j, iMul_j, iNeg_j, Option.bind_some, jlt_t, jlt_f, jlt, jle_t, jle_f, jle, jeq_t, jeq_f, jeq, ↓reduceIte, nn]
      · by_cases cx : (jI j : Int32) < jI u
        · simp (maxSteps := 2000000) (disch := first | assumption | omega) only [jI0, iAdd_j, iSub_j, iMul_j, iNeg_j, Option.bind_some, jlt_t, jlt_f, jlt, jle_t, jle_f, jle, jeq_t, jeq_f, jeq, ↓reduceIte, cx, o100, w]
        · simp (maxSteps := 2000000) (disch := first | assumption | omega) only [jI0, iAdd_j, iSub_j, iMul_j, iNeg_j, Option.bind_some, jlt_t, jlt_f, jlt, jle_t, jle_f, jle, jeq_t, jeq_f, jeq, ↓reduceIte, cx]
  | succ d ih =>
    intro fc fm j G K hj j0 h1 h2 h hu g1 k1
    obtain ⟨fc, rfl⟩ : ∃ y, fc = y + 1 := ⟨fc - 1, by omega⟩
    obtain ⟨fm, rfl⟩ : ∃ y, fm = y + 1 := ⟨fm - 1, by omega⟩
    have kk := h.kk.2
    by_cases c : j < v
    · by_cases w : K 100 12 = 0
      · have e := hu w
        obtain ⟨G2, K2, H2, L2, x2, y2, s2, ⟨p2, o2', t2⟩, ⟨_, u2', u2⟩, ⟨a2, f2⟩, ⟨b2, g2⟩⟩ := sTakeW (N := N) (q := q) hN h (lo := 0) (hi := mk - 1) (by omega) (by omega) (c := 8) (by omega) (b * 11 + 7 + j) (83 + 4 * b + j)
        obtain ⟨G3, K3, z1, ⟨z2, z3, z4⟩, z5, z6, z7⟩ := ih fc fm (j + 1) G2 K2 (by omega) (by omega) (by omega) (by omega) s2.rd (fun _ => e) (by rw [p2 6 (by decide) (by decide)]; exact g1) (by rw [t2, u1_ne (by omega)]; exact k1)
        refine ⟨G3, K3, s2.trans z1, ⟨fun a h1 h2 => by rw [z2 a h1 h2, p2 a h1 h2], fun i hi => by rw [z3 i (by omega), o2', u1_ne (by omega)], fun i hi => by rw [z4 i (by omega), t2, u1_ne (by omega)]⟩, fun hw x x0 x1 => ?_, ?_, ?_⟩
        · by_cases cx : x = j
          · have hw2 := (z1.2.2.2.2.1 hw).1
            obtain ⟨y1, y2', y3⟩ := u2 hw2
            rw [cx, z3 _ (by omega), z4 _ (by omega), o2', t2, u1_eq, u1_eq, y1]
            exact ⟨rfl, y2', by omega⟩
          · exact z5 hw x (by omega) x1
        · rw [L_X8_readBand_153, ← z6]
          simp (maxSteps := 2000000) (disch := first | assumption | omega) only [jI0, iAdd_j, iSub_j, iMul_j, iNeg_j, Option.bind_some, jlt_t, jlt_f, jlt, jle_t, jle_f, jle, jeq_t, jeq_f, jeq, ↓reduceIte, c, o6, o10, g1, a2, s8, f2]
        · rw [L_X12_readBand_155, ← z7, e]
          simp (maxSteps := 2000000) (disch := first | assumption | omega) only [jI0, iAdd_j, iSub_j, iMul_j, iNeg_j, Option.bind_some, jlt_t, jlt_f, jlt, jle_t, jle_f, jle, jeq_t, jeq_f, jeq, ↓reduceIte, c, o100, w, l105, k1, b2, s105, g2]
      · have wg : G 10 0 ≠ 0 := fun hh => w (h.kk.1 hh)
        have r := h.rng
        have tn := oTakeD (N := N) (q := q) (G := G) (x := jI 0) (y := jI (mk - 1)) ⟨wg, r.1, r.2⟩
        have st := h.refl.w.upG (c := 8) (by omega) (b * 11 + 7 + j) 0
        obtain ⟨G3, K3, z1, ⟨z2, z3, z4⟩, z5, z6, z7⟩ := ih fc fm (j + 1) (up G 8 (b * 11 + 7 + j) 0) K (by omega) (by omega) (by omega) (by omega) st.rd hu (by rw [up_ne (by decide)]; exact g1) k1
        refine ⟨G3, K3, st.trans z1, ⟨fun a h1 h2 => by rw [z2 a h1 h2, up_ne h2], fun i hi => by rw [z3 i (by omega), up_eq, u1_ne (by omega)], fun i hi => z4 i (by omega)⟩, fun hw => absurd ((st.trans z1).2.2.2.2.1 hw).1 wg, ?_, ?_⟩
        · rw [L_X8_readBand_153, ← z6]
          simp (maxSteps := 2000000) (disch := first | assumption | omega) only [jI0, iAdd_j, iSub_j, iMul_j, iNeg_j, Option.bind_some, jlt_t, jlt_f, jlt, jle_t, jle_f, jle, jeq_t, jeq_f, jeq, ↓reduceIte, c, o6, o10, g1, tn, s8]
        · obtain ⟨fm, rfl⟩ : ∃ y, fm = y + 1 := ⟨fm - 1, by omega⟩
          have A : ∀ (f : Nat) (x : Int), L_X12_readBand_155 N (f + 1) 100 (jI b) (jI u) (jI x) (hp q K) = J_X12_readBand_199 N 100 (jI b) (jI u) (hp q K) := by
            intro f x
            rw [L_X12_readBand_155]
            by_cases cx : (jI x : Int32) < jI u
            · simp (maxSteps := 2000000) (disch := first | assumption | omega) only [jI0, iAdd_j, iSub_j, iMul_j, iNeg_j, Option.bind_some, jlt_t, jlt_f, jlt, jle_t, jle_f, jle, jeq_t, jeq_f, jeq, ↓reduceIte, cx, o100, w]
            · simp (maxSteps := 2000000) (disch := first | assumption | omega) only [jI0, iAdd_j, iSub_j, iMul_j, iNeg_j, Option.bind_some, jlt_t, jlt_f, jlt, jle_t, jle_f, jle, jeq_t, jeq_f, jeq, ↓reduceIte, cx]
          rw [A, ← z7, A]
    · refine ⟨G, K, h.refl.w, ⟨fun _ _ _ => rfl, fun _ _ => rfl, fun _ _ => rfl⟩, fun _ x x0 x1 => absurd x1 (by omega), ?_, ?_⟩
      · rw [L_X8_readBand_153]
        simp (maxSteps := 2000000) (disch := first | assumption | omega) only [jI0, iAdd_j, iSub_j, iMul_j, iNeg_j, Option.bind_some, jlt_t, jlt_f, jlt, jle_t, jle_f, jle, jeq_t, jeq_f, jeq, ↓reduceIte, c]
      · rw [L_X12_readBand_155]
        by_cases w : K 100 12 = 0
        · have e := hu w
          rw [e]
          simp (maxSteps := 2000000) (disch := first | assumption | omega) only [jI0, iAdd_j, iSub_j, iMul_j, iNeg_j, Option.bind_some, jlt_t, jlt_f, jlt, jle_t, jle_f, jle, jeq_t, jeq_f, jeq, ↓reduceIte, c]
        · by_cases cx : (jI j : Int32) < jI u
          · simp (maxSteps := 2000000) (disch := first | assumption | omega) only [jI0, iAdd_j, iSub_j, iMul_j, iNeg_j, Option.bind_some, jlt_t, jlt_f, jlt, jle_t, jle_f, jle, jeq_t, jeq_f, jeq, ↓reduceIte, cx, o100, w]
          · simp (maxSteps := 2000000) (disch := first | assumption | omega) only [jI0, iAdd_j, iSub_j, iMul_j, iNeg_j, Option.bind_some, jlt_t, jlt_f, jlt, jle_t, jle_f, jle, jeq_t, jeq_f, jeq, ↓reduceIte, cx]
end
