/-! basket: the lines of stakes, overlap and width -/
theorem BV_num {g kt bt st A g' A' : Int → Int} {i w v : Int} (hV : BV A) (hR : BR g kt bt st A) (hi : (i = 0 ∧ w = 0 ∧ A 0 = 0 ∧ 3 ≤ v ∧ v ≤ 32) ∨ (i = 140 ∧ w = 4 ∧ 0 ≤ v ∧ v ≤ 20) ∨ (i = 141 ∧ w = 5 ∧ 1 ≤ v ∧ v ≤ 999)) (f0 : ∀ j : Int, j ≠ i → A' j = A j) (f1 : A' i = v) (g0 : ∀ j : Int, j ≠ w → g' j = g j) (g1 : g' w = v) : (BV A' ∧ BR g' kt bt st A') ∧ A' 142 = A 142 := by
  obtain ⟨v1, v2, v3, v4, v5⟩ := hV
  obtain ⟨r1, r2, r3, r4, r5⟩ := hR
  have z : ∀ j : Int, (0 < j ∧ j < 140 ∨ 142 ≤ j) → A' j = A j := fun j hj => f0 j (by omega)
  have z1 := z 1 (by omega)
  have z26 := z 26 (by omega)
  have z115 := z 115 (by omega)
  have z142 := z 142 (by omega)
  have y1 := g0 1 (by omega)
  have y2 := g0 2 (by omega)
  have y3 := g0 3 (by omega)
  have y6 := g0 6 (by omega)
  have Y : (A' 0 = A 0 ∧ g' 0 = g 0 ∧ i ≠ 0 ∨ i = 0 ∧ A' 0 = v ∧ g' 0 = v) ∧ (A' 140 = A 140 ∧ g' 4 = g 4 ∧ i ≠ 140 ∨ i = 140 ∧ A' 140 = v ∧ g' 4 = v) ∧ (A' 141 = A 141 ∧ g' 5 = g 5 ∧ i ≠ 141 ∨ i = 141 ∧ A' 141 = v ∧ g' 5 = v) := by
    rcases hi with ⟨e1, e2, _⟩ | ⟨e1, e2, _⟩ | ⟨e1, e2, _⟩
    · rw [e1] at f0 f1
      rw [e2] at g0 g1
      exact ⟨.inr ⟨e1, f1, g1⟩, .inl ⟨f0 _ (by omega), g0 _ (by omega), by omega⟩, .inl ⟨f0 _ (by omega), g0 _ (by omega), by omega⟩⟩
    · rw [e1] at f0 f1
      rw [e2] at g0 g1
      exact ⟨.inl ⟨f0 _ (by omega), g0 _ (by omega), by omega⟩, .inr ⟨e1, f1, g1⟩, .inl ⟨f0 _ (by omega), g0 _ (by omega), by omega⟩⟩
    · rw [e1] at f0 f1
      rw [e2] at g0 g1
      exact ⟨.inl ⟨f0 _ (by omega), g0 _ (by omega), by omega⟩, .inl ⟨f0 _ (by omega), g0 _ (by omega), by omega⟩, .inr ⟨e1, f1, g1⟩⟩
  refine ⟨⟨⟨?_, ?_, ?_, ?_, ?_⟩, ⟨?_, ?_, ?_, ?_, ?_⟩⟩, z142⟩
  · omega
  · intro k k0 k1
    rw [z1] at k1
    rw [z (2 + k) (by omega), z (8 + k) (by omega), z (14 + k) (by omega), z (20 + k) (by omega)]
    exact v2 k k0 k1
  · intro x x0 x1
    rw [z26] at x1
    have := v3 x x0 x1
    rw [z (27 + x) (by omega), z (35 + x) (by omega), z (43 + x) (by omega), z (51 + x) (by omega), z (59 + x) (by omega), z (67 + x) (by omega), z (75 + x) (by omega)]
    omega
  · intro x j x0 x1 j0 j1
    rw [z26] at x1
    rw [z (27 + x) (by omega)] at j1
    have vx := v3 x x0 x1
    rw [z (83 + 4 * x + j) (by omega), z1]
    exact v4 x j x0 x1 j0 j1
  · intro s s0 s1
    rw [z115] at s1
    rw [z (116 + s) (by omega), z (124 + s) (by omega), z (132 + s) (by omega), z26]
    exact v5 s s0 s1
  · omega
  · intro k u k0 k1 w0 w1
    rw [z1] at k1
    rw [z (2 + 6 * u + k) (by omega)]
    exact r2 k u k0 k1 w0 w1
  · intro x u x0 x1 w0 w1
    rw [z26] at x1
    rw [z (27 + 8 * u + x) (by omega)]
    exact r3 x u x0 x1 w0 w1
  · intro x j x0 x1 j0 j1
    rw [z26] at x1
    rw [z (27 + x) (by omega)] at j1
    have vx := v3 x x0 x1
    rw [z (83 + 4 * x + j) (by omega)]
    exact r4 x j x0 x1 j0 j1
  · intro s s0 s1
    rw [z115] at s1
    rw [z (116 + s) (by omega), z (124 + s) (by omega), z (132 + s) (by omega)]
    exact r5 s s0 s1
section
variable {q : Nat × Nat × (Nat → Nat)} {G K : Nat → Int → Int} {N : Nat} {T : Int → Int} {n : Int}
/-- a number is taken for the place i of the model's fresh numbers, w of the component's spare basket -/
theorem sNumb (hN : 10000 ≤ N) (h : RD T n G K) {i w lo hi : Int} (hV : BV (K 105)) (hR : BR (G 6) (G 7) (G 8) (G 9) (K 105)) (hi' : (i = 0 ∧ w = 0 ∧ K 105 0 = 0 ∧ 3 = lo ∧ hi = 32) ∨ (i = 140 ∧ w = 4 ∧ 0 = lo ∧ hi = 20) ∨ (i = 141 ∧ w = 5 ∧ 1 = lo ∧ hi = 999)) : ∃ (G' K' G1 K1 : Nat → Int → Int) (v u : Int), LnR T n G K G' K' ∧ (f_X8_takeNumber N 10 (jI lo) (jI hi) (hp q G) = some (jI v, hp q G1) ∧ up G1 6 w v = G') ∧ (f_X12_takes N 100 (jI lo) (jI hi) (hp q K) = some (jI u, hp q K1) ∧ up K1 105 i u = K') := by
  obtain ⟨G2, K2, H2, L2, v, u, s2, ⟨p2, o2', t2⟩, ⟨_, _, u2⟩, a2, b2⟩ := sTakeW (N := N) (q := q) hN h (lo := lo) (hi := hi) (by omega) (by omega) (c := 6) (by omega) w i
  refine ⟨G2, K2, H2, L2, v, u, ⟨s2, fun hw => ?_⟩, a2, b2⟩
  obtain ⟨y1, y2, y3⟩ := u2 hw
  rw [p2 7 (by decide) (by decide), p2 8 (by decide) (by decide), p2 9 (by decide) (by decide), o2', t2, y1]
  exact BV_num (i := i) (w := w) (v := v) hV hR (by omega) (fun j hj => u1_ne hj) u1_eq (fun j hj => u1_ne hj) u1_eq
theorem StR.ln {G1 K1 G' K' : Nat → Int → Int} (s : StR T n G K G1 K1) (h : LnR T n G1 K1 G' K') : LnR T n G K G' K' := ⟨s.w.trans h.1, fun w => ⟨(h.2 w).1, by rw [(h.2 w).2, s.2.1 105 (by decide)]⟩⟩
theorem StR.bb {G1 K1 : Nat → Int → Int} (s : StR T n G K G1 K1) (hV : BV (K 105)) (hR : BR (G 6) (G 7) (G 8) (G 9) (K 105)) : BV (K1 105) ∧ BR (G1 6) (G1 7) (G1 8) (G1 9) (K1 105) := by
  rw [s.1 6 (by decide), s.1 7 (by decide), s.1 8 (by decide), s.1 9 (by decide), s.2.1 105 (by decide)]
  exact ⟨hV, hR⟩
theorem sStakes (hN : 10000 ≤ N) (h : RD T n G K) (w : G 10 0 = 0) (k : K 100 10 = 0) (hV : BV (K 105)) (hR : BR (G 6) (G 7) (G 8) (G 9) (K 105)) : ∃ G' K' : Nat → Int → Int, LnR T n G K G' K' ∧ f_X8_readStakes N 10 6 (hp q G) = some (hp q G') ∧ f_X12_readStakes N 100 (hp q K) = some (hp q K') := by
  obtain ⟨m, hm⟩ : ∃ m, K 105 0 = m := ⟨_, rfl⟩
  have gm : G 6 0 = m := hR.1.1.trans hm
  have vm : 0 ≤ m ∧ m ≤ 32 := by
    have := hV.1
    omega
  have kw := (h.al w).1.2.2.1
  by_cases c : m = 0
  · obtain ⟨G1, K1, s1, a1, b1⟩ := sHead (N := N) (q := q) hN h (i := 0) (k := 0) (by omega) rfl w k
    have bb := s1.bb hV hR
    obtain ⟨G2, K2, H2, L2, v, u, ln, ⟨a2, f2⟩, ⟨b2, g2⟩⟩ := sNumb (N := N) (q := q) hN s1.rd (i := 0) (w := 0) (lo := 3) (hi := 32) bb.1 bb.2 (by rw [s1.2.1 105 (by decide)]; omega)
    refine ⟨G2, K2, s1.ln ln, ?_, ?_⟩
    · unfold f_X8_readStakes
      simp (maxSteps := 2000000) (disch := first | assumption | omega) only [jI0, iAdd_j, iSub_j, iMul_j, iNeg_j, Option.bind_some, jlt_t, jlt_f, jlt, jle_t, jle_f, jle, jeq_t, jeq_f, jeq, ↓reduceIte, o10, o6, gm, c, a1, a2, w6, f2]
    · unfold f_X12_readStakes
      simp (maxSteps := 2000000) (disch := first | assumption | omega) only [jI0, iAdd_j, iSub_j, iMul_j, iNeg_j, Option.bind_some, jlt_t, jlt_f, jlt, jle_t, jle_f, jle, jeq_t, jeq_f, jeq, ↓reduceIte, o100, l105, hm, c, J_X12_readStakes_14, kw, b1, b2, s105, g2]
  · obtain ⟨G1, K1, s1, s2, a1, b1⟩ := sFail (N := N) (q := q) h (c := 4) (by omega)
    have k2 := s2.2
    have kk : -2147483648 ≤ K1 100 12 ∧ K1 100 12 < 2147483648 := by
      have := s1.rd.rng
      rcases (s1.rd.dd s2.1).2 with t | t <;> omega
    have r := s1.rd.rng
    have gd := s2.1
    have ow := oIsW0 (N := N) (q := q) (G := G1) (i := 0) ⟨s2.1, by omega, by omega⟩
    have tw : f_X8_takeWord N 10 (UInt32.ofNat 0) (hp q G1) = some (hp q G1) := by
      unfold f_X8_takeWord f_X8_fail
      simp (maxSteps := 2000000) (disch := first | assumption | omega) only [jI0, iAdd_j, iSub_j, iMul_j, iNeg_j, Option.bind_some, jlt_t, jlt_f, jlt, jle_t, jle_f, jle, jeq_t, jeq_f, jeq, ↓reduceIte, o10, ow, gd]
    have tn := oTakeD (N := N) (q := q) (G := G1) (x := jI 3) (y := jI 32) ⟨s2.1, r.1, r.2⟩
    refine ⟨up G1 6 0 0, K1, ⟨s1.w.upG (by omega) 0 0, fun hw => absurd hw (by rw [up_ne (by decide)]; exact s2.1)⟩, ?_, ?_⟩
    · unfold f_X8_readStakes
      simp (maxSteps := 2000000) (disch := first | assumption | omega) only [jI0, iAdd_j, iSub_j, iMul_j, iNeg_j, Option.bind_some, jlt_t, jlt_f, jlt, jle_t, jle_f, jle, jeq_t, jeq_f, jeq, ↓reduceIte, o10, o6, gm, c, a1, tw, tn, w6]
    · unfold f_X12_readStakes
      have m0 : 0 < m := by omega
      simp (maxSteps := 2000000) (disch := first | assumption | omega) only [jI0, iAdd_j, iSub_j, iMul_j, iNeg_j, Option.bind_some, jlt_t, jlt_f, jlt, jle_t, jle_f, jle, jeq_t, jeq_f, jeq, ↓reduceIte, o100, l105, hm, m0, J_X12_readStakes_14, b1, k2]
end
