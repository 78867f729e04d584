/-! basket: a line -/
theorem BV_lines {g kt bt st A g' A' : Int → Int} (hV : BV A) (hR : BR g kt bt st A) (h5 : A 142 < 500) (f0 : ∀ j : Int, j ≠ 142 → A' j = A j) (f1 : A' 142 = A 142 + 1) (g0 : ∀ i : Int, i ≠ 6 → g' i = g i) (g1 : g' 6 = A 142 + 1) : BV A' ∧ BR g' kt bt st A' := by
  obtain ⟨v1, v2, v3, v4, v5⟩ := hV
  obtain ⟨r1, r2, r3, r4, r5⟩ := hR
  have z0 := f0 0 (by omega)
  have z1 := f0 1 (by omega)
  have z26 := f0 26 (by omega)
  have z115 := f0 115 (by omega)
  have z140 := f0 140 (by omega)
  have z141 := f0 141 (by omega)
  refine ⟨⟨?_, ?_, ?_, ?_, ?_⟩, ⟨?_, ?_, ?_, ?_, ?_⟩⟩
  · rw [z0, z1, z26, z115, z140, z141, f1]
    omega
  · intro k k0 k1
    rw [z1] at k1
    rw [f0 (2 + k) (by omega), f0 (8 + k) (by omega), f0 (14 + k) (by omega), f0 (20 + k) (by omega)]
    exact v2 k k0 k1
  · intro b b0 b1
    rw [z26] at b1
    rw [f0 (27 + b) (by omega), f0 (35 + b) (by omega), f0 (43 + b) (by omega), f0 (51 + b) (by omega), f0 (59 + b) (by omega), f0 (67 + b) (by omega), f0 (75 + b) (by omega), z0]
    exact v3 b b0 b1
  · intro b j b0 b1 j0 j1
    rw [z26] at b1
    have vb := v3 b b0 b1
    rw [f0 (27 + b) (by omega)] at j1
    rw [f0 (83 + 4 * b + j) (by omega), z1]
    exact v4 b j b0 b1 j0 j1
  · intro s s0 s1
    rw [z115] at s1
    rw [f0 (116 + s) (by omega), f0 (124 + s) (by omega), f0 (132 + s) (by omega), z26]
    exact v5 s s0 s1
  · rw [z0, z1, z26, z115, z140, z141, f1, g1, g0 0 (by decide), g0 1 (by decide), g0 2 (by decide), g0 3 (by decide), g0 4 (by decide), g0 5 (by decide)]
    exact ⟨r1.1, r1.2.1, r1.2.2.1, r1.2.2.2.1, r1.2.2.2.2.1, r1.2.2.2.2.2.1, rfl⟩
  · intro k w k0 k1 w0 w1
    rw [z1] at k1
    rw [f0 (2 + 6 * w + k) (by omega)]
    exact r2 k w k0 k1 w0 w1
  · intro b w b0 b1 w0 w1
    rw [z26] at b1
    rw [f0 (27 + 8 * w + b) (by omega)]
    exact r3 b w b0 b1 w0 w1
  · intro b j b0 b1 j0 j1
    rw [z26] at b1
    have vb := v3 b b0 b1
    rw [f0 (27 + b) (by omega)] at j1
    rw [f0 (83 + 4 * b + j) (by omega)]
    exact r4 b j b0 b1 j0 j1
  · intro s s0 s1
    rw [z115] at s1
    rw [f0 (116 + s) (by omega), f0 (124 + s) (by omega), f0 (132 + s) (by omega)]
    exact r5 s s0 s1
section
variable {q : Nat × Nat × (Nat → Nat)} {G K : Nat → Int → Int} {N : Nat} {T : Int → Int} {n : Int}
/-- the body of a line, both alive at its beginning -/
theorem sBody (hN : 10000 ≤ N) (h : RD T n G K) (w : G 10 0 = 0) (hV : BV (K 105)) (hR : BR (G 6) (G 7) (G 8) (G 9) (K 105)) : ∃ G' K' : Nat → Int → Int, LnR T n G K G' K' ∧ f_X8_readLine N 10 6 (hp q G) = some (hp q G') ∧ f_X12_readLine N 100 (hp q K) = J_X12_readLine_121 N 100 (hp q K') := by
  have i0 := sIsW (N := N) (q := q) hN h (i := 0) (by omega)
  have i1 := sIsW (N := N) (q := q) hN h (i := 1) (by omega)
  have i5 := sIsW (N := N) (q := q) hN h (i := 5) (by omega)
  have i14 := sIsW (N := N) (q := q) hN h (i := 14) (by omega)
  have i15 := sIsW (N := N) (q := q) hN h (i := 15) (by omega)
  have i16 := sIsW (N := N) (q := q) hN h (i := 16) (by omega)
  have j0 := sIs (N := N) (q := q) h (i := 0) (by omega)
  have j1 := sIs (N := N) (q := q) h (i := 1) (by omega)
  have j5 := sIs (N := N) (q := q) h (i := 5) (by omega)
  have j14 := sIs (N := N) (q := q) h (i := 14) (by omega)
  have j15 := sIs (N := N) (q := q) h (i := 15) (by omega)
  have j16 := sIs (N := N) (q := q) h (i := 16) (by omega)
  by_cases c0 : K 100 10 = 0
  · obtain ⟨G1, K1, ln, e1, e2⟩ := sStakes (N := N) (q := q) hN h w c0 hV hR
    rw [cI_t ⟨w, by omega⟩] at i0 j0
    refine ⟨G1, K1, ln, ?_, ?_⟩
    · unfold f_X8_readLine
      refine bs (v := ()) (by simp (maxSteps := 2000000) (disch := first | assumption | omega) only [jI0, iAdd_j, iSub_j, iMul_j, iNeg_j, Option.bind_some, jlt_t, jlt_f, jlt, jle_t, jle_f, jle, jeq_t, jeq_f, jeq, ↓reduceIte, o10]) ?_
      refine bs i0 ?_
      simp (maxSteps := 2000000) (disch := first | assumption | omega) only [jI0, iAdd_j, iSub_j, iMul_j, iNeg_j, Option.bind_some, jlt_t, jlt_f, jlt, jle_t, jle_f, jle, jeq_t, jeq_f, jeq, ↓reduceIte, o10, e1]
    · unfold f_X12_readLine
      refine bs (v := ()) (by simp (maxSteps := 2000000) (disch := first | assumption | omega) only [jI0, iAdd_j, iSub_j, iMul_j, iNeg_j, Option.bind_some, jlt_t, jlt_f, jlt, jle_t, jle_f, jle, jeq_t, jeq_f, jeq, ↓reduceIte, o100]) ?_
      refine bs j0 ?_
      simp (maxSteps := 2000000) (disch := first | assumption | omega) only [jI0, iAdd_j, iSub_j, iMul_j, iNeg_j, Option.bind_some, jlt_t, jlt_f, jlt, jle_t, jle_f, jle, jeq_t, jeq_f, jeq, ↓reduceIte, o100, e2]
  have z0 : ∀ i : Int, K 100 10 ≠ i → cI (G 10 0 = 0 ∧ K 100 10 = i) = 0 := fun i hi => cI_f (fun hh => hi hh.2)
  rw [z0 _ (by omega)] at i0 j0
  by_cases c1 : K 100 10 = 1
  · obtain ⟨G1, K1, ln, e1, e2⟩ := sRod (N := N) (q := q) hN h w c1 hV hR
    rw [cI_t ⟨w, by omega⟩] at i1 j1
    refine ⟨G1, K1, ln, ?_, ?_⟩
    · unfold f_X8_readLine
      refine bs (v := ()) (by simp (maxSteps := 2000000) (disch := first | assumption | omega) only [jI0, iAdd_j, iSub_j, iMul_j, iNeg_j, Option.bind_some, jlt_t, jlt_f, jlt, jle_t, jle_f, jle, jeq_t, jeq_f, jeq, ↓reduceIte, o10]) ?_
      refine bs i0 ?_
      refine bs0 ?_
      refine bs (v := ()) (by simp (maxSteps := 2000000) (disch := first | assumption | omega) only [jI0, iAdd_j, iSub_j, iMul_j, iNeg_j, Option.bind_some, jlt_t, jlt_f, jlt, jle_t, jle_f, jle, jeq_t, jeq_f, jeq, ↓reduceIte, o10]) ?_
      refine bs i1 ?_
      simp (maxSteps := 2000000) (disch := first | assumption | omega) only [jI0, iAdd_j, iSub_j, iMul_j, iNeg_j, Option.bind_some, jlt_t, jlt_f, jlt, jle_t, jle_f, jle, jeq_t, jeq_f, jeq, ↓reduceIte, o10, e1]
    · unfold f_X12_readLine
      refine bs (v := ()) (by simp (maxSteps := 2000000) (disch := first | assumption | omega) only [jI0, iAdd_j, iSub_j, iMul_j, iNeg_j, Option.bind_some, jlt_t, jlt_f, jlt, jle_t, jle_f, jle, jeq_t, jeq_f, jeq, ↓reduceIte, o100]) ?_
      refine bs j0 ?_
      refine bs0 ?_
      refine bs (v := ()) (by simp (maxSteps := 2000000) (disch := first | assumption | omega) only [jI0, iAdd_j, iSub_j, iMul_j, iNeg_j, Option.bind_some, jlt_t, jlt_f, jlt, jle_t, jle_f, jle, jeq_t, jeq_f, jeq, ↓reduceIte, o100]) ?_
      refine bs j1 ?_
      simp (maxSteps := 2000000) (disch := first | assumption | omega) only [jI0, iAdd_j, iSub_j, iMul_j, iNeg_j, Option.bind_some, jlt_t, jlt_f, jlt, jle_t, jle_f, jle, jeq_t, jeq_f, jeq, ↓reduceIte, o100, e2]
  rw [z0 _ (by omega)] at i1 j1
  by_cases c5 : K 100 10 = 5
  · obtain ⟨G1, K1, ln, e1, e2⟩ := sBand (N := N) (q := q) hN h w c5 hV hR
    rw [cI_t ⟨w, by omega⟩] at i5 j5
    refine ⟨G1, K1, ln, ?_, ?_⟩
    · unfold f_X8_readLine
      refine bs (v := ()) (by simp (maxSteps := 2000000) (disch := first | assumption | omega) only [jI0, iAdd_j, iSub_j, iMul_j, iNeg_j, Option.bind_some, jlt_t, jlt_f, jlt, jle_t, jle_f, jle, jeq_t, jeq_f, jeq, ↓reduceIte, o10]) ?_
      refine bs i0 ?_
      refine bs0 ?_
      refine bs (v := ()) (by simp (maxSteps := 2000000) (disch := first | assumption | omega) only [jI0, iAdd_j, iSub_j, iMul_j, iNeg_j, Option.bind_some, jlt_t, jlt_f, jlt, jle_t, jle_f, jle, jeq_t, jeq_f, jeq, ↓reduceIte, o10]) ?_
      refine bs i1 ?_
      refine bs0 ?_
      refine bs (v := ()) (by simp (maxSteps := 2000000) (disch := first | assumption | omega) only [jI0, iAdd_j, iSub_j, iMul_j, iNeg_j, Option.bind_some, jlt_t, jlt_f, jlt, jle_t, jle_f, jle, jeq_t, jeq_f, jeq, ↓reduceIte, o10]) ?_
      refine bs i5 ?_
      simp (maxSteps := 2000000) (disch := first | assumption | omega) only [jI0, iAdd_j, iSub_j, iMul_j, iNeg_j, Option.bind_some, jlt_t, jlt_f, jlt, jle_t, jle_f, jle, jeq_t, jeq_f, jeq, ↓reduceIte, o10, e1]
    · unfold f_X12_readLine
      refine bs (v := ()) (by simp (maxSteps := 2000000) (disch := first | assumption | omega) only [jI0, iAdd_j, iSub_j, iMul_j, iNeg_j, Option.bind_some, jlt_t, jlt_f, jlt, jle_t, jle_f, jle, jeq_t, jeq_f, jeq, ↓reduceIte, o100]) ?_
      refine bs j0 ?_
      refine bs0 ?_
      refine bs (v := ()) (by simp (maxSteps := 2000000) (disch := first | assumption | omega) only [jI0, iAdd_j, iSub_j, iMul_j, iNeg_j, Option.bind_some, jlt_t, jlt_f, jlt, jle_t, jle_f, jle, jeq_t, jeq_f, jeq, ↓reduceIte, o100]) ?_
      refine bs j1 ?_
      refine bs0 ?_
      refine bs (v := ()) (by simp (maxSteps := 2000000) (disch := first | assumption | omega) only [jI0, iAdd_j, iSub_j, iMul_j, iNeg_j, Option.bind_some, jlt_t, jlt_f, jlt, jle_t, jle_f, jle, jeq_t, jeq_f, jeq, ↓reduceIte, o100]) ?_
      refine bs j5 ?_
      simp (maxSteps := 2000000) (disch := first | assumption | omega) only [jI0, iAdd_j, iSub_j, iMul_j, iNeg_j, Option.bind_some, jlt_t, jlt_f, jlt, jle_t, jle_f, jle, jeq_t, jeq_f, jeq, ↓reduceIte, o100, e2]
  rw [z0 _ (by omega)] at i5 j5
  by_cases c14 : K 100 10 = 14
  · obtain ⟨G1, K1, ln, e1, e2⟩ := sSlip (N := N) (q := q) hN h w c14 hV hR
    rw [cI_t ⟨w, by omega⟩] at i14 j14
    refine ⟨G1, K1, ln, ?_, ?_⟩
    · unfold f_X8_readLine
      simp (maxSteps := 2000000) (disch := first | assumption | omega) only [jI0, iAdd_j, iSub_j, iMul_j, iNeg_j, Option.bind_some, jlt_t, jlt_f, jlt, jle_t, jle_f, jle, jeq_t, jeq_f, jeq, ↓reduceIte, o10, i0, i1, i5, i14, e1]
    · unfold f_X12_readLine
      simp (maxSteps := 2000000) (disch := first | assumption | omega) only [jI0, iAdd_j, iSub_j, iMul_j, iNeg_j, Option.bind_some, jlt_t, jlt_f, jlt, jle_t, jle_f, jle, jeq_t, jeq_f, jeq, ↓reduceIte, o100, j0, j1, j5, j14, e2]
  rw [z0 _ (by omega)] at i14 j14
  by_cases c15 : K 100 10 = 15
  · obtain ⟨G1, K1, s1, a1, b1⟩ := sHead (N := N) (q := q) hN h (i := 15) (k := 15) (by omega) rfl w c15
    have bb := s1.bb hV hR
    obtain ⟨G2, K2, H2, L2, v, u, ln, ⟨a2, f2⟩, ⟨b2, g2⟩⟩ := sNumb (N := N) (q := q) hN s1.rd (i := 140) (w := 4) (lo := 0) (hi := 20) bb.1 bb.2 (by omega)
    rw [cI_t ⟨w, by omega⟩] at i15 j15
    refine ⟨G2, K2, s1.ln ln, ?_, ?_⟩
    · unfold f_X8_readLine
      simp (maxSteps := 2000000) (disch := first | assumption | omega) only [jI0, iAdd_j, iSub_j, iMul_j, iNeg_j, Option.bind_some, jlt_t, jlt_f, jlt, jle_t, jle_f, jle, jeq_t, jeq_f, jeq, ↓reduceIte, o10, i0, i1, i5, i14, i15, a1, a2, w6, f2]
    · unfold f_X12_readLine f_X12_eats
      simp (maxSteps := 2000000) (disch := first | assumption | omega) only [jI0, iAdd_j, iSub_j, iMul_j, iNeg_j, Option.bind_some, jlt_t, jlt_f, jlt, jle_t, jle_f, jle, jeq_t, jeq_f, jeq, ↓reduceIte, o100, j0, j1, j5, j14, j15, b1, b2, s105, g2]
  rw [z0 _ (by omega)] at i15 j15
  by_cases c16 : K 100 10 = 16
  · obtain ⟨G1, K1, s1, a1, b1⟩ := sHead (N := N) (q := q) hN h (i := 16) (k := 16) (by omega) rfl w c16
    have bb := s1.bb hV hR
    obtain ⟨G2, K2, H2, L2, v, u, ln, ⟨a2, f2⟩, ⟨b2, g2⟩⟩ := sNumb (N := N) (q := q) hN s1.rd (i := 141) (w := 5) (lo := 1) (hi := 999) bb.1 bb.2 (by omega)
    rw [cI_t ⟨w, by omega⟩] at i16 j16
    refine ⟨G2, K2, s1.ln ln, ?_, ?_⟩
    · unfold f_X8_readLine
      simp (maxSteps := 2000000) (disch := first | assumption | omega) only [jI0, iAdd_j, iSub_j, iMul_j, iNeg_j, Option.bind_some, jlt_t, jlt_f, jlt, jle_t, jle_f, jle, jeq_t, jeq_f, jeq, ↓reduceIte, o10, i0, i1, i5, i14, i15, i16, a1, a2, w6, f2]
    · unfold f_X12_readLine f_X12_eats
      simp (maxSteps := 2000000) (disch := first | assumption | omega) only [jI0, iAdd_j, iSub_j, iMul_j, iNeg_j, Option.bind_some, jlt_t, jlt_f, jlt, jle_t, jle_f, jle, jeq_t, jeq_f, jeq, ↓reduceIte, o100, j0, j1, j5, j14, j15, j16, b1, b2, s105, g2]
  rw [z0 _ (by omega)] at i16 j16
  obtain ⟨G1, K1, s1, s2, a1, b1⟩ := sFail (N := N) (q := q) h (c := 2) (by omega)
  refine ⟨G1, K1, ⟨s1.w, fun hw => absurd hw s2.1⟩, ?_, ?_⟩
  · unfold f_X8_readLine
    simp (maxSteps := 2000000) (disch := first | assumption | omega) only [jI0, iAdd_j, iSub_j, iMul_j, iNeg_j, Option.bind_some, jlt_t, jlt_f, jlt, jle_t, jle_f, jle, jeq_t, jeq_f, jeq, ↓reduceIte, o10, i0, i1, i5, i14, i15, i16, a1]
  · unfold f_X12_readLine f_X12_eats
    simp (maxSteps := 2000000) (disch := first | assumption | omega) only [jI0, iAdd_j, iSub_j, iMul_j, iNeg_j, Option.bind_some, jlt_t, jlt_f, jlt, jle_t, jle_f, jle, jeq_t, jeq_f, jeq, ↓reduceIte, o100, j0, j1, j5, j14, j15, j16, b1]
/-- a line of both, alive at its beginning -/
theorem sLine (hN : 10000 ≤ N) (h : RD T n G K) (w : G 10 0 = 0) (hV : BV (K 105)) (hR : BR (G 6) (G 7) (G 8) (G 9) (K 105)) (hs : K 105 142 ≤ K 100 7) : ∃ G1 G2 G' K' : Nat → Int → Int, StW T n G K G' K' ∧ (G' 10 0 = 0 → K 100 7 < K' 100 7 ∧ BV (K' 105) ∧ BR (G' 6) (G' 7) (G' 8) (G' 9) (K' 105) ∧ K' 105 142 ≤ K' 100 7) ∧ (f_X8_readLine N 10 6 (hp q G) = some (hp q G1) ∧ f_X8_takeSign N 10 (hp q G1) = some (hp q G2) ∧ G' = up G2 6 6 (G2 6 6 + 1)) ∧ f_X12_readLine N 100 (hp q K) = some (hp q K') := by
  obtain ⟨G1, K1, ⟨s1, l1⟩, a1, b1⟩ := sBody (N := N) (q := q) hN h w hV hR
  obtain ⟨G2, K2, s2, x2, y2, a2, b2⟩ := sSign (N := N) (q := q) hN s1.rd
  have e10 : up G2 6 6 (G2 6 6 + 1) 10 = G2 10 := up_ne (by decide)
  have e100 : up K2 105 142 (K2 105 142 + 1) 100 = K2 100 := up_ne (by decide)
  refine ⟨G1, G2, up G2 6 6 (G2 6 6 + 1), up K2 105 142 (K2 105 142 + 1), ((s1.trans s2.w).upG (by omega) _ _).upK _ _, fun hw => ?_, ⟨a1, a2, rfl⟩, ?_⟩
  · rw [e10] at hw
    have hw1 := (s2.2.2.2.2.1 hw)
    obtain ⟨⟨lV, lR⟩, l2⟩ := l1 hw1.1
    have l3 := (s1.2.2.2.2.1 hw1.1).2
    have l4 := x2 hw
    have l5 := (s2.rd.al hw).2.1
    have l6 := s2.rd.1.2.2.1
    have k2 : K2 105 = K1 105 := s2.2.1 105 (by decide)
    have g2 : ∀ a, a ≠ 10 → G2 a = G1 a := s2.1
    have lb := BV_lines (g' := u1 (G1 6) 6 (G1 6 6 + 1)) (A' := u1 (K1 105) 142 (K1 105 142 + 1)) lV lR (by omega) (fun j hj => u1_ne hj) u1_eq (fun j hj => u1_ne hj) (by rw [u1_eq, lR.1.2.2.2.2.2.2])
    rw [e100, up_eq, up_eq, up_ne (by decide), up_ne (by decide), up_ne (by decide), k2, g2 6 (by decide), g2 7 (by decide), g2 8 (by decide), g2 9 (by decide), u1_eq]
    exact ⟨by omega, lb.1, lb.2, by omega⟩
  · rw [b1]
    unfold J_X12_readLine_121
    simp (maxSteps := 2000000) (disch := first | assumption | omega) only [jI0, iAdd_j, iSub_j, iMul_j, iNeg_j, Option.bind_some, jlt_t, jlt_f, jlt, jle_t, jle_f, jle, jeq_t, jeq_f, jeq, ↓reduceIte, o100, b2, l105, s105]
/-- the model's line at a token that is no word: it fails -/
theorem mLate (hN : 10000 ≤ N) (h : RD T n G K) (w : G 10 0 ≠ 0) : ∃ K' : Nat → Int → Int, StW T n G K G K' ∧ K' 100 12 ≠ 0 ∧ f_X12_readLine N 100 (hp q K) = some (hp q K') := by
  have z0 : ∀ i : Int, cI (G 10 0 = 0 ∧ K 100 10 = i) = 0 := fun i => cI_f (fun hh => w hh.1)
  have j0 := sIs (N := N) (q := q) h (i := 0) (by omega)
  have j1 := sIs (N := N) (q := q) h (i := 1) (by omega)
  have j5 := sIs (N := N) (q := q) h (i := 5) (by omega)
  have j14 := sIs (N := N) (q := q) h (i := 14) (by omega)
  have j15 := sIs (N := N) (q := q) h (i := 15) (by omega)
  have j16 := sIs (N := N) (q := q) h (i := 16) (by omega)
  rw [z0] at j0 j1 j5 j14 j15 j16
  have m : ∃ K' : Nat → Int → Int, (∀ a, a ≠ 100 → K' a = K a) ∧ RD T n G K' ∧ K' 100 12 ≠ 0 ∧ (∀ i : Int, i ≠ 7 → i ≠ 8 → i ≠ 10 → i ≠ 11 → i ≠ 12 → i ≠ 13 → K' 100 i = K 100 i) ∧ f_X12_fails N 100 (jI 2) (hp q K) = some (hp q K') := by
    have d := (h.dd w).1
    have tm := h.2.1
    rcases (h.dd w).2 with ⟨d1, d2⟩ | ⟨d1, d2, d3, d4⟩
    · refine ⟨K, fun _ _ => rfl, h, by omega, fun _ _ _ _ _ _ _ => rfl, ?_⟩
      unfold f_X12_fails
      simp (maxSteps := 2000000) (disch := first | assumption | omega) only [jI0, iAdd_j, iSub_j, iMul_j, iNeg_j, Option.bind_some, jlt_t, jlt_f, jlt, jle_t, jle_f, jle, jeq_t, jeq_f, jeq, ↓reduceIte, o100, d1]
    · have u7 : up K 100 12 1 100 7 = K 100 7 := by rw [up_eq, u1_ne (by decide)]
      have k12 : up (up K 100 12 1) 100 13 (K 100 7) 100 12 = 1 := by rw [up_eq, u1_ne (by decide), up_eq, u1_eq]
      have k13 : up (up K 100 12 1) 100 13 (K 100 7) 100 13 = K 100 7 := by rw [up_eq, u1_eq]
      refine ⟨up (up K 100 12 1) 100 13 (K 100 7), fun a ha => by rw [up_ne ha, up_ne ha], ⟨h.1, (tm.up (by omega)).up (by omega), .inr ⟨d, .inl ⟨?_, ?_⟩⟩⟩, ?_, fun i i7 i8 i10 i11 i12 i13 => by rw [up_eq, u1_ne i13, up_eq, u1_ne i12], ?_⟩
      · rw [k12]; omega
      · rw [k13]; omega
      · rw [k12]; decide
      · unfold f_X12_fails
        simp (maxSteps := 2000000) (disch := first | assumption | omega) only [jI0, iAdd_j, iSub_j, iMul_j, iNeg_j, Option.bind_some, jlt_t, jlt_f, jlt, jle_t, jle_f, jle, jeq_t, jeq_f, jeq, ↓reduceIte, o100, d2, d3, w100, u7]
  obtain ⟨K3, m1, m2, m3, m4, m5⟩ := m
  have m6 := m2.kk.2
  have ne : f_X12_needs N 100 (jI 19) (hp q K3) = some (hp q K3) := by
    have j19 := sIs (N := N) (q := q) m2 (i := 19) (by omega)
    rw [cI_f (fun hh => w hh.1)] at j19
    unfold f_X12_needs f_X12_eats f_X12_fails
    simp (maxSteps := 2000000) (disch := first | assumption | omega) only [jI0, iAdd_j, iSub_j, iMul_j, iNeg_j, Option.bind_some, jlt_t, jlt_f, jlt, jle_t, jle_f, jle, jeq_t, jeq_f, jeq, ↓reduceIte, o100, j19, m3]
  have e100 : up K3 105 142 (K3 105 142 + 1) 100 = K3 100 := up_ne (by decide)
  have S : StW T n G K G K3 := ⟨fun _ _ => rfl, fun a ha _ => m1 a ha, m4, m2, fun hh => absurd hh w, fun hh => absurd hh m3⟩
  refine ⟨up K3 105 142 (K3 105 142 + 1), S.upK _ _, by rw [e100]; exact m3, ?_⟩
  unfold f_X12_readLine f_X12_eats
  simp (maxSteps := 2000000) (disch := first | assumption | omega) only [jI0, iAdd_j, iSub_j, iMul_j, iNeg_j, Option.bind_some, jlt_t, jlt_f, jlt, jle_t, jle_f, jle, jeq_t, jeq_f, jeq, ↓reduceIte, o100, j0, j1, j5, j14, j15, j16, m5, J_X12_readLine_121, ne, l105, s105]
end
