/-! basket: the lines of stakes, rods, overlap and width -/
theorem BV_rod {g kt bt st A g' kt' A' : Int → Int} {m a b c d : Int} (hV : BV A) (hR : BR g kt bt st A) (hm : A 1 = m) (m6 : m < 6) (ra : 2 ≤ a ∧ a ≤ 99) (rb : 1 ≤ b ∧ b ≤ 9) (rc : 0 ≤ c ∧ c ≤ 50) (rd : 0 ≤ d ∧ d ≤ 99)
    (f0 : ∀ j : Int, j ≠ 1 → j ≠ 2 + m → j ≠ 8 + m → j ≠ 14 + m → j ≠ 20 + m → A' j = A j) (f1 : A' 1 = m + 1) (fa : A' (2 + m) = a) (fb : A' (8 + m) = b) (fc : A' (14 + m) = c) (fd : A' (20 + m) = d)
    (k0 : ∀ i : Int, (i < m * 4 ∨ m * 4 + 4 ≤ i) → kt' i = kt i) (ka : kt' (m * 4 + 0) = a) (kb : kt' (m * 4 + 1) = b) (kc : kt' (m * 4 + 2) = c) (kd : kt' (m * 4 + 3) = d) (g0 : ∀ i : Int, i ≠ 1 → g' i = g i) (g1 : g' 1 = m + 1) : BV A' ∧ BR g' kt' bt st A' := by
  obtain ⟨v1, v2, v3, v4, v5⟩ := hV
  obtain ⟨r1, r2, r3, r4, r5⟩ := hR
  have z : ∀ j : Int, (j = 0 ∨ 26 ≤ j) → A' j = A j := fun j hj => f0 j (by omega) (by omega) (by omega) (by omega) (by omega)
  have zk : ∀ k : Int, 0 ≤ k → k < m → A' (2 + k) = A (2 + k) ∧ A' (8 + k) = A (8 + k) ∧ A' (14 + k) = A (14 + k) ∧ A' (20 + k) = A (20 + k) := fun k k0 k1 => ⟨f0 _ (by omega) (by omega) (by omega) (by omega) (by omega), f0 _ (by omega) (by omega) (by omega) (by omega) (by omega), f0 _ (by omega) (by omega) (by omega) (by omega) (by omega), f0 _ (by omega) (by omega) (by omega) (by omega) (by omega)⟩
  have z0 := z 0 (by omega)
  have z26 := z 26 (by omega)
  have z115 := z 115 (by omega)
  have z140 := z 140 (by omega)
  have z141 := z 141 (by omega)
  have z142 := z 142 (by omega)
  refine ⟨⟨?_, ?_, ?_, ?_, ?_⟩, ⟨?_, ?_, ?_, ?_, ?_⟩⟩
  · rw [z0, z26, z115, z140, z141, z142, f1]
    omega
  · intro k k0 k1
    rw [f1] at k1
    by_cases ck : k = m
    · rw [ck, fa, fb, fc, fd]
      exact ⟨ra.1, ra.2, rb.1, rb.2, rc.1, rc.2, rd.1, rd.2⟩
    · obtain ⟨y1, y2, y3, y4⟩ := zk k k0 (by omega)
      rw [y1, y2, y3, y4]
      exact v2 k k0 (by omega)
  · intro x x0 x1
    rw [z26] at x1
    rw [z (27 + x) (by omega), z (35 + x) (by omega), z (43 + x) (by omega), z (51 + x) (by omega), z (59 + x) (by omega), z (67 + x) (by omega), z (75 + x) (by omega), z0]
    exact v3 x x0 x1
  · intro x j x0 x1 j0 j1
    rw [z26] at x1
    rw [z (27 + x) (by omega)] at j1
    rw [z (83 + 4 * x + j) (by omega), f1]
    have := v4 x j x0 x1 j0 j1
    omega
  · intro s s0 s1
    rw [z115] at s1
    rw [z (116 + s) (by omega), z (124 + s) (by omega), z (132 + s) (by omega), z26]
    exact v5 s s0 s1
  · rw [z0, z26, z115, z140, z141, z142, f1, g1, g0 0 (by decide), g0 2 (by decide), g0 3 (by decide), g0 4 (by decide), g0 5 (by decide), g0 6 (by decide)]
    exact ⟨r1.1, rfl, r1.2.2⟩
  · intro k w kz k1 w0 w1
    rw [f1] at k1
    by_cases ck : k = m
    · have w4 : w = 0 ∨ w = 1 ∨ w = 2 ∨ w = 3 := by omega
      rcases w4 with e | e | e | e
      · rw [ck, e, ka, show 2 + 6 * (0 : Int) + m = 2 + m by omega, fa]
      · rw [ck, e, kb, show 2 + 6 * (1 : Int) + m = 8 + m by omega, fb]
      · rw [ck, e, kc, show 2 + 6 * (2 : Int) + m = 14 + m by omega, fc]
      · rw [ck, e, kd, show 2 + 6 * (3 : Int) + m = 20 + m by omega, fd]
    · rw [k0 _ (by omega), f0 (2 + 6 * w + k) (by omega) (by omega) (by omega) (by omega) (by omega)]
      exact r2 k w kz (by omega) w0 w1
  · intro x w x0 x1 w0 w1
    rw [z26] at x1
    rw [z _ (by omega)]
    exact r3 x w x0 x1 w0 w1
  · intro x j x0 x1 j0 j1
    rw [z26] at x1
    rw [z (27 + x) (by omega)] at j1
    rw [z _ (by omega)]
    exact r4 x j x0 x1 j0 j1
  · intro s s0 s1
    rw [z115] at s1
    rw [z (116 + s) (by omega), z (124 + s) (by omega), z (132 + s) (by omega)]
    exact r5 s s0 s1
section
variable {q : Nat × Nat × (Nat → Nat)} {G K : Nat → Int → Int} {N : Nat} {T : Int → Int} {n : Int}
theorem sRod (hN : 10000 ≤ N) (h : RD T n G K) (w : G 10 0 = 0) (k : K 100 10 = 1) (hV : BV (K 105)) (hR : BR (G 6) (G 7) (G 8) (G 9) (K 105)) : ∃ G' K' : Nat → Int → Int, LnR T n G K G' K' ∧ f_X8_readRod N 10 6 (hp q G) = some (hp q G') ∧ f_X12_readRod N 100 (hp q K) = some (hp q K') := by
  obtain ⟨m, hm⟩ : ∃ m, K 105 1 = m := ⟨_, rfl⟩
  have gm : G 6 1 = m := hR.1.2.1.trans hm
  have vm : 0 ≤ m ∧ m ≤ 6 := by
    have := hV.1
    omega
  have kw := (h.al w).1.2.2.1
  by_cases c : m < 6
  · obtain ⟨G1, K1, s1, a1, b1⟩ := sHead (N := N) (q := q) hN h (i := 1) (k := 1) (by omega) rfl w k
    obtain ⟨G2, K2, H2, L2, x2, y2, s2, ⟨p2, o2', t2⟩, ⟨_, _, u2⟩, ⟨a2, f2⟩, ⟨b2, g2⟩⟩ := sTakeW (N := N) (q := q) hN s1.rd (lo := 2) (hi := 99) (by omega) (by omega) (c := 7) (by omega) (m * 4 + 0) (2 + m)
    obtain ⟨G3, K3, s3, a3, b3⟩ := sNeed (N := N) (q := q) hN s2.rd (i := 2) (k := 2) (by omega) rfl
    obtain ⟨G4, K4, H4, L4, x4, y4, s4, ⟨p4, o4, t4⟩, ⟨_, _, u4⟩, ⟨a4, f4⟩, ⟨b4, g4⟩⟩ := sTakeW (N := N) (q := q) hN s3.rd (lo := 1) (hi := 9) (by omega) (by omega) (c := 7) (by omega) (m * 4 + 1) (8 + m)
    obtain ⟨G5, K5, s5, a5, b5⟩ := sNeed (N := N) (q := q) hN s4.rd (i := 3) (k := 3) (by omega) rfl
    obtain ⟨G6, K6, H6, L6, x6, y6, s6, ⟨p6, o6', t6⟩, ⟨_, _, u6⟩, ⟨a6, f6⟩, ⟨b6, g6⟩⟩ := sTakeW (N := N) (q := q) hN s5.rd (lo := 0) (hi := 50) (by omega) (by omega) (c := 7) (by omega) (m * 4 + 2) (14 + m)
    obtain ⟨G7, K7, s7', a7, b7⟩ := sNeed (N := N) (q := q) hN s6.rd (i := 4) (k := 4) (by omega) rfl
    obtain ⟨G8, K8, H8, L8, x8, y8, s8', ⟨p8, o8, t8⟩, ⟨_, _, u8⟩, ⟨a8, f8⟩, ⟨b8, g8⟩⟩ := sTakeW (N := N) (q := q) hN s7'.rd (lo := 0) (hi := 99) (by omega) (by omega) (c := 7) (by omega) (m * 4 + 3) (20 + m)
    have S := (((((((s1.w.trans s2).trans s3.w).trans s4).trans s5.w).trans s6).trans s7'.w).trans s8')
    have e6 : ∀ a, a ≠ 10 → a ≠ 7 → G8 a = G a := fun a h1 h2 => by rw [p8 a h1 h2, s7'.1 a h1, p6 a h1 h2, s5.1 a h1, p4 a h1 h2, s3.1 a h1, p2 a h1 h2, s1.1 a h1]
    have E7 : G8 7 = u1 (u1 (u1 (u1 (G 7) (m * 4 + 0) x2) (m * 4 + 1) x4) (m * 4 + 2) x6) (m * 4 + 3) x8 := by rw [o8, s7'.1 7 (by decide), o6', s5.1 7 (by decide), o4, s3.1 7 (by decide), o2', s1.1 7 (by decide)]
    have E5 : K8 105 = u1 (u1 (u1 (u1 (K 105) (2 + m) y2) (8 + m) y4) (14 + m) y6) (20 + m) y8 := by rw [t8, s7'.2.1 105 (by decide), t6, s5.2.1 105 (by decide), t4, s3.2.1 105 (by decide), t2, s1.2.1 105 (by decide)]
    have g61 : G8 6 1 = m := by rw [e6 6 (by decide) (by decide)]; exact gm
    have k51 : K8 105 1 = m := by rw [E5, u1_ne (by omega), u1_ne (by omega), u1_ne (by omega), u1_ne (by omega)]; exact hm
    refine ⟨up G8 6 1 (m + 1), up K8 105 1 (m + 1), ⟨(S.upG (by omega) 1 (m + 1)).upK 1 (m + 1), fun hw => ?_⟩, ?_, ?_⟩
    · rw [up_ne (by decide)] at hw
      have h8 := u8 hw
      have h7 := (s8'.2.2.2.2.1 hw).1
      have h6 := (s7'.2.2.2.2.1 h7).1
      have v6 := u6 h6
      have h5 := (s6.2.2.2.2.1 h6).1
      have h4 := (s5.2.2.2.2.1 h5).1
      have v4 := u4 h4
      have h3 := (s4.2.2.2.2.1 h4).1
      have h2 := (s3.2.2.2.2.1 h3).1
      have v2 := u2 h2
      rw [up_eq, up_eq, up_ne (by decide), up_ne (by decide), up_ne (by decide), e6 8 (by decide) (by decide), e6 9 (by decide) (by decide), e6 6 (by decide) (by decide), E7, E5]
      refine ⟨BV_rod (a := x2) (b := x4) (c := x6) (d := x8) hV hR hm c ⟨v2.2.1, v2.2.2⟩ ⟨v4.2.1, v4.2.2⟩ ⟨v6.2.1, v6.2.2⟩ ⟨h8.2.1, h8.2.2⟩ ?_ ?_ ?_ ?_ ?_ ?_ ?_ ?_ ?_ ?_ ?_ ?_ ?_, ?_⟩
      · intro j j1 j2 j3 j4 j5
        rw [u1_ne j1, u1_ne j5, u1_ne j4, u1_ne j3, u1_ne j2]
      · rw [u1_eq]
      · rw [u1_ne (by omega), u1_ne (by omega), u1_ne (by omega), u1_ne (by omega), u1_eq]; exact v2.1
      · rw [u1_ne (by omega), u1_ne (by omega), u1_ne (by omega), u1_eq]; exact v4.1
      · rw [u1_ne (by omega), u1_ne (by omega), u1_eq]; exact v6.1
      · rw [u1_ne (by omega), u1_eq]; exact h8.1
      · intro i hi
        rw [u1_ne (by omega), u1_ne (by omega), u1_ne (by omega), u1_ne (by omega)]
      · rw [u1_ne (by omega), u1_ne (by omega), u1_ne (by omega), u1_eq]
      · rw [u1_ne (by omega), u1_ne (by omega), u1_eq]
      · rw [u1_ne (by omega), u1_eq]
      · rw [u1_eq]
      · intro i hi
        rw [u1_ne hi]
      · rw [u1_eq]
      · rw [u1_ne (by omega), u1_ne (by omega), u1_ne (by omega), u1_ne (by omega), u1_ne (by omega)]
    · unfold f_X8_readRod
      simp (maxSteps := 2000000) (disch := first | assumption | omega) only [jI0, iAdd_j, iSub_j, iMul_j, iNeg_j, Option.bind_some, jlt_t, jlt_f, jlt, jle_t, jle_f, jle, jeq_t, jeq_f, jeq, ↓reduceIte, o10, o6, gm, a1, a2, s7, f2, a3, a4, f4, a5, a6, f6, a7, a8, f8, g61, w6]
    · unfold f_X12_readRod
      have nn : m ≠ 6 := by omega
      simp (maxSteps := 2000000) (disch := first | assumption | omega) only [jI0, iAdd_j, iSub_j, iMul_j, iNeg_j, Option.bind_some, jlt_t, jlt_f, jlt, jle_t, jle_f, jle, jeq_t, jeq_f, jeq, ↓reduceIte, o100, l105, hm, nn, J_X12_readRod_18, kw, b1, b2, s105, g2, b3, b4, g4, b5, b6, g6, b7, b8, g8, k51]
  · obtain ⟨G1, K1, s1, s2, a1, b1⟩ := sFail (N := N) (q := q) h (c := 4) (by omega)
    have em : m = 6 := by omega
    have k2 := s2.2
    have kk : -2147483648 ≤ K1 100 12 ∧ K1 100 12 < 2147483648 := by
      have := s1.rd.rng
      rcases (s1.rd.dd s2.1).2 with t | t <;> omega
    refine ⟨G1, K1, ⟨s1.w, fun hw => absurd hw s2.1⟩, ?_, ?_⟩
    · unfold f_X8_readRod
      simp (maxSteps := 2000000) (disch := first | assumption | omega) only [jI0, iAdd_j, iSub_j, iMul_j, iNeg_j, Option.bind_some, jlt_t, jlt_f, jlt, jle_t, jle_f, jle, jeq_t, jeq_f, jeq, ↓reduceIte, o10, o6, gm, a1]
    · unfold f_X12_readRod
      simp (maxSteps := 2000000) (disch := first | assumption | omega) only [jI0, iAdd_j, iSub_j, iMul_j, iNeg_j, Option.bind_some, jlt_t, jlt_f, jlt, jle_t, jle_f, jle, jeq_t, jeq_f, jeq, ↓reduceIte, o100, l105, hm, em, J_X12_readRod_18, b1, k2]
end
