/-! basket: the line of a band -/
theorem BV_band {g kt bt st A g' bt' A' : Int → Int} {b u p r ro fr l le : Int} (hV : BV A) (hR : BR g kt bt st A) (hb : A 26 = b) (b8 : b < 8) (ks : 3 ≤ A 0) (ru : 1 ≤ u ∧ u ≤ 4) (rp : 1 ≤ p ∧ p ≤ 4) (rr : 1 ≤ r ∧ r ≤ 4) (rro : 1 ≤ ro ∧ ro ≤ 40) (rfr : 0 ≤ fr ∧ fr < A 0) (rl : 0 ≤ l ∧ l ≤ 1) (rle : -9 ≤ le ∧ le ≤ 9)
    (f0 : ∀ j : Int, j ≠ 26 → j ≠ 27 + b → j ≠ 35 + b → j ≠ 43 + b → j ≠ 51 + b → j ≠ 59 + b → j ≠ 67 + b → j ≠ 75 + b → (j < 83 + 4 * b ∨ 83 + 4 * b + 4 ≤ j) → A' j = A j) (f26 : A' 26 = b + 1) (fu : A' (27 + b) = u) (fp : A' (35 + b) = p) (fr' : A' (43 + b) = r) (fo : A' (51 + b) = ro) (ff : A' (59 + b) = fr) (fl : A' (67 + b) = l) (fe : A' (75 + b) = le)
    (fk : ∀ x : Int, 0 ≤ x → x < u → bt' (b * 11 + 7 + x) = A' (83 + 4 * b + x) ∧ 0 ≤ A' (83 + 4 * b + x) ∧ A' (83 + 4 * b + x) < A 1)
    (k0 : ∀ i : Int, (i < b * 11 ∨ b * 11 + 11 ≤ i) → bt' i = bt i) (h0 : bt' (b * 11 + 0) = u) (h1 : bt' (b * 11 + 1) = p) (h2 : bt' (b * 11 + 2) = r) (h3 : bt' (b * 11 + 3) = ro) (h4 : bt' (b * 11 + 4) = fr) (h5 : bt' (b * 11 + 5) = l) (h6 : bt' (b * 11 + 6) = le)
    (g0 : ∀ i : Int, i ≠ 2 → g' i = g i) (g2 : g' 2 = b + 1) : BV A' ∧ BR g' kt bt' st A' := by
  obtain ⟨v1, v2, v3, v4, v5⟩ := hV
  obtain ⟨r1, r2, r3, r4, r5⟩ := hR
  have z : ∀ j : Int, (0 ≤ j ∧ j ≤ 25 ∨ 115 ≤ j) → A' j = A j := fun j hj => f0 j (by omega) (by omega) (by omega) (by omega) (by omega) (by omega) (by omega) (by omega) (by omega)
  have zb : ∀ x w : Int, 0 ≤ x → x < b → 0 ≤ w → w < 7 → A' (27 + 8 * w + x) = A (27 + 8 * w + x) := fun x w x0 x1 w0 w1 => f0 _ (by omega) (by omega) (by omega) (by omega) (by omega) (by omega) (by omega) (by omega) (by omega)
  have zk : ∀ x j : Int, 0 ≤ x → x < b → 0 ≤ j → j < 4 → A' (83 + 4 * x + j) = A (83 + 4 * x + j) := fun x j x0 x1 w0 w1 => f0 _ (by omega) (by omega) (by omega) (by omega) (by omega) (by omega) (by omega) (by omega) (by omega)
  have z0 := z 0 (by omega)
  have z1 := z 1 (by omega)
  have z115 := z 115 (by omega)
  have z140 := z 140 (by omega)
  have z141 := z 141 (by omega)
  have z142 := z 142 (by omega)
  have yb : ∀ x : Int, 0 ≤ x → x < b → A' (27 + x) = A (27 + x) ∧ A' (35 + x) = A (35 + x) ∧ A' (43 + x) = A (43 + x) ∧ A' (51 + x) = A (51 + x) ∧ A' (59 + x) = A (59 + x) ∧ A' (67 + x) = A (67 + x) ∧ A' (75 + x) = A (75 + x) := fun x x0 x1 => ⟨by have := zb x 0 x0 x1 (by decide) (by decide); exact this, by have := zb x 1 x0 x1 (by decide) (by decide); exact this, by have := zb x 2 x0 x1 (by decide) (by decide); exact this, by have := zb x 3 x0 x1 (by decide) (by decide); exact this, by have := zb x 4 x0 x1 (by decide) (by decide); exact this, by have := zb x 5 x0 x1 (by decide) (by decide); exact this, by have := zb x 6 x0 x1 (by decide) (by decide); exact this⟩
  refine ⟨⟨?_, ?_, ?_, ?_, ?_⟩, ⟨?_, ?_, ?_, ?_, ?_⟩⟩
  · rw [z0, z1, z115, z140, z141, z142, f26]
    omega
  · intro k k0' k1
    rw [z1] at k1
    rw [z (2 + k) (by omega), z (8 + k) (by omega), z (14 + k) (by omega), z (20 + k) (by omega)]
    exact v2 k k0' k1
  · intro x x0 x1
    rw [f26] at x1
    by_cases cx : x = b
    · rw [cx, fu, fp, fr', fo, ff, fl, fe, z0]
      exact ⟨ru.1, ru.2, rp.1, rp.2, rr.1, rr.2, rro.1, rro.2, rfr.1, rfr.2, rl.1, rl.2, rle.1, rle.2⟩
    · obtain ⟨y1, y2, y3, y4, y5, y6, y7⟩ := yb x x0 (by omega)
      rw [y1, y2, y3, y4, y5, y6, y7, z0]
      exact v3 x x0 (by omega)
  · intro x j x0 x1 j0 j1
    rw [f26] at x1
    rw [z1]
    by_cases cx : x = b
    · rw [cx, fu] at j1
      rw [cx]
      exact (fk j j0 j1).2
    · have vx := v3 x x0 (by omega)
      rw [(yb x x0 (by omega)).1] at j1
      rw [zk x j x0 (by omega) j0 (by omega)]
      exact v4 x j x0 (by omega) j0 j1
  · intro s s0 s1
    rw [z115] at s1
    rw [z (116 + s) (by omega), z (124 + s) (by omega), z (132 + s) (by omega), f26]
    have := v5 s s0 s1
    omega
  · rw [z0, z1, z115, z140, z141, z142, f26, g2, g0 0 (by decide), g0 1 (by decide), g0 3 (by decide), g0 4 (by decide), g0 5 (by decide), g0 6 (by decide)]
    exact ⟨r1.1, r1.2.1, rfl, r1.2.2.2⟩
  · intro k w k0' k1 w0 w1
    rw [z1] at k1
    rw [z (2 + 6 * w + k) (by omega)]
    exact r2 k w k0' k1 w0 w1
  · intro x w x0 x1 w0 w1
    rw [f26] at x1
    by_cases cx : x = b
    · have w7 : w = 0 ∨ w = 1 ∨ w = 2 ∨ w = 3 ∨ w = 4 ∨ w = 5 ∨ w = 6 := by omega
      rw [cx]
      rcases w7 with e | e | e | e | e | e | e
      · rw [e, h0]; exact fu.symm
      · rw [e, h1]; exact fp.symm
      · rw [e, h2]; exact fr'.symm
      · rw [e, h3]; exact fo.symm
      · rw [e, h4]; exact ff.symm
      · rw [e, h5]; exact fl.symm
      · rw [e, h6]; exact fe.symm
    · rw [k0 _ (by omega), zb x w x0 (by omega) w0 w1]
      exact r3 x w x0 (by omega) w0 w1
  · intro x j x0 x1 j0 j1
    rw [f26] at x1
    by_cases cx : x = b
    · rw [cx, fu] at j1
      rw [cx, ← (fk j j0 j1).1, Int.add_assoc]
    · have vx := v3 x x0 (by omega)
      rw [(yb x x0 (by omega)).1] at j1
      rw [k0 _ (by omega), zk x j x0 (by omega) j0 (by omega)]
      exact r4 x j x0 (by omega) j0 j1
  · intro s s0 s1
    rw [z115] at s1
    rw [z (116 + s) (by omega), z (124 + s) (by omega), z (132 + s) (by omega)]
    exact r5 s s0 s1
section
variable {q : Nat × Nat × (Nat → Nat)} {G K : Nat → Int → Int} {N : Nat} {T : Int → Int} {n : Int}
theorem sBand (hN : 10000 ≤ N) (h : RD T n G K) (w : G 10 0 = 0) (k : K 100 10 = 5) (hV : BV (K 105)) (hR : BR (G 6) (G 7) (G 8) (G 9) (K 105)) : ∃ G' K' : Nat → Int → Int, LnR T n G K G' K' ∧ f_X8_readBand N 10 6 (hp q G) = some (hp q G') ∧ f_X12_readBand N 100 (hp q K) = some (hp q K') := by
  obtain ⟨b, hb⟩ : ∃ b, K 105 26 = b := ⟨_, rfl⟩
  obtain ⟨st, hs⟩ : ∃ st, K 105 0 = st := ⟨_, rfl⟩
  obtain ⟨mk, hk⟩ : ∃ mk, K 105 1 = mk := ⟨_, rfl⟩
  have gb : G 6 2 = b := hR.1.2.2.1.trans hb
  have gs : G 6 0 = st := hR.1.1.trans hs
  have gk : G 6 1 = mk := hR.1.2.1.trans hk
  have V := hV.1
  rw [hb, hs, hk] at V
  have kw := (h.al w).1.2.2.1
  by_cases c0 : st = 0
  · obtain ⟨G1, K1, s1, s2, a1, b1⟩ := sFail (N := N) (q := q) h (c := 3) (by omega)
    have k2 := s2.2
    have kk := s1.rd.kk.2
    refine ⟨G1, K1, ⟨s1.w, fun hw => absurd hw s2.1⟩, ?_, ?_⟩
    · unfold f_X8_readBand
      simp (maxSteps := 2000000) (disch := first | assumption | omega) only [jI0, iAdd_j, iSub_j, iMul_j, iNeg_j, Option.bind_some, jlt_t, jlt_f, jlt, jle_t, jle_f, jle, jeq_t, jeq_f, jeq, ↓reduceIte, o10, o6, gs, c0, a1]
    · unfold f_X12_readBand
      simp (maxSteps := 2000000) (disch := first | assumption | omega) only [jI0, iAdd_j, iSub_j, iMul_j, iNeg_j, Option.bind_some, jlt_t, jlt_f, jlt, jle_t, jle_f, jle, jeq_t, jeq_f, jeq, ↓reduceIte, o100, l105, hb, hs, c0, J_X12_readBand_36, b1, k2]
  by_cases c : b < 8
  · obtain ⟨G1, K1, s1, a1, b1⟩ := sHead (N := N) (q := q) hN h (i := 5) (k := 5) (by omega) rfl w k
    obtain ⟨H2, K2, v, u, s2, ⟨rv, ru1, ru2⟩, a2, b2⟩ := sTake (N := N) (q := q) hN s1.rd (lo := 1) (hi := 4) (by omega) (by omega)
    have S2 := s2.w.upG (c := 8) (by omega) (b * 11 + 0) v
    have p2 : ∀ a, a ≠ 10 → a ≠ 8 → up H2 8 (b * 11 + 0) v a = G1 a := fun a h1 h2 => by rw [up_ne h2, s2.1 a h1]
    have q2 : up H2 8 (b * 11 + 0) v 8 = u1 (G1 8) (b * 11 + 0) v := by rw [up_eq, s2.1 8 (by decide)]
    have e2 : up H2 8 (b * 11 + 0) v 10 = H2 10 := up_ne (by decide)
    generalize f2 : up H2 8 (b * 11 + 0) v = G2 at *
    obtain ⟨G3, K3, s3, a3, b3⟩ := sNeed (N := N) (q := q) hN S2.rd (i := 6) (k := 6) (by omega) rfl
    obtain ⟨G4, K4, H4, L4, x4, y4, s4, ⟨p4, q4, t4⟩, ⟨_, _, u4⟩, ⟨a4, f4⟩, ⟨b4, g4⟩⟩ := sTakeW (N := N) (q := q) hN s3.rd (lo := 1) (hi := 4) (by omega) (by omega) (c := 8) (by omega) (b * 11 + 1) (35 + b)
    obtain ⟨G5, K5, s5, a5, b5⟩ := sNeed (N := N) (q := q) hN s4.rd (i := 7) (k := 7) (by omega) rfl
    obtain ⟨G6, K6, H6, L6, x6, y6, s6, ⟨p6, q6, t6⟩, ⟨_, _, u6⟩, ⟨a6, f6⟩, ⟨b6, g6⟩⟩ := sTakeW (N := N) (q := q) hN s5.rd (lo := 1) (hi := 4) (by omega) (by omega) (c := 8) (by omega) (b * 11 + 2) (43 + b)
    obtain ⟨G7, K7, s7', a7, b7⟩ := sNeed (N := N) (q := q) hN s6.rd (i := 8) (k := 8) (by omega) rfl
    obtain ⟨G8, K8, H8, L8, x8, y8, s8', ⟨p8, q8, t8⟩, ⟨_, _, u8⟩, ⟨a8, f8⟩, ⟨b8, g8⟩⟩ := sTakeW (N := N) (q := q) hN s7'.rd (lo := 1) (hi := 40) (by omega) (by omega) (c := 8) (by omega) (b * 11 + 3) (51 + b)
    obtain ⟨G9, K9, s9', a9, b9⟩ := sNeed (N := N) (q := q) hN s8'.rd (i := 9) (k := 9) (by omega) rfl
    obtain ⟨Ga, Ka, Ha, La, xa, ya, sa, ⟨pa, qa, ta⟩, ⟨_, _, ua⟩, ⟨aa, fa⟩, ⟨ba, ga⟩⟩ := sTakeW (N := N) (q := q) hN s9'.rd (lo := 0) (hi := st - 1) (by omega) (by omega) (c := 8) (by omega) (b * 11 + 4) (59 + b)
    obtain ⟨Gb, Kb, sb, ab, bb⟩ := sNeed (N := N) (q := q) hN sa.rd (i := 10) (k := 10) (by omega) rfl
    have S9 := ((((((s1.w.trans S2).trans s3.w).trans s4).trans s5.w).trans s6).trans s7'.w).trans (s8'.trans s9'.w)
    have Sb := S9.trans (sa.trans sb.w)
    have eo9 : ∀ a, a ≠ 10 → a ≠ 8 → G9 a = G a := fun a h1 h2 => by rw [s9'.1 a h1, p8 a h1 h2, s7'.1 a h1, p6 a h1 h2, s5.1 a h1, p4 a h1 h2, s3.1 a h1, p2 a h1 h2, s1.1 a h1]
    have eob : ∀ a, a ≠ 10 → a ≠ 8 → Gb a = G a := fun a h1 h2 => by rw [sb.1 a h1, pa a h1 h2, eo9 a h1 h2]
    have E8 : Gb 8 = u1 (u1 (u1 (u1 (u1 (G 8) (b * 11 + 0) v) (b * 11 + 1) x4) (b * 11 + 2) x6) (b * 11 + 3) x8) (b * 11 + 4) xa := by rw [sb.1 8 (by decide), qa, s9'.1 8 (by decide), q8, s7'.1 8 (by decide), q6, s5.1 8 (by decide), q4, s3.1 8 (by decide), q2, s1.1 8 (by decide)]
    have E59 : K9 105 = u1 (u1 (u1 (K 105) (35 + b) y4) (43 + b) y6) (51 + b) y8 := by rw [s9'.2.1 105 (by decide), t8, s7'.2.1 105 (by decide), t6, s5.2.1 105 (by decide), t4, s3.2.1 105 (by decide), s2.2.1 105 (by decide), s1.2.1 105 (by decide)]
    have E5 : Kb 105 = u1 (u1 (u1 (u1 (K 105) (35 + b) y4) (43 + b) y6) (51 + b) y8) (59 + b) ya := by rw [sb.2.1 105 (by decide), ta, E59]
    have g90 : G9 6 0 = st := by rw [eo9 6 (by decide) (by decide)]; exact gs
    have k90 : K9 105 0 = st := by rw [E59, u1_ne (by omega), u1_ne (by omega), u1_ne (by omega)]; exact hs
    obtain ⟨Gc, Kc, sc, ⟨pc, qc, tc⟩, uc, ac, bc⟩ := sWith (N := N) (q := q) hN (b := b) (mk := mk) (u := u) (v := v) (by omega) (by omega) rv 4 N N 0 Gb Kb (by omega) (by omega) (by omega) (by omega) sb.rd (fun hw => (ru2 (s3.2.2.2.2.2 (s4.2.2.2.2.2 (s5.2.2.2.2.2 (s6.2.2.2.2.2 (s7'.2.2.2.2.2 (s8'.2.2.2.2.2 (s9'.2.2.2.2.2 (sa.2.2.2.2.2 (sb.2.2.2.2.2 hw)))))))))).1) (by rw [eob 6 (by decide) (by decide)]; exact gk) (by rw [E5, u1_ne (by omega), u1_ne (by omega), u1_ne (by omega), u1_ne (by omega)]; exact hk)
    obtain ⟨Gd, Kd, sd, ⟨pd, qd, td⟩, ud, ad, bd⟩ := sTail (N := N) (q := q) hN sc.rd (b := b) (u := u) (by omega) (by rw [pc 6 (by decide) (by decide), eob 6 (by decide) (by decide)]; exact gb) (by rw [tc 26 (by omega), E5, u1_ne (by omega), u1_ne (by omega), u1_ne (by omega), u1_ne (by omega)]; exact hb)
    refine ⟨Gd, Kd, ⟨Sb.trans (sc.trans sd), fun hw => ?_⟩, ?_, ?_⟩
    · obtain ⟨z0, z1, z2, ⟨z3, z4, z5⟩, ⟨z6, z7, z8⟩⟩ := ud hw
      have hc := (sd.2.2.2.2.1 hw).1
      have zk := uc hc
      have hb' := (sc.2.2.2.2.1 hc).1
      have ha := (sb.2.2.2.2.1 hb').1
      have va := ua ha
      have h9 := (sa.2.2.2.2.1 ha).1
      have h8 := (s9'.2.2.2.2.1 h9).1
      have v8 := u8 h8
      have h7 := (s8'.2.2.2.2.1 h8).1
      have h6 := (s7'.2.2.2.2.1 h7).1
      have v6 := u6 h6
      have h5 := (s6.2.2.2.2.1 h6).1
      have h4 := (s5.2.2.2.2.1 h5).1
      have v4 := u4 h4
      have h3 := (s4.2.2.2.2.1 h4).1
      have h2 := (s3.2.2.2.2.1 h3).1
      rw [e2] at h2
      have vu := ru2 (ru1 h2)
      have Eg : ∀ a, a ≠ 10 → a ≠ 8 → a ≠ 6 → Gd a = G a := fun a h1 h2 h3 => by rw [pd a h1 h2 h3, pc a h1 h2, eob a h1 h2]
      have Eg6 : Gd 6 = u1 (G 6) 2 (b + 1) := by rw [qd, pc 6 (by decide) (by decide), eob 6 (by decide) (by decide)]
      have EA : ∀ j : Int, j ≠ 67 + b → j ≠ 75 + b → j ≠ 27 + b → j ≠ 26 → (j < 83 + 4 * b ∨ 83 + 4 * b + 4 ≤ j) → Kd 105 j = Kb 105 j := fun j j1 j2 j3 j4 j5 => by rw [z0 j j1 j2 j3 j4, tc j (by omega)]
      have Eb : ∀ i : Int, i ≠ b * 11 + 5 → i ≠ b * 11 + 6 → (i < b * 11 + 7 ∨ b * 11 + 11 ≤ i) → Gd 8 i = Gb 8 i := fun i i1 i2 i3 => by rw [td i i1 i2, qc i (by omega)]
      rw [Eg 7 (by decide) (by decide) (by decide), Eg 9 (by decide) (by decide) (by decide), Eg6]
      refine ⟨BV_band (b := b) (u := u) (p := y4) (r := y6) (ro := y8) (fr := ya) (l := Kd 105 (67 + b)) (le := Kd 105 (75 + b)) hV hR hb c (by omega) (by omega) (by omega) (by omega) (by omega) (by omega) ⟨z4, z5⟩ ⟨z7, z8⟩ ?_ z2 z1 ?_ ?_ ?_ ?_ rfl rfl ?_ ?_ ?_ ?_ ?_ ?_ ?_ z3 z6 ?_ ?_, ?_⟩
      · intro j j1 j2 j3 j4 j5 j6 j7 j8 j9
        rw [EA j j7 j8 j2 j1 j9, E5, u1_ne j6, u1_ne j5, u1_ne j4, u1_ne j3]
      · rw [EA _ (by omega) (by omega) (by omega) (by omega) (by omega), E5, u1_ne (by omega), u1_ne (by omega), u1_ne (by omega), u1_eq]
      · rw [EA _ (by omega) (by omega) (by omega) (by omega) (by omega), E5, u1_ne (by omega), u1_ne (by omega), u1_eq]
      · rw [EA _ (by omega) (by omega) (by omega) (by omega) (by omega), E5, u1_ne (by omega), u1_eq]
      · rw [EA _ (by omega) (by omega) (by omega) (by omega) (by omega), E5, u1_eq]
      · intro x x0 x1
        have y := zk x x0 (by omega)
        rw [td _ (by omega) (by omega), z0 _ (by omega) (by omega) (by omega) (by omega), hk]
        exact y
      · intro i hi
        rw [Eb i (by omega) (by omega) (by omega), E8, u1_ne (by omega), u1_ne (by omega), u1_ne (by omega), u1_ne (by omega), u1_ne (by omega)]
      · rw [Eb _ (by omega) (by omega) (by omega), E8, u1_ne (by omega), u1_ne (by omega), u1_ne (by omega), u1_ne (by omega), u1_eq]; exact vu.1.symm
      · rw [Eb _ (by omega) (by omega) (by omega), E8, u1_ne (by omega), u1_ne (by omega), u1_ne (by omega), u1_eq]; exact v4.1.symm
      · rw [Eb _ (by omega) (by omega) (by omega), E8, u1_ne (by omega), u1_ne (by omega), u1_eq]; exact v6.1.symm
      · rw [Eb _ (by omega) (by omega) (by omega), E8, u1_ne (by omega), u1_eq]; exact v8.1.symm
      · rw [Eb _ (by omega) (by omega) (by omega), E8, u1_eq]; exact va.1.symm
      · intro i hi
        rw [u1_ne hi]
      · rw [u1_eq]
      · rw [EA 142 (by omega) (by omega) (by omega) (by omega) (by omega), E5, u1_ne (by omega), u1_ne (by omega), u1_ne (by omega), u1_ne (by omega)]
    · unfold f_X8_readBand
      simp (maxSteps := 2000000) (disch := first | assumption | omega) only [jI0, iAdd_j, iSub_j, iMul_j, iNeg_j, Option.bind_some, jlt_t, jlt_f, jlt, jle_t, jle_f, jle, jeq_t, jeq_f, jeq, ↓reduceIte, o10, o6, gs, c0, gb, c, a1, a2, s8, f2, a3, a4, f4, a5, a6, f6, a7, a8, f8, a9, g90, aa, fa, ab, ac, ad]
    · unfold f_X12_readBand
      have nn : b ≠ 8 := by omega
      simp (maxSteps := 2000000) (disch := first | assumption | omega) only [jI0, iAdd_j, iSub_j, iMul_j, iNeg_j, Option.bind_some, jlt_t, jlt_f, jlt, jle_t, jle_f, jle, jeq_t, jeq_f, jeq, ↓reduceIte, o100, l105, hb, hs, c0, nn, J_X12_readBand_36, kw, b1, b2, b3, b4, s105, g4, b5, b6, g6, b7, b8, g8, b9, k90, ba, ga, bb, bc, bd]
  · obtain ⟨G1, K1, s1, s2, a1, b1⟩ := sFail (N := N) (q := q) h (c := 4) (by omega)
    have em : b = 8 := by omega
    have k2 := s2.2
    have kk := s1.rd.kk.2
    refine ⟨G1, K1, ⟨s1.w, fun hw => absurd hw s2.1⟩, ?_, ?_⟩
    · unfold f_X8_readBand
      simp (maxSteps := 2000000) (disch := first | assumption | omega) only [jI0, iAdd_j, iSub_j, iMul_j, iNeg_j, Option.bind_some, jlt_t, jlt_f, jlt, jle_t, jle_f, jle, jeq_t, jeq_f, jeq, ↓reduceIte, o10, o6, gs, c0, gb, c, a1]
    · unfold f_X12_readBand
      simp (maxSteps := 2000000) (disch := first | assumption | omega) only [jI0, iAdd_j, iSub_j, iMul_j, iNeg_j, Option.bind_some, jlt_t, jlt_f, jlt, jle_t, jle_f, jle, jeq_t, jeq_f, jeq, ↓reduceIte, o100, l105, hb, hs, c0, em, J_X12_readBand_36, b1, k2]
end
