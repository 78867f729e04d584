/-! basket: the line of a slip -/
theorem BV_slip {g kt bt st A g' st' A' : Int → Int} {m x y z : Int} (hV : BV A) (hR : BR g kt bt st A) (hm : A 115 = m) (m8 : m < 8) (rx : 0 ≤ x ∧ x < A 26) (ry : 0 ≤ y ∧ y < 4) (rz : 0 ≤ z ∧ z < 1280)
    (f0 : ∀ j : Int, j ≠ 115 → j ≠ 116 + m → j ≠ 124 + m → j ≠ 132 + m → A' j = A j) (f1 : A' 115 = m + 1) (fx : A' (116 + m) = x) (fy : A' (124 + m) = y) (fz : A' (132 + m) = z)
    (k0 : ∀ i : Int, (i < m * 3 ∨ m * 3 + 3 ≤ i) → st' i = st i) (kx : st' (m * 3) = x) (ky : st' (m * 3 + 1) = y) (kz : st' (m * 3 + 2) = z) (g0 : ∀ i : Int, i ≠ 3 → g' i = g i) (g1 : g' 3 = m + 1) : BV A' ∧ BR g' kt bt st' A' := by
  obtain ⟨v1, v2, v3, v4, v5⟩ := hV
  obtain ⟨r1, r2, r3, r4, r5⟩ := hR
  have Z : ∀ j : Int, (j < 115 ∨ 140 ≤ j) → A' j = A j := fun j hj => f0 j (by omega) (by omega) (by omega) (by omega)
  have zk : ∀ k : Int, 0 ≤ k → k < m → A' (116 + k) = A (116 + k) ∧ A' (124 + k) = A (124 + k) ∧ A' (132 + k) = A (132 + k) := fun k k0 k1 => ⟨f0 _ (by omega) (by omega) (by omega) (by omega), f0 _ (by omega) (by omega) (by omega) (by omega), f0 _ (by omega) (by omega) (by omega) (by omega)⟩
  have z0 := Z 0 (by omega)
  have z1 := Z 1 (by omega)
  have z26 := Z 26 (by omega)
  have z140 := Z 140 (by omega)
  have z141 := Z 141 (by omega)
  have z142 := Z 142 (by omega)
  refine ⟨⟨?_, ?_, ?_, ?_, ?_⟩, ⟨?_, ?_, ?_, ?_, ?_⟩⟩
  · rw [z0, z1, z26, z140, z141, z142, f1]
    omega
  · intro k k0' k1
    rw [z1] at k1
    rw [Z (2 + k) (by omega), Z (8 + k) (by omega), Z (14 + k) (by omega), Z (20 + k) (by omega)]
    exact v2 k k0' k1
  · intro b b0 b1
    rw [z26] at b1
    rw [Z (27 + b) (by omega), Z (35 + b) (by omega), Z (43 + b) (by omega), Z (51 + b) (by omega), Z (59 + b) (by omega), Z (67 + b) (by omega), Z (75 + b) (by omega), z0]
    exact v3 b b0 b1
  · intro b j b0 b1 j0 j1
    rw [z26] at b1
    have vb := v3 b b0 b1
    rw [Z (27 + b) (by omega)] at j1
    rw [Z (83 + 4 * b + j) (by omega), z1]
    exact v4 b j b0 b1 j0 j1
  · intro s s0 s1
    rw [f1] at s1
    rw [z26]
    by_cases cs : s = m
    · rw [cs, fx, fy, fz]
      exact ⟨rx.1, rx.2, ry.1, ry.2, rz.1, rz.2⟩
    · obtain ⟨y1, y2, y3⟩ := zk s s0 (by omega)
      rw [y1, y2, y3]
      exact v5 s s0 (by omega)
  · rw [z0, z1, z26, z140, z141, z142, f1, g1, g0 0 (by decide), g0 1 (by decide), g0 2 (by decide), g0 4 (by decide), g0 5 (by decide), g0 6 (by decide)]
    exact ⟨r1.1, r1.2.1, r1.2.2.1, rfl, r1.2.2.2.2⟩
  · intro k w k0' k1 w0 w1
    rw [z1] at k1
    rw [Z (2 + 6 * w + k) (by omega)]
    exact r2 k w k0' k1 w0 w1
  · intro b w b0 b1 w0 w1
    rw [z26] at b1
    rw [Z (27 + 8 * w + b) (by omega)]
    exact r3 b w b0 b1 w0 w1
  · intro b j b0 b1 j0 j1
    rw [z26] at b1
    have vb := v3 b b0 b1
    rw [Z (27 + b) (by omega)] at j1
    rw [Z (83 + 4 * b + j) (by omega)]
    exact r4 b j b0 b1 j0 j1
  · intro s s0 s1
    rw [f1] at s1
    by_cases cs : s = m
    · rw [cs, fx, fy, fz, show 3 * m = m * 3 by omega, kx, ky, kz]
      exact ⟨rfl, rfl, rfl⟩
    · obtain ⟨y1, y2, y3⟩ := zk s s0 (by omega)
      rw [y1, y2, y3, k0 _ (by omega), k0 _ (by omega), k0 _ (by omega)]
      exact r5 s s0 (by omega)
section
variable {q : Nat × Nat × (Nat → Nat)} {G K : Nat → Int → Int} {N : Nat} {T : Int → Int} {n : Int}
theorem ofB6 {x w : Int} (hx : 0 ≤ x ∧ x < 8) (hw : 0 ≤ w ∧ w < 11) : f_X0_ofBand N 6 (jI x) (jI w) (hp q G) = some (jI (G 8 (x * 11 + w)), hp q G) := by
  unfold f_X0_ofBand
  simp (maxSteps := 2000000) (disch := first | assumption | omega) only [jI0, iAdd_j, iSub_j, iMul_j, iNeg_j, Option.bind_some, jlt_t, jlt_f, jlt, jle_t, jle_f, jle, jeq_t, jeq_f, jeq, ↓reduceIte, o6, n8, l8]
theorem crB6 {x : Int} (hx : 0 ≤ x ∧ x < 8) : f_X0_crossingsOf N 6 (jI x) (hp q G) = some (iMul (jI (G 8 (x * 11 + 3))) (jI (G 6 0)), hp q G) := by
  have e := ofB6 (N := N) (q := q) (G := G) (w := 3) hx (by omega)
  unfold f_X0_crossingsOf
  simp only [o6, e, Option.bind_some]
theorem sSlip (hN : 10000 ≤ N) (h : RD T n G K) (w : G 10 0 = 0) (k : K 100 10 = 14) (hV : BV (K 105)) (hR : BR (G 6) (G 7) (G 8) (G 9) (K 105)) : ∃ G' K' : Nat → Int → Int, LnR T n G K G' K' ∧ f_X8_readSlip N 10 6 (hp q G) = some (hp q G') ∧ f_X12_readSlip N 100 (hp q K) = some (hp q K') := by
  obtain ⟨m, hm⟩ : ∃ m, K 105 115 = m := ⟨_, rfl⟩
  obtain ⟨nb, hb⟩ : ∃ nb, K 105 26 = nb := ⟨_, rfl⟩
  obtain ⟨st, hs⟩ : ∃ st, K 105 0 = st := ⟨_, rfl⟩
  have gm : G 6 3 = m := hR.1.2.2.2.1.trans hm
  have gb : G 6 2 = nb := hR.1.2.2.1.trans hb
  have gs : G 6 0 = st := hR.1.1.trans hs
  have V := hV.1
  rw [hb, hs, hm] at V
  have kw := (h.al w).1.2.2.1
  by_cases c : m < 8
  · obtain ⟨G1, K1, s1, a1, b1⟩ := sHead (N := N) (q := q) hN h (i := 14) (k := 14) (by omega) rfl w k
    obtain ⟨G2, K2, v, u, s2, ⟨rv, ra, rb⟩, a2, b2⟩ := sTake (N := N) (q := q) hN s1.rd (lo := 0) (hi := nb - 1) (by omega) (by omega)
    have vr : 0 ≤ v ∧ v < 8 := by omega
    have g1b : G1 6 2 = nb := by rw [s1.1 6 (by decide)]; exact gb
    have k1b : K1 105 26 = nb := by rw [s1.2.1 105 (by decide)]; exact hb
    have kk2 := s2.rd.kk
    have nn : m ≠ 8 := by omega
    have E2 : ∀ a, a ≠ 10 → G2 a = G a := fun a ha => by rw [s2.1 a ha, s1.1 a ha]
    have E25 : K2 105 = K 105 := by rw [s2.2.1 105 (by decide), s1.2.1 105 (by decide)]
    have eW : f_X12_readSlip N 100 (hp q K) = (if (jI (K2 100 12)) = jI 0 then (ldI 0 (hp q K2) 105 (iAdd (jI 27) (jI u))).bind fun v8 => (f_X12_takes N 100 (jI 0) (iSub v8 (jI 1)) (hp q K2)).bind fun p9 => J_X12_readSlip_73 N 100 (jI m) (jI u) p9.1 p9.2 else J_X12_readSlip_73 N 100 (jI m) (jI u) (jI 0) (hp q K2)) := by
      unfold f_X12_readSlip
      simp (maxSteps := 2000000) (disch := first | assumption | omega) only [jI0, iAdd_j, iSub_j, iMul_j, iNeg_j, Option.bind_some, jlt_t, jlt_f, jlt, jle_t, jle_f, jle, jeq_t, jeq_f, jeq, ↓reduceIte, o100, l105, hm, nn, J_X12_readSlip_19, kw, b1, k1b, b2]
    by_cases w2 : K2 100 12 = 0
    · obtain ⟨eu, v0, v1⟩ := rb w2
      have vb := hV.2.2.1 v v0 (by omega)
      have ob : G 8 (v * 11 + 0) = K 105 (27 + v) := hR.2.2.1 v 0 v0 (by omega) (by decide) (by decide)
      have oc : G 8 (v * 11 + 3) = K 105 (51 + v) := hR.2.2.1 v 3 v0 (by omega) (by decide) (by decide)
      have pm : 0 ≤ K 105 (51 + v) * st ∧ K 105 (51 + v) * st ≤ 1280 := by
        have x1 := Int.mul_nonneg (show 0 ≤ K 105 (51 + v) by omega) (show 0 ≤ st by omega)
        have x2 := Int.mul_le_mul (show K 105 (51 + v) ≤ 40 by omega) (show st ≤ 32 by omega) (by omega) (by omega)
        omega
      have S2 := (s1.trans s2).w.upG (c := 9) (by omega) (m * 3) v
      obtain ⟨G3, K3, v2, u2, s3, ⟨rv3, ra3, rb3⟩, a3, b3⟩ := sTake (N := N) (q := q) hN S2.rd (lo := 0) (hi := K 105 (27 + v) - 1) (by omega) (by omega)
      have E3 : ∀ a, a ≠ 10 → a ≠ 9 → G3 a = G a := fun a ha hb => by rw [s3.1 a ha, up_ne hb, E2 a ha]
      have E39 : G3 9 = u1 (G 9) (m * 3) v := by rw [s3.1 9 (by decide), up_eq, E2 9 (by decide)]
      have E35 : K3 105 = K 105 := by rw [s3.2.1 105 (by decide)]; exact E25
      have kk3 := s3.rd.kk
      have ob6 := ofB6 (N := N) (q := q) (G := up G2 9 (m * 3) v) (x := v) (w := 0) vr (by omega)
      rw [up_ne (by decide), E2 8 (by decide), ob] at ob6
      have oc6 := crB6 (N := N) (q := q) (G := up G3 9 (m * 3 + 1) v2) (x := v) vr
      rw [up_ne (by decide), up_ne (by decide), E3 8 (by decide) (by decide), E3 6 (by decide) (by decide), oc, gs, iMul_j] at oc6
      have l27 : ldI 0 (hp q K2) 105 (iAdd (jI 27) (jI u)) = some (jI (K 105 (27 + v))) := by
        rw [eu]
        simp (maxSteps := 2000000) (disch := first | assumption | omega) only [jI0, iAdd_j, iSub_j, iMul_j, iNeg_j, Option.bind_some, jlt_t, jlt_f, jlt, jle_t, jle_f, jle, jeq_t, jeq_f, jeq, ↓reduceIte, l105, E25]
      rw [w2, l27] at eW
      by_cases w3 : K3 100 12 = 0
      · obtain ⟨eu3, v30, v31⟩ := rb3 w3
        have S3 := (S2.trans s3.w).upG (c := 9) (by omega) (m * 3 + 1) v2
        obtain ⟨G4, K4, v3, u3, s4, ⟨rv4, ra4, rb4⟩, a4, b4⟩ := sTake (N := N) (q := q) hN S3.rd (lo := 0) (hi := K 105 (51 + v) * st - 1) (by omega) (by omega)
        have S4 := (((S3.trans s4.w).upG (c := 9) (by omega) (m * 3 + 2) v3).upG (c := 6) (by omega) 3 (m + 1))
        have g63 : up G4 9 (m * 3 + 2) v3 6 3 = m := by rw [up_ne (by decide), s4.1 6 (by decide), up_ne (by decide), E3 6 (by decide) (by decide)]; exact gm
        have rc : f_X8_readSlip N 10 6 (hp q G) = some (hp q (up (up G4 9 (m * 3 + 2) v3) 6 3 (m + 1))) := by
          unfold f_X8_readSlip
          simp (maxSteps := 2000000) (disch := first | assumption | omega) only [jI0, iAdd_j, iSub_j, iMul_j, iNeg_j, Option.bind_some, jlt_t, jlt_f, jlt, jle_t, jle_f, jle, jeq_t, jeq_f, jeq, ↓reduceIte, o10, o6, gm, c, a1, g1b, a2, s9, ob6, a3, oc6, a4, g63, w6]
        have e10 : up (up G4 9 (m * 3 + 2) v3) 6 3 (m + 1) 10 = G4 10 := by rw [up_ne (by decide), up_ne (by decide)]
        have kk4 := s4.rd.kk
        have E45 : K4 105 = K 105 := by rw [s4.2.1 105 (by decide)]; exact E35
        by_cases w4 : K4 100 12 = 0
        · obtain ⟨eu4, v40, v41⟩ := rb4 w4
          have k115 : up (up (up K4 105 (116 + m) v) 105 (124 + m) v2) 105 (132 + m) v3 105 115 = m := by rw [up_eq, up_eq, up_eq, u1_ne (by omega), u1_ne (by omega), u1_ne (by omega), E45]; exact hm
          refine ⟨up (up G4 9 (m * 3 + 2) v3) 6 3 (m + 1), up (up (up (up K4 105 (116 + m) v) 105 (124 + m) v2) 105 (132 + m) v3) 105 115 (m + 1), ⟨(S4.upK2 _ _ _ _).upK2 _ _ _ _, fun hw => ?_⟩, rc, ?_⟩
          · have E6 : up (up G4 9 (m * 3 + 2) v3) 6 3 (m + 1) 6 = u1 (G 6) 3 (m + 1) := by rw [up_eq, up_ne (by decide), s4.1 6 (by decide), up_ne (by decide), E3 6 (by decide) (by decide)]
            have E7 : up (up G4 9 (m * 3 + 2) v3) 6 3 (m + 1) 7 = G 7 := by rw [up_ne (by decide), up_ne (by decide), s4.1 7 (by decide), up_ne (by decide), E3 7 (by decide) (by decide)]
            have E8 : up (up G4 9 (m * 3 + 2) v3) 6 3 (m + 1) 8 = G 8 := by rw [up_ne (by decide), up_ne (by decide), s4.1 8 (by decide), up_ne (by decide), E3 8 (by decide) (by decide)]
            have E9 : up (up G4 9 (m * 3 + 2) v3) 6 3 (m + 1) 9 = u1 (u1 (u1 (G 9) (m * 3) v) (m * 3 + 1) v2) (m * 3 + 2) v3 := by rw [up_ne (by decide), up_eq, s4.1 9 (by decide), up_eq, E39]
            have E5 : up (up (up (up K4 105 (116 + m) v) 105 (124 + m) v2) 105 (132 + m) v3) 105 115 (m + 1) 105 = u1 (u1 (u1 (u1 (K 105) (116 + m) v) (124 + m) v2) (132 + m) v3) 115 (m + 1) := by rw [up_eq, up_eq, up_eq, up_eq, E45]
            rw [E6, E7, E8, E9, E5]
            refine ⟨BV_slip (m := m) (x := v) (y := v2) (z := v3) hV hR hm c (by omega) (by omega) (by omega) ?_ ?_ ?_ ?_ ?_ ?_ ?_ ?_ ?_ ?_ ?_, ?_⟩
            · intro j j1 j2 j3 j4
              rw [u1_ne j1, u1_ne j4, u1_ne j3, u1_ne j2]
            · rw [u1_eq]
            · rw [u1_ne (by omega), u1_ne (by omega), u1_ne (by omega), u1_eq]
            · rw [u1_ne (by omega), u1_ne (by omega), u1_eq]
            · rw [u1_ne (by omega), u1_eq]
            · intro i hi
              rw [u1_ne (by omega), u1_ne (by omega), u1_ne (by omega)]
            · rw [u1_ne (by omega), u1_ne (by omega), u1_eq]
            · rw [u1_ne (by omega), u1_eq]
            · rw [u1_eq]
            · intro i hi
              rw [u1_ne hi]
            · rw [u1_eq]
            · rw [u1_ne (by omega), u1_ne (by omega), u1_ne (by omega), u1_ne (by omega)]
          · rw [eW, if_pos rfl]
            unfold J_X12_readSlip_73 J_X12_readSlip_108
            rw [eu] at *
            simp (maxSteps := 2000000) (disch := first | assumption | omega) only [jI0, iAdd_j, iSub_j, iMul_j, iNeg_j, Option.bind_some, jlt_t, jlt_f, jlt, jle_t, jle_f, jle, jeq_t, jeq_f, jeq, ↓reduceIte, b3, o100, w3, l105, E35, hs, b4, w4, s105, eu3, eu4, k115]
        · refine ⟨up (up G4 9 (m * 3 + 2) v3) 6 3 (m + 1), K4, ⟨S4, fun hw => absurd (kk4.1 (by rw [← e10]; exact hw)) w4⟩, rc, ?_⟩
          rw [eW, if_pos rfl]
          unfold J_X12_readSlip_73 J_X12_readSlip_108
          have kk := kk4.2
          rw [eu] at *
          simp (maxSteps := 2000000) (disch := first | assumption | omega) only [jI0, iAdd_j, iSub_j, iMul_j, iNeg_j, Option.bind_some, jlt_t, jlt_f, jlt, jle_t, jle_f, jle, jeq_t, jeq_f, jeq, ↓reduceIte, b3, o100, w3, l105, E35, hs, b4, w4]
      · have r3 := s3.rd.rng
        have g3 : G3 10 0 ≠ 0 := fun hh => w3 (kk3.1 hh)
        have r3' : up G3 9 (m * 3 + 1) v2 10 0 ≠ 0 ∧ 0 ≤ up G3 9 (m * 3 + 1) v2 10 0 ∧ up G3 9 (m * 3 + 1) v2 10 0 ≤ 4 := by rw [up_ne (by decide)]; exact ⟨g3, r3.1, r3.2⟩
        have td := fun x y => oTakeD (N := N) (q := q) (x := x) (y := y) r3'
        have g63 : up (up G3 9 (m * 3 + 1) v2) 9 (m * 3 + 2) 0 6 3 = m := by rw [up_ne (by decide), up_ne (by decide), E3 6 (by decide) (by decide)]; exact gm
        refine ⟨up (up (up G3 9 (m * 3 + 1) v2) 9 (m * 3 + 2) 0) 6 3 (m + 1), K3, ⟨((((S2.trans s3.w).upG (c := 9) (by omega) _ _).upG (c := 9) (by omega) _ _).upG (c := 6) (by omega) _ _), fun hw => absurd hw (by rw [up_ne (by decide), up_ne (by decide), up_ne (by decide)]; exact g3)⟩, ?_, ?_⟩
        · unfold f_X8_readSlip
          simp (maxSteps := 2000000) (disch := first | assumption | omega) only [jI0, iAdd_j, iSub_j, iMul_j, iNeg_j, Option.bind_some, jlt_t, jlt_f, jlt, jle_t, jle_f, jle, jeq_t, jeq_f, jeq, ↓reduceIte, o10, o6, gm, c, a1, g1b, a2, s9, ob6, a3, oc6, td, g63, w6]
        · rw [eW, if_pos rfl]
          unfold J_X12_readSlip_73 J_X12_readSlip_108
          have kk := kk3.2
          simp (maxSteps := 2000000) (disch := first | assumption | omega) only [jI0, iAdd_j, iSub_j, iMul_j, iNeg_j, Option.bind_some, jlt_t, jlt_f, jlt, jle_t, jle_f, jle, jeq_t, jeq_f, jeq, ↓reduceIte, b3, o100, w3]
    · have r2 := s2.rd.rng
      have g2 : G2 10 0 ≠ 0 := fun hh => w2 (kk2.1 hh)
      have td : ∀ (H : Nat → Int → Int), H 10 = G2 10 → ∀ x y : Int32, f_X8_takeNumber N 10 x y (hp q H) = some (jI 0, hp q H) := fun H e x y => oTakeD (by rw [e]; exact ⟨g2, r2.1, r2.2⟩)
      have td1 := td (up G2 9 (m * 3) v) (up_ne (by decide))
      have td2 := td (up (up G2 9 (m * 3) v) 9 (m * 3 + 1) 0) (by rw [up_ne (by decide), up_ne (by decide)])
      have ob6 := ofB6 (N := N) (q := q) (G := up G2 9 (m * 3) v) (x := v) (w := 0) vr (by omega)
      have oc6 := crB6 (N := N) (q := q) (G := up (up G2 9 (m * 3) v) 9 (m * 3 + 1) 0) (x := v) vr
      have g63 : up (up (up G2 9 (m * 3) v) 9 (m * 3 + 1) 0) 9 (m * 3 + 2) 0 6 3 = m := by rw [up_ne (by decide), up_ne (by decide), up_ne (by decide), E2 6 (by decide)]; exact gm
      have S2 := (((((s1.trans s2).w.upG (c := 9) (by omega) (m * 3) v).upG (c := 9) (by omega) (m * 3 + 1) 0).upG (c := 9) (by omega) (m * 3 + 2) 0).upG (c := 6) (by omega) 3 (m + 1))
      refine ⟨up (up (up (up G2 9 (m * 3) v) 9 (m * 3 + 1) 0) 9 (m * 3 + 2) 0) 6 3 (m + 1), K2, ⟨S2, fun hw => absurd hw (by rw [up_ne (by decide), up_ne (by decide), up_ne (by decide), up_ne (by decide)]; exact g2)⟩, ?_, ?_⟩
      · unfold f_X8_readSlip
        simp (maxSteps := 2000000) (disch := first | assumption | omega) only [jI0, iAdd_j, iSub_j, iMul_j, iNeg_j, Option.bind_some, jlt_t, jlt_f, jlt, jle_t, jle_f, jle, jeq_t, jeq_f, jeq, ↓reduceIte, o10, o6, gm, c, a1, g1b, a2, s9, ob6, td1, oc6, td2, g63, w6]
      · have kk := kk2.2
        have ne : ¬ jI (K2 100 12) = jI 0 := by
          rw [jeq (by omega)]
          exact w2
        rw [eW, if_neg ne]
        unfold J_X12_readSlip_73 J_X12_readSlip_108
        simp (maxSteps := 2000000) (disch := first | assumption | omega) only [jI0, iAdd_j, iSub_j, iMul_j, iNeg_j, Option.bind_some, jlt_t, jlt_f, jlt, jle_t, jle_f, jle, jeq_t, jeq_f, jeq, ↓reduceIte, o100, w2]
  · obtain ⟨G1, K1, s1, s2, a1, b1⟩ := sFail (N := N) (q := q) h (c := 4) (by omega)
    have em : m = 8 := by omega
    have k2 := s2.2
    have kk := s1.rd.kk.2
    refine ⟨G1, K1, ⟨s1.w, fun hw => absurd hw s2.1⟩, ?_, ?_⟩
    · unfold f_X8_readSlip
      simp (maxSteps := 2000000) (disch := first | assumption | omega) only [jI0, iAdd_j, iSub_j, iMul_j, iNeg_j, Option.bind_some, jlt_t, jlt_f, jlt, jle_t, jle_f, jle, jeq_t, jeq_f, jeq, ↓reduceIte, o10, o6, gm, c, a1]
    · unfold f_X12_readSlip
      simp (maxSteps := 2000000) (disch := first | assumption | omega) only [jI0, iAdd_j, iSub_j, iMul_j, iNeg_j, Option.bind_some, jlt_t, jlt_f, jlt, jle_t, jle_f, jle, jeq_t, jeq_f, jeq, ↓reduceIte, o100, l105, hm, em, J_X12_readSlip_19, b1, k2]
end
