/-! the call bowl -/
section
variable {K1 K2 : (Int → Int) → (Int → Int) → Prop} {q : Nat × Nat × (Nat → Nat)} {G : Nat → Int → Int} {N : Nat}
theorem INV.qq {q' : Nat × Nat × (Nat → Nat)} {G' : Nat → Int → Int} (hI : INV K1 K2 q G) (E : ∀ a, a < 120 → (a < 82 ∨ 94 < a) → G' a = G a) (hW : BW q' G') : INV K1 K2 q' G' := by
  obtain ⟨⟨t1, t2, t3, t4, t5, t6, t7, t8, t9, t10, t11, t12, t13, t14⟩, i1⟩ := hI
  have e : ∀ a, (decide (a < 120) && decide (a < 82 ∨ 94 < a)) = true → G' a = G a := fun a h => by
    simp only [Bool.and_eq_true, decide_eq_true_eq] at h
    exact E a h.1 h.2
  refine ⟨?_, fun k k0 k1 => by rw [e 98 rfl, e 101 rfl]; exact i1 k k0 k1⟩
  unfold INV0 BB
  rw [e 0 rfl, e 1 rfl, e 2 rfl, e 3 rfl, e 4 rfl, e 5 rfl, e 10 rfl, e 12 rfl, e 13 rfl, e 17 rfl, e 18 rfl, e 20 rfl, e 21 rfl, e 22 rfl, e 23 rfl, e 25 rfl, e 31 rfl, e 32 rfl, e 34 rfl, e 37 rfl, e 38 rfl, e 39 rfl, e 40 rfl, e 41 rfl, e 42 rfl, e 43 rfl, e 44 rfl, e 46 rfl, e 47 rfl, e 48 rfl, e 49 rfl, e 50 rfl, e 51 rfl, e 52 rfl, e 54 rfl, e 55 rfl, e 56 rfl, e 57 rfl, e 60 rfl, e 62 rfl, e 63 rfl, e 64 rfl, e 65 rfl, e 66 rfl, e 67 rfl, e 68 rfl, e 70 rfl, e 71 rfl, e 72 rfl, e 73 rfl, e 76 rfl, e 100 rfl, e 102 rfl, e 103 rfl, e 104 rfl, e 117 rfl, e 118 rfl, e 119 rfl]
  exact ⟨t1, t2, t3, t4, t5, t6, t7, t8, t9, t10, t11, t12, t13, hW⟩
theorem RP.eq {G1 : Nat → Int → Int} {r : Nat} (hr : r < 4) (p : RP G r) (e : ∀ a, a < 120 → (a < 82 ∨ 94 < a) → G1 a = G a) : RP G1 r := by
  unfold RP at *
  rw [e _ (by omega) (by omega), e _ (by omega) (by omega), e _ (by omega) (by omega), e _ (by omega) (by omega), e _ (by omega) (by omega)]
  exact p
/-- the component makes the leans -/
theorem oMake (hI : INV K1 K2 q G) (hN : 100000 ≤ N) {r n : Nat} {d : Int} (hr : r < 4) (pr : RP G r) (sz : G (37 + 2 * r) 0 = n) (hB : BN (G 102) (G 119) r d n) : ∃ (q' : Nat × Nat × (Nat → Nat)) (G' : Nat → Int → Int), (INV K1 K2 q' G' ∧ (∀ a, a < 120 → (a < 82 ∨ 94 < a) → G' a = G a) ∧ G' 82 16 = bE (G 102) (G 119) r (bG (G 102) (G 119) r d n) n) ∧ f_X1_make N 82 2 (37 + 2 * r) (jI d) (hp q G) = some (hp q' G') := by
  have hBB := hI.1.1
  have hW : BW q G := hI.1.2.2.2.2.2.2.2.2.2.2.2.2.2
  have n8 := hB.2.1
  have hd := hB.2.2.2.2.2.2
  have bR0 := hBB.2
  obtain ⟨f, G1, ⟨a1, a2, a3⟩, a4⟩ := oMk29 (N := N) (q := q) (G := G) (a2 := 37 + 2 * r) hB (by omega) (by rw [bR0.1.2.2.1]; exact hB.1) (bR0.1.2.2.2.2.2.1) (fun H => (ro (q := q) (G := H) hr).1) (fun H b hH hb => by
    have e := bR0.2.2.1 b 3 (by omega) (by rw [hB.1]; omega) (by decide) (by decide)
    have e4 : H 4 ((b : Int) * 11 + 3) = roF (G 102) b := by rw [hH 4 (by omega), e]; rfl
    unfold f_X0_ofBand
    simp (maxSteps := 2000000) (disch := first | assumption | omega) only [jI0, iAdd_j, iSub_j, iMul_j, iNeg_j, Option.bind_some, jlt_t, jlt_f, jlt, jle_t, jle_f, jle, jeq_t, jeq_f, jeq, ↓reduceIte, o2, n4, l4, e4]) (fun H b hH hb => by
    have pH : RP H r := by
      unfold RP at *
      rw [hH _ (by omega), hH _ (by omega), hH _ (by omega), hH _ (by omega), hH _ (by omega)]
      exact pr
    have sH : H (37 + 2 * r) 0 = n := by rw [hH _ (by omega)]; exact sz
    have oi := oInt (q := q) (N := N) hr pH (k := (b : Int)) (by omega) (by omega)
    have ev : H (38 + 2 * r) b = wiF (G 119) r b := by
      rw [hH _ (by omega), ← (pr.2.2.2.2.2.2 b (by omega) (by omega)).1]
      rfl
    rw [ev] at oi
    exact oi)
  obtain ⟨G2, ⟨b1, b2⟩, b3⟩ := oRanges (N := N) (q := q) hB (by omega) a2
  have T2 : BT (G 102) (G 119) r d n G2 := a2.of (fun i _ => by rw [b1 82 (by omega)]) (b1 83 (by omega)) (b1 84 (by omega))
  obtain ⟨G3, bd, ⟨c1, s, c2, c3⟩, c4⟩ := oTrial (N := N) (q := q) T2 hB (by omega)
  have sP := bP_r (s := s) hB n (Nat.le_refl n) c2
  have sS := ss_pre hB n (Nat.le_refl n) c2
  rw [c3] at sP sS
  have T4 : BT (G 102) (G 119) r d n (up G3 82 3 bd) := T2.of (fun i hi => by rw [up_eq, u1_ne (by omega), c1 82 (by omega)]) (by rw [up_ne (by decide), c1 83 (by omega)]) (by rw [up_ne (by decide), c1 84 (by omega)])
  obtain ⟨G5, ⟨d1, d2⟩, d3⟩ := oNarrow (N := N) (q := q) (bd := bd) T4 hB (by omega) (by rw [up_eq, u1_eq]) (by omega) (fun b hb => by
    rw [up_ne (by decide), up_ne (by decide), up_ne (by decide), c1 85 (by omega), c1 86 (by omega), c1 87 (by omega)]
    exact ⟨(b2 b hb).1, (b2 b hb).2.1⟩)
  have v : ∀ b : Nat, b < n → (1 ≤ G5 85 b ∧ G5 85 b ≤ 100000 ∧ 1 ≤ G5 86 b ∧ G5 86 b ≤ 3879) := fun b hb => by
    have x := d2 b hb
    have l1 := lw_1 hB (b + 1) (by omega)
    have m1 := mo_r hB (b + 1) (by omega)
    have sj := su_r hB hb
    have wr := hB.2.2.2.2.1 b (by omega) (by omega)
    rw [x.1, x.2]
    omega
  have e82 : ∀ i : Int, 4 ≤ i → G5 82 i = G 82 i := fun i hi => by
    rw [d1 82 (by decide) (by decide), up_eq, u1_ne (by omega), c1 82 (by omega), b1 82 (by omega), a3 i (by omega)]
  have W5 : BW q G5 := by
    unfold BW at *
    rw [e82 14 (by omega), e82 15 (by omega)]
    exact hW
  have T5 : BT (G 102) (G 119) r d n G5 := T4.of (fun i _ => by rw [d1 82 (by decide) (by decide)]) (d1 83 (by decide) (by decide)) (d1 84 (by decide) (by decide))
  obtain ⟨q', G6, L, s1, s2, ⟨f1, f2, ⟨f3, f4⟩, ⟨f5, f6, f7⟩, ⟨f8, f9, f10⟩, f11⟩, f12⟩ := oRoom (N := N) (q := q) (n := n) W5 (by omega) n8 T5.1.1 (fun b hb => by have := v b hb; omega) (fun b hb => by have := v b hb; omega) (fun b hb => by have := v b hb; unfold bR; omega)
  have k3 : G5 82 3 = bd := by rw [d1 82 (by decide) (by decide), up_eq, u1_eq]
  have g85 : G6 85 = G5 85 := f1 85 (by decide) (by decide)
  have g86 : G6 86 = G5 86 := f1 86 (by decide) (by decide)
  have B6 : BS q' (G 102) (G 119) r d n bd L s1 s2 G6 := by
    refine ⟨⟨?_, ?_, ?_, ?_, f3, f4⟩, fun b hb => ⟨⟨?_, ?_⟩, ?_, ?_, ?_⟩, ⟨f5, f6, f7⟩, by omega, by omega⟩
    · rw [f2 0 (by decide) (by decide)]; exact T5.1.1
    · rw [f2 1 (by decide) (by decide)]; exact T5.1.2.1
    · rw [f2 2 (by decide) (by decide)]; exact T5.1.2.2
    · rw [f2 3 (by decide) (by decide)]; exact k3
    · rw [f1 83 (by decide) (by decide)]; exact (T5.2 b hb).1
    · rw [f1 84 (by decide) (by decide)]; exact (T5.2 b hb).2
    · rw [g85, g86]
      have := v b hb
      omega
    · rw [g85, g86]
      have := f11 b hb
      unfold bR at this
      omega
    · rw [f1 88 (by decide) (by decide), d1 88 (by decide) (by decide), up_ne (by decide), c1 88 (by omega)]
      exact (b2 b hb).2.2
  have gf := gr_fe (roF (G 102)) (wiF (G 119) r) (G 102 141) d hd.1 n (Nat.le_refl n)
  have gl : bP (G 102) (G 119) r (bG (G 102) (G 119) r d n) n ≤ bd := by
    rw [← c3]
    exact gr_le (roF (G 102)) (wiF (G 119) r) (G 102 141) d hd.1 c2
  have gO : ∀ b, b < n → gOK (G 102) (G 119) r d n bd G6 b := fun b hb => by
    have x := d2 b hb
    have o1 := ss_one (s := bG (G 102) (G 119) r d n) hB gf hb
    have o2' := ss_post (s := bG (G 102) (G 119) r d n) hB gf (n - b - 1) (b + 1) (by omega)
    have o3 := bP_r (s := bG (G 102) (G 119) r d n) hB (b + 1) (by omega) (fe_pre gf (by omega))
    unfold gOK
    rw [g85, g86, x.1, x.2]
    unfold bO off at o1
    omega
  obtain ⟨G7, t1, t2, ⟨h1, h2, ⟨h3, h4⟩, h5⟩, h6⟩ := oWays (N := N) B6 hB hN gO
  have E : ∀ a, a < 120 → (a < 82 ∨ 94 < a) → G7 a = G a := fun a x0 x1 => by
    have y1 := f6.2.2
    have y2 := f7.2.2
    rw [h1 a (by omega) (by omega) (by omega), f1 a x0 (by omega), d1 a (by omega) (by omega), up_ne (by omega), c1 a (by omega), b1 a (by omega), a1 a (by omega)]
  have W7 : BW q' G7 := by
    rcases h2 with ⟨z1, z2⟩ | ⟨z1, z2⟩
    · rw [z1] at h3
      rw [z2] at h4
      exact ⟨L, s1, s2, h3, h4, f5, f6.1, f7.1, f6.2.1, f7.2.1, f8, f9, f10, f6.2.2, f7.2.2⟩
    · rw [z1] at h3
      rw [z2] at h4
      exact ⟨L, s2, s1, h3, h4, Ne.symm f5, f7.1, f6.1, f7.2.1, f6.2.1, f8, f9, f10, f7.2.2, f6.2.2⟩
  refine ⟨q', G7, ⟨INV.qq hI E W7, E, h5⟩, ?_⟩
  rw [a4, L_X1_make_29]
  have c : ¬ (n : Int) < n := by omega
  have h0 := a2.1.1
  have w3 := (w82 q G3 bd).2.2.2.1
  simp (maxSteps := 2000000) (disch := first | assumption | omega) only [jI0, iAdd_j, iSub_j, iMul_j, iNeg_j, Option.bind_some, jlt_t, jlt_f, jlt, jle_t, jle_f, jle, jeq_t, jeq_f, jeq, ↓reduceIte, o82, h0, c, b3, c4, w3, d3, f12]
  exact h6
theorem op_bowl (hN : 100000 ≤ N) (hI : INV K1 K2 q G) {row d what : Int} (h1 : -2147483648 ≤ row ∧ row < 2147483648) (h2 : -2147483648 ≤ d ∧ d < 2147483648) (h3 : -2147483648 ≤ what ∧ what < 2147483648) : OP K1 K2 q G (f_X11_bowl N 0 (jI row) (jI d) (jI what)) (f_X12_bowl N 100 (jI row) (jI d) (jI what)) := by
  have hB := hI.1.1; have hV := hB.1; have hT := hI.1.2.1; have g := hV.1
  have b2 : G 2 2 = G 102 26 := hB.2.1.2.2.1
  by_cases c : ∃ r : Nat, r < 4 ∧ row = r ∧ bCan G r d what
  · obtain ⟨r, hr, rfl, hc⟩ := c
    have hc' := hc
    obtain ⟨⟨pr, c2, c3⟩, c1, c4, c5⟩ := hc'
    obtain ⟨n, hn⟩ := Int.eq_ofNat_of_zero_le (show 0 ≤ G 102 26 by omega)
    have hBN : BN (G 102) (G 119) r d n := by
      refine ⟨hn, by omega, by omega, fun b b0 b1 => ?_, fun b b0 b1 => ?_, by omega, c5⟩
      · have := hV.2.2.1 b b0 (by omega)
        unfold roF
        omega
      · have x := c3 b b0 (by omega)
        have y := (pr.2.2.2.2.2.2 b b0 (by omega)).1
        unfold wiF
        omega
    have cy := oCanY (q := q) (N := N) (by omega) hr hc b2 (by omega)
    obtain ⟨q', G', ⟨hI', e, eb⟩, mk⟩ := oMake (N := N) hI hN hr pr (n := n) (by omega) hBN
    have hV' := hI'.1.1.1
    have hT' := hI'.1.2.1
    have e102 : G' 102 = G 102 := e 102 (by decide) (by decide)
    have e119 : G' 119 = G 119 := e 119 (by decide) (by decide)
    have hcG : bCan G' r d what := by
      refine ⟨⟨pr.eq hr e, by rw [e102, e _ (by omega) (by omega)]; exact c2, ?_⟩, by rw [e102]; exact c1, by rw [e102]; exact c4, c5⟩
      unfold AW
      rw [e _ (by omega) (by omega), e _ (by omega) (by omega)]
      exact c3
    have my := mCanY (q := q') (N := N) (by omega) hr hcG (by rw [e102]; omega)
    obtain ⟨G2, m1, m2⟩ := mBowl (q := q') (N := N) (by omega) hBN (what := what) (by omega) e102 e119
    have gf := gr_fe (roF (G 102)) (wiF (G 119) r) (G 102 141) d c5.1 n (Nat.le_refl n)
    have bg := bE_r (s := bG (G 102) (G 119) r d n) hBN (Nat.le_refl n) gf
    have eP : pc (roF (G 102)) (wiF (G 119) r) (G 102 141) (gr (roF (G 102)) (wiF (G 119) r) (G 102 141) d n) n = bP (G 102) (G 119) r (bG (G 102) (G 119) r d n) n := rfl
    have eG : gr (roF (G 102)) (wiF (G 119) r) (G 102 141) d n = bG (G 102) (G 119) r d n := rfl
    rw [eP, eG] at m2
    have wt := w100t (q := q') hT'
    have l26 : G' 102 26 = n := by rw [e102]; exact hn
    refine ⟨jI (if what = -1 then bP (G 102) (G 119) r (bG (G 102) (G 119) r d n) n else bG (G 102) (G 119) r d n what - 9), q', G', G2, ?_, ?_, hI'.sc (SC.one (c := 114) m1 rfl)⟩
    · unfold f_X11_bowl
      by_cases cw : what = -1
      · rw [if_pos cw]
        have us := lUsr40 (x := bE (G 102) (G 119) r (bG (G 102) (G 119) r d n) n) bg.1.1 (by omega)
        rw [bg.2] at us
        have df : f_X1_difference N 82 (hp q' G') = some (jI (bP (G 102) (G 119) r (bG (G 102) (G 119) r d n) n), hp q' G') := by
          unfold f_X1_difference
          simp (maxSteps := 2000000) (disch := first | assumption | omega) only [jI0, iAdd_j, iSub_j, iMul_j, iNeg_j, Option.bind_some, jlt_t, jlt_f, jlt, jle_t, jle_f, jle, jeq_t, jeq_f, jeq, ↓reduceIte, o82, eb, us, jLI]
        simp (maxSteps := 2000000) (disch := first | assumption | omega) only [jI0, iAdd_j, iSub_j, iMul_j, iNeg_j, Option.bind_some, jlt_t, jlt_f, jlt, jle_t, jle_f, jle, jeq_t, jeq_f, jeq, ↓reduceIte, o0, cy, rA, o82, mk, df]
      · rw [if_neg cw]
        obtain ⟨k, hk⟩ := Int.eq_ofNat_of_zero_le (show 0 ≤ what by omega)
        have us := lUsrS (x := bE (G 102) (G 119) r (bG (G 102) (G 119) r d n) n) bg.1.1 (by omega) (b := k) (by omega)
        have la := lAnd31 (x := bE (G 102) (G 119) r (bG (G 102) (G 119) r d n) n / (sw k : Nat)) (Int.ediv_nonneg (by omega) (by omega))
        rw [bE_d (s := bG (G 102) (G 119) r d n) hBN (Nat.le_refl n) gf (k := k) (by omega)] at la
        have df : f_X1_leanOf N 82 (jI what) (hp q' G') = some (jI (bG (G 102) (G 119) r d n what - 9), hp q' G') := by
          rw [hk]
          unfold f_X1_leanOf f_X1_leanShift
          simp (maxSteps := 2000000) (disch := first | assumption | omega) only [jI0, iAdd_j, iSub_j, iMul_j, iNeg_j, Option.bind_some, jlt_t, jlt_f, jlt, jle_t, jle_f, jle, jeq_t, jeq_f, jeq, ↓reduceIte, o82, eb, us, la, jLI]
        simp (maxSteps := 2000000) (disch := first | assumption | omega) only [jI0, iAdd_j, iSub_j, iMul_j, iNeg_j, Option.bind_some, jlt_t, jlt_f, jlt, jle_t, jle_f, jle, jeq_t, jeq_f, jeq, ↓reduceIte, o0, cy, rA, o82, mk, cw, df]
    · unfold f_X12_bowl
      simp (maxSteps := 2000000) (disch := first | assumption | omega) only [jI0, iAdd_j, iSub_j, iMul_j, iNeg_j, Option.bind_some, jlt_t, jlt_f, jlt, jle_t, jle_f, jle, jeq_t, jeq_f, jeq, ↓reduceIte, wt, o100, my, l102, l26, m2]
  · have cn := oCanN (q := q) (N := N) (by omega) h1 h2 h3 (fun r hr => hI.rp hr) b2 (by omega) c
    refine OP.rf hI (-3) (jI (-100)) ?_ ?_
    · unfold f_X11_bowl
      simp (maxSteps := 2000000) (disch := first | assumption | omega) only [jI0, iAdd_j, iSub_j, iMul_j, iNeg_j, Option.bind_some, jlt_t, jlt_f, jlt, jle_t, jle_f, jle, jeq_t, jeq_f, jeq, ↓reduceIte, o0, cn, X11_refuse]
    · intro G1 hM e eo
      have wt := w100t (q := q) hM.2
      have mn := mCanN (q := q) (G := G1) (N := N) (row := row) (d := d) (what := what) (by omega) h1 h2 h3 (fun r hr => by
        rcases hI.rp hr with ⟨y1, y2⟩ | p
        · exact .inl ⟨by rw [eo _ (by omega)]; exact y1, by rw [eo 117 (by decide)]; exact y2⟩
        · refine .inr ⟨p.eo hr eo, ?_⟩
          rw [eo 118 (by decide)]
          have := p.2.2.1
          have := p.1
          have := p.2.1
          omega) (by rw [e]; omega) (fun ⟨r, hr, hh, ⟨⟨y1, y2, y3⟩, y4, y5, y6⟩⟩ => c ⟨r, hr, hh, ⟨⟨y1.eo hr (fun a ha => (eo a ha).symm), by rw [← e, ← eo (37 + 2 * r) (by omega)]; exact y2, by rw [← AW.eo hr eo]; exact y3⟩, by rw [← e]; exact y4, by rw [← e]; exact y5, y6⟩⟩)
      unfold f_X12_bowl
      simp (maxSteps := 2000000) (disch := first | assumption | omega) only [jI0, iAdd_j, iSub_j, iMul_j, iNeg_j, Option.bind_some, jlt_t, jlt_f, jlt, jle_t, jle_f, jle, jeq_t, jeq_f, jeq, ↓reduceIte, wt, o100, mn, X12_no]
end
