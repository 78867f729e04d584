/-! the call basket -/
section
variable {K1 K2 : (Int → Int) → (Int → Int) → Prop} {q : Nat × Nat × (Nat → Nat)} {G : Nat → Int → Int} {N : Nat}
theorem INV0.set {G2 : Nat → Int → Int} (h : INV0 K1 K2 q G) (e : ∀ a, relv a = true → G2 a = G a) (p0 : G2 100 0 = 0) (p1 : G2 0 1 = 0) (p2 : G2 100 6 = 0) (p3 : G2 10 0 = G2 100 14) (p4 : G2 10 1 = G2 100 15) (p7 : G2 12 5 = G 12 5) (p8 : G2 25 7 = G 25 7) (p9 : G2 25 8 = G 25 8) : INV0 K1 K2 q G2 := by
  unfold INV0 BB BW at *
  rw [e 1 rfl, e 2 rfl, e 3 rfl, e 4 rfl, e 5 rfl, e 13 rfl, e 17 rfl, e 18 rfl, e 20 rfl, e 21 rfl, e 22 rfl, e 23 rfl, e 31 rfl, e 32 rfl, e 34 rfl, e 37 rfl, e 38 rfl, e 39 rfl, e 40 rfl, e 41 rfl, e 42 rfl, e 43 rfl, e 44 rfl, e 46 rfl, e 47 rfl, e 48 rfl, e 49 rfl, e 50 rfl, e 51 rfl, e 52 rfl, e 54 rfl, e 55 rfl, e 56 rfl, e 57 rfl, e 60 rfl, e 62 rfl, e 63 rfl, e 64 rfl, e 65 rfl, e 66 rfl, e 67 rfl, e 68 rfl, e 70 rfl, e 71 rfl, e 72 rfl, e 73 rfl, e 76 rfl, e 82 rfl, e 102 rfl, e 103 rfl, e 104 rfl, e 117 rfl, e 118 rfl, e 119 rfl, p1, p2, p3, p4, p7, p8, p9]
  obtain ⟨t1, t2, t3, t4, t5, t6, t7, t8, t9, t10⟩ := h
  exact ⟨t1, p0, t3, t4, t5, t6, t7, ⟨rfl, by omega, by omega, fun k k0 k1 => absurd k1 (by omega)⟩, ⟨rfl, rfl⟩, t10⟩
/-- cells that basket leaves -/
def basv (a : Nat) : Bool := !([0, 2, 3, 4, 5, 6, 7, 8, 9, 10, 12, 17, 21, 25, 100, 102, 105].contains a)
theorem INV.bas {Km : Nat → Int → Int} (hI : INV K1 K2 q G) (e : ∀ a, basv a = true → Km a = G a) (hB : BB Km) (hi : ∀ j : Int, 401 ≤ j → Km 102 j = G 102 j) (z143 : Km 102 143 = -1) (z400 : Km 102 400 = -1) (p0 : Km 100 0 = 0) (p1 : Km 0 1 = 0) (p2 : Km 100 6 = 0) (p3 : Km 10 0 = Km 100 14) (p4 : Km 10 1 = Km 100 15) (p12 : Km 12 5 = 0) (p7 : Km 25 7 = 0) (p8 : Km 25 8 = 0) (p17 : Km 17 0 = 0) (p21 : Km 21 0 = 0) : INV K1 K2 q Km := by
  obtain ⟨⟨u1', u2, u3, u4, u5, u6, u7, u8, u9, u10, u11, u12, u13, u14⟩, i1⟩ := hI
  refine ⟨?_, fun k k0 k1 => by rw [e 98 rfl, e 101 rfl]; exact i1 k k0 k1⟩
  unfold INV0
  rw [e 1 rfl, e 13 rfl, e 31 rfl, e 32 rfl, e 34 rfl, e 37 rfl, e 38 rfl, e 39 rfl, e 40 rfl, e 41 rfl, e 42 rfl, e 43 rfl, e 44 rfl, e 46 rfl, e 47 rfl, e 48 rfl, e 49 rfl, e 50 rfl, e 51 rfl, e 52 rfl, e 54 rfl, e 55 rfl, e 56 rfl, e 57 rfl, e 60 rfl, e 62 rfl, e 63 rfl, e 64 rfl, e 65 rfl, e 66 rfl, e 67 rfl, e 68 rfl, e 70 rfl, e 71 rfl, e 72 rfl, e 73 rfl, e 76 rfl, e 103 rfl, e 104 rfl, e 117 rfl, e 118 rfl, e 119 rfl, p0, p1, p2, p12, p7, p8]
  refine ⟨hB, rfl, .inl ⟨p17, z143⟩, .inl ⟨p21, z400⟩, ?_, u6.congr (fun j j0 j1 => hi _ (by omega)), u7.congr (fun j j0 j1 => hi _ (by omega)), ⟨rfl, by omega, by omega, fun k k0 k1 => absurd k1 (by omega)⟩, ⟨p3, p4⟩, u10, ⟨Int.le_refl _, by omega, fun b b0 b1 t => absurd t (by simp)⟩, ⟨.inl rfl, fun h => by omega⟩, ⟨.inl rfl, fun h => by omega⟩, ?_⟩
  · exact u5.congr (fun j j0 j1 => hi j (by omega)) (fun _ _ _ => rfl)
  · unfold BW at *
    rw [e 82 rfl]
    exact u14
theorem basRead (hN : 10000 ≤ N) (hI : INV K1 K2 q G) {x : Int} (c : 0 ≤ x ∧ x ≤ G 100 6) : ∃ (Ga : Nat → Int → Int) (ra : Int), f_X8_readBasket N 10 1 (jI x) 6 (hp q (up G 0 1 0)) = some (jI ra, hp q Ga) ∧ ((∀ a, a ≠ 0 → (a < 6 ∨ 10 < a) → Ga a = G a) ∧ Ga 0 1 = 0) ∧ ((ra = 1 ∧ Ga 10 0 = 0 ∧ Ga 10 1 = -1) ∨ (ra = 0 ∧ 1 ≤ Ga 10 0 ∧ Ga 10 0 ≤ 4)) ∧ ∀ G1 : Nat → Int → Int, G1 100 = G 100 → G1 104 = G 104 → ∃ Kb : Nat → Int → Int, (∀ a, a ≠ 100 → a ≠ 105 → Kb a = G1 a) ∧ (Kb 100 0 = 0 ∧ Kb 100 6 = 0) ∧ ((ra = 1 ∧ Kb 100 12 = 0 ∧ BV (Kb 105) ∧ BR (Ga 6) (Ga 7) (Ga 8) (Ga 9) (Kb 105)) ∨ (ra = 0 ∧ Kb 100 12 = Ga 10 0 ∧ Kb 100 13 = Ga 10 1)) ∧ f_X12_basket N 100 (jI x) (hp q G1) = J_X12_basket_80 N 100 (hp q Kb) := by
  have hB := hI.1.1; have hV := hB.1; have hT := hI.1.2.1; have g := hV.1
  obtain ⟨e01, t0, t1, tb⟩ := hI.1.2.2.2.2.2.2.2.1
  obtain ⟨Gp, ⟨a1, ⟨a2, a3, a4, a5, a6⟩, a7⟩, a8⟩ := oPre (N := N) (q := q) (G := up G 0 1 0) (n := x) (by omega)
  have Gpo : ∀ a, a ≠ 10 → a ≠ 6 → a ≠ 0 → Gp a = G a := fun a i1 i2 i3 => by rw [a1 a i1 i2, up_ne i3]
  have tc : TkC Gp x (G 104) := ⟨a4, a5, by omega, fun k k0 k1 => by
    have := tb k k0 (by omega)
    rw [Gpo 1 (by decide) (by decide) (by decide)]
    exact ⟨⟨this.1, this.2.1⟩, this.2.2⟩⟩
  have tm : ∀ K : Nat → Int → Int, K 100 9 = x → K 104 = G 104 → TkM K x (G 104) := fun K i1 i2 => ⟨i1, by omega, fun k k0 k1 => by
    have := tb k k0 (by omega)
    rw [i2]
    exact ⟨⟨this.1, this.2.1⟩, rfl⟩⟩
  obtain ⟨Kd, ⟨d1, ⟨d2, d3, d4, d5, d6⟩, d7⟩, d8⟩ := mPre (N := N) (q := q) (K := G) (n := x) hN hT ⟨c.1, c.2, t1⟩
  obtain ⟨Ga, Kda, ra, ⟨f1, f2, f3⟩, rda, ca, ea, _⟩ := sRead (N := N) (q := q) hN tc (tm Kd d2 (d1 104 (by decide) (by decide))) ⟨a2, a3, a6⟩ ⟨d4, d5⟩ a7 d7
  rw [ea] at a8
  refine ⟨Ga, ra, a8, ⟨fun a i1 i2 => by rw [f1 a i2, Gpo a (by omega) (by omega) i1], by rw [f1 0 (by decide), a1 0 (by decide) (by decide), up_eq, u1_eq]⟩, ?_, ?_⟩
  · rcases ca with ⟨r1, w0', _⟩ | ⟨r1, w0', _⟩
    · exact .inl ⟨r1, w0', (rda.al w0').1.2.1⟩
    · have := rda.rng
      exact .inr ⟨r1, by omega, by omega⟩
  · intro G1 g100 g104
    obtain ⟨Kp, ⟨b1, ⟨b2, b3, b4, b5, b6⟩, b7⟩, b8⟩ := mPre (N := N) (q := q) (K := G1) (n := x) hN (by rw [g100]; exact hT) (by rw [g100]; exact ⟨c.1, c.2, t1⟩)
    obtain ⟨Gb, Kb, rb, ⟨y1, y2, y3⟩, rdb, cb, eb, mb⟩ := sRead (N := N) (q := q) hN tc (tm Kp b2 (by rw [b1 104 (by decide) (by decide)]; exact g104)) ⟨a2, a3, a6⟩ ⟨b4, b5⟩ a7 b7
    rw [ea] at eb
    have pe := Prod.mk.inj (Option.some.inj eb)
    have r1 : ra = 0 ∨ ra = 1 := by rcases ca with t | t <;> omega
    have r2 : rb = 0 ∨ rb = 1 := by rcases cb with t | t <;> omega
    have e3 : ra = rb := (jI_eq (by omega) (by omega) (by omega) (by omega)).mp pe.1
    have eq := pe.2
    rw [mb] at b8
    refine ⟨Kb, fun a i1 i2 => by rw [y2 a i1 i2, b1 a i1 i2], ⟨by rw [y3 0 (by decide) (by decide) (by decide) (by decide) (by decide) (by decide)]; exact b6, by rw [y3 6 (by decide) (by decide) (by decide) (by decide) (by decide) (by decide)]; exact b3⟩, ?_, b8⟩
    rcases ca with ⟨s1, w0', bV, bR⟩ | ⟨s1, w0', _⟩
    · rcases cb with ⟨_, wb, bVb, bRb⟩ | ⟨s2, _⟩
      · exact .inl ⟨s1, (rdb.al wb).1.2.2.1, bVb, BR.tr eq bV bR bVb bRb⟩
      · omega
    · rcases cb with ⟨s2, _⟩ | ⟨_, wb, kw⟩
      · omega
      · have db := rdb.dd wb
        have da := rda.dd w0'
        have dba := db.1
        have daa := da.1
        have kk : Kb 100 12 = Gb 10 0 ∧ Kb 100 13 = Gb 10 1 := by
          rcases db.2 with t | t
          · exact t
          · exact absurd t.2.1 kw
        obtain ⟨_, g0, g1, _⟩ := o10 (q := q) (G := Ga)
        obtain ⟨_, g0', g1', _⟩ := o10 (q := q) (G := Gb)
        rw [eq] at g0 g1
        have e0 := jIs (g0.symm.trans g0') (by omega) (by omega)
        have e1 := jIs (g1.symm.trans g1') (by omega) (by omega)
        exact .inr ⟨s1, by omega, by omega⟩
theorem opBas1 (hI : INV K1 K2 q G) {x : Int} (hN : 10000 ≤ N) (ot : f_X11_onTape N 0 (jI x) (hp q G) = some (jI 1, hp q G)) {Ga : Nat → Int → Int} (a8 : f_X8_readBasket N 10 1 (jI x) 6 (hp q (up G 0 1 0)) = some (jI 1, hp q Ga)) (Gao : ∀ a, a ≠ 0 → (a < 6 ∨ 10 < a) → Ga a = G a) (Ga01 : Ga 0 1 = 0) (w0' : Ga 10 0 = 0) (Ga1 : Ga 10 1 = -1) (gen : ∀ G1 : Nat → Int → Int, G1 100 = G 100 → G1 104 = G 104 → ∃ Kb : Nat → Int → Int, (∀ a, a ≠ 100 → a ≠ 105 → Kb a = G1 a) ∧ (Kb 100 0 = 0 ∧ Kb 100 6 = 0) ∧ (Kb 100 12 = 0 ∧ BV (Kb 105) ∧ BR (Ga 6) (Ga 7) (Ga 8) (Ga 9) (Kb 105)) ∧ f_X12_basket N 100 (jI x) (hp q G1) = J_X12_basket_80 N 100 (hp q Kb)) : OP K1 K2 q G (f_X11_basket N 0 (jI x)) (f_X12_basket N 100 (jI x)) := by
  have w01 := w0 q G 0
  obtain ⟨Gx, s1, e1⟩ := baBecome (q := q) (G := Ga) (N := N) ba2 ba6 (by omega)
  generalize hG5 : up (up (up (up (up Gx 17 0 0) 21 0 0) 12 5 0) 25 7 0) 25 8 0 = G5
  have A : ∀ a, a ≠ 0 → (a < 2 ∨ 10 < a) → a ≠ 17 → a ≠ 21 → a ≠ 12 → a ≠ 25 → G5 a = G a := fun a i0 i1 i2 i3 i4 i5 => by
    rw [← hG5, up_ne i5, up_ne i5, up_ne i4, up_ne i3, up_ne i2, s1.1 a (by omega) (by omega) (by omega) (by omega), Gao a i0 (by omega)]
  have A0 : G5 0 1 = 0 := by
    rw [← hG5, up_ne (by decide), up_ne (by decide), up_ne (by decide), up_ne (by decide), up_ne (by decide), s1.1 0 (by decide) (by decide) (by decide) (by decide)]
    exact Ga01
  have F1 : ∀ a, 2 ≤ a → a ≤ 10 → G5 a = Gx a := fun a i0 i1 => by
    rw [← hG5, up_ne (by omega), up_ne (by omega), up_ne (by omega), up_ne (by omega), up_ne (by omega)]
  have D10 : G5 10 = Ga 10 := by rw [F1 10 (by decide) (by decide), s1.1 10 (by decide) (by decide) (by decide) (by decide)]
  have D17 : G5 17 0 = 0 := by rw [← hG5, up_ne (by decide), up_ne (by decide), up_ne (by decide), up_ne (by decide), up_eq, u1_eq]
  have D21 : G5 21 0 = 0 := by rw [← hG5, up_ne (by decide), up_ne (by decide), up_ne (by decide), up_eq, u1_eq]
  have D12 : G5 12 5 = 0 := by rw [← hG5, up_ne (by decide), up_ne (by decide), up_eq, u1_eq]
  have D7 : G5 25 7 = 0 := by rw [← hG5, up_eq, u1_ne (by decide), up_eq, u1_eq]
  have D8 : G5 25 8 = 0 := by rw [← hG5, up_eq, u1_eq]
  obtain ⟨Kb, kb1, ⟨kb2, kb3⟩, ⟨wk, bVb, bR2⟩, mb⟩ := gen G5 (A 100 (by decide) (by decide) (by decide) (by decide) (by decide) (by decide)) (A 104 (by decide) (by decide) (by decide) (by decide) (by decide) (by decide))
  obtain ⟨Km, ⟨m1, ⟨m2, m3, m4⟩, m5⟩, m6⟩ := mFin1 (N := N) (q := q) (K := Kb) hN wk
  rw [m6] at mb
  have l6 : G5 2 6 = Kb 105 142 := by rw [F1 2 (by decide) (by decide), s1.2.1 6 (by decide) (by decide), bR2.1.2.2.2.2.2.2]
  refine ⟨jI (Kb 105 142), q, G5, Km, ?_, mb, ?_⟩
  · unfold f_X11_basket f_X6_clear f_X11_forgetAnswers f_X10_forget f_X9_forgetWish f_X9_forgetPrint
    have w17' := w17 q Gx 0
    have w21' := w21 q (up Gx 17 0 0) 0
    have w12' := w12 q (up (up Gx 17 0 0) 21 0 0) 0
    have w25' := w25 q (up (up (up Gx 17 0 0) 21 0 0) 12 5 0) 0
    have w25'' := w25 q (up (up (up (up Gx 17 0 0) 21 0 0) 12 5 0) 25 7 0) 0
    simp (maxSteps := 2000000) (disch := first | assumption | omega) only [jI0, iAdd_j, iSub_j, iMul_j, iNeg_j, Option.bind_some, jlt_t, jlt_f, jlt, jle_t, jle_f, jle, jeq_t, jeq_f, jeq, ↓reduceIte, ot, o0, w01, o10, a8, o2, e1, o17, o21, w17', w21', o12, o25, w12', w25', w25'', hG5, l6]
  · have E5 : ∀ a, a < 100 → Km a = G5 a := fun a h => by rw [m1 a (by omega) (by omega), kb1 a (by omega) (by omega)]
    have S : SameA 0 143 (Kb 105) (Km 102) := fun j j0 j1 => by rw [m5 j j0, if_pos j1]
    have k102 : Kb 102 = G 102 := by rw [kb1 102 (by decide) (by decide), A 102 (by decide) (by decide) (by decide) (by decide) (by decide) (by decide)]
    have BBm : BB Km := by
      refine ⟨bVb.congr S, bR2.congr S bVb ?_ ?_ ?_ ?_⟩
      · intro j j0 j1; rw [E5 2 (by decide), F1 2 (by decide) (by decide)]; exact s1.2.1 j j0 j1
      · intro j j0 j1; rw [E5 3 (by decide), F1 3 (by decide) (by decide)]; exact s1.2.2.1 j j0 j1
      · intro j j0 j1; rw [E5 4 (by decide), F1 4 (by decide) (by decide)]; exact s1.2.2.2.1 j j0 j1
      · intro j j0 j1; rw [E5 5 (by decide), F1 5 (by decide) (by decide)]; exact s1.2.2.2.2 j j0 j1
    have zz10 : Km 10 = Ga 10 := by rw [E5 10 (by decide), D10]
    refine INV.bas hI (fun a h => ?_) BBm (fun j j0 => ?_) ?_ ?_ ?_ ?_ ?_ ?_ ?_ ?_ ?_ ?_ ?_ ?_
    · have n0 : a ≠ 0 := by rintro rfl; cases h
      have n2 : a ≠ 2 := by rintro rfl; cases h
      have n3 : a ≠ 3 := by rintro rfl; cases h
      have n4 : a ≠ 4 := by rintro rfl; cases h
      have n5 : a ≠ 5 := by rintro rfl; cases h
      have n6 : a ≠ 6 := by rintro rfl; cases h
      have n7 : a ≠ 7 := by rintro rfl; cases h
      have n8 : a ≠ 8 := by rintro rfl; cases h
      have n9 : a ≠ 9 := by rintro rfl; cases h
      have n10 : a ≠ 10 := by rintro rfl; cases h
      have n12 : a ≠ 12 := by rintro rfl; cases h
      have n17 : a ≠ 17 := by rintro rfl; cases h
      have n21 : a ≠ 21 := by rintro rfl; cases h
      have n25 : a ≠ 25 := by rintro rfl; cases h
      have n100 : a ≠ 100 := by rintro rfl; cases h
      have n102 : a ≠ 102 := by rintro rfl; cases h
      have n105 : a ≠ 105 := by rintro rfl; cases h
      rw [m1 a n102 n100, kb1 a n100 n105, A a n0 (by omega) n17 n21 n12 n25]
    · rw [m5 j (by omega), if_neg (by omega), if_neg (by omega), k102]
    · rw [m5 143 (by omega), if_neg (by omega), if_pos (by omega)]
    · rw [m5 400 (by omega), if_neg (by omega), if_pos (by omega)]
    · rw [m4 0 (by decide) (by decide)]; exact kb2
    · rw [E5 0 (by decide)]; exact A0
    · rw [m4 6 (by decide) (by decide)]; exact kb3
    · rw [zz10, m2]; exact w0'
    · rw [zz10, m3]; exact Ga1
    · rw [E5 12 (by decide)]; exact D12
    · rw [E5 25 (by decide)]; exact D7
    · rw [E5 25 (by decide)]; exact D8
    · rw [E5 17 (by decide)]; exact D17
    · rw [E5 21 (by decide)]; exact D21
theorem opBas0 (hI : INV K1 K2 q G) {x : Int} (ot : f_X11_onTape N 0 (jI x) (hp q G) = some (jI 1, hp q G)) {Ga : Nat → Int → Int} (a8 : f_X8_readBasket N 10 1 (jI x) 6 (hp q (up G 0 1 0)) = some (jI 0, hp q Ga)) (Gao : ∀ a, a ≠ 0 → (a < 6 ∨ 10 < a) → Ga a = G a) (Ga01 : Ga 0 1 = 0) (wr : 1 ≤ Ga 10 0 ∧ Ga 10 0 ≤ 4) (gen : ∀ G1 : Nat → Int → Int, G1 100 = G 100 → G1 104 = G 104 → ∃ Kb : Nat → Int → Int, (∀ a, a ≠ 100 → a ≠ 105 → Kb a = G1 a) ∧ (Kb 100 0 = 0 ∧ Kb 100 6 = 0) ∧ (Kb 100 12 = Ga 10 0 ∧ Kb 100 13 = Ga 10 1) ∧ f_X12_basket N 100 (jI x) (hp q G1) = J_X12_basket_80 N 100 (hp q Kb)) : OP K1 K2 q G (f_X11_basket N 0 (jI x)) (f_X12_basket N 100 (jI x)) := by
  have w01 := w0 q G 0
  have rr := rfz_r (-30 - Ga 10 0)
  have X := X11_refuse (N := N) (q := q) (G := Ga) (c := -30 - Ga 10 0) (by omega)
  have MF : ∀ Kb : Nat → Int → Int, Kb 100 12 = Ga 10 0 → J_X12_basket_80 N 100 (hp q Kb) = some (jI (-30 - Ga 10 0), hp q (up (up (up Kb 100 14 (Ga 10 0)) 100 15 (Kb 100 13)) 101 (rfz (-30 - Ga 10 0)) (up (up Kb 100 14 (Ga 10 0)) 100 15 (Kb 100 13) 101 (rfz (-30 - Ga 10 0)) + 1))) := fun Kb h => by
    have m := mFin0 (N := N) (q := q) (K := Kb) (by omega)
    rw [h] at m
    exact m
  generalize rfz (-30 - Ga 10 0) = z at rr X MF
  obtain ⟨Kb, kb1, ⟨kb2, kb3⟩, kk, mb⟩ := gen (up Ga 98 z (Ga 98 z + 1)) (by rw [up_ne (by decide), Gao 100 (by decide) (by decide)]) (by rw [up_ne (by decide), Gao 104 (by decide) (by decide)])
  have m := MF Kb kk.1
  obtain ⟨Km, hKm⟩ : ∃ Km, Km = up (up (up Kb 100 14 (Ga 10 0)) 100 15 (Kb 100 13)) 101 z (up (up Kb 100 14 (Ga 10 0)) 100 15 (Kb 100 13) 101 z + 1) := ⟨_, rfl⟩
  rw [← hKm] at m
  have kb98 : Kb 98 = u1 (G 98) z (G 98 z + 1) := by rw [kb1 98 (by decide) (by decide), up_eq, Gao 98 (by decide) (by decide)]
  have kb101 : Kb 101 = G 101 := by rw [kb1 101 (by decide) (by decide), up_ne (by decide), Gao 101 (by decide) (by decide)]
  have kbo : ∀ a, a ≠ 100 → a ≠ 105 → a ≠ 98 → Kb a = Ga a := fun a j1 j2 j3 => by rw [kb1 a j1 j2, up_ne j3]
  have E : Km 100 = u1 (u1 (Kb 100) 14 (Ga 10 0)) 15 (Kb 100 13) := by rw [hKm, up_ne (by decide), up_eq, up_eq]
  have Eo : ∀ a, a ≠ 100 → a ≠ 101 → Km a = Kb a := fun a j1 j2 => by rw [hKm, up_ne j2, up_ne j1, up_ne j1]
  have E101 : Km 101 = u1 (G 101) z (G 101 z + 1) := by rw [hKm, up_eq, up_ne (by decide), up_ne (by decide), kb101]
  have e10 : Km 10 = Ga 10 := by rw [Eo 10 (by decide) (by decide), kbo 10 (by decide) (by decide) (by decide)]
  have e12 : Km 12 = G 12 := by rw [Eo 12 (by decide) (by decide), kbo 12 (by decide) (by decide) (by decide), Gao 12 (by decide) (by decide)]
  have e25 : Km 25 = G 25 := by rw [Eo 25 (by decide) (by decide), kbo 25 (by decide) (by decide) (by decide), Gao 25 (by decide) (by decide)]
  have e0 : Km 0 1 = 0 := by rw [Eo 0 (by decide) (by decide), kbo 0 (by decide) (by decide) (by decide)]; exact Ga01
  have e98 : Km 98 = u1 (G 98) z (G 98 z + 1) := by rw [Eo 98 (by decide) (by decide), kb98]
  have eall : ∀ a, relv a = true → Km a = G a := by
    intro a ha
    have n100 : a ≠ 100 := by rintro rfl; cases ha
    have n101 : a ≠ 101 := by rintro rfl; cases ha
    have n105 : a ≠ 105 := by rintro rfl; cases ha
    have n98 : a ≠ 98 := by rintro rfl; cases ha
    have n0 : a ≠ 0 := by rintro rfl; cases ha
    have n6 : a ≠ 6 := by rintro rfl; cases ha
    have n7 : a ≠ 7 := by rintro rfl; cases ha
    have n8 : a ≠ 8 := by rintro rfl; cases ha
    have n9 : a ≠ 9 := by rintro rfl; cases ha
    have n10 : a ≠ 10 := by rintro rfl; cases ha
    rw [Eo a n100 n101, kbo a n100 n105 n98, Gao a n0 (by omega)]
  have E0 : Km 100 0 = 0 := by rw [E, u1_ne (by decide), u1_ne (by decide)]; exact kb2
  have E6 : Km 100 6 = 0 := by rw [E, u1_ne (by decide), u1_ne (by decide)]; exact kb3
  have E14 : Km 100 14 = Ga 10 0 := by rw [E, u1_ne (by decide), u1_eq]
  have E15 : Km 100 15 = Ga 10 1 := by rw [E, u1_eq]; exact kk.2
  clear hKm MF
  refine ⟨jI (-30 - Ga 10 0), q, up Ga 98 z (Ga 98 z + 1), Km, ?_, mb.trans m, INV0.set hI.1 eall E0 e0 E6 (by rw [e10, E14]) (by rw [e10, E15]) (by rw [e12]) (by rw [e25]) (by rw [e25]), fun k k0 k1 => ?_⟩
  · unfold f_X11_basket
    refine bs (v := ()) (by simp (maxSteps := 2000000) (disch := first | assumption | omega) only [jI0, iAdd_j, iSub_j, iMul_j, iNeg_j, Option.bind_some, jlt_t, jlt_f, jlt, jle_t, jle_f, jle, jeq_t, jeq_f, jeq, ↓reduceIte, o0]) ?_
    refine bs ot ?_
    refine bs1 ?_
    refine bs w01 ?_
    refine bs (v := 10) (by simp (maxSteps := 2000000) (disch := first | assumption | omega) only [jI0, iAdd_j, iSub_j, iMul_j, iNeg_j, Option.bind_some, jlt_t, jlt_f, jlt, jle_t, jle_f, jle, jeq_t, jeq_f, jeq, ↓reduceIte, o0]) ?_
    refine bs (v := 1) (by simp (maxSteps := 2000000) (disch := first | assumption | omega) only [jI0, iAdd_j, iSub_j, iMul_j, iNeg_j, Option.bind_some, jlt_t, jlt_f, jlt, jle_t, jle_f, jle, jeq_t, jeq_f, jeq, ↓reduceIte, o0]) ?_
    refine bs (v := 6) (by simp (maxSteps := 2000000) (disch := first | assumption | omega) only [jI0, iAdd_j, iSub_j, iMul_j, iNeg_j, Option.bind_some, jlt_t, jlt_f, jlt, jle_t, jle_f, jle, jeq_t, jeq_f, jeq, ↓reduceIte, o0]) ?_
    refine bs (v := ()) (by simp (maxSteps := 2000000) (disch := first | assumption | omega) only [jI0, iAdd_j, iSub_j, iMul_j, iNeg_j, Option.bind_some, jlt_t, jlt_f, jlt, jle_t, jle_f, jle, jeq_t, jeq_f, jeq, ↓reduceIte, o10]) ?_
    refine bs a8 ?_
    refine bs0 ?_
    refine bs (v := 10) (by simp (maxSteps := 2000000) (disch := first | assumption | omega) only [jI0, iAdd_j, iSub_j, iMul_j, iNeg_j, Option.bind_some, jlt_t, jlt_f, jlt, jle_t, jle_f, jle, jeq_t, jeq_f, jeq, ↓reduceIte, o0]) ?_
    refine bs (v := jI (Ga 10 0)) (by simp (maxSteps := 2000000) (disch := first | assumption | omega) only [jI0, iAdd_j, iSub_j, iMul_j, iNeg_j, Option.bind_some, jlt_t, jlt_f, jlt, jle_t, jle_f, jle, jeq_t, jeq_f, jeq, ↓reduceIte, o10]) ?_
    unfold J_X11_basket_50
    refine bs (v := ()) (by simp (maxSteps := 2000000) (disch := first | assumption | omega) only [jI0, iAdd_j, iSub_j, iMul_j, iNeg_j, Option.bind_some, jlt_t, jlt_f, jlt, jle_t, jle_f, jle, jeq_t, jeq_f, jeq, ↓reduceIte, o0]) ?_
    rw [iSub_j]
    refine bs X ?_
    rfl
  · rw [e98, E101]
    have e := hI.2 k k0 k1
    have e2 := hI.2 z rr.1 rr.2
    by_cases hk : k = z
    · rw [hk, u1_eq, u1_eq, e2]
    · rw [u1_ne hk, u1_ne hk, e]
theorem op_basket (hN : 10000 ≤ N) (hI : INV K1 K2 q G) {x : Int} (h1 : -2147483648 ≤ x) (h2 : x < 2147483648) : OP K1 K2 q G (f_X11_basket N 0 (jI x)) (f_X12_basket N 100 (jI x)) := by
  have hB := hI.1.1; have hV := hB.1; have hT := hI.1.2.1; have g := hV.1
  obtain ⟨e01, t0, t1, tb⟩ := hI.1.2.2.2.2.2.2.2.1
  have ot := oOnTape (q := q) (N := N) (n := x) e01 t0 t1 h1 h2
  by_cases c : 0 ≤ x ∧ x ≤ G 100 6
  · rw [bI_t c] at ot
    obtain ⟨Ga, ra, a8, ⟨Gao, Ga01⟩, ca, gen⟩ := basRead hN hI c
    rcases ca with ⟨r1, w1, w2⟩ | ⟨r1, w1, w2⟩
    · rw [r1] at a8
      refine opBas1 hI hN ot a8 Gao Ga01 w1 w2 (fun G1 g1 g2 => ?_)
      obtain ⟨Kb, y1, y2, y3, y4⟩ := gen G1 g1 g2
      rcases y3 with y | y
      · exact ⟨Kb, y1, y2, y.2, y4⟩
      · omega
    · rw [r1] at a8
      refine opBas0 hI ot a8 Gao Ga01 ⟨w1, w2⟩ (fun G1 g1 g2 => ?_)
      obtain ⟨Kb, y1, y2, y3, y4⟩ := gen G1 g1 g2
      rcases y3 with y | y
      · omega
      · exact ⟨Kb, y1, y2, y.2, y4⟩
  · rw [bI_f c] at ot
    refine OP.rf hI (-3) (jI (-3)) ?_ ?_
    · unfold f_X11_basket
      simp (maxSteps := 2000000) (disch := first | assumption | omega) only [jI0, iAdd_j, iSub_j, iMul_j, iNeg_j, Option.bind_some, jlt_t, jlt_f, jlt, jle_t, jle_f, jle, jeq_t, jeq_f, jeq, ↓reduceIte, o0, o2, o12, hBand, hStake, hKind, hCross, hWeaver, oBand, oKindOf, oKind, oCr, oRing, oWv, oPer, oRows, oAhead, oWhen, oAll, oStep, oRods, oRodAt, oStakeAt, oOff, bI_t, bI_f, X11_refuse, ot]
    · intro G1 hM e eo
      have g6 : G1 100 6 = G 100 6 := by rw [eo 100 (by decide)]
      have wt := w100t (q := q) hM.2
      unfold f_X12_basket
      simp (maxSteps := 2000000) (disch := first | assumption | omega) only [jI0, iAdd_j, iSub_j, iMul_j, iNeg_j, Option.bind_some, jlt_t, jlt_f, jlt, jle_t, jle_f, jle, jeq_t, jeq_f, jeq, ↓reduceIte, wt, o100, g6, jlL, X12_within, bI_f, X12_no]
end
