/-! calls: wish, print, put together -/
section
variable {K1 K2 : (Int → Int) → (Int → Int) → Prop} {q : Nat × Nat × (Nat → Nat)} {G : Nat → Int → Int} {N : Nat}
/-- what a picture that was read leaves -/
theorem picGet {ws S : Int} {T : Int → Int} {n R : Nat} (hw : ws = 0 ∨ ws = 1) (hS : 3 ≤ S ∧ S ≤ 32) (hR : (n : Int) = R * (S + 1)) (hb : piBt ws S T n = true) {r s : Int} (r0 : 0 ≤ r) (r1 : r < R) (s0 : 0 ≤ s) (s1 : s < S) : 0 ≤ r * (S + 1) + s ∧ r * (S + 1) + s < n ∧ sgB ws (T (r * (S + 1) + s)) = true := by
  have m := Int.mul_le_mul_of_nonneg_right (show r + 1 ≤ (R : Int) by omega) (show 0 ≤ S + 1 by omega)
  rw [← hR, Int.add_mul, Int.one_mul] at m
  have m0 : 0 ≤ r * (S + 1) := Int.mul_nonneg r0 (by omega)
  have k0 : 0 ≤ r * (S + 1) + s := by omega
  have k1 : r * (S + 1) + s < n := by omega
  have a := piBt_at hb (r * (S + 1) + s).toNat (by omega)
  rw [Int.toNat_of_nonneg k0] at a
  have e : (r * (S + 1) + s) % (S + 1) = s := by
    rw [Int.add_comm, Int.add_mul_emod_self_right, Int.emod_eq_of_lt s0 (by omega)]
  rw [e, if_neg (by omega)] at a
  exact ⟨k0, k1, a⟩
theorem sgW {v : Int} (h : sgB 1 v = true) : v = 46 ∨ (48 ≤ v ∧ v ≤ 53) := by
  unfold sgB at h
  simp at h
  omega
theorem sgP {v : Int} (h : sgB 0 v = true) : v = 111 ∨ v = 117 ∨ v = 63 := by
  unfold sgB at h
  simp at h
  omega
/-- the component's side of a picture that is one -/
theorem oPicYes (hN : 10000 ≤ N) (hI : INV K1 K2 q G) {P : Nat} (hP : isPi P) (hP1 : 1 < P) {ws : Int} {n R : Nat} (hw : ws = 0 ∨ ws = 1) (hS : 3 ≤ G 102 0) (hn : (n : Int) ≤ G 100 6) (hR : (n : Int) = R * (G 102 0 + 1)) (R1 : 1 ≤ R) (R8 : R ≤ 8) (hb : piBt ws (G 102 0) (G 104) n = true) : ∃ G1 : Nat → Int → Int, ((∀ a, a ≠ 0 → a ≠ P → a ≠ P + 1 → a ≠ P + 2 → a ≠ P + 3 → G1 a = G a) ∧ G1 0 1 = 0 ∧ G1 P 0 = R ∧ ∀ r : Int, 0 ≤ r → r < R → PiD G1 P ws (G 102 0) (G 102 0 + 1) (G 104) r) ∧ f_X6_take N P 1 (jI n) (jI (G 102 0)) (jI ws) (hp q (up G 0 1 0)) = some (hp q G1) := by
  have hB := hI.1.1; have hV := hB.1; have hT := hI.1.2.1; have g := hV.1
  obtain ⟨e01, t0, t1, tb⟩ := hI.1.2.2.2.2.2.2.2.1
  obtain ⟨G1, ⟨x1, x2, x3⟩, x4⟩ := oTake (q := q) (G := up G 0 1 0) hN hP hP1 (ws := ws) (S := G 102 0) (T := G 104) (n := n) (R := R) hw ⟨hS, by omega⟩ (by omega) hR R8 (fun r s r0 r1 s0 s1 => by
    obtain ⟨p0, p1, p2⟩ := picGet hw ⟨hS, by omega⟩ hR hb r0 r1 s0 s1
    have t := tb _ p0 (by omega)
    have sm : 0 ≤ G 104 (r * (G 102 0 + 1) + s) ∧ G 104 (r * (G 102 0 + 1) + s) < 128 := by
      rcases hw with rfl | rfl
      · have := sgP p2; omega
      · have := sgW p2; omega
    refine ⟨?_, sm.1, sm.2, fun e => ?_⟩
    · rw [up_ne (by decide), t.2.2]
      unfold i8
      rw [if_pos sm.2]
    · subst e; exact sgW p2)
  refine ⟨G1, ⟨fun a a0 a1 a2 a3 a4 => by rw [x1 a a1 a2 a3 a4, up_ne a0], ?_, x2, x3⟩, x4⟩
  rw [x1 0 (by omega) (by omega) (by omega) (by omega), up_eq, u1_eq]
theorem oOnTape {n t : Int} (ht : G 0 1 = t) (t0 : 0 ≤ t) (t1 : t ≤ 500) (h1 : -2147483648 ≤ n) (h2 : n < 2147483648) : f_X11_onTape N 0 (jI n) (hp q G) = some (bI (0 ≤ n ∧ n ≤ t), hp q G) := by
  unfold f_X11_onTape
  by_cases c : n < 0
  · rw [bI_f (by omega)]
    simp (maxSteps := 2000000) (disch := first | assumption | omega) only [jI0, iAdd_j, iSub_j, iMul_j, iNeg_j, Option.bind_some, jlt_t, jlt_f, jlt, jle_t, jle_f, jle, jeq_t, jeq_f, jeq, ↓reduceIte]
  · by_cases d : t < n
    · rw [bI_f (by omega)]
      simp (maxSteps := 2000000) (disch := first | assumption | omega) only [jI0, iAdd_j, iSub_j, iMul_j, iNeg_j, Option.bind_some, jlt_t, jlt_f, jlt, jle_t, jle_f, jle, jeq_t, jeq_f, jeq, ↓reduceIte, o0, ht]
    · rw [bI_t (by omega)]
      simp (maxSteps := 2000000) (disch := first | assumption | omega) only [jI0, iAdd_j, iSub_j, iMul_j, iNeg_j, Option.bind_some, jlt_t, jlt_f, jlt, jle_t, jle_f, jle, jeq_t, jeq_f, jeq, ↓reduceIte, o0, ht]
theorem op_wish (hN : 10000 ≤ N) (k2 : KC2 K2) (hI : INV K1 K2 q G) {x : Int} (h1 : -2147483648 ≤ x) (h2 : x < 2147483648) : OP K1 K2 q G (f_X11_wish N 0 (jI x)) (f_X12_wish N 100 (jI x)) := by
  have hB := hI.1.1; have hV := hB.1; have hT := hI.1.2.1; have g := hV.1
  have b0 := hB.2.1.1
  obtain ⟨e01, t0, t1, tb⟩ := hI.1.2.2.2.2.2.2.2.1
  have ot := oOnTape (q := q) (N := N) (n := x) e01 t0 t1 h1 h2
  by_cases c : G 102 0 = 0
  · refine OP.rf hI (-5) (jI (-5)) ?_ ?_
    · unfold f_X11_wish f_X11_takePicture
      simp (maxSteps := 2000000) (disch := first | assumption | omega) only [jI0, iAdd_j, iSub_j, iMul_j, iNeg_j, Option.bind_some, jlt_t, jlt_f, jlt, jle_t, jle_f, jle, jeq_t, jeq_f, jeq, ↓reduceIte, o0, o2, o12, hBand, hStake, hKind, hCross, hWeaver, oBand, oKindOf, oKind, oCr, oRing, oWv, oPer, oRows, oAhead, oWhen, oAll, oStep, oRods, oRodAt, oStakeAt, oOff, bI_t, bI_f, X11_refuse, b0, c]
    · intro G1 hM e eo
      rw [← e] at c
      have wt := w100t (q := q) hM.2
      unfold f_X12_wish
      simp (maxSteps := 2000000) (disch := first | assumption | omega) only [jI0, iAdd_j, iSub_j, iMul_j, iNeg_j, Option.bind_some, jlt_t, jlt_f, jlt, jle_t, jle_f, jle, jeq_t, jeq_f, jeq, ↓reduceIte, wt, o100, l102, c, X12_no]
  have S3 : 3 ≤ G 102 0 := by omega
  by_cases c1 : 0 ≤ x ∧ x ≤ G 100 6
  · obtain ⟨n, rfl⟩ := Int.eq_ofNat_of_zero_le c1.1
    rw [bI_t c1] at ot
    have w01 := w0 q G 0
    have pre : ∀ (G1 : Nat → Int → Int) (r : Option (Int32 × mH)), G1 100 0 = 0 → G1 102 = G 102 → G1 100 6 = G 100 6 → f_X12_readsPicture N 100 (jI 144) (jI (n : Int)) (jI 1) (hp q G1) = r → (∀ p, r = some p → f_X12_wish N 100 (jI (n : Int)) (hp q G1) = some p) := by
      intro G1 r g0 g1 g6 hr p hp
      have wt := w100t (q := q) (G := G1) g0
      have l0 := l102 q G1 (i := 0) (by decide) (by decide)
      rw [g1] at l0
      rw [hp] at hr
      unfold f_X12_wish
      simp (maxSteps := 2000000) (disch := first | assumption | omega) only [jI0, iAdd_j, iSub_j, iMul_j, iNeg_j, Option.bind_some, jlt_t, jlt_f, jlt, jle_t, jle_f, jle, jeq_t, jeq_f, jeq, ↓reduceIte, wt, o100, l0, g6, jlL, X12_within, bI_t, hr]
    by_cases c2 : (G 102 0 + 1 ≤ n ∧ n ≤ 8 * (G 102 0 + 1) ∧ (n : Int) % (G 102 0 + 1) = 0) ∧ piBt 1 (G 102 0) (G 104) n = true
    · have pk := (picOk (n := (n : Int)) S3 (by omega)).mp c2.1
      have dv := Int.emod_add_mul_ediv (n : Int) (G 102 0 + 1)
      rw [c2.1.2.2, Int.zero_add, Int.mul_comm] at dv
      have q0 : 0 ≤ (n : Int) / (G 102 0 + 1) := Int.ediv_nonneg (by omega) (by omega)
      have q1 := Int.le_ediv_iff_mul_le (a := 1) (b := (n : Int)) (show 0 < G 102 0 + 1 by omega)
      obtain ⟨R, hR⟩ := Int.eq_ofNat_of_zero_le q0
      rw [hR] at dv pk q1
      have R1 : 1 ≤ R := by omega
      have R8 : R ≤ 8 := by omega
      obtain ⟨Ga, ⟨x1, x2, x3, x4⟩, x5⟩ := oPicYes hN hI pi17 (by decide) (ws := 1) (.inr rfl) S3 c1.2 dv.symm R1 R8 c2.2
      have ip := oIsPic (q := q) (G := up G 0 1 0) hN (ws := 1) (T := G 104) (.inr rfl) (S := G 102 0) ⟨S3, by omega⟩ (n := n) (by omega) (fun k k0 k1 => by rw [up_ne (by decide)]; exact tb k k0 (by omega))
      rw [bI_t c2] at ip
      have wf := w25 q Ga 0
      have g0 : up Ga 25 7 0 100 0 = 0 := by rw [up_ne (by decide), x1 100 (by decide) (by decide) (by decide) (by decide) (by decide)]; exact hT
      have g102 : up Ga 25 7 0 102 = G 102 := by rw [up_ne (by decide), x1 102 (by decide) (by decide) (by decide) (by decide) (by decide)]
      have g104 : up Ga 25 7 0 104 = G 104 := by rw [up_ne (by decide), x1 104 (by decide) (by decide) (by decide) (by decide) (by decide)]
      have g100 : up Ga 25 7 0 100 = G 100 := by rw [up_ne (by decide), x1 100 (by decide) (by decide) (by decide) (by decide) (by decide)]
      have mp := mPic (q := q) (G := up Ga 25 7 0) hN (to := 144) (ws := 1) (S := G 102 0) (n := n) (by omega) (.inr rfl) ⟨S3, by omega⟩ (by rw [g102]) (by omega) (fun k k0 k1 => by rw [g104]; have := tb k k0 (by omega); exact ⟨this.1, this.2.1⟩)
      rw [g104, if_pos c2, hR] at mp
      obtain ⟨Gm, ⟨y1, y2, y3⟩, y4⟩ := mRows (q := q) (G := up (up (up (up Ga 25 7 0) 100 9 n) 100 6 0) 102 (144 - 1) R) hN (to := 144) (S := G 102 0) (n := n) (R := R) (by omega) ⟨S3, by omega⟩ (by rw [up_eq, u1_ne (by decide), up_ne (by decide), up_ne (by decide), g102]) (by omega) dv.symm R8
      rw [y4] at mp
      refine ⟨jI R, q, up Ga 25 7 0, Gm, ?_, ?_, ?_⟩
      · unfold f_X11_wish f_X11_takePicture f_X9_forgetWish
        have z17 : up Ga 25 7 0 17 0 = R := by rw [up_ne (by decide)]; exact x3
        have c0 : (jI (G 102 0) = jI 0) = False := jeq_f (by omega)
        have b02 : up G 0 1 0 2 0 = G 102 0 := by rw [up_ne (by decide)]; exact b0
        simp (maxSteps := 2000000) (disch := first | assumption | omega) only [jI0, iAdd_j, iSub_j, iMul_j, iNeg_j, Option.bind_some, jlt_t, jlt_f, jlt, jle_t, jle_f, jle, jeq_t, jeq_f, jeq, ↓reduceIte, o0, o2, b0, b02, c0, ot, w01, ip, o17, x5, o25, wf, z17]
      · exact pre _ _ g0 g102 (by rw [g100]) mp _ rfl
      · obtain ⟨⟨u1', u2, u3, u4, u5, u6, u7, u8, u9, u10, u11, u12, u13, u14⟩, i1⟩ := hI
        have E : ∀ a, a ≠ 0 → a ≠ 17 → a ≠ 18 → a ≠ 19 → a ≠ 20 → a ≠ 25 → a ≠ 100 → a ≠ 102 → Gm a = G a := fun a a0 a1 a2 a3 a4 a5 a6 a7 => by
          rw [y1 a a7, up_ne a7, up_ne a6, up_ne a6, up_ne a5, x1 a a0 a1 a2 a3 a4]
        have e : ∀ a, (!([0, 17, 18, 19, 20, 25, 100, 102].contains a)) = true → Gm a = G a := fun a h => by
          simp at h
          exact E a h.1 h.2.1 h.2.2.1 h.2.2.2.1 h.2.2.2.2.1 h.2.2.2.2.2.1 h.2.2.2.2.2.2.1 h.2.2.2.2.2.2.2
        have S1 : ∀ lo hi, (hi ≤ 143 ∨ 400 ≤ lo) → SameA lo hi (G 102) (Gm 102) := fun lo hi h i i0 i1 => by
          rw [y2 i (by omega), up_eq, u1_ne (by omega), up_ne (by decide), up_ne (by decide), g102]
        have h143 : Gm 102 143 = R := by rw [y2 143 (by omega), up_eq, show (144 : Int) - 1 = 143 from rfl, u1_eq]
        have hc0 : Gm 102 0 = G 102 0 := S1 0 143 (by omega) 0 (by omega) (by omega)
        have row : ∀ r s : Int, 0 ≤ r → r < R → 0 ≤ s → s < G 102 0 → Gm 102 (144 + 32 * r + s) = rowf (G 104) (G 102 0 + 1) r s := fun r s r0 r1 s0 s1 => by
          rw [y3 r s r0 r1 s0 s1, up_ne (by decide), up_ne (by decide), up_ne (by decide), g104]
          rfl
        have f25 : ∀ i, i ≠ 7 → Gm 25 i = G 25 i := fun i hi => by
          rw [y1 25 (by decide), up_ne (by decide), up_ne (by decide), up_ne (by decide), up_eq, u1_ne hi, x1 25 (by decide) (by decide) (by decide) (by decide) (by decide)]
        have f257 : Gm 25 7 = 0 := by rw [y1 25 (by decide), up_ne (by decide), up_ne (by decide), up_ne (by decide), up_eq, u1_eq]
        have f100 : ∀ i, i ≠ 6 → i ≠ 9 → Gm 100 i = G 100 i := fun i h6 h9 => by
          rw [y1 100 (by decide), up_ne (by decide), up_eq, u1_ne h6, up_eq, u1_ne h9, g100]
        have f1006 : Gm 100 6 = 0 := by rw [y1 100 (by decide), up_ne (by decide), up_eq, u1_eq]
        have f01 : Gm 0 1 = 0 := by rw [y1 0 (by decide), up_ne (by decide), up_ne (by decide), up_ne (by decide), up_ne (by decide)]; exact x2
        have fP : ∀ a, a = 17 ∨ a = 18 ∨ a = 20 → Gm a = Ga a := fun a ha => by
          rw [y1 a (by omega), up_ne (by omega), up_ne (by omega), up_ne (by omega), up_ne (by omega)]
        refine ⟨?_, fun k k0 k1 => by rw [e 98 rfl, e 101 rfl]; exact i1 k k0 k1⟩
        unfold INV0 BB BW at *
        rw [e 1 rfl, e 2 rfl, e 3 rfl, e 4 rfl, e 5 rfl, e 10 rfl, e 12 rfl, e 13 rfl, e 21 rfl, e 22 rfl, e 23 rfl, e 31 rfl, e 32 rfl, e 34 rfl, e 37 rfl, e 38 rfl, e 39 rfl, e 40 rfl, e 41 rfl, e 42 rfl, e 43 rfl, e 44 rfl, e 46 rfl, e 47 rfl, e 48 rfl, e 49 rfl, e 50 rfl, e 51 rfl, e 52 rfl, e 54 rfl, e 55 rfl, e 56 rfl, e 57 rfl, e 60 rfl, e 62 rfl, e 63 rfl, e 64 rfl, e 65 rfl, e 66 rfl, e 67 rfl, e 68 rfl, e 70 rfl, e 71 rfl, e 72 rfl, e 73 rfl, e 76 rfl, e 82 rfl, e 103 rfl, e 104 rfl, e 117 rfl, e 118 rfl, e 119 rfl, f100 0 (by decide) (by decide), f100 14 (by decide) (by decide), f100 15 (by decide) (by decide), f1006, f01, f257, f25 8 (by decide), fP 17 (by omega), fP 18 (by omega), fP 20 (by omega)]
        refine ⟨⟨u1'.1.congr (S1 _ _ (by omega)), u1'.2.congr (S1 _ _ (by omega)) u1'.1 (fun _ _ _ => rfl) (fun _ _ _ => rfl) (fun _ _ _ => rfl) (fun _ _ _ => rfl)⟩, u2, ?_, u4.congr hc0 (by omega) (S1 _ _ (by omega)) rfl (fun _ _ _ => rfl) (fun _ _ _ => rfl), u5.congr (S1 _ _ (by omega)) (fun _ _ _ => rfl), u6.congr (fun i i0 i1 => S1 665 1330 (by omega) (665 + i) (by omega) (by omega)), u7.congr (fun i i0 i1 => S1 1330 1995 (by omega) (1330 + i) (by omega) (by omega)), ⟨rfl, Int.le_refl _, by omega, fun k k0 k1 => by omega⟩, u9, u10, u11.congr (S1 _ _ (by omega)) u1'.1, ⟨.inl rfl, fun h => absurd h (by decide)⟩, ⟨u13.1, fun h => k2 _ _ _ hc0 (S1 _ _ (by omega)) (u13.2 h)⟩, u14⟩
        refine .inr ⟨by rw [x3]; omega, by rw [x3]; omega, by rw [x3, h143], by rw [hc0]; exact S3, fun r r0 r1 => ?_⟩
        rw [x3] at r1
        have pd := x4 r r0 r1
        have sg : ∀ s : Int, 0 ≤ s → s < G 102 0 → rowf (G 104) (G 102 0 + 1) r s = 46 ∨ (48 ≤ rowf (G 104) (G 102 0 + 1) r s ∧ rowf (G 104) (G 102 0 + 1) r s ≤ 53) := fun s s0 s1 => sgW (picGet (.inr rfl) ⟨S3, by omega⟩ dv.symm c2.2 r0 r1 s0 s1).2.2
        have kw := pKd_w (f := rowf (G 104) (G 102 0 + 1) r) (n := (G 102 0).toNat) (fun k hk => sg k (by omega) (by omega))
        rw [show (((G 102 0).toNat : Nat) : Int) = G 102 0 by omega] at kw
        rw [hc0, pd.1, pd.2.2]
        refine ⟨fun s s0 s1 => by rw [row r s r0 r1 s0 s1]; exact sg s s0 s1, ?_, ?_⟩
        · congr 1
          apply msk_congr
          intro k hk
          rw [row r k r0 r1 (by omega) (by omega)]
          rfl
        · generalize pKd 1 (rowf (G 104) (G 102 0 + 1) r) (G 102 0).toNat = K at *
          rcases kw with ⟨a1, a2⟩ | ⟨a1, a2, ⟨s, a3, a4, a5⟩, a6⟩ | ⟨a1, s, t, a2, a3, a4, a5, a6, a7, a8⟩
          · exact .inl ⟨a1, fun s s0 s1 => by rw [row r s r0 r1 s0 s1]; exact a2 s s0 s1⟩
          · exact .inr (.inl ⟨a1, a2, ⟨s, a3, a4, by rw [row r s r0 r1 a3 a4]; exact a5⟩, fun s s0 s1 => by rw [row r s r0 r1 s0 s1]; exact a6 s s0 s1⟩)
          · exact .inr (.inr ⟨a1, s, t, a2, a3, a4, a5, by rw [row r s r0 r1 a2 a3]; exact a6, by rw [row r t r0 r1 a4 a5]; exact a7, by rw [row r s r0 r1 a2 a3, row r t r0 r1 a4 a5]; exact a8⟩)
    · have ip := oIsPic (q := q) (G := up G 0 1 0) hN (ws := 1) (T := G 104) (.inr rfl) (S := G 102 0) ⟨S3, by omega⟩ (n := n) (by omega) (fun k k0 k1 => by rw [up_ne (by decide)]; exact tb k k0 (by omega))
      rw [bI_f c2] at ip
      refine picNo hI n ?_ ?_
      · unfold f_X11_wish f_X11_takePicture
        have c0 : (jI (G 102 0) = jI 0) = False := jeq_f (by omega)
        have b02 : up G 0 1 0 2 0 = G 102 0 := by rw [up_ne (by decide)]; exact b0
        have rr := X11_refuse (N := N) (q := q) (G := up G 0 1 0) (c := -9) (by omega)
        rw [show up G 0 1 0 98 = G 98 from rfl] at rr
        simp (maxSteps := 2000000) (disch := first | assumption | omega) only [jI0, iAdd_j, iSub_j, iMul_j, iNeg_j, Option.bind_some, jlt_t, jlt_f, jlt, jle_t, jle_f, jle, jeq_t, jeq_f, jeq, ↓reduceIte, o0, o2, b0, b02, c0, ot, w01, ip, o17, rr]
      · intro G1 g0 ga
        have e102 : G1 102 = G 102 := ga 102 (by decide) (by decide)
        have e104 : G1 104 = G 104 := ga 104 (by decide) (by decide)
        have mp := mPic (q := q) (G := G1) hN (to := 144) (ws := 1) (S := G 102 0) (n := n) (by omega) (.inr rfl) ⟨S3, by omega⟩ (by rw [e102]) (by omega) (fun k k0 k1 => by rw [e104]; have := tb k k0 (by omega); exact ⟨this.1, this.2.1⟩)
        rw [e104, if_neg c2] at mp
        exact pre G1 _ g0 e102 (by rw [ga 100 (by decide) (by decide)]) mp _ rfl
  · rw [bI_f c1] at ot
    refine OP.rf hI (-3) (jI (-3)) ?_ ?_
    · unfold f_X11_wish f_X11_takePicture
      have c0 : (jI (G 102 0) = jI 0) = False := jeq_f (by omega)
      simp (maxSteps := 2000000) (disch := first | assumption | omega) only [jI0, iAdd_j, iSub_j, iMul_j, iNeg_j, Option.bind_some, jlt_t, jlt_f, jlt, jle_t, jle_f, jle, jeq_t, jeq_f, jeq, ↓reduceIte, o0, o2, b0, c0, ot, o17, X11_refuse]
    · intro G1 hM e eo
      have wt := w100t (q := q) hM.2
      have c0 : (jI (G 102 0) = jI 0) = False := jeq_f (by omega)
      have l0 := l102 q G1 (i := 0) (by decide) (by decide)
      rw [e] at l0
      have e6 : G1 100 6 = G 100 6 := by rw [eo 100 (by decide)]
      unfold f_X12_wish
      simp (maxSteps := 2000000) (disch := first | assumption | omega) only [jI0, iAdd_j, iSub_j, iMul_j, iNeg_j, Option.bind_some, jlt_t, jlt_f, jlt, jle_t, jle_f, jle, jeq_t, jeq_f, jeq, ↓reduceIte, wt, o100, l0, c0, e6, jlL, X12_within, bI_f, X12_no]
theorem op_print (hN : 10000 ≤ N) (k1 : KC1 K1) (hI : INV K1 K2 q G) {x : Int} (h1 : -2147483648 ≤ x) (h2 : x < 2147483648) : OP K1 K2 q G (f_X11_print N 0 (jI x)) (f_X12_print N 100 (jI x)) := by
  have hB := hI.1.1; have hV := hB.1; have hT := hI.1.2.1; have g := hV.1
  have b0 := hB.2.1.1
  obtain ⟨e01, t0, t1, tb⟩ := hI.1.2.2.2.2.2.2.2.1
  have ot := oOnTape (q := q) (N := N) (n := x) e01 t0 t1 h1 h2
  by_cases c : G 102 0 = 0
  · refine OP.rf hI (-5) (jI (-5)) ?_ ?_
    · unfold f_X11_print f_X11_takePicture
      simp (maxSteps := 2000000) (disch := first | assumption | omega) only [jI0, iAdd_j, iSub_j, iMul_j, iNeg_j, Option.bind_some, jlt_t, jlt_f, jlt, jle_t, jle_f, jle, jeq_t, jeq_f, jeq, ↓reduceIte, o0, o2, o12, hBand, hStake, hKind, hCross, hWeaver, oBand, oKindOf, oKind, oCr, oRing, oWv, oPer, oRows, oAhead, oWhen, oAll, oStep, oRods, oRodAt, oStakeAt, oOff, bI_t, bI_f, X11_refuse, b0, c]
    · intro G1 hM e eo
      rw [← e] at c
      have wt := w100t (q := q) hM.2
      unfold f_X12_print
      simp (maxSteps := 2000000) (disch := first | assumption | omega) only [jI0, iAdd_j, iSub_j, iMul_j, iNeg_j, Option.bind_some, jlt_t, jlt_f, jlt, jle_t, jle_f, jle, jeq_t, jeq_f, jeq, ↓reduceIte, wt, o100, l102, c, X12_no]
  have S3 : 3 ≤ G 102 0 := by omega
  by_cases c1 : 0 ≤ x ∧ x ≤ G 100 6
  · obtain ⟨n, rfl⟩ := Int.eq_ofNat_of_zero_le c1.1
    rw [bI_t c1] at ot
    have w01 := w0 q G 0
    have pre : ∀ (G1 : Nat → Int → Int) (r : Option (Int32 × mH)), G1 100 0 = 0 → G1 102 = G 102 → G1 100 6 = G 100 6 → f_X12_readsPicture N 100 (jI 401) (jI (n : Int)) (jI 0) (hp q G1) = r → (∀ p, r = some p → f_X12_print N 100 (jI (n : Int)) (hp q G1) = some p) := by
      intro G1 r g0 g1 g6 hr p hp
      have wt := w100t (q := q) (G := G1) g0
      have l0 := l102 q G1 (i := 0) (by decide) (by decide)
      rw [g1] at l0
      rw [hp] at hr
      unfold f_X12_print
      simp (maxSteps := 2000000) (disch := first | assumption | omega) only [jI0, iAdd_j, iSub_j, iMul_j, iNeg_j, Option.bind_some, jlt_t, jlt_f, jlt, jle_t, jle_f, jle, jeq_t, jeq_f, jeq, ↓reduceIte, wt, o100, l0, g6, jlL, X12_within, bI_t, hr]
    by_cases c2 : (G 102 0 + 1 ≤ n ∧ n ≤ 8 * (G 102 0 + 1) ∧ (n : Int) % (G 102 0 + 1) = 0) ∧ piBt 0 (G 102 0) (G 104) n = true
    · have pk := (picOk (n := (n : Int)) S3 (by omega)).mp c2.1
      have dv := Int.emod_add_mul_ediv (n : Int) (G 102 0 + 1)
      rw [c2.1.2.2, Int.zero_add, Int.mul_comm] at dv
      have q0 : 0 ≤ (n : Int) / (G 102 0 + 1) := Int.ediv_nonneg (by omega) (by omega)
      have q1 := Int.le_ediv_iff_mul_le (a := 1) (b := (n : Int)) (show 0 < G 102 0 + 1 by omega)
      obtain ⟨R, hR⟩ := Int.eq_ofNat_of_zero_le q0
      rw [hR] at dv pk q1
      have R1 : 1 ≤ R := by omega
      have R8 : R ≤ 8 := by omega
      obtain ⟨Ga, ⟨x1, x2, x3, x4⟩, x5⟩ := oPicYes hN hI pi21 (by decide) (ws := 0) (.inl rfl) S3 c1.2 dv.symm R1 R8 c2.2
      have ip := oIsPic (q := q) (G := up G 0 1 0) hN (ws := 0) (T := G 104) (.inl rfl) (S := G 102 0) ⟨S3, by omega⟩ (n := n) (by omega) (fun k k0 k1 => by rw [up_ne (by decide)]; exact tb k k0 (by omega))
      rw [bI_t c2] at ip
      have wf := w25 q Ga 0
      have g0 : up Ga 25 8 0 100 0 = 0 := by rw [up_ne (by decide), x1 100 (by decide) (by decide) (by decide) (by decide) (by decide)]; exact hT
      have g102 : up Ga 25 8 0 102 = G 102 := by rw [up_ne (by decide), x1 102 (by decide) (by decide) (by decide) (by decide) (by decide)]
      have g104 : up Ga 25 8 0 104 = G 104 := by rw [up_ne (by decide), x1 104 (by decide) (by decide) (by decide) (by decide) (by decide)]
      have g100 : up Ga 25 8 0 100 = G 100 := by rw [up_ne (by decide), x1 100 (by decide) (by decide) (by decide) (by decide) (by decide)]
      have mp := mPic (q := q) (G := up Ga 25 8 0) hN (to := 401) (ws := 0) (S := G 102 0) (n := n) (by omega) (.inl rfl) ⟨S3, by omega⟩ (by rw [g102]) (by omega) (fun k k0 k1 => by rw [g104]; have := tb k k0 (by omega); exact ⟨this.1, this.2.1⟩)
      rw [g104, if_pos c2, hR] at mp
      obtain ⟨Gm, ⟨y1, y2, y3⟩, y4⟩ := mRows (q := q) (G := up (up (up (up Ga 25 8 0) 100 9 n) 100 6 0) 102 (401 - 1) R) hN (to := 401) (S := G 102 0) (n := n) (R := R) (by omega) ⟨S3, by omega⟩ (by rw [up_eq, u1_ne (by decide), up_ne (by decide), up_ne (by decide), g102]) (by omega) dv.symm R8
      rw [y4] at mp
      refine ⟨jI R, q, up Ga 25 8 0, Gm, ?_, ?_, ?_⟩
      · unfold f_X11_print f_X11_takePicture f_X9_forgetPrint
        have z21 : up Ga 25 8 0 21 0 = R := by rw [up_ne (by decide)]; exact x3
        have c0 : (jI (G 102 0) = jI 0) = False := jeq_f (by omega)
        have b02 : up G 0 1 0 2 0 = G 102 0 := by rw [up_ne (by decide)]; exact b0
        simp (maxSteps := 2000000) (disch := first | assumption | omega) only [jI0, iAdd_j, iSub_j, iMul_j, iNeg_j, Option.bind_some, jlt_t, jlt_f, jlt, jle_t, jle_f, jle, jeq_t, jeq_f, jeq, ↓reduceIte, o0, o2, b0, b02, c0, ot, w01, ip, o21, x5, o25, wf, z21]
      · exact pre _ _ g0 g102 (by rw [g100]) mp _ rfl
      · obtain ⟨⟨u1', u2, u3, u4, u5, u6, u7, u8, u9, u10, u11, u12, u13, u14⟩, i1⟩ := hI
        have E : ∀ a, a ≠ 0 → a ≠ 21 → a ≠ 22 → a ≠ 23 → a ≠ 24 → a ≠ 25 → a ≠ 100 → a ≠ 102 → Gm a = G a := fun a a0 a1 a2 a3 a4 a5 a6 a7 => by
          rw [y1 a a7, up_ne a7, up_ne a6, up_ne a6, up_ne a5, x1 a a0 a1 a2 a3 a4]
        have e : ∀ a, (!([0, 21, 22, 23, 24, 25, 100, 102].contains a)) = true → Gm a = G a := fun a h => by
          simp at h
          exact E a h.1 h.2.1 h.2.2.1 h.2.2.2.1 h.2.2.2.2.1 h.2.2.2.2.2.1 h.2.2.2.2.2.2.1 h.2.2.2.2.2.2.2
        have S1 : ∀ lo hi, (hi ≤ 400 ∨ 657 ≤ lo) → SameA lo hi (G 102) (Gm 102) := fun lo hi h i i0 i1 => by
          rw [y2 i (by omega), up_eq, u1_ne (by omega), up_ne (by decide), up_ne (by decide), g102]
        have h400 : Gm 102 400 = R := by rw [y2 400 (by omega), up_eq, show (401 : Int) - 1 = 400 from rfl, u1_eq]
        have hc0 : Gm 102 0 = G 102 0 := S1 0 143 (by omega) 0 (by omega) (by omega)
        have row : ∀ r s : Int, 0 ≤ r → r < R → 0 ≤ s → s < G 102 0 → Gm 102 (401 + 32 * r + s) = rowf (G 104) (G 102 0 + 1) r s := fun r s r0 r1 s0 s1 => by
          rw [y3 r s r0 r1 s0 s1, up_ne (by decide), up_ne (by decide), up_ne (by decide), g104]
          rfl
        have f25 : ∀ i, i ≠ 8 → Gm 25 i = G 25 i := fun i hi => by
          rw [y1 25 (by decide), up_ne (by decide), up_ne (by decide), up_ne (by decide), up_eq, u1_ne hi, x1 25 (by decide) (by decide) (by decide) (by decide) (by decide)]
        have f258 : Gm 25 8 = 0 := by rw [y1 25 (by decide), up_ne (by decide), up_ne (by decide), up_ne (by decide), up_eq, u1_eq]
        have f100 : ∀ i, i ≠ 6 → i ≠ 9 → Gm 100 i = G 100 i := fun i h6 h9 => by
          rw [y1 100 (by decide), up_ne (by decide), up_eq, u1_ne h6, up_eq, u1_ne h9, g100]
        have f1006 : Gm 100 6 = 0 := by rw [y1 100 (by decide), up_ne (by decide), up_eq, u1_eq]
        have f01 : Gm 0 1 = 0 := by rw [y1 0 (by decide), up_ne (by decide), up_ne (by decide), up_ne (by decide), up_ne (by decide)]; exact x2
        have fP : ∀ a, a = 21 ∨ a = 22 ∨ a = 23 → Gm a = Ga a := fun a ha => by
          rw [y1 a (by omega), up_ne (by omega), up_ne (by omega), up_ne (by omega), up_ne (by omega)]
        refine ⟨?_, fun k k0 k1 => by rw [e 98 rfl, e 101 rfl]; exact i1 k k0 k1⟩
        unfold INV0 BB BW at *
        rw [e 1 rfl, e 2 rfl, e 3 rfl, e 4 rfl, e 5 rfl, e 10 rfl, e 12 rfl, e 13 rfl, e 17 rfl, e 18 rfl, e 20 rfl, e 31 rfl, e 32 rfl, e 34 rfl, e 37 rfl, e 38 rfl, e 39 rfl, e 40 rfl, e 41 rfl, e 42 rfl, e 43 rfl, e 44 rfl, e 46 rfl, e 47 rfl, e 48 rfl, e 49 rfl, e 50 rfl, e 51 rfl, e 52 rfl, e 54 rfl, e 55 rfl, e 56 rfl, e 57 rfl, e 60 rfl, e 62 rfl, e 63 rfl, e 64 rfl, e 65 rfl, e 66 rfl, e 67 rfl, e 68 rfl, e 70 rfl, e 71 rfl, e 72 rfl, e 73 rfl, e 76 rfl, e 82 rfl, e 103 rfl, e 104 rfl, e 117 rfl, e 118 rfl, e 119 rfl, f100 0 (by decide) (by decide), f100 14 (by decide) (by decide), f100 15 (by decide) (by decide), f1006, f01, f258, f25 7 (by decide), fP 21 (by omega), fP 22 (by omega), fP 23 (by omega)]
        refine ⟨⟨u1'.1.congr (S1 _ _ (by omega)), u1'.2.congr (S1 _ _ (by omega)) u1'.1 (fun _ _ _ => rfl) (fun _ _ _ => rfl) (fun _ _ _ => rfl) (fun _ _ _ => rfl)⟩, u2, u3.congr hc0 (by omega) (S1 _ _ (by omega)) rfl (fun _ _ _ => rfl) (fun _ _ _ => rfl), ?_, u5.congr (S1 _ _ (by omega)) (fun _ _ _ => rfl), u6.congr (fun i i0 i1 => S1 665 1330 (by omega) (665 + i) (by omega) (by omega)), u7.congr (fun i i0 i1 => S1 1330 1995 (by omega) (1330 + i) (by omega) (by omega)), ⟨rfl, Int.le_refl _, by omega, fun k k0 k1 => by omega⟩, u9, u10, u11.congr (S1 _ _ (by omega)) u1'.1, ⟨u12.1, fun h => k1 _ _ _ hc0 (S1 _ _ (by omega)) (u12.2 h)⟩, ⟨.inl rfl, fun h => absurd h (by decide)⟩, u14⟩
        refine .inr ⟨by rw [x3]; omega, by rw [x3]; omega, by rw [x3, h400], by rw [hc0]; exact S3, fun r r0 r1 => ?_⟩
        rw [x3] at r1
        have pd := x4 r r0 r1
        have sg : ∀ s : Int, 0 ≤ s → s < G 102 0 → rowf (G 104) (G 102 0 + 1) r s = 111 ∨ rowf (G 104) (G 102 0 + 1) r s = 117 ∨ rowf (G 104) (G 102 0 + 1) r s = 63 := fun s s0 s1 => sgP (picGet (.inl rfl) ⟨S3, by omega⟩ dv.symm c2.2 r0 r1 s0 s1).2.2
        rw [hc0, pd.1, pd.2.1]
        refine ⟨fun s s0 s1 => by rw [row r s r0 r1 s0 s1]; exact sg s s0 s1, ?_, ?_⟩
        · congr 1
          apply msk_congr
          intro k hk
          rw [row r k r0 r1 (by omega) (by omega)]
          rfl
        · congr 1
          apply msk_congr
          intro k hk
          rw [row r k r0 r1 (by omega) (by omega)]
          rfl
    · have ip := oIsPic (q := q) (G := up G 0 1 0) hN (ws := 0) (T := G 104) (.inl rfl) (S := G 102 0) ⟨S3, by omega⟩ (n := n) (by omega) (fun k k0 k1 => by rw [up_ne (by decide)]; exact tb k k0 (by omega))
      rw [bI_f c2] at ip
      refine picNo hI n ?_ ?_
      · unfold f_X11_print f_X11_takePicture
        have c0 : (jI (G 102 0) = jI 0) = False := jeq_f (by omega)
        have b02 : up G 0 1 0 2 0 = G 102 0 := by rw [up_ne (by decide)]; exact b0
        have rr := X11_refuse (N := N) (q := q) (G := up G 0 1 0) (c := -9) (by omega)
        rw [show up G 0 1 0 98 = G 98 from rfl] at rr
        simp (maxSteps := 2000000) (disch := first | assumption | omega) only [jI0, iAdd_j, iSub_j, iMul_j, iNeg_j, Option.bind_some, jlt_t, jlt_f, jlt, jle_t, jle_f, jle, jeq_t, jeq_f, jeq, ↓reduceIte, o0, o2, b0, b02, c0, ot, w01, ip, o21, rr]
      · intro G1 g0 ga
        have e102 : G1 102 = G 102 := ga 102 (by decide) (by decide)
        have e104 : G1 104 = G 104 := ga 104 (by decide) (by decide)
        have mp := mPic (q := q) (G := G1) hN (to := 401) (ws := 0) (S := G 102 0) (n := n) (by omega) (.inl rfl) ⟨S3, by omega⟩ (by rw [e102]) (by omega) (fun k k0 k1 => by rw [e104]; have := tb k k0 (by omega); exact ⟨this.1, this.2.1⟩)
        rw [e104, if_neg c2] at mp
        exact pre G1 _ g0 e102 (by rw [ga 100 (by decide) (by decide)]) mp _ rfl
  · rw [bI_f c1] at ot
    refine OP.rf hI (-3) (jI (-3)) ?_ ?_
    · unfold f_X11_print f_X11_takePicture
      have c0 : (jI (G 102 0) = jI 0) = False := jeq_f (by omega)
      simp (maxSteps := 2000000) (disch := first | assumption | omega) only [jI0, iAdd_j, iSub_j, iMul_j, iNeg_j, Option.bind_some, jlt_t, jlt_f, jlt, jle_t, jle_f, jle, jeq_t, jeq_f, jeq, ↓reduceIte, o0, o2, b0, c0, ot, o21, X11_refuse]
    · intro G1 hM e eo
      have wt := w100t (q := q) hM.2
      have c0 : (jI (G 102 0) = jI 0) = False := jeq_f (by omega)
      have l0 := l102 q G1 (i := 0) (by decide) (by decide)
      rw [e] at l0
      have e6 : G1 100 6 = G 100 6 := by rw [eo 100 (by decide)]
      unfold f_X12_print
      simp (maxSteps := 2000000) (disch := first | assumption | omega) only [jI0, iAdd_j, iSub_j, iMul_j, iNeg_j, Option.bind_some, jlt_t, jlt_f, jlt, jle_t, jle_f, jle, jeq_t, jeq_f, jeq, ↓reduceIte, wt, o100, l0, c0, e6, jlL, X12_within, bI_f, X12_no]
end
