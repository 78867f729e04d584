/-! bowl: the component's way through all bands -/
section
variable {q : Nat × Nat × (Nat → Nat)} {G : Nat → Int → Int} {N : Nat} {A U : Int → Int} {row d bd : Int} {n L r1 r2 : Nat}
theorem BS.sw (h : BS q A U row d n bd L r1 r2 G) {G' : Nat → Int → Int} (e : ∀ a, 83 ≤ a → a ≤ 88 → G' a = G a) (e82 : ∀ i : Int, i ≤ 3 → G' 82 i = G 82 i) (e14 : G' 82 14 = r2) (e15 : G' 82 15 = r1) : BS q A U row d n bd L r2 r1 G' := by
  obtain ⟨⟨e0, e1, e2, e3, _, _⟩, hB, ⟨r12, c1, c2⟩, b, l⟩ := h
  refine ⟨⟨?_, ?_, ?_, ?_, e14, e15⟩, ?_, ⟨Ne.symm r12, c2, c1⟩, b, l⟩
  · rw [e82 0 (by omega)]; exact e0
  · rw [e82 1 (by omega)]; exact e1
  · rw [e82 2 (by omega)]; exact e2
  · rw [e82 3 (by omega)]; exact e3
  · intro b hb
    rw [e 83 (by omega) (by omega), e 84 (by omega) (by omega), e 85 (by omega) (by omega), e 86 (by omega) (by omega), e 88 (by omega) (by omega)]
    exact hB b hb
theorem oSwap (h : BS q A U row d n bd L r1 r2 G) : ∃ G' : Nat → Int → Int, ((∀ a, a ≠ 82 → G' a = G a) ∧ (∀ i : Int, i ≠ 14 → i ≠ 15 → G' 82 i = G 82 i) ∧ (G' 82 14 = r2 ∧ G' 82 15 = r1)) ∧ f_X1_takeNext N 82 (hp q G) = some (hp q G') := by
  obtain ⟨⟨_, _, _, _, e14, e15⟩, _⟩ := h
  have p1 := hpM (q := q) (G := G) (ci := 1) (a := 82) (k := 14) (r := r2) (by decide) (fun _ => rfl) rfl
  have p2 := hpM (q := q) (G := up G 82 ((14 : Nat) : Int) (r2 : Int)) (ci := 1) (a := 82) (k := 15) (r := r1) (by decide) (fun _ => rfl) rfl
  refine ⟨up (up G 82 ((14 : Nat) : Int) (r2 : Int)) 82 ((15 : Nat) : Int) (r1 : Int), ⟨fun a ha => by rw [up_ne ha, up_ne ha], fun i h1 h2 => ?_, ⟨?_, ?_⟩⟩, ?_⟩
  · rw [up_eq, up_eq]
    show u1 (u1 (G 82) 14 r2) 15 r1 i = _
    rw [u1_ne h2, u1_ne h1]
  · rw [up_eq, up_eq, u1_ne (by decide)]
    exact u1_eq
  · rw [up_eq]
    exact u1_eq
  · unfold f_X1_takeNext
    simp (maxSteps := 2000000) (disch := first | assumption | omega) only [jI0, iAdd_j, iSub_j, iMul_j, iNeg_j, Option.bind_some, jlt_t, jlt_f, jlt, jle_t, jle_f, jle, jeq_t, jeq_f, jeq, ↓reduceIte, o82, e14, e15, Int.toNat_natCast, p1, p2]
theorem oFirst (h : BS q A U row d n bd L r1 r2 G) (hB : BN A U row d n) (hN : 10000 ≤ N) (S : Sd A U row d (G 85 0) (bR G 0) 0 (G r2)) (g0 : gOK A U row d n bd G 0) : ∃ G' : Nat → Int → Int, ((∀ a, a ≠ r2 → G' a = G a) ∧ Sd A U row d (G 85 0) (bR G 0) 0 (G' r2) ∧ G' r2 (gI' A U row d n G 0) ≤ bE A U row (bG A U row d n) 1) ∧ L_X1_make_99 N N 82 (jI 0) (hp q G) = L_X1_make_134 N N 82 (jI 1) (hp q G') := by
  have n8 := hB.2.1
  have hd := hB.2.2.2.2.2.2
  have W := hB.2.2.1
  have gf := gr_fe (roF A) (wiF U row) (A 141) d hd.1 n (Nat.le_refl n)
  have g0r : 0 ≤ bG A U row d n 0 ∧ bG A U row d n 0 ≤ 18 := (gf 0 (by omega)).1
  have r2c := h.2.2.1.2.2.2.2
  have wy : ∀ l : Int, wayO A U row d 0 (A 141) l 0 := fun l => .inr ⟨fun _ => 0, fun j hj => absurd hj (by omega), decide_eq_true (.inl rfl), rfl, rfl⟩
  have LL : ∀ (k f : Nat) (l : Int) (G1 : Nat → Int → Int), l + k = 19 → 0 ≤ l → k < f → (∀ a, a ≠ r2 → G1 a = G a) → Sd A U row d (G 85 0) (bR G 0) 0 (G1 r2) → ∃ G' : Nat → Int → Int, ((∀ a, a ≠ r2 → G' a = G a) ∧ Sd A U row d (G 85 0) (bR G 0) 0 (G' r2) ∧ (∀ i : Int, G' r2 i ≤ G1 r2 i) ∧ (l ≤ bG A U row d n 0 → G' r2 (gI' A U row d n G 0) ≤ bE A U row (bG A U row d n) 1)) ∧ L_X1_make_99 N f 82 (jI l) (hp q G1) = L_X1_make_134 N N 82 (jI 1) (hp q G') := by
    intro k
    induction k with
    | zero =>
      intro f l G1 hl l0 hf e S'
      obtain ⟨f, rfl⟩ : ∃ y, f = y + 1 := ⟨f - 1, by omega⟩
      refine ⟨G1, ⟨e, S', fun _ => Int.le_refl _, fun hh => absurd hh (by omega)⟩, ?_⟩
      have c : ¬ l < 19 := by omega
      rw [L_X1_make_99]
      simp (maxSteps := 2000000) (disch := first | assumption | omega) only [jI0, iAdd_j, iSub_j, iMul_j, iNeg_j, Option.bind_some, jlt_t, jlt_f, jlt, jle_t, jle_f, jle, jeq_t, jeq_f, jeq, ↓reduceIte, c]
    | succ k ih =>
      intro f l G1 hl l0 hf e S'
      obtain ⟨f, rfl⟩ : ∃ y, f = y + 1 := ⟨f - 1, by omega⟩
      have c : l < 19 := by omega
      have h1 : BS q A U row d n bd L r1 r2 G1 := h.of (fun a a0 a1 => e a (by omega))
      have g85 : G1 85 = G 85 := e 85 (by omega)
      have g86 : G1 86 = G 86 := e 86 (by omega)
      have gR : bR G1 0 = bR G 0 := by unfold bR; rw [g85, g86]
      have gIe : gI' A U row d n G1 0 = gI' A U row d n G 0 := by unfold gI'; rw [g85]
      have gOe : gOK A U row d n bd G1 0 := by unfold gOK at *; rw [g85, g86]; exact g0
      have e1 := h1.1.2.1
      have wb := oWidthBy (N := N) h1 hB (b := 0) (by omega) (w := A 141) (l := l) W.1 (Int.le_refl _) l0 (by omega)
      obtain ⟨G2, ⟨z1, z2, z3, z4⟩, z5⟩ := oStep1 (N := N) h1 hB (b := 0) (by omega) l0 (show l ≤ 18 by omega) (wy l) (by decide) (by rw [show ((0 : Nat) : Int) = 0 from rfl, g85, gR]; exact S')
      rw [show ((0 : Nat) : Int) = 0 from rfl, g85, gR] at z2
      rw [gIe] at z4
      rw [show ((0 : Nat) : Int) = 0 from rfl] at z5 wb
      obtain ⟨G', ⟨y1, y2, y3, y4⟩, y5⟩ := ih f (l + 1) G2 (by omega) (by omega) (by omega) (fun a ha => by rw [z1 a ha, e a ha]) z2
      refine ⟨G', ⟨y1, y2, fun i => Int.le_trans (y3 i) (z3 i), fun k1 => ?_⟩, ?_⟩
      · by_cases cl : l = bG A U row d n 0
        · have x := z4 gOe cl rfl (by rw [bE_0]; exact Int.le_refl 0)
          exact Int.le_trans (y3 _) x
        · exact y4 (by omega)
      · rw [L_X1_make_99]
        simp (maxSteps := 2000000) (disch := first | assumption | omega) only [jI0, iAdd_j, iSub_j, iMul_j, iNeg_j, Option.bind_some, jlt_t, jlt_f, jlt, jle_t, jle_f, jle, jeq_t, jeq_f, jeq, ↓reduceIte, c, o82, e1, wb, z5, y5]
  obtain ⟨G', ⟨y1, y2, y3, y4⟩, y5⟩ := LL 19 N 0 G (by omega) (by omega) (by omega) (fun _ _ => rfl) S
  exact ⟨G', ⟨y1, y2, y4 g0r.1⟩, y5⟩
/-- the best of the last band's codes -/
theorem oBest (h : BS q A U row d n bd L r1 r2 G) (hB : BN A U row d n) (hN : 10000 ≤ N) {m : Nat} (hm : n = m + 1) (S : Sd A U row d (G 85 m) (bR G m) m (G r1)) (g0 : gOK A U row d n bd G m) (g2 : G r1 (gI' A U row d n G m) ≤ bE A U row (bG A U row d n) n) : ∃ G' : Nat → Int → Int, ((∀ a, a ≠ 82 → G' a = G a) ∧ (∀ i : Int, i ≠ 16 → G' 82 i = G 82 i) ∧ G' 82 16 = bE A U row (bG A U row d n) n) ∧ L_X1_make_173 N N 82 (jI 0) (hp q (up G 82 16 9223372036854775807)) = some (hp q G') := by
  have n8 := hB.2.1
  have hd := hB.2.2.2.2.2.2
  have gf := gr_fe (roF A) (wiF U row) (A 141) d hd.1 n (Nat.le_refl n)
  have gm : 0 ≤ bG A U row d n m ∧ bG A U row d n m ≤ 18 := (gf m (by omega)).1
  have fm := h.2.1 m (by omega)
  have r1c := h.2.2.1.2.1.2.2
  have rr : 0 ≤ bR G m ∧ 20 * bR G m ≤ L ∧ bR G m ≤ 4000 := by
    unfold bR
    omega
  have bg := bE_r (s := bG A U row d n) hB (Nat.le_refl n) gf
  have em : (n : Int) - 1 = m := by omega
  obtain ⟨tg, htg⟩ : ∃ tg, tg = bW A (bG A U row d n) n - G 85 m := ⟨_, rfl⟩
  have gI0 : gI' A U row d n G m = tg * 20 + bG A U row d n m := by
    unfold gI'
    rw [← hm, htg]
  have tgr : 0 ≤ tg ∧ tg < bR G m := by
    have := g0.1
    rw [← hm] at this
    unfold bR
    omega
  rw [gI0] at g2
  have LL : ∀ (k f : Nat) (t v : Int) (H : Nat → Int → Int), t + k = bR G m → 0 ≤ t → k < f → (∀ a, a ≠ 82 → H a = G a) → (∀ i : Int, i ≠ 16 → H 82 i = G 82 i) → H 82 16 = v → (0 ≤ v ∧ v ≤ 9223372036854775807) → (v = 9223372036854775807 ∨ ∃ s : Int → Int, fe d s n ∧ v = bE A U row s n) → (∀ x : Int, 0 ≤ x → x < t → v ≤ G r1 (x * 20 + 19)) → ∃ G' : Nat → Int → Int, ((∀ a, a ≠ 82 → G' a = G a) ∧ (∀ i : Int, i ≠ 16 → G' 82 i = G 82 i) ∧ (G' 82 16 = 9223372036854775807 ∨ ∃ s : Int → Int, fe d s n ∧ G' 82 16 = bE A U row s n) ∧ ∀ x : Int, 0 ≤ x → x < bR G m → G' 82 16 ≤ G r1 (x * 20 + 19)) ∧ L_X1_make_173 N f 82 (jI t) (hp q H) = some (hp q G') := by
    intro k
    induction k with
    | zero =>
      intro f t v H ht t0 hf e1 e2 ev vr hv hx
      obtain ⟨f, rfl⟩ : ∃ y, f = y + 1 := ⟨f - 1, by omega⟩
      have h1 : BS q A U row d n bd L r1 r2 H := by
        obtain ⟨⟨a0, a1, a2, a3, a4, a5⟩, a6, a7⟩ := h
        unfold BS
        rw [e1 83 (by decide), e1 84 (by decide), e1 85 (by decide), e1 86 (by decide), e1 88 (by decide), e2 0 (by decide), e2 1 (by decide), e2 2 (by decide), e2 3 (by decide), e2 14 (by decide), e2 15 (by decide)]
        exact ⟨⟨a0, a1, a2, a3, a4, a5⟩, a6, a7⟩
      have ro' := oRowsOf (N := N) h1 hB (b := m) (by omega)
      have gR : bR H m = bR G m := by unfold bR; rw [e1 85 (by decide), e1 86 (by decide)]
      rw [gR] at ro'
      have h0 := h1.1.1
      refine ⟨H, ⟨e1, e2, by rw [ev]; exact hv, fun x x0 x1 => by rw [ev]; exact hx x x0 (by omega)⟩, ?_⟩
      have c : ¬ t < bR G m := by omega
      rw [L_X1_make_173]
      simp (maxSteps := 2000000) (disch := first | assumption | omega) only [jI0, iAdd_j, iSub_j, iMul_j, iNeg_j, Option.bind_some, jlt_t, jlt_f, jlt, jle_t, jle_f, jle, jeq_t, jeq_f, jeq, ↓reduceIte, o82, h0, em, ro', c]
    | succ k ih =>
      intro f t v H ht t0 hf e1 e2 ev vr hv hx
      obtain ⟨f, rfl⟩ : ∃ y, f = y + 1 := ⟨f - 1, by omega⟩
      have h1 : BS q A U row d n bd L r1 r2 H := by
        obtain ⟨⟨a0, a1, a2, a3, a4, a5⟩, a6, a7⟩ := h
        unfold BS
        rw [e1 83 (by decide), e1 84 (by decide), e1 85 (by decide), e1 86 (by decide), e1 88 (by decide), e2 0 (by decide), e2 1 (by decide), e2 2 (by decide), e2 3 (by decide), e2 14 (by decide), e2 15 (by decide)]
        exact ⟨⟨a0, a1, a2, a3, a4, a5⟩, a6, a7⟩
      have ro' := oRowsOf (N := N) h1 hB (b := m) (by omega)
      have gR : bR H m = bR G m := by unfold bR; rw [e1 85 (by decide), e1 86 (by decide)]
      rw [gR] at ro'
      have h0 := h1.1.1
      have c : t < bR G m := by omega
      have wa := oWayAt (N := N) h1 (i := t * 20 + 19) (by omega) (by omega)
      rw [e1 r1 (by omega)] at wa
      have rg := S.rg hB (by omega) t0 c (l := 19) (by omega) (by omega)
      have lm := lMin_j (a := v) (b := G r1 (t * 20 + 19)) (by omega) (by omega)
      obtain ⟨G', y1, y2⟩ := ih f (t + 1) (min v (G r1 (t * 20 + 19))) (up H 82 16 (min v (G r1 (t * 20 + 19)))) (by omega) (by omega) (by omega) (fun a ha => by rw [up_ne ha]; exact e1 a ha) (fun i hi => by rw [up_eq, u1_ne hi]; exact e2 i hi) (by rw [up_eq, u1_eq]) (by omega) (by
        by_cases cc : v ≤ G r1 (t * 20 + 19)
        · rw [Int.min_eq_left cc]; exact hv
        · rw [Int.min_eq_right (by omega)]
          rcases (S t 0 t0 c (by omega) (by omega)).2.2 with y | ⟨s, s1, s2, s3⟩
          · exact .inl y
          · rw [← hm] at s1 s3
            exact .inr ⟨s, s1, s3⟩) (fun x x0 x1 => by
        by_cases cx : x = t
        · rw [cx]; exact Int.min_le_right _ _
        · have := hx x x0 (by omega)
          omega)
      refine ⟨G', y1, ?_⟩
      rw [L_X1_make_173]
      simp (maxSteps := 2000000) (disch := first | assumption | omega) only [jI0, iAdd_j, iSub_j, iMul_j, iNeg_j, Option.bind_some, jlt_t, jlt_f, jlt, jle_t, jle_f, jle, jeq_t, jeq_f, jeq, ↓reduceIte, o82, h0, em, ro', c, ev, wa, lm, w82, y2]
  obtain ⟨G', ⟨y1, y2, y3, y4⟩, y5⟩ := LL (bR G m).toNat N 0 9223372036854775807 (up G 82 16 9223372036854775807) (by omega) (by omega) (by omega) (fun a ha => up_ne ha) (fun i hi => by rw [up_eq, u1_ne hi]) (by rw [up_eq, u1_eq]) (by omega) (.inl rfl) (fun x x0 x1 => absurd x1 (by omega))
  refine ⟨G', ⟨y1, y2, ?_⟩, y5⟩
  have a := y4 tg tgr.1 tgr.2
  have b := (S tg (bG A U row d n m) tgr.1 tgr.2 gm.1 gm.2).2.1
  rcases y3 with y | ⟨s, s1, s2⟩
  · omega
  · have le : bE A U row (bG A U row d n) n ≤ bE A U row s n := en_le (roF A) (wiF U row) (A 141) d hd.1 n8.2 s1
    omega
/-- all bands -/
theorem oBands (hB : BN A U row d n) (hN : 100000 ≤ N) {m : Nat} (hm : n = m + 1) : ∀ (k f b c : Nat) (r1 r2 : Nat) (G : Nat → Int → Int), b + k = n → b = c + 1 → k < f → BS q A U row d n bd L r1 r2 G → Sd A U row d (G 85 c) (bR G c) c (G r2) → (∀ b, b < n → gOK A U row d n bd G b) → G r2 (gI' A U row d n G c) ≤ bE A U row (bG A U row d n) b → ∃ (G' : Nat → Int → Int) (s1 s2 : Nat), ((∀ a, a ≠ 82 → a ≠ r1 → a ≠ r2 → G' a = G a) ∧ ((s1 = r1 ∧ s2 = r2) ∨ (s1 = r2 ∧ s2 = r1)) ∧ (G' 82 14 = s1 ∧ G' 82 15 = s2) ∧ G' 82 16 = bE A U row (bG A U row d n) n) ∧ L_X1_make_134 N f 82 (jI (b : Int)) (hp q G) = some (hp q G') := by
  have n8 := hB.2.1
  intro k
  induction k with
  | zero =>
    intro f b c r1 r2 G hb hc hf h S gO g2
    obtain ⟨f, rfl⟩ : ∃ y, f = y + 1 := ⟨f - 1, by omega⟩
    obtain ⟨G1, ⟨t1, t2, ⟨t3, t4⟩⟩, t5⟩ := oSwap (N := N) h
    have h1 : BS q A U row d n bd L r2 r1 G1 := h.sw (fun a a0 a1 => t1 a (by omega)) (fun i hi => t2 i (by omega) (by omega)) t3 t4
    have ec : c = m := by omega
    have en : b = n := by omega
    rw [ec] at S g2
    rw [en] at g2 ⊢
    have r1c := h.2.2.1.2.1.2.2
    have r2c := h.2.2.1.2.2.2.2
    have e85 : G1 85 = G 85 := t1 85 (by decide)
    have e86 : G1 86 = G 86 := t1 86 (by decide)
    have eR : bR G1 m = bR G m := by unfold bR; rw [e85, e86]
    have eI : gI' A U row d n G1 m = gI' A U row d n G m := by unfold gI'; rw [e85]
    have eO : gOK A U row d n bd G1 m := by
      have := gO m (by omega)
      unfold gOK at *
      rw [e85, e86]
      exact this
    have er : G1 r2 = G r2 := t1 r2 (by omega)
    obtain ⟨G', ⟨y1, y2, y3⟩, y4⟩ := oBest (N := N) h1 hB (by omega) hm (by rw [e85, eR, er]; exact S) eO (by rw [eI, er]; exact g2)
    refine ⟨G', r2, r1, ⟨fun a a0 a1 a2 => by rw [y1 a a0, t1 a a0], .inr ⟨rfl, rfl⟩, ⟨by rw [y2 14 (by decide)]; exact t3, by rw [y2 15 (by decide)]; exact t4⟩, y3⟩, ?_⟩
    have h0 := h.1.1
    have c1 : ¬ (n : Int) < n := by omega
    have w16 := (w82 q G1 9223372036854775807).2.2.2.2
    rw [L_X1_make_134]
    simp (maxSteps := 2000000) (disch := first | assumption | omega) only [jI0, iAdd_j, iSub_j, iMul_j, iNeg_j, Option.bind_some, jlt_t, jlt_f, jlt, jle_t, jle_f, jle, jeq_t, jeq_f, jeq, ↓reduceIte, o82, h0, c1, t5, w16, y4]
  | succ k ih =>
    intro f b c r1 r2 G hb hc hf h S gO g2
    obtain ⟨f, rfl⟩ : ∃ y, f = y + 1 := ⟨f - 1, by omega⟩
    obtain ⟨G1, ⟨t1, t2, ⟨t3, t4⟩⟩, t5⟩ := oSwap (N := N) h
    have h1 : BS q A U row d n bd L r2 r1 G1 := h.sw (fun a a0 a1 => t1 a (by omega)) (fun i hi => t2 i (by omega) (by omega)) t3 t4
    have r1c := h.2.2.1.2.1.2.2
    have r2c := h.2.2.1.2.2.2.2
    have r12 := h.2.2.1.1
    have e85 : G1 85 = G 85 := t1 85 (by decide)
    have e86 : G1 86 = G 86 := t1 86 (by decide)
    have eR : ∀ b, bR G1 b = bR G b := fun b => by unfold bR; rw [e85, e86]
    have eI : ∀ b, gI' A U row d n G1 b = gI' A U row d n G b := fun b => by unfold gI'; rw [e85]
    have eO : ∀ b, b < n → gOK A U row d n bd G1 b := fun b hb => by
      have := gO b hb
      unfold gOK at *
      rw [e85, e86]
      exact this
    have er : G1 r2 = G r2 := t1 r2 (by omega)
    obtain ⟨G2, ⟨z1, z2, z3⟩, z4⟩ := oGoOn (N := N) h1 hB hN (b := b) (c := c) (by omega) hc (by rw [e85, eR, er]; exact S) (eO c (by omega)) (eO b (by omega)) (by rw [eI, er]; exact g2)
    have h2 : BS q A U row d n bd L r2 r1 G2 := h1.of (fun a a0 a1 => z1 a (by omega))
    have f85 : G2 85 = G1 85 := z1 85 (by omega)
    have f86 : G2 86 = G1 86 := z1 86 (by omega)
    have fR : ∀ b, bR G2 b = bR G1 b := fun b => by unfold bR; rw [f85, f86]
    have fI : ∀ b, gI' A U row d n G2 b = gI' A U row d n G1 b := fun b => by unfold gI'; rw [f85]
    obtain ⟨G', s1, s2, ⟨y1, y2, y3, y4⟩, y5⟩ := ih f (b + 1) b r2 r1 G2 (by omega) rfl (by omega) h2 (by rw [f85, fR]; exact z2) (fun b hb => by
      have := eO b hb
      unfold gOK at *
      rw [f85, f86]
      exact this) (by rw [fI]; exact z3)
    refine ⟨G', s1, s2, ⟨fun a a0 a1 a2 => by rw [y1 a a0 a2 a1, z1 a a1, t1 a a0], y2.symm, y3, y4⟩, ?_⟩
    rw [Int.natCast_succ] at y5
    have h0 := h.1.1
    have c1 : (b : Int) < n := by omega
    rw [L_X1_make_134]
    simp (maxSteps := 2000000) (disch := first | assumption | omega) only [jI0, iAdd_j, iSub_j, iMul_j, iNeg_j, Option.bind_some, jlt_t, jlt_f, jlt, jle_t, jle_f, jle, jeq_t, jeq_f, jeq, ↓reduceIte, o82, h0, c1, t5, z4, y5]
/-- from the room on -/
theorem oWays (h : BS q A U row d n bd L r1 r2 G) (hB : BN A U row d n) (hN : 100000 ≤ N) (gO : ∀ b, b < n → gOK A U row d n bd G b) : ∃ (G' : Nat → Int → Int) (s1 s2 : Nat), ((∀ a, a ≠ 82 → a ≠ r1 → a ≠ r2 → G' a = G a) ∧ ((s1 = r1 ∧ s2 = r2) ∨ (s1 = r2 ∧ s2 = r1)) ∧ (G' 82 14 = s1 ∧ G' 82 15 = s2) ∧ G' 82 16 = bE A U row (bG A U row d n) n) ∧ ((f_X1_emptyNext N 82 (jI 0) (hp q G)).bind fun h14 => L_X1_make_99 N N 82 (jI 0) h14) = some (hp q G') := by
  have n8 := hB.2.1
  have r2c := h.2.2.1.2.2.2.2
  obtain ⟨m, hm⟩ : ∃ m, n = m + 1 := ⟨n - 1, by omega⟩
  obtain ⟨Ge, ⟨v1, v2⟩, v3⟩ := oEmpty (N := N) h hB hN (b := 0) (by omega)
  rw [show ((0 : Nat) : Int) = 0 from rfl] at v2 v3
  have h1 : BS q A U row d n bd L r1 r2 Ge := h.of (fun a a0 a1 => v1 a (by omega))
  have e85 : Ge 85 = G 85 := v1 85 (by omega)
  have e86 : Ge 86 = G 86 := v1 86 (by omega)
  have eR : ∀ b, bR Ge b = bR G b := fun b => by unfold bR; rw [e85, e86]
  have eO : ∀ b, b < n → gOK A U row d n bd Ge b := fun b hb => by
    have := gO b hb
    unfold gOK at *
    rw [e85, e86]
    exact this
  obtain ⟨Gf, ⟨w1, w2, w3⟩, w4⟩ := oFirst (N := N) h1 hB (by omega) (by rw [e85, eR]; exact v2) (eO 0 (by omega))
  have h2 : BS q A U row d n bd L r1 r2 Gf := h1.of (fun a a0 a1 => w1 a (by omega))
  have f85 : Gf 85 = Ge 85 := w1 85 (by omega)
  have f86 : Gf 86 = Ge 86 := w1 86 (by omega)
  have fR : ∀ b, bR Gf b = bR Ge b := fun b => by unfold bR; rw [f85, f86]
  have fI : ∀ b, gI' A U row d n Gf b = gI' A U row d n Ge b := fun b => by unfold gI'; rw [f85]
  obtain ⟨G', s1, s2, ⟨y1, y2, y3, y4⟩, y5⟩ := oBands (N := N) (q := q) hB hN hm (n - 1) N 1 0 r1 r2 Gf (by omega) rfl (by omega) h2 (by rw [show ((0 : Nat) : Int) = 0 from rfl, f85, fR]; exact w2) (fun b hb => by
    have := eO b hb
    unfold gOK at *
    rw [f85, f86]
    exact this) (by rw [fI]; exact w3)
  refine ⟨G', s1, s2, ⟨fun a a0 a1 a2 => by rw [y1 a a0 a1 a2, w1 a a2, v1 a a2], y2, y3, y4⟩, ?_⟩
  rw [v3, Option.bind_some, w4]
  exact y5
end
