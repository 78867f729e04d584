/-! bowl: the component's step from band to band -/
theorem jLne {a b : Int} (ha : -9223372036854775808 ≤ a ∧ a < 9223372036854775808) (hb : -9223372036854775808 ≤ b ∧ b < 9223372036854775808) (h : a ≠ b) : ¬ (jL a = jL b) := fun e => h ((jL_eq ha.1 ha.2 hb.1 hb.2).mp e)
section
variable {q : Nat × Nat × (Nat → Nat)} {G : Nat → Int → Int} {N : Nat} {A U : Int → Int} {row d bd : Int} {n L r1 r2 : Nat}
theorem fillL (hN : 100000 ≤ N) {a L : Nat} {k v : Int} (ha : a < 120 + q.1) (hs : shp q.2.2 a = .inl (1, L)) (h0 : 0 ≤ k) (h1 : k ≤ L) (h2 : L ≤ 160000) (h3 : k ≤ 90000) : ∃ G' : Nat → Int → Int, ((∀ x, x ≠ a → G' x = G x) ∧ (∀ i : Int, 0 ≤ i → i < k → G' a i = v)) ∧ f_J7_fill_bad5a N a (jI 0) (jI k) (jL v) (hp q G) = some (hp q G') := by
  obtain ⟨m, rfl⟩ := Int.eq_ofNat_of_zero_le h0
  have ln := hln (q := q) (G := G) (a := a) (t := 1) (n := L) ha hs (by decide)
  have LL : ∃ G' : Nat → Int → Int, ((∀ x, x ≠ a → G' x = G x) ∧ (∀ i : Int, 0 ≤ i → i < (m : Int) → G' a i = v)) ∧ L_J7_fill_bad5a_10 N N a (jI (m : Int)) (jL v) (jI 0) (hp q G) = some (hp q G') := by
    refine loopG (N := N) (fun f (t : Int × (Nat → Int → Int)) => L_J7_fill_bad5a_10 N f a (jI (m : Int)) (jL v) (jI t.1) (hp q t.2)) (fun j t => t.1 = j ∧ (∀ x, x ≠ a → t.2 x = G x) ∧ ∀ i : Int, 0 ≤ i → i < (j : Int) → t.2 a i = v) m (R := fun g => some (hp q g)) (by omega) (s := (0, G)) ⟨rfl, fun _ _ => rfl, fun i i0 i1 => absurd i1 (by omega)⟩ ?_ ?_
    · rintro f j ⟨z, H⟩ hj ⟨rfl, t1, t2⟩
      simp only at t1 t2
      have st := hsL (q := q) (G := H) (a := a) (n := L) (i := (j : Int)) (v := v) ha hs (by omega) (by omega) (by omega)
      refine ⟨(((j + 1 : Nat) : Int), up H a j v), ⟨rfl, fun x hx => (up_ne hx).trans (t1 x hx), fun i i0 i1 => ?_⟩, ?_⟩
      · show up H a j v a i = v
        rw [up_eq]
        by_cases c : i = j
        · rw [c, u1_eq]
        · rw [u1_ne c]
          exact t2 i i0 (by omega)
      · show L_J7_fill_bad5a_10 N (f + 1) a (jI (m : Int)) (jL v) (jI (j : Int)) (hp q H) = L_J7_fill_bad5a_10 N f a (jI (m : Int)) (jL v) (jI ((j + 1 : Nat) : Int)) (hp q (up H a j v))
        have c : (j : Int) < m := by omega
        rw [L_J7_fill_bad5a_10]
        simp (maxSteps := 2000000) (disch := first | assumption | omega) only [jI0, iAdd_j, iSub_j, iMul_j, iNeg_j, Option.bind_some, jlt_t, jlt_f, jlt, jle_t, jle_f, jle, jeq_t, jeq_f, jeq, ↓reduceIte, c, st, Int.natCast_succ]
    · rintro f ⟨z, H⟩ ⟨rfl, t1, t2⟩
      simp only at t1 t2
      refine ⟨H, ⟨t1, t2⟩, ?_⟩
      show L_J7_fill_bad5a_10 N (f + 1) a (jI (m : Int)) (jL v) (jI (m : Int)) (hp q H) = _
      have c : ¬ (m : Int) < m := by omega
      rw [L_J7_fill_bad5a_10]
      simp (maxSteps := 2000000) (disch := first | assumption | omega) only [jI0, iAdd_j, iSub_j, iMul_j, iNeg_j, Option.bind_some, jlt_t, jlt_f, jlt, jle_t, jle_f, jle, jeq_t, jeq_f, jeq, ↓reduceIte, c]
  obtain ⟨G', y1, y2⟩ := LL
  refine ⟨G', y1, ?_⟩
  have c1 : ¬ (m : Int) < 0 := by omega
  have c2 : ¬ (L : Int) < m := by omega
  unfold f_J7_fill_bad5a f_J7_rangeCheck_23922
  simp (maxSteps := 2000000) (disch := first | assumption | omega) only [jI0, iAdd_j, iSub_j, iMul_j, iNeg_j, Option.bind_some, jlt_t, jlt_f, jlt, jle_t, jle_f, jle, jeq_t, jeq_f, jeq, ↓reduceIte, ln, c1, c2, y2]
theorem oEmpty (h : BS q A U row d n bd L r1 r2 G) (hB : BN A U row d n) (hN : 100000 ≤ N) {b : Nat} (hb : b < n) : ∃ G' : Nat → Int → Int, ((∀ a, a ≠ r2 → G' a = G a) ∧ Sd A U row d (G 85 b) (bR G b) b (G' r2)) ∧ f_X1_emptyNext N 82 (jI (b : Int)) (hp q G) = some (hp q G') := by
  have ro' := oRowsOf (N := N) h hB hb
  obtain ⟨⟨e0, e1, e2, e3, e14, e15⟩, hBB, ⟨r12, _, ⟨c1, c2, c3⟩⟩, _, l5⟩ := h
  obtain ⟨_, ⟨f3, f4, f5, f6⟩, f7, _⟩ := hBB b hb
  have m := mo_r hB (b + 1) (by omega)
  have rr : 0 ≤ bR G b ∧ 20 * bR G b ≤ L ∧ bR G b ≤ 4000 := by
    unfold bR
    omega
  obtain ⟨G', ⟨y1, y2⟩, y3⟩ := fillL (q := q) (G := G) (v := 9223372036854775807) (k := 20 * bR G b) hN c1 c2 (by omega) rr.2.1 l5 (by omega)
  have ln := hln (q := q) (G := G) (a := r2) (t := 1) (n := L) c1 c2 (by decide)
  have mn : min (L : Int) (20 * bR G b) = 20 * bR G b := by omega
  refine ⟨G', ⟨y1, fun r l p0 p1 p2 p3 => ?_⟩, ?_⟩
  · rw [y2 _ (by omega) (by omega), y2 _ (by omega) (by omega)]
    exact ⟨.inl rfl, Int.le_refl _, .inl rfl⟩
  · unfold f_X1_emptyNext
    simp (maxSteps := 2000000) (disch := first | assumption | omega) only [jI0, iAdd_j, iSub_j, iMul_j, iNeg_j, Option.bind_some, jlt_t, jlt_f, jlt, jle_t, jle_f, jle, jeq_t, jeq_f, jeq, ↓reduceIte, o82, e15, Int.toNat_natCast, ln, ro', iMin_j, mn, y3]
/-- the best row's way lies within -/
def gOK (A U : Int → Int) (row d : Int) (n : Nat) (bd : Int) (G : Nat → Int → Int) (b : Nat) : Prop := (G 85 b ≤ bW A (bG A U row d n) (b + 1) ∧ bW A (bG A U row d n) (b + 1) ≤ G 86 b) ∧ bP A U row (bG A U row d n) (b + 1) + (ss A U row n - ss A U row (b + 1)) ≤ bd
/-- the best row's place among the codes of a band -/
def gI' (A U : Int → Int) (row d : Int) (n : Nat) (G : Nat → Int → Int) (b : Nat) : Int := (bW A (bG A U row d n) (b + 1) - G 85 b) * 20 + bG A U row d n b
/-- a way at a row of leans, to lean l of band b -/
def wayO (A U : Int → Int) (row d : Int) (b : Nat) (w l v : Int) : Prop := v = 9223372036854775807 ∨ ∃ s : Int → Int, fe d s b ∧ adm d b (ah s b) l = true ∧ bW A s b = w ∧ v = bE A U row s b
/-- one step along such a way, and what it does for the best row -/
theorem oStep1 (h : BS q A U row d n bd L r1 r2 G) (hB : BN A U row d n) {b : Nat} (hb : b < n) {l w v : Int} (l0 : 0 ≤ l) (l1 : l ≤ 18) (hv : wayO A U row d b w l v) (nv : v ≠ 9223372036854775807) (S : Sd A U row d (G 85 b) (bR G b) b (G r2)) : ∃ G' : Nat → Int → Int, ((∀ a, a ≠ r2 → G' a = G a) ∧ Sd A U row d (G 85 b) (bR G b) b (G' r2) ∧ (∀ i : Int, G' r2 i ≤ G r2 i) ∧ (gOK A U row d n bd G b → l = bG A U row d n b → w = bW A (bG A U row d n) b → v ≤ bE A U row (bG A U row d n) b → G' r2 (gI' A U row d n G b) ≤ bE A U row (bG A U row d n) (b + 1))) ∧ f_X1_goTo N 82 (jI (b : Int)) (jI (wB (roF A) w l b)) (jI l) (jL v) (hp q G) = some (hp q G') := by
  have n8 := hB.2.1
  rcases hv with hv | ⟨s, f1, f2, f3, f4⟩
  · exact absurd hv nv
  obtain ⟨G', ⟨y1, y2, y3, y4⟩, y5⟩ := oGoTo (N := N) h hB hb f1 l0 l1 f2 S
  rw [f3, ← f4] at y5
  refine ⟨G', ⟨y1, y2, y3, fun g1 g2 g3 g4 => ?_⟩, y5⟩
  have g := gr_fe (roF A) (wiF U row) (A 141) d hB.2.2.2.2.2.2.1 n (Nat.le_refl n)
  have eW : bW A (u1 s b l) (b + 1) = bW A (bG A U row d n) (b + 1) := by
    rw [bW_u, bW_s, f3, g3, g2]
  have eE := bE_u (A := A) (U := U) (row := row) (s := s) (l := l) (b := b) (by omega)
  have eG := bE_s (A := A) (U := U) (row := row) (s := bG A U row d n) (b := b) (by omega)
  rw [← bW_u, eW, ← f4, g2] at eE
  have le : bE A U row (u1 s b l) (b + 1) ≤ bE A U row (bG A U row d n) (b + 1) := by
    rw [g2, eE, eG]
    omega
  have r1' := bE_r hB (show b + 1 ≤ n by omega) (fe_u f1 l0 l1 f2)
  have r2' := bE_r (s := bG A U row d n) hB (show b + 1 ≤ n by omega) (fe_pre g (by omega))
  obtain ⟨⟨o1, o2⟩, o3⟩ := g1
  rw [eW] at y4
  have z := y4 o1 o2 (by omega)
  have e : (bW A (bG A U row d n) (b + 1) - G 85 b) * 20 + l = gI' A U row d n G b := by
    unfold gI'
    rw [g2]
  rw [e] at z
  omega
theorem oFrom (h : BS q A U row d n bd L r1 r2 G) (hB : BN A U row d n) (hN : 10000 ≤ N) {b c : Nat} (hb : b < n) (hc : b = c + 1) (S1 : Sd A U row d (G 85 c) (bR G c) c (G r1)) {t : Int} (t0 : 0 ≤ t) (t1 : t < bR G c) (ne : G r1 (t * 20 + 19) ≠ 9223372036854775807) (S : Sd A U row d (G 85 b) (bR G b) b (G r2)) : ∃ G' : Nat → Int → Int, ((∀ a, a ≠ r2 → G' a = G a) ∧ Sd A U row d (G 85 b) (bR G b) b (G' r2) ∧ (∀ i : Int, G' r2 i ≤ G r2 i) ∧ (gOK A U row d n bd G b → G 85 c + t = bW A (bG A U row d n) b → G r1 (t * 20 + bG A U row d n c) ≤ bE A U row (bG A U row d n) b → G' r2 (gI' A U row d n G b) ≤ bE A U row (bG A U row d n) (b + 1))) ∧ f_X1_goOnFrom N 82 (jI (b : Int)) (jI (G 85 c + t)) (jI (t * 20)) (jL (G r1 (t * 20 + 19))) (hp q G) = some (hp q G') := by
  have n8 := hB.2.1
  have hd := hB.2.2.2.2.2.2
  have gf := gr_fe (roF A) (wiF U row) (A 141) d hd.1 n (Nat.le_refl n)
  have fb := h.2.1 c (by omega)
  have r12 := h.2.2.1.1
  have r2c := h.2.2.1.2.2.2.2
  have rr : 20 * bR G c ≤ L ∧ bR G c ≤ 4000 := by
    unfold bR
    omega
  have ec : (b : Int) - 1 = c := by omega
  rcases (S1 t 0 t0 t1 (by omega) (by omega)).2.2 with e | ⟨sL, f1, f2, f3⟩
  · exact absurd e ne
  rw [← hc] at f1 f2 f3
  have pR := bP_r (s := sL) hB b (by omega) f1
  have eR := bE_r hB (show b ≤ n by omega) f1
  have dR := bE_d hB (show b ≤ n by omega) f1 (k := c) (by omega)
  have ahL : ah sL b = sL c := by rw [hc]; rfl
  have sLr := (f1 c (by omega)).1
  have ahg : ah (bG A U row d n) b = bG A U row d n c := by rw [hc]; rfl
  have gb := gf b hb
  have gcr := (gf c (by omega)).1
  -- all leans
  have LL : ∀ (k f : Nat) (l : Int) (G1 : Nat → Int → Int), l + k = 19 → 0 ≤ l → k < f → (∀ a, a ≠ r2 → G1 a = G a) → Sd A U row d (G 85 b) (bR G b) b (G1 r2) → ∃ G' : Nat → Int → Int, ((∀ a, a ≠ r2 → G' a = G a) ∧ Sd A U row d (G 85 b) (bR G b) b (G' r2) ∧ (∀ i : Int, G' r2 i ≤ G1 r2 i) ∧ (l ≤ bG A U row d n b → gOK A U row d n bd G b → G 85 c + t = bW A (bG A U row d n) b → G r1 (t * 20 + bG A U row d n c) ≤ bE A U row (bG A U row d n) b → G' r2 (gI' A U row d n G b) ≤ bE A U row (bG A U row d n) (b + 1))) ∧ L_X1_goOnFrom_19 N f 82 (jI (b : Int)) (jI (G 85 c + t)) (jI (t * 20)) (jL (G r1 (t * 20 + 19))) (jI (sL c)) (jI l) (hp q G1) = some (hp q G') := by
    intro k
    induction k with
    | zero =>
      intro f l G1 hl l0 hf e S'
      obtain ⟨f, rfl⟩ : ∃ y, f = y + 1 := ⟨f - 1, by omega⟩
      refine ⟨G1, ⟨e, S', fun _ => Int.le_refl _, fun hh => ?_⟩, ?_⟩
      · have : bG A U row d n b ≤ 18 := gb.1.2
        exact absurd hh (by omega)
      · have c19 : ¬ l < 19 := by omega
        rw [L_X1_goOnFrom_19]
        simp (maxSteps := 2000000) (disch := first | assumption | omega) only [jI0, iAdd_j, iSub_j, iMul_j, iNeg_j, Option.bind_some, jlt_t, jlt_f, jlt, jle_t, jle_f, jle, jeq_t, jeq_f, jeq, ↓reduceIte, c19]
    | succ k ih =>
      intro f l G1 hl l0 hf e S'
      obtain ⟨f, rfl⟩ : ∃ y, f = y + 1 := ⟨f - 1, by omega⟩
      have c19 : l < 19 := by omega
      have h1 : BS q A U row d n bd L r1 r2 G1 := h.of (fun a a0 a1 => e a (by omega))
      have g1 : G1 r1 = G r1 := e r1 r12
      have g85 : G1 85 = G 85 := e 85 (by omega)
      have g86 : G1 86 = G 86 := e 86 (by omega)
      have gR : bR G1 b = bR G b := by unfold bR; rw [g85, g86]
      have gIe : gI' A U row d n G1 b = gI' A U row d n G b := by unfold gI'; rw [g85]
      have gOe : gOK A U row d n bd G b → gOK A U row d n bd G1 b := fun hh => by unfold gOK at *; rw [g85, g86]; exact hh
      -- the way
      have W : ∃ v : Int, wayO A U row d b (G 85 c + t) l v ∧ (0 ≤ v ∧ v ≤ 9223372036854775807) ∧ (∀ x : Int, nr d l x → v ≤ G r1 (t * 20 + x)) ∧ L_X1_goOnFrom_19 N (f + 1) 82 (jI (b : Int)) (jI (G 85 c + t)) (jI (t * 20)) (jL (G r1 (t * 20 + 19))) (jI (sL c)) (jI l) (hp q G1) = J_X1_goOnFrom_53 N (L_X1_goOnFrom_19 N f) 82 (jI (b : Int)) (jI (G 85 c + t)) (jI (t * 20)) (jL (G r1 (t * 20 + 19))) (jI (sL c)) (jI l) (jL v) (hp q G1) := by
        have e2 := h1.1.2.2.1
        have ab := iAbs_j (a := l - sL c) (by omega) (by omega)
        by_cases cn : d < ((l - sL c).natAbs : Int)
        · obtain ⟨m, ⟨⟨m1, m2⟩, m3⟩, m4⟩ := oNear (N := N) h1 hB hN (p := t * 20) (l := l) (by omega) (by omega) l0 (by omega) (fun x x0 x1 => by rw [g1]; exact S1.rg hB (by omega) t0 t1 x0 (by omega))
          rw [g1] at m1 m2
          refine ⟨m, ?_, m3, m2, ?_⟩
          · rcases m1 with m1 | ⟨x, x1, x2⟩
            · exact .inl m1
            · rcases (S1 t x t0 t1 x1.1.1 x1.1.2).1 with y | ⟨s, y1, y2, y3, y4⟩
              · exact .inl (x2.trans y)
              · rw [← hc] at y1 y3 y4
                have ahs : ah s b = s c := by rw [hc]; rfl
                refine .inr ⟨s, y1, ?_, y3, x2.trans y4⟩
                rw [ahs, y2]
                exact decide_eq_true (.inr ⟨x1.2.1, x1.2.2⟩)
          · rw [L_X1_goOnFrom_19]
            simp (maxSteps := 2000000) (disch := first | assumption | omega) only [jI0, iAdd_j, iSub_j, iMul_j, iNeg_j, Option.bind_some, jlt_t, jlt_f, jlt, jle_t, jle_f, jle, jeq_t, jeq_f, jeq, ↓reduceIte, c19, o82, e2, ab, cn, m4]
        · refine ⟨G r1 (t * 20 + 19), .inr ⟨sL, f1, ?_, f2, f3⟩, S1.rg hB (by omega) t0 t1 (by omega) (by omega), fun x hx => (S1 t x t0 t1 hx.1.1 hx.1.2).2.1, ?_⟩
          · rw [ahL]
            exact decide_eq_true (.inr ⟨by omega, by omega⟩)
          · rw [L_X1_goOnFrom_19]
            simp (maxSteps := 2000000) (disch := first | assumption | omega) only [jI0, iAdd_j, iSub_j, iMul_j, iNeg_j, Option.bind_some, jlt_t, jlt_f, jlt, jle_t, jle_f, jle, jeq_t, jeq_f, jeq, ↓reduceIte, c19, o82, e2, ab, cn]
      obtain ⟨v, w1, w2, w3, w4⟩ := W
      have nearG : l = bG A U row d n b → nr d l (bG A U row d n c) := fun hh => by
        have a := gb.2
        rw [show ah (gr (roF A) (wiF U row) (A 141) d n) b = bG A U row d n c from ahg] at a
        have a := of_decide_eq_true a
        have x : gr (roF A) (wiF U row) (A 141) d n b = bG A U row d n b := rfl
        have x0 : 0 ≤ bG A U row d n c ∧ bG A U row d n c ≤ 18 := gcr
        rw [x] at a
        exact ⟨x0, by omega, by omega⟩
      have bg := bE_r (s := bG A U row d n) hB (show b ≤ n by omega) (fe_pre gf (by omega))
      rw [w4]
      by_cases cv : v = 9223372036854775807
      · obtain ⟨G', ⟨y1, y2, y3, y4⟩, y5⟩ := ih f (l + 1) G1 (by omega) (by omega) (by omega) e S'
        refine ⟨G', ⟨y1, y2, y3, fun k1 k2 k3 k4 => ?_⟩, ?_⟩
        · by_cases cl : l = bG A U row d n b
          · have := w3 _ (nearG cl)
            omega
          · exact y4 (by omega) k2 k3 k4
        · unfold J_X1_goOnFrom_53
          rw [cv]
          simp (maxSteps := 2000000) (disch := first | assumption | omega) only [jI0, iAdd_j, iSub_j, iMul_j, iNeg_j, Option.bind_some, jlt_t, jlt_f, jlt, jle_t, jle_f, jle, jeq_t, jeq_f, jeq, ↓reduceIte, y5]
      · obtain ⟨G2, ⟨z1, z2, z3, z4⟩, z5⟩ := oStep1 (N := N) h1 hB hb l0 (by omega) w1 cv (by rw [g85, gR]; exact S')
        rw [g85, gR] at z2
        obtain ⟨G', ⟨y1, y2, y3, y4⟩, y5⟩ := ih f (l + 1) G2 (by omega) (by omega) (by omega) (fun a ha => by rw [z1 a ha, e a ha]) z2
        have nj := jLne (a := v) (b := 9223372036854775807) (by omega) (by omega) cv
        have wr : 1 ≤ G 85 c + t ∧ G 85 c + t ≤ mo A b := by
          rw [← f2]; exact pR.2.1
        have wb := oWidthBy (N := N) h1 hB hb (w := G 85 c + t) (l := l) wr.1 wr.2 l0 (by omega)
        refine ⟨G', ⟨y1, y2, fun i => Int.le_trans (y3 i) (z3 i), fun k1 k2 k3 k4 => ?_⟩, ?_⟩
        · by_cases cl : l = bG A U row d n b
          · have := w3 _ (nearG cl)
            have x := z4 (gOe k2) cl k3 (by omega)
            rw [gIe] at x
            exact Int.le_trans (y3 _) x
          · exact y4 (by omega) k2 k3 k4
        · unfold J_X1_goOnFrom_53
          simp (maxSteps := 2000000) (disch := first | assumption | omega) only [jI0, iAdd_j, iSub_j, iMul_j, iNeg_j, Option.bind_some, jlt_t, jlt_f, jlt, jle_t, jle_f, jle, jeq_t, jeq_f, jeq, ↓reduceIte, nj, o82, wb, z5, y5]
  obtain ⟨G', ⟨y1, y2, y3, y4⟩, y5⟩ := LL 19 N 0 G (by omega) (by omega) (by omega) (fun _ _ => rfl) S
  have b0 : 0 ≤ bG A U row d n b := gb.1.1
  refine ⟨G', ⟨y1, y2, y3, fun k1 k2 k3 => y4 b0 k1 k2 k3⟩, ?_⟩
  have us := lUsrS (x := G r1 (t * 20 + 19)) (by omega) (by omega) (b := c) (by omega)
  have la := lAnd31 (x := G r1 (t * 20 + 19) / (sw c : Nat)) (Int.ediv_nonneg (by omega) (by omega))
  rw [f3] at us la
  rw [dR] at la
  rw [f3] at y5 ⊢
  unfold f_X1_goOnFrom f_X1_leanShift
  simp (maxSteps := 2000000) (disch := first | assumption | omega) only [jI0, iAdd_j, iSub_j, iMul_j, iNeg_j, Option.bind_some, jlt_t, jlt_f, jlt, jle_t, jle_f, jle, jeq_t, jeq_f, jeq, ↓reduceIte, ec, us, la, jLI, y5]
/-- a whole band -/
theorem oGoOn (h : BS q A U row d n bd L r1 r2 G) (hB : BN A U row d n) (hN : 100000 ≤ N) {b c : Nat} (hb : b < n) (hc : b = c + 1) (S1 : Sd A U row d (G 85 c) (bR G c) c (G r1)) (g0 : gOK A U row d n bd G c) (g1 : gOK A U row d n bd G b) (g2 : G r1 (gI' A U row d n G c) ≤ bE A U row (bG A U row d n) b) : ∃ G' : Nat → Int → Int, ((∀ a, a ≠ r2 → G' a = G a) ∧ Sd A U row d (G 85 b) (bR G b) b (G' r2) ∧ G' r2 (gI' A U row d n G b) ≤ bE A U row (bG A U row d n) (b + 1)) ∧ f_X1_goOn N 82 (jI (b : Int)) (hp q G) = some (hp q G') := by
  have n8 := hB.2.1
  have hd := hB.2.2.2.2.2.2
  have gf := gr_fe (roF A) (wiF U row) (A 141) d hd.1 n (Nat.le_refl n)
  have fb := h.2.1 c (by omega)
  have r12 := h.2.2.1.1
  have r2c := h.2.2.1.2.2.2.2
  have rr : 0 ≤ bR G c ∧ 20 * bR G c ≤ L ∧ bR G c ≤ 4000 := by
    unfold bR
    omega
  have ec : (b : Int) - 1 = c := by omega
  have gcr : 0 ≤ bG A U row d n c ∧ bG A U row d n c ≤ 18 := (gf c (by omega)).1
  have bg := bE_r (s := bG A U row d n) hB (show b ≤ n by omega) (fe_pre gf (by omega))
  obtain ⟨Ge, ⟨v1, v2⟩, v3⟩ := oEmpty (N := N) h hB hN hb
  obtain ⟨tg, htg⟩ : ∃ tg, tg = bW A (bG A U row d n) b - G 85 c := ⟨_, rfl⟩
  have gI0 : gI' A U row d n G c = tg * 20 + bG A U row d n c := by
    unfold gI'
    rw [← hc, htg]
  have tgr : 0 ≤ tg ∧ tg < bR G c := by
    have := g0.1
    rw [← hc] at this
    unfold bR
    omega
  rw [gI0] at g2
  have LL : ∀ (k f : Nat) (t : Int) (G1 : Nat → Int → Int), t + k = bR G c → 0 ≤ t → k < f → (∀ a, a ≠ r2 → G1 a = G a) → Sd A U row d (G 85 b) (bR G b) b (G1 r2) → ∃ G' : Nat → Int → Int, ((∀ a, a ≠ r2 → G' a = G a) ∧ Sd A U row d (G 85 b) (bR G b) b (G' r2) ∧ (∀ i : Int, G' r2 i ≤ G1 r2 i) ∧ (t ≤ tg → G' r2 (gI' A U row d n G b) ≤ bE A U row (bG A U row d n) (b + 1))) ∧ L_X1_goOn_7 N f 82 (jI (b : Int)) (jI t) (hp q G1) = some (hp q G') := by
    intro k
    induction k with
    | zero =>
      intro f t G1 ht t0 hf e S'
      obtain ⟨f, rfl⟩ : ∃ y, f = y + 1 := ⟨f - 1, by omega⟩
      have h1 : BS q A U row d n bd L r1 r2 G1 := h.of (fun a a0 a1 => e a (by omega))
      have ro' := oRowsOf (N := N) h1 hB (b := c) (by omega)
      have gR : bR G1 c = bR G c := by unfold bR; rw [e 85 (by omega), e 86 (by omega)]
      rw [gR] at ro'
      refine ⟨G1, ⟨e, S', fun _ => Int.le_refl _, fun hh => absurd hh (by omega)⟩, ?_⟩
      have c1 : ¬ t < bR G c := by omega
      rw [L_X1_goOn_7]
      simp (maxSteps := 2000000) (disch := first | assumption | omega) only [jI0, iAdd_j, iSub_j, iMul_j, iNeg_j, Option.bind_some, jlt_t, jlt_f, jlt, jle_t, jle_f, jle, jeq_t, jeq_f, jeq, ↓reduceIte, o82, ec, ro', c1]
    | succ k ih =>
      intro f t G1 ht t0 hf e S'
      obtain ⟨f, rfl⟩ : ∃ y, f = y + 1 := ⟨f - 1, by omega⟩
      have h1 : BS q A U row d n bd L r1 r2 G1 := h.of (fun a a0 a1 => e a (by omega))
      have ro' := oRowsOf (N := N) h1 hB (b := c) (by omega)
      have g85 : G1 85 = G 85 := e 85 (by omega)
      have g86 : G1 86 = G 86 := e 86 (by omega)
      have gR : bR G1 c = bR G c := by unfold bR; rw [g85, g86]
      have gRb : bR G1 b = bR G b := by unfold bR; rw [g85, g86]
      have g1' : G1 r1 = G r1 := e r1 r12
      have gIe : gI' A U row d n G1 b = gI' A U row d n G b := by unfold gI'; rw [g85]
      have gOe : gOK A U row d n bd G1 b := by unfold gOK at *; rw [g85, g86]; exact g1
      rw [gR] at ro'
      have c1 : t < bR G c := by omega
      have wa := oWayAt (N := N) h1 (i := t * 20 + 19) (by omega) (by omega)
      rw [g1'] at wa
      have rg := S1.rg hB (by omega) t0 c1 (l := 19) (by omega) (by omega)
      by_cases cm : G r1 (t * 20 + 19) = 9223372036854775807
      · obtain ⟨G', ⟨y1, y2, y3, y4⟩, y5⟩ := ih f (t + 1) G1 (by omega) (by omega) (by omega) e S'
        refine ⟨G', ⟨y1, y2, y3, fun k1 => ?_⟩, ?_⟩
        · by_cases ct : t = tg
          · have := (S1 t (bG A U row d n c) t0 c1 gcr.1 gcr.2).2.1
            rw [ct] at this cm
            omega
          · exact y4 (by omega)
        · rw [cm] at wa
          rw [L_X1_goOn_7]
          simp (maxSteps := 2000000) (disch := first | assumption | omega) only [jI0, iAdd_j, iSub_j, iMul_j, iNeg_j, Option.bind_some, jlt_t, jlt_f, jlt, jle_t, jle_f, jle, jeq_t, jeq_f, jeq, ↓reduceIte, o82, ec, ro', c1, wa, y5]
      · have nj := jLne (a := G r1 (t * 20 + 19)) (b := 9223372036854775807) (by omega) (by omega) cm
        obtain ⟨G2, ⟨z1, z2, z3, z4⟩, z5⟩ := oFrom (N := N) h1 hB (by omega) hb hc (by rw [g85, gR, g1']; exact S1) t0 (by rw [gR]; exact c1) (by rw [g1']; exact cm) (by rw [g85, gRb]; exact S')
        rw [g85, gRb] at z2
        rw [gIe, g85, g1'] at z4
        rw [g85, g1'] at z5
        obtain ⟨G', ⟨y1, y2, y3, y4⟩, y5⟩ := ih f (t + 1) G2 (by omega) (by omega) (by omega) (fun a ha => by rw [z1 a ha, e a ha]) z2
        have l85' : G1 85 c = G 85 c := by rw [g85]
        refine ⟨G', ⟨y1, y2, fun i => Int.le_trans (y3 i) (z3 i), fun k1 => ?_⟩, ?_⟩
        · by_cases ct : t = tg
          · have x := z4 gOe (by omega) (by rw [ct]; exact g2)
            exact Int.le_trans (y3 _) x
          · exact y4 (by omega)
        · rw [L_X1_goOn_7]
          simp (maxSteps := 2000000) (disch := first | assumption | omega) only [jI0, iAdd_j, iSub_j, iMul_j, iNeg_j, Option.bind_some, jlt_t, jlt_f, jlt, jle_t, jle_f, jle, jeq_t, jeq_f, jeq, ↓reduceIte, o82, ec, ro', c1, wa, nj, l85, l85', z5, y5]
  obtain ⟨G', ⟨y1, y2, y3, y4⟩, y5⟩ := LL (bR G c).toNat N 0 Ge (by omega) (by omega) (by omega) v1 v2
  refine ⟨G', ⟨y1, y2, y4 tgr.1⟩, ?_⟩
  unfold f_X1_goOn
  simp (maxSteps := 2000000) (disch := first | assumption | omega) only [jI0, iAdd_j, iSub_j, iMul_j, iNeg_j, Option.bind_some, jlt_t, jlt_f, jlt, jle_t, jle_f, jle, jeq_t, jeq_f, jeq, ↓reduceIte, o82, v3, y5]
end
