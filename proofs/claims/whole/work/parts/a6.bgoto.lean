/-! bowl: the component's step from a row of leans to the next band -/
def RC (q : Nat × Nat × (Nat → Nat)) (r L : Nat) : Prop := r < 120 + q.1 ∧ shp q.2.2 r = .inl (1, L) ∧ (r = 93 ∨ r = 94 ∨ 120 ≤ r)
/-- what the maker holds while it goes from band to band -/
def BS (q : Nat × Nat × (Nat → Nat)) (A U : Int → Int) (row d : Int) (n : Nat) (bd : Int) (L r1 r2 : Nat) (G : Nat → Int → Int) : Prop :=
  (G 82 0 = n ∧ G 82 1 = A 141 ∧ G 82 2 = d ∧ G 82 3 = bd ∧ G 82 14 = r1 ∧ G 82 15 = r2) ∧
  (∀ b : Nat, b < n → (G 83 b = roF A b ∧ G 84 b = wiF U row b) ∧ (1 ≤ G 85 b ∧ G 85 b ≤ 100000 ∧ -100000 ≤ G 86 b ∧ G 86 b ≤ 4000) ∧ 20 * (G 86 b - G 85 b + 1) ≤ L ∧ G 88 b = ss A U row n - ss A U row (b + 1)) ∧
  (r1 ≠ r2 ∧ RC q r1 L ∧ RC q r2 L) ∧ (0 ≤ bd ∧ bd ≤ 100000) ∧ L ≤ 160000
/-- the rows of a band -/
def bR (G : Nat → Int → Int) (b : Nat) : Int := max 0 (G 86 b - G 85 b + 1)
/-- a row of codes: each is no way or that of a row of leans -/
def Sd (A U : Int → Int) (row d : Int) (lo rows : Int) (b : Nat) (H : Int → Int) : Prop := ∀ r l : Int, 0 ≤ r → r < rows → 0 ≤ l → l ≤ 18 →
  (H (r * 20 + l) = 9223372036854775807 ∨ ∃ s : Int → Int, fe d s (b + 1) ∧ s b = l ∧ bW A s (b + 1) = lo + r ∧ H (r * 20 + l) = bE A U row s (b + 1)) ∧ H (r * 20 + 19) ≤ H (r * 20 + l) ∧
  (H (r * 20 + 19) = 9223372036854775807 ∨ ∃ s : Int → Int, fe d s (b + 1) ∧ bW A s (b + 1) = lo + r ∧ H (r * 20 + 19) = bE A U row s (b + 1))
section
variable {A U s : Int → Int} {row d l : Int} {n b : Nat}
theorem u1_same : u1 s b (s b) = s := by
  funext j
  by_cases c : j = b
  · rw [c, u1_eq]
  · rw [u1_ne c]
theorem bE_s (hb : b ≤ 7) : bE A U row s (b + 1) = bE A U row s b + bO U row (bW A s (b + 1)) b * 1099511627776 + s b * (sw b : Nat) := by
  have := bE_u (A := A) (U := U) (row := row) (s := s) (l := s b) hb
  rw [u1_same] at this
  exact this
theorem Sd.rg (h : BN A U row d n) (hb : b < n) {lo rows : Int} {H : Int → Int} (S : Sd A U row d lo rows b H) {r l : Int} (r0 : 0 ≤ r) (r1 : r < rows) (l0 : 0 ≤ l) (l1 : l ≤ 19) : 0 ≤ H (r * 20 + l) ∧ H (r * 20 + l) ≤ 9223372036854775807 := by
  by_cases c : l = 19
  · rw [c]
    rcases (S r 0 r0 r1 (by omega) (by omega)).2.2 with e | ⟨s, f1, _, f2⟩
    · rw [e]; omega
    · have := (bE_r h (show b + 1 ≤ n by omega) f1).1
      rw [f2]; omega
  · rcases (S r l r0 r1 l0 (by omega)).1 with e | ⟨s, f1, _, _, f2⟩
    · rw [e]; omega
    · have := (bE_r h (show b + 1 ≤ n by omega) f1).1
      rw [f2]; omega
theorem Sd.put (h : BN A U row d n) (hb : b < n) {lo rows : Int} {H : Int → Int} (S : Sd A U row d lo rows b H) {t : Int → Int} (ft : fe d t (b + 1)) {r0 : Int} (q0 : 0 ≤ r0) (q1 : r0 < rows) (q2 : bW A t (b + 1) = lo + r0) : Sd A U row d lo rows b (u1 (u1 H (r0 * 20 + t b) (min (H (r0 * 20 + t b)) (bE A U row t (b + 1)))) (r0 * 20 + 19) (min (H (r0 * 20 + 19)) (bE A U row t (b + 1)))) := by
  have l := (ft b (by omega)).1
  intro r l' h0 h1 h2 h3
  have S' := S r l' h0 h1 h2 h3
  have m19 : ∀ r : Int, 0 ≤ r → r < rows → (u1 (u1 H (r0 * 20 + t b) (min (H (r0 * 20 + t b)) (bE A U row t (b + 1)))) (r0 * 20 + 19) (min (H (r0 * 20 + 19)) (bE A U row t (b + 1)))) (r * 20 + 19) = if r = r0 then min (H (r0 * 20 + 19)) (bE A U row t (b + 1)) else H (r * 20 + 19) := fun r _ _ => by
    by_cases c : r = r0
    · rw [if_pos c, c, u1_eq]
    · rw [if_neg c, u1_ne (by omega), u1_ne (by omega)]
  have ml : (u1 (u1 H (r0 * 20 + t b) (min (H (r0 * 20 + t b)) (bE A U row t (b + 1)))) (r0 * 20 + 19) (min (H (r0 * 20 + 19)) (bE A U row t (b + 1)))) (r * 20 + l') = if r = r0 ∧ l' = t b then min (H (r0 * 20 + t b)) (bE A U row t (b + 1)) else H (r * 20 + l') := by
    rw [u1_ne (by omega)]
    by_cases c : r = r0 ∧ l' = t b
    · rw [if_pos c, c.1, c.2, u1_eq]
    · rw [if_neg c, u1_ne (by omega)]
  rw [ml, m19 r h0 h1]
  by_cases c : r = r0
  · rw [if_pos c]
    refine ⟨?_, ?_, ?_⟩
    · by_cases c2 : l' = t b
      · rw [if_pos ⟨c, c2⟩]
        by_cases c3 : H (r0 * 20 + t b) ≤ bE A U row t (b + 1)
        · rw [Int.min_eq_left c3, ← c, ← c2]
          exact S'.1
        · rw [Int.min_eq_right (by omega)]
          exact .inr ⟨t, ft, c2.symm, by rw [q2, c], rfl⟩
      · have nn : ¬ (r = r0 ∧ l' = t b) := fun hh => c2 hh.2
        rw [if_neg nn]
        exact S'.1
    · have x := S'.2.1
      rw [c] at x
      by_cases c2 : l' = t b
      · rw [if_pos ⟨c, c2⟩]
        rw [c2] at x
        omega
      · have nn : ¬ (r = r0 ∧ l' = t b) := fun hh => c2 hh.2
        rw [if_neg nn, c]
        omega
    · by_cases c3 : H (r0 * 20 + 19) ≤ bE A U row t (b + 1)
      · rw [Int.min_eq_left c3, ← c]
        exact S'.2.2
      · rw [Int.min_eq_right (by omega)]
        exact .inr ⟨t, ft, by rw [q2, c], rfl⟩
  · have nn : ¬ (r = r0 ∧ l' = t b) := fun hh => c hh.1
    rw [if_neg nn, if_neg c]
    exact S'
end
section
variable {q : Nat × Nat × (Nat → Nat)} {G : Nat → Int → Int} {N : Nat} {A U : Int → Int} {row d bd : Int} {n L r1 r2 : Nat}
theorem BS.of {G' : Nat → Int → Int} (h : BS q A U row d n bd L r1 r2 G) (e : ∀ a, 82 ≤ a → a ≤ 88 → G' a = G a) : BS q A U row d n bd L r1 r2 G' := by
  unfold BS at *
  rw [e 82 (by omega) (by omega), e 83 (by omega) (by omega), e 84 (by omega) (by omega), e 85 (by omega) (by omega), e 86 (by omega) (by omega), e 88 (by omega) (by omega)]
  exact h
theorem oRowsOf (h : BS q A U row d n bd L r1 r2 G) (hN : BN A U row d n) {b : Nat} (hb : b < n) : f_X1_rowsOf N 82 (jI (b : Int)) (hp q G) = some (jI (bR G b), hp q G) := by
  have n8 := hN.2.1
  have f := (h.2.1 b hb).2.1
  have e0 := h.1.1
  unfold f_X1_rowsOf bR
  simp (maxSteps := 2000000) (disch := first | assumption | omega) only [jI0, iAdd_j, iSub_j, iMul_j, iNeg_j, Option.bind_some, jlt_t, jlt_f, jlt, jle_t, jle_f, jle, jeq_t, jeq_f, jeq, ↓reduceIte, o82, e0, l85, l86, iMax_j]
theorem oWayAt (h : BS q A U row d n bd L r1 r2 G) {i : Int} (i0 : 0 ≤ i) (i1 : i < L) : f_X1_wayAt N 82 (jI i) (hp q G) = some (jL (G r1 i), hp q G) := by
  obtain ⟨_, ⟨c1, c2, c3⟩, _⟩ := h.2.2.1
  have e := h.1.2.2.2.2.1
  have l5 := h.2.2.2.2
  have ln := hln (q := q) (G := G) (a := r1) (t := 1) (n := L) c1 c2 (by decide)
  have ld := hlL (q := q) (G := G) (a := r1) (n := L) (i := i) c1 c2 i0 i1 (by omega)
  unfold f_X1_wayAt
  simp (maxSteps := 2000000) (disch := first | assumption | omega) only [jI0, iAdd_j, iSub_j, iMul_j, iNeg_j, Option.bind_some, jlt_t, jlt_f, jlt, jle_t, jle_f, jle, jeq_t, jeq_f, jeq, ↓reduceIte, o82, e, Int.toNat_natCast, ln, ld]
theorem oWidthBy (h : BS q A U row d n bd L r1 r2 G) (hN : BN A U row d n) {b : Nat} (hb : b < n) {w l : Int} (w0 : 1 ≤ w) (w1 : w ≤ mo A b) (l0 : 0 ≤ l) (l1 : l ≤ 18) : f_X1_widthBy N 82 (jI w) (jI l) (jI (b : Int)) (hp q G) = some (jI (wB (roF A) w l b), hp q G) := by
  have n8 := hN.2.1
  have f := (h.2.1 b hb).1.1
  have x := wB_r hN hb w0 w1 l0 l1
  have m := mo_r hN b (by omega)
  unfold f_X1_widthBy wB
  simp (maxSteps := 2000000) (disch := first | assumption | omega) only [jI0, iAdd_j, iSub_j, iMul_j, iNeg_j, Option.bind_some, jlt_t, jlt_f, jlt, jle_t, jle_f, jle, jeq_t, jeq_f, jeq, ↓reduceIte, o82, l83, f, iMax_j]
/-- near a lean -/
def nr (d l k : Int) : Prop := (0 ≤ k ∧ k ≤ 18) ∧ (l - k ≤ d ∧ k - l ≤ d)
/-- m is the least of H's places behind p that are near l -/
def nrM (H : Int → Int) (d p l m : Int) : Prop := (m = 9223372036854775807 ∨ ∃ k : Int, nr d l k ∧ m = H (p + k)) ∧ ∀ k : Int, nr d l k → m ≤ H (p + k)
/-- the least of the near leans of a row of now -/
theorem oNear (h : BS q A U row d n bd L r1 r2 G) (hN : BN A U row d n) (hf : 10000 ≤ N) {p l : Int} (a0 : 0 ≤ p) (a1 : p + 19 < L) (l0 : 0 ≤ l) (l1 : l ≤ 18) (hr : ∀ k : Int, 0 ≤ k → k ≤ 18 → 0 ≤ G r1 (p + k) ∧ G r1 (p + k) ≤ 9223372036854775807) : ∃ m : Int, (nrM (G r1) d p l m ∧ 0 ≤ m ∧ m ≤ 9223372036854775807) ∧ f_X1_leastNear N 82 (jI p) (jI l) (hp q G) = some (jL m, hp q G) := by
  have e2 := h.1.2.2.1
  have hd := hN.2.2.2.2.2.2
  have l5 := h.2.2.2.2
  obtain ⟨mm, hmm⟩ : ∃ mm, mm = min 18 (l + d) := ⟨_, rfl⟩
  obtain ⟨mx, hmx⟩ : ∃ mx, mx = max 0 (l - d) := ⟨_, rfl⟩
  have m1 : 0 ≤ mm ∧ mm ≤ 18 ∧ mm ≤ l + d ∧ (mm = 18 ∨ mm = l + d) := by omega
  have m2 : 0 ≤ mx ∧ mx ≤ 18 ∧ l - d ≤ mx ∧ (mx = 0 ∨ mx = l - d) := by omega
  have LL : ∀ (k f : Nat) (x v : Int), x + k = mm + 1 → mx ≤ x → k < f → (0 ≤ v ∧ v ≤ 9223372036854775807) → (v = 9223372036854775807 ∨ ∃ y : Int, nr d l y ∧ v = G r1 (p + y)) → (∀ y : Int, nr d l y → y < x → v ≤ G r1 (p + y)) → ∃ m : Int, (nrM (G r1) d p l m ∧ 0 ≤ m ∧ m ≤ 9223372036854775807) ∧ L_X1_leastNear_29 N f 82 (jI p) (jL v) (jI mm) (jI x) (hp q G) = some (jL m, hp q G) := by
    intro k
    induction k with
    | zero =>
      intro f x v hx x0 hf v0 v1 v2
      obtain ⟨f, rfl⟩ : ∃ y, f = y + 1 := ⟨f - 1, by omega⟩
      refine ⟨v, ⟨⟨v1, fun y hy => v2 y hy ?_⟩, v0⟩, ?_⟩
      · have := hy
        unfold nr at this
        omega
      · rw [L_X1_leastNear_29]
        have c : mm < x := by omega
        simp (maxSteps := 2000000) (disch := first | assumption | omega) only [jI0, iAdd_j, iSub_j, iMul_j, iNeg_j, Option.bind_some, jlt_t, jlt_f, jlt, jle_t, jle_f, jle, jeq_t, jeq_f, jeq, ↓reduceIte, c]
    | succ k ih =>
      intro f x v hx x0 hf v0 v1 v2
      obtain ⟨f, rfl⟩ : ∃ y, f = y + 1 := ⟨f - 1, by omega⟩
      have nx : nr d l x := ⟨⟨by omega, by omega⟩, by omega, by omega⟩
      have hx' := hr x nx.1.1 nx.1.2
      have wa := oWayAt (N := N) h (i := p + x) (by omega) (by omega)
      have lm := lMin_j (a := v) (b := G r1 (p + x)) (by omega) (by omega)
      obtain ⟨m, y1, y2⟩ := ih f (x + 1) (min v (G r1 (p + x))) (by omega) (by omega) (by omega) (by omega) (by
        by_cases c : v ≤ G r1 (p + x)
        · rw [Int.min_eq_left c]; exact v1
        · rw [Int.min_eq_right (by omega)]; exact .inr ⟨x, nx, rfl⟩) (fun y hy yx => by
        by_cases c : y = x
        · rw [c]; exact Int.min_le_right _ _
        · have := v2 y hy (by omega)
          omega)
      refine ⟨m, y1, ?_⟩
      rw [L_X1_leastNear_29]
      have c : ¬ mm < x := by omega
      simp (maxSteps := 2000000) (disch := first | assumption | omega) only [jI0, iAdd_j, iSub_j, iMul_j, iNeg_j, Option.bind_some, jlt_t, jlt_f, jlt, jle_t, jle_f, jle, jeq_t, jeq_f, jeq, ↓reduceIte, c, o82, wa, lm, y2]
  obtain ⟨m, y1, y2⟩ := LL (mm + 1 - mx).toNat N mx 9223372036854775807 (by omega) (Int.le_refl _) (by omega) (by omega) (.inl rfl) (fun y hy yx => by
    unfold nr at hy
    omega)
  refine ⟨m, y1, ?_⟩
  unfold f_X1_leastNear
  simp (maxSteps := 2000000) (disch := first | assumption | omega) only [jI0, iAdd_j, iSub_j, iMul_j, iNeg_j, Option.bind_some, jlt_t, jlt_f, jlt, jle_t, jle_f, jle, jeq_t, jeq_f, jeq, ↓reduceIte, o82, e2, iMin_j, iMax_j, ← hmm, ← hmx, y2]
theorem lUsr40 {x : Int} (h0 : 0 ≤ x) (h1 : x < 9223372036854775808) : lUsr (jL x) (jI 40) = jL (x / 1099511627776) := lUsr_i (s := 40) h0 h1 (by omega)
theorem lShl40 {x : Int} (h0 : 0 ≤ x) : lShl (jL x) (jI 40) = jL (x * 1099511627776) := lShl_i (s := 40) h0 (by omega)
theorem lShlS {x : Int} (h0 : 0 ≤ x) {b : Nat} (hb : b ≤ 7) : lShl (jL x) (jI (5 * (7 - (b : Int)))) = jL (x * (sw b : Nat)) := by
  rw [show (5 * (7 - (b : Int))) = ((5 * (7 - b) : Nat) : Int) by omega]
  exact lShl_i (s := 5 * (7 - b)) h0 (by omega)
theorem lUsrS {x : Int} (h0 : 0 ≤ x) (h1 : x < 9223372036854775808) {b : Nat} (hb : b ≤ 7) : lUsr (jL x) (jI (5 * (7 - (b : Int)))) = jL (x / (sw b : Nat)) := by
  rw [show (5 * (7 - (b : Int))) = ((5 * (7 - b) : Nat) : Int) by omega]
  exact lUsr_i (s := 5 * (7 - b)) h0 h1 (by omega)
/-- a row of leans goes on by a lean -/
theorem oGoTo (h : BS q A U row d n bd L r1 r2 G) (hN : BN A U row d n) {b : Nat} (hb : b < n) {s : Int → Int} (hf : fe d s b) {l : Int} (l0 : 0 ≤ l) (l1 : l ≤ 18) (ha : adm d b (ah s b) l = true) (S : Sd A U row d (G 85 b) (bR G b) b (G r2)) : ∃ G' : Nat → Int → Int, ((∀ a, a ≠ r2 → G' a = G a) ∧ Sd A U row d (G 85 b) (bR G b) b (G' r2) ∧ (∀ i : Int, G' r2 i ≤ G r2 i) ∧ (G 85 b ≤ bW A (u1 s b l) (b + 1) → bW A (u1 s b l) (b + 1) ≤ G 86 b → bP A U row (u1 s b l) (b + 1) + (ss A U row n - ss A U row (b + 1)) ≤ bd → G' r2 ((bW A (u1 s b l) (b + 1) - G 85 b) * 20 + l) ≤ bE A U row (u1 s b l) (b + 1))) ∧ f_X1_goTo N 82 (jI (b : Int)) (jI (wB (roF A) (bW A s b) l b)) (jI l) (jL (bE A U row s b)) (hp q G) = some (hp q G') := by
  have n8 := hN.2.1
  obtain ⟨⟨e0, e1, e2, e3, e14, e15⟩, hB, ⟨r12, _, ⟨c1, c2, c3⟩⟩, ⟨bd0, bd1⟩, l5⟩ := h
  obtain ⟨⟨f1, f2⟩, ⟨f3, f4, f5, f6⟩, f7, f8⟩ := hB b hb
  have ft := fe_u hf l0 l1 ha
  have eW := bW_u (A := A) (s := s) (l := l) (b := b)
  have eE := bE_u (A := A) (U := U) (row := row) (s := s) (l := l) (b := b) (by omega)
  have rt := bP_r (s := u1 s b l) hN (b + 1) (by omega) ft
  have rE := bE_r hN (show b + 1 ≤ n by omega) ft
  have rs := bE_r hN (show b ≤ n by omega) hf
  have m := mo_r hN (b + 1) (by omega)
  have wr := hN.2.2.2.2.1 b (by omega) (by omega)
  have pS := ss_pre hN (b + 1) (by omega) ft
  have sl := (u1_eq : u1 s b l b = l)
  rw [← eW] at eE ⊢
  have eO : bO U row (bW A (u1 s b l) (b + 1)) b = ((bW A (u1 s b l) (b + 1) - wiF U row b).natAbs : Int) := rfl
  rw [eO] at eE
  have g := gr_fe (roF A) (wiF U row) (A 141) d hN.2.2.2.2.2.2.1 n (Nat.le_refl n)
  have sn := ss_pre hN n (Nat.le_refl n) g
  have sp := ss_post hN g (n - b - 1) (b + 1) (by omega)
  have gp := bP_r (s := gr (roF A) (wiF U row) (A 141) d n) hN n (Nat.le_refl n) g
  have gp1 := bP_r (s := gr (roF A) (wiF U row) (A 141) d n) hN (b + 1) (by omega) (fe_pre g (by omega))
  have sr : -80000 ≤ ss A U row n - ss A U row (b + 1) ∧ ss A U row n - ss A U row (b + 1) ≤ 80000 := by omega
  generalize hx : bW A (u1 s b l) (b + 1) = x at *
  have ab := iAbs_j (a := x - wiF U row b) (by omega) (by omega)
  have shl := lShlS (x := l) l0 (b := b) (by omega)
  have uE : bE A U row (u1 s b l) (b + 1) = bE A U row s b + ((x - wiF U row b).natAbs : Int) * 1099511627776 + l * (sw b : Nat) := eE
  have us := lUsr40 (x := bE A U row (u1 s b l) (b + 1)) (by omega) (by omega)
  rw [rE.2] at us
  have sh40 := lShl40 (x := ((x - wiF U row b).natAbs : Int)) (by omega)
  have na : ((x - wiF U row b).natAbs : Int) ≤ 9999 := by omega
  have ln := hln (q := q) (G := G) (a := r2) (t := 1) (n := L) c1 c2 (by decide)
  unfold f_X1_goTo f_X1_leanShift
  by_cases d1 : x < G 85 b
  · refine ⟨G, ⟨fun _ _ => rfl, S, fun _ => Int.le_refl _, fun hh => absurd hh (by omega)⟩, ?_⟩
    simp (maxSteps := 2000000) (disch := first | assumption | omega) only [jI0, iAdd_j, iSub_j, iMul_j, iNeg_j, Option.bind_some, jlt_t, jlt_f, jlt, jle_t, jle_f, jle, jeq_t, jeq_f, jeq, ↓reduceIte, o82, l85, d1]
  · by_cases d2 : G 86 b < x
    · refine ⟨G, ⟨fun _ _ => rfl, S, fun _ => Int.le_refl _, fun _ hh => absurd hh (by omega)⟩, ?_⟩
      simp (maxSteps := 2000000) (disch := first | assumption | omega) only [jI0, iAdd_j, iSub_j, iMul_j, iNeg_j, Option.bind_some, jlt_t, jlt_f, jlt, jle_t, jle_f, jle, jeq_t, jeq_f, jeq, ↓reduceIte, o82, l85, l86, d1, d2]
    · have d3 : (x - G 85 b) * 20 + 19 < L := by omega
      have rw1 : x - G 85 b < bR G b := by unfold bR; omega
      by_cases d4 : bd < bP A U row (u1 s b l) (b + 1) + (ss A U row n - ss A U row (b + 1))
      · refine ⟨G, ⟨fun _ _ => rfl, S, fun _ => Int.le_refl _, fun _ _ hh => absurd hh (by omega)⟩, ?_⟩
        simp (maxSteps := 2000000) (disch := first | assumption | omega) only [jI0, iAdd_j, iSub_j, iMul_j, iNeg_j, Option.bind_some, jlt_t, jlt_f, jlt, jle_t, jle_f, jle, jeq_t, jeq_f, jeq, ↓reduceIte, o82, l85, l86, d1, d2, e15, Int.toNat_natCast, ln, d3, l84, f2, ab, jlL, sh40, shl, lAdd_j, ← uE, us, l88, f8, e3, llt_t, d4]
      · have rl := S.rg hN hb (r := x - G 85 b) (l := l) (by omega) rw1 l0 (by omega)
        have r19 := S.rg hN hb (r := x - G 85 b) (l := 19) (by omega) rw1 (by omega) (by omega)
        have ld1 := hlL (q := q) (G := G) (a := r2) (n := L) (i := (x - G 85 b) * 20 + l) c1 c2 (by omega) (by omega) (by omega)
        have mn1 := lMin_j (a := G r2 ((x - G 85 b) * 20 + l)) (b := bE A U row (u1 s b l) (b + 1)) (by omega) (by omega)
        have st1 := hsL (q := q) (G := G) (a := r2) (n := L) (i := (x - G 85 b) * 20 + l) (v := min (G r2 ((x - G 85 b) * 20 + l)) (bE A U row (u1 s b l) (b + 1))) c1 c2 (by omega) (by omega) (by omega)
        have ld2 := hlL (q := q) (G := up G r2 ((x - G 85 b) * 20 + l) (min (G r2 ((x - G 85 b) * 20 + l)) (bE A U row (u1 s b l) (b + 1)))) (a := r2) (n := L) (i := (x - G 85 b) * 20 + 19) c1 c2 (by omega) (by omega) (by omega)
        rw [up_eq, u1_ne (by omega)] at ld2
        have mn2 := lMin_j (a := G r2 ((x - G 85 b) * 20 + 19)) (b := bE A U row (u1 s b l) (b + 1)) (by omega) (by omega)
        have st2 := hsL (q := q) (G := up G r2 ((x - G 85 b) * 20 + l) (min (G r2 ((x - G 85 b) * 20 + l)) (bE A U row (u1 s b l) (b + 1)))) (a := r2) (n := L) (i := (x - G 85 b) * 20 + 19) (v := min (G r2 ((x - G 85 b) * 20 + 19)) (bE A U row (u1 s b l) (b + 1))) c1 c2 (by omega) (by omega) (by omega)
        have e15' : up G r2 ((x - G 85 b) * 20 + l) (min (G r2 ((x - G 85 b) * 20 + l)) (bE A U row (u1 s b l) (b + 1))) 82 15 = r2 := by rw [up_ne (by omega)]; exact e15
        have pt := S.put hN hb ft (r0 := x - G 85 b) (by omega) rw1 (by rw [hx]; omega)
        rw [sl] at pt
        refine ⟨up (up G r2 ((x - G 85 b) * 20 + l) (min (G r2 ((x - G 85 b) * 20 + l)) (bE A U row (u1 s b l) (b + 1)))) r2 ((x - G 85 b) * 20 + 19) (min (G r2 ((x - G 85 b) * 20 + 19)) (bE A U row (u1 s b l) (b + 1))), ⟨fun a ha => by rw [up_ne ha, up_ne ha], by rw [up_eq, up_eq]; exact pt, fun i => ?_, fun _ _ _ => ?_⟩, ?_⟩
        · rw [up_eq, up_eq]
          by_cases c : i = (x - G 85 b) * 20 + 19
          · rw [c, u1_eq]; omega
          · rw [u1_ne c]
            by_cases c' : i = (x - G 85 b) * 20 + l
            · rw [c', u1_eq]; omega
            · rw [u1_ne c']; omega
        · rw [up_eq, up_eq, u1_ne (by omega), u1_eq]
          omega
        · simp (maxSteps := 2000000) (disch := first | assumption | omega) only [jI0, iAdd_j, iSub_j, iMul_j, iNeg_j, Option.bind_some, jlt_t, jlt_f, jlt, jle_t, jle_f, jle, jeq_t, jeq_f, jeq, ↓reduceIte, o82, l85, l86, d1, d2, e15, Int.toNat_natCast, ln, d3, l84, f2, ab, jlL, sh40, shl, lAdd_j, ← uE, us, l88, f8, e3, llt_f, d4, ld1, mn1, st1, e15', ld2, mn2, st2]
end
