/-! basket: all lines of both -/
section
variable {q : Nat × Nat × (Nat → Nat)} {G K : Nat → Int → Int} {N : Nat} {T : Int → Int} {n : Int}
theorem sDead (hN : 10000 ≤ N) (h : RD T n G K) (w : G 10 0 ≠ 0) (fc fm : Nat) {x : Int} (hx : 0 ≤ x ∧ x ≤ 500) : ∃ K' : Nat → Int → Int, StW T n G K G K' ∧ K' 100 12 ≠ 0 ∧ L_X8_readBasket_41 N (fc + 1) 10 6 (jI x) (hp q G) = some (jI 0, hp q G) ∧ L_X12_basket_57 N (fm + 2) 100 (hp q K) = J_X12_basket_80 N 100 (hp q K') := by
  have r := h.rng
  have rc : L_X8_readBasket_41 N (fc + 1) 10 6 (jI x) (hp q G) = some (jI 0, hp q G) := by
    rw [L_X8_readBasket_41]
    by_cases c : x < 500
    · simp (maxSteps := 2000000) (disch := first | assumption | omega) only [jI0, iAdd_j, iSub_j, iMul_j, iNeg_j, Option.bind_some, jlt_t, jlt_f, jlt, jle_t, jle_f, jle, jeq_t, jeq_f, jeq, ↓reduceIte, o10, w]
    · simp (maxSteps := 2000000) (disch := first | assumption | omega) only [jI0, iAdd_j, iSub_j, iMul_j, iNeg_j, Option.bind_some, jlt_t, jlt_f, jlt, jle_t, jle_f, jle, jeq_t, jeq_f, jeq, ↓reduceIte, o10, w]
  have kk := h.kk.2
  by_cases wk : K 100 12 = 0
  · obtain ⟨K', s, k2, e⟩ := mLate (N := N) (q := q) hN h w
    have kk' := s.rd.kk.2
    have k10 : K 100 10 = 21 := by
      rcases (h.dd w).2 with t | t <;> omega
    refine ⟨K', s, k2, rc, ?_⟩
    rw [L_X12_basket_57]
    simp (maxSteps := 2000000) (disch := first | assumption | omega) only [jI0, iAdd_j, iSub_j, iMul_j, iNeg_j, Option.bind_some, jlt_t, jlt_f, jlt, jle_t, jle_f, jle, jeq_t, jeq_f, jeq, ↓reduceIte, o100, wk, k10, e]
    rw [L_X12_basket_57]
    simp (maxSteps := 2000000) (disch := first | assumption | omega) only [jI0, iAdd_j, iSub_j, iMul_j, iNeg_j, Option.bind_some, jlt_t, jlt_f, jlt, jle_t, jle_f, jle, jeq_t, jeq_f, jeq, ↓reduceIte, o100, k2]
  · refine ⟨K, h.refl.w, wk, rc, ?_⟩
    rw [L_X12_basket_57]
    simp (maxSteps := 2000000) (disch := first | assumption | omega) only [jI0, iAdd_j, iSub_j, iMul_j, iNeg_j, Option.bind_some, jlt_t, jlt_f, jlt, jle_t, jle_f, jle, jeq_t, jeq_f, jeq, ↓reduceIte, o100, wk]
theorem sLoop (hN : 10000 ≤ N) : ∀ (d fc fm : Nat) (x : Int) (G K : Nat → Int → Int), x + d = 500 → 0 ≤ x → d < fc → d + 1 < fm → RD T n G K → (G 10 0 = 0 → BV (K 105) ∧ BR (G 6) (G 7) (G 8) (G 9) (K 105) ∧ K 105 142 ≤ K 100 7 ∧ x ≤ K 100 7) → ∃ (G' K' : Nat → Int → Int) (r : Int), StW T n G K G' K' ∧ ((r = 1 ∧ G' 10 0 = 0 ∧ BV (K' 105) ∧ BR (G' 6) (G' 7) (G' 8) (G' 9) (K' 105)) ∨ (r = 0 ∧ G' 10 0 ≠ 0 ∧ K' 100 12 ≠ 0)) ∧ L_X8_readBasket_41 N fc 10 6 (jI x) (hp q G) = some (jI r, hp q G') ∧ L_X12_basket_57 N fm 100 (hp q K) = J_X12_basket_80 N 100 (hp q K') := by
  have fin : ∀ (fc fm : Nat) (x : Int) (G K : Nat → Int → Int), 0 ≤ x → x ≤ 500 → 0 < fc → 1 < fm → RD T n G K → (G 10 0 = 0 → K 100 10 = 20 ∧ BV (K 105) ∧ BR (G 6) (G 7) (G 8) (G 9) (K 105)) → ∃ (G' K' : Nat → Int → Int) (r : Int), StW T n G K G' K' ∧ ((r = 1 ∧ G' 10 0 = 0 ∧ BV (K' 105) ∧ BR (G' 6) (G' 7) (G' 8) (G' 9) (K' 105)) ∨ (r = 0 ∧ G' 10 0 ≠ 0 ∧ K' 100 12 ≠ 0)) ∧ L_X8_readBasket_41 N fc 10 6 (jI x) (hp q G) = some (jI r, hp q G') ∧ L_X12_basket_57 N fm 100 (hp q K) = J_X12_basket_80 N 100 (hp q K') := by
    intro fc fm x G K x0 x1 h1 h2 h hb
    obtain ⟨fc, rfl⟩ : ∃ y, fc = y + 1 := ⟨fc - 1, by omega⟩
    obtain ⟨fm, rfl⟩ : ∃ y, fm = y + 2 := ⟨fm - 2, by omega⟩
    by_cases w : G 10 0 = 0
    · obtain ⟨k10, bV, bR⟩ := hb w
      obtain ⟨⟨a1, a2, a3, a4, a5⟩, b, cc, d, e⟩ := h.al w
      have g6 : G 10 6 = 0 := by
        rcases cc with c | c | c | c <;> omega
      refine ⟨G, K, 1, h.refl.w, .inl ⟨rfl, w, bV, bR⟩, ?_, ?_⟩
      · rw [L_X8_readBasket_41]
        by_cases c : x < 500
        · simp (maxSteps := 2000000) (disch := first | assumption | omega) only [jI0, iAdd_j, iSub_j, iMul_j, iNeg_j, Option.bind_some, jlt_t, jlt_f, jlt, jle_t, jle_f, jle, jeq_t, jeq_f, jeq, ↓reduceIte, o10, w, g6]
        · simp (maxSteps := 2000000) (disch := first | assumption | omega) only [jI0, iAdd_j, iSub_j, iMul_j, iNeg_j, Option.bind_some, jlt_t, jlt_f, jlt, jle_t, jle_f, jle, jeq_t, jeq_f, jeq, ↓reduceIte, o10, w]
      · rw [L_X12_basket_57]
        simp (maxSteps := 2000000) (disch := first | assumption | omega) only [jI0, iAdd_j, iSub_j, iMul_j, iNeg_j, Option.bind_some, jlt_t, jlt_f, jlt, jle_t, jle_f, jle, jeq_t, jeq_f, jeq, ↓reduceIte, o100, a3, k10]
    · obtain ⟨K', s, k2, e1, e2⟩ := sDead (N := N) (q := q) hN h w fc fm (x := x) (by omega)
      exact ⟨G, K', 0, s, .inr ⟨rfl, w, k2⟩, e1, e2⟩
  intro d
  induction d with
  | zero =>
    intro fc fm x G K hx x0 h1 h2 h hb
    refine fin fc fm x G K x0 (by omega) h1 h2 h (fun w => ?_)
    obtain ⟨b1, b2, b3, b4⟩ := hb w
    obtain ⟨a, b, cc, d, e⟩ := h.al w
    have t3 := h.1.2.2.1
    refine ⟨?_, b1, b2⟩
    by_cases c : K 100 10 = 20
    · exact c
    · have := d c
      omega
  | succ d ih =>
    intro fc fm x G K hx x0 h1 h2 h hb
    by_cases w : G 10 0 = 0
    · obtain ⟨b1, b2, b3, b4⟩ := hb w
      by_cases c : K 100 10 = 20
      · exact fin fc fm x G K x0 (by omega) (by omega) (by omega) h (fun _ => ⟨c, b1, b2⟩)
      · obtain ⟨fc, rfl⟩ : ∃ y, fc = y + 1 := ⟨fc - 1, by omega⟩
        obtain ⟨fm, rfl⟩ : ∃ y, fm = y + 1 := ⟨fm - 1, by omega⟩
        obtain ⟨⟨a1, a2, a3, a4, a5⟩, b, cc, dd, e⟩ := h.al w
        have g6 : G 10 6 ≠ 0 ∧ 0 ≤ G 10 6 ∧ G 10 6 ≤ 3 := by
          rcases cc with c | c | c | c <;> omega
        have k10 : 0 ≤ K 100 10 ∧ K 100 10 ≤ 20 := by
          rcases cc with c | c | c | c <;> omega
        have g60 := g6.1
        obtain ⟨G1, G2, G3, K3, s, t, ⟨e1, e2, e3⟩, e4⟩ := sLine (N := N) (q := q) hN h w b1 b2 b3
        obtain ⟨G', K', r, s', rr, f1, f2⟩ := ih fc fm (x + 1) G3 K3 (by omega) (by omega) (by omega) (by omega) s.rd (fun w3 => by
          obtain ⟨t1, t2, t3, t4⟩ := t w3
          exact ⟨t2, t3, t4, by omega⟩)
        refine ⟨G', K', r, s.trans s', rr, ?_, ?_⟩
        · rw [e3] at f1
          rw [L_X8_readBasket_41]
          simp (maxSteps := 2000000) (disch := first | assumption | omega) only [jI0, iAdd_j, iSub_j, iMul_j, iNeg_j, Option.bind_some, jlt_t, jlt_f, jlt, jle_t, jle_f, jle, jeq_t, jeq_f, jeq, ↓reduceIte, o10, w, g60, e1, e2, o6, w6, f1]
        · rw [L_X12_basket_57]
          simp (maxSteps := 2000000) (disch := first | assumption | omega) only [jI0, iAdd_j, iSub_j, iMul_j, iNeg_j, Option.bind_some, jlt_t, jlt_f, jlt, jle_t, jle_f, jle, jeq_t, jeq_f, jeq, ↓reduceIte, o100, a3, c, e4, f2]
    · exact fin fc fm x G K x0 (by omega) (by omega) (by omega) h (fun hw => absurd hw w)
/-- the component's beginning -/
theorem w10r : pV (hp q G) 8 10 2 (.ref 1) = some (hp q (up G 10 2 1)) := hpM (by decide) (fun _ => rfl) rfl
theorem oPre {n : Int} (hn : 0 ≤ n ∧ n ≤ 500) : ∃ G0 : Nat → Int → Int, ((∀ a, a ≠ 10 → a ≠ 6 → G0 a = G a) ∧ (G0 10 0 = 0 ∧ G0 10 1 = -1 ∧ G0 10 2 = 1 ∧ G0 10 3 = n ∧ G0 10 5 = 0) ∧ (G0 6 0 = 0 ∧ G0 6 1 = 0 ∧ G0 6 2 = 0 ∧ G0 6 3 = 0 ∧ G0 6 4 = 2 ∧ G0 6 5 = 100 ∧ G0 6 6 = 0)) ∧ f_X8_readBasket N 10 1 (jI n) 6 (hp q G) = (f_X8_advance N 10 (hp q G0)).bind fun h8 => L_X8_readBasket_41 N N 10 6 (jI 0) h8 := by
  generalize hG1 : up (up (up (up (up G 10 2 1) 10 3 n) 10 5 0) 10 0 0) 10 1 (-1) = G1
  generalize hG0 : up (up (up (up (up (up (up G1 6 0 0) 6 1 0) 6 2 0) 6 3 0) 6 4 2) 6 5 100) 6 6 0 = G0
  have E10 : G0 10 = u1 (u1 (u1 (u1 (u1 (G 10) 2 1) 3 n) 5 0) 0 0) 1 (-1) := by
    rw [← hG0, up_ne (by decide), up_ne (by decide), up_ne (by decide), up_ne (by decide), up_ne (by decide), up_ne (by decide), up_ne (by decide), ← hG1, up_eq, up_eq, up_eq, up_eq, up_eq]
  have E6 : G0 6 = u1 (u1 (u1 (u1 (u1 (u1 (u1 (G1 6) 0 0) 1 0) 2 0) 3 0) 4 2) 5 100) 6 0 := by
    rw [← hG0, up_eq, up_eq, up_eq, up_eq, up_eq, up_eq, up_eq]
  refine ⟨G0, ⟨fun a h1 h2 => by rw [← hG0, up_ne h2, up_ne h2, up_ne h2, up_ne h2, up_ne h2, up_ne h2, up_ne h2, ← hG1, up_ne h1, up_ne h1, up_ne h1, up_ne h1, up_ne h1], ?_, ?_⟩, ?_⟩
  · rw [E10]
    exact ⟨rfl, rfl, rfl, rfl, rfl⟩
  · rw [E6]
    exact ⟨rfl, rfl, rfl, rfl, rfl, rfl, rfl⟩
  · have mn : min n 500 = n := by omega
    unfold f_X8_readBasket f_X0_clear
    simp (maxSteps := 2000000) (disch := first | assumption | omega) only [jI0, iAdd_j, iSub_j, iMul_j, iNeg_j, Option.bind_some, jlt_t, jlt_f, jlt, jle_t, jle_f, jle, jeq_t, jeq_f, jeq, ↓reduceIte, w10r, n1, iMin_j, mn, w10, hG1, o6, w6, hG0, o10]
/-- the model's plain numbers -/
theorem mPlain (hN : 10000 ≤ N) : ∃ K' : Nat → Int → Int, ((∀ a, a ≠ 105 → K' a = K a) ∧ ∀ j : Int, 0 ≤ j → j < 143 → K' 105 j = if j = 140 then 2 else if j = 141 then 100 else 0) ∧ f_X12_plain N 105 (hp q K) = some (hp q K') := by
  unfold f_X12_plain
  refine loopG (N := N) (fun m (t : Int × (Nat → Int → Int)) => L_X12_plain_2 N m 105 (jI t.1) (hp q t.2)) (fun n t => t.1 = n ∧ (∀ x, x ≠ 105 → t.2 x = K x) ∧ ∀ j : Int, 0 ≤ j → j < (n : Int) → t.2 105 j = if j = 140 then 2 else if j = 141 then 100 else 0) 143 (R := fun g => some (hp q g)) (by omega) (s := (0, K)) ⟨rfl, fun _ _ => rfl, fun j j0 j1 => absurd j1 (by omega)⟩ ?_ ?_
  · rintro m n ⟨z, H⟩ hn ⟨rfl, t1, t2⟩
    simp only at t1 t2
    have st : ∀ v : Int, (∀ j : Int, j = n → v = if j = 140 then 2 else if j = 141 then 100 else 0) → L_X12_plain_2 N (m + 1) 105 (jI (n : Int)) (hp q H) = L_X12_plain_2 N m 105 (jI ((n + 1 : Nat) : Int)) (hp q (up H 105 n v)) → ∃ s' : Int × (Nat → Int → Int), (s'.1 = ((n + 1 : Nat) : Int) ∧ (∀ x, x ≠ 105 → s'.2 x = K x) ∧ ∀ j : Int, 0 ≤ j → j < ((n + 1 : Nat) : Int) → s'.2 105 j = if j = 140 then 2 else if j = 141 then 100 else 0) ∧ L_X12_plain_2 N (m + 1) 105 (jI (n : Int)) (hp q H) = L_X12_plain_2 N m 105 (jI s'.1) (hp q s'.2) := by
      intro v hv he
      refine ⟨(((n + 1 : Nat) : Int), up H 105 n v), ⟨rfl, fun x hx => (up_ne hx).trans (t1 x hx), fun j j0 j1 => ?_⟩, he⟩
      show up H 105 n v 105 j = _
      rw [up_eq]
      by_cases d : j = n
      · rw [d, u1_eq]
        exact hv _ rfl
      · rw [u1_ne d]
        exact t2 j j0 (by omega)
    by_cases c1 : (n : Int) = 140
    · refine st 2 (fun j hj => by rw [hj, if_pos c1]) ?_
      rw [L_X12_plain_2]
      simp (maxSteps := 2000000) (disch := first | assumption | omega) only [jI0, iAdd_j, iSub_j, iMul_j, iNeg_j, Option.bind_some, jlt_t, jlt_f, jlt, jle_t, jle_f, jle, jeq_t, jeq_f, jeq, ↓reduceIte, c1, s105, Int.natCast_succ]
    · by_cases c2 : (n : Int) = 141
      · refine st 100 (fun j hj => by rw [hj, if_neg c1, if_pos c2]) ?_
        rw [L_X12_plain_2]
        simp (maxSteps := 2000000) (disch := first | assumption | omega) only [jI0, iAdd_j, iSub_j, iMul_j, iNeg_j, Option.bind_some, jlt_t, jlt_f, jlt, jle_t, jle_f, jle, jeq_t, jeq_f, jeq, ↓reduceIte, c1, c2, s105, Int.natCast_succ]
      · refine st 0 (fun j hj => by rw [hj, if_neg c1, if_neg c2]) ?_
        rw [L_X12_plain_2]
        simp (maxSteps := 2000000) (disch := first | assumption | omega) only [jI0, iAdd_j, iSub_j, iMul_j, iNeg_j, Option.bind_some, jlt_t, jlt_f, jlt, jle_t, jle_f, jle, jeq_t, jeq_f, jeq, ↓reduceIte, c1, c2, s105, Int.natCast_succ]
  · rintro m ⟨z, H⟩ ⟨rfl, t1, t2⟩
    simp only at t1 t2
    refine ⟨H, ⟨t1, t2⟩, ?_⟩
    show L_X12_plain_2 N (m + 1) 105 (jI ((143 : Nat) : Int)) (hp q H) = _
    rw [show ((143 : Nat) : Int) = 143 from rfl, L_X12_plain_2]
    simp (maxSteps := 2000000) (disch := first | assumption | omega) only [jI0, iAdd_j, iSub_j, iMul_j, iNeg_j, Option.bind_some, jlt_t, jlt_f, jlt, jle_t, jle_f, jle, jeq_t, jeq_f, jeq, ↓reduceIte]
/-- the model's copy of the fresh basket -/
theorem mTake (hN : 10000 ≤ N) : ∃ K' : Nat → Int → Int, ((∀ a, a ≠ 102 → K' a = K a) ∧ ∀ j : Int, 0 ≤ j → K' 102 j = if j < 143 then K 105 j else if j = 143 ∨ j = 400 then -1 else K 102 j) ∧ L_X12_basket_128 N N 100 (jI 0) (hp q K) = some (jI (K 105 142), hp q K') := by
  refine loopG (N := N) (fun m (t : Int × (Nat → Int → Int)) => L_X12_basket_128 N m 100 (jI t.1) (hp q t.2)) (fun n t => t.1 = n ∧ (∀ x, x ≠ 102 → t.2 x = K x) ∧ ∀ j : Int, 0 ≤ j → t.2 102 j = if j < (n : Int) then K 105 j else K 102 j) 143 (R := fun g => some (jI (K 105 142), hp q g)) (by omega) (s := (0, K)) ⟨rfl, fun _ _ => rfl, fun j j0 => by rw [if_neg (by omega)]⟩ ?_ ?_
  · rintro m n ⟨z, H⟩ hn ⟨rfl, t1, t2⟩
    simp only at t1 t2
    refine ⟨(((n + 1 : Nat) : Int), up H 102 n (K 105 n)), ⟨rfl, fun x hx => (up_ne hx).trans (t1 x hx), fun j j0 => ?_⟩, ?_⟩
    · show up H 102 n (K 105 n) 102 j = _
      rw [up_eq]
      by_cases d : j = n
      · rw [d, u1_eq, if_pos (by omega)]
      · rw [u1_ne d, t2 j j0]
        by_cases d2 : j < (n : Int)
        · rw [if_pos d2, if_pos (by omega)]
        · rw [if_neg d2, if_neg (by omega)]
    · show L_X12_basket_128 N (m + 1) 100 (jI (n : Int)) (hp q H) = L_X12_basket_128 N m 100 (jI ((n + 1 : Nat) : Int)) (hp q (up H 102 n (K 105 n)))
      have e105 := t1 105 (by decide)
      rw [L_X12_basket_128]
      simp (maxSteps := 2000000) (disch := first | assumption | omega) only [jI0, iAdd_j, iSub_j, iMul_j, iNeg_j, Option.bind_some, jlt_t, jlt_f, jlt, jle_t, jle_f, jle, jeq_t, jeq_f, jeq, ↓reduceIte, o100, l105, e105, s102, Int.natCast_succ]
  · rintro m ⟨z, H⟩ ⟨rfl, t1, t2⟩
    simp only at t1 t2
    refine ⟨up (up H 102 143 (-1)) 102 400 (-1), ⟨fun x hx => by rw [up_ne hx, up_ne hx]; exact t1 x hx, fun j j0 => ?_⟩, ?_⟩
    · rw [up_eq, up_eq]
      by_cases d : j = 400
      · rw [d, u1_eq, if_neg (by omega), if_pos (by omega)]
      · rw [u1_ne d]
        by_cases d2 : j = 143
        · rw [d2, u1_eq, if_neg (by omega), if_pos (by omega)]
        · rw [u1_ne d2, t2 j j0]
          by_cases d3 : j < 143
          · rw [if_pos d3, if_pos (by omega)]
          · rw [if_neg d3, if_neg (by omega), if_neg (by omega)]
    · show L_X12_basket_128 N (m + 1) 100 (jI ((143 : Nat) : Int)) (hp q H) = _
      have l142 : up (up H 102 143 (-1)) 102 400 (-1) 102 142 = K 105 142 := by
        rw [up_eq, u1_ne (by decide), up_eq, u1_ne (by decide), t2 142 (by omega), if_pos (by omega)]
      rw [show ((143 : Nat) : Int) = 143 from rfl, L_X12_basket_128]
      simp (maxSteps := 2000000) (disch := first | assumption | omega) only [jI0, iAdd_j, iSub_j, iMul_j, iNeg_j, Option.bind_some, jlt_t, jlt_f, jlt, jle_t, jle_f, jle, jeq_t, jeq_f, jeq, ↓reduceIte, o100, s102, l102, l142]
end
