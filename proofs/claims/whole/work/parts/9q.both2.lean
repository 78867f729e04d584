/-! basket: the readers' small questions, together -/
section
variable {q : Nat × Nat × (Nat → Nat)} {G K : Nat → Int → Int} {N : Nat} {T : Int → Int} {n : Int}
theorem sIsW (hN : 10000 ≤ N) (h : RD T n G K) {i : Nat} (hi : i < 17) : f_X8_isWord N 10 (UInt32.ofNat i) (hp q G) = some (jI (cI (G 10 0 = 0 ∧ K 100 10 = i)), hp q G) := by
  have r := h.rng
  by_cases w : G 10 0 = 0
  · obtain ⟨⟨a1, a2, a3, a4, a5⟩, ⟨b1, b2, b3⟩, c, d, e⟩ := h.al w
    rcases c with ⟨c1, c2⟩ | ⟨c1, c2, c3⟩ | ⟨c1, c2, c3⟩ | ⟨c1, c2⟩
    · have ne : ¬ (G 10 0 = 0 ∧ K 100 10 = i) := by omega
      rw [oIsWk (i := i) w (by omega), cI_f ne]
    · rw [oIsW (i := i) hN (by omega) h.1 w c1 a4 a5 b1 b2 b3]
      by_cases x : isW T (K 100 7) (K 100 8) (sjI i)
      · have y := c3.u (.inr ⟨i, hi, rfl, x⟩)
        rw [cI_t x, cI_t ⟨w, y⟩]
      · have ne : ¬ (G 10 0 = 0 ∧ K 100 10 = i) := by
          rintro ⟨_, y⟩
          rcases c3 with ⟨z1, z2⟩ | ⟨j, z1, z2, z3⟩
          · omega
          · have : i = j := by omega
            rw [this] at x
            exact x z3
        rw [cI_f x, cI_f ne]
    · have ne : ¬ (G 10 0 = 0 ∧ K 100 10 = i) := by omega
      rw [oIsWk (i := i) w (by omega), cI_f ne]
    · have ne : ¬ (G 10 0 = 0 ∧ K 100 10 = i) := by omega
      rw [oIsWk (i := i) w (by omega), cI_f ne]
  · have ne : ¬ (G 10 0 = 0 ∧ K 100 10 = i) := fun hh => w hh.1
    rw [oIsW0 (i := i) ⟨w, by omega, by omega⟩, cI_f ne]
theorem sIs (h : RD T n G K) {i : Int} (hi : 0 ≤ i ∧ i ≤ 19) : f_X12_is N 100 (jI i) (hp q K) = some (jI (cI (G 10 0 = 0 ∧ K 100 10 = i)), hp q K) := by
  have r := h.rng
  unfold f_X12_is
  by_cases w : G 10 0 = 0
  · obtain ⟨⟨a1, a2, a3, a4, a5⟩, b, c, d, e⟩ := h.al w
    have k10 : 0 ≤ K 100 10 ∧ K 100 10 ≤ 20 := by
      rcases c with c | c | c | c <;> omega
    by_cases x : K 100 10 = i
    · rw [cI_t ⟨w, x⟩]
      simp (maxSteps := 2000000) (disch := first | assumption | omega) only [jI0, iAdd_j, iSub_j, iMul_j, iNeg_j, Option.bind_some, jlt_t, jlt_f, jlt, jle_t, jle_f, jle, jeq_t, jeq_f, jeq, ↓reduceIte, o100, a3, x]
    · have ne : ¬ (G 10 0 = 0 ∧ K 100 10 = i) := fun hh => x hh.2
      rw [cI_f ne]
      simp (maxSteps := 2000000) (disch := first | assumption | omega) only [jI0, iAdd_j, iSub_j, iMul_j, iNeg_j, Option.bind_some, jlt_t, jlt_f, jlt, jle_t, jle_f, jle, jeq_t, jeq_f, jeq, ↓reduceIte, o100, a3, x]
  · have ne : ¬ (G 10 0 = 0 ∧ K 100 10 = i) := fun hh => w hh.1
    rw [cI_f ne]
    rcases (h.dd w).2 with ⟨d1, d2⟩ | ⟨d1, d2, d3, d4⟩
    · have dd := (h.dd w).1
      simp (maxSteps := 2000000) (disch := first | assumption | omega) only [jI0, iAdd_j, iSub_j, iMul_j, iNeg_j, Option.bind_some, jlt_t, jlt_f, jlt, jle_t, jle_f, jle, jeq_t, jeq_f, jeq, ↓reduceIte, o100, d1]
    · simp (maxSteps := 2000000) (disch := first | assumption | omega) only [jI0, iAdd_j, iSub_j, iMul_j, iNeg_j, Option.bind_some, jlt_t, jlt_f, jlt, jle_t, jle_f, jle, jeq_t, jeq_f, jeq, ↓reduceIte, o100, d2, d3]
theorem sFail (h : RD T n G K) {c : Int} (hc : 2 ≤ c ∧ c ≤ 4) : ∃ G' K' : Nat → Int → Int, StR T n G K G' K' ∧ (G' 10 0 ≠ 0 ∧ K' 100 12 ≠ 0) ∧ f_X8_fail N 10 (jI c) (hp q G) = some (hp q G') ∧ f_X12_fails N 100 (jI c) (hp q K) = some (hp q K') := by
  have r := h.rng
  have tc := h.1
  have tm := h.2.1
  by_cases w : G 10 0 = 0
  · obtain ⟨⟨a1, a2, a3, a4, a5⟩, b, cc, d, e⟩ := h.al w
    have k10 : 0 ≤ K 100 10 ∧ K 100 10 ≤ 20 := by
      rcases cc with c | c | c | c <;> omega
    have of := oFail (N := N) (q := q) (c := c) w
    have u7 : up K 100 12 c 100 7 = K 100 7 := by rw [up_eq, u1_ne (by decide)]
    have g0 : up (up G 10 0 c) 10 1 (G 10 4) 10 0 = c := by rw [up_eq, u1_ne (by decide), up_eq, u1_eq]
    have g1 : up (up G 10 0 c) 10 1 (G 10 4) 10 1 = G 10 4 := by rw [up_eq, u1_eq]
    have k12 : up (up K 100 12 c) 100 13 (K 100 7) 100 12 = c := by rw [up_eq, u1_ne (by decide), up_eq, u1_eq]
    have k13 : up (up K 100 12 c) 100 13 (K 100 7) 100 13 = K 100 7 := by rw [up_eq, u1_eq]
    refine ⟨up (up G 10 0 c) 10 1 (G 10 4), up (up K 100 12 c) 100 13 (K 100 7), ⟨fun a ha => by rw [up_ne ha, up_ne ha], fun a ha => by rw [up_ne ha, up_ne ha], fun i i7 i8 i10 i11 i12 i13 => by rw [up_eq, u1_ne i13, up_eq, u1_ne i12], ⟨(tc.up (by omega)).up (by omega), (tm.up (by omega)).up (by omega), .inr ⟨?_, .inl ⟨?_, ?_⟩⟩⟩, fun hh => ?_, fun _ => a3⟩, ⟨?_, ?_⟩, of, ?_⟩
    · rw [g0, g1]; have := tc.2.2.1; omega
    · rw [g0, k12]
    · rw [g1, k13, a4]
    · rw [g0] at hh; omega
    · rw [g0]; omega
    · rw [k12]; omega
    · unfold f_X12_fails
      have n21 : K 100 10 ≠ 21 := by omega
      simp (maxSteps := 2000000) (disch := first | assumption | omega) only [jI0, iAdd_j, iSub_j, iMul_j, iNeg_j, Option.bind_some, jlt_t, jlt_f, jlt, jle_t, jle_f, jle, jeq_t, jeq_f, jeq, ↓reduceIte, o100, a3, n21, w100, u7]
  · have dd := (h.dd w).1
    have of : f_X8_fail N 10 (jI c) (hp q G) = some (hp q G) := by
      unfold f_X8_fail
      simp (maxSteps := 2000000) (disch := first | assumption | omega) only [jI0, iAdd_j, iSub_j, iMul_j, iNeg_j, Option.bind_some, jlt_t, jlt_f, jlt, jle_t, jle_f, jle, jeq_t, jeq_f, jeq, ↓reduceIte, o10, w]
    rcases (h.dd w).2 with ⟨d1, d2⟩ | ⟨d1, d2, d3, d4⟩
    · refine ⟨G, K, h.refl, ⟨w, by omega⟩, of, ?_⟩
      unfold f_X12_fails
      simp (maxSteps := 2000000) (disch := first | assumption | omega) only [jI0, iAdd_j, iSub_j, iMul_j, iNeg_j, Option.bind_some, jlt_t, jlt_f, jlt, jle_t, jle_f, jle, jeq_t, jeq_f, jeq, ↓reduceIte, o100, d1]
    · have u7 : up K 100 12 1 100 7 = K 100 7 := by rw [up_eq, u1_ne (by decide)]
      have k12 : up (up K 100 12 1) 100 13 (K 100 7) 100 12 = 1 := by rw [up_eq, u1_ne (by decide), up_eq, u1_eq]
      have k13 : up (up K 100 12 1) 100 13 (K 100 7) 100 13 = K 100 7 := by rw [up_eq, u1_eq]
      refine ⟨G, up (up K 100 12 1) 100 13 (K 100 7), ⟨fun a ha => rfl, fun a ha => by rw [up_ne ha, up_ne ha], fun i i7 i8 i10 i11 i12 i13 => by rw [up_eq, u1_ne i13, up_eq, u1_ne i12], ⟨tc, (tm.up (by omega)).up (by omega), .inr ⟨dd, .inl ⟨?_, ?_⟩⟩⟩, fun hh => absurd hh w, fun _ => d2⟩, ⟨w, ?_⟩, of, ?_⟩
      · rw [k12]; omega
      · rw [k13]; omega
      · rw [k12]; decide
      · unfold f_X12_fails
        simp (maxSteps := 2000000) (disch := first | assumption | omega) only [jI0, iAdd_j, iSub_j, iMul_j, iNeg_j, Option.bind_some, jlt_t, jlt_f, jlt, jle_t, jle_f, jle, jeq_t, jeq_f, jeq, ↓reduceIte, o100, d2, d3, w100, u7]
theorem sEat (hN : 10000 ≤ N) (h : RD T n G K) {i : Nat} (hi : i < 17) {k : Int} (hk : k = i) : ∃ (G' K' : Nat → Int → Int) (b : Int), StR T n G K G' K' ∧ ((b = 0 ∧ G' = G ∧ K' = K) ∨ (b = 1 ∧ G 10 0 = 0 ∧ K 100 10 = i ∧ K 100 8 ≤ K' 100 7 ∧ f_X8_takeWord N 10 (UInt32.ofNat i) (hp q G) = some (hp q G'))) ∧ f_X8_isWord N 10 (UInt32.ofNat i) (hp q G) = some (jI b, hp q G) ∧ f_X12_eats N 100 (jI k) (hp q K) = some (jI b, hp q K') := by
  subst hk
  have ci := sIsW (N := N) (q := q) hN h hi
  have mi := sIs (N := N) (q := q) h (i := i) (by omega)
  by_cases c : G 10 0 = 0 ∧ K 100 10 = i
  · rw [cI_t c] at ci mi
    obtain ⟨G', K', x, y, e1, e2⟩ := sAdv (N := N) (q := q) hN h c.1
    refine ⟨G', K', 1, x, .inr ⟨rfl, c.1, c.2, y, ?_⟩, ci, ?_⟩
    · unfold f_X8_takeWord
      simp (maxSteps := 2000000) (disch := first | assumption | omega) only [jI0, iAdd_j, iSub_j, iMul_j, iNeg_j, Option.bind_some, jlt_t, jlt_f, jlt, jle_t, jle_f, jle, jeq_t, jeq_f, jeq, ↓reduceIte, o10, ci, e1]
    · unfold f_X12_eats
      simp (maxSteps := 2000000) (disch := first | assumption | omega) only [jI0, iAdd_j, iSub_j, iMul_j, iNeg_j, Option.bind_some, jlt_t, jlt_f, jlt, jle_t, jle_f, jle, jeq_t, jeq_f, jeq, ↓reduceIte, o100, mi, e2]
  · rw [cI_f c] at ci mi
    refine ⟨G, K, 0, h.refl, .inl ⟨rfl, rfl, rfl⟩, ci, ?_⟩
    unfold f_X12_eats
    simp (maxSteps := 2000000) (disch := first | assumption | omega) only [jI0, iAdd_j, iSub_j, iMul_j, iNeg_j, Option.bind_some, jlt_t, jlt_f, jlt, jle_t, jle_f, jle, jeq_t, jeq_f, jeq, ↓reduceIte, o100, mi]
theorem sHead (hN : 10000 ≤ N) (h : RD T n G K) {i : Nat} (hi : i < 17) {k : Int} (hk : k = i) (w : G 10 0 = 0) (kk : K 100 10 = k) : ∃ G' K' : Nat → Int → Int, StR T n G K G' K' ∧ f_X8_takeWord N 10 (UInt32.ofNat i) (hp q G) = some (hp q G') ∧ f_X12_next N 100 (hp q K) = some (hp q K') := by
  subst hk
  have ci := sIsW (N := N) (q := q) hN h hi
  rw [cI_t ⟨w, kk⟩] at ci
  obtain ⟨G', K', x, y, e1, e2⟩ := sAdv (N := N) (q := q) hN h w
  refine ⟨G', K', x, ?_, e2⟩
  unfold f_X8_takeWord
  simp (maxSteps := 2000000) (disch := first | assumption | omega) only [jI0, iAdd_j, iSub_j, iMul_j, iNeg_j, Option.bind_some, jlt_t, jlt_f, jlt, jle_t, jle_f, jle, jeq_t, jeq_f, jeq, ↓reduceIte, o10, ci, e1]
theorem sNeed (hN : 10000 ≤ N) (h : RD T n G K) {i : Nat} (hi : i < 17) {k : Int} (hk : k = i) : ∃ G' K' : Nat → Int → Int, StR T n G K G' K' ∧ f_X8_takeWord N 10 (UInt32.ofNat i) (hp q G) = some (hp q G') ∧ f_X12_needs N 100 (jI k) (hp q K) = some (hp q K') := by
  obtain ⟨G', K', b, x, y, ci, me⟩ := sEat (N := N) (q := q) hN h hi hk
  rcases y with ⟨y1, y2, y3⟩ | ⟨y1, y2, y3, y4, y5⟩
  · obtain ⟨G2, K2, z1, z2, e1, e2⟩ := sFail (N := N) (q := q) h (c := 2) (by omega)
    rw [y1] at ci me
    rw [y3] at me
    refine ⟨G2, K2, z1, ?_, ?_⟩
    · unfold f_X8_takeWord
      simp (maxSteps := 2000000) (disch := first | assumption | omega) only [jI0, iAdd_j, iSub_j, iMul_j, iNeg_j, Option.bind_some, jlt_t, jlt_f, jlt, jle_t, jle_f, jle, jeq_t, jeq_f, jeq, ↓reduceIte, o10, ci, e1]
    · unfold f_X12_needs
      simp (maxSteps := 2000000) (disch := first | assumption | omega) only [jI0, iAdd_j, iSub_j, iMul_j, iNeg_j, Option.bind_some, jlt_t, jlt_f, jlt, jle_t, jle_f, jle, jeq_t, jeq_f, jeq, ↓reduceIte, o100, me, e2]
  · rw [y1] at me
    refine ⟨G', K', x, y5, ?_⟩
    unfold f_X12_needs
    simp (maxSteps := 2000000) (disch := first | assumption | omega) only [jI0, iAdd_j, iSub_j, iMul_j, iNeg_j, Option.bind_some, jlt_t, jlt_f, jlt, jle_t, jle_f, jle, jeq_t, jeq_f, jeq, ↓reduceIte, o100, me]
theorem sSign (hN : 10000 ≤ N) (h : RD T n G K) : ∃ G' K' : Nat → Int → Int, StR T n G K G' K' ∧ (G' 10 0 = 0 → K 100 7 < K' 100 7) ∧ (G 10 0 ≠ 0 → K' 100 12 ≠ 0) ∧ f_X8_takeSign N 10 (hp q G) = some (hp q G') ∧ f_X12_needs N 100 (jI 19) (hp q K) = some (hp q K') := by
  have mi := sIs (N := N) (q := q) h (i := 19) (by omega)
  have r := h.rng
  by_cases c : G 10 0 = 0 ∧ K 100 10 = 19
  · rw [cI_t c] at mi
    obtain ⟨G', K', x, y, e1, e2⟩ := sAdv (N := N) (q := q) hN h c.1
    obtain ⟨a, b, cc, d, e⟩ := h.al c.1
    have c2 := c.2
    have g6 : G 10 6 = 3 := by
      rcases cc with cc | cc | cc | cc <;> omega
    have dl := d (by omega)
    refine ⟨G', K', x, fun _ => by omega, fun hh => absurd c.1 hh, ?_, ?_⟩
    · unfold f_X8_takeSign
      have w := c.1
      simp (maxSteps := 2000000) (disch := first | assumption | omega) only [jI0, iAdd_j, iSub_j, iMul_j, iNeg_j, Option.bind_some, jlt_t, jlt_f, jlt, jle_t, jle_f, jle, jeq_t, jeq_f, jeq, ↓reduceIte, o10, w, g6, e1]
    · unfold f_X12_needs f_X12_eats
      simp (maxSteps := 2000000) (disch := first | assumption | omega) only [jI0, iAdd_j, iSub_j, iMul_j, iNeg_j, Option.bind_some, jlt_t, jlt_f, jlt, jle_t, jle_f, jle, jeq_t, jeq_f, jeq, ↓reduceIte, o100, mi, e2]
  · rw [cI_f c] at mi
    obtain ⟨G2, K2, z1, z2, e1, e2⟩ := sFail (N := N) (q := q) h (c := 2) (by omega)
    refine ⟨G2, K2, z1, fun hh => absurd hh z2.1, fun _ => z2.2, ?_, ?_⟩
    · unfold f_X8_takeSign
      by_cases w : G 10 0 = 0
      · obtain ⟨a, b, cc, d, e⟩ := h.al w
        have g6 : G 10 6 ≠ 3 ∧ 0 ≤ G 10 6 ∧ G 10 6 ≤ 3 := by
          have : K 100 10 ≠ 19 := fun hh => c ⟨w, hh⟩
          rcases cc with cc | cc | cc | cc <;> omega
        have g63 := g6.1
        simp (maxSteps := 2000000) (disch := first | assumption | omega) only [jI0, iAdd_j, iSub_j, iMul_j, iNeg_j, Option.bind_some, jlt_t, jlt_f, jlt, jle_t, jle_f, jle, jeq_t, jeq_f, jeq, ↓reduceIte, o10, w, g63, e1]
      · simp (maxSteps := 2000000) (disch := first | assumption | omega) only [jI0, iAdd_j, iSub_j, iMul_j, iNeg_j, Option.bind_some, jlt_t, jlt_f, jlt, jle_t, jle_f, jle, jeq_t, jeq_f, jeq, ↓reduceIte, o10, w, e1]
    · unfold f_X12_needs f_X12_eats
      simp (maxSteps := 2000000) (disch := first | assumption | omega) only [jI0, iAdd_j, iSub_j, iMul_j, iNeg_j, Option.bind_some, jlt_t, jlt_f, jlt, jle_t, jle_f, jle, jeq_t, jeq_f, jeq, ↓reduceIte, o100, mi, e2]
theorem sTake (hN : 10000 ≤ N) (h : RD T n G K) {lo hi : Int} (hl : 0 ≤ lo ∧ lo ≤ 1000) (hh : -1000000 ≤ hi ∧ hi ≤ 1000000) : ∃ (G' K' : Nat → Int → Int) (v u : Int), StR T n G K G' K' ∧ ((v = 0 ∨ (lo ≤ v ∧ v ≤ hi)) ∧ Imp (G' 10 0 = 0) (K' 100 12 = 0) ∧ Imp (K' 100 12 = 0) (u = v ∧ lo ≤ v ∧ v ≤ hi)) ∧ f_X8_takeNumber N 10 (jI lo) (jI hi) (hp q G) = some (jI v, hp q G') ∧ f_X12_takes N 100 (jI lo) (jI hi) (hp q K) = some (jI u, hp q K') := by
  have mi := sIs (N := N) (q := q) h (i := 18) (by omega)
  have r := h.rng
  by_cases c : G 10 0 = 0 ∧ K 100 10 = 18
  · rw [cI_t c] at mi
    have w := c.1
    obtain ⟨⟨a1, a2, a3, a4, a5⟩, b, cc, d, e⟩ := h.al w
    have c2 := c.2
    have g6 : G 10 6 = 2 ∧ G 10 7 = K 100 11 ∧ 0 ≤ K 100 11 ∧ K 100 11 ≤ 9999 := by
      rcases cc with cc | cc | cc | cc <;> omega
    obtain ⟨g6, g7, g8, g9⟩ := g6
    by_cases cr : lo ≤ K 100 11 ∧ K 100 11 ≤ hi
    · obtain ⟨G', K', x, y, e1, e2⟩ := sAdv (N := N) (q := q) hN h w
      refine ⟨G', K', K 100 11, K 100 11, x, ⟨.inr cr, fun w' => ((x.2.2.2.1).al w').1.2.2.1, fun _ => ⟨rfl, cr⟩⟩, ?_, ?_⟩
      · unfold f_X8_takeNumber
        simp (maxSteps := 2000000) (disch := first | assumption | omega) only [jI0, iAdd_j, iSub_j, iMul_j, iNeg_j, Option.bind_some, jlt_t, jlt_f, jlt, jle_t, jle_f, jle, jeq_t, jeq_f, jeq, ↓reduceIte, o10, w, g6, g7, e1]
      · unfold f_X12_takes
        simp (maxSteps := 2000000) (disch := first | assumption | omega) only [jI0, iAdd_j, iSub_j, iMul_j, iNeg_j, Option.bind_some, jlt_t, jlt_f, jlt, jle_t, jle_f, jle, jeq_t, jeq_f, jeq, ↓reduceIte, o100, mi, jlL, X12_within, bI_t, a3, e2]
    · obtain ⟨G2, K2, z1, z2, e1, e2⟩ := sFail (N := N) (q := q) h (c := 3) (by omega)
      have k2 := z2.2
      have kk : -2147483648 ≤ K2 100 12 ∧ K2 100 12 < 2147483648 := by
        have := z1.2.2.2.1.rng
        rcases (z1.2.2.2.1.dd z2.1).2 with t | t <;> omega
      refine ⟨G2, K2, 0, K2 100 11, z1, ⟨.inl rfl, fun w' => absurd w' z2.1, fun w' => absurd w' z2.2⟩, ?_, ?_⟩
      · unfold f_X8_takeNumber
        by_cases c3 : K 100 11 < lo
        · simp (maxSteps := 2000000) (disch := first | assumption | omega) only [jI0, iAdd_j, iSub_j, iMul_j, iNeg_j, Option.bind_some, jlt_t, jlt_f, jlt, jle_t, jle_f, jle, jeq_t, jeq_f, jeq, ↓reduceIte, o10, w, g6, g7, e1]
        · simp (maxSteps := 2000000) (disch := first | assumption | omega) only [jI0, iAdd_j, iSub_j, iMul_j, iNeg_j, Option.bind_some, jlt_t, jlt_f, jlt, jle_t, jle_f, jle, jeq_t, jeq_f, jeq, ↓reduceIte, o10, w, g6, g7, e1]
      · unfold f_X12_takes
        simp (maxSteps := 2000000) (disch := first | assumption | omega) only [jI0, iAdd_j, iSub_j, iMul_j, iNeg_j, Option.bind_some, jlt_t, jlt_f, jlt, jle_t, jle_f, jle, jeq_t, jeq_f, jeq, ↓reduceIte, o100, mi, jlL, X12_within, bI_f, e2, k2]
  · rw [cI_f c] at mi
    obtain ⟨G2, K2, z1, z2, e1, e2⟩ := sFail (N := N) (q := q) h (c := 2) (by omega)
    have k2 := z2.2
    have kk : -2147483648 ≤ K2 100 12 ∧ K2 100 12 < 2147483648 := by
      have := z1.2.2.2.1.rng
      rcases (z1.2.2.2.1.dd z2.1).2 with t | t <;> omega
    refine ⟨G2, K2, 0, K2 100 11, z1, ⟨.inl rfl, fun w' => absurd w' z2.1, fun w' => absurd w' z2.2⟩, ?_, ?_⟩
    · unfold f_X8_takeNumber
      by_cases w : G 10 0 = 0
      · obtain ⟨a, b, cc, d, e⟩ := h.al w
        have g6 : G 10 6 ≠ 2 ∧ 0 ≤ G 10 6 ∧ G 10 6 ≤ 3 := by
          have : K 100 10 ≠ 18 := fun hh => c ⟨w, hh⟩
          rcases cc with cc | cc | cc | cc <;> omega
        have g63 := g6.1
        simp (maxSteps := 2000000) (disch := first | assumption | omega) only [jI0, iAdd_j, iSub_j, iMul_j, iNeg_j, Option.bind_some, jlt_t, jlt_f, jlt, jle_t, jle_f, jle, jeq_t, jeq_f, jeq, ↓reduceIte, o10, w, g63, e1]
      · simp (maxSteps := 2000000) (disch := first | assumption | omega) only [jI0, iAdd_j, iSub_j, iMul_j, iNeg_j, Option.bind_some, jlt_t, jlt_f, jlt, jle_t, jle_f, jle, jeq_t, jeq_f, jeq, ↓reduceIte, o10, w, e1]
    · unfold f_X12_takes
      simp (maxSteps := 2000000) (disch := first | assumption | omega) only [jI0, iAdd_j, iSub_j, iMul_j, iNeg_j, Option.bind_some, jlt_t, jlt_f, jlt, jle_t, jle_f, jle, jeq_t, jeq_f, jeq, ↓reduceIte, o100, mi, e2, k2]
end
