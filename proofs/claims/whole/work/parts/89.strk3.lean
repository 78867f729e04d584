/-! STROKES: begin, go on; all strokes of so many weavers -/
/-- all strokes from one on, in their order -/
def sgo {σ : Type} (S : Int) (F : Stk → σ → σ) : Nat → Stk → σ → σ
  | 0, _, s => s
  | d + 1, x, s => match nxS S x with
    | none => F x s
    | some y => sgo S F d y (F x s)
theorem sgo_id {σ : Type} {S : Int} {F : Stk → σ → σ} {s : σ} (h : ∀ x, F x s = s) : ∀ (d : Nat) (x : Stk), sgo S F d x s = s
  | 0, _ => rfl
  | d + 1, x => by
    simp only [sgo]
    split
    · exact h x
    · rw [h x]; exact sgo_id h d _
section
variable {K1 K2 : (Int → Int) → (Int → Int) → Prop} {q : Nat × Nat × (Nat → Nat)} {G : Nat → Int → Int} {N : Nat}
theorem oBegin (hN : 10000 ≤ N) {S R k : Int} (hS : 3 ≤ S ∧ S ≤ 32) (hR : 1 ≤ R ∧ R ≤ 8) (hk : 1 ≤ k ∧ k ≤ 4) (w1 : G 25 9 = S) (w2 : G 25 10 = R) : ∃ G' : Nat → Int → Int, ((∀ a, a ≠ 26 → a ≠ 27 → a ≠ 30 → G' a = G a) ∧ NowC G' S R k (1, 1, 0, 0) ∧ RowC G' S R k (1, 1, 0, 0)) ∧ f_X9_begin N 25 (jI k) (hp q G) = some (hp q G') := by
  have x0 : okS S (1, 1, 0, 0) := by unfold okS; simp only [xkA, xkB, xkF, xkL]; omega
  have nw : NowC (up (up (up (up (up G 30 0 k) 30 1 1) 30 2 1) 30 3 0) 30 4 0) S R k (1, 1, 0, 0) := by
    unfold NowC
    simp (disch := omega) only [up_eq, up_ne, u1_eq, u1_ne, xkA, xkB, xkF, xkL, w1, w2, and_self]
  obtain ⟨G', ⟨x1, x2⟩, x3⟩ := oWr (q := q) (G := up (up (up (up (up G 30 0 k) 30 1 1) 30 2 1) 30 3 0) 30 4 0) hN hS hR hk x0 nw
  have E : ∀ a, a ≠ 26 → a ≠ 27 → a ≠ 30 → G' a = G a := fun a h1 h2 h3 => by rw [x1 a h1 h2, up_ne h3, up_ne h3, up_ne h3, up_ne h3, up_ne h3]
  refine ⟨G', ⟨E, ?_, x2⟩, ?_⟩
  · unfold NowC at *
    rw [x1 25 (by decide) (by decide), x1 30 (by decide) (by decide)]
    exact nw
  · unfold f_X9_begin
    simp (maxSteps := 2000000) (disch := first | assumption | omega) only [jI0, iAdd_j, iSub_j, iMul_j, iNeg_j, Option.bind_some, jlt_t, jlt_f, jlt, jle_t, jle_f, jle, jeq_t, jeq_f, jeq, ↓reduceIte, o25, s30, x3]
theorem RowC.ab {S R k : Int} {x y : Stk} {G' : Nat → Int → Int} (h : RowC G S R k x) (h1 : xkA y = xkA x) (h2 : xkB y = xkB x) (e1 : G' 26 = G 26) (e2 : G' 27 = G 27) : RowC G' S R k y := by
  intro r r0 r1
  have := h r r0 r1
  unfold plB at *
  rw [h1, h2, e1, e2]
  exact this
theorem oGo (hN : 10000 ≤ N) {S R k : Int} {x : Stk} (hS : 3 ≤ S ∧ S ≤ 32) (hR : 1 ≤ R ∧ R ≤ 8) (hk : 1 ≤ k ∧ k ≤ 4) (hx : okS S x) (hw : NowC G S R k x) (hr : RowC G S R k x) : ∃ G' : Nat → Int → Int, ((∀ a, a ≠ 26 → a ≠ 27 → a ≠ 30 → G' a = G a) ∧ ∀ y, nxS S x = some y → NowC G' S R k y ∧ RowC G' S R k y) ∧ f_X9_goOn N 25 (hp q G) = some (jI (if nxS S x = none then 0 else 1), hp q G') := by
  have hx' := hx
  obtain ⟨⟨w1, w2⟩, w3, w4, w5, w6, w7⟩ := hw
  obtain ⟨⟨a1, a2⟩, ⟨b1, b2⟩, ⟨f1, f2⟩, l1, l2⟩ := hx
  unfold f_X9_goOn
  by_cases cl : xkL x = 0
  · have en : nxS S x = some (xkA x, xkB x, xkF x, 1) := by unfold nxS; rw [if_pos cl]
    rw [cl] at w7
    refine ⟨up G 30 4 (0 + 1), ⟨fun a h1 h2 h3 => up_ne h3, fun y hy => ?_⟩, ?_⟩
    · rw [en] at hy
      obtain rfl := Option.some.inj hy
      refine ⟨?_, hr.ab rfl rfl (up_ne (by decide)) (up_ne (by decide))⟩
      unfold NowC
      simp (disch := omega) only [up_eq, up_ne, u1_eq, u1_ne, w1, w2, w3, w4, w5, w6]
      simp [xkA, xkB, xkF, xkL]
    · rw [en, if_neg (fun h => by cases h)]
      simp (maxSteps := 2000000) (disch := first | assumption | omega) only [jI0, iAdd_j, iSub_j, iMul_j, iNeg_j, Option.bind_some, jlt_t, jlt_f, jlt, jle_t, jle_f, jle, jeq_t, jeq_f, jeq, ↓reduceIte, o25, l30, w7, s30, up_eq, u1_eq]
  · have l1' : xkL x = 1 := by omega
    rw [l1'] at w7
    by_cases cf : xkF x + 1 < S
    · have en : nxS S x = some (xkA x, xkB x, xkF x + 1, 0) := by unfold nxS; rw [if_neg cl, if_pos cf]
      refine ⟨up (up (up G 30 4 (1 + 1)) 30 4 0) 30 3 (xkF x + 1), ⟨fun a h1 h2 h3 => by rw [up_ne h3, up_ne h3, up_ne h3], fun y hy => ?_⟩, ?_⟩
      · rw [en] at hy
        obtain rfl := Option.some.inj hy
        refine ⟨?_, hr.ab rfl rfl (by rw [up_ne (by decide), up_ne (by decide), up_ne (by decide)]) (by rw [up_ne (by decide), up_ne (by decide), up_ne (by decide)])⟩
        unfold NowC
        simp (disch := omega) only [up_eq, up_ne, u1_eq, u1_ne, w1, w2, w3, w4, w5, w6]
        simp [xkA, xkB, xkF, xkL]
      · rw [en, if_neg (fun h => by cases h)]
        simp (maxSteps := 2000000) (disch := first | assumption | omega) only [jI0, iAdd_j, iSub_j, iMul_j, iNeg_j, Option.bind_some, jlt_t, jlt_f, jlt, jle_t, jle_f, jle, jeq_t, jeq_f, jeq, ↓reduceIte, o25, l30, w7, s30, up_eq, up_ne, u1_eq, u1_ne, w6, w1]
    · by_cases cb : xkB x < 4
      · have en : nxS S x = some (xkA x, xkB x + 1, 0, 0) := by unfold nxS; rw [if_neg cl, if_neg cf, if_pos cb]
        have oy := nxS_ok hS.1 hx' en
        have nw : NowC (up (up (up (up (up G 30 4 (1 + 1)) 30 4 0) 30 3 (xkF x + 1)) 30 3 0) 30 2 (xkB x + 1)) S R k (xkA x, xkB x + 1, 0, 0) := by
          unfold NowC
          simp (disch := omega) only [up_eq, up_ne, u1_eq, u1_ne, w1, w2, w3, w4, w5, w6]
          simp [xkA, xkB, xkF, xkL]
        obtain ⟨G', ⟨x1, x2⟩, x3⟩ := oWr (q := q) (G := up (up (up (up (up G 30 4 (1 + 1)) 30 4 0) 30 3 (xkF x + 1)) 30 3 0) 30 2 (xkB x + 1)) hN hS hR hk oy nw
        refine ⟨G', ⟨fun a h1 h2 h3 => by rw [x1 a h1 h2, up_ne h3, up_ne h3, up_ne h3, up_ne h3, up_ne h3], fun y hy => ?_⟩, ?_⟩
        · rw [en] at hy
          obtain rfl := Option.some.inj hy
          refine ⟨?_, x2⟩
          unfold NowC at *
          rw [x1 25 (by decide) (by decide), x1 30 (by decide) (by decide)]
          exact nw
        · rw [en, if_neg (fun h => by cases h)]
          simp (maxSteps := 2000000) (disch := first | assumption | omega) only [jI0, iAdd_j, iSub_j, iMul_j, iNeg_j, Option.bind_some, jlt_t, jlt_f, jlt, jle_t, jle_f, jle, jeq_t, jeq_f, jeq, ↓reduceIte, o25, l30, w7, s30, up_eq, up_ne, u1_eq, u1_ne, w6, w1, w5, w4, x3]
      · by_cases ca : xkA x < 4
        · have en : nxS S x = some (xkA x + 1, 1, 0, 0) := by unfold nxS; rw [if_neg cl, if_neg cf, if_neg cb, if_pos ca]
          have oy := nxS_ok hS.1 hx' en
          have nw : NowC (up (up (up (up (up (up (up G 30 4 (1 + 1)) 30 4 0) 30 3 (xkF x + 1)) 30 3 0) 30 2 (xkB x + 1)) 30 2 1) 30 1 (xkA x + 1)) S R k (xkA x + 1, 1, 0, 0) := by
            unfold NowC
            simp (disch := omega) only [up_eq, up_ne, u1_eq, u1_ne, w1, w2, w3, w4, w5, w6]
            simp [xkA, xkB, xkF, xkL]
          obtain ⟨G', ⟨x1, x2⟩, x3⟩ := oWr (q := q) (G := up (up (up (up (up (up (up G 30 4 (1 + 1)) 30 4 0) 30 3 (xkF x + 1)) 30 3 0) 30 2 (xkB x + 1)) 30 2 1) 30 1 (xkA x + 1)) hN hS hR hk oy nw
          refine ⟨G', ⟨fun a h1 h2 h3 => by rw [x1 a h1 h2, up_ne h3, up_ne h3, up_ne h3, up_ne h3, up_ne h3, up_ne h3, up_ne h3], fun y hy => ?_⟩, ?_⟩
          · rw [en] at hy
            obtain rfl := Option.some.inj hy
            refine ⟨?_, x2⟩
            unfold NowC at *
            rw [x1 25 (by decide) (by decide), x1 30 (by decide) (by decide)]
            exact nw
          · rw [en, if_neg (fun h => by cases h)]
            simp (maxSteps := 2000000) (disch := first | assumption | omega) only [jI0, iAdd_j, iSub_j, iMul_j, iNeg_j, Option.bind_some, jlt_t, jlt_f, jlt, jle_t, jle_f, jle, jeq_t, jeq_f, jeq, ↓reduceIte, o25, l30, w7, s30, up_eq, up_ne, u1_eq, u1_ne, w6, w1, w5, w4, x3]
        · have en : nxS S x = none := by unfold nxS; rw [if_neg cl, if_neg cf, if_neg cb, if_neg ca]
          refine ⟨up (up (up (up (up (up (up G 30 4 (1 + 1)) 30 4 0) 30 3 (xkF x + 1)) 30 3 0) 30 2 (xkB x + 1)) 30 2 1) 30 1 (xkA x + 1), ⟨fun a h1 h2 h3 => by rw [up_ne h3, up_ne h3, up_ne h3, up_ne h3, up_ne h3, up_ne h3, up_ne h3], fun y hy => by rw [en] at hy; cases hy⟩, ?_⟩
          rw [en, if_pos rfl]
          simp (maxSteps := 2000000) (disch := first | assumption | omega) only [jI0, iAdd_j, iSub_j, iMul_j, iNeg_j, Option.bind_some, jlt_t, jlt_f, jlt, jle_t, jle_f, jle, jeq_t, jeq_f, jeq, ↓reduceIte, o25, l30, w7, s30, up_eq, up_ne, u1_eq, u1_ne, w6, w1, w5, w4]
end
