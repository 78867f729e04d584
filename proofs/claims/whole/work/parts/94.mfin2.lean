/-! find: the model's strokes in their order, what it keeps -/
section
variable {K1 K2 : (Int → Int) → (Int → Int) → Prop} {q : Nat × Nat × (Nat → Nat)} {G : Nat → Int → Int} {N : Nat}
/-- all but the stroke that is tried -/
def KpM (G G' : Nat → Int → Int) : Prop := (∀ a, a ≠ 100 → G' a = G a) ∧ ∀ i : Int, (i < 17 ∨ 21 < i) → G' 100 i = G 100 i
theorem mFirst {S : Int} (h0 : G 102 0 = S) : ∃ G' : Nat → Int → Int, (KpM G G' ∧ NowM G' S 1 (1, 1, 0, 0)) ∧ f_X12_firstStroke N 100 (hp q G) = some (hp q G') := by
  refine ⟨up (up (up (up (up G 100 17 1) 100 18 1) 100 19 1) 100 20 0) 100 21 0, ⟨⟨fun a ha => by rw [up_ne ha, up_ne ha, up_ne ha, up_ne ha, up_ne ha], fun i hi => ?_⟩, ?_⟩, ?_⟩
  · simp (disch := omega) only [up_eq, u1_ne]
  · unfold NowM
    simp (disch := omega) only [up_eq, up_ne, u1_eq, u1_ne, h0, xkA, xkB, xkF, xkL, and_self]
  · unfold f_X12_firstStroke
    simp (maxSteps := 2000000) (disch := first | assumption | omega) only [jI0, iAdd_j, iSub_j, iMul_j, iNeg_j, Option.bind_some, jlt_t, jlt_f, jlt, jle_t, jle_f, jle, jeq_t, jeq_f, jeq, ↓reduceIte, w100]
theorem mNext {S k : Int} {x : Stk} (hS : 3 ≤ S ∧ S ≤ 32) (hk : 1 ≤ k ∧ k ≤ 4) (hx : okS S x) (hw : NowM G S k x) : ∃ G' : Nat → Int → Int, (KpM G G' ∧ (∀ y, nxS S x = some y → NowM G' S k y) ∧ (nxS S x = none → k < 4 → NowM G' S (k + 1) (1, 1, 0, 0))) ∧ f_X12_nextStroke N 100 (hp q G) = some (jI (if nxS S x = none then (if k < 4 then 1 else 0) else 1), hp q G') := by
  obtain ⟨w0, w1, w2, w3, w4, w5⟩ := hw
  obtain ⟨⟨a1, a2⟩, ⟨b1, b2⟩, ⟨f1, f2⟩, l1, l2⟩ := hx
  unfold f_X12_nextStroke
  by_cases cl : xkL x = 0
  · have en : nxS S x = some (xkA x, xkB x, xkF x, 1) := by unfold nxS; rw [if_pos cl]
    rw [cl] at w5
    refine ⟨up G 100 21 (0 + 1), ⟨⟨fun a ha => up_ne ha, fun i hi => by simp (disch := omega) only [up_eq, u1_ne]⟩, fun y hy => ?_, fun h => ?_⟩, ?_⟩
    · rw [en] at hy
      obtain rfl := Option.some.inj hy
      unfold NowM
      simp (disch := omega) only [up_eq, up_ne, u1_eq, u1_ne, w0, w1, w2, w3, w4]
      simp [xkA, xkB, xkF, xkL]
    · rw [en] at h; cases h
    · rw [en, if_neg (fun h => by cases h)]
      simp (maxSteps := 2000000) (disch := first | assumption | omega) only [jI0, iAdd_j, iSub_j, iMul_j, iNeg_j, Option.bind_some, jlt_t, jlt_f, jlt, jle_t, jle_f, jle, jeq_t, jeq_f, jeq, ↓reduceIte, o100, w5, w100, up_eq, u1_eq]
  · have l1' : xkL x = 1 := by omega
    rw [l1'] at w5
    by_cases cf : xkF x + 1 < S
    · have en : nxS S x = some (xkA x, xkB x, xkF x + 1, 0) := by unfold nxS; rw [if_neg cl, if_pos cf]
      refine ⟨up (up (up G 100 21 (1 + 1)) 100 21 0) 100 20 (xkF x + 1), ⟨⟨fun a ha => by rw [up_ne ha, up_ne ha, up_ne ha], fun i hi => by simp (disch := omega) only [up_eq, u1_ne]⟩, fun y hy => ?_, fun h => ?_⟩, ?_⟩
      · rw [en] at hy
        obtain rfl := Option.some.inj hy
        unfold NowM
        simp (disch := omega) only [up_eq, up_ne, u1_eq, u1_ne, w0, w1, w2, w3]
        simp [xkA, xkB, xkF, xkL]
      · rw [en] at h; cases h
      · rw [en, if_neg (fun h => by cases h)]
        simp (maxSteps := 2000000) (disch := first | assumption | omega) only [jI0, iAdd_j, iSub_j, iMul_j, iNeg_j, Option.bind_some, jlt_t, jlt_f, jlt, jle_t, jle_f, jle, jeq_t, jeq_f, jeq, ↓reduceIte, o100, w5, w100, up_eq, up_ne, u1_eq, u1_ne, w4, w0, l102]
    · by_cases cb : xkB x < 4
      · have en : nxS S x = some (xkA x, xkB x + 1, 0, 0) := by unfold nxS; rw [if_neg cl, if_neg cf, if_pos cb]
        refine ⟨up (up (up (up (up G 100 21 (1 + 1)) 100 21 0) 100 20 (xkF x + 1)) 100 20 0) 100 19 (xkB x + 1), ⟨⟨fun a ha => by rw [up_ne ha, up_ne ha, up_ne ha, up_ne ha, up_ne ha], fun i hi => by simp (disch := omega) only [up_eq, u1_ne]⟩, fun y hy => ?_, fun h => ?_⟩, ?_⟩
        · rw [en] at hy
          obtain rfl := Option.some.inj hy
          unfold NowM
          simp (disch := omega) only [up_eq, up_ne, u1_eq, u1_ne, w0, w1, w2]
          simp [xkA, xkB, xkF, xkL]
        · rw [en] at h; cases h
        · rw [en, if_neg (fun h => by cases h)]
          simp (maxSteps := 2000000) (disch := first | assumption | omega) only [jI0, iAdd_j, iSub_j, iMul_j, iNeg_j, Option.bind_some, jlt_t, jlt_f, jlt, jle_t, jle_f, jle, jeq_t, jeq_f, jeq, ↓reduceIte, o100, w5, w100, up_eq, up_ne, u1_eq, u1_ne, w4, w3, w0, l102]
      · by_cases ca : xkA x < 4
        · have en : nxS S x = some (xkA x + 1, 1, 0, 0) := by unfold nxS; rw [if_neg cl, if_neg cf, if_neg cb, if_pos ca]
          refine ⟨up (up (up (up (up (up (up G 100 21 (1 + 1)) 100 21 0) 100 20 (xkF x + 1)) 100 20 0) 100 19 (xkB x + 1)) 100 19 1) 100 18 (xkA x + 1), ⟨⟨fun a ha => by rw [up_ne ha, up_ne ha, up_ne ha, up_ne ha, up_ne ha, up_ne ha, up_ne ha], fun i hi => by simp (disch := omega) only [up_eq, u1_ne]⟩, fun y hy => ?_, fun h => ?_⟩, ?_⟩
          · rw [en] at hy
            obtain rfl := Option.some.inj hy
            unfold NowM
            simp (disch := omega) only [up_eq, up_ne, u1_eq, u1_ne, w0, w1]
            simp [xkA, xkB, xkF, xkL]
          · rw [en] at h; cases h
          · rw [en, if_neg (fun h => by cases h)]
            simp (maxSteps := 2000000) (disch := first | assumption | omega) only [jI0, iAdd_j, iSub_j, iMul_j, iNeg_j, Option.bind_some, jlt_t, jlt_f, jlt, jle_t, jle_f, jle, jeq_t, jeq_f, jeq, ↓reduceIte, o100, w5, w100, up_eq, up_ne, u1_eq, u1_ne, w4, w3, w2, w0, l102]
        · have en : nxS S x = none := by unfold nxS; rw [if_neg cl, if_neg cf, if_neg cb, if_neg ca]
          refine ⟨up (up (up (up (up (up (up (up (up G 100 21 (1 + 1)) 100 21 0) 100 20 (xkF x + 1)) 100 20 0) 100 19 (xkB x + 1)) 100 19 1) 100 18 (xkA x + 1)) 100 18 1) 100 17 (k + 1), ⟨⟨fun a ha => by rw [up_ne ha, up_ne ha, up_ne ha, up_ne ha, up_ne ha, up_ne ha, up_ne ha, up_ne ha, up_ne ha], fun i hi => by simp (disch := omega) only [up_eq, u1_ne]⟩, fun y hy => ?_, fun h h4 => ?_⟩, ?_⟩
          · rw [en] at hy; cases hy
          · unfold NowM
            simp (disch := omega) only [up_eq, up_ne, u1_eq, u1_ne, w0]
            simp [xkA, xkB, xkF, xkL]
          · rw [en, if_pos rfl]
            by_cases c4 : k < 4
            · rw [if_pos c4]
              simp (maxSteps := 2000000) (disch := first | assumption | omega) only [jI0, iAdd_j, iSub_j, iMul_j, iNeg_j, Option.bind_some, jlt_t, jlt_f, jlt, jle_t, jle_f, jle, jeq_t, jeq_f, jeq, ↓reduceIte, o100, w5, w100, up_eq, up_ne, u1_eq, u1_ne, w4, w3, w2, w1, w0, l102]
            · rw [if_neg c4]
              simp (maxSteps := 2000000) (disch := first | assumption | omega) only [jI0, iAdd_j, iSub_j, iMul_j, iNeg_j, Option.bind_some, jlt_t, jlt_f, jlt, jle_t, jle_f, jle, jeq_t, jeq_f, jeq, ↓reduceIte, o100, w5, w100, up_eq, up_ne, u1_eq, u1_ne, w4, w3, w2, w1, w0, l102]
theorem mKeeps (hN : 10000 ≤ N) {S k : Int} {x : Stk} (hk : 1 ≤ k ∧ k ≤ 4) (hx : okS S x) (hS : S ≤ 32) (hw : NowM G S k x) : ∃ G' : Nat → Int → Int, ((∀ a, a ≠ 108 → G' a = G a) ∧ (G' 108 0 = k ∧ G' 108 1 = xkA x ∧ G' 108 2 = xkB x ∧ G' 108 3 = xkF x ∧ G' 108 4 = xkL x) ∧ ∀ j : Int, 0 ≤ j → j < 4 → (j < k → -1 ≤ G 107 j → G 107 j ≤ 5 → G' 108 (5 + j) = max 0 (G 107 j)) ∧ (k ≤ j → G' 108 (5 + j) = -1)) ∧ f_X12_keepsStroke N 100 (hp q G) = some (hp q G') := by
  obtain ⟨w0, w1, w2, w3, w4, w5⟩ := hw
  have LL : ∃ G' : Nat → Int → Int, ((∀ a, a ≠ 108 → G' a = G a) ∧ (G' 108 0 = k ∧ G' 108 1 = xkA x ∧ G' 108 2 = xkB x ∧ G' 108 3 = xkF x ∧ G' 108 4 = xkL x) ∧ ∀ j : Int, 0 ≤ j → j < 4 → (j < k → -1 ≤ G 107 j → G 107 j ≤ 5 → G' 108 (5 + j) = max 0 (G 107 j)) ∧ (k ≤ j → G' 108 (5 + j) = -1)) ∧ L_X12_keepsStroke_52 N N 100 (jI 0) (hp q (up (up (up (up (up G 108 0 k) 108 1 (xkA x)) 108 2 (xkB x)) 108 3 (xkF x)) 108 4 (xkL x))) = some (hp q G') := by
    refine loopG (N := N) (fun f (t : Nat × (Nat → Int → Int)) => L_X12_keepsStroke_52 N f 100 (jI t.1) (hp q t.2)) (fun n t => t.1 = n ∧ (∀ a, a ≠ 108 → t.2 a = G a) ∧ (t.2 108 0 = k ∧ t.2 108 1 = xkA x ∧ t.2 108 2 = xkB x ∧ t.2 108 3 = xkF x ∧ t.2 108 4 = xkL x) ∧ ∀ j : Int, 0 ≤ j → j < (n : Int) → (j < k → -1 ≤ G 107 j → G 107 j ≤ 5 → t.2 108 (5 + j) = max 0 (G 107 j)) ∧ (k ≤ j → t.2 108 (5 + j) = -1)) 4 (R := fun G' => some (hp q G')) (by omega) (s := (0, _)) ⟨rfl, fun a ha => ?_, ?_, fun j j0 j1 => absurd j1 (by omega)⟩ ?_ ?_
    · show up (up (up (up (up G 108 0 k) 108 1 (xkA x)) 108 2 (xkB x)) 108 3 (xkF x)) 108 4 (xkL x) a = G a
      rw [up_ne ha, up_ne ha, up_ne ha, up_ne ha, up_ne ha]
    · show (up (up (up (up (up G 108 0 k) 108 1 (xkA x)) 108 2 (xkB x)) 108 3 (xkF x)) 108 4 (xkL x)) 108 0 = k ∧ (up (up (up (up (up G 108 0 k) 108 1 (xkA x)) 108 2 (xkB x)) 108 3 (xkF x)) 108 4 (xkL x)) 108 1 = xkA x ∧ (up (up (up (up (up G 108 0 k) 108 1 (xkA x)) 108 2 (xkB x)) 108 3 (xkF x)) 108 4 (xkL x)) 108 2 = xkB x ∧ (up (up (up (up (up G 108 0 k) 108 1 (xkA x)) 108 2 (xkB x)) 108 3 (xkF x)) 108 4 (xkL x)) 108 3 = xkF x ∧ (up (up (up (up (up G 108 0 k) 108 1 (xkA x)) 108 2 (xkB x)) 108 3 (xkF x)) 108 4 (xkL x)) 108 4 = xkL x
      simp (disch := omega) only [up_eq, u1_eq, u1_ne, and_self]
    · rintro f n ⟨i, G1⟩ hn ⟨rfl, t1, t2, t3⟩
      dsimp only at t1 t2 t3 hn
      have e100 : G1 100 = G 100 := t1 100 (by decide)
      have e107 : G1 107 = G 107 := t1 107 (by decide)
      have Z : ∀ v : Int, ((i : Int) < k → -1 ≤ G 107 i → G 107 i ≤ 5 → v = max 0 (G 107 i)) → (k ≤ (i : Int) → v = -1) → L_X12_keepsStroke_52 N (f + 1) 100 (jI i) (hp q G1) = L_X12_keepsStroke_52 N f 100 (jI ((i + 1 : Nat) : Int)) (hp q (up G1 108 (5 + i) v)) → ∃ s' : Nat × (Nat → Int → Int), (s'.1 = i + 1 ∧ (∀ a, a ≠ 108 → s'.2 a = G a) ∧ (s'.2 108 0 = k ∧ s'.2 108 1 = xkA x ∧ s'.2 108 2 = xkB x ∧ s'.2 108 3 = xkF x ∧ s'.2 108 4 = xkL x) ∧ ∀ j : Int, 0 ≤ j → j < ((i + 1 : Nat) : Int) → (j < k → -1 ≤ G 107 j → G 107 j ≤ 5 → s'.2 108 (5 + j) = max 0 (G 107 j)) ∧ (k ≤ j → s'.2 108 (5 + j) = -1)) ∧ L_X12_keepsStroke_52 N (f + 1) 100 (jI i) (hp q G1) = L_X12_keepsStroke_52 N f 100 (jI s'.1) (hp q s'.2) := by
        intro v v1 v2 v3
        refine ⟨(i + 1, up G1 108 (5 + i) v), ⟨rfl, fun a ha => ?_, ?_, fun j j0 j1 => ?_⟩, v3⟩
        · show up G1 108 (5 + i) v a = G a
          rw [up_ne ha]
          exact t1 a ha
        · show up G1 108 (5 + i) v 108 0 = k ∧ up G1 108 (5 + i) v 108 1 = xkA x ∧ up G1 108 (5 + i) v 108 2 = xkB x ∧ up G1 108 (5 + i) v 108 3 = xkF x ∧ up G1 108 (5 + i) v 108 4 = xkL x
          simp (disch := omega) only [up_eq, u1_ne]
          exact t2
        · show (j < k → -1 ≤ G 107 j → G 107 j ≤ 5 → up G1 108 (5 + i) v 108 (5 + j) = max 0 (G 107 j)) ∧ (k ≤ j → up G1 108 (5 + i) v 108 (5 + j) = -1)
          rw [up_eq]
          by_cases c : j = i
          · subst c
            rw [u1_eq]
            exact ⟨v1, v2⟩
          · have nn : (5 : Int) + j ≠ 5 + i := by omega
            rw [u1_ne nn]
            exact t3 j j0 (by omega)
      have hin : ((i + 1 : Nat) : Int) = (i : Int) + 1 := by omega
      by_cases c : (i : Int) < k
      · by_cases c2 : jI (G 107 i) = jI (-1)
        · have c3 : (jI (G 107 i) = jI (-1)) = True := eq_true c2
          refine Z 0 (fun _ r0 r1 => ?_) (fun h => absurd h (by omega)) ?_
          · have := (jI_eq (by omega) (by omega) (by omega) (by omega)).mp c2
            omega
          · rw [L_X12_keepsStroke_52, hin]
            simp (maxSteps := 2000000) (disch := first | assumption | omega) only [jI0, iAdd_j, iSub_j, iMul_j, iNeg_j, Option.bind_some, jlt_t, jlt_f, jlt, jle_t, jle_f, jle, jeq_t, jeq_f, jeq, ↓reduceIte, o100, e100, w1, l107, e107, s108, c3]
        · have c3 : (jI (G 107 i) = jI (-1)) = False := eq_false c2
          refine Z (G 107 i) (fun _ r0 r1 => ?_) (fun h => absurd h (by omega)) ?_
          · have : G 107 i ≠ -1 := fun h => c2 (by rw [h])
            omega
          · rw [L_X12_keepsStroke_52, hin]
            simp (maxSteps := 2000000) (disch := first | assumption | omega) only [jI0, iAdd_j, iSub_j, iMul_j, iNeg_j, Option.bind_some, jlt_t, jlt_f, jlt, jle_t, jle_f, jle, jeq_t, jeq_f, jeq, ↓reduceIte, o100, e100, w1, l107, e107, s108, c3]
      · refine Z (-1) (fun h => absurd h c) (fun _ => rfl) ?_
        rw [L_X12_keepsStroke_52, hin]
        simp (maxSteps := 2000000) (disch := first | assumption | omega) only [jI0, iAdd_j, iSub_j, iMul_j, iNeg_j, Option.bind_some, jlt_t, jlt_f, jlt, jle_t, jle_f, jle, jeq_t, jeq_f, jeq, ↓reduceIte, o100, e100, w1, s108]
    · rintro f ⟨i, G1⟩ ⟨rfl, t1, t2, t3⟩
      dsimp only at t1 t2 t3
      refine ⟨G1, ⟨t1, t2, t3⟩, ?_⟩
      show L_X12_keepsStroke_52 N (f + 1) 100 (jI ((4 : Nat) : Int)) (hp q G1) = some (hp q G1)
      rw [L_X12_keepsStroke_52, show ((4 : Nat) : Int) = 4 from rfl]
      simp (maxSteps := 2000000) (disch := first | assumption | omega) only [jI0, iAdd_j, iSub_j, iMul_j, iNeg_j, Option.bind_some, jlt_t, jlt_f, jlt, jle_t, jle_f, jle, jeq_t, jeq_f, jeq, ↓reduceIte]
  obtain ⟨G', x1, x2⟩ := LL
  refine ⟨G', x1, ?_⟩
  obtain ⟨⟨a1, a2⟩, ⟨b1, b2⟩, ⟨f1, f2⟩, l1, l2⟩ := hx
  unfold f_X12_keepsStroke
  simp (maxSteps := 2000000) (disch := first | assumption | omega) only [jI0, iAdd_j, iSub_j, iMul_j, iNeg_j, Option.bind_some, jlt_t, jlt_f, jlt, jle_t, jle_f, jle, jeq_t, jeq_f, jeq, ↓reduceIte, o100, up_ne, w1, w2, w3, w4, w5, s108, x2]
end
