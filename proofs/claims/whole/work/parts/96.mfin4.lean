/-! find: the whole call -/
theorem fval {S R : Int} {sg : Int → Int → Int} {M M' : Int → Int} {s : Int × Int × Stk} (h : MkR S R sg M s) (h' : MfR S R sg M' s) (z : s.1 ≠ 0) : (∀ i : Int, 0 ≤ i → i < 5 → M i = M' i) ∧ ∀ j : Int, 0 ≤ j → j < 4 → M (6 + j) = M' (5 + j) := by
  obtain ⟨_, _, _, h4⟩ := h
  obtain ⟨_, g4⟩ := h'
  obtain ⟨_, ⟨a0, a1, a2, a3, a4⟩, a5⟩ := h4 z
  obtain ⟨⟨b0, b1, b2, b3, b4⟩, b5⟩ := g4 z
  refine ⟨fun i i0 i5 => ?_, fun j j0 j4 => ?_⟩
  · have : i = 0 ∨ i = 1 ∨ i = 2 ∨ i = 3 ∨ i = 4 := by omega
    rcases this with rfl | rfl | rfl | rfl | rfl
    · rw [a0, b0]
    · rw [a1, b1]
    · rw [a2, b2]
    · rw [a3, b3]
    · rw [a4, b4]
  · by_cases c : j < s.2.1
    · obtain ⟨v, v1, v2⟩ := (a5 j j0 j4).1 c
      obtain ⟨w, w1, w2⟩ := (b5 j j0 j4).1 c
      rw [v2, w2, v1.uniq w1]
    · rw [(a5 j j0 j4).2 (by omega), (b5 j j0 j4).2 (by omega)]
section
variable {K1 K2 : (Int → Int) → (Int → Int) → Prop} {q : Nat × Nat × (Nat → Nat)} {G : Nat → Int → Int} {N : Nat}
theorem INV.known1 {G' : Nat → Int → Int} (hI : INV K1 K2 q G) (e : ∀ a, (a < 25 ∨ 31 < a) → G' a = G a) (p7 : G' 25 7 = 1) (p8 : G' 25 8 = G 25 8) (k : K1 (G 102) (G' 31)) : INV K1 K2 q G' := by
  unfold INV INV0 BB BW at *
  rw [e 0 (by decide), e 1 (by decide), e 2 (by decide), e 3 (by decide), e 4 (by decide), e 5 (by decide), e 10 (by decide), e 12 (by decide), e 13 (by decide), e 17 (by decide), e 18 (by decide), e 20 (by decide), e 21 (by decide), e 22 (by decide), e 23 (by decide), e 32 (by decide), e 34 (by decide), e 37 (by decide), e 38 (by decide), e 39 (by decide), e 40 (by decide), e 41 (by decide), e 42 (by decide), e 43 (by decide), e 44 (by decide), e 46 (by decide), e 47 (by decide), e 48 (by decide), e 49 (by decide), e 50 (by decide), e 51 (by decide), e 52 (by decide), e 54 (by decide), e 55 (by decide), e 56 (by decide), e 57 (by decide), e 60 (by decide), e 62 (by decide), e 63 (by decide), e 64 (by decide), e 65 (by decide), e 66 (by decide), e 67 (by decide), e 68 (by decide), e 70 (by decide), e 71 (by decide), e 72 (by decide), e 73 (by decide), e 76 (by decide), e 82 (by decide), e 98 (by decide), e 100 (by decide), e 101 (by decide), e 102 (by decide), e 103 (by decide), e 104 (by decide), e 117 (by decide), e 118 (by decide), e 119 (by decide), p8]
  obtain ⟨⟨a1, a2, a3, a4, a5, a6, a7, a8, a9, a10, a11, a12, a13, a14⟩, b⟩ := hI
  exact ⟨⟨a1, a2, a3, a4, a5, a6, a7, a8, a9, a10, a11, ⟨.inr p7, fun _ => k⟩, a13, a14⟩, b⟩
theorem oOfMk {i : Int} (h0 : 0 ≤ i) (h1 : i < 10) : f_X9_ofMaker N 25 (jI i) (hp q G) = some (jI (G 31 i), hp q G) := by
  unfold f_X9_ofMaker
  simp (maxSteps := 2000000) (disch := first | assumption | omega) only [jI0, iAdd_j, iSub_j, iMul_j, iNeg_j, Option.bind_some, jlt_t, jlt_f, jlt, jle_t, jle_f, jle, jeq_t, jeq_f, jeq, ↓reduceIte, o25, n31, l31]
theorem op_find (hN : 10000 ≤ N) (hI : INV K1w K2 q G) {x : Int} (h1 : -2147483648 ≤ x) (h2 : x < 2147483648) : OP K1w K2 q G (f_X11_find N 0 (jI x)) (f_X12_find N 100 (jI x)) := by
  have hB := hI.1.1; have hV := hB.1; have hT := hI.1.2.1; have g := hV.1
  have b0 := hB.2.1.1
  have ws : WS (G 17) (G 18) (G 20) (G 102) := hI.1.2.2.1
  by_cases c : G 17 0 = 0
  · have c143 : G 102 143 = -1 := by
      rcases ws with ⟨_, a⟩ | ⟨a, _⟩
      · exact a
      · omega
    refine OP.rf hI (-5) (jI (-5)) ?_ ?_
    · unfold f_X11_find
      simp (maxSteps := 2000000) (disch := first | assumption | omega) only [jI0, iAdd_j, iSub_j, iMul_j, iNeg_j, Option.bind_some, jlt_t, jlt_f, jlt, jle_t, jle_f, jle, jeq_t, jeq_f, jeq, ↓reduceIte, o0, o2, o12, hBand, hStake, hKind, hCross, hWeaver, oBand, oKindOf, oKind, oCr, oRing, oWv, oPer, oRows, oAhead, oWhen, oAll, oStep, oRods, oRodAt, oStakeAt, oOff, bI_t, bI_f, X11_refuse, o17, c]
    · intro G1 hM e eo
      rw [← e] at c143
      have wt := w100t (q := q) hM.2
      unfold f_X12_find
      simp (maxSteps := 2000000) (disch := first | assumption | omega) only [jI0, iAdd_j, iSub_j, iMul_j, iNeg_j, Option.bind_some, jlt_t, jlt_f, jlt, jle_t, jle_f, jle, jeq_t, jeq_f, jeq, ↓reduceIte, wt, o100, l102, c143, X12_no]
  obtain ⟨⟨r1, r8, e143, S3⟩, sgn, wr, ov⟩ := wsRow (by omega) ws c
  by_cases cx : (0 ≤ x ∧ x ≤ 5) ∨ (10 ≤ x ∧ x ≤ 13)
  · have hk := hI.1.2.2.2.2.2.2.2.2.2.2.2.1
    obtain ⟨G1, ⟨x1, x2, x3, x4⟩, x5⟩ := oKnown (q := q) hN (by omega) ws c hk.1 hk.2
    have I1 : INV K1w K2 q G1 := hI.known1 x1 x2 x3 x4
    have e102 : G1 102 = G 102 := x1 102 (by decide)
    have wt := w100t (q := q) (G := G1) (by rw [x1 100 (by decide)]; exact hT)
    have l143 : ldI 0 (hp q G1) 102 (jI 143) = some (jI (G 17 0)) := by rw [l102 q G1 (by decide) (by decide), e102, e143]
    obtain ⟨G2, ⟨f1, f2⟩, f3⟩ := mFirst (N := N) (q := q) (G := G1) (S := G 102 0) (by rw [e102])
    have e2 : G2 102 = G 102 := by rw [f1.1 102 (by decide), e102]
    have sm : SgM G2 (G 102 0) (G 17 0) (sgnW (G 102)) := by
      unfold SgM
      rw [e2]
      refine ⟨rfl, e143, fun r s r0 r1' s0 s1 => ⟨(sgnW_at ⟨⟨r0, by omega⟩, s0, by omega⟩).symm, sgn r s r0 r1' s0 s1⟩⟩
    obtain ⟨G3, ⟨g1, g2, g3⟩, f, g4⟩ := mFdA (q := q) hN ⟨S3, by omega⟩ ⟨r1, r8⟩ sm f2
    have kw : MkR (G 102 0) (G 17 0) (sgnW (G 102)) (G1 31) (fdT (G 102 0) (G 17 0) (sgnW (G 102))) := by
      unfold K1w at x4
      rw [e143] at x4
      exact x4
    have sc : SC G1 G3 := by
      have t := (KpF.ofM f1).trans g1
      refine SC.of2 (fun a a0 a1 => t.1 a a0 (by rintro rfl; cases a1) (by rintro rfl; cases a1)) ⟨t.2 0 (by decide), t.2 6 (by decide), t.2 14 (by decide), t.2 15 (by decide)⟩
    have g4' := g4 (jI x)
    generalize hT : fdT (G 102 0) (G 17 0) (sgnW (G 102)) = s at *
    have n0 := g2.1
    have F : ∀ z, L_X12_find_65 N (f + 1) 100 (jI x) (jI s.1) (jI 0) (hp q G3) = some z → f_X12_find N 100 (jI x) (hp q G1) = some z := by
      intro z hz
      rw [hz] at g4'
      unfold f_X12_find
      by_cases c5 : 0 ≤ x ∧ x ≤ 5
      · simp (maxSteps := 2000000) (disch := first | assumption | omega) only [jI0, iAdd_j, iSub_j, iMul_j, iNeg_j, Option.bind_some, jlt_t, jlt_f, jlt, jle_t, jle_f, jle, jeq_t, jeq_f, jeq, ↓reduceIte, wt, o100, l143, jlL, X12_within, bI_t, f3, g4']
      · have c6 : 10 ≤ x ∧ x ≤ 13 := by omega
        simp (maxSteps := 2000000) (disch := first | assumption | omega) only [jI0, iAdd_j, iSub_j, iMul_j, iNeg_j, Option.bind_some, jlt_t, jlt_f, jlt, jle_t, jle_f, jle, jeq_t, jeq_f, jeq, ↓reduceIte, wt, o100, l143, jlL, X12_within, bI_t, bI_f, f3, g4']
    have D : ∀ (j : Int), ((0 ≤ x ∧ x ≤ 5 ∧ j = x) ∨ (10 ≤ x ∧ x ≤ 13 ∧ j = x - 4)) → f_X11_find N 0 (jI x) (hp q G) = some (jI (G1 31 j), hp q G1) := by
      intro j hj
      unfold f_X11_find
      rcases hj with ⟨j0, j1, rfl⟩ | ⟨j0, j1, rfl⟩
      · have om := oOfMk (N := N) (q := q) (G := G1) j0 (by omega)
        simp (maxSteps := 2000000) (disch := first | assumption | omega) only [jI0, iAdd_j, iSub_j, iMul_j, iNeg_j, Option.bind_some, jlt_t, jlt_f, jlt, jle_t, jle_f, jle, jeq_t, jeq_f, jeq, ↓reduceIte, o0, o2, o12, hBand, hStake, hKind, hCross, hWeaver, oBand, oKindOf, oKind, oCr, oRing, oWv, oPer, oRows, oAhead, oWhen, oAll, oStep, oRods, oRodAt, oStakeAt, oOff, bI_t, bI_f, X11_refuse, o17, J_X11_find_31, J_X11_find_65, b0, x5, o25, om]
      · have om := oOfMk (N := N) (q := q) (G := G1) (i := x - 4) (by omega) (by omega)
        have ee : (6 : Int) + x - 10 = x - 4 := by omega
        simp (maxSteps := 2000000) (disch := first | assumption | omega) only [jI0, iAdd_j, iSub_j, iMul_j, iNeg_j, Option.bind_some, jlt_t, jlt_f, jlt, jle_t, jle_f, jle, jeq_t, jeq_f, jeq, ↓reduceIte, o0, o2, o12, hBand, hStake, hKind, hCross, hWeaver, oBand, oKindOf, oKind, oCr, oRing, oWv, oPer, oRows, oAhead, oWhen, oAll, oStep, oRods, oRodAt, oStakeAt, oOff, bI_t, bI_f, X11_refuse, o17, J_X11_find_31, J_X11_find_65, b0, x5, o25, ee, om]
    have E : ∀ (j : Int), ((0 ≤ x ∧ x ≤ 5 ∧ j = x) ∨ (10 ≤ x ∧ x ≤ 13 ∧ j = x - 4)) → L_X12_find_65 N (f + 1) 100 (jI x) (jI s.1) (jI 0) (hp q G3) = some (jI (G1 31 j), hp q G3) := by
      intro j hj
      rw [L_X12_find_65]
      by_cases c5 : x = 5
      · have j5 : j = 5 := by omega
        rw [j5, kw.2.1]
        simp (maxSteps := 2000000) (disch := first | assumption | omega) only [jI0, iAdd_j, iSub_j, iMul_j, iNeg_j, Option.bind_some, jlt_t, jlt_f, jlt, jle_t, jle_f, jle, jeq_t, jeq_f, jeq, ↓reduceIte, c5]
      · by_cases cz : s.1 = 0
        · rw [kw.2.2.1 cz j (by omega) (by omega) (by omega)]
          simp (maxSteps := 2000000) (disch := first | assumption | omega) only [jI0, iAdd_j, iSub_j, iMul_j, iNeg_j, Option.bind_some, jlt_t, jlt_f, jlt, jle_t, jle_f, jle, jeq_t, jeq_f, jeq, ↓reduceIte, cz]
        · obtain ⟨v1, v2⟩ := fval kw g2 cz
          by_cases c6 : x < 5
          · have jx : j = x := by omega
            rw [jx, v1 x (by omega) (by omega)]
            simp (maxSteps := 2000000) (disch := first | assumption | omega) only [jI0, iAdd_j, iSub_j, iMul_j, iNeg_j, Option.bind_some, jlt_t, jlt_f, jlt, jle_t, jle_f, jle, jeq_t, jeq_f, jeq, ↓reduceIte, o100, l108]
          · have jx : j = 6 + (x - 10) := by omega
            have ee : (5 : Int) + (x - 10) = x - 5 := by omega
            rw [jx, v2 (x - 10) (by omega) (by omega), ee]
            simp (maxSteps := 2000000) (disch := first | assumption | omega) only [jI0, iAdd_j, iSub_j, iMul_j, iNeg_j, Option.bind_some, jlt_t, jlt_f, jlt, jle_t, jle_f, jle, jeq_t, jeq_f, jeq, ↓reduceIte, o100, l108]
    obtain ⟨j, hj⟩ : ∃ j : Int, ((0 ≤ x ∧ x ≤ 5 ∧ j = x) ∨ (10 ≤ x ∧ x ≤ 13 ∧ j = x - 4)) := by
      by_cases c5 : x ≤ 5
      · exact ⟨x, by omega⟩
      · exact ⟨x - 4, by omega⟩
    exact ⟨jI (G1 31 j), q, G1, G3, D j hj, F _ (E j hj), I1.sc sc⟩
  · refine OP.rf hI (-2) (jI (-2)) ?_ ?_
    · unfold f_X11_find
      by_cases c1 : x < 0
      · simp (maxSteps := 2000000) (disch := first | assumption | omega) only [jI0, iAdd_j, iSub_j, iMul_j, iNeg_j, Option.bind_some, jlt_t, jlt_f, jlt, jle_t, jle_f, jle, jeq_t, jeq_f, jeq, ↓reduceIte, o0, o2, o12, hBand, hStake, hKind, hCross, hWeaver, oBand, oKindOf, oKind, oCr, oRing, oWv, oPer, oRows, oAhead, oWhen, oAll, oStep, oRods, oRodAt, oStakeAt, oOff, bI_t, bI_f, X11_refuse, o17, J_X11_find_31]
      · by_cases c2 : x < 10
        · simp (maxSteps := 2000000) (disch := first | assumption | omega) only [jI0, iAdd_j, iSub_j, iMul_j, iNeg_j, Option.bind_some, jlt_t, jlt_f, jlt, jle_t, jle_f, jle, jeq_t, jeq_f, jeq, ↓reduceIte, o0, o2, o12, hBand, hStake, hKind, hCross, hWeaver, oBand, oKindOf, oKind, oCr, oRing, oWv, oPer, oRows, oAhead, oWhen, oAll, oStep, oRods, oRodAt, oStakeAt, oOff, bI_t, bI_f, X11_refuse, o17, J_X11_find_31]
        · simp (maxSteps := 2000000) (disch := first | assumption | omega) only [jI0, iAdd_j, iSub_j, iMul_j, iNeg_j, Option.bind_some, jlt_t, jlt_f, jlt, jle_t, jle_f, jle, jeq_t, jeq_f, jeq, ↓reduceIte, o0, o2, o12, hBand, hStake, hKind, hCross, hWeaver, oBand, oKindOf, oKind, oCr, oRing, oWv, oPer, oRows, oAhead, oWhen, oAll, oStep, oRods, oRodAt, oStakeAt, oOff, bI_t, bI_f, X11_refuse, o17, J_X11_find_31]
    · intro G1 hM e eo
      have wt := w100t (q := q) hM.2
      have l143 : ldI 0 (hp q G1) 102 (jI 143) = some (jI (G 17 0)) := by rw [l102 q G1 (by decide) (by decide), e, e143]
      have n5 : ¬ (0 ≤ x ∧ x ≤ 5) := by omega
      have n13 : ¬ (10 ≤ x ∧ x ≤ 13) := by omega
      unfold f_X12_find
      refine bs wt ?_
      refine bs (v := 102) (by simp (maxSteps := 2000000) (disch := first | assumption | omega) only [jI0, iAdd_j, iSub_j, iMul_j, iNeg_j, Option.bind_some, jlt_t, jlt_f, jlt, jle_t, jle_f, jle, jeq_t, jeq_f, jeq, ↓reduceIte, o100]) ?_
      refine bs l143 ?_
      rw [if_neg (by rw [jeq_f (by omega)]; exact fun x => x)]
      refine bs (v := (jI 0, hp q G1)) (by simp (maxSteps := 2000000) (disch := first | assumption | omega) only [jI0, iAdd_j, iSub_j, iMul_j, iNeg_j, Option.bind_some, jlt_t, jlt_f, jlt, jle_t, jle_f, jle, jeq_t, jeq_f, jeq, ↓reduceIte, jlL, X12_within, bI_f]) ?_
      refine bs0 ?_
      refine bs (v := (jI 0, hp q G1)) (by simp (maxSteps := 2000000) (disch := first | assumption | omega) only [jI0, iAdd_j, iSub_j, iMul_j, iNeg_j, Option.bind_some, jlt_t, jlt_f, jlt, jle_t, jle_f, jle, jeq_t, jeq_f, jeq, ↓reduceIte, jlL, X12_within, bI_f]) ?_
      refine bs0 ?_
      simp (maxSteps := 2000000) (disch := first | assumption | omega) only [jI0, iAdd_j, iSub_j, iMul_j, iNeg_j, Option.bind_some, jlt_t, jlt_f, jlt, jle_t, jle_f, jle, jeq_t, jeq_f, jeq, ↓reduceIte, o100, X12_no]
end
