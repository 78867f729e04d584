/-! basket: the end of a band's line -/
section
variable {q : Nat × Nat × (Nat → Nat)} {G K : Nat → Int → Int} {N : Nat} {T : Int → Int} {n : Int}
theorem StW.upK2 {G' K' : Nat → Int → Int} (h : StW T n G K G' K') (i u j v : Int) : StW T n G K G' (up (up K' 105 i u) 105 j v) := (h.upK i u).upK j v
theorem sLean (hN : 10000 ≤ N) (h : RD T n G K) {b u l : Int} (hb : 0 ≤ b ∧ b < 8) : ∃ (G' K' : Nat → Int → Int) (v : Int), StW T n G K G' K' ∧ ((∀ a, a ≠ 10 → G' a = G a) ∧ (∀ j : Int, j ≠ 67 + b → j ≠ 75 + b → K' 105 j = K 105 j) ∧ K' 105 (67 + b) = l) ∧ (G' 10 0 = 0 → v = K' 105 (75 + b) ∧ -9 ≤ v ∧ v ≤ 9) ∧ f_X8_takeLean N 10 (hp q G) = some (jI v, hp q G') ∧ J_X12_readBand_221 N 100 (jI b) (jI u) 105 (jI (67 + b)) (jI l) (hp q K) = J_X12_readBand_286 N 100 (jI b) (jI u) (hp q K') := by
  have S0 := h.refl.w.upK2 (67 + b) l (75 + b) 0
  have z1 : up (up K 105 (67 + b) l) 105 (75 + b) 0 105 = u1 (u1 (K 105) (67 + b) l) (75 + b) 0 := by rw [up_eq, up_eq]
  generalize hK1 : up (up K 105 (67 + b) l) 105 (75 + b) 0 = K1 at *
  obtain ⟨G2, K2, o, s2, y2, ci, me⟩ := sEat (N := N) (q := q) hN S0.rd (i := 12) (k := 12) (by omega) rfl
  rcases y2 with ⟨y1, y2, y3⟩ | ⟨y1, y2, y3, y4, y5⟩
  · rw [y1] at ci me
    rw [y3] at me
    obtain ⟨G3, K3, o3, s3, y3', ci3, me3⟩ := sEat (N := N) (q := q) hN S0.rd (i := 13) (k := 13) (by omega) rfl
    rcases y3' with ⟨x1, x2, x3⟩ | ⟨x1, x2, x3, x4, x5⟩
    · rw [x1] at ci3 me3
      rw [x3] at me3
      refine ⟨G, K1, 0, S0, ⟨fun _ _ => rfl, fun j j1 j2 => by rw [z1, u1_ne j2, u1_ne j1], by rw [z1, u1_ne (by omega), u1_eq]⟩, fun _ => ⟨by rw [z1, u1_eq], by omega, by omega⟩, ?_, ?_⟩
      · unfold f_X8_takeLean
        simp (maxSteps := 2000000) (disch := first | assumption | omega) only [jI0, iAdd_j, iSub_j, iMul_j, iNeg_j, Option.bind_some, jlt_t, jlt_f, jlt, jle_t, jle_f, jle, jeq_t, jeq_f, jeq, ↓reduceIte, o10, ci, ci3]
      · unfold J_X12_readBand_221
        simp (maxSteps := 2000000) (disch := first | assumption | omega) only [jI0, iAdd_j, iSub_j, iMul_j, iNeg_j, Option.bind_some, jlt_t, jlt_f, jlt, jle_t, jle_f, jle, jeq_t, jeq_f, jeq, ↓reduceIte, o100, s105, hK1, me, me3]
    · rw [x1] at ci3 me3
      obtain ⟨G4, K4, v, w, s4, ⟨a1, a2, a3⟩, e1, e2⟩ := sTake (N := N) (q := q) hN s3.rd (lo := 0) (hi := 9) (by omega) (by omega)
      have k5 : up K4 105 (75 + b) (-w) 105 = u1 (K1 105) (75 + b) (-w) := by rw [up_eq, s4.2.1 105 (by decide), s3.2.1 105 (by decide)]
      refine ⟨G4, up K4 105 (75 + b) (-w), -v, ((S0.trans s3.w).trans s4.w).upK _ _, ⟨fun a ha => by rw [s4.1 a ha, s3.1 a ha], fun j j1 j2 => by rw [k5, z1, u1_ne j2, u1_ne j2, u1_ne j1], by rw [k5, z1, u1_ne (by omega), u1_ne (by omega), u1_eq]⟩, fun hw => ?_, ?_, ?_⟩
      · have := a3 (a2 hw)
        rw [k5, u1_eq]
        omega
      · unfold f_X8_takeLean
        simp (maxSteps := 2000000) (disch := first | assumption | omega) only [jI0, iAdd_j, iSub_j, iMul_j, iNeg_j, Option.bind_some, jlt_t, jlt_f, jlt, jle_t, jle_f, jle, jeq_t, jeq_f, jeq, ↓reduceIte, o10, ci, ci3, x5, e1]
      · unfold J_X12_readBand_221
        simp (maxSteps := 2000000) (disch := first | assumption | omega) only [jI0, iAdd_j, iSub_j, iMul_j, iNeg_j, Option.bind_some, jlt_t, jlt_f, jlt, jle_t, jle_f, jle, jeq_t, jeq_f, jeq, ↓reduceIte, o100, s105, hK1, me, me3, e2]
  · rw [y1] at ci me
    obtain ⟨G4, K4, v, w, s4, ⟨a1, a2, a3⟩, e1, e2⟩ := sTake (N := N) (q := q) hN s2.rd (lo := 0) (hi := 9) (by omega) (by omega)
    have k5 : up K4 105 (75 + b) w 105 = u1 (K1 105) (75 + b) w := by rw [up_eq, s4.2.1 105 (by decide), s2.2.1 105 (by decide)]
    refine ⟨G4, up K4 105 (75 + b) w, v, ((S0.trans s2.w).trans s4.w).upK _ _, ⟨fun a ha => by rw [s4.1 a ha, s2.1 a ha], fun j j1 j2 => by rw [k5, z1, u1_ne j2, u1_ne j2, u1_ne j1], by rw [k5, z1, u1_ne (by omega), u1_ne (by omega), u1_eq]⟩, fun hw => ?_, ?_, ?_⟩
    · have := a3 (a2 hw)
      rw [k5, u1_eq]
      omega
    · unfold f_X8_takeLean
      simp (maxSteps := 2000000) (disch := first | assumption | omega) only [jI0, iAdd_j, iSub_j, iMul_j, iNeg_j, Option.bind_some, jlt_t, jlt_f, jlt, jle_t, jle_f, jle, jeq_t, jeq_f, jeq, ↓reduceIte, o10, ci, y5, e1]
    · unfold J_X12_readBand_221
      simp (maxSteps := 2000000) (disch := first | assumption | omega) only [jI0, iAdd_j, iSub_j, iMul_j, iNeg_j, Option.bind_some, jlt_t, jlt_f, jlt, jle_t, jle_f, jle, jeq_t, jeq_f, jeq, ↓reduceIte, o100, s105, hK1, me, e2]
theorem sTail (hN : 10000 ≤ N) (h : RD T n G K) {b u : Int} (hb : 0 ≤ b ∧ b < 8) (gb : G 6 2 = b) (kb : K 105 26 = b) : ∃ G' K' : Nat → Int → Int, StW T n G K G' K' ∧ ((∀ a, a ≠ 10 → a ≠ 8 → a ≠ 6 → G' a = G a) ∧ G' 6 = u1 (G 6) 2 (b + 1) ∧ ∀ i : Int, i ≠ b * 11 + 5 → i ≠ b * 11 + 6 → G' 8 i = G 8 i) ∧ Imp (G' 10 0 = 0) ((∀ j : Int, j ≠ 67 + b → j ≠ 75 + b → j ≠ 27 + b → j ≠ 26 → K' 105 j = K 105 j) ∧ K' 105 (27 + b) = u ∧ K' 105 26 = b + 1 ∧ (G' 8 (b * 11 + 5) = K' 105 (67 + b) ∧ 0 ≤ K' 105 (67 + b) ∧ K' 105 (67 + b) ≤ 1) ∧ (G' 8 (b * 11 + 6) = K' 105 (75 + b) ∧ -9 ≤ K' 105 (75 + b) ∧ K' 105 (75 + b) ≤ 9)) ∧ J_X8_readBand_194 N 10 6 (jI (b * 11)) (hp q G) = some (hp q G') ∧ J_X12_readBand_199 N 100 (jI b) (jI u) (hp q K) = some (hp q K') := by
  obtain ⟨G1, K1, l, s1, y1, ci1, me1⟩ := sEat (N := N) (q := q) hN h (i := 11) (k := 11) (by omega) rfl
  have hl : l = 0 ∨ l = 1 := by
    rcases y1 with y | y
    · exact .inl y.1
    · exact .inr y.1
  have tl : f_X8_takeLeft N 10 (hp q G) = some (jI l, hp q G1) := by
    rcases y1 with ⟨z1, z2, z3⟩ | ⟨z1, z2, z3, z4, z5⟩
    · rw [z1] at ci1 ⊢
      rw [z2]
      unfold f_X8_takeLeft
      simp (maxSteps := 2000000) (disch := first | assumption | omega) only [jI0, iAdd_j, iSub_j, iMul_j, iNeg_j, Option.bind_some, jlt_t, jlt_f, jlt, jle_t, jle_f, jle, jeq_t, jeq_f, jeq, ↓reduceIte, o10, ci1]
    · rw [z1] at ci1 ⊢
      unfold f_X8_takeLeft
      simp (maxSteps := 2000000) (disch := first | assumption | omega) only [jI0, iAdd_j, iSub_j, iMul_j, iNeg_j, Option.bind_some, jlt_t, jlt_f, jlt, jle_t, jle_f, jle, jeq_t, jeq_f, jeq, ↓reduceIte, o10, ci1, z5]
  have ml : J_X12_readBand_199 N 100 (jI b) (jI u) (hp q K) = J_X12_readBand_221 N 100 (jI b) (jI u) 105 (jI (67 + b)) (jI l) (hp q K1) := by
    unfold J_X12_readBand_199
    rcases hl with e | e <;> rw [e] at me1 ⊢ <;> simp (maxSteps := 2000000) (disch := first | assumption | omega) only [jI0, iAdd_j, iSub_j, iMul_j, iNeg_j, Option.bind_some, jlt_t, jlt_f, jlt, jle_t, jle_f, jle, jeq_t, jeq_f, jeq, ↓reduceIte, o100, me1]
  have S2 := s1.w.upG (c := 8) (by omega) (b * 11 + 5) l
  obtain ⟨G3, K3, v, s3, ⟨x1, x2, x3⟩, x4, x5, x6⟩ := sLean (N := N) (q := q) hN S2.rd (b := b) (u := u) (l := l) hb
  have S3 := S2.trans s3
  have g62 : up G3 8 (b * 11 + 6) v 6 2 = b := by rw [up_ne (by decide), x1 6 (by decide), up_ne (by decide), s1.1 6 (by decide)]; exact gb
  have k326 : K3 105 26 = b := by rw [x2 26 (by omega) (by omega), s1.2.1 105 (by decide)]; exact kb
  have kk := s3.rd.kk
  have S4 := (S3.upG (c := 8) (by omega) (b * 11 + 6) v).upG (c := 6) (by omega) 2 (b + 1)
  have e10 : up (up G3 8 (b * 11 + 6) v) 6 2 (b + 1) 10 = G3 10 := by rw [up_ne (by decide), up_ne (by decide)]
  have e8 : up (up G3 8 (b * 11 + 6) v) 6 2 (b + 1) 8 = u1 (u1 (G 8) (b * 11 + 5) l) (b * 11 + 6) v := by rw [up_ne (by decide), up_eq, x1 8 (by decide), up_eq, s1.1 8 (by decide)]
  have e6 : up (up G3 8 (b * 11 + 6) v) 6 2 (b + 1) 6 = u1 (G 6) 2 (b + 1) := by rw [up_eq, up_ne (by decide), x1 6 (by decide), up_ne (by decide), s1.1 6 (by decide)]
  have eo : ∀ a, a ≠ 10 → a ≠ 8 → a ≠ 6 → up (up G3 8 (b * 11 + 6) v) 6 2 (b + 1) a = G a := fun a h1 h2 h3 => by rw [up_ne h3, up_ne h2, x1 a h1, up_ne h2, s1.1 a h1]
  have rc : J_X8_readBand_194 N 10 6 (jI (b * 11)) (hp q G) = some (hp q (up (up G3 8 (b * 11 + 6) v) 6 2 (b + 1))) := by
    unfold J_X8_readBand_194
    simp (maxSteps := 2000000) (disch := first | assumption | omega) only [jI0, iAdd_j, iSub_j, iMul_j, iNeg_j, Option.bind_some, jlt_t, jlt_f, jlt, jle_t, jle_f, jle, jeq_t, jeq_f, jeq, ↓reduceIte, o6, o10, tl, s8, x5, g62, w6]
  generalize up (up G3 8 (b * 11 + 6) v) 6 2 (b + 1) = G4 at *
  by_cases w : K3 100 12 = 0
  · have k4 : up (up K3 105 (27 + b) u) 105 26 (b + 1) 105 = u1 (u1 (K3 105) (27 + b) u) 26 (b + 1) := by rw [up_eq, up_eq]
    have u26 : up K3 105 (27 + b) u 105 26 = b := by rw [up_eq, u1_ne (by omega)]; exact k326
    refine ⟨G4, up (up K3 105 (27 + b) u) 105 26 (b + 1), S4.upK2 _ _ _ _, ⟨eo, e6, fun i i1 i2 => by rw [e8, u1_ne i2, u1_ne i1]⟩, fun hw => ?_, rc, ?_⟩
    · rw [e10] at hw
      obtain ⟨y1, y2, y3⟩ := x4 hw
      rw [k4, e8]
      refine ⟨fun j j1 j2 j3 j4 => by rw [u1_ne j4, u1_ne j3, x2 j j1 j2, s1.2.1 105 (by decide)], by rw [u1_ne (by omega), u1_eq], u1_eq, ?_, ?_⟩
      · rw [u1_ne (by omega), u1_eq, u1_ne (by omega), u1_ne (by omega), x3]
        omega
      · rw [u1_eq, u1_ne (by omega), u1_ne (by omega), ← y1]
        omega
    · rw [ml, x6]
      unfold J_X12_readBand_286
      simp (maxSteps := 2000000) (disch := first | assumption | omega) only [jI0, iAdd_j, iSub_j, iMul_j, iNeg_j, Option.bind_some, jlt_t, jlt_f, jlt, jle_t, jle_f, jle, jeq_t, jeq_f, jeq, ↓reduceIte, o100, w, s105, l105, u26]
  · refine ⟨G4, K3, S4, ⟨eo, e6, fun i i1 i2 => by rw [e8, u1_ne i2, u1_ne i1]⟩, fun hw => ?_, rc, ?_⟩
    · rw [e10] at hw
      exact absurd (kk.1 hw) w
    · rw [ml, x6, J286_dead w kk.2]
end
