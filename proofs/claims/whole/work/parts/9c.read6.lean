/-! reads, nearest: both sides alike -/
section
variable {K1 K2 : (Int → Int) → (Int → Int) → Prop} {q : Nat × Nat × (Nat → Nat)} {G : Nat → Int → Int} {N : Nat}
theorem INV.known2 {G' : Nat → Int → Int} (hI : INV K1 K2 q G) (e : ∀ a, (a < 25 ∨ 32 < a ∨ a = 31) → G' a = G a) (p8 : G' 25 8 = 1) (p7 : G' 25 7 = G 25 7) (k : K2 (G 102) (G' 32)) : INV K1 K2 q G' := by
  unfold INV INV0 BB BW at *
  rw [e 0 (by decide), e 1 (by decide), e 2 (by decide), e 3 (by decide), e 4 (by decide), e 5 (by decide), e 10 (by decide), e 12 (by decide), e 13 (by decide), e 17 (by decide), e 18 (by decide), e 20 (by decide), e 21 (by decide), e 22 (by decide), e 23 (by decide), e 31 (by decide), e 34 (by decide), e 37 (by decide), e 38 (by decide), e 39 (by decide), e 40 (by decide), e 41 (by decide), e 42 (by decide), e 43 (by decide), e 44 (by decide), e 46 (by decide), e 47 (by decide), e 48 (by decide), e 49 (by decide), e 50 (by decide), e 51 (by decide), e 52 (by decide), e 54 (by decide), e 55 (by decide), e 56 (by decide), e 57 (by decide), e 60 (by decide), e 62 (by decide), e 63 (by decide), e 64 (by decide), e 65 (by decide), e 66 (by decide), e 67 (by decide), e 68 (by decide), e 70 (by decide), e 71 (by decide), e 72 (by decide), e 73 (by decide), e 76 (by decide), e 82 (by decide), e 98 (by decide), e 100 (by decide), e 101 (by decide), e 102 (by decide), e 103 (by decide), e 104 (by decide), e 117 (by decide), e 118 (by decide), e 119 (by decide), p7]
  obtain ⟨⟨a1, a2, a3, a4, a5, a6, a7, a8, a9, a10, a11, a12, a13, a14⟩, b⟩ := hI
  exact ⟨⟨a1, a2, a3, a4, a5, a6, a7, a8, a9, a10, a11, a12, ⟨.inr p8, fun _ => k⟩, a14⟩, b⟩
theorem oOfRd {d i : Int} (hdd : d = 0 ∨ d = 1) (h0 : 0 ≤ i) (h1 : i < 8) : f_X9_ofReader N 25 (jI d) (jI i) (hp q G) = some (jI (G 32 (d * 8 + i)), hp q G) := by
  unfold f_X9_ofReader
  simp (maxSteps := 2000000) (disch := first | assumption | omega) only [jI0, iAdd_j, iSub_j, iMul_j, iNeg_j, Option.bind_some, jlt_t, jlt_f, jlt, jle_t, jle_f, jle, jeq_t, jeq_f, jeq, ↓reduceIte, o25, n32, l32]
theorem K2w.side {A M : Int → Int} {d : Int} (h : K2w A M) (hdd : d = 0 ∨ d = 1) : RdR (d * 8) M (rdT (A 0) (A 400) (rdO (sgnP A) (A 0) d) (rdU (sgnP A) (A 0) d)) := by
  rcases hdd with rfl | rfl
  · exact h.1
  · exact h.2
theorem rdPre (hN : 10000 ≤ N) (hI : INV K1 K2w q G) (c : ¬ G 21 0 = 0) : ∃ G1 G2 : Nat → Int → Int, (INV K1 K2w q G1 ∧ G1 102 = G 102 ∧ G1 100 0 = 0 ∧ K2w (G 102) (G1 32) ∧ (3 ≤ G 102 0 ∧ G 102 0 ≤ 32) ∧ (1 ≤ G 102 400 ∧ G 102 400 ≤ 8)) ∧ (KpM G1 G2 ∧ SgP G2 (G 102 0) (G 102 400) (sgnP (G 102)) ∧ NowM G2 (G 102 0) 1 (1, 1, 0, 0)) ∧ f_X9_readKnown N 25 21 (jI (G 102 0)) (hp q G) = some (hp q G1) ∧ f_X12_firstStroke N 100 (hp q G1) = some (hp q G2) := by
  have hB := hI.1.1; have hV := hB.1; have hT := hI.1.2.1; have g := hV.1
  have ps : PS (G 21) (G 22) (G 23) (G 102) := hI.1.2.2.2.1
  obtain ⟨⟨r1, r8, e400, S3⟩, sgn, ho, hu⟩ := psRow (by omega) ps c
  have hk := hI.1.2.2.2.2.2.2.2.2.2.2.2.2.1
  obtain ⟨G1, ⟨x1, x2, x3, x4⟩, x5⟩ := oReadK (q := q) hN (by omega) ps c hk.1 hk.2
  have e102 : G1 102 = G 102 := x1 102 (by decide)
  obtain ⟨G2, ⟨f1, f2⟩, f3⟩ := mFirst (N := N) (q := q) (G := G1) (S := G 102 0) (by rw [e102])
  refine ⟨G1, G2, ⟨hI.known2 x1 x2 x3 x4, e102, by rw [x1 100 (by decide)]; exact hT, x4, ⟨S3, by omega⟩, by omega⟩, ⟨f1, ?_, f2⟩, x5, f3⟩
  unfold SgP
  rw [f1.1 102 (by decide), e102]
  exact ⟨rfl, rfl, fun r s r0 r1' s0 s1 => sgn r s r0 (by omega) s0 s1⟩
theorem KpF.sc {G1 G2 : Nat → Int → Int} (t : KpF G1 G2) : SC G1 G2 := SC.of2 (fun a a0 a1 => t.1 a a0 (by rintro rfl; cases a1) (by rintro rfl; cases a1)) ⟨t.2 0 (by decide), t.2 6 (by decide), t.2 14 (by decide), t.2 15 (by decide)⟩
theorem op_reads (hN : 10000 ≤ N) (hI : INV K1 K2w q G) {x y : Int} (h1 : -2147483648 ≤ x) (h2 : x < 2147483648) (h3 : -2147483648 ≤ y) (h4 : y < 2147483648) : OP K1 K2w q G (f_X11_reads N 0 (jI x) (jI y)) (f_X12_reads N 100 (jI x) (jI y)) := by
  have hB := hI.1.1; have hV := hB.1; have hT := hI.1.2.1; have g := hV.1
  have b0 := hB.2.1.1
  have ps : PS (G 21) (G 22) (G 23) (G 102) := hI.1.2.2.2.1
  by_cases c : G 21 0 = 0
  · have c400 : G 102 400 = -1 := by
      rcases ps with ⟨_, a⟩ | ⟨a, _⟩
      · exact a
      · omega
    refine OP.rf hI (-5) (jI (-5)) ?_ ?_
    · unfold f_X11_reads
      simp (maxSteps := 2000000) (disch := first | assumption | omega) only [jI0, iAdd_j, iSub_j, iMul_j, iNeg_j, Option.bind_some, jlt_t, jlt_f, jlt, jle_t, jle_f, jle, jeq_t, jeq_f, jeq, ↓reduceIte, o0, o2, o12, hBand, hStake, hKind, hCross, hWeaver, oBand, oKindOf, oKind, oCr, oRing, oWv, oPer, oRows, oAhead, oWhen, oAll, oStep, oRods, oRodAt, oStakeAt, oOff, bI_t, bI_f, X11_refuse, o21, c]
    · intro G1 hM e eo
      rw [← e] at c400
      have wt := w100t (q := q) hM.2
      unfold f_X12_reads
      simp (maxSteps := 2000000) (disch := first | assumption | omega) only [jI0, iAdd_j, iSub_j, iMul_j, iNeg_j, Option.bind_some, jlt_t, jlt_f, jlt, jle_t, jle_f, jle, jeq_t, jeq_f, jeq, ↓reduceIte, wt, o100, l102, c400, X12_no]
  obtain ⟨⟨r1, r8, e400, S3⟩, _⟩ := psRow (by omega) ps c
  by_cases cx : (0 ≤ x ∧ x ≤ 1) ∧ 0 ≤ y ∧ y ≤ 1
  · obtain ⟨G1, G2, ⟨I1, e102, t0, kw, hS, hR⟩, ⟨f1, f2, f3⟩, x5, f4⟩ := rdPre hN hI c
    have hdd : x = 0 ∨ x = 1 := by omega
    have hz : y = 0 ∨ y = 1 := by omega
    obtain ⟨G3, g1, g2⟩ := mReads (q := q) hN hdd hz hS hR f2 f3
    have sd := kw.side hdd
    have wt := w100t (q := q) (G := G1) t0
    have l400 : ldI 0 (hp q G1) 102 (jI 400) = some (jI (G 102 400)) := by rw [l102 q G1 (by decide) (by decide), e102]
    generalize rdT (G 102 0) (G 102 400) (rdO (sgnP (G 102)) (G 102 0) x) (rdU (sgnP (G 102)) (G 102 0) x) = s at *
    have M : f_X12_reads N 100 (jI x) (jI y) (hp q G1) = some (jI (czR y s), hp q G3) := by
      unfold f_X12_reads
      simp (maxSteps := 2000000) (disch := first | assumption | omega) only [jI0, iAdd_j, iSub_j, iMul_j, iNeg_j, Option.bind_some, jlt_t, jlt_f, jlt, jle_t, jle_f, jle, jeq_t, jeq_f, jeq, ↓reduceIte, wt, o100, l400, jlL, X12_within, bI_t, f4, g2]
    refine ⟨jI (czR y s), q, G1, G3, ?_, M, I1.sc ((KpF.ofM f1).trans g1).sc⟩
    unfold f_X11_reads
    rcases hz with rfl | rfl
    · have om := oOfRd (N := N) (q := q) (G := G1) (i := 6) hdd (by omega) (by omega)
      rw [sd.1.2.1] at om
      have e0 : czR 0 s = s.2.2.1 := rfl
      rw [e0]
      simp (maxSteps := 2000000) (disch := first | assumption | omega) only [jI0, iAdd_j, iSub_j, iMul_j, iNeg_j, Option.bind_some, jlt_t, jlt_f, jlt, jle_t, jle_f, jle, jeq_t, jeq_f, jeq, ↓reduceIte, o0, o2, o12, hBand, hStake, hKind, hCross, hWeaver, oBand, oKindOf, oKind, oCr, oRing, oWv, oPer, oRows, oAhead, oWhen, oAll, oStep, oRods, oRodAt, oStakeAt, oOff, bI_t, bI_f, X11_refuse, o21, o25, b0, x5, om]
    · have om := oOfRd (N := N) (q := q) (G := G1) (i := 7) hdd (by omega) (by omega)
      rw [sd.1.2.2] at om
      have e0 : czR 1 s = s.2.2.2 := rfl
      rw [e0]
      simp (maxSteps := 2000000) (disch := first | assumption | omega) only [jI0, iAdd_j, iSub_j, iMul_j, iNeg_j, Option.bind_some, jlt_t, jlt_f, jlt, jle_t, jle_f, jle, jeq_t, jeq_f, jeq, ↓reduceIte, o0, o2, o12, hBand, hStake, hKind, hCross, hWeaver, oBand, oKindOf, oKind, oCr, oRing, oWv, oPer, oRows, oAhead, oWhen, oAll, oStep, oRods, oRodAt, oStakeAt, oOff, bI_t, bI_f, X11_refuse, o21, o25, b0, x5, om]
  · refine OP.rf hI (-2) (jI (-2)) ?_ ?_
    · unfold f_X11_reads
      by_cases c1 : x < 0
      · simp (maxSteps := 2000000) (disch := first | assumption | omega) only [jI0, iAdd_j, iSub_j, iMul_j, iNeg_j, Option.bind_some, jlt_t, jlt_f, jlt, jle_t, jle_f, jle, jeq_t, jeq_f, jeq, ↓reduceIte, o0, o2, o12, hBand, hStake, hKind, hCross, hWeaver, oBand, oKindOf, oKind, oCr, oRing, oWv, oPer, oRows, oAhead, oWhen, oAll, oStep, oRods, oRodAt, oStakeAt, oOff, bI_t, bI_f, X11_refuse, o21]
      · by_cases c2 : 1 < x
        · simp (maxSteps := 2000000) (disch := first | assumption | omega) only [jI0, iAdd_j, iSub_j, iMul_j, iNeg_j, Option.bind_some, jlt_t, jlt_f, jlt, jle_t, jle_f, jle, jeq_t, jeq_f, jeq, ↓reduceIte, o0, o2, o12, hBand, hStake, hKind, hCross, hWeaver, oBand, oKindOf, oKind, oCr, oRing, oWv, oPer, oRows, oAhead, oWhen, oAll, oStep, oRods, oRodAt, oStakeAt, oOff, bI_t, bI_f, X11_refuse, o21]
        · by_cases c3 : y < 0
          · simp (maxSteps := 2000000) (disch := first | assumption | omega) only [jI0, iAdd_j, iSub_j, iMul_j, iNeg_j, Option.bind_some, jlt_t, jlt_f, jlt, jle_t, jle_f, jle, jeq_t, jeq_f, jeq, ↓reduceIte, o0, o2, o12, hBand, hStake, hKind, hCross, hWeaver, oBand, oKindOf, oKind, oCr, oRing, oWv, oPer, oRows, oAhead, oWhen, oAll, oStep, oRods, oRodAt, oStakeAt, oOff, bI_t, bI_f, X11_refuse, o21]
          · simp (maxSteps := 2000000) (disch := first | assumption | omega) only [jI0, iAdd_j, iSub_j, iMul_j, iNeg_j, Option.bind_some, jlt_t, jlt_f, jlt, jle_t, jle_f, jle, jeq_t, jeq_f, jeq, ↓reduceIte, o0, o2, o12, hBand, hStake, hKind, hCross, hWeaver, oBand, oKindOf, oKind, oCr, oRing, oWv, oPer, oRows, oAhead, oWhen, oAll, oStep, oRods, oRodAt, oStakeAt, oOff, bI_t, bI_f, X11_refuse, o21]
    · intro G1 hM e eo
      have wt := w100t (q := q) hM.2
      have l400 : ldI 0 (hp q G1) 102 (jI 400) = some (jI (G 21 0)) := by rw [l102 q G1 (by decide) (by decide), e, e400]
      unfold f_X12_reads
      refine bs wt ?_
      refine bs (v := 102) (by simp (maxSteps := 2000000) (disch := first | assumption | omega) only [jI0, iAdd_j, iSub_j, iMul_j, iNeg_j, Option.bind_some, jlt_t, jlt_f, jlt, jle_t, jle_f, jle, jeq_t, jeq_f, jeq, ↓reduceIte, o100]) ?_
      refine bs l400 ?_
      rw [if_neg (by rw [jeq_f (by omega)]; exact fun x => x)]
      by_cases cx1 : 0 ≤ x ∧ x ≤ 1
      · refine bs (v := (jI 1, hp q G1)) (by simp (maxSteps := 2000000) (disch := first | assumption | omega) only [jI0, iAdd_j, iSub_j, iMul_j, iNeg_j, Option.bind_some, jlt_t, jlt_f, jlt, jle_t, jle_f, jle, jeq_t, jeq_f, jeq, ↓reduceIte, jlL, X12_within, bI_t]) ?_
        refine bs1 ?_
        have ny : ¬ (0 ≤ y ∧ y ≤ 1) := by omega
        refine bs (v := (jI 0, hp q G1)) (by simp (maxSteps := 2000000) (disch := first | assumption | omega) only [jI0, iAdd_j, iSub_j, iMul_j, iNeg_j, Option.bind_some, jlt_t, jlt_f, jlt, jle_t, jle_f, jle, jeq_t, jeq_f, jeq, ↓reduceIte, jlL, X12_within, bI_f]) ?_
        refine bs0 ?_
        simp (maxSteps := 2000000) (disch := first | assumption | omega) only [jI0, iAdd_j, iSub_j, iMul_j, iNeg_j, Option.bind_some, jlt_t, jlt_f, jlt, jle_t, jle_f, jle, jeq_t, jeq_f, jeq, ↓reduceIte, o100, X12_no]
      · refine bs (v := (jI 0, hp q G1)) (by simp (maxSteps := 2000000) (disch := first | assumption | omega) only [jI0, iAdd_j, iSub_j, iMul_j, iNeg_j, Option.bind_some, jlt_t, jlt_f, jlt, jle_t, jle_f, jle, jeq_t, jeq_f, jeq, ↓reduceIte, jlL, X12_within, bI_f]) ?_
        refine bs0 ?_
        simp (maxSteps := 2000000) (disch := first | assumption | omega) only [jI0, iAdd_j, iSub_j, iMul_j, iNeg_j, Option.bind_some, jlt_t, jlt_f, jlt, jle_t, jle_f, jle, jeq_t, jeq_f, jeq, ↓reduceIte, o100, X12_no]
theorem nzM {b z : Int} {M : Int → Int} {s : Rds} (h : RdR b M s) (ne : s.1 ≤ 256) (hz : 1 ≤ z ∧ z ≤ 5) : M (b + (z - 1)) = nzR z s := by
  obtain ⟨a0, a1, a2, a3, a4⟩ := h.2.2.2 (by omega)
  have zz : z = 1 ∨ z = 2 ∨ z = 3 ∨ z = 4 ∨ z = 5 := by omega
  rcases zz with rfl | rfl | rfl | rfl | rfl
  · rw [show b + ((1 : Int) - 1) = b by omega, a0]; rfl
  · rw [show (2 : Int) - 1 = 1 from rfl, a1]; rfl
  · rw [show (3 : Int) - 1 = 2 from rfl, a2]; rfl
  · rw [show (4 : Int) - 1 = 3 from rfl, a3]; rfl
  · rw [show (5 : Int) - 1 = 4 from rfl, a4]; rfl
theorem op_nearest (hN : 10000 ≤ N) (hI : INV K1 K2w q G) {x y : Int} (h1 : -2147483648 ≤ x) (h2 : x < 2147483648) (h3 : -2147483648 ≤ y) (h4 : y < 2147483648) : OP K1 K2w q G (f_X11_nearest N 0 (jI x) (jI y)) (f_X12_nearest N 100 (jI x) (jI y)) := by
  have hB := hI.1.1; have hV := hB.1; have hT := hI.1.2.1; have g := hV.1
  have b0 := hB.2.1.1
  have ps : PS (G 21) (G 22) (G 23) (G 102) := hI.1.2.2.2.1
  by_cases c : G 21 0 = 0
  · have c400 : G 102 400 = -1 := by
      rcases ps with ⟨_, a⟩ | ⟨a, _⟩
      · exact a
      · omega
    refine OP.rf hI (-5) (jI (-5)) ?_ ?_
    · unfold f_X11_nearest
      simp (maxSteps := 2000000) (disch := first | assumption | omega) only [jI0, iAdd_j, iSub_j, iMul_j, iNeg_j, Option.bind_some, jlt_t, jlt_f, jlt, jle_t, jle_f, jle, jeq_t, jeq_f, jeq, ↓reduceIte, o0, o2, o12, hBand, hStake, hKind, hCross, hWeaver, oBand, oKindOf, oKind, oCr, oRing, oWv, oPer, oRows, oAhead, oWhen, oAll, oStep, oRods, oRodAt, oStakeAt, oOff, bI_t, bI_f, X11_refuse, o21, c]
    · intro G1 hM e eo
      rw [← e] at c400
      have wt := w100t (q := q) hM.2
      unfold f_X12_nearest
      simp (maxSteps := 2000000) (disch := first | assumption | omega) only [jI0, iAdd_j, iSub_j, iMul_j, iNeg_j, Option.bind_some, jlt_t, jlt_f, jlt, jle_t, jle_f, jle, jeq_t, jeq_f, jeq, ↓reduceIte, wt, o100, l102, c400, X12_no]
  obtain ⟨⟨r1, r8, e400, S3⟩, _⟩ := psRow (by omega) ps c
  by_cases cx : (0 ≤ x ∧ x ≤ 1) ∧ 0 ≤ y ∧ y ≤ 5
  · obtain ⟨G1, G2, ⟨I1, e102, t0, kw, hS, hR⟩, ⟨f1, f2, f3⟩, x5, f4⟩ := rdPre hN hI c
    have hdd : x = 0 ∨ x = 1 := by omega
    obtain ⟨G3, g1, g2⟩ := mNear (q := q) (z := y) hN hdd (by omega) hS hR f2 f3
    have sd := kw.side hdd
    have le := rdT_e (ow := rdO (sgnP (G 102)) (G 102 0) x) (uw := rdU (sgnP (G 102)) (G 102 0) x) hS hR
    have wt := w100t (q := q) (G := G1) t0
    have l400 : ldI 0 (hp q G1) 102 (jI 400) = some (jI (G 102 400)) := by rw [l102 q G1 (by decide) (by decide), e102]
    generalize rdT (G 102 0) (G 102 400) (rdO (sgnP (G 102)) (G 102 0) x) (rdU (sgnP (G 102)) (G 102 0) x) = s at *
    have M : f_X12_nearest N 100 (jI x) (jI y) (hp q G1) = some (jI (nzR y s), hp q G3) := by
      unfold f_X12_nearest
      simp (maxSteps := 2000000) (disch := first | assumption | omega) only [jI0, iAdd_j, iSub_j, iMul_j, iNeg_j, Option.bind_some, jlt_t, jlt_f, jlt, jle_t, jle_f, jle, jeq_t, jeq_f, jeq, ↓reduceIte, wt, o100, l400, jlL, X12_within, bI_t, f4, g2]
    refine ⟨jI (nzR y s), q, G1, G3, ?_, M, I1.sc ((KpF.ofM f1).trans g1).sc⟩
    unfold f_X11_nearest
    by_cases z : y = 0
    · subst z
      have om := oOfRd (N := N) (q := q) (G := G1) (i := 5) hdd (by omega) (by omega)
      rw [sd.1.1] at om
      have e0 : nzR 0 s = s.1 := rfl
      rw [e0]
      simp (maxSteps := 2000000) (disch := first | assumption | omega) only [jI0, iAdd_j, iSub_j, iMul_j, iNeg_j, Option.bind_some, jlt_t, jlt_f, jlt, jle_t, jle_f, jle, jeq_t, jeq_f, jeq, ↓reduceIte, o0, o2, o12, hBand, hStake, hKind, hCross, hWeaver, oBand, oKindOf, oKind, oCr, oRing, oWv, oPer, oRows, oAhead, oWhen, oAll, oStep, oRods, oRodAt, oStakeAt, oOff, bI_t, bI_f, X11_refuse, o21, o25, b0, x5, om]
    · have om := oOfRd (N := N) (q := q) (G := G1) (i := y - 1) hdd (by omega) (by omega)
      rw [nzM sd le (by omega)] at om
      simp (maxSteps := 2000000) (disch := first | assumption | omega) only [jI0, iAdd_j, iSub_j, iMul_j, iNeg_j, Option.bind_some, jlt_t, jlt_f, jlt, jle_t, jle_f, jle, jeq_t, jeq_f, jeq, ↓reduceIte, o0, o2, o12, hBand, hStake, hKind, hCross, hWeaver, oBand, oKindOf, oKind, oCr, oRing, oWv, oPer, oRows, oAhead, oWhen, oAll, oStep, oRods, oRodAt, oStakeAt, oOff, bI_t, bI_f, X11_refuse, o21, o25, b0, x5, om]
  · refine OP.rf hI (-2) (jI (-2)) ?_ ?_
    · unfold f_X11_nearest
      by_cases c1 : x < 0
      · simp (maxSteps := 2000000) (disch := first | assumption | omega) only [jI0, iAdd_j, iSub_j, iMul_j, iNeg_j, Option.bind_some, jlt_t, jlt_f, jlt, jle_t, jle_f, jle, jeq_t, jeq_f, jeq, ↓reduceIte, o0, o2, o12, hBand, hStake, hKind, hCross, hWeaver, oBand, oKindOf, oKind, oCr, oRing, oWv, oPer, oRows, oAhead, oWhen, oAll, oStep, oRods, oRodAt, oStakeAt, oOff, bI_t, bI_f, X11_refuse, o21]
      · by_cases c2 : 1 < x
        · simp (maxSteps := 2000000) (disch := first | assumption | omega) only [jI0, iAdd_j, iSub_j, iMul_j, iNeg_j, Option.bind_some, jlt_t, jlt_f, jlt, jle_t, jle_f, jle, jeq_t, jeq_f, jeq, ↓reduceIte, o0, o2, o12, hBand, hStake, hKind, hCross, hWeaver, oBand, oKindOf, oKind, oCr, oRing, oWv, oPer, oRows, oAhead, oWhen, oAll, oStep, oRods, oRodAt, oStakeAt, oOff, bI_t, bI_f, X11_refuse, o21]
        · by_cases c3 : y < 0
          · simp (maxSteps := 2000000) (disch := first | assumption | omega) only [jI0, iAdd_j, iSub_j, iMul_j, iNeg_j, Option.bind_some, jlt_t, jlt_f, jlt, jle_t, jle_f, jle, jeq_t, jeq_f, jeq, ↓reduceIte, o0, o2, o12, hBand, hStake, hKind, hCross, hWeaver, oBand, oKindOf, oKind, oCr, oRing, oWv, oPer, oRows, oAhead, oWhen, oAll, oStep, oRods, oRodAt, oStakeAt, oOff, bI_t, bI_f, X11_refuse, o21]
          · simp (maxSteps := 2000000) (disch := first | assumption | omega) only [jI0, iAdd_j, iSub_j, iMul_j, iNeg_j, Option.bind_some, jlt_t, jlt_f, jlt, jle_t, jle_f, jle, jeq_t, jeq_f, jeq, ↓reduceIte, o0, o2, o12, hBand, hStake, hKind, hCross, hWeaver, oBand, oKindOf, oKind, oCr, oRing, oWv, oPer, oRows, oAhead, oWhen, oAll, oStep, oRods, oRodAt, oStakeAt, oOff, bI_t, bI_f, X11_refuse, o21]
    · intro G1 hM e eo
      have wt := w100t (q := q) hM.2
      have l400 : ldI 0 (hp q G1) 102 (jI 400) = some (jI (G 21 0)) := by rw [l102 q G1 (by decide) (by decide), e, e400]
      unfold f_X12_nearest
      refine bs wt ?_
      refine bs (v := 102) (by simp (maxSteps := 2000000) (disch := first | assumption | omega) only [jI0, iAdd_j, iSub_j, iMul_j, iNeg_j, Option.bind_some, jlt_t, jlt_f, jlt, jle_t, jle_f, jle, jeq_t, jeq_f, jeq, ↓reduceIte, o100]) ?_
      refine bs l400 ?_
      rw [if_neg (by rw [jeq_f (by omega)]; exact fun x => x)]
      by_cases cx1 : 0 ≤ x ∧ x ≤ 1
      · refine bs (v := (jI 1, hp q G1)) (by simp (maxSteps := 2000000) (disch := first | assumption | omega) only [jI0, iAdd_j, iSub_j, iMul_j, iNeg_j, Option.bind_some, jlt_t, jlt_f, jlt, jle_t, jle_f, jle, jeq_t, jeq_f, jeq, ↓reduceIte, jlL, X12_within, bI_t]) ?_
        refine bs1 ?_
        have ny : ¬ (0 ≤ y ∧ y ≤ 5) := by omega
        refine bs (v := (jI 0, hp q G1)) (by simp (maxSteps := 2000000) (disch := first | assumption | omega) only [jI0, iAdd_j, iSub_j, iMul_j, iNeg_j, Option.bind_some, jlt_t, jlt_f, jlt, jle_t, jle_f, jle, jeq_t, jeq_f, jeq, ↓reduceIte, jlL, X12_within, bI_f]) ?_
        refine bs0 ?_
        simp (maxSteps := 2000000) (disch := first | assumption | omega) only [jI0, iAdd_j, iSub_j, iMul_j, iNeg_j, Option.bind_some, jlt_t, jlt_f, jlt, jle_t, jle_f, jle, jeq_t, jeq_f, jeq, ↓reduceIte, o100, X12_no]
      · refine bs (v := (jI 0, hp q G1)) (by simp (maxSteps := 2000000) (disch := first | assumption | omega) only [jI0, iAdd_j, iSub_j, iMul_j, iNeg_j, Option.bind_some, jlt_t, jlt_f, jlt, jle_t, jle_f, jle, jeq_t, jeq_f, jeq, ↓reduceIte, jlL, X12_within, bI_f]) ?_
        refine bs0 ?_
        simp (maxSteps := 2000000) (disch := first | assumption | omega) only [jI0, iAdd_j, iSub_j, iMul_j, iNeg_j, Option.bind_some, jlt_t, jlt_f, jlt, jle_t, jle_f, jle, jeq_t, jeq_f, jeq, ↓reduceIte, o100, X12_no]
end
