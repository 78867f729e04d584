/-! THE LAW: one turn, for each call (printed by wip/whole/gen_law.py) -/
section
variable {q : Nat × Nat × (Nat → Nat)} {G : Nat → Int → Int} {N : Nat} {X : Nat × (Nat → Int32)} {x : Int} {k : Nat → Nat → Int32 → mH → Option (Int32 × mH)}
/-- the five ints behind a call can be read -/
def five (X : Nat × (Nat → Int32)) (x : Int) : Prop := ∀ j : Int, 0 ≤ j → j ≤ 5 → ∃ c : Int, (-2147483648 ≤ c ∧ c < 2147483648) ∧ xld X (jI (x + j)) = some (jI c)
theorem eqr (r : Int32) : (r = r) = True := eq_true rfl
theorem eqr64 (r : Int64) : (r = r) = True := eq_true rfl
theorem law_272 (hN : 100000 ≤ N) (hI : INV K1w K2w q G) (hX : five X x) : ∃ (q' : Nat × Nat × (Nat → Nat)) (G' : Nat → Int → Int), INV K1w K2w q' G' ∧ J_law_272 X N k 0 100 (jI x) (hp q G) = k 0 100 (jI (x + 6)) (hp q' G') := by
  obtain ⟨c1, r1, e1⟩ := hX 1 (by omega) (by omega)
  obtain ⟨c2, r2, e2⟩ := hX 2 (by omega) (by omega)
  obtain ⟨c3, r3, e3⟩ := hX 3 (by omega) (by omega)
  obtain ⟨c4, r4, e4⟩ := hX 4 (by omega) (by omega)
  obtain ⟨c5, r5, e5⟩ := hX 5 (by omega) (by omega)
  obtain ⟨r, q', G1, G2, y1, y2, hI'⟩ := op_feed (q := q) (N := N) (by omega) hI (jI c1) (jI c2) (jI c3) (jI c4) (jI c5)
  refine ⟨q', G2, hI', ?_⟩
  unfold J_law_272 J_law_2261
  simp (maxSteps := 2000000) (disch := first | assumption | omega) only [jI0, iAdd_j, iSub_j, iMul_j, iNeg_j, Option.bind_some, jlt_t, jlt_f, jlt, jle_t, jle_f, jle, jeq_t, jeq_f, jeq, ↓reduceIte, e1, e2, e3, e4, e5, o0, y1, o100, y2, eqr]
theorem law_335 (hN : 100000 ≤ N) (hI : INV K1w K2w q G) (hX : five X x) : ∃ (q' : Nat × Nat × (Nat → Nat)) (G' : Nat → Int → Int), INV K1w K2w q' G' ∧ J_law_335 X N k 0 100 (jI x) (hp q G) = k 0 100 (jI (x + 6)) (hp q' G') := by
  obtain ⟨c1, r1, e1⟩ := hX 1 (by omega) (by omega)
  obtain ⟨r, q', G1, G2, y1, y2, hI'⟩ := op_basket (q := q) (N := N) (x := c1) (by omega) hI r1.1 r1.2
  refine ⟨q', G2, hI', ?_⟩
  unfold J_law_335 J_law_2261
  simp (maxSteps := 2000000) (disch := first | assumption | omega) only [jI0, iAdd_j, iSub_j, iMul_j, iNeg_j, Option.bind_some, jlt_t, jlt_f, jlt, jle_t, jle_f, jle, jeq_t, jeq_f, jeq, ↓reduceIte, e1, o0, y1, o100, y2, eqr]
theorem law_358 (hN : 100000 ≤ N) (hI : INV K1w K2w q G) (hX : five X x) : ∃ (q' : Nat × Nat × (Nat → Nat)) (G' : Nat → Int → Int), INV K1w K2w q' G' ∧ J_law_358 X N k 0 100 (jI x) (hp q G) = k 0 100 (jI (x + 6)) (hp q' G') := by
  obtain ⟨c1, r1, e1⟩ := hX 1 (by omega) (by omega)
  obtain ⟨r, q', G1, G2, y1, y2, hI'⟩ := op_fault (q := q) (N := N) (w := c1) hI r1.1 r1.2
  refine ⟨q', G2, hI', ?_⟩
  unfold J_law_358 J_law_2261
  simp (maxSteps := 2000000) (disch := first | assumption | omega) only [jI0, iAdd_j, iSub_j, iMul_j, iNeg_j, Option.bind_some, jlt_t, jlt_f, jlt, jle_t, jle_f, jle, jeq_t, jeq_f, jeq, ↓reduceIte, e1, o0, y1, o100, y2, eqr]
theorem law_381 (hN : 100000 ≤ N) (hI : INV K1w K2w q G) (hX : five X x) : ∃ (q' : Nat × Nat × (Nat → Nat)) (G' : Nat → Int → Int), INV K1w K2w q' G' ∧ J_law_381 X N k 0 100 (jI x) (hp q G) = k 0 100 (jI (x + 6)) (hp q' G') := by
  obtain ⟨c1, r1, e1⟩ := hX 1 (by omega) (by omega)
  obtain ⟨c2, r2, e2⟩ := hX 2 (by omega) (by omega)
  obtain ⟨r, q', G1, G2, y1, y2, hI'⟩ := op_rod (q := q) (N := N) (k := c1) (w := c2) hI r1.1 r1.2 r2.1 r2.2
  refine ⟨q', G2, hI', ?_⟩
  unfold J_law_381 J_law_2261
  simp (maxSteps := 2000000) (disch := first | assumption | omega) only [jI0, iAdd_j, iSub_j, iMul_j, iNeg_j, Option.bind_some, jlt_t, jlt_f, jlt, jle_t, jle_f, jle, jeq_t, jeq_f, jeq, ↓reduceIte, e1, e2, o0, y1, o100, y2, eqr]
theorem law_414 (hN : 100000 ≤ N) (hI : INV K1w K2w q G) (hX : five X x) : ∃ (q' : Nat × Nat × (Nat → Nat)) (G' : Nat → Int → Int), INV K1w K2w q' G' ∧ J_law_414 X N k 0 100 (jI x) (hp q G) = k 0 100 (jI (x + 6)) (hp q' G') := by
  obtain ⟨c1, r1, e1⟩ := hX 1 (by omega) (by omega)
  obtain ⟨c2, r2, e2⟩ := hX 2 (by omega) (by omega)
  obtain ⟨r, q', G1, G2, y1, y2, hI'⟩ := op_band (q := q) (N := N) (b := c1) (w := c2) (by omega) hI r1.1 r1.2 r2.1 r2.2
  refine ⟨q', G2, hI', ?_⟩
  unfold J_law_414 J_law_2261
  simp (maxSteps := 2000000) (disch := first | assumption | omega) only [jI0, iAdd_j, iSub_j, iMul_j, iNeg_j, Option.bind_some, jlt_t, jlt_f, jlt, jle_t, jle_f, jle, jeq_t, jeq_f, jeq, ↓reduceIte, e1, e2, o0, y1, o100, y2, eqr]
theorem law_447 (hN : 100000 ≤ N) (hI : INV K1w K2w q G) (hX : five X x) : ∃ (q' : Nat × Nat × (Nat → Nat)) (G' : Nat → Int → Int), INV K1w K2w q' G' ∧ J_law_447 X N k 0 100 (jI x) (hp q G) = k 0 100 (jI (x + 6)) (hp q' G') := by
  obtain ⟨c1, r1, e1⟩ := hX 1 (by omega) (by omega)
  obtain ⟨r, q', G1, G2, y1, y2, hI'⟩ := op_lean (q := q) (N := N) (b := c1) hI r1.1 r1.2
  refine ⟨q', G2, hI', ?_⟩
  unfold J_law_447 J_law_2261
  simp (maxSteps := 2000000) (disch := first | assumption | omega) only [jI0, iAdd_j, iSub_j, iMul_j, iNeg_j, Option.bind_some, jlt_t, jlt_f, jlt, jle_t, jle_f, jle, jeq_t, jeq_f, jeq, ↓reduceIte, e1, o0, y1, o100, y2, eqr]
theorem law_470 (hN : 100000 ≤ N) (hI : INV K1w K2w q G) (hX : five X x) : ∃ (q' : Nat × Nat × (Nat → Nat)) (G' : Nat → Int → Int), INV K1w K2w q' G' ∧ J_law_470 X N k 0 100 (jI x) (hp q G) = k 0 100 (jI (x + 6)) (hp q' G') := by
  obtain ⟨c1, r1, e1⟩ := hX 1 (by omega) (by omega)
  obtain ⟨c2, r2, e2⟩ := hX 2 (by omega) (by omega)
  obtain ⟨c3, r3, e3⟩ := hX 3 (by omega) (by omega)
  obtain ⟨c4, r4, e4⟩ := hX 4 (by omega) (by omega)
  obtain ⟨r, q', G1, G2, y1, y2, hI'⟩ := op_crossing (q := q) (N := N) (b := c1) (j := c2) (i := c3) (w := c4) (by omega) hI r1.1 r1.2 r2.1 r2.2 r3.1 r3.2 r4.1 r4.2
  refine ⟨q', G2, hI', ?_⟩
  unfold J_law_470 J_law_2261
  simp (maxSteps := 2000000) (disch := first | assumption | omega) only [jI0, iAdd_j, iSub_j, iMul_j, iNeg_j, Option.bind_some, jlt_t, jlt_f, jlt, jle_t, jle_f, jle, jeq_t, jeq_f, jeq, ↓reduceIte, e1, e2, e3, e4, o0, y1, o100, y2, eqr]
theorem law_523 (hN : 100000 ≤ N) (hI : INV K1w K2w q G) (hX : five X x) : ∃ (q' : Nat × Nat × (Nat → Nat)) (G' : Nat → Int → Int), INV K1w K2w q' G' ∧ J_law_523 X N k 0 100 (jI x) (hp q G) = k 0 100 (jI (x + 6)) (hp q' G') := by
  obtain ⟨c1, r1, e1⟩ := hX 1 (by omega) (by omega)
  obtain ⟨c2, r2, e2⟩ := hX 2 (by omega) (by omega)
  obtain ⟨c3, r3, e3⟩ := hX 3 (by omega) (by omega)
  obtain ⟨c4, r4, e4⟩ := hX 4 (by omega) (by omega)
  by_cases z : c4 = 0
  · obtain ⟨r, q', G1, G2, y1, y2, hI'⟩ := op_seen (q := q) (N := N) (b := c1) (row := c2) (s := c3) (by omega) hI r1.1 r1.2 r2.1 r2.2 r3.1 r3.2 False
    rw [bI_f (fun h => h)] at y1 y2
    refine ⟨q', G2, hI', ?_⟩
    unfold J_law_523 J_law_552 J_law_2261
    simp (maxSteps := 2000000) (disch := first | assumption | omega) only [jI0, iAdd_j, iSub_j, iMul_j, iNeg_j, Option.bind_some, jlt_t, jlt_f, jlt, jle_t, jle_f, jle, jeq_t, jeq_f, jeq, ↓reduceIte, e1, e2, e3, e4, z, o0, y1, o100, y2, eqr]
  · obtain ⟨r, q', G1, G2, y1, y2, hI'⟩ := op_seen (q := q) (N := N) (b := c1) (row := c2) (s := c3) (by omega) hI r1.1 r1.2 r2.1 r2.2 r3.1 r3.2 True
    rw [bI_t trivial] at y1 y2
    refine ⟨q', G2, hI', ?_⟩
    unfold J_law_523 J_law_552 J_law_2261
    simp (maxSteps := 2000000) (disch := first | assumption | omega) only [jI0, iAdd_j, iSub_j, iMul_j, iNeg_j, Option.bind_some, jlt_t, jlt_f, jlt, jle_t, jle_f, jle, jeq_t, jeq_f, jeq, ↓reduceIte, e1, e2, e3, e4, z, o0, y1, o100, y2, eqr]
theorem law_592 (hN : 100000 ≤ N) (hI : INV K1w K2w q G) (hX : five X x) : ∃ (q' : Nat × Nat × (Nat → Nat)) (G' : Nat → Int → Int), INV K1w K2w q' G' ∧ J_law_592 X N k 0 100 (jI x) (hp q G) = k 0 100 (jI (x + 6)) (hp q' G') := by
  obtain ⟨c1, r1, e1⟩ := hX 1 (by omega) (by omega)
  obtain ⟨c2, r2, e2⟩ := hX 2 (by omega) (by omega)
  obtain ⟨r, q', G1, G2, y1, y2, hI'⟩ := op_overs (q := q) (N := N) (b := c1) (s := c2) (by omega) hI r1.1 r1.2 r2.1 r2.2
  refine ⟨q', G2, hI', ?_⟩
  unfold J_law_592 J_law_2261
  simp (maxSteps := 2000000) (disch := first | assumption | omega) only [jI0, iAdd_j, iSub_j, iMul_j, iNeg_j, Option.bind_some, jlt_t, jlt_f, jlt, jle_t, jle_f, jle, jeq_t, jeq_f, jeq, ↓reduceIte, e1, e2, o0, y1, o100, y2, eqr]
theorem law_625 (hN : 100000 ≤ N) (hI : INV K1w K2w q G) (hX : five X x) : ∃ (q' : Nat × Nat × (Nat → Nat)) (G' : Nat → Int → Int), INV K1w K2w q' G' ∧ J_law_625 X N k 0 100 (jI x) (hp q G) = k 0 100 (jI (x + 6)) (hp q' G') := by
  obtain ⟨c1, r1, e1⟩ := hX 1 (by omega) (by omega)
  obtain ⟨c2, r2, e2⟩ := hX 2 (by omega) (by omega)
  obtain ⟨r, q', G1, G2, y1, y2, hI'⟩ := op_run (q := q) (N := N) (b := c1) (s := c2) (by omega) hI r1.1 r1.2 r2.1 r2.2
  refine ⟨q', G2, hI', ?_⟩
  unfold J_law_625 J_law_2261
  simp (maxSteps := 2000000) (disch := first | assumption | omega) only [jI0, iAdd_j, iSub_j, iMul_j, iNeg_j, Option.bind_some, jlt_t, jlt_f, jlt, jle_t, jle_f, jle, jeq_t, jeq_f, jeq, ↓reduceIte, e1, e2, o0, y1, o100, y2, eqr]
theorem law_658 (hN : 100000 ≤ N) (hI : INV K1w K2w q G) (hX : five X x) : ∃ (q' : Nat × Nat × (Nat → Nat)) (G' : Nat → Int → Int), INV K1w K2w q' G' ∧ J_law_658 X N k 0 100 (jI x) (hp q G) = k 0 100 (jI (x + 6)) (hp q' G') := by
  obtain ⟨c1, r1, e1⟩ := hX 1 (by omega) (by omega)
  obtain ⟨c2, r2, e2⟩ := hX 2 (by omega) (by omega)
  obtain ⟨c3, r3, e3⟩ := hX 3 (by omega) (by omega)
  obtain ⟨c4, r4, e4⟩ := hX 4 (by omega) (by omega)
  obtain ⟨r, q', G1, G2, y1, y2, hI'⟩ := op_step (q := q) (N := N) (a := c1) (b := c2) (c := c3) (d := c4) (by omega) hI r1.1 r1.2 r2.1 r2.2 r3.1 r3.2 r4.1 r4.2
  refine ⟨q', G2, hI', ?_⟩
  unfold J_law_658 J_law_2261
  simp (maxSteps := 2000000) (disch := first | assumption | omega) only [jI0, iAdd_j, iSub_j, iMul_j, iNeg_j, Option.bind_some, jlt_t, jlt_f, jlt, jle_t, jle_f, jle, jeq_t, jeq_f, jeq, ↓reduceIte, e1, e2, e3, e4, o0, y1, o100, y2, eqr]
theorem law_711 (hN : 100000 ≤ N) (hI : INV K1w K2w q G) (hX : five X x) : ∃ (q' : Nat × Nat × (Nat → Nat)) (G' : Nat → Int → Int), INV K1w K2w q' G' ∧ J_law_711 X N k 0 100 (jI x) (hp q G) = k 0 100 (jI (x + 6)) (hp q' G') := by
  obtain ⟨c1, r1, e1⟩ := hX 1 (by omega) (by omega)
  obtain ⟨c2, r2, e2⟩ := hX 2 (by omega) (by omega)
  obtain ⟨c3, r3, e3⟩ := hX 3 (by omega) (by omega)
  obtain ⟨c4, r4, e4⟩ := hX 4 (by omega) (by omega)
  obtain ⟨c5, r5, e5⟩ := hX 5 (by omega) (by omega)
  obtain ⟨r, q', G1, G2, y1, y2, hI'⟩ := op_counts (q := q) (N := N) (a := c1) (b := c2) (c := c3) (d := c4) (f := c5) (by omega) hI r1.1 r1.2 r2.1 r2.2 r3.1 r3.2 r4.1 r4.2 r5.1 r5.2
  refine ⟨q', G2, hI', ?_⟩
  unfold J_law_711 J_law_2261
  simp (maxSteps := 2000000) (disch := first | assumption | omega) only [jI0, iAdd_j, iSub_j, iMul_j, iNeg_j, Option.bind_some, jlt_t, jlt_f, jlt, jle_t, jle_f, jle, jeq_t, jeq_f, jeq, ↓reduceIte, e1, e2, e3, e4, e5, o0, y1, o100, y2, eqr]
theorem law_774 (hN : 100000 ≤ N) (hI : INV K1w K2w q G) (hX : five X x) : ∃ (q' : Nat × Nat × (Nat → Nat)) (G' : Nat → Int → Int), INV K1w K2w q' G' ∧ J_law_774 X N k 0 100 (jI x) (hp q G) = k 0 100 (jI (x + 6)) (hp q' G') := by
  obtain ⟨r, q', G1, G2, y1, y2, hI'⟩ := op_total (q := q) (N := N)  (by omega) hI 
  refine ⟨q', G2, hI', ?_⟩
  unfold J_law_774 J_law_2261
  simp (maxSteps := 2000000) (disch := first | assumption | omega) only [jI0, iAdd_j, iSub_j, iMul_j, iNeg_j, Option.bind_some, jlt_t, jlt_f, jlt, jle_t, jle_f, jle, jeq_t, jeq_f, jeq, ↓reduceIte, o0, y1, o100, y2, eqr]
theorem law_787 (hN : 100000 ≤ N) (hI : INV K1w K2w q G) (hX : five X x) : ∃ (q' : Nat × Nat × (Nat → Nat)) (G' : Nat → Int → Int), INV K1w K2w q' G' ∧ J_law_787 X N k 0 100 (jI x) (hp q G) = k 0 100 (jI (x + 6)) (hp q' G') := by
  obtain ⟨c1, r1, e1⟩ := hX 1 (by omega) (by omega)
  obtain ⟨c2, r2, e2⟩ := hX 2 (by omega) (by omega)
  obtain ⟨c3, r3, e3⟩ := hX 3 (by omega) (by omega)
  obtain ⟨c4, r4, e4⟩ := hX 4 (by omega) (by omega)
  by_cases z : c4 = 0
  · obtain ⟨r, q', G1, G2, y1, y2, hI'⟩ := op_undo (q := q) (N := N) (b := c1) (j := c2) (i := c3) (by omega) hI r1.1 r1.2 r2.1 r2.2 r3.1 r3.2 False
    rw [bI_f (fun h => h)] at y1 y2
    refine ⟨q', G2, hI', ?_⟩
    unfold J_law_787 J_law_816 J_law_2261
    simp (maxSteps := 2000000) (disch := first | assumption | omega) only [jI0, iAdd_j, iSub_j, iMul_j, iNeg_j, Option.bind_some, jlt_t, jlt_f, jlt, jle_t, jle_f, jle, jeq_t, jeq_f, jeq, ↓reduceIte, e1, e2, e3, e4, z, o0, y1, o100, y2, eqr]
  · obtain ⟨r, q', G1, G2, y1, y2, hI'⟩ := op_undo (q := q) (N := N) (b := c1) (j := c2) (i := c3) (by omega) hI r1.1 r1.2 r2.1 r2.2 r3.1 r3.2 True
    rw [bI_t trivial] at y1 y2
    refine ⟨q', G2, hI', ?_⟩
    unfold J_law_787 J_law_816 J_law_2261
    simp (maxSteps := 2000000) (disch := first | assumption | omega) only [jI0, iAdd_j, iSub_j, iMul_j, iNeg_j, Option.bind_some, jlt_t, jlt_f, jlt, jle_t, jle_f, jle, jeq_t, jeq_f, jeq, ↓reduceIte, e1, e2, e3, e4, z, o0, y1, o100, y2, eqr]
theorem law_856 (hN : 100000 ≤ N) (hI : INV K1w K2w q G) (hX : five X x) : ∃ (q' : Nat × Nat × (Nat → Nat)) (G' : Nat → Int → Int), INV K1w K2w q' G' ∧ J_law_856 X N k 0 100 (jI x) (hp q G) = k 0 100 (jI (x + 6)) (hp q' G') := by
  obtain ⟨c1, r1, e1⟩ := hX 1 (by omega) (by omega)
  obtain ⟨c2, r2, e2⟩ := hX 2 (by omega) (by omega)
  obtain ⟨c3, r3, e3⟩ := hX 3 (by omega) (by omega)
  obtain ⟨r, q', G1, G2, y1, y2, hI'⟩ := op_mend (q := q) (N := N) (b := c1) (r := c2) (s := c3) (by omega) hI r1.1 r1.2 r2.1 r2.2 r3.1 r3.2
  refine ⟨q', G2, hI', ?_⟩
  unfold J_law_856 J_law_2261
  simp (maxSteps := 2000000) (disch := first | assumption | omega) only [jI0, iAdd_j, iSub_j, iMul_j, iNeg_j, Option.bind_some, jlt_t, jlt_f, jlt, jle_t, jle_f, jle, jeq_t, jeq_f, jeq, ↓reduceIte, e1, e2, e3, o0, y1, o100, y2, eqr]
theorem law_899 (hN : 100000 ≤ N) (hI : INV K1w K2w q G) (hX : five X x) : ∃ (q' : Nat × Nat × (Nat → Nat)) (G' : Nat → Int → Int), INV K1w K2w q' G' ∧ J_law_899 X N k 0 100 (jI x) (hp q G) = k 0 100 (jI (x + 6)) (hp q' G') := by
  obtain ⟨c1, r1, e1⟩ := hX 1 (by omega) (by omega)
  obtain ⟨r, q', G1, G2, y1, y2, hI'⟩ := op_seam (q := q) (N := N) (b := c1) (by omega) hI r1.1 r1.2
  refine ⟨q', G2, hI', ?_⟩
  unfold J_law_899 J_law_2261
  simp (maxSteps := 2000000) (disch := first | assumption | omega) only [jI0, iAdd_j, iSub_j, iMul_j, iNeg_j, Option.bind_some, jlt_t, jlt_f, jlt, jle_t, jle_f, jle, jeq_t, jeq_f, jeq, ↓reduceIte, e1, o0, y1, o100, y2, eqr]
theorem law_922 (hN : 100000 ≤ N) (hI : INV K1w K2w q G) (hX : five X x) : ∃ (q' : Nat × Nat × (Nat → Nat)) (G' : Nat → Int → Int), INV K1w K2w q' G' ∧ J_law_922 X N k 0 100 (jI x) (hp q G) = k 0 100 (jI (x + 6)) (hp q' G') := by
  obtain ⟨c1, r1, e1⟩ := hX 1 (by omega) (by omega)
  obtain ⟨r, q', G1, G2, y1, y2, hI'⟩ := op_turn (q := q) (N := N) (b := c1) (by omega) hI r1.1 r1.2
  refine ⟨q', G2, hI', ?_⟩
  unfold J_law_922 J_law_2261
  simp (maxSteps := 2000000) (disch := first | assumption | omega) only [jI0, iAdd_j, iSub_j, iMul_j, iNeg_j, Option.bind_some, jlt_t, jlt_f, jlt, jle_t, jle_f, jle, jeq_t, jeq_f, jeq, ↓reduceIte, e1, o0, y1, o100, y2, eqr]
theorem law_945 (hN : 100000 ≤ N) (hI : INV K1w K2w q G) (hX : five X x) : ∃ (q' : Nat × Nat × (Nat → Nat)) (G' : Nat → Int → Int), INV K1w K2w q' G' ∧ J_law_945 X N k 0 100 (jI x) (hp q G) = k 0 100 (jI (x + 6)) (hp q' G') := by
  obtain ⟨c1, r1, e1⟩ := hX 1 (by omega) (by omega)
  obtain ⟨c2, r2, e2⟩ := hX 2 (by omega) (by omega)
  obtain ⟨c3, r3, e3⟩ := hX 3 (by omega) (by omega)
  obtain ⟨r, q', G1, G2, y1, y2, hI'⟩ := op_spiral (q := q) (N := N) (b := c1) (j := c2) (r := c3) (by omega) hI r1.1 r1.2 r2.1 r2.2 r3.1 r3.2
  refine ⟨q', G2, hI', ?_⟩
  unfold J_law_945 J_law_2261
  simp (maxSteps := 2000000) (disch := first | assumption | omega) only [jI0, iAdd_j, iSub_j, iMul_j, iNeg_j, Option.bind_some, jlt_t, jlt_f, jlt, jle_t, jle_f, jle, jeq_t, jeq_f, jeq, ↓reduceIte, e1, e2, e3, o0, y1, o100, y2, eqr]
theorem law_988 (hN : 100000 ≤ N) (hI : INV K1w K2w q G) (hX : five X x) : ∃ (q' : Nat × Nat × (Nat → Nat)) (G' : Nat → Int → Int), INV K1w K2w q' G' ∧ J_law_988 X N k 0 100 (jI x) (hp q G) = k 0 100 (jI (x + 6)) (hp q' G') := by
  obtain ⟨c1, r1, e1⟩ := hX 1 (by omega) (by omega)
  obtain ⟨r, q', G1, G2, y1, y2, hI'⟩ := op_repeats (q := q) (N := N) (b := c1) (by omega) hI r1.1 r1.2
  refine ⟨q', G2, hI', ?_⟩
  unfold J_law_988 J_law_2261
  simp (maxSteps := 2000000) (disch := first | assumption | omega) only [jI0, iAdd_j, iSub_j, iMul_j, iNeg_j, Option.bind_some, jlt_t, jlt_f, jlt, jle_t, jle_f, jle, jeq_t, jeq_f, jeq, ↓reduceIte, e1, o0, y1, o100, y2, eqr]
theorem law_1011 (hN : 100000 ≤ N) (hI : INV K1w K2w q G) (hX : five X x) : ∃ (q' : Nat × Nat × (Nat → Nat)) (G' : Nat → Int → Int), INV K1w K2w q' G' ∧ J_law_1011 X N k 0 100 (jI x) (hp q G) = k 0 100 (jI (x + 6)) (hp q' G') := by
  obtain ⟨c1, r1, e1⟩ := hX 1 (by omega) (by omega)
  obtain ⟨c2, r2, e2⟩ := hX 2 (by omega) (by omega)
  obtain ⟨c3, r3, e3⟩ := hX 3 (by omega) (by omega)
  by_cases z : c3 = 0
  · obtain ⟨r, q', G1, G2, y1, y2, hI'⟩ := op_colour (q := q) (N := N) (b := c1) (s := c2) (by omega) hI r1.1 r1.2 r2.1 r2.2 False
    rw [bI_f (fun h => h)] at y1 y2
    refine ⟨q', G2, hI', ?_⟩
    unfold J_law_1011 J_law_1035 J_law_2261
    simp (maxSteps := 2000000) (disch := first | assumption | omega) only [jI0, iAdd_j, iSub_j, iMul_j, iNeg_j, Option.bind_some, jlt_t, jlt_f, jlt, jle_t, jle_f, jle, jeq_t, jeq_f, jeq, ↓reduceIte, e1, e2, e3, z, o0, y1, o100, y2, eqr]
  · obtain ⟨r, q', G1, G2, y1, y2, hI'⟩ := op_colour (q := q) (N := N) (b := c1) (s := c2) (by omega) hI r1.1 r1.2 r2.1 r2.2 True
    rw [bI_t trivial] at y1 y2
    refine ⟨q', G2, hI', ?_⟩
    unfold J_law_1011 J_law_1035 J_law_2261
    simp (maxSteps := 2000000) (disch := first | assumption | omega) only [jI0, iAdd_j, iSub_j, iMul_j, iNeg_j, Option.bind_some, jlt_t, jlt_f, jlt, jle_t, jle_f, jle, jeq_t, jeq_f, jeq, ↓reduceIte, e1, e2, e3, z, o0, y1, o100, y2, eqr]
theorem law_1070 (hN : 100000 ≤ N) (hI : INV K1w K2w q G) (hX : five X x) : ∃ (q' : Nat × Nat × (Nat → Nat)) (G' : Nat → Int → Int), INV K1w K2w q' G' ∧ J_law_1070 X N k 0 100 (jI x) (hp q G) = k 0 100 (jI (x + 6)) (hp q' G') := by
  obtain ⟨c1, r1, e1⟩ := hX 1 (by omega) (by omega)
  obtain ⟨c2, r2, e2⟩ := hX 2 (by omega) (by omega)
  obtain ⟨r, q', G1, G2, y1, y2, hI'⟩ := op_floats (q := q) (N := N) (b := c1) (w := c2) (by omega) hI r1.1 r1.2 r2.1 r2.2
  refine ⟨q', G2, hI', ?_⟩
  unfold J_law_1070 J_law_2261
  simp (maxSteps := 2000000) (disch := first | assumption | omega) only [jI0, iAdd_j, iSub_j, iMul_j, iNeg_j, Option.bind_some, jlt_t, jlt_f, jlt, jle_t, jle_f, jle, jeq_t, jeq_f, jeq, ↓reduceIte, e1, e2, o0, y1, o100, y2, eqr]
theorem law_1103 (hN : 100000 ≤ N) (hI : INV K1w K2w q G) (hX : five X x) : ∃ (q' : Nat × Nat × (Nat → Nat)) (G' : Nat → Int → Int), INV K1w K2w q' G' ∧ J_law_1103 X N k 0 100 (jI x) (hp q G) = k 0 100 (jI (x + 6)) (hp q' G') := by
  obtain ⟨c1, r1, e1⟩ := hX 1 (by omega) (by omega)
  obtain ⟨c2, r2, e2⟩ := hX 2 (by omega) (by omega)
  obtain ⟨c3, r3, e3⟩ := hX 3 (by omega) (by omega)
  obtain ⟨c4, r4, e4⟩ := hX 4 (by omega) (by omega)
  obtain ⟨r, q', G1, G2, y1, y2, hI'⟩ := op_learner (q := q) (N := N) (b := c1) (x := c2) (c := c3) (w := c4) (by omega) hI r1.1 r1.2 r3.1 r3.2 r4.1 r4.2
  refine ⟨q', G2, hI', ?_⟩
  unfold J_law_1103 J_law_2261
  simp (maxSteps := 2000000) (disch := first | assumption | omega) only [jI0, iAdd_j, iSub_j, iMul_j, iNeg_j, Option.bind_some, jlt_t, jlt_f, jlt, jle_t, jle_f, jle, jeq_t, jeq_f, jeq, ↓reduceIte, e1, e2, e3, e4, o0, y1, o100, y2, eqr]
theorem law_1156 (hN : 100000 ≤ N) (hI : INV K1w K2w q G) (hX : five X x) : ∃ (q' : Nat × Nat × (Nat → Nat)) (G' : Nat → Int → Int), INV K1w K2w q' G' ∧ J_law_1156 X N k 0 100 (jI x) (hp q G) = k 0 100 (jI (x + 6)) (hp q' G') := by
  obtain ⟨c1, r1, e1⟩ := hX 1 (by omega) (by omega)
  obtain ⟨r, q', G1, G2, y1, y2, hI'⟩ := op_wish (q := q) (N := N) (x := c1) (by omega) KC2w hI r1.1 r1.2
  refine ⟨q', G2, hI', ?_⟩
  unfold J_law_1156 J_law_2261
  simp (maxSteps := 2000000) (disch := first | assumption | omega) only [jI0, iAdd_j, iSub_j, iMul_j, iNeg_j, Option.bind_some, jlt_t, jlt_f, jlt, jle_t, jle_f, jle, jeq_t, jeq_f, jeq, ↓reduceIte, e1, o0, y1, o100, y2, eqr]
theorem law_1179 (hN : 100000 ≤ N) (hI : INV K1w K2w q G) (hX : five X x) : ∃ (q' : Nat × Nat × (Nat → Nat)) (G' : Nat → Int → Int), INV K1w K2w q' G' ∧ J_law_1179 X N k 0 100 (jI x) (hp q G) = k 0 100 (jI (x + 6)) (hp q' G') := by
  obtain ⟨c1, r1, e1⟩ := hX 1 (by omega) (by omega)
  obtain ⟨r, q', G1, G2, y1, y2, hI'⟩ := op_find (q := q) (N := N) (x := c1) (by omega) hI r1.1 r1.2
  refine ⟨q', G2, hI', ?_⟩
  unfold J_law_1179 J_law_2261
  simp (maxSteps := 2000000) (disch := first | assumption | omega) only [jI0, iAdd_j, iSub_j, iMul_j, iNeg_j, Option.bind_some, jlt_t, jlt_f, jlt, jle_t, jle_f, jle, jeq_t, jeq_f, jeq, ↓reduceIte, e1, o0, y1, o100, y2, eqr]
theorem law_1202 (hN : 100000 ≤ N) (hI : INV K1w K2w q G) (hX : five X x) : ∃ (q' : Nat × Nat × (Nat → Nat)) (G' : Nat → Int → Int), INV K1w K2w q' G' ∧ J_law_1202 X N k 0 100 (jI x) (hp q G) = k 0 100 (jI (x + 6)) (hp q' G') := by
  obtain ⟨c1, r1, e1⟩ := hX 1 (by omega) (by omega)
  obtain ⟨r, q', G1, G2, y1, y2, hI'⟩ := op_print (q := q) (N := N) (x := c1) (by omega) KC1w hI r1.1 r1.2
  refine ⟨q', G2, hI', ?_⟩
  unfold J_law_1202 J_law_2261
  simp (maxSteps := 2000000) (disch := first | assumption | omega) only [jI0, iAdd_j, iSub_j, iMul_j, iNeg_j, Option.bind_some, jlt_t, jlt_f, jlt, jle_t, jle_f, jle, jeq_t, jeq_f, jeq, ↓reduceIte, e1, o0, y1, o100, y2, eqr]
theorem law_1225 (hN : 100000 ≤ N) (hI : INV K1w K2w q G) (hX : five X x) : ∃ (q' : Nat × Nat × (Nat → Nat)) (G' : Nat → Int → Int), INV K1w K2w q' G' ∧ J_law_1225 X N k 0 100 (jI x) (hp q G) = k 0 100 (jI (x + 6)) (hp q' G') := by
  obtain ⟨c1, r1, e1⟩ := hX 1 (by omega) (by omega)
  obtain ⟨c2, r2, e2⟩ := hX 2 (by omega) (by omega)
  obtain ⟨r, q', G1, G2, y1, y2, hI'⟩ := op_reads (q := q) (N := N) (x := c1) (y := c2) (by omega) hI r1.1 r1.2 r2.1 r2.2
  refine ⟨q', G2, hI', ?_⟩
  unfold J_law_1225 J_law_2261
  simp (maxSteps := 2000000) (disch := first | assumption | omega) only [jI0, iAdd_j, iSub_j, iMul_j, iNeg_j, Option.bind_some, jlt_t, jlt_f, jlt, jle_t, jle_f, jle, jeq_t, jeq_f, jeq, ↓reduceIte, e1, e2, o0, y1, o100, y2, eqr]
theorem law_1258 (hN : 100000 ≤ N) (hI : INV K1w K2w q G) (hX : five X x) : ∃ (q' : Nat × Nat × (Nat → Nat)) (G' : Nat → Int → Int), INV K1w K2w q' G' ∧ J_law_1258 X N k 0 100 (jI x) (hp q G) = k 0 100 (jI (x + 6)) (hp q' G') := by
  obtain ⟨c1, r1, e1⟩ := hX 1 (by omega) (by omega)
  obtain ⟨c2, r2, e2⟩ := hX 2 (by omega) (by omega)
  obtain ⟨r, q', G1, G2, y1, y2, hI'⟩ := op_nearest (q := q) (N := N) (x := c1) (y := c2) (by omega) hI r1.1 r1.2 r2.1 r2.2
  refine ⟨q', G2, hI', ?_⟩
  unfold J_law_1258 J_law_2261
  simp (maxSteps := 2000000) (disch := first | assumption | omega) only [jI0, iAdd_j, iSub_j, iMul_j, iNeg_j, Option.bind_some, jlt_t, jlt_f, jlt, jle_t, jle_f, jle, jeq_t, jeq_f, jeq, ↓reduceIte, e1, e2, o0, y1, o100, y2, eqr]
theorem law_1291 (hN : 100000 ≤ N) (hI : INV K1w K2w q G) (hX : five X x) : ∃ (q' : Nat × Nat × (Nat → Nat)) (G' : Nat → Int → Int), INV K1w K2w q' G' ∧ J_law_1291 X N k 0 100 (jI x) (hp q G) = k 0 100 (jI (x + 6)) (hp q' G') := by
  obtain ⟨c1, r1, e1⟩ := hX 1 (by omega) (by omega)
  obtain ⟨r, q', G1, G2, y1, y2, hI'⟩ := op_rods (q := q) (N := N) (k := c1) (by omega) hI r1.1 r1.2
  refine ⟨q', G2, hI', ?_⟩
  unfold J_law_1291 J_law_2261
  simp (maxSteps := 2000000) (disch := first | assumption | omega) only [jI0, iAdd_j, iSub_j, iMul_j, iNeg_j, Option.bind_some, jlt_t, jlt_f, jlt, jle_t, jle_f, jle, jeq_t, jeq_f, jeq, ↓reduceIte, e1, o0, y1, o100, y2, eqr]
theorem law_1314 (hN : 100000 ≤ N) (hI : INV K1w K2w q G) (hX : five X x) : ∃ (q' : Nat × Nat × (Nat → Nat)) (G' : Nat → Int → Int), INV K1w K2w q' G' ∧ J_law_1314 X N k 0 100 (jI x) (hp q G) = k 0 100 (jI (x + 6)) (hp q' G') := by
  obtain ⟨c1, r1, e1⟩ := hX 1 (by omega) (by omega)
  obtain ⟨r, q', G1, G2, y1, y2, hI'⟩ := op_waste (q := q) (N := N) (k := c1) (by omega) hI r1.1 r1.2
  refine ⟨q', G2, hI', ?_⟩
  unfold J_law_1314 J_law_2261
  simp (maxSteps := 2000000) (disch := first | assumption | omega) only [jI0, iAdd_j, iSub_j, iMul_j, iNeg_j, Option.bind_some, jlt_t, jlt_f, jlt, jle_t, jle_f, jle, jeq_t, jeq_f, jeq, ↓reduceIte, e1, o0, y1, o100, y2, eqr]
theorem law_1337 (hN : 100000 ≤ N) (hI : INV K1w K2w q G) (hX : five X x) : ∃ (q' : Nat × Nat × (Nat → Nat)) (G' : Nat → Int → Int), INV K1w K2w q' G' ∧ J_law_1337 X N k 0 100 (jI x) (hp q G) = k 0 100 (jI (x + 6)) (hp q' G') := by
  obtain ⟨r, q', G1, G2, y1, y2, hI'⟩ := op_cost (q := q) (N := N)  (by omega) hI 
  refine ⟨q', G2, hI', ?_⟩
  unfold J_law_1337 J_law_2261
  simp (maxSteps := 2000000) (disch := first | assumption | omega) only [jI0, iAdd_j, iSub_j, iMul_j, iNeg_j, Option.bind_some, jlt_t, jlt_f, jlt, jle_t, jle_f, jle, jeq_t, jeq_f, jeq, ↓reduceIte, o0, y1, o100, y2, eqr]
theorem law_1350 (hN : 100000 ≤ N) (hI : INV K1w K2w q G) (hX : five X x) : ∃ (q' : Nat × Nat × (Nat → Nat)) (G' : Nat → Int → Int), INV K1w K2w q' G' ∧ J_law_1350 X N k 0 100 (jI x) (hp q G) = k 0 100 (jI (x + 6)) (hp q' G') := by
  obtain ⟨c1, r1, e1⟩ := hX 1 (by omega) (by omega)
  obtain ⟨r, q', G1, G2, y1, y2, hI'⟩ := op_cheaper (q := q) (N := N) (b := c1) (by omega) hI r1.1 r1.2
  refine ⟨q', G2, hI', ?_⟩
  unfold J_law_1350 J_law_2261
  simp (maxSteps := 2000000) (disch := first | assumption | omega) only [jI0, iAdd_j, iSub_j, iMul_j, iNeg_j, Option.bind_some, jlt_t, jlt_f, jlt, jle_t, jle_f, jle, jeq_t, jeq_f, jeq, ↓reduceIte, e1, o0, y1, o100, y2, eqr]
theorem law_1373 (hN : 100000 ≤ N) (hI : INV K1w K2w q G) (hX : five X x) : ∃ (q' : Nat × Nat × (Nat → Nat)) (G' : Nat → Int → Int), INV K1w K2w q' G' ∧ J_law_1373 X N k 0 100 (jI x) (hp q G) = k 0 100 (jI (x + 6)) (hp q' G') := by
  obtain ⟨c1, r1, e1⟩ := hX 1 (by omega) (by omega)
  obtain ⟨c2, r2, e2⟩ := hX 2 (by omega) (by omega)
  by_cases z : c2 = 0
  · obtain ⟨r, q', G1, G2, y1, y2, hI'⟩ := op_joins (q := q) (N := N) (b := c1) (by omega) hI r1.1 r1.2 False
    rw [bI_f (fun h => h)] at y1 y2
    refine ⟨q', G2, hI', ?_⟩
    unfold J_law_1373 J_law_1392 J_law_2261
    simp (maxSteps := 2000000) (disch := first | assumption | omega) only [jI0, iAdd_j, iSub_j, iMul_j, iNeg_j, Option.bind_some, jlt_t, jlt_f, jlt, jle_t, jle_f, jle, jeq_t, jeq_f, jeq, ↓reduceIte, e1, e2, z, o0, y1, o100, y2, eqr]
  · obtain ⟨r, q', G1, G2, y1, y2, hI'⟩ := op_joins (q := q) (N := N) (b := c1) (by omega) hI r1.1 r1.2 True
    rw [bI_t trivial] at y1 y2
    refine ⟨q', G2, hI', ?_⟩
    unfold J_law_1373 J_law_1392 J_law_2261
    simp (maxSteps := 2000000) (disch := first | assumption | omega) only [jI0, iAdd_j, iSub_j, iMul_j, iNeg_j, Option.bind_some, jlt_t, jlt_f, jlt, jle_t, jle_f, jle, jeq_t, jeq_f, jeq, ↓reduceIte, e1, e2, z, o0, y1, o100, y2, eqr]
theorem law_1422 (hN : 100000 ≤ N) (hI : INV K1w K2w q G) (hX : five X x) : ∃ (q' : Nat × Nat × (Nat → Nat)) (G' : Nat → Int → Int), INV K1w K2w q' G' ∧ J_law_1422 X N k 0 100 (jI x) (hp q G) = k 0 100 (jI (x + 6)) (hp q' G') := by
  obtain ⟨c1, r1, e1⟩ := hX 1 (by omega) (by omega)
  obtain ⟨c2, r2, e2⟩ := hX 2 (by omega) (by omega)
  obtain ⟨r, q', G1, G2, y1, y2, hI'⟩ := op_hide (q := q) (N := N) (b := c1) (w := c2) (by omega) hI r1.1 r1.2 r2.1 r2.2
  refine ⟨q', G2, hI', ?_⟩
  unfold J_law_1422 J_law_2261
  simp (maxSteps := 2000000) (disch := first | assumption | omega) only [jI0, iAdd_j, iSub_j, iMul_j, iNeg_j, Option.bind_some, jlt_t, jlt_f, jlt, jle_t, jle_f, jle, jeq_t, jeq_f, jeq, ↓reduceIte, e1, e2, o0, y1, o100, y2, eqr]
theorem law_1455 (hN : 100000 ≤ N) (hI : INV K1w K2w q G) (hX : five X x) : ∃ (q' : Nat × Nat × (Nat → Nat)) (G' : Nat → Int → Int), INV K1w K2w q' G' ∧ J_law_1455 X N k 0 100 (jI x) (hp q G) = k 0 100 (jI (x + 6)) (hp q' G') := by
  obtain ⟨c1, r1, e1⟩ := hX 1 (by omega) (by omega)
  obtain ⟨c2, r2, e2⟩ := hX 2 (by omega) (by omega)
  obtain ⟨c3, r3, e3⟩ := hX 3 (by omega) (by omega)
  obtain ⟨r, q', G1, G2, y1, y2, hI'⟩ := op_reach (q := q) (N := N) (row := c1) (t := c2) (w := c3) (by omega) hI r1.1 r1.2 r2.1 r2.2 r3.1 r3.2
  refine ⟨q', G2, hI', ?_⟩
  unfold J_law_1455 J_law_2261
  simp (maxSteps := 2000000) (disch := first | assumption | omega) only [jI0, iAdd_j, iSub_j, iMul_j, iNeg_j, Option.bind_some, jlt_t, jlt_f, jlt, jle_t, jle_f, jle, jeq_t, jeq_f, jeq, ↓reduceIte, e1, e2, e3, o0, y1, o100, y2, eqr]
theorem law_1498 (hN : 100000 ≤ N) (hI : INV K1w K2w q G) (hX : five X x) : ∃ (q' : Nat × Nat × (Nat → Nat)) (G' : Nat → Int → Int), INV K1w K2w q' G' ∧ J_law_1498 X N k 0 100 (jI x) (hp q G) = k 0 100 (jI (x + 6)) (hp q' G') := by
  obtain ⟨c1, r1, e1⟩ := hX 1 (by omega) (by omega)
  obtain ⟨c2, r2, e2⟩ := hX 2 (by omega) (by omega)
  obtain ⟨r, q', G1, G2, y1, y2, hI'⟩ := op_nest (q := q) (N := N) (row := c1) (p := c2) (by omega) hI r1.1 r1.2 r2.1 r2.2
  refine ⟨q', G2, hI', ?_⟩
  unfold J_law_1498 J_law_2261
  simp (maxSteps := 2000000) (disch := first | assumption | omega) only [jI0, iAdd_j, iSub_j, iMul_j, iNeg_j, Option.bind_some, jlt_t, jlt_f, jlt, jle_t, jle_f, jle, jeq_t, jeq_f, jeq, ↓reduceIte, e1, e2, o0, y1, o100, y2, eqr]
theorem law_1531 (hN : 100000 ≤ N) (hI : INV K1w K2w q G) (hX : five X x) : ∃ (q' : Nat × Nat × (Nat → Nat)) (G' : Nat → Int → Int), INV K1w K2w q' G' ∧ J_law_1531 X N k 0 100 (jI x) (hp q G) = k 0 100 (jI (x + 6)) (hp q' G') := by
  obtain ⟨c1, r1, e1⟩ := hX 1 (by omega) (by omega)
  obtain ⟨c2, r2, e2⟩ := hX 2 (by omega) (by omega)
  obtain ⟨c3, r3, e3⟩ := hX 3 (by omega) (by omega)
  obtain ⟨r, q', G1, G2, y1, y2, hI'⟩ := op_plait (q := q) (N := N) (row := c1) (m := c2) (w := c3) (by omega) hI r1.1 r1.2 r2.1 r2.2 r3.1 r3.2
  refine ⟨q', G2, hI', ?_⟩
  unfold J_law_1531 J_law_2261
  simp (maxSteps := 2000000) (disch := first | assumption | omega) only [jI0, iAdd_j, iSub_j, iMul_j, iNeg_j, Option.bind_some, jlt_t, jlt_f, jlt, jle_t, jle_f, jle, jeq_t, jeq_f, jeq, ↓reduceIte, e1, e2, e3, o0, y1, o100, y2, eqr]
theorem law_1574 (hN : 100000 ≤ N) (hI : INV K1w K2w q G) (hX : five X x) : ∃ (q' : Nat × Nat × (Nat → Nat)) (G' : Nat → Int → Int), INV K1w K2w q' G' ∧ J_law_1574 X N k 0 100 (jI x) (hp q G) = k 0 100 (jI (x + 6)) (hp q' G') := by
  obtain ⟨c1, r1, e1⟩ := hX 1 (by omega) (by omega)
  obtain ⟨c2, r2, e2⟩ := hX 2 (by omega) (by omega)
  obtain ⟨r, q', G1, G2, y1, y2, hI'⟩ := op_even (q := q) (N := N) (row := c1) (w := c2) (by omega) hI r1.1 r1.2 r2.1 r2.2
  refine ⟨q', G2, hI', ?_⟩
  unfold J_law_1574 J_law_2261
  simp (maxSteps := 2000000) (disch := first | assumption | omega) only [jI0, iAdd_j, iSub_j, iMul_j, iNeg_j, Option.bind_some, jlt_t, jlt_f, jlt, jle_t, jle_f, jle, jeq_t, jeq_f, jeq, ↓reduceIte, e1, e2, o0, y1, o100, y2, eqr]
theorem law_1607 (hN : 100000 ≤ N) (hI : INV K1w K2w q G) (hX : five X x) : ∃ (q' : Nat × Nat × (Nat → Nat)) (G' : Nat → Int → Int), INV K1w K2w q' G' ∧ J_law_1607 X N k 0 100 (jI x) (hp q G) = k 0 100 (jI (x + 6)) (hp q' G') := by
  obtain ⟨c1, r1, e1⟩ := hX 1 (by omega) (by omega)
  obtain ⟨c2, r2, e2⟩ := hX 2 (by omega) (by omega)
  by_cases z : c2 = 0
  · obtain ⟨r, q', G1, G2, y1, y2, hI'⟩ := op_height (q := q) (N := N) (b := c1) (d := 0) (by omega) hI r1.1 r1.2 (.inl rfl)
    refine ⟨q', G2, hI', ?_⟩
    unfold J_law_1607 J_law_1626 J_law_2261
    simp (maxSteps := 2000000) (disch := first | assumption | omega) only [jI0, iAdd_j, iSub_j, iMul_j, iNeg_j, Option.bind_some, jlt_t, jlt_f, jlt, jle_t, jle_f, jle, jeq_t, jeq_f, jeq, ↓reduceIte, e1, e2, z, o0, y1, o100, y2, eqr]
  · obtain ⟨r, q', G1, G2, y1, y2, hI'⟩ := op_height (q := q) (N := N) (b := c1) (d := 1) (by omega) hI r1.1 r1.2 (.inr rfl)
    refine ⟨q', G2, hI', ?_⟩
    unfold J_law_1607 J_law_1626 J_law_2261
    simp (maxSteps := 2000000) (disch := first | assumption | omega) only [jI0, iAdd_j, iSub_j, iMul_j, iNeg_j, Option.bind_some, jlt_t, jlt_f, jlt, jle_t, jle_f, jle, jeq_t, jeq_f, jeq, ↓reduceIte, e1, e2, z, o0, y1, o100, y2, eqr]
theorem law_1656 (hN : 100000 ≤ N) (hI : INV K1w K2w q G) (hX : five X x) : ∃ (q' : Nat × Nat × (Nat → Nat)) (G' : Nat → Int → Int), INV K1w K2w q' G' ∧ J_law_1656 X N k 0 100 (jI x) (hp q G) = k 0 100 (jI (x + 6)) (hp q' G') := by
  obtain ⟨r, q', G1, G2, y1, y2, hI'⟩ := op_loose (q := q) (N := N)  (by omega) hI 
  refine ⟨q', G2, hI', ?_⟩
  unfold J_law_1656 J_law_2261
  simp (maxSteps := 2000000) (disch := first | assumption | omega) only [jI0, iAdd_j, iSub_j, iMul_j, iNeg_j, Option.bind_some, jlt_t, jlt_f, jlt, jle_t, jle_f, jle, jeq_t, jeq_f, jeq, ↓reduceIte, o0, y1, o100, y2, eqr]
theorem law_1669 (hN : 100000 ≤ N) (hI : INV K1w K2w q G) (hX : five X x) : ∃ (q' : Nat × Nat × (Nat → Nat)) (G' : Nat → Int → Int), INV K1w K2w q' G' ∧ J_law_1669 X N k 0 100 (jI x) (hp q G) = k 0 100 (jI (x + 6)) (hp q' G') := by
  obtain ⟨c1, r1, e1⟩ := hX 1 (by omega) (by omega)
  obtain ⟨r, q', G1, G2, y1, y2, hI'⟩ := op_hold (q := q) (N := N) (b := c1) (by omega) hI r1.1 r1.2
  refine ⟨q', G2, hI', ?_⟩
  unfold J_law_1669 J_law_2261
  simp (maxSteps := 2000000) (disch := first | assumption | omega) only [jI0, iAdd_j, iSub_j, iMul_j, iNeg_j, Option.bind_some, jlt_t, jlt_f, jlt, jle_t, jle_f, jle, jeq_t, jeq_f, jeq, ↓reduceIte, e1, o0, y1, o100, y2, eqr]
theorem law_1692 (hN : 100000 ≤ N) (hI : INV K1w K2w q G) (hX : five X x) : ∃ (q' : Nat × Nat × (Nat → Nat)) (G' : Nat → Int → Int), INV K1w K2w q' G' ∧ J_law_1692 X N k 0 100 (jI x) (hp q G) = k 0 100 (jI (x + 6)) (hp q' G') := by
  obtain ⟨c1, r1, e1⟩ := hX 1 (by omega) (by omega)
  obtain ⟨r, q', G1, G2, y1, y2, hI'⟩ := op_gives (q := q) (N := N) (w := c1) (by omega) hI r1.1 r1.2
  refine ⟨q', G2, hI', ?_⟩
  unfold J_law_1692 J_law_2261
  simp (maxSteps := 2000000) (disch := first | assumption | omega) only [jI0, iAdd_j, iSub_j, iMul_j, iNeg_j, Option.bind_some, jlt_t, jlt_f, jlt, jle_t, jle_f, jle, jeq_t, jeq_f, jeq, ↓reduceIte, e1, o0, y1, o100, y2, eqr]
theorem law_1715 (hN : 100000 ≤ N) (hI : INV K1w K2w q G) (hX : five X x) : ∃ (q' : Nat × Nat × (Nat → Nat)) (G' : Nat → Int → Int), INV K1w K2w q' G' ∧ J_law_1715 X N k 0 100 (jI x) (hp q G) = k 0 100 (jI (x + 6)) (hp q' G') := by
  obtain ⟨c1, r1, e1⟩ := hX 1 (by omega) (by omega)
  obtain ⟨r, q', G1, G2, y1, y2, hI'⟩ := op_width (q := q) (N := N) (b := c1) (by omega) hI r1.1 r1.2
  refine ⟨q', G2, hI', ?_⟩
  unfold J_law_1715 J_law_2261
  simp (maxSteps := 2000000) (disch := first | assumption | omega) only [jI0, iAdd_j, iSub_j, iMul_j, iNeg_j, Option.bind_some, jlt_t, jlt_f, jlt, jle_t, jle_f, jle, jeq_t, jeq_f, jeq, ↓reduceIte, e1, o0, y1, o100, y2, eqr]
theorem law_1738 (hN : 100000 ≤ N) (hI : INV K1w K2w q G) (hX : five X x) : ∃ (q' : Nat × Nat × (Nat → Nat)) (G' : Nat → Int → Int), INV K1w K2w q' G' ∧ J_law_1738 X N k 0 100 (jI x) (hp q G) = k 0 100 (jI (x + 6)) (hp q' G') := by
  obtain ⟨c1, r1, e1⟩ := hX 1 (by omega) (by omega)
  obtain ⟨c2, r2, e2⟩ := hX 2 (by omega) (by omega)
  obtain ⟨c3, r3, e3⟩ := hX 3 (by omega) (by omega)
  obtain ⟨r, q', G1, G2, y1, y2, hI'⟩ := op_bowl (q := q) (N := N) (row := c1) (d := c2) (what := c3) hN hI r1 r2 r3
  refine ⟨q', G2, hI', ?_⟩
  unfold J_law_1738 J_law_2261
  simp (maxSteps := 2000000) (disch := first | assumption | omega) only [jI0, iAdd_j, iSub_j, iMul_j, iNeg_j, Option.bind_some, jlt_t, jlt_f, jlt, jle_t, jle_f, jle, jeq_t, jeq_f, jeq, ↓reduceIte, e1, e2, e3, o0, y1, o100, y2, eqr]
theorem law_1781 (hN : 100000 ≤ N) (hI : INV K1w K2w q G) (hX : five X x) : ∃ (q' : Nat × Nat × (Nat → Nat)) (G' : Nat → Int → Int), INV K1w K2w q' G' ∧ J_law_1781 X N k 0 100 (jI x) (hp q G) = k 0 100 (jI (x + 6)) (hp q' G') := by
  obtain ⟨c1, r1, e1⟩ := hX 1 (by omega) (by omega)
  obtain ⟨c2, r2, e2⟩ := hX 2 (by omega) (by omega)
  obtain ⟨r, q', G1, G2, y1, y2, hI'⟩ := op_wander (q := q) (N := N) (x := c1) (w := c2) (by omega) hI r2.1 r2.2
  refine ⟨q', G2, hI', ?_⟩
  unfold J_law_1781 J_law_2261
  simp (maxSteps := 2000000) (disch := first | assumption | omega) only [jI0, iAdd_j, iSub_j, iMul_j, iNeg_j, Option.bind_some, jlt_t, jlt_f, jlt, jle_t, jle_f, jle, jeq_t, jeq_f, jeq, ↓reduceIte, e1, e2, o0, y1, o100, y2, eqr]
theorem law_1814 (hN : 100000 ≤ N) (hI : INV K1w K2w q G) (hX : five X x) : ∃ (q' : Nat × Nat × (Nat → Nat)) (G' : Nat → Int → Int), INV K1w K2w q' G' ∧ J_law_1814 X N k 0 100 (jI x) (hp q G) = k 0 100 (jI (x + 6)) (hp q' G') := by
  obtain ⟨c1, r1, e1⟩ := hX 1 (by omega) (by omega)
  obtain ⟨r, q', G1, G2, y1, y2, hI'⟩ := op_closes (q := q) (N := N) (row := c1) (by omega) hI r1.1 r1.2
  refine ⟨q', G2, hI', ?_⟩
  unfold J_law_1814 J_law_2261
  simp (maxSteps := 2000000) (disch := first | assumption | omega) only [jI0, iAdd_j, iSub_j, iMul_j, iNeg_j, Option.bind_some, jlt_t, jlt_f, jlt, jle_t, jle_f, jle, jeq_t, jeq_f, jeq, ↓reduceIte, e1, o0, y1, o100, y2, eqr]
theorem law_1837 (hN : 100000 ≤ N) (hI : INV K1w K2w q G) (hX : five X x) : ∃ (q' : Nat × Nat × (Nat → Nat)) (G' : Nat → Int → Int), INV K1w K2w q' G' ∧ J_law_1837 X N k 0 100 (jI x) (hp q G) = k 0 100 (jI (x + 6)) (hp q' G') := by
  obtain ⟨c1, r1, e1⟩ := hX 1 (by omega) (by omega)
  obtain ⟨c2, r2, e2⟩ := hX 2 (by omega) (by omega)
  obtain ⟨c3, r3, e3⟩ := hX 3 (by omega) (by omega)
  obtain ⟨r, q', G1, G2, y1, y2, hI'⟩ := op_border (q := q) (N := N) (m := c1) (c := c2) (x := c3) (by omega) hI r1.1 r1.2 r2.1 r2.2 r3.1 r3.2
  refine ⟨q', G2, hI', ?_⟩
  unfold J_law_1837 J_law_2261
  simp (maxSteps := 2000000) (disch := first | assumption | omega) only [jI0, iAdd_j, iSub_j, iMul_j, iNeg_j, Option.bind_some, jlt_t, jlt_f, jlt, jle_t, jle_f, jle, jeq_t, jeq_f, jeq, ↓reduceIte, e1, e2, e3, o0, y1, o100, y2, eqr]
theorem law_1880 (hN : 100000 ≤ N) (hI : INV K1w K2w q G) (hX : five X x) : ∃ (q' : Nat × Nat × (Nat → Nat)) (G' : Nat → Int → Int), INV K1w K2w q' G' ∧ J_law_1880 X N k 0 100 (jI x) (hp q G) = k 0 100 (jI (x + 6)) (hp q' G') := by
  obtain ⟨c1, r1, e1⟩ := hX 1 (by omega) (by omega)
  obtain ⟨c2, r2, e2⟩ := hX 2 (by omega) (by omega)
  obtain ⟨r, q', G1, G2, y1, y2, hI'⟩ := op_ways (q := q) (N := N) (k := c1) (w := c2) KC1w KC2w hI r1.1 r1.2 r2.1 r2.2
  refine ⟨q', G2, hI', ?_⟩
  unfold J_law_1880 J_law_2261
  simp (maxSteps := 2000000) (disch := first | assumption | omega) only [jI0, iAdd_j, iSub_j, iMul_j, iNeg_j, Option.bind_some, jlt_t, jlt_f, jlt, jle_t, jle_f, jle, jeq_t, jeq_f, jeq, ↓reduceIte, e1, e2, o0, y1, o100, y2, eqr]
theorem law_1913 (hN : 100000 ≤ N) (hI : INV K1w K2w q G) (hX : five X x) : ∃ (q' : Nat × Nat × (Nat → Nat)) (G' : Nat → Int → Int), INV K1w K2w q' G' ∧ J_law_1913 X N k 0 100 (jI x) (hp q G) = k 0 100 (jI (x + 6)) (hp q' G') := by
  obtain ⟨c1, r1, e1⟩ := hX 1 (by omega) (by omega)
  obtain ⟨r, q', G1, G2, y1, y2, hI'⟩ := op_taught (q := q) (N := N) (k := c1) (by omega) hI r1.1 r1.2
  refine ⟨q', G2, hI', ?_⟩
  unfold J_law_1913 J_law_2261
  simp (maxSteps := 2000000) (disch := first | assumption | omega) only [jI0, iAdd_j, iSub_j, iMul_j, iNeg_j, Option.bind_some, jlt_t, jlt_f, jlt, jle_t, jle_f, jle, jeq_t, jeq_f, jeq, ↓reduceIte, e1, o0, y1, o100, y2, eqr]
theorem law_1936 (hN : 100000 ≤ N) (hI : INV K1w K2w q G) (hX : five X x) : ∃ (q' : Nat × Nat × (Nat → Nat)) (G' : Nat → Int → Int), INV K1w K2w q' G' ∧ J_law_1936 X N k 0 100 (jI x) (hp q G) = k 0 100 (jI (x + 6)) (hp q' G') := by
  obtain ⟨c1, r1, e1⟩ := hX 1 (by omega) (by omega)
  obtain ⟨c2, r2, e2⟩ := hX 2 (by omega) (by omega)
  obtain ⟨c3, r3, e3⟩ := hX 3 (by omega) (by omega)
  obtain ⟨c4, r4, e4⟩ := hX 4 (by omega) (by omega)
  obtain ⟨c5, r5, e5⟩ := hX 5 (by omega) (by omega)
  obtain ⟨r, q', G1, G2, y1, y2, hI'⟩ := op_lid (q := q) (N := N) (k := c1) (r := c2) (w := c3) (p := c4) (v := c5) (by omega) hI r1.1 r1.2 r2.1 r2.2 r3.1 r3.2 r4.1 r4.2 r5.1 r5.2
  refine ⟨q', G2, hI', ?_⟩
  unfold J_law_1936 J_law_2261
  simp (maxSteps := 2000000) (disch := first | assumption | omega) only [jI0, iAdd_j, iSub_j, iMul_j, iNeg_j, Option.bind_some, jlt_t, jlt_f, jlt, jle_t, jle_f, jle, jeq_t, jeq_f, jeq, ↓reduceIte, e1, e2, e3, e4, e5, o0, y1, o100, y2, eqr]
theorem law_1999 (hN : 100000 ≤ N) (hI : INV K1w K2w q G) (hX : five X x) : ∃ (q' : Nat × Nat × (Nat → Nat)) (G' : Nat → Int → Int), INV K1w K2w q' G' ∧ J_law_1999 X N k 0 100 (jI x) (hp q G) = k 0 100 (jI (x + 6)) (hp q' G') := by
  obtain ⟨c1, r1, e1⟩ := hX 1 (by omega) (by omega)
  obtain ⟨c2, r2, e2⟩ := hX 2 (by omega) (by omega)
  obtain ⟨c3, r3, e3⟩ := hX 3 (by omega) (by omega)
  obtain ⟨r, q', G1, G2, y1, y2, hI'⟩ := op_numbers (q := q) (N := N) (row := c1) (so := c2) (n := c3) (by omega) hI r1.1 r1.2 r2.1 r2.2 r3.1 r3.2
  refine ⟨q', G2, hI', ?_⟩
  unfold J_law_1999 J_law_2261
  simp (maxSteps := 2000000) (disch := first | assumption | omega) only [jI0, iAdd_j, iSub_j, iMul_j, iNeg_j, Option.bind_some, jlt_t, jlt_f, jlt, jle_t, jle_f, jle, jeq_t, jeq_f, jeq, ↓reduceIte, e1, e2, e3, o0, y1, o100, y2, eqr]
theorem law_2042 (hN : 100000 ≤ N) (hI : INV K1w K2w q G) (hX : five X x) : ∃ (q' : Nat × Nat × (Nat → Nat)) (G' : Nat → Int → Int), INV K1w K2w q' G' ∧ J_law_2042 X N k 0 100 (jI x) (hp q G) = k 0 100 (jI (x + 6)) (hp q' G') := by
  obtain ⟨c1, r1, e1⟩ := hX 1 (by omega) (by omega)
  obtain ⟨c2, r2, e2⟩ := hX 2 (by omega) (by omega)
  obtain ⟨c3, r3, e3⟩ := hX 3 (by omega) (by omega)
  obtain ⟨c4, r4, e4⟩ := hX 4 (by omega) (by omega)
  obtain ⟨r, q', G1, G2, y1, y2, hI'⟩ := op_write (q := q) (N := N) (row := c1) (i := c2) (x := lOr (lShl (jL c3) (jI 32)) (lAnd (jL c4) (jL 4294967295))) (by omega) hI r1.1 r1.2 r2.1 r2.2
  refine ⟨q', G2, hI', ?_⟩
  unfold J_law_2042 J_law_2261
  simp (maxSteps := 2000000) (disch := first | assumption | omega) only [jI0, iAdd_j, iSub_j, iMul_j, iNeg_j, Option.bind_some, jlt_t, jlt_f, jlt, jle_t, jle_f, jle, jeq_t, jeq_f, jeq, ↓reduceIte, e1, e2, e3, e4, jlL, o0, y1, o100, y2, eqr64]
theorem law_2116 (hN : 100000 ≤ N) (hI : INV K1w K2w q G) (hX : five X x) : ∃ (q' : Nat × Nat × (Nat → Nat)) (G' : Nat → Int → Int), INV K1w K2w q' G' ∧ J_law_2116 X N k 0 100 (jI x) (hp q G) = k 0 100 (jI (x + 6)) (hp q' G') := by
  obtain ⟨c1, r1, e1⟩ := hX 1 (by omega) (by omega)
  obtain ⟨c2, r2, e2⟩ := hX 2 (by omega) (by omega)
  obtain ⟨c3, r3, e3⟩ := hX 3 (by omega) (by omega)
  obtain ⟨c4, r4, e4⟩ := hX 4 (by omega) (by omega)
  obtain ⟨r, q', G1, G2, y1, y2, hI'⟩ := op_copy (q := q) (N := N) (b := c1) (j := c2) (i := c3) (row := c4) (by omega) hI r1.1 r1.2 r2.1 r2.2 r3.1 r3.2 r4.1 r4.2
  refine ⟨q', G2, hI', ?_⟩
  unfold J_law_2116 J_law_2261
  simp (maxSteps := 2000000) (disch := first | assumption | omega) only [jI0, iAdd_j, iSub_j, iMul_j, iNeg_j, Option.bind_some, jlt_t, jlt_f, jlt, jle_t, jle_f, jle, jeq_t, jeq_f, jeq, ↓reduceIte, e1, e2, e3, e4, o0, y1, o100, y2, eqr]
theorem law_2169 (hN : 100000 ≤ N) (hI : INV K1w K2w q G) (hX : five X x) : ∃ (q' : Nat × Nat × (Nat → Nat)) (G' : Nat → Int → Int), INV K1w K2w q' G' ∧ J_law_2169 X N k 0 100 (jI x) (hp q G) = k 0 100 (jI (x + 6)) (hp q' G') := by
  obtain ⟨c1, r1, e1⟩ := hX 1 (by omega) (by omega)
  obtain ⟨r, q', G1, G2, y1, y2, hI'⟩ := op_image (q := q) (N := N) (k := c1) (by omega) KC1w KC2w hI r1.1 r1.2
  refine ⟨q', G2, hI', ?_⟩
  unfold J_law_2169 J_law_2261
  simp (maxSteps := 2000000) (disch := first | assumption | omega) only [jI0, iAdd_j, iSub_j, iMul_j, iNeg_j, Option.bind_some, jlt_t, jlt_f, jlt, jle_t, jle_f, jle, jeq_t, jeq_f, jeq, ↓reduceIte, e1, o0, y1, o100, y2, eqr]
theorem law_2192 (hN : 100000 ≤ N) (hI : INV K1w K2w q G) (hX : five X x) : ∃ (q' : Nat × Nat × (Nat → Nat)) (G' : Nat → Int → Int), INV K1w K2w q' G' ∧ J_law_2192 X N k 0 100 (jI x) (hp q G) = k 0 100 (jI (x + 6)) (hp q' G') := by
  obtain ⟨c1, r1, e1⟩ := hX 1 (by omega) (by omega)
  obtain ⟨r, q', G1, G2, y1, y2, hI'⟩ := op_restore (q := q) (N := N) (k := c1) (by omega) hI r1.1 r1.2
  refine ⟨q', G2, hI', ?_⟩
  unfold J_law_2192 J_law_2261
  simp (maxSteps := 2000000) (disch := first | assumption | omega) only [jI0, iAdd_j, iSub_j, iMul_j, iNeg_j, Option.bind_some, jlt_t, jlt_f, jlt, jle_t, jle_f, jle, jeq_t, jeq_f, jeq, ↓reduceIte, e1, o0, y1, o100, y2, eqr]
theorem law_2215 (hN : 100000 ≤ N) (hI : INV K1w K2w q G) (hX : five X x) : ∃ (q' : Nat × Nat × (Nat → Nat)) (G' : Nat → Int → Int), INV K1w K2w q' G' ∧ J_law_2215 X N k 0 100 (jI x) (hp q G) = k 0 100 (jI (x + 6)) (hp q' G') := by
  obtain ⟨c1, r1, e1⟩ := hX 1 (by omega) (by omega)
  obtain ⟨r, q', G1, G2, y1, y2, hI'⟩ := op_status (q := q) (N := N) (w := c1) hI r1.1 r1.2
  refine ⟨q', G2, hI', ?_⟩
  unfold J_law_2215 J_law_2261
  simp (maxSteps := 2000000) (disch := first | assumption | omega) only [jI0, iAdd_j, iSub_j, iMul_j, iNeg_j, Option.bind_some, jlt_t, jlt_f, jlt, jle_t, jle_f, jle, jeq_t, jeq_f, jeq, ↓reduceIte, e1, o0, y1, o100, y2, eqr]
theorem law_2238 (hN : 100000 ≤ N) (hI : INV K1w K2w q G) (hX : five X x) : ∃ (q' : Nat × Nat × (Nat → Nat)) (G' : Nat → Int → Int), INV K1w K2w q' G' ∧ J_law_2238 X N k 0 100 (jI x) (hp q G) = k 0 100 (jI (x + 6)) (hp q' G') := by
  obtain ⟨c1, r1, e1⟩ := hX 1 (by omega) (by omega)
  obtain ⟨r, q', G1, G2, y1, y2, hI'⟩ := op_count (q := q) (N := N) (w := c1) hI r1.1 r1.2
  refine ⟨q', G2, hI', ?_⟩
  unfold J_law_2238 J_law_2261
  simp (maxSteps := 2000000) (disch := first | assumption | omega) only [jI0, iAdd_j, iSub_j, iMul_j, iNeg_j, Option.bind_some, jlt_t, jlt_f, jlt, jle_t, jle_f, jle, jeq_t, jeq_f, jeq, ↓reduceIte, e1, o0, y1, o100, y2, eqr]
end
