/-! call: closes -/
section
variable {K1 K2 : (Int → Int) → (Int → Int) → Prop} {q : Nat × Nat × (Nat → Nat)} {G : Nat → Int → Int} {N : Nat}
theorem INV.rf (hI : INV K1 K2 q G) (c : Int) : INV K1 K2 q (up (up G 98 (rfz c) (G 98 (rfz c) + 1)) 101 (rfz c) (G 101 (rfz c) + 1)) := by
  refine ⟨?_, ?_⟩
  · refine INV0.of hI.1 ?_ hI.1.2.1 rfl rfl rfl rfl rfl rfl rfl rfl rfl
    intro a ha
    rw [up_ne (by rintro rfl; cases ha), up_ne (by rintro rfl; cases ha)]
  · intro k k0 k1
    rw [up_ne (by decide), up_eq, up_eq, up_ne (by decide)]
    have e := hI.2 k k0 k1
    have e2 := hI.2 (rfz c) (rfz_r c).1 (rfz_r c).2
    by_cases hk : k = rfz c
    · subst hk; rw [u1_eq, u1_eq, e]
    · rw [u1_ne hk, u1_ne hk, e]
/-- both refuse; the model has written on what is made anew each time -/
theorem OP.rfs {F1 F2 : mH → Option (Int32 × mH)} (hI : INV K1 K2 q G) (c : Int) (r : Int32) (h1 : F1 (hp q G) = some (r, hp q (up G 98 (rfz c) (G 98 (rfz c) + 1)))) (h2 : ∀ G1, MV G1 → G1 102 = G 102 → (∀ a, a ≠ 98 → G1 a = G a) → ∃ G2, (∀ a, scrv a = false → G2 a = G1 a) ∧ F2 (hp q G1) = some (r, hp q (up G2 101 (rfz c) (G2 101 (rfz c) + 1)))) : OP K1 K2 q G F1 F2 := by
  have m1 : MV (up G 98 (rfz c) (G 98 (rfz c) + 1)) := ⟨hI.1.1.1, hI.1.2.1⟩
  obtain ⟨G2, s, e⟩ := h2 (up G 98 (rfz c) (G 98 (rfz c) + 1)) m1 rfl (fun a ha => up_ne ha)
  refine ⟨r, q, _, _, h1, e, (hI.rf c).sc (SC.of ?_)⟩
  intro a ha
  by_cases d : a = 101
  · subst d
    rw [up_eq, up_eq, s 101 ha, up_ne (by decide)]
  · rw [up_ne d, up_ne d, s a ha]
theorem mMv (hN : 10000 ≤ N) (hV : BV (G 102)) {r : Nat} (hr : r < 4) (p : RP G r) {n : Nat} (hn : G (37 + 2 * r) 0 = n) (hS : 3 ≤ G 102 0) (hw : AW G r 1 (G 102 0 - 1)) (n0 : 0 < n) : ∃ G1, (∀ a, a ≠ 115 → G1 a = G a) ∧ L_X12_closes_75 N N 100 (jI r) (jI 0) (hp q G) = some (jI (bz (clB (G (38 + 2 * r)) n (G 102 0) (G 102 0).toNat)), hp q G1) := by
  have g := hV.1
  have n40 : n ≤ 40 := by have := p.2.1; omega
  have p2 := p.2.2.1
  refine loopG (N := N) (fun f (t : Int × (Nat → Int → Int)) => L_X12_closes_75 N f 100 (jI r) (jI t.1) (hp q t.2)) (fun k t => t.1 = k ∧ (∀ a, a ≠ 115 → t.2 a = G a) ∧ ∀ j : Int, 0 ≤ j → j < k → t.2 115 j = G (38 + 2 * r) j) n (by omega) (s := (0, G)) ⟨rfl, fun _ _ => rfl, fun j j0 j1 => by omega⟩ ?_ ?_
  · rintro f k ⟨i, G1⟩ hk ⟨rfl, t1, t2⟩
    simp only at t1 t2
    have vv := p.2.2.2.2.2.2 k (by omega) (by omega)
    have vw := hw k (by omega) (by omega)
    have e118 : G1 118 r = n := by rw [t1 _ (by decide), p2, hn]
    have e119 : G1 119 (40 * r + k) = G (38 + 2 * r) k := by rw [t1 _ (by decide), vv.1]
    have l0 := l102 q G1 (i := 0) (by decide) (by decide)
    rw [t1 102 (by decide)] at l0
    refine ⟨(((k + 1 : Nat) : Int), up G1 115 k (G (38 + 2 * r) k)), ⟨rfl, fun a ha => (up_ne ha).trans (t1 a ha), fun j j0 j1 => ?_⟩, ?_⟩
    · show up G1 115 k _ 115 j = _
      rw [up_eq]
      by_cases c : j = k
      · rw [c, u1_eq]
      · rw [u1_ne c]; exact t2 j j0 (by omega)
    · show L_X12_closes_75 N (f + 1) 100 (jI r) (jI (k : Int)) (hp q G1) = L_X12_closes_75 N f 100 (jI r) (jI ((k + 1 : Nat) : Int)) (hp q (up G1 115 k (G (38 + 2 * r) k)))
      rw [L_X12_closes_75]
      simp (maxSteps := 2000000) (disch := first | assumption | omega) only [jI0, iAdd_j, iSub_j, iMul_j, iNeg_j, Option.bind_some, jlt_t, jlt_f, jlt, jle_t, jle_f, jle, jeq_t, jeq_f, jeq, ↓reduceIte, o100, l118, e118, l119, e119, l0, jlL, X12_within, bI_t, jLI, s115, Int.natCast_succ]
  · rintro f ⟨i, G1⟩ ⟨rfl, t1, t2⟩
    simp only at t1 t2
    have e118 : G1 118 r = n := by rw [t1 _ (by decide), p2, hn]
    have e2 : G1 102 = G 102 := t1 102 (by decide)
    have vr : ∀ k : Int, 0 ≤ k → k < n → 1 ≤ G1 115 k ∧ G1 115 k < G1 102 0 := fun k k0 k1 => by
      have := hw k k0 (by omega)
      rw [t2 k k0 k1, e2]
      omega
    have mc := mClosed (q := q) (G := G1) hN (m := n) (by omega) (by rw [e2]; omega) vr
    rw [e2, (clB_c (by omega) t2 _).1] at mc
    refine ⟨G1, t1, ?_⟩
    show L_X12_closes_75 N (f + 1) 100 (jI r) (jI (n : Int)) (hp q G1) = _
    rw [L_X12_closes_75]
    simp (maxSteps := 2000000) (disch := first | assumption | omega) only [jI0, iAdd_j, iSub_j, iMul_j, iNeg_j, Option.bind_some, jlt_t, jlt_f, jlt, jle_t, jle_f, jle, jeq_t, jeq_f, jeq, ↓reduceIte, o100, l118, e118, mc]
    by_cases c : clB (G (38 + 2 * r)) n (G 102 0) (G 102 0).toNat = true
    · rw [c]; simp (maxSteps := 2000000) (disch := first | assumption | omega) only [jI0, iAdd_j, iSub_j, iMul_j, iNeg_j, Option.bind_some, jlt_t, jlt_f, jlt, jle_t, jle_f, jle, jeq_t, jeq_f, jeq, ↓reduceIte, bz]
    · rw [show clB (G (38 + 2 * r)) n (G 102 0) (G 102 0).toNat = false by simpa using c]; simp (maxSteps := 2000000) (disch := first | assumption | omega) only [jI0, iAdd_j, iSub_j, iMul_j, iNeg_j, Option.bind_some, jlt_t, jlt_f, jlt, jle_t, jle_f, jle, jeq_t, jeq_f, jeq, ↓reduceIte, bz, Bool.false_eq_true]
theorem mMvNo (hN : 10000 ≤ N) (hV : BV (G 102)) {r : Nat} (hr : r < 4) (p : RP G r) (hS : 3 ≤ G 102 0) (hw : ¬ AW G r 1 (G 102 0 - 1)) : ∃ G2, (∀ a, a ≠ 115 → G2 a = G a) ∧ L_X12_closes_75 N N 100 (jI r) (jI 0) (hp q G) = some (jI (-3), hp q (up G2 101 (rfz (-3)) (G2 101 (rfz (-3)) + 1))) := by
  have g := hV.1
  obtain ⟨p0, p1, p2, p3, p4, p5, p6⟩ := p
  have L : ∀ (d n : Nat) (k : Int) (G1 : Nat → Int → Int), 0 ≤ k → k + d = G (37 + 2 * r) 0 → d < n → (∀ a, a ≠ 115 → G1 a = G a) → (∃ i, k ≤ i ∧ i < G (37 + 2 * r) 0 ∧ ¬ (1 ≤ G (38 + 2 * r) i ∧ G (38 + 2 * r) i ≤ G 102 0 - 1)) → ∃ G2, (∀ a, a ≠ 115 → G2 a = G a) ∧ L_X12_closes_75 N n 100 (jI r) (jI k) (hp q G1) = some (jI (-3), hp q (up G2 101 (rfz (-3)) (G2 101 (rfz (-3)) + 1))) := by
    intro d
    induction d with
    | zero =>
      rintro n k G1 k0 k1 hn t1 ⟨i, i0, i1, i2⟩
      omega
    | succ d ih =>
      rintro n k G1 k0 k1 hn t1 ⟨i, i0, i1, i2⟩
      obtain ⟨n, rfl⟩ : ∃ m, n = m + 1 := ⟨n - 1, by omega⟩
      have v := p6 k k0 (by omega)
      have e118 : G1 118 r = G (37 + 2 * r) 0 := by rw [t1 _ (by decide), p2]
      have e119 : G1 119 (40 * r + k) = G (38 + 2 * r) k := by rw [t1 _ (by decide), v.1]
      have l0 := l102 q G1 (i := 0) (by decide) (by decide)
      rw [t1 102 (by decide)] at l0
      rw [L_X12_closes_75]
      by_cases c : 1 ≤ G (38 + 2 * r) k ∧ G (38 + 2 * r) k ≤ G 102 0 - 1
      · have di : i ≠ k := by rintro rfl; exact i2 c
        obtain ⟨G2, a1, a2⟩ := ih n (k + 1) (up G1 115 k (G (38 + 2 * r) k)) (by omega) (by omega) (by omega) (fun a ha => (up_ne ha).trans (t1 a ha)) ⟨i, by omega, i1, i2⟩
        refine ⟨G2, a1, ?_⟩
        simp (maxSteps := 2000000) (disch := first | assumption | omega) only [jI0, iAdd_j, iSub_j, iMul_j, iNeg_j, Option.bind_some, jlt_t, jlt_f, jlt, jle_t, jle_f, jle, jeq_t, jeq_f, jeq, ↓reduceIte, o100, l118, e118, l119, e119, l0, jlL, X12_within, bI_t, jLI, s115, a2]
      · refine ⟨G1, t1, ?_⟩
        simp (maxSteps := 2000000) (disch := first | assumption | omega) only [jI0, iAdd_j, iSub_j, iMul_j, iNeg_j, Option.bind_some, jlt_t, jlt_f, jlt, jle_t, jle_f, jle, jeq_t, jeq_f, jeq, ↓reduceIte, o100, l118, e118, l119, e119, l0, jlL, X12_within, bI_f, X12_no]
  obtain ⟨i, i0, i1, i2⟩ : ∃ i, 0 ≤ i ∧ i < G (37 + 2 * r) 0 ∧ ¬ (1 ≤ G (38 + 2 * r) i ∧ G (38 + 2 * r) i ≤ G 102 0 - 1) := by
    apply Classical.byContradiction
    intro h
    apply hw
    intro k k0 k1
    apply Classical.byContradiction
    intro h2
    exact h ⟨k, k0, k1, h2⟩
  exact L (G (37 + 2 * r) 0).toNat N 0 G (by omega) (by omega) (by omega) (fun _ _ => rfl) ⟨i, i0, i1, i2⟩
theorem oMv (hN : 10000 ≤ N) (hB : BB G) {r : Nat} (hr : r < 4) (p : RP G r) {n : Nat} (hn : G (37 + 2 * r) 0 = n) (hS : 3 ≤ G 102 0) (hw : AW G r 1 (G 102 0 - 1)) (n0 : 0 < n) : ∃ G1, (∀ a, a ≠ 99 → G1 a = G a) ∧ L_X11_closes_87 N N 0 (37 + 2 * r) (jI 0) (hp q G) = some (jI (bz (clB (G (38 + 2 * r)) n (G 102 0) (G 102 0).toNat)), hp q G1) := by
  have g := hB.1.1
  have b0 := hB.2.1.1
  have n40 : n ≤ 40 := by have := p.2.1; omega
  refine loopG (N := N) (fun f (t : Int × (Nat → Int → Int)) => L_X11_closes_87 N f 0 (37 + 2 * r) (jI t.1) (hp q t.2)) (fun k t => t.1 = k ∧ (∀ a, a ≠ 99 → t.2 a = G a) ∧ ∀ j : Int, 0 ≤ j → j < k → t.2 99 j = G (38 + 2 * r) j) n (by omega) (s := (0, G)) ⟨rfl, fun _ _ => rfl, fun j j0 j1 => by omega⟩ ?_ ?_
  · rintro f k ⟨i, G1⟩ hk ⟨rfl, t1, t2⟩
    simp only at t1 t2
    have p1 := p.ne hr (x := 99) (by omega) t1
    have e7 : G1 (37 + 2 * r) 0 = n := by rw [t1 _ (by omega), hn]
    have e8 : G1 (38 + 2 * r) = G (38 + 2 * r) := t1 _ (by omega)
    have g37 := ro (q := q) (G := G1) hr
    have oi := oInt (q := q) (N := N) hr p1 (k := (k : Int)) (by omega) (by omega)
    rw [e8] at oi
    refine ⟨(((k + 1 : Nat) : Int), up G1 99 k (G (38 + 2 * r) k)), ⟨rfl, fun a ha => (up_ne ha).trans (t1 a ha), fun j j0 j1 => ?_⟩, ?_⟩
    · show up G1 99 k _ 99 j = _
      rw [up_eq]
      by_cases c : j = k
      · rw [c, u1_eq]
      · rw [u1_ne c]; exact t2 j j0 (by omega)
    · show L_X11_closes_87 N (f + 1) 0 (37 + 2 * r) (jI (k : Int)) (hp q G1) = L_X11_closes_87 N f 0 (37 + 2 * r) (jI ((k + 1 : Nat) : Int)) (hp q (up G1 99 k (G (38 + 2 * r) k)))
      rw [L_X11_closes_87]
      simp (maxSteps := 2000000) (disch := first | assumption | omega) only [jI0, iAdd_j, iSub_j, iMul_j, iNeg_j, Option.bind_some, jlt_t, jlt_f, jlt, jle_t, jle_f, jle, jeq_t, jeq_f, jeq, ↓reduceIte, o0, g37, e7, oi, s99, Int.natCast_succ]
  · rintro f ⟨i, G1⟩ ⟨rfl, t1, t2⟩
    simp only at t1 t2
    have e7 : G1 (37 + 2 * r) 0 = n := by rw [t1 _ (by omega), hn]
    have g37 := ro (q := q) (G := G1) hr
    have e20 : G1 2 0 = G 102 0 := by rw [t1 2 (by decide), b0]
    have vr : ∀ k : Int, 0 ≤ k → k < n → 1 ≤ G1 99 k ∧ G1 99 k < G 102 0 := fun k k0 k1 => by
      have := hw k k0 (by omega)
      rw [t2 k k0 k1]
      omega
    have mc := oClosed (q := q) (G := G1) hN (m := n) (S := G 102 0) (by omega) (by omega) vr
    rw [(clB_c (by omega) t2 _).1] at mc
    refine ⟨G1, t1, ?_⟩
    show L_X11_closes_87 N (f + 1) 0 (37 + 2 * r) (jI (n : Int)) (hp q G1) = _
    rw [L_X11_closes_87]
    simp (maxSteps := 2000000) (disch := first | assumption | omega) only [jI0, iAdd_j, iSub_j, iMul_j, iNeg_j, Option.bind_some, jlt_t, jlt_f, jlt, jle_t, jle_f, jle, jeq_t, jeq_f, jeq, ↓reduceIte, o0, o2, g37, e7, e20, mc]
    by_cases c : clB (G (38 + 2 * r)) n (G 102 0) (G 102 0).toNat = true
    · rw [c]; simp (maxSteps := 2000000) (disch := first | assumption | omega) only [jI0, iAdd_j, iSub_j, iMul_j, iNeg_j, Option.bind_some, jlt_t, jlt_f, jlt, jle_t, jle_f, jle, jeq_t, jeq_f, jeq, ↓reduceIte, bz]
    · rw [show clB (G (38 + 2 * r)) n (G 102 0) (G 102 0).toNat = false by simpa using c]; simp (maxSteps := 2000000) (disch := first | assumption | omega) only [jI0, iAdd_j, iSub_j, iMul_j, iNeg_j, Option.bind_some, jlt_t, jlt_f, jlt, jle_t, jle_f, jle, jeq_t, jeq_f, jeq, ↓reduceIte, bz, Bool.false_eq_true]
theorem op_closes (hN : 10000 ≤ N) (hI : INV K1 K2 q G) {row : Int} (h1 : -2147483648 ≤ row) (h2 : row < 2147483648) : OP K1 K2 q G (f_X11_closes N 0 (jI row)) (f_X12_closes N 100 (jI row)) := by
  have hB := hI.1.1; have hV := hB.1; have hT := hI.1.2.1; have g := hV.1
  have b0 := hB.2.1.1
  by_cases c : 0 ≤ row ∧ row < 4
  · obtain ⟨r, rfl⟩ := Int.eq_ofNat_of_zero_le c.1
    have hr : r < 4 := by omega
    by_cases c1 : G 102 0 = 0
    · refine OP.rf hI (-5) (jI (-5)) ?_ ?_
      · unfold f_X11_closes
        simp (maxSteps := 2000000) (disch := first | assumption | omega) only [jI0, iAdd_j, iSub_j, iMul_j, iNeg_j, Option.bind_some, jlt_t, jlt_f, jlt, jle_t, jle_f, jle, jeq_t, jeq_f, jeq, ↓reduceIte, o0, o2, o12, hBand, hStake, hKind, hCross, hWeaver, oBand, oKindOf, oKind, oCr, oRing, oWv, oPer, oRows, oAhead, oWhen, oAll, oStep, oRods, oRodAt, oStakeAt, oOff, bI_t, bI_f, X11_refuse, oIsRow, b0]
      · intro G1 hM e eo
        rw [← e] at c1
        have hV1 := hM.1; have hT1 := hM.2; (try rw [← e] at dm); (try rw [← e] at dr); (try rw [← e] at de); (try rw [← e] at dl); (try rw [← e] at hb); (try rw [← e] at hj); (try rw [← e] at hr); (try rw [← e] at hs); (try rw [← e] at pl); (try rw [← e] at al); (try rw [← e] at g); (try rw [← e] at c); (try rw [← e] at c1); (try rw [← e] at c2); (try rw [← e] at c3); (try rw [← e] at c4); (try rw [← e] at c5); (try rw [← e] at c6); (try rw [← e] at wb); (try rw [← e] at pr); (try rw [← e] at kd); (try rw [← e] at cr); (try rw [← e] at fe); (try rw [← e] at ra); (try rw [← e] at f1); (try rw [← e] at f2); (try rw [← e] at f3); (try rw [← e] at f4); (try rw [← e])
        unfold f_X12_closes
        simp (maxSteps := 2000000) (disch := first | assumption | omega) only [jI0, iAdd_j, iSub_j, iMul_j, iNeg_j, Option.bind_some, jlt_t, jlt_f, jlt, jle_t, jle_f, jle, jeq_t, jeq_f, jeq, ↓reduceIte, o100, w100t, l102, mBand, mStake, mKind, mCross, mCr, mKindOf, mAhead, mWhen, mStep, mRods, mRodAt, mStakeAt, mIndex, mOver, mOverIn, jlL, X12_within, bI_t, bI_f, X12_no]
    · have S3 : 3 ≤ G 102 0 := by omega
      rcases hI.rp hr with ⟨m1, m2⟩ | pr
      · refine OP.rf hI (-6) (jI (-6)) ?_ ?_
        · unfold f_X11_closes
          simp (maxSteps := 2000000) (disch := first | assumption | omega) only [jI0, iAdd_j, iSub_j, iMul_j, iNeg_j, Option.bind_some, jlt_t, jlt_f, jlt, jle_t, jle_f, jle, jeq_t, jeq_f, jeq, ↓reduceIte, o0, o2, o12, hBand, hStake, hKind, hCross, hWeaver, oBand, oKindOf, oKind, oCr, oRing, oWv, oPer, oRows, oAhead, oWhen, oAll, oStep, oRods, oRodAt, oStakeAt, oOff, bI_t, bI_f, X11_refuse, oIsRow, b0, rA, ro, oMiss]
        · intro G1 hM e eo
          rw [← eo 117 (by decide)] at m2
          rw [← e] at c1 S3
          have hV1 := hM.1; have hT1 := hM.2; (try rw [← e] at dm); (try rw [← e] at dr); (try rw [← e] at de); (try rw [← e] at dl); (try rw [← e] at hb); (try rw [← e] at hj); (try rw [← e] at hr); (try rw [← e] at hs); (try rw [← e] at pl); (try rw [← e] at al); (try rw [← e] at g); (try rw [← e] at c); (try rw [← e] at c1); (try rw [← e] at c2); (try rw [← e] at c3); (try rw [← e] at c4); (try rw [← e] at c5); (try rw [← e] at c6); (try rw [← e] at wb); (try rw [← e] at pr); (try rw [← e] at kd); (try rw [← e] at cr); (try rw [← e] at fe); (try rw [← e] at ra); (try rw [← e] at f1); (try rw [← e] at f2); (try rw [← e] at f3); (try rw [← e] at f4); (try rw [← e])
          unfold f_X12_closes
          simp (maxSteps := 2000000) (disch := first | assumption | omega) only [jI0, iAdd_j, iSub_j, iMul_j, iNeg_j, Option.bind_some, jlt_t, jlt_f, jlt, jle_t, jle_f, jle, jeq_t, jeq_f, jeq, ↓reduceIte, o100, w100t, l102, mBand, mStake, mKind, mCross, mCr, mKindOf, mAhead, mWhen, mStep, mRods, mRodAt, mStakeAt, mIndex, mOver, mOverIn, jlL, X12_within, bI_t, bI_f, X12_no, l117]
      · obtain ⟨p1, p2, p3, p4, p5, p6, p7⟩ := id pr
        have cz : ¬ bI (G (37 + 2 * r) 0 = -1) = jI 1 := by rw [bI_1]; omega
        have wo := oWithin (q := q) hN hr pr (lo := 1) (hi := G 102 0 - 1) (by omega) (by omega)
        by_cases c2 : G (37 + 2 * r) 0 = 0
        · refine OP.rf hI (-3) (jI (-3)) ?_ ?_
          · unfold f_X11_closes
            simp (maxSteps := 2000000) (disch := first | assumption | omega) only [jI0, iAdd_j, iSub_j, iMul_j, iNeg_j, Option.bind_some, jlt_t, jlt_f, jlt, jle_t, jle_f, jle, jeq_t, jeq_f, jeq, ↓reduceIte, o0, o2, o12, hBand, hStake, hKind, hCross, hWeaver, oBand, oKindOf, oKind, oCr, oRing, oWv, oPer, oRows, oAhead, oWhen, oAll, oStep, oRods, oRodAt, oStakeAt, oOff, bI_t, bI_f, X11_refuse, oIsRow, b0, rA, ro, oMiss]
          · intro G1 hM e eo
            rw [← eo 117 (by decide)] at p4
            rw [← eo 118 (by decide)] at p3
            rw [← e] at c1 S3
            have hV1 := hM.1; have hT1 := hM.2; (try rw [← e] at dm); (try rw [← e] at dr); (try rw [← e] at de); (try rw [← e] at dl); (try rw [← e] at hb); (try rw [← e] at hj); (try rw [← e] at hr); (try rw [← e] at hs); (try rw [← e] at pl); (try rw [← e] at al); (try rw [← e] at g); (try rw [← e] at c); (try rw [← e] at c1); (try rw [← e] at c2); (try rw [← e] at c3); (try rw [← e] at c4); (try rw [← e] at c5); (try rw [← e] at c6); (try rw [← e] at wb); (try rw [← e] at pr); (try rw [← e] at kd); (try rw [← e] at cr); (try rw [← e] at fe); (try rw [← e] at ra); (try rw [← e] at f1); (try rw [← e] at f2); (try rw [← e] at f3); (try rw [← e] at f4); (try rw [← e])
            unfold f_X12_closes
            simp (maxSteps := 2000000) (disch := first | assumption | omega) only [jI0, iAdd_j, iSub_j, iMul_j, iNeg_j, Option.bind_some, jlt_t, jlt_f, jlt, jle_t, jle_f, jle, jeq_t, jeq_f, jeq, ↓reduceIte, o100, w100t, l102, mBand, mStake, mKind, mCross, mCr, mKindOf, mAhead, mWhen, mStep, mRods, mRodAt, mStakeAt, mIndex, mOver, mOverIn, jlL, X12_within, bI_t, bI_f, X12_no, l117, l118, p3, p4]
        · by_cases c3 : AW G r 1 (G 102 0 - 1)
          · obtain ⟨n, hn⟩ := Int.eq_ofNat_of_zero_le p1
            rw [cI_t c3] at wo
            obtain ⟨G1, t1, t2⟩ := oMv (q := q) hN hB hr pr hn S3 c3 (by omega)
            refine OP.sc hI (jI (bz (clB (G (38 + 2 * r)) n (G 102 0) (G 102 0).toNat))) ⟨G1, SC.one (c := 99) t1 rfl, ?_⟩ ?_
            · unfold f_X11_closes
              simp (maxSteps := 2000000) (disch := first | assumption | omega) only [jI0, iAdd_j, iSub_j, iMul_j, iNeg_j, Option.bind_some, jlt_t, jlt_f, jlt, jle_t, jle_f, jle, jeq_t, jeq_f, jeq, ↓reduceIte, o0, o2, o12, hBand, hStake, hKind, hCross, hWeaver, oBand, oKindOf, oKind, oCr, oRing, oWv, oPer, oRows, oAhead, oWhen, oAll, oStep, oRods, oRodAt, oStakeAt, oOff, bI_t, bI_f, X11_refuse, oIsRow, b0, rA, ro, oMiss, jlL, wo, t2]
            · intro G2 s2 hM e
              have pp := pr.sc hr s2
              have e7 : G2 117 r = G (37 + 2 * r) 1 := by rw [s2.1 117 rfl (by decide), p4]
              have e8 : G2 118 r = n := by rw [s2.1 118 rfl (by decide), p3, hn]
              have e9 : G2 (37 + 2 * r) 0 = n := by rw [← pp.2.2.1, e8]
              have hT1 := hM.2
              have ev : ∀ k : Int, 0 ≤ k → k < n → G2 (38 + 2 * r) k = G (38 + 2 * r) k := fun k k0 k1 => by
                rw [← (pp.2.2.2.2.2.2 k k0 (by omega)).1, s2.1 119 rfl (by decide)]
                exact (p7 k k0 (by omega)).1
              obtain ⟨G3, u1', u2⟩ := mMv (q := q) (G := G2) hN (by rw [e]; exact hV) hr pp e9 (by rw [e]; exact S3) (by rw [AW.sc hr s2, e]; exact c3) (by omega)
              rw [e, (clB_c (by omega) ev _).1] at u2
              refine ⟨G3, SC.one (c := 115) u1' rfl, ?_⟩
              unfold f_X12_closes
              have l0 := l102 q G2 (i := 0) (by decide) (by decide)
              rw [e] at l0
              simp (maxSteps := 2000000) (disch := first | assumption | omega) only [jI0, iAdd_j, iSub_j, iMul_j, iNeg_j, Option.bind_some, jlt_t, jlt_f, jlt, jle_t, jle_f, jle, jeq_t, jeq_f, jeq, ↓reduceIte, o100, w100t, l0, jlL, X12_within, bI_t, l117, l118, e7, e8, u2]
          · rw [cI_f c3] at wo
            refine OP.rfs hI (-3) (jI (-3)) ?_ ?_
            · unfold f_X11_closes
              simp (maxSteps := 2000000) (disch := first | assumption | omega) only [jI0, iAdd_j, iSub_j, iMul_j, iNeg_j, Option.bind_some, jlt_t, jlt_f, jlt, jle_t, jle_f, jle, jeq_t, jeq_f, jeq, ↓reduceIte, o0, o2, o12, hBand, hStake, hKind, hCross, hWeaver, oBand, oKindOf, oKind, oCr, oRing, oWv, oPer, oRows, oAhead, oWhen, oAll, oStep, oRods, oRodAt, oStakeAt, oOff, bI_t, bI_f, X11_refuse, oIsRow, b0, rA, ro, oMiss, jlL, wo]
            · intro G1 hM e eo
              have hT1 := hM.2
              have pp := pr.eo hr eo
              rw [← eo 117 (by decide)] at p4
              rw [← eo 118 (by decide)] at p3
              obtain ⟨G2, u1', u2⟩ := mMvNo (q := q) (G := G1) hN hM.1 hr pp (by rw [e]; exact S3) (by rw [AW.eo hr eo, e]; exact c3)
              refine ⟨G2, fun a ha => u1' a (by rintro rfl; cases ha), ?_⟩
              have l0 := l102 q G1 (i := 0) (by decide) (by decide)
              rw [e] at l0
              unfold f_X12_closes
              simp (maxSteps := 2000000) (disch := first | assumption | omega) only [jI0, iAdd_j, iSub_j, iMul_j, iNeg_j, Option.bind_some, jlt_t, jlt_f, jlt, jle_t, jle_f, jle, jeq_t, jeq_f, jeq, ↓reduceIte, o100, w100t, l0, jlL, X12_within, bI_t, l117, l118, p3, p4, u2]
  · refine OP.rf hI (-2) (jI (-2)) ?_ ?_
    · unfold f_X11_closes
      simp (maxSteps := 2000000) (disch := first | assumption | omega) only [jI0, iAdd_j, iSub_j, iMul_j, iNeg_j, Option.bind_some, jlt_t, jlt_f, jlt, jle_t, jle_f, jle, jeq_t, jeq_f, jeq, ↓reduceIte, o0, o2, o12, hBand, hStake, hKind, hCross, hWeaver, oBand, oKindOf, oKind, oCr, oRing, oWv, oPer, oRows, oAhead, oWhen, oAll, oStep, oRods, oRodAt, oStakeAt, oOff, bI_t, bI_f, X11_refuse, oIsRow]
    · intro G1 hM e eo
      have hV1 := hM.1; have hT1 := hM.2; (try rw [← e] at dm); (try rw [← e] at dr); (try rw [← e] at de); (try rw [← e] at dl); (try rw [← e] at hb); (try rw [← e] at hj); (try rw [← e] at hr); (try rw [← e] at hs); (try rw [← e] at pl); (try rw [← e] at al); (try rw [← e] at g); (try rw [← e] at c); (try rw [← e] at c1); (try rw [← e] at c2); (try rw [← e] at c3); (try rw [← e] at c4); (try rw [← e] at c5); (try rw [← e] at c6); (try rw [← e] at wb); (try rw [← e] at pr); (try rw [← e] at kd); (try rw [← e] at cr); (try rw [← e] at fe); (try rw [← e] at ra); (try rw [← e] at f1); (try rw [← e] at f2); (try rw [← e] at f3); (try rw [← e] at f4); (try rw [← e])
      unfold f_X12_closes
      simp (maxSteps := 2000000) (disch := first | assumption | omega) only [jI0, iAdd_j, iSub_j, iMul_j, iNeg_j, Option.bind_some, jlt_t, jlt_f, jlt, jle_t, jle_f, jle, jeq_t, jeq_f, jeq, ↓reduceIte, o100, w100t, l102, mBand, mStake, mKind, mCross, mCr, mKindOf, mAhead, mWhen, mStep, mRods, mRodAt, mStakeAt, mIndex, mOver, mOverIn, jlL, X12_within, bI_t, bI_f, X12_no]
end
