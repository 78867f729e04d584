/-! call: border -/
section
variable {K1 K2 : (Int → Int) → (Int → Int) → Prop} {q : Nat × Nat × (Nat → Nat)} {G : Nat → Int → Int} {N : Nat}
theorem mDig {m c w : Nat} (hm : 1 ≤ m ∧ m ≤ 4) (hc : 1 ≤ c ∧ c ≤ 6) (hw : w ≤ 1296) (K : Nat → Int32 → Int32 → Int32 → Int32 → Int32 → Int32 → Int32 → Int32 → mH → Option (Int32 × mH)) {x3 x4 x5 x6 x7 x8 : Int32} (f : Nat) : ∃ t : Nat → Int → Int, ((∀ a, a ≠ 115 → t a = G a) ∧ ∀ j : Int, 0 ≤ j → j < m → t 115 j = mvW m c w j) ∧ L_X12_border_136 N K (f + m) 100 (jI m) (jI c) x3 x4 x5 x6 x7 x8 (jI w) (jI 0) (jI ((m : Int) - 1)) (hp q G) = L_X12_border_136 N K f 100 (jI m) (jI c) x3 x4 x5 x6 x7 x8 (jI ((w / c ^ m : Nat) : Int)) (jI (sm (mvW m c w) m)) (jI (-1)) (hp q t) := by
  obtain ⟨⟨k, G1⟩, ⟨hk, t1, t2⟩, e⟩ := loopX (fun f (t : Nat × (Nat → Int → Int)) => L_X12_border_136 N K f 100 (jI m) (jI c) x3 x4 x5 x6 x7 x8 (jI ((w / c ^ t.1 : Nat) : Int)) (jI (sm (fun j => mvW m c w ((m : Int) - 1 - j)) t.1)) (jI ((m : Int) - 1 - t.1)) (hp q t.2)) (fun k t => t.1 = k ∧ (∀ a, a ≠ 115 → t.2 a = G a) ∧ ∀ j : Int, (m : Int) - k ≤ j → j < m → t.2 115 j = mvW m c w j) m (by
    rintro f k ⟨i, G1⟩ hk ⟨rfl, t1, t2⟩
    simp only at t1 t2 hk
    have te : ((m : Int) - 1 - ((m : Int) - 1 - (i : Int))).toNat = i := by omega
    have ge : mvW m c w ((m : Int) - 1 - i) = 1 + (dg c i w : Nat) := by unfold mvW; rw [te]
    have wl : w / c ^ i ≤ w := Nat.div_le_self _ _
    have dl := dg_lt (c := c) (e := i) (w := w) (by omega)
    refine ⟨(i + 1, up G1 115 ((m : Int) - 1 - i) (1 + (dg c i w : Nat))), ⟨rfl, fun a ha => (up_ne ha).trans (t1 a ha), fun j j0 j1 => ?_⟩, ?_⟩
    · show up G1 115 _ _ 115 j = _
      rw [up_eq]
      by_cases d : j = (m : Int) - 1 - i
      · rw [d, u1_eq, ge]
      · rw [u1_ne d]; exact t2 j (by omega) j1
    · show L_X12_border_136 N K (f + 1) 100 (jI m) (jI c) x3 x4 x5 x6 x7 x8 (jI ((w / c ^ i : Nat) : Int)) (jI (sm (fun j => mvW m c w ((m : Int) - 1 - j)) i)) (jI ((m : Int) - 1 - i)) (hp q G1) = L_X12_border_136 N K f 100 (jI m) (jI c) x3 x4 x5 x6 x7 x8 (jI ((w / c ^ (i + 1) : Nat) : Int)) (jI (sm (fun j => mvW m c w ((m : Int) - 1 - j)) i + mvW m c w ((m : Int) - 1 - i))) (jI ((m : Int) - 1 - ((i + 1 : Nat) : Int))) (hp q _)
      have e1 : ((w / c ^ i : Nat) : Int) % (c : Int) = (dg c i w : Nat) := by unfold dg; rw [Int.natCast_emod]
      have e2 : ((w / c ^ i : Nat) : Int) / (c : Int) = ((w / c ^ (i + 1) : Nat) : Int) := by rw [Nat.pow_succ, ← Nat.div_div_eq_div_mul]; exact (Int.natCast_ediv _ _).symm
      have e3 : (m : Int) - 1 - (i : Int) + -1 = (m : Int) - 1 - ((i + 1 : Nat) : Int) := by omega
      have e4 : up G1 115 ((m : Int) - 1 - i) (1 + (dg c i w : Nat)) 115 ((m : Int) - 1 - i) = 1 + (dg c i w : Nat) := by rw [up_eq, u1_eq]
      have e5 := iRem_p (a := ((w / c ^ i : Nat) : Int)) (b := (c : Int)) (Int.natCast_nonneg _) (by omega) (by omega) (by omega)
      have e6 := iDiv_j (a := ((w / c ^ i : Nat) : Int)) (b := (c : Int)) (Int.natCast_nonneg _) (by omega) (by omega) (by omega)
      rw [e1] at e5
      rw [e2] at e6
      rw [L_X12_border_136, ge]
      simp (maxSteps := 2000000) (disch := first | assumption | omega) only [jI0, iAdd_j, iSub_j, iMul_j, iNeg_j, Option.bind_some, jlt_t, jlt_f, jlt, jle_t, jle_f, jle, jeq_t, jeq_f, jeq, ↓reduceIte, o100, e5, e6, s115, l115, e4, e3]) f (0, G) ⟨rfl, fun _ _ => rfl, fun j j0 j1 => by omega⟩
  simp only at hk t1 t2
  have e0 : w / c ^ 0 = w := by rw [Nat.pow_zero, Nat.div_one]
  simp only [hk, e0, sm_rev] at e
  refine ⟨G1, ⟨t1, fun j j0 j1 => t2 j (by omega) j1⟩, ?_⟩
  rw [show (m : Int) - 1 - ((0 : Nat) : Int) = (m : Int) - 1 by omega, show (m : Int) - 1 - (m : Int) = -1 from by omega] at e
  exact e
theorem mBdig {m c w : Nat} (hm : m ≤ 4) (hc : 1 ≤ c ∧ c ≤ 6) (K : Nat → Int32 → Int32 → Int32 → Int32 → Int32 → Int32 → Int32 → Int32 → mH → Option (Int32 × mH)) {x2 x3 x4 x5 x6 x8 : Int32} (hG : ∀ j : Int, 0 ≤ j → j < m → G 115 j = mvW m c w j) (f : Nat) : L_X12_border_218 N K (f + m) 100 (jI m) x2 x3 x4 x5 x6 (jI 0) x8 (jI 0) (hp q G) = L_X12_border_218 N K f 100 (jI m) x2 x3 x4 x5 x6 (jI (bdg (mvW m c w) m)) x8 (jI m) (hp q G) := by
  refine loop (fun f (k : Nat) => L_X12_border_218 N K f 100 (jI m) x2 x3 x4 x5 x6 (jI (bdg (mvW m c w) k)) x8 (jI k) (hp q G)) (fun k => k) m ?_ m 0 f (by omega)
  intro f k hk
  show L_X12_border_218 N K (f + 1) 100 (jI m) x2 x3 x4 x5 x6 (jI (bdg (mvW m c w) k)) x8 (jI k) (hp q G) = L_X12_border_218 N K f 100 (jI m) x2 x3 x4 x5 x6 (jI (10 * bdg (mvW m c w) k + mvW m c w k)) x8 (jI ((k + 1 : Nat) : Int)) (hp q G)
  have g := hG k (by omega) (by omega)
  rw [L_X12_border_218]
  simp (maxSteps := 2000000) (disch := first | assumption | omega) only [jI0, iAdd_j, iSub_j, iMul_j, iNeg_j, Option.bind_some, jlt_t, jlt_f, jlt, jle_t, jle_f, jle, jeq_t, jeq_f, jeq, ↓reduceIte, o100, l115, g, Int.natCast_succ]
theorem mBorder (hN : 10000 ≤ N) (hV : BV (G 102)) {m c : Nat} {x : Int} (hm : 1 ≤ m ∧ m ≤ 4) (hc : 1 ≤ c ∧ c ≤ 6) (hS : 3 ≤ G 102 0) (hcS : (c : Int) < G 102 0) (hx : 0 ≤ x ∧ x ≤ 2) : ∃ G1, (∀ a, a ≠ 115 → G1 a = G a) ∧ L_X12_border_87 N N 100 (jI m) (jI c) (jI x) (jI 1) (jI 0) (hp q G) = some (jI (if x = 0 then ((brS m c (G 102 0) (c ^ m)).1 : Int) else if x = 1 then (brS m c (G 102 0) (c ^ m)).2.1 else (brS m c (G 102 0) (c ^ m)).2.2), hp q G1) := by
  have g := hV.1
  have pw := pow4 hm hc
  have W : L_X12_border_87 N N 100 (jI m) (jI c) (jI x) (jI 1) (jI 0) (hp q G) = L_X12_border_117 N N 100 (jI m) (jI c) (jI x) (jI ((c ^ m : Nat) : Int)) (jI 0) (jI (-1)) (jI (-1)) (jI 0) (hp q G) := by
    refine (loopE (N := N) (fun f (k : Nat) => L_X12_border_87 N f 100 (jI m) (jI c) (jI x) (jI ((c ^ k : Nat) : Int)) (jI k) (hp q G)) (fun k => k) m (r := L_X12_border_117 N N 100 (jI m) (jI c) (jI x) (jI ((c ^ m : Nat) : Int)) (jI 0) (jI (-1)) (jI (-1)) (jI 0) (hp q G)) (by omega) ?_ ?_) |> Eq.trans ?_
    · rfl
    · intro f k hk
      show L_X12_border_87 N (f + 1) 100 (jI m) (jI c) (jI x) (jI ((c ^ k : Nat) : Int)) (jI k) (hp q G) = L_X12_border_87 N f 100 (jI m) (jI c) (jI x) (jI ((c ^ k * c : Nat) : Int)) (jI ((k + 1 : Nat) : Int)) (hp q G)
      rw [L_X12_border_87, Int.natCast_mul]
      simp (maxSteps := 2000000) (disch := first | assumption | omega) only [jI0, iAdd_j, iSub_j, iMul_j, iNeg_j, Option.bind_some, jlt_t, jlt_f, jlt, jle_t, jle_f, jle, jeq_t, jeq_f, jeq, ↓reduceIte, Int.natCast_succ]
    · intro f
      show L_X12_border_87 N (f + 1) 100 (jI m) (jI c) (jI x) (jI ((c ^ m : Nat) : Int)) (jI m) (hp q G) = _
      rw [L_X12_border_87]
      simp (maxSteps := 2000000) (disch := first | assumption | omega) only [jI0, iAdd_j, iSub_j, iMul_j, iNeg_j, Option.bind_some, jlt_t, jlt_f, jlt, jle_t, jle_f, jle, jeq_t, jeq_f, jeq, ↓reduceIte]
  rw [W]
  refine loopG (N := N) (fun f (t : Nat × (Nat → Int → Int)) => L_X12_border_117 N f 100 (jI m) (jI c) (jI x) (jI ((c ^ m : Nat) : Int)) (jI (brS m c (G 102 0) t.1).1) (jI (brS m c (G 102 0) t.1).2.1) (jI (brS m c (G 102 0) t.1).2.2) (jI t.1) (hp q t.2)) (fun k t => t.1 = k ∧ ∀ a, a ≠ 115 → t.2 a = G a) (c ^ m) (by omega) (s := (0, G)) ⟨rfl, fun _ _ => rfl⟩ ?_ ?_
  · rintro f k ⟨i, G1⟩ hk ⟨rfl, t1⟩
    simp only at t1 hk
    obtain ⟨M, hM⟩ : ∃ M, N = (M + 1) + m := ⟨N - 1 - m, by omega⟩
    obtain ⟨G2, ⟨u1', u2⟩, u3⟩ := mDig (q := q) (G := G1) (N := N) hm hc (w := i) (by omega) (L_X12_border_117 N f) (x3 := jI x) (x4 := jI ((c ^ m : Nat) : Int)) (x5 := jI (brS m c (G 102 0) i).1) (x6 := jI (brS m c (G 102 0) i).2.1) (x7 := jI (brS m c (G 102 0) i).2.2) (x8 := jI i) (M + 1)
    rw [← hM] at u3
    have e2 : G2 102 = G 102 := (u1' 102 (by decide)).trans (t1 102 (by decide))
    have vr : ∀ k : Int, 0 ≤ k → k < m → 1 ≤ G2 115 k ∧ G2 115 k < G2 102 0 := fun k k0 k1 => by
      have := mvW_r (m := m) (c := c) (w := i) (k := k) (by omega)
      rw [u2 k k0 k1, e2]
      omega
    have mc := mClosed (q := q) (G := G2) hN (m := m) (by omega) (by rw [e2]; omega) vr
    rw [e2, (clB_c (by omega) u2 _).1] at mc
    have rr := brS_r (S := G 102 0) hm.2 (c := c) (by omega) i
    have s : 0 ≤ sm (mvW m c i) m ∧ sm (mvW m c i) m ≤ 6 * m := sm_le (fun k _ => by have := mvW_r (m := m) (w := i) (k := (k : Int)) (c := c) (by omega); omega)
    have mb := mBdig (q := q) (G := G2) (N := N) hm.2 hc (w := i) (L_X12_border_117 N f) (x2 := jI c) (x3 := jI x) (x4 := jI ((c ^ m : Nat) : Int)) (x5 := jI ((brS m c (G 102 0) i).1 + 1)) (x6 := jI (sm (mvW m c i) m)) (x8 := jI i) u2 (M + 1)
    rw [← hM, L_X12_border_218] at mb
    refine ⟨(i + 1, G2), ⟨rfl, fun a ha => (u1' a ha).trans (t1 a ha)⟩, ?_⟩
    show L_X12_border_117 N (f + 1) 100 (jI m) (jI c) (jI x) (jI ((c ^ m : Nat) : Int)) (jI (brS m c (G 102 0) i).1) (jI (brS m c (G 102 0) i).2.1) (jI (brS m c (G 102 0) i).2.2) (jI i) (hp q G1) = L_X12_border_117 N f 100 (jI m) (jI c) (jI x) (jI ((c ^ m : Nat) : Int)) (jI (brS m c (G 102 0) (i + 1)).1) (jI (brS m c (G 102 0) (i + 1)).2.1) (jI (brS m c (G 102 0) (i + 1)).2.2) (jI ((i + 1 : Nat) : Int)) (hp q G2)
    have es : brS m c (G 102 0) (i + 1) = if clB (mvW m c i) m (G 102 0) (G 102 0).toNat = true then ((brS m c (G 102 0) i).1 + 1, if (brS m c (G 102 0) i).1 = 0 ∨ sm (mvW m c i) m < (brS m c (G 102 0) i).2.1 then (sm (mvW m c i) m, bdg (mvW m c i) m) else (brS m c (G 102 0) i).2) else brS m c (G 102 0) i := rfl
    rw [L_X12_border_117]
    simp only [jlt_t (show -2147483648 ≤ ((i : Nat) : Int) ∧ ((i : Nat) : Int) < ((c ^ m : Nat) : Int) ∧ ((c ^ m : Nat) : Int) < 2147483648 by omega), ↓reduceIte, iSub_j]
    rw [u3, L_X12_border_136]
    by_cases cl : clB (mvW m c i) m (G 102 0) (G 102 0).toNat = true
    · rw [if_pos cl] at es
      rw [cl] at mc
      have b1 : bz true = 1 := rfl
      have mb2 : L_X12_border_218 N (L_X12_border_117 N f) N 100 (jI m) (jI c) (jI x) (jI ((c ^ m : Nat) : Int)) (jI ((brS m c (G 102 0) i).1 + 1)) (jI (sm (mvW m c i) m)) (jI 0) (jI i) (jI 0) (hp q G2) = L_X12_border_117 N f 100 (jI m) (jI c) (jI x) (jI ((c ^ m : Nat) : Int)) (jI ((brS m c (G 102 0) i).1 + 1)) (jI (sm (mvW m c i) m)) (jI (bdg (mvW m c i) m)) (jI (i + 1)) (hp q G2) := by
        rw [mb]
        simp (maxSteps := 2000000) (disch := first | assumption | omega) only [jI0, iAdd_j, iSub_j, iMul_j, iNeg_j, Option.bind_some, jlt_t, jlt_f, jlt, jle_t, jle_f, jle, jeq_t, jeq_f, jeq, ↓reduceIte]
      by_cases d1 : (brS m c (G 102 0) i).1 = 0
      · rw [if_pos (.inl d1)] at es
        have d2 := rr.2.2.2.2.2.mp d1
        rw [es]
        simp (maxSteps := 2000000) (disch := first | assumption | omega) only [jI0, iAdd_j, iSub_j, iMul_j, iNeg_j, Option.bind_some, jlt_t, jlt_f, jlt, jle_t, jle_f, jle, jeq_t, jeq_f, jeq, ↓reduceIte, o100, mc, b1, d2, mb2, Int.natCast_succ]
      · have d2 : (brS m c (G 102 0) i).2.1 ≠ -1 := fun y => d1 (rr.2.2.2.2.2.mpr y)
        by_cases d3 : sm (mvW m c i) m < (brS m c (G 102 0) i).2.1
        · rw [if_pos (.inr d3)] at es
          rw [es]
          simp (maxSteps := 2000000) (disch := first | assumption | omega) only [jI0, iAdd_j, iSub_j, iMul_j, iNeg_j, Option.bind_some, jlt_t, jlt_f, jlt, jle_t, jle_f, jle, jeq_t, jeq_f, jeq, ↓reduceIte, o100, mc, b1, mb2, Int.natCast_succ]
        · rw [if_neg (by omega)] at es
          rw [es]
          simp (maxSteps := 2000000) (disch := first | assumption | omega) only [jI0, iAdd_j, iSub_j, iMul_j, iNeg_j, Option.bind_some, jlt_t, jlt_f, jlt, jle_t, jle_f, jle, jeq_t, jeq_f, jeq, ↓reduceIte, o100, mc, b1, Int.natCast_succ]
    · rw [if_neg cl] at es
      have cl' : clB (mvW m c i) m (G 102 0) (G 102 0).toNat = false := by simpa using cl
      have b1 : bz false = 0 := rfl
      rw [cl'] at mc
      rw [es]
      simp (maxSteps := 2000000) (disch := first | assumption | omega) only [jI0, iAdd_j, iSub_j, iMul_j, iNeg_j, Option.bind_some, jlt_t, jlt_f, jlt, jle_t, jle_f, jle, jeq_t, jeq_f, jeq, ↓reduceIte, o100, mc, b1, Int.natCast_succ]
  · rintro f ⟨i, G1⟩ ⟨rfl, t1⟩
    simp only at t1
    refine ⟨G1, t1, ?_⟩
    show L_X12_border_117 N (f + 1) 100 (jI m) (jI c) (jI x) (jI ((c ^ m : Nat) : Int)) (jI (brS m c (G 102 0) (c ^ m)).1) (jI (brS m c (G 102 0) (c ^ m)).2.1) (jI (brS m c (G 102 0) (c ^ m)).2.2) (jI ((c ^ m : Nat) : Int)) (hp q G1) = _
    rw [L_X12_border_117]
    by_cases x0 : x = 0
    · rw [if_pos x0]
      subst x0
      simp (maxSteps := 2000000) (disch := first | assumption | omega) only [jI0, iAdd_j, iSub_j, iMul_j, iNeg_j, Option.bind_some, jlt_t, jlt_f, jlt, jle_t, jle_f, jle, jeq_t, jeq_f, jeq, ↓reduceIte]
    · rw [if_neg x0]
      by_cases x1 : x = 1
      · rw [if_pos x1]
        subst x1
        simp (maxSteps := 2000000) (disch := first | assumption | omega) only [jI0, iAdd_j, iSub_j, iMul_j, iNeg_j, Option.bind_some, jlt_t, jlt_f, jlt, jle_t, jle_f, jle, jeq_t, jeq_f, jeq, ↓reduceIte]
      · rw [if_neg x1]
        simp (maxSteps := 2000000) (disch := first | assumption | omega) only [jI0, iAdd_j, iSub_j, iMul_j, iNeg_j, Option.bind_some, jlt_t, jlt_f, jlt, jle_t, jle_f, jle, jeq_t, jeq_f, jeq, ↓reduceIte]
theorem op_border (hN : 10000 ≤ N) (hI : INV K1 K2 q G) {m c x : Int} (h1 : -2147483648 ≤ m) (h2 : m < 2147483648) (h3 : -2147483648 ≤ c) (h4 : c < 2147483648) (h5 : -2147483648 ≤ x) (h6 : x < 2147483648) : OP K1 K2 q G (f_X11_border N 0 (jI m) (jI c) (jI x)) (f_X12_border N 100 (jI m) (jI c) (jI x)) := by
  have hB := hI.1.1; have hV := hB.1; have hT := hI.1.2.1; have g := hV.1
  have b0 := hB.2.1.1
  by_cases c1 : G 102 0 = 0
  · refine OP.rf hI (-5) (jI (-5)) ?_ ?_
    · unfold f_X11_border
      simp (maxSteps := 2000000) (disch := first | assumption | omega) only [jI0, iAdd_j, iSub_j, iMul_j, iNeg_j, Option.bind_some, jlt_t, jlt_f, jlt, jle_t, jle_f, jle, jeq_t, jeq_f, jeq, ↓reduceIte, o0, o2, o12, hBand, hStake, hKind, hCross, hWeaver, oBand, oKindOf, oKind, oCr, oRing, oWv, oPer, oRows, oAhead, oWhen, oAll, oStep, oRods, oRodAt, oStakeAt, oOff, bI_t, bI_f, X11_refuse, b0]
    · intro G1 hM e eo
      rw [← e] at c1
      have hV1 := hM.1; have hT1 := hM.2; (try rw [← e] at dm); (try rw [← e] at dr); (try rw [← e] at de); (try rw [← e] at dl); (try rw [← e] at hb); (try rw [← e] at hj); (try rw [← e] at hr); (try rw [← e] at hs); (try rw [← e] at pl); (try rw [← e] at al); (try rw [← e] at g); (try rw [← e] at c); (try rw [← e] at c1); (try rw [← e] at c2); (try rw [← e] at c3); (try rw [← e] at c4); (try rw [← e] at c5); (try rw [← e] at c6); (try rw [← e] at wb); (try rw [← e] at pr); (try rw [← e] at kd); (try rw [← e] at cr); (try rw [← e] at fe); (try rw [← e] at ra); (try rw [← e] at f1); (try rw [← e] at f2); (try rw [← e] at f3); (try rw [← e] at f4); (try rw [← e])
      unfold f_X12_border
      simp (maxSteps := 2000000) (disch := first | assumption | omega) only [jI0, iAdd_j, iSub_j, iMul_j, iNeg_j, Option.bind_some, jlt_t, jlt_f, jlt, jle_t, jle_f, jle, jeq_t, jeq_f, jeq, ↓reduceIte, o100, w100t, l102, mBand, mStake, mKind, mCross, mCr, mKindOf, mAhead, mWhen, mStep, mRods, mRodAt, mStakeAt, mIndex, mOver, mOverIn, jlL, X12_within, bI_t, bI_f, X12_no]
  · have S3 : 3 ≤ G 102 0 := by omega
    by_cases c2 : (1 ≤ m ∧ m ≤ 4) ∧ (1 ≤ c ∧ c ≤ 6) ∧ c < G 102 0
    · by_cases c3 : 0 ≤ x ∧ x ≤ 2
      · obtain ⟨d1, d2, d3⟩ := c2
        obtain ⟨m, rfl⟩ := Int.eq_ofNat_of_zero_le (show 0 ≤ m by omega)
        obtain ⟨c, rfl⟩ := Int.eq_ofNat_of_zero_le (show 0 ≤ c by omega)
        obtain ⟨G1, t1, t2⟩ := oBorder (q := q) hN hB (m := m) (c := c) (by omega) (by omega) S3 d3 c3
        refine OP.sc hI (jI (if x = 0 then ((brS m c (G 102 0) (c ^ m)).1 : Int) else if x = 1 then (brS m c (G 102 0) (c ^ m)).2.1 else (brS m c (G 102 0) (c ^ m)).2.2)) ⟨G1, SC.one (c := 99) t1 rfl, ?_⟩ ?_
        · unfold f_X11_border
          simp (maxSteps := 2000000) (disch := first | assumption | omega) only [jI0, iAdd_j, iSub_j, iMul_j, iNeg_j, Option.bind_some, jlt_t, jlt_f, jlt, jle_t, jle_f, jle, jeq_t, jeq_f, jeq, ↓reduceIte, o0, o2, o12, hBand, hStake, hKind, hCross, hWeaver, oBand, oKindOf, oKind, oCr, oRing, oWv, oPer, oRows, oAhead, oWhen, oAll, oStep, oRods, oRodAt, oStakeAt, oOff, bI_t, bI_f, X11_refuse, b0, t2]
        · intro G2 s2 hM e
          have hT1 := hM.2
          obtain ⟨G3, u1', u2⟩ := mBorder (q := q) (G := G2) hN hM.1 (m := m) (c := c) (x := x) (by omega) (by omega) (by rw [e]; exact S3) (by rw [e]; exact d3) c3
          rw [e] at u2
          have l0 := l102 q G2 (i := 0) (by decide) (by decide)
          rw [e] at l0
          refine ⟨G3, SC.one (c := 115) u1' rfl, ?_⟩
          unfold f_X12_border
          simp (maxSteps := 2000000) (disch := first | assumption | omega) only [jI0, iAdd_j, iSub_j, iMul_j, iNeg_j, Option.bind_some, jlt_t, jlt_f, jlt, jle_t, jle_f, jle, jeq_t, jeq_f, jeq, ↓reduceIte, o100, w100t, l0, jlL, X12_within, bI_t, u2]
      · refine OP.rf hI (-2) (jI (-2)) ?_ ?_
        · unfold f_X11_border
          by_cases d : x < 0 <;> simp (maxSteps := 2000000) (disch := first | assumption | omega) only [jI0, iAdd_j, iSub_j, iMul_j, iNeg_j, Option.bind_some, jlt_t, jlt_f, jlt, jle_t, jle_f, jle, jeq_t, jeq_f, jeq, ↓reduceIte, o0, o2, o12, hBand, hStake, hKind, hCross, hWeaver, oBand, oKindOf, oKind, oCr, oRing, oWv, oPer, oRows, oAhead, oWhen, oAll, oStep, oRods, oRodAt, oStakeAt, oOff, bI_t, bI_f, X11_refuse, b0]
        · intro G1 hM e eo
          rw [← e] at c1 S3 c2
          have hV1 := hM.1; have hT1 := hM.2; (try rw [← e] at dm); (try rw [← e] at dr); (try rw [← e] at de); (try rw [← e] at dl); (try rw [← e] at hb); (try rw [← e] at hj); (try rw [← e] at hr); (try rw [← e] at hs); (try rw [← e] at pl); (try rw [← e] at al); (try rw [← e] at g); (try rw [← e] at c); (try rw [← e] at c1); (try rw [← e] at c2); (try rw [← e] at c3); (try rw [← e] at c4); (try rw [← e] at c5); (try rw [← e] at c6); (try rw [← e] at wb); (try rw [← e] at pr); (try rw [← e] at kd); (try rw [← e] at cr); (try rw [← e] at fe); (try rw [← e] at ra); (try rw [← e] at f1); (try rw [← e] at f2); (try rw [← e] at f3); (try rw [← e] at f4); (try rw [← e])
          unfold f_X12_border
          simp (maxSteps := 2000000) (disch := first | assumption | omega) only [jI0, iAdd_j, iSub_j, iMul_j, iNeg_j, Option.bind_some, jlt_t, jlt_f, jlt, jle_t, jle_f, jle, jeq_t, jeq_f, jeq, ↓reduceIte, o100, w100t, l102, mBand, mStake, mKind, mCross, mCr, mKindOf, mAhead, mWhen, mStep, mRods, mRodAt, mStakeAt, mIndex, mOver, mOverIn, jlL, X12_within, bI_t, bI_f, X12_no]
    · refine OP.rf hI (-3) (jI (-3)) ?_ ?_
      · unfold f_X11_border
        by_cases d1 : m < 1
        · simp (maxSteps := 2000000) (disch := first | assumption | omega) only [jI0, iAdd_j, iSub_j, iMul_j, iNeg_j, Option.bind_some, jlt_t, jlt_f, jlt, jle_t, jle_f, jle, jeq_t, jeq_f, jeq, ↓reduceIte, o0, o2, o12, hBand, hStake, hKind, hCross, hWeaver, oBand, oKindOf, oKind, oCr, oRing, oWv, oPer, oRows, oAhead, oWhen, oAll, oStep, oRods, oRodAt, oStakeAt, oOff, bI_t, bI_f, X11_refuse, b0]
        · by_cases d2 : 4 < m
          · simp (maxSteps := 2000000) (disch := first | assumption | omega) only [jI0, iAdd_j, iSub_j, iMul_j, iNeg_j, Option.bind_some, jlt_t, jlt_f, jlt, jle_t, jle_f, jle, jeq_t, jeq_f, jeq, ↓reduceIte, o0, o2, o12, hBand, hStake, hKind, hCross, hWeaver, oBand, oKindOf, oKind, oCr, oRing, oWv, oPer, oRows, oAhead, oWhen, oAll, oStep, oRods, oRodAt, oStakeAt, oOff, bI_t, bI_f, X11_refuse, b0]
          · by_cases d3 : c < 1
            · simp (maxSteps := 2000000) (disch := first | assumption | omega) only [jI0, iAdd_j, iSub_j, iMul_j, iNeg_j, Option.bind_some, jlt_t, jlt_f, jlt, jle_t, jle_f, jle, jeq_t, jeq_f, jeq, ↓reduceIte, o0, o2, o12, hBand, hStake, hKind, hCross, hWeaver, oBand, oKindOf, oKind, oCr, oRing, oWv, oPer, oRows, oAhead, oWhen, oAll, oStep, oRods, oRodAt, oStakeAt, oOff, bI_t, bI_f, X11_refuse, b0]
            · by_cases d4 : 6 < c
              · simp (maxSteps := 2000000) (disch := first | assumption | omega) only [jI0, iAdd_j, iSub_j, iMul_j, iNeg_j, Option.bind_some, jlt_t, jlt_f, jlt, jle_t, jle_f, jle, jeq_t, jeq_f, jeq, ↓reduceIte, o0, o2, o12, hBand, hStake, hKind, hCross, hWeaver, oBand, oKindOf, oKind, oCr, oRing, oWv, oPer, oRows, oAhead, oWhen, oAll, oStep, oRods, oRodAt, oStakeAt, oOff, bI_t, bI_f, X11_refuse, b0]
              · simp (maxSteps := 2000000) (disch := first | assumption | omega) only [jI0, iAdd_j, iSub_j, iMul_j, iNeg_j, Option.bind_some, jlt_t, jlt_f, jlt, jle_t, jle_f, jle, jeq_t, jeq_f, jeq, ↓reduceIte, o0, o2, o12, hBand, hStake, hKind, hCross, hWeaver, oBand, oKindOf, oKind, oCr, oRing, oWv, oPer, oRows, oAhead, oWhen, oAll, oStep, oRods, oRodAt, oStakeAt, oOff, bI_t, bI_f, X11_refuse, b0]
      · intro G1 hM e eo
        rw [← e] at c1 S3 c2
        have hV1 := hM.1; have hT1 := hM.2; (try rw [← e] at dm); (try rw [← e] at dr); (try rw [← e] at de); (try rw [← e] at dl); (try rw [← e] at hb); (try rw [← e] at hj); (try rw [← e] at hr); (try rw [← e] at hs); (try rw [← e] at pl); (try rw [← e] at al); (try rw [← e] at g); (try rw [← e] at c); (try rw [← e] at c1); (try rw [← e] at c2); (try rw [← e] at c3); (try rw [← e] at c4); (try rw [← e] at c5); (try rw [← e] at c6); (try rw [← e] at wb); (try rw [← e] at pr); (try rw [← e] at kd); (try rw [← e] at cr); (try rw [← e] at fe); (try rw [← e] at ra); (try rw [← e] at f1); (try rw [← e] at f2); (try rw [← e] at f3); (try rw [← e] at f4); (try rw [← e])
        unfold f_X12_border
        by_cases d1 : 1 ≤ m ∧ m ≤ 4
        · by_cases d2 : 1 ≤ c ∧ c ≤ 6
          · simp (maxSteps := 2000000) (disch := first | assumption | omega) only [jI0, iAdd_j, iSub_j, iMul_j, iNeg_j, Option.bind_some, jlt_t, jlt_f, jlt, jle_t, jle_f, jle, jeq_t, jeq_f, jeq, ↓reduceIte, o100, w100t, l102, mBand, mStake, mKind, mCross, mCr, mKindOf, mAhead, mWhen, mStep, mRods, mRodAt, mStakeAt, mIndex, mOver, mOverIn, jlL, X12_within, bI_t, bI_f, X12_no]
          · simp (maxSteps := 2000000) (disch := first | assumption | omega) only [jI0, iAdd_j, iSub_j, iMul_j, iNeg_j, Option.bind_some, jlt_t, jlt_f, jlt, jle_t, jle_f, jle, jeq_t, jeq_f, jeq, ↓reduceIte, o100, w100t, l102, mBand, mStake, mKind, mCross, mCr, mKindOf, mAhead, mWhen, mStep, mRods, mRodAt, mStakeAt, mIndex, mOver, mOverIn, jlL, X12_within, bI_t, bI_f, X12_no]
        · simp (maxSteps := 2000000) (disch := first | assumption | omega) only [jI0, iAdd_j, iSub_j, iMul_j, iNeg_j, Option.bind_some, jlt_t, jlt_f, jlt, jle_t, jle_f, jle, jeq_t, jeq_f, jeq, ↓reduceIte, o100, w100t, l102, mBand, mStake, mKind, mCross, mCr, mKindOf, mAhead, mWhen, mStep, mRods, mRodAt, mStakeAt, mIndex, mOver, mOverIn, jlL, X12_within, bI_t, bI_f, X12_no]
end
