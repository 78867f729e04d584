/-! ROWS OF NUMBERS: numbers, write, copy -/
section
variable {K1 K2 : (Int → Int) → (Int → Int) → Prop} {q : Nat × Nat × (Nat → Nat)} {G : Nat → Int → Int} {N : Nat}
theorem r4 {r : Nat} (h : r < 4) : r = 0 ∨ r = 1 ∨ r = 2 ∨ r = 3 := by omega
theorem ro {r : Nat} (h : r < 4) : rcv (hp q G) 5 (37 + 2 * r) = some () ∧ gI (hp q G) 5 (37 + 2 * r) 0 = some (jI (G (37 + 2 * r) 0)) ∧ gI (hp q G) 5 (37 + 2 * r) 1 = some (jI (G (37 + 2 * r) 1)) ∧ gR (hp q G) 5 (37 + 2 * r) 2 = some (38 + 2 * r) := by
  rcases r4 h with rfl | rfl | rfl | rfl
  · exact o37 _ _
  · exact o39 _ _
  · exact o41 _ _
  · exact o43 _ _
theorem rW {r : Nat} (h : r < 4) (v : Int) : pV (hp q G) 5 (37 + 2 * r) 0 (.int (jI v)) = some (hp q (up G (37 + 2 * r) 0 v)) ∧ pV (hp q G) 5 (37 + 2 * r) 1 (.int (jI v)) = some (hp q (up G (37 + 2 * r) 1 v)) := by
  rcases r4 h with rfl | rfl | rfl | rfl
  · exact w37 _ _ v
  · exact w39 _ _ v
  · exact w41 _ _ v
  · exact w43 _ _ v
theorem rl {r : Nat} (h : r < 4) {i : Int} (h0 : 0 ≤ i) (h1 : i < 40) : ldL (hp q G) (38 + 2 * r) (jI i) = some (jL (G (38 + 2 * r) i)) := by
  rcases r4 h with rfl | rfl | rfl | rfl
  · exact l38 _ _ h0 h1
  · exact l40 _ _ h0 h1
  · exact l42 _ _ h0 h1
  · exact l44 _ _ h0 h1
theorem rs {r : Nat} (h : r < 4) {i v : Int} (h0 : 0 ≤ i) (h1 : i < 40) : stL (hp q G) (38 + 2 * r) (jI i) (jL v) = some (hp q (up G (38 + 2 * r) i v)) := by
  rcases r4 h with rfl | rfl | rfl | rfl
  · exact s38 _ _ v h0 h1
  · exact s40 _ _ v h0 h1
  · exact s42 _ _ v h0 h1
  · exact s44 _ _ v h0 h1
theorem rn {r : Nat} (h : r < 4) : lnA (hp q G) (38 + 2 * r) = some (jI 40) := by
  rcases r4 h with rfl | rfl | rfl | rfl
  · exact n38 _ _
  · exact n40 _ _
  · exact n42 _ _
  · exact n44 _ _
theorem rA {r : Nat} (h : r < 4) : ldR 4 (hp q G) 36 (jI r) = some (37 + 2 * r) := by
  have hc : cell (hp q G) 36 = some (.inl (4, 4, arr 4 (G 36))) := cell_hp (by omega)
  rw [ldR_c hc (by omega) (by omega) (by omega)]
  rcases r4 h with rfl | rfl | rfl | rfl <;> rfl
theorem oIsRow {i : Int} (h1 : -2147483648 ≤ i) (h2 : i < 2147483648) : f_X11_isRow N 0 (jI i) (hp q G) = some (bI (0 ≤ i ∧ i < 4), hp q G) := by
  unfold f_X11_isRow
  by_cases c1 : i < 0
  · simp (maxSteps := 2000000) (disch := first | assumption | omega) only [jI0, iAdd_j, iSub_j, iMul_j, iNeg_j, Option.bind_some, jlt_t, jlt_f, jlt, jle_t, jle_f, jle, jeq_t, jeq_f, jeq, ↓reduceIte, bI_f]
  · by_cases c2 : i < 4
    · simp (maxSteps := 2000000) (disch := first | assumption | omega) only [jI0, iAdd_j, iSub_j, iMul_j, iNeg_j, Option.bind_some, jlt_t, jlt_f, jlt, jle_t, jle_f, jle, jeq_t, jeq_f, jeq, ↓reduceIte, o0, n36, bI_t]
    · simp (maxSteps := 2000000) (disch := first | assumption | omega) only [jI0, iAdd_j, iSub_j, iMul_j, iNeg_j, Option.bind_some, jlt_t, jlt_f, jlt, jle_t, jle_f, jle, jeq_t, jeq_f, jeq, ↓reduceIte, o0, n36, bI_f]
theorem oMiss {r : Nat} (h : r < 4) (h1 : -2147483648 ≤ G (37 + 2 * r) 0) (h2 : G (37 + 2 * r) 0 < 2147483648) : f_X5_isMissing N (37 + 2 * r) (hp q G) = some (bI (G (37 + 2 * r) 0 = -1), hp q G) := by
  unfold f_X5_isMissing
  by_cases c : G (37 + 2 * r) 0 = -1
  · simp (maxSteps := 2000000) (disch := first | assumption | omega) only [jI0, iAdd_j, iSub_j, iMul_j, iNeg_j, Option.bind_some, jlt_t, jlt_f, jlt, jle_t, jle_f, jle, jeq_t, jeq_f, jeq, ↓reduceIte, ro, bI_t]
  · simp (maxSteps := 2000000) (disch := first | assumption | omega) only [jI0, iAdd_j, iSub_j, iMul_j, iNeg_j, Option.bind_some, jlt_t, jlt_f, jlt, jle_t, jle_f, jle, jeq_t, jeq_f, jeq, ↓reduceIte, ro, bI_f]
theorem INV.nr (hI : INV K1 K2 q G) {r : Nat} (h : r < 4) : NR r (G (37 + 2 * r)) (G (38 + 2 * r)) (G 117) (G 118) (G 119) := by
  have := hI.1.2.2.2.2.2.2.2.2.2.1
  rcases r4 h with rfl | rfl | rfl | rfl
  · exact this.1
  · exact this.2.1
  · exact this.2.2.1
  · exact this.2.2.2
/-- a row that is there -/
def RP (G : Nat → Int → Int) (r : Nat) : Prop := 0 ≤ G (37 + 2 * r) 0 ∧ G (37 + 2 * r) 0 ≤ 40 ∧ G 118 r = G (37 + 2 * r) 0 ∧ G 117 r = G (37 + 2 * r) 1 ∧ 0 ≤ G (37 + 2 * r) 1 ∧ G (37 + 2 * r) 1 ≤ 3 ∧ ∀ k, 0 ≤ k → k < G (37 + 2 * r) 0 → G 119 (40 * r + k) = G (38 + 2 * r) k ∧ -9223372036854775808 ≤ G (38 + 2 * r) k ∧ G (38 + 2 * r) k < 9223372036854775808
theorem INV.rp (hI : INV K1 K2 q G) {r : Nat} (h : r < 4) : (G (37 + 2 * r) 0 = -1 ∧ G 117 r = -1) ∨ RP G r := by
  rcases hI.nr h with x | ⟨a, b, c, d, e, f, g⟩
  · exact .inl x
  · exact .inr ⟨a, b, c, d, e, f, fun k k0 k1 => ⟨(g k k0 k1).1.symm, (g k k0 k1).2⟩⟩
theorem INV.row (hI : INV K1 K2 q G) {r : Nat} (hr : r < 4) {G2 : Nat → Int → Int} (h : ∀ a, a ≠ 37 + 2 * r → a ≠ 38 + 2 * r → a ≠ 117 → a ≠ 118 → a ≠ 119 → G2 a = G a) (hs : ∀ i : Int, i ≠ r → G2 117 i = G 117 i ∧ G2 118 i = G 118 i) (hn : ∀ i : Int, (i < 40 * r ∨ 40 * r + 40 ≤ i) → G2 119 i = G 119 i) (hw : NR r (G2 (37 + 2 * r)) (G2 (38 + 2 * r)) (G2 117) (G2 118) (G2 119)) : INV K1 K2 q G2 := by
  have other : ∀ r' : Nat, r' < 4 → r' ≠ r → NR r' (G2 (37 + 2 * r')) (G2 (38 + 2 * r')) (G2 117) (G2 118) (G2 119) := by
    intro r' h1 h2
    have o := hI.nr h1
    have e1 : G2 (37 + 2 * r') = G (37 + 2 * r') := h _ (by omega) (by omega) (by omega) (by omega) (by omega)
    have e2 : G2 (38 + 2 * r') = G (38 + 2 * r') := h _ (by omega) (by omega) (by omega) (by omega) (by omega)
    have s := hs r' (by omega)
    unfold NR at *
    rw [e1, e2, s.1, s.2]
    rcases o with o | ⟨a, b, c, d, e, f, g⟩
    · exact .inl o
    · exact .inr ⟨a, b, c, d, e, f, fun k k0 k1 => by rw [hn _ (by omega)]; exact g k k0 k1⟩
  have all : ∀ r' : Nat, r' < 4 → NR r' (G2 (37 + 2 * r')) (G2 (38 + 2 * r')) (G2 117) (G2 118) (G2 119) := by
    intro r' h1
    by_cases c : r' = r
    · subst c; exact hw
    · exact other r' h1 c
  have E : ∀ a, (a < 37 ∨ 44 < a) → a ≠ 117 → a ≠ 118 → a ≠ 119 → G2 a = G a := fun a h1 h2 h3 h4 => h a (by omega) (by omega) h2 h3 h4
  obtain ⟨i0, i1⟩ := hI
  refine ⟨?_, fun k k0 k1 => by rw [E 98 (by omega) (by omega) (by omega) (by omega), E 101 (by omega) (by omega) (by omega) (by omega)]; exact i1 k k0 k1⟩
  have e : ∀ a, (decide (a < 37 ∨ 44 < a) && decide (a ≠ 117) && decide (a ≠ 118) && decide (a ≠ 119)) = true → G2 a = G a := fun a h => by
    simp only [Bool.and_eq_true, decide_eq_true_eq] at h
    exact E a h.1.1.1 h.1.1.2 h.1.2 h.2
  have n0 := all 0 (by omega)
  have n1 := all 1 (by omega)
  have n2 := all 2 (by omega)
  have n3 := all 3 (by omega)
  unfold INV0 BB BW at *
  rw [e 0 rfl, e 1 rfl, e 2 rfl, e 3 rfl, e 4 rfl, e 5 rfl, e 10 rfl, e 12 rfl, e 13 rfl, e 17 rfl, e 18 rfl, e 20 rfl, e 21 rfl, e 22 rfl, e 23 rfl, e 25 rfl, e 31 rfl, e 32 rfl, e 34 rfl, e 46 rfl, e 47 rfl, e 48 rfl, e 49 rfl, e 50 rfl, e 51 rfl, e 52 rfl, e 54 rfl, e 55 rfl, e 56 rfl, e 57 rfl, e 60 rfl, e 62 rfl, e 63 rfl, e 64 rfl, e 65 rfl, e 66 rfl, e 67 rfl, e 68 rfl, e 70 rfl, e 71 rfl, e 72 rfl, e 73 rfl, e 76 rfl, e 82 rfl, e 100 rfl, e 102 rfl, e 103 rfl, e 104 rfl]
  obtain ⟨t1, t2, t3, t4, t5, t6, t7, t8, t9, t10, t11⟩ := i0
  exact ⟨t1, t2, t3, t4, t5, t6, t7, t8, t9, ⟨n0, n1, n2, n3⟩, t11⟩
theorem fill_l {r : Nat} {v : Int} (hN : 10000 ≤ N) (hr : r < 4) : f_J7_fill_d0a16 N (38 + 2 * r) (jL v) (hp q G) = some (hp q (fl G (38 + 2 * r) 40 v)) := by
  unfold f_J7_fill_d0a16
  rw [rn hr]
  simp only [Option.bind_some]
  refine (loopE (N := N) (fun m (t : Int × (Nat → Int → Int)) => L_J7_fill_d0a16_6 N m (38 + 2 * r) (jL v) (jI t.1) (jI 40) (hp q t.2)) (fun k => ((k : Int), fl G (38 + 2 * r) k v)) 40 (r := some (hp q (fl G (38 + 2 * r) 40 v))) (by omega) ?_ ?_) |> Eq.trans ?_
  · show _ = L_J7_fill_d0a16_6 N N (38 + 2 * r) (jL v) (jI 0) (jI 40) (hp q (fl G (38 + 2 * r) 0 v))
    have : fl G (38 + 2 * r) 0 v = G := by
      funext b j
      unfold fl
      by_cases c : b = 38 + 2 * r
      · subst c
        rw [if_pos rfl, if_neg (by omega)]
      · rw [if_neg c]
    rw [this]
  · intro m k hk
    show L_J7_fill_d0a16_6 N (m + 1) (38 + 2 * r) (jL v) (jI k) (jI 40) (hp q (fl G (38 + 2 * r) k v)) = L_J7_fill_d0a16_6 N m (38 + 2 * r) (jL v) (jI ((k + 1 : Nat) : Int)) (jI 40) (hp q (fl G (38 + 2 * r) (k + 1) v))
    have : up (fl G (38 + 2 * r) k v) (38 + 2 * r) k v = fl G (38 + 2 * r) (k + 1) v := by
      funext b j
      by_cases c : b = 38 + 2 * r
      · subst c
        rw [up_eq]
        unfold fl
        rw [if_pos rfl, if_pos rfl]
        by_cases d : j = k
        · subst d
          rw [u1_eq, if_pos (by omega)]
        · rw [u1_ne d]
          by_cases d2 : 0 ≤ j ∧ j < k
          · rw [if_pos d2, if_pos (by omega)]
          · rw [if_neg d2, if_neg (by omega)]
      · rw [up_ne c, fl_ne c, fl_ne c]
    rw [L_J7_fill_d0a16_6]
    simp (maxSteps := 2000000) (disch := first | assumption | omega) only [jI0, iAdd_j, iSub_j, iMul_j, iNeg_j, Option.bind_some, jlt_t, jlt_f, jlt, jle_t, jle_f, jle, jeq_t, jeq_f, jeq, ↓reduceIte, rs, this, Int.natCast_succ]
  · intro m
    show L_J7_fill_d0a16_6 N (m + 1) (38 + 2 * r) (jL v) (jI 40) (jI 40) (hp q (fl G (38 + 2 * r) 40 v)) = _
    rw [L_J7_fill_d0a16_6]
    simp (maxSteps := 2000000) (disch := first | assumption | omega) only [jI0, iAdd_j, iSub_j, iMul_j, iNeg_j, Option.bind_some, jlt_t, jlt_f, jlt, jle_t, jle_f, jle, jeq_t, jeq_f, jeq, ↓reduceIte]
theorem op_numbers (hN : 10000 ≤ N) (hI : INV K1 K2 q G) {row so n : Int} (h1 : -2147483648 ≤ row) (h2 : row < 2147483648) (h3 : -2147483648 ≤ so) (h4 : so < 2147483648) (h5 : -2147483648 ≤ n) (h6 : n < 2147483648) : OP K1 K2 q G (f_X11_numbers N 0 (jI row) (jI so) (jI n)) (f_X12_numbers N 100 (jI row) (jI so) (jI n)) := by
  have hB := hI.1.1; have hV := hB.1; have hT := hI.1.2.1; have g := hV.1
  by_cases c : 0 ≤ row ∧ row < 4
  · obtain ⟨r, rfl⟩ := Int.eq_ofNat_of_zero_le c.1
    have hr : r < 4 := by omega
    by_cases c1 : 0 ≤ so ∧ so ≤ 3
    · by_cases c2 : 0 ≤ n ∧ n ≤ 40
      · generalize hG1 : fl (up (up G (37 + 2 * r) 1 so) (37 + 2 * r) 0 n) (38 + 2 * r) 40 0 = G1
        have A : ∀ a, a ≠ 37 + 2 * r → a ≠ 38 + 2 * r → G1 a = G a := fun a x y => by rw [← hG1, fl_ne y, up_ne x, up_ne x]
        have A0 : G1 (37 + 2 * r) 0 = n ∧ G1 (37 + 2 * r) 1 = so := by
          rw [← hG1, fl_ne (by omega), up_eq]
          exact ⟨u1_eq, by rw [u1_ne (by omega), up_eq, u1_eq]⟩
        have A1 : ∀ k, 0 ≤ k → k < 40 → G1 (38 + 2 * r) k = 0 := fun k k0 k1 => by rw [← hG1]; exact fl_eq k0 k1
        have T1 : G1 100 0 = 0 := by rw [A 100 (by omega) (by omega)]; exact hT
        have M : ∃ G2, ((∀ a, a ≠ 117 → a ≠ 118 → a ≠ 119 → G2 a = G1 a) ∧ G2 117 = u1 (G1 117) r so ∧ G2 118 = u1 (G1 118) r n ∧ ∀ i : Int, G2 119 i = if 40 * r ≤ i ∧ i < 40 * r + n then 0 else G1 119 i) ∧ L_X12_numbers_72 N N 100 (jI r) (jI n) (jI 0) (hp q (up (up G1 117 r so) 118 r n)) = some (jI 0, hp q G2) := by
          refine loopG (N := N) (fun m (t : Int × (Nat → Int → Int)) => L_X12_numbers_72 N m 100 (jI r) (jI n) (jI t.1) (hp q t.2)) (fun k t => t.1 = k ∧ (∀ a, a ≠ 119 → t.2 a = up (up G1 117 r so) 118 r n a) ∧ ∀ i : Int, t.2 119 i = if 40 * r ≤ i ∧ i < 40 * r + (k : Int) then 0 else G1 119 i) n.toNat (by omega) (s := (0, up (up G1 117 r so) 118 r n)) ⟨rfl, fun _ _ => rfl, fun i => ?_⟩ ?_ ?_
          · rw [if_neg (by omega)]
            show up (up G1 117 r so) 118 r n 119 i = _
            rw [up_ne (by decide), up_ne (by decide)]
          · rintro m k ⟨i, G2⟩ hk ⟨rfl, t1, t2⟩
            simp only at t1 t2
            refine ⟨(((k + 1 : Nat) : Int), up G2 119 (40 * r + k) 0), ⟨rfl, fun a ha => (up_ne ha).trans (t1 a ha), fun i => ?_⟩, ?_⟩
            · show up G2 119 (40 * r + k) 0 119 i = _
              rw [up_eq]
              by_cases d : i = 40 * r + k
              · rw [d, u1_eq, if_pos (by omega)]
              · rw [u1_ne d, t2 i]
                by_cases d2 : 40 * (r : Int) ≤ i ∧ i < 40 * r + (k : Int)
                · rw [if_pos d2, if_pos (by omega)]
                · rw [if_neg d2, if_neg (by omega)]
            · show L_X12_numbers_72 N (m + 1) 100 (jI r) (jI n) (jI (k : Int)) (hp q G2) = L_X12_numbers_72 N m 100 (jI r) (jI n) (jI ((k + 1 : Nat) : Int)) (hp q (up G2 119 (40 * r + k) 0))
              rw [L_X12_numbers_72]
              simp (maxSteps := 2000000) (disch := first | assumption | omega) only [jI0, iAdd_j, iSub_j, iMul_j, iNeg_j, Option.bind_some, jlt_t, jlt_f, jlt, jle_t, jle_f, jle, jeq_t, jeq_f, jeq, ↓reduceIte, o100, s119, Int.natCast_succ]
          · rintro m ⟨i, G2⟩ ⟨rfl, t1, t2⟩
            simp only at t1 t2
            refine ⟨G2, ⟨fun a a1 a2 a3 => by rw [t1 a a3, up_ne a2, up_ne a1], by rw [t1 117 (by decide), up_ne (by decide), up_eq], by rw [t1 118 (by decide), up_eq, up_ne (by decide)], fun i => by rw [t2 i]; congr 1; apply propext; omega⟩, ?_⟩
            show L_X12_numbers_72 N (m + 1) 100 (jI r) (jI n) (jI (n.toNat : Int)) (hp q G2) = _
            rw [L_X12_numbers_72]
            simp (maxSteps := 2000000) (disch := first | assumption | omega) only [jI0, iAdd_j, iSub_j, iMul_j, iNeg_j, Option.bind_some, jlt_t, jlt_f, jlt, jle_t, jle_f, jle, jeq_t, jeq_f, jeq, ↓reduceIte]
        obtain ⟨G2, ⟨m1, m2, m3, m4⟩, e⟩ := M
        refine ⟨jI 0, q, G1, G2, ?_, ?_, ?_⟩
        · unfold f_X11_numbers f_X5_begin
          have mn : min n 40 = n := Int.min_eq_left (by omega)
          simp (maxSteps := 2000000) (disch := first | assumption | omega) only [jI0, iAdd_j, iSub_j, iMul_j, iNeg_j, Option.bind_some, jlt_t, jlt_f, jlt, jle_t, jle_f, jle, jeq_t, jeq_f, jeq, ↓reduceIte, o0, o2, o12, hBand, hStake, hKind, hCross, hWeaver, oBand, oKindOf, oKind, oCr, oRing, oWv, oPer, oRows, oAhead, oWhen, oAll, oStep, oRods, oRodAt, oStakeAt, oOff, bI_t, bI_f, X11_refuse, oIsRow, rA, ro, rW, iMin_j, mn, fill_l, hG1]
        · unfold f_X12_numbers
          have wt := w100t (q := q) T1
          simp (maxSteps := 2000000) (disch := first | assumption | omega) only [jI0, iAdd_j, iSub_j, iMul_j, iNeg_j, Option.bind_some, jlt_t, jlt_f, jlt, jle_t, jle_f, jle, jeq_t, jeq_f, jeq, ↓reduceIte, wt, jlL, X12_within, bI_t, o100, s117, s118, e]
        · refine hI.row hr ?_ ?_ ?_ ?_
          · intro a a1 a2 a3 a4 a5
            rw [m1 a a3 a4 a5, A a a1 a2]
          · intro i hi
            rw [m2, m3, u1_ne hi, u1_ne hi, A 117 (by omega) (by omega), A 118 (by omega) (by omega)]
            exact ⟨rfl, rfl⟩
          · intro i hi
            rw [m4, if_neg (by omega), A 119 (by omega) (by omega)]
          · right
            rw [m1 (37 + 2 * r) (by omega) (by omega) (by omega), m1 (38 + 2 * r) (by omega) (by omega) (by omega), A0.1, A0.2, m2, m3, u1_eq, u1_eq]
            refine ⟨c2.1, c2.2, rfl, rfl, c1.1, c1.2, fun k k0 k1 => ?_⟩
            rw [m4, if_pos (by omega), A1 k k0 (by omega)]
            omega
      · refine OP.rf hI (-3) (jI (-3)) ?_ ?_
        · unfold f_X11_numbers
          by_cases d : n < 0 <;> simp (maxSteps := 2000000) (disch := first | assumption | omega) only [jI0, iAdd_j, iSub_j, iMul_j, iNeg_j, Option.bind_some, jlt_t, jlt_f, jlt, jle_t, jle_f, jle, jeq_t, jeq_f, jeq, ↓reduceIte, o0, o2, o12, hBand, hStake, hKind, hCross, hWeaver, oBand, oKindOf, oKind, oCr, oRing, oWv, oPer, oRows, oAhead, oWhen, oAll, oStep, oRods, oRodAt, oStakeAt, oOff, bI_t, bI_f, X11_refuse, oIsRow]
        · intro G1 hM e eo
          have hV1 := hM.1; have hT1 := hM.2; (try rw [← e] at dm); (try rw [← e] at dr); (try rw [← e] at de); (try rw [← e] at dl); (try rw [← e] at hb); (try rw [← e] at hj); (try rw [← e] at hr); (try rw [← e] at hs); (try rw [← e] at pl); (try rw [← e] at al); (try rw [← e] at g); (try rw [← e] at c); (try rw [← e] at c1); (try rw [← e] at c2); (try rw [← e] at c3); (try rw [← e] at c4); (try rw [← e] at c5); (try rw [← e] at c6); (try rw [← e] at wb); (try rw [← e] at pr); (try rw [← e] at kd); (try rw [← e] at cr); (try rw [← e] at fe); (try rw [← e] at ra); (try rw [← e] at f1); (try rw [← e] at f2); (try rw [← e] at f3); (try rw [← e] at f4); (try rw [← e])
          unfold f_X12_numbers
          simp (maxSteps := 2000000) (disch := first | assumption | omega) only [jI0, iAdd_j, iSub_j, iMul_j, iNeg_j, Option.bind_some, jlt_t, jlt_f, jlt, jle_t, jle_f, jle, jeq_t, jeq_f, jeq, ↓reduceIte, o100, w100t, l102, mBand, mStake, mKind, mCross, mCr, mKindOf, mAhead, mWhen, mStep, mRods, mRodAt, mStakeAt, mIndex, mOver, mOverIn, jlL, X12_within, bI_t, bI_f, X12_no]
    · refine OP.rf hI (-2) (jI (-2)) ?_ ?_
      · unfold f_X11_numbers
        by_cases d : so < 0 <;> simp (maxSteps := 2000000) (disch := first | assumption | omega) only [jI0, iAdd_j, iSub_j, iMul_j, iNeg_j, Option.bind_some, jlt_t, jlt_f, jlt, jle_t, jle_f, jle, jeq_t, jeq_f, jeq, ↓reduceIte, o0, o2, o12, hBand, hStake, hKind, hCross, hWeaver, oBand, oKindOf, oKind, oCr, oRing, oWv, oPer, oRows, oAhead, oWhen, oAll, oStep, oRods, oRodAt, oStakeAt, oOff, bI_t, bI_f, X11_refuse, oIsRow]
      · intro G1 hM e eo
        have hV1 := hM.1; have hT1 := hM.2; (try rw [← e] at dm); (try rw [← e] at dr); (try rw [← e] at de); (try rw [← e] at dl); (try rw [← e] at hb); (try rw [← e] at hj); (try rw [← e] at hr); (try rw [← e] at hs); (try rw [← e] at pl); (try rw [← e] at al); (try rw [← e] at g); (try rw [← e] at c); (try rw [← e] at c1); (try rw [← e] at c2); (try rw [← e] at c3); (try rw [← e] at c4); (try rw [← e] at c5); (try rw [← e] at c6); (try rw [← e] at wb); (try rw [← e] at pr); (try rw [← e] at kd); (try rw [← e] at cr); (try rw [← e] at fe); (try rw [← e] at ra); (try rw [← e] at f1); (try rw [← e] at f2); (try rw [← e] at f3); (try rw [← e] at f4); (try rw [← e])
        unfold f_X12_numbers
        simp (maxSteps := 2000000) (disch := first | assumption | omega) only [jI0, iAdd_j, iSub_j, iMul_j, iNeg_j, Option.bind_some, jlt_t, jlt_f, jlt, jle_t, jle_f, jle, jeq_t, jeq_f, jeq, ↓reduceIte, o100, w100t, l102, mBand, mStake, mKind, mCross, mCr, mKindOf, mAhead, mWhen, mStep, mRods, mRodAt, mStakeAt, mIndex, mOver, mOverIn, jlL, X12_within, bI_t, bI_f, X12_no]
  · refine OP.rf hI (-2) (jI (-2)) ?_ ?_
    · unfold f_X11_numbers
      simp (maxSteps := 2000000) (disch := first | assumption | omega) only [jI0, iAdd_j, iSub_j, iMul_j, iNeg_j, Option.bind_some, jlt_t, jlt_f, jlt, jle_t, jle_f, jle, jeq_t, jeq_f, jeq, ↓reduceIte, o0, o2, o12, hBand, hStake, hKind, hCross, hWeaver, oBand, oKindOf, oKind, oCr, oRing, oWv, oPer, oRows, oAhead, oWhen, oAll, oStep, oRods, oRodAt, oStakeAt, oOff, bI_t, bI_f, X11_refuse, oIsRow]
    · intro G1 hM e eo
      have hV1 := hM.1; have hT1 := hM.2; (try rw [← e] at dm); (try rw [← e] at dr); (try rw [← e] at de); (try rw [← e] at dl); (try rw [← e] at hb); (try rw [← e] at hj); (try rw [← e] at hr); (try rw [← e] at hs); (try rw [← e] at pl); (try rw [← e] at al); (try rw [← e] at g); (try rw [← e] at c); (try rw [← e] at c1); (try rw [← e] at c2); (try rw [← e] at c3); (try rw [← e] at c4); (try rw [← e] at c5); (try rw [← e] at c6); (try rw [← e] at wb); (try rw [← e] at pr); (try rw [← e] at kd); (try rw [← e] at cr); (try rw [← e] at fe); (try rw [← e] at ra); (try rw [← e] at f1); (try rw [← e] at f2); (try rw [← e] at f3); (try rw [← e] at f4); (try rw [← e])
      unfold f_X12_numbers
      simp (maxSteps := 2000000) (disch := first | assumption | omega) only [jI0, iAdd_j, iSub_j, iMul_j, iNeg_j, Option.bind_some, jlt_t, jlt_f, jlt, jle_t, jle_f, jle, jeq_t, jeq_f, jeq, ↓reduceIte, o100, w100t, l102, mBand, mStake, mKind, mCross, mCr, mKindOf, mAhead, mWhen, mStep, mRods, mRodAt, mStakeAt, mIndex, mOver, mOverIn, jlL, X12_within, bI_t, bI_f, X12_no]
end
