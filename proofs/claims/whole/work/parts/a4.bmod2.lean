/-! bowl: the model's table as a whole, its answer -/
section
variable {q : Nat × Nat × (Nat → Nat)} {N : Nat} {A U : Int → Int} {row d : Int} {n : Nat}
/-- one lean of one band: all widths -/
theorem mT54 (hN : 10000 ≤ N) (h : BN A U row d n) {b : Nat} (hb : b < n) {what l : Int} (l0 : 0 ≤ l) (l1 : l ≤ 18) (kk : Nat → Int32 → Int32 → Int32 → Int32 → Int32 → mH → Option (Int32 × mH)) : ∀ (k f : Nat) (w : Int) (G : Nat → Int → Int), w + k = mo A b + 1 → 1 ≤ w → k < f → G 102 = A → G 119 = U → TB A U row d n (G 114) (b + 1) → (∀ x : Int, 1 ≤ x → x < w → G 114 (((b : Int) * 19 + l) * 4000 + x) = sc (roF A) (wiF U row) d (n - b) b l x) → ∃ G' : Nat → Int → Int, ((∀ a, a ≠ 114 → G' a = G a) ∧ (∀ i : Int, (i < ((b : Int) * 19 + l) * 4000 ∨ ((b : Int) * 19 + l) * 4000 + 4000 ≤ i) → G' 114 i = G 114 i) ∧ (∀ x : Int, 1 ≤ x → x ≤ mo A b → G' 114 (((b : Int) * 19 + l) * 4000 + x) = sc (roF A) (wiF U row) d (n - b) b l x)) ∧ L_X12_bowl_54 N kk f 100 (jI row) (jI d) (jI what) (jI (b : Int)) (jI l) (jI w) (hp q G) = kk 100 (jI row) (jI d) (jI what) (jI (b : Int)) (jI (l + 1)) (hp q G') := by
  have n8 := h.2.1
  have m := mo_r h b (by omega)
  intro k
  induction k with
  | zero =>
    intro f w G hw w0 hf g2 gU hT hx
    obtain ⟨f, rfl⟩ : ∃ y, f = y + 1 := ⟨f - 1, by omega⟩
    have mm := mMost (N := N) (q := q) hN h g2 hb
    have c : mo A b < w := by omega
    refine ⟨G, ⟨fun _ _ => rfl, fun _ _ => rfl, fun x x0 x1 => hx x x0 (by omega)⟩, ?_⟩
    rw [L_X12_bowl_54]
    simp (maxSteps := 2000000) (disch := first | assumption | omega) only [jI0, iAdd_j, iSub_j, iMul_j, iNeg_j, Option.bind_some, jlt_t, jlt_f, jlt, jle_t, jle_f, jle, jeq_t, jeq_f, jeq, ↓reduceIte, o100, mm, c]
  | succ k ih =>
    intro f w G hw w0 hf g2 gU hT hx
    obtain ⟨f, rfl⟩ : ∃ y, f = y + 1 := ⟨f - 1, by omega⟩
    have mm := mMost (N := N) (q := q) hN h g2 hb
    have c : ¬ mo A b < w := by omega
    have ml := mLeast (N := N) (q := q) hN h g2 gU hb hT w0 (show w ≤ mo A b by omega) l0 l1
    have m3879 : mo A b ≤ 3879 := by omega
    obtain ⟨G', ⟨i1, i2, i3⟩, i4⟩ := ih f (w + 1) (up G 114 (((b : Int) * 19 + l) * 4000 + w) (sc (roF A) (wiF U row) d (n - b) b l w)) (by omega) (by omega) (by omega) (by rw [up_ne (by decide)]; exact g2) (by rw [up_ne (by decide)]; exact gU) (by
      intro b' b0 b1 l' w' p0 p1 p2 p3
      have mb := mo_r h b' (by omega)
      rw [up_eq, u1_ne (by omega)]
      exact hT b' b0 b1 l' w' p0 p1 p2 p3) (by
      intro x x0 x1
      rw [up_eq]
      by_cases e : x = w
      · rw [e, u1_eq]
      · rw [u1_ne (by omega)]
        exact hx x x0 (by omega))
    refine ⟨G', ⟨fun a ha => by rw [i1 a ha, up_ne ha], fun i hi => by rw [i2 i hi, up_eq, u1_ne (by omega)], i3⟩, ?_⟩
    rw [← i4, L_X12_bowl_54]
    unfold f_X12_offAt
    simp (maxSteps := 2000000) (disch := first | assumption | omega) only [jI0, iAdd_j, iSub_j, iMul_j, iNeg_j, Option.bind_some, jlt_t, jlt_f, jlt, jle_t, jle_f, jle, jeq_t, jeq_f, jeq, ↓reduceIte, o100, mm, c, ml, s114]
/-- one band: all leans -/
theorem mT44 (hN : 10000 ≤ N) (h : BN A U row d n) {b : Nat} (hb : b < n) {what : Int} (kk : Nat → Int32 → Int32 → Int32 → Int32 → mH → Option (Int32 × mH)) : ∀ (k f : Nat) (l : Int) (G : Nat → Int → Int), l + k = 19 → 0 ≤ l → k < f → G 102 = A → G 119 = U → TB A U row d n (G 114) (b + 1) → (∀ y x : Int, 0 ≤ y → y < l → 1 ≤ x → x ≤ mo A b → G 114 (((b : Int) * 19 + y) * 4000 + x) = sc (roF A) (wiF U row) d (n - b) b y x) → ∃ G' : Nat → Int → Int, ((∀ a, a ≠ 114 → G' a = G a) ∧ TB A U row d n (G' 114) b) ∧ L_X12_bowl_44 N kk f 100 (jI row) (jI d) (jI what) (jI (b : Int)) (jI l) (hp q G) = kk 100 (jI row) (jI d) (jI what) (jI ((b : Int) - 1)) (hp q G') := by
  have n8 := h.2.1
  have m := mo_r h b (by omega)
  intro k
  induction k with
  | zero =>
    intro f l G hl l0 hf g2 gU hT hx
    obtain ⟨f, rfl⟩ : ∃ y, f = y + 1 := ⟨f - 1, by omega⟩
    have c : ¬ l < 19 := by omega
    refine ⟨G, ⟨fun _ _ => rfl, fun b' b0 b1 l' w' p0 p1 p2 p3 => ?_⟩, ?_⟩
    · by_cases e : b' = b
      · rw [e] at p3 ⊢
        exact hx l' w' p0 (by omega) p2 p3
      · exact hT b' (by omega) b1 l' w' p0 p1 p2 p3
    · rw [L_X12_bowl_44]
      simp (maxSteps := 2000000) (disch := first | assumption | omega) only [jI0, iAdd_j, iSub_j, iMul_j, iNeg_j, Option.bind_some, jlt_t, jlt_f, jlt, jle_t, jle_f, jle, jeq_t, jeq_f, jeq, ↓reduceIte, c]
      rw [Int.sub_eq_add_neg]
  | succ k ih =>
    intro f l G hl l0 hf g2 gU hT hx
    obtain ⟨f, rfl⟩ : ∃ y, f = y + 1 := ⟨f - 1, by omega⟩
    have c : l < 19 := by omega
    have m3879 : mo A b ≤ 3879 := by omega
    obtain ⟨G1, ⟨j1, j2, j3⟩, j4⟩ := mT54 (q := q) (what := what) hN h hb l0 (show l ≤ 18 by omega) (L_X12_bowl_44 N kk f) (mo A b).toNat N 1 G (by omega) (by omega) (by omega) g2 gU hT (fun x x0 x1 => absurd x1 (by omega))
    obtain ⟨G', ⟨i1, i2⟩, i4⟩ := ih f (l + 1) G1 (by omega) (by omega) (by omega) (by rw [j1 102 (by decide)]; exact g2) (by rw [j1 119 (by decide)]; exact gU) (by
      intro b' b0 b1 l' w' p0 p1 p2 p3
      have mb := mo_r h b' (by omega)
      rw [j2 _ (by omega)]
      exact hT b' b0 b1 l' w' p0 p1 p2 p3) (by
      intro y x y0 y1 x0 x1
      by_cases e : y = l
      · rw [e]
        exact j3 x x0 x1
      · rw [j2 _ (by omega)]
        exact hx y x y0 (by omega) x0 x1)
    refine ⟨G', ⟨fun a ha => by rw [i1 a ha, j1 a ha], i2⟩, ?_⟩
    rw [← i4, ← j4, L_X12_bowl_44]
    simp (maxSteps := 2000000) (disch := first | assumption | omega) only [jI0, iAdd_j, iSub_j, iMul_j, iNeg_j, Option.bind_some, jlt_t, jlt_f, jlt, jle_t, jle_f, jle, jeq_t, jeq_f, jeq, ↓reduceIte, c]
/-- the search of the first best lean -/
theorem m169 (hN : 10000 ≤ N) (h : BN A U row d n) {G : Nat → Int → Int} (g2 : G 102 = A) (gU : G 119 = U) {b : Nat} (hb : b < n) (hT : TB A U row d n (G 114) (b + 1)) {what a w p : Int} (w0 : 1 ≤ w) (w1 : w ≤ mo A b) (a0 : 0 ≤ a) (a1 : a ≤ 18) (hw : -1 ≤ what ∧ what < n) (p0 : 0 ≤ p ∧ p ≤ 18) (p1 : adm d b a p = true) (p2 : off (wiF U row) (wB (roF A) w p b) b + sc (roF A) (wiF U row) d (n - b - 1) (b + 1) p (wB (roF A) w p b) = sc (roF A) (wiF U row) d (n - b) b a w) (p3 : ∀ x : Int, 0 ≤ x → adm d b a x = true → off (wiF U row) (wB (roF A) w x b) b + sc (roF A) (wiF U row) d (n - b - 1) (b + 1) x (wB (roF A) w x b) = sc (roF A) (wiF U row) d (n - b) b a w → p ≤ x) (kk : Nat → Int32 → Int32 → Int32 → Int32 → Int32 → Int32 → mH → Option (Int32 × mH)) : ∀ (k f : Nat) (l : Int), l + k = p → 0 ≤ l → k < f → L_X12_bowl_169 N kk f 100 (jI row) (jI d) (jI what) (jI w) (jI a) (jI (b : Int)) (jI (sc (roF A) (wiF U row) d (n - b) b a w)) (jI l) (hp q G) = if (b : Int) = what then some (jI (p - 9), hp q G) else kk 100 (jI row) (jI d) (jI what) (jI (wB (roF A) w p b)) (jI p) (jI ((b : Int) + 1)) (hp q G) := by
  have n8 := h.2.1
  have hd := h.2.2.2.2.2.2
  have m := mo_r h b (by omega)
  have sh := sc_hi h (n - b) b a w (by omega) w0 w1 a0 a1
  have er : G 102 (51 + (b : Int)) = roF A b := by rw [g2]; rfl
  intro k
  induction k with
  | zero =>
    intro f l hl l0 hf
    obtain ⟨f, rfl⟩ : ∃ y, f = y + 1 := ⟨f - 1, by omega⟩
    have e : l = p := by omega
    rw [e]
    have mf := mOffB (N := N) (q := q) h g2 gU hb hT w0 w1 p0.1 p0.2
    rw [p2] at mf
    have x := wB_r h hb w0 w1 p0.1 p0.2
    have o1 := mOne (N := N) (h := hp q G) (v := w + (p - 9) * roF A b) (by omega) (by omega)
    rw [show max 1 (w + (p - 9) * roF A b) = wB (roF A) w p b from rfl] at o1
    have J : J_X12_bowl_192 N kk (L_X12_bowl_169 N kk f) 100 (jI row) (jI d) (jI what) (jI w) (jI a) (jI (b : Int)) (jI (sc (roF A) (wiF U row) d (n - b) b a w)) (jI p) (hp q G) = if (b : Int) = what then some (jI (p - 9), hp q G) else kk 100 (jI row) (jI d) (jI what) (jI (wB (roF A) w p b)) (jI p) (jI ((b : Int) + 1)) (hp q G) := by
      unfold J_X12_bowl_192
      by_cases cw : (b : Int) = what
      · subst cw
        rw [if_pos rfl]
        simp (maxSteps := 2000000) (disch := first | assumption | omega) only [jI0, iAdd_j, iSub_j, iMul_j, iNeg_j, Option.bind_some, jlt_t, jlt_f, jlt, jle_t, jle_f, jle, jeq_t, jeq_f, jeq, ↓reduceIte, o100, mf]
      · rw [if_neg cw]
        simp (maxSteps := 2000000) (disch := first | assumption | omega) only [jI0, iAdd_j, iSub_j, iMul_j, iNeg_j, Option.bind_some, jlt_t, jlt_f, jlt, jle_t, jle_f, jle, jeq_t, jeq_f, jeq, ↓reduceIte, o100, mf, cw, l102, er, o1]
    rw [L_X12_bowl_169]
    unfold adm at p1
    have p1 := of_decide_eq_true p1
    by_cases cb : (b : Int) = 0
    · have nn : ¬ (0 : Int) < b := by omega
      simp (maxSteps := 2000000) (disch := first | assumption | omega) only [jI0, iAdd_j, iSub_j, iMul_j, iNeg_j, Option.bind_some, jlt_t, jlt_f, jlt, jle_t, jle_f, jle, jeq_t, jeq_f, jeq, ↓reduceIte, nn, J]
    · have nn : (0 : Int) < b := by omega
      have c1 : ¬ d < p - a := by omega
      have c2 : ¬ d < a - p := by omega
      simp (maxSteps := 2000000) (disch := first | assumption | omega) only [jI0, iAdd_j, iSub_j, iMul_j, iNeg_j, Option.bind_some, jlt_t, jlt_f, jlt, jle_t, jle_f, jle, jeq_t, jeq_f, jeq, ↓reduceIte, nn, c1, c2, J]
  | succ k ih =>
    intro f l hl l0 hf
    obtain ⟨f, rfl⟩ : ∃ y, f = y + 1 := ⟨f - 1, by omega⟩
    have z := ih f (l + 1) (by omega) (by omega) (by omega)
    have mf := mOffB (N := N) (q := q) h g2 gU hb hT w0 w1 l0 (show l ≤ 18 by omega)
    have x := wB_r h hb w0 w1 l0 (show l ≤ 18 by omega)
    have y := off_r h hb x.1.1 x.1.2
    have zz := sc_hi h (n - b - 1) (b + 1) l (wB (roF A) w l b) (by omega) x.1.1 x.1.2 l0 (by omega)
    rw [Int.natCast_succ] at zz
    have ne : adm d b a l = true → off (wiF U row) (wB (roF A) w l b) b + sc (roF A) (wiF U row) d (n - b - 1) (b + 1) l (wB (roF A) w l b) ≠ sc (roF A) (wiF U row) d (n - b) b a w := fun h1 h2 => by
      have := p3 l l0 h1 h2
      omega
    have J : adm d b a l = true → J_X12_bowl_192 N kk (L_X12_bowl_169 N kk f) 100 (jI row) (jI d) (jI what) (jI w) (jI a) (jI (b : Int)) (jI (sc (roF A) (wiF U row) d (n - b) b a w)) (jI l) (hp q G) = L_X12_bowl_169 N kk f 100 (jI row) (jI d) (jI what) (jI w) (jI a) (jI (b : Int)) (jI (sc (roF A) (wiF U row) d (n - b) b a w)) (jI (l + 1)) (hp q G) := by
      intro ha
      have ne := ne ha
      have fr : 0 ≤ off (wiF U row) (wB (roF A) w l b) b + sc (roF A) (wiF U row) d (n - b - 1) (b + 1) l (wB (roF A) w l b) ∧ off (wiF U row) (wB (roF A) w l b) b + sc (roF A) (wiF U row) d (n - b - 1) (b + 1) l (wB (roF A) w l b) ≤ 100000 := by omega
      generalize off (wiF U row) (wB (roF A) w l b) b + sc (roF A) (wiF U row) d (n - b - 1) (b + 1) l (wB (roF A) w l b) = fv at *
      unfold J_X12_bowl_192
      simp (maxSteps := 2000000) (disch := first | assumption | omega) only [jI0, iAdd_j, iSub_j, iMul_j, iNeg_j, Option.bind_some, jlt_t, jlt_f, jlt, jle_t, jle_f, jle, jeq_t, jeq_f, jeq, ↓reduceIte, o100, mf, ne]
    rw [← z, L_X12_bowl_169]
    by_cases cb : (b : Int) = 0
    · have nn : ¬ (0 : Int) < b := by omega
      have ha := J (decide_eq_true (.inl cb))
      simp (maxSteps := 2000000) (disch := first | assumption | omega) only [jI0, iAdd_j, iSub_j, iMul_j, iNeg_j, Option.bind_some, jlt_t, jlt_f, jlt, jle_t, jle_f, jle, jeq_t, jeq_f, jeq, ↓reduceIte, nn, ha]
    · have nn : (0 : Int) < b := by omega
      by_cases c1 : d < l - a
      · simp (maxSteps := 2000000) (disch := first | assumption | omega) only [jI0, iAdd_j, iSub_j, iMul_j, iNeg_j, Option.bind_some, jlt_t, jlt_f, jlt, jle_t, jle_f, jle, jeq_t, jeq_f, jeq, ↓reduceIte, nn, c1]
      · by_cases c2 : d < a - l
        · simp (maxSteps := 2000000) (disch := first | assumption | omega) only [jI0, iAdd_j, iSub_j, iMul_j, iNeg_j, Option.bind_some, jlt_t, jlt_f, jlt, jle_t, jle_f, jle, jeq_t, jeq_f, jeq, ↓reduceIte, nn, c1, c2]
        · have ha := J (decide_eq_true (.inr ⟨by omega, by omega⟩))
          simp (maxSteps := 2000000) (disch := first | assumption | omega) only [jI0, iAdd_j, iSub_j, iMul_j, iNeg_j, Option.bind_some, jlt_t, jlt_f, jlt, jle_t, jle_f, jle, jeq_t, jeq_f, jeq, ↓reduceIte, nn, c1, c2, ha]
/-- the model's answer -/
theorem mBowl (hN : 10000 ≤ N) (h : BN A U row d n) {what : Int} (hw : -1 ≤ what ∧ what < n) {G : Nat → Int → Int} (g2 : G 102 = A) (gU : G 119 = U) : ∃ G' : Nat → Int → Int, (∀ a, a ≠ 114 → G' a = G a) ∧ L_X12_bowl_36 N N 100 (jI row) (jI d) (jI what) (jI ((n : Int) - 1)) (hp q G) = some (jI (if what = -1 then pc (roF A) (wiF U row) (A 141) (gr (roF A) (wiF U row) (A 141) d n) n else gr (roF A) (wiF U row) (A 141) d n what - 9), hp q G') := by
  have n8 := h.2.1
  have hd := h.2.2.2.2.2.2
  have W := h.2.2.1
  have gf := gr_fe (roF A) (wiF U row) (A 141) d hd.1 n (Nat.le_refl n)
  -- the widths ahead
  have wr : ∀ b : Nat, b ≤ n → 1 ≤ wA (roF A) (A 141) (gr (roF A) (wiF U row) (A 141) d n) b ∧ wA (roF A) (A 141) (gr (roF A) (wiF U row) (A 141) d n) b ≤ mo A b := by
    intro b
    induction b with
    | zero => intro _; exact ⟨W.1, Int.le_refl _⟩
    | succ b ih =>
      intro hb
      have i := ih (by omega)
      have f := gf b (by omega)
      exact (wB_r h (show b < n by omega) i.1 i.2 f.1.1 f.1.2).1
  have fin : ∀ (f : Nat) (G : Nat → Int → Int), G 102 = A → G 119 = U → TB A U row d n (G 114) 1 → L_X12_bowl_36 N (f + 1) 100 (jI row) (jI d) (jI what) (jI 0) (hp q G) = some (jI (if what = -1 then pc (roF A) (wiF U row) (A 141) (gr (roF A) (wiF U row) (A 141) d n) n else gr (roF A) (wiF U row) (A 141) d n what - 9), hp q G) := by
    intro f G g2 gU hT
    have l141 : G 102 141 = A 141 := by rw [g2]
    have ml := mLeast (N := N) (q := q) hN h g2 gU (b := 0) (by omega) hT (w := A 141) (a := 0) W.1 (Int.le_refl _) (by omega) (by omega)
    have tot := gr_pc (roF A) (wiF U row) (A 141) d (n := n) hd.1 n 0 (by omega)
    have z0 : pc (roF A) (wiF U row) (A 141) (gr (roF A) (wiF U row) (A 141) d n) 0 = 0 := rfl
    have z1 : ah (gr (roF A) (wiF U row) (A 141) d n) 0 = 0 := rfl
    have z2 : wA (roF A) (A 141) (gr (roF A) (wiF U row) (A 141) d n) 0 = A 141 := rfl
    rw [z0, z1, z2, Int.sub_zero] at tot
    rw [show n - 0 = n from rfl, ← tot, show ((0 : Nat) : Int) = 0 from rfl] at ml
    rw [L_X12_bowl_36]
    by_cases cw : what = -1
    · rw [if_pos cw]
      simp (maxSteps := 2000000) (disch := first | assumption | omega) only [jI0, iAdd_j, iSub_j, iMul_j, iNeg_j, Option.bind_some, jlt_t, jlt_f, jlt, jle_t, jle_f, jle, jeq_t, jeq_f, jeq, ↓reduceIte, o100, l102, l141, ml, cw]
    · rw [if_neg cw]
      have LL : ∀ (k f b : Nat), (b : Int) + k = what → k < f → L_X12_bowl_152 N f 100 (jI row) (jI d) (jI what) (jI (wA (roF A) (A 141) (gr (roF A) (wiF U row) (A 141) d n) b)) (jI (ah (gr (roF A) (wiF U row) (A 141) d n) b)) (jI (b : Int)) (hp q G) = some (jI (gr (roF A) (wiF U row) (A 141) d n what - 9), hp q G) := by
        intro k
        induction k with
        | zero =>
          intro f b hb hf
          obtain ⟨f, rfl⟩ : ∃ y, f = y + 1 := ⟨f - 1, by omega⟩
          have hb' : b < n := by omega
          have a := fe_ah d gf (show b ≤ n by omega)
          have w := wr b (by omega)
          have hTb : TB A U row d n (G 114) (b + 1) := fun b' b0 b1 => hT b' (by omega) b1
          have ml := mLeast (N := N) (q := q) hN h g2 gU hb' hTb w.1 w.2 a.1 a.2
          have p := pick_c (roF A) (wiF U row) d (w := wA (roF A) (A 141) (gr (roF A) (wiF U row) (A 141) d n) b) hd.1 hb' a.1 a.2
          have ep : pick (roF A) (wiF U row) d n b (ah (gr (roF A) (wiF U row) (A 141) d n) b) (wA (roF A) (A 141) (gr (roF A) (wiF U row) (A 141) d n) b) = gr (roF A) (wiF U row) (A 141) d n b := by
            rw [(gr_s (roF A) (wiF U row) (A 141) d b).1, (gr_s (roF A) (wiF U row) (A 141) d b).2]
            rfl
          rw [ep] at p
          have m := m169 (q := q) hN h g2 gU hb' hTb w.1 w.2 a.1 a.2 hw p.1 p.2.1 p.2.2.1 p.2.2.2 (L_X12_bowl_152 N f) (gr (roF A) (wiF U row) (A 141) d n b).toNat N 0 (by have := p.1; omega) (by omega) (by have := p.1; omega)
          have e : (b : Int) = what := by omega
          rw [if_pos e] at m
          rw [L_X12_bowl_152]
          simp (maxSteps := 2000000) (disch := first | assumption | omega) only [jI0, iAdd_j, iSub_j, iMul_j, iNeg_j, Option.bind_some, jlt_t, jlt_f, jlt, jle_t, jle_f, jle, jeq_t, jeq_f, jeq, ↓reduceIte, o100, ml, m]
          rw [e]
        | succ k ih =>
          intro f b hb hf
          obtain ⟨f, rfl⟩ : ∃ y, f = y + 1 := ⟨f - 1, by omega⟩
          have hb' : b < n := by omega
          have a := fe_ah d gf (show b ≤ n by omega)
          have w := wr b (by omega)
          have hTb : TB A U row d n (G 114) (b + 1) := fun b' b0 b1 => hT b' (by omega) b1
          have ml := mLeast (N := N) (q := q) hN h g2 gU hb' hTb w.1 w.2 a.1 a.2
          have p := pick_c (roF A) (wiF U row) d (w := wA (roF A) (A 141) (gr (roF A) (wiF U row) (A 141) d n) b) hd.1 hb' a.1 a.2
          have ep : pick (roF A) (wiF U row) d n b (ah (gr (roF A) (wiF U row) (A 141) d n) b) (wA (roF A) (A 141) (gr (roF A) (wiF U row) (A 141) d n) b) = gr (roF A) (wiF U row) (A 141) d n b := by
            rw [(gr_s (roF A) (wiF U row) (A 141) d b).1, (gr_s (roF A) (wiF U row) (A 141) d b).2]
            rfl
          rw [ep] at p
          have m := m169 (q := q) hN h g2 gU hb' hTb w.1 w.2 a.1 a.2 hw p.1 p.2.1 p.2.2.1 p.2.2.2 (L_X12_bowl_152 N f) (gr (roF A) (wiF U row) (A 141) d n b).toNat N 0 (by have := p.1; omega) (by omega) (by have := p.1; omega)
          have e : ¬ (b : Int) = what := by omega
          rw [if_neg e] at m
          have z := ih f (b + 1) (by omega) (by omega)
          rw [Int.natCast_succ] at z
          have y1 : wA (roF A) (A 141) (gr (roF A) (wiF U row) (A 141) d n) (b + 1) = wB (roF A) (wA (roF A) (A 141) (gr (roF A) (wiF U row) (A 141) d n) b) (gr (roF A) (wiF U row) (A 141) d n b) b := rfl
          have y2 : ah (gr (roF A) (wiF U row) (A 141) d n) (b + 1) = gr (roF A) (wiF U row) (A 141) d n b := rfl
          rw [y1, y2] at z
          rw [z] at m
          rw [L_X12_bowl_152]
          simp (maxSteps := 2000000) (disch := first | assumption | omega) only [jI0, iAdd_j, iSub_j, iMul_j, iNeg_j, Option.bind_some, jlt_t, jlt_f, jlt, jle_t, jle_f, jle, jeq_t, jeq_f, jeq, ↓reduceIte, o100, ml, m]
      have z := LL what.toNat N 0 (by omega) (by omega)
      have y1 : wA (roF A) (A 141) (gr (roF A) (wiF U row) (A 141) d n) 0 = A 141 := rfl
      have y2 : ah (gr (roF A) (wiF U row) (A 141) d n) 0 = 0 := rfl
      rw [y1, y2, show ((0 : Nat) : Int) = 0 from rfl] at z
      simp (maxSteps := 2000000) (disch := first | assumption | omega) only [jI0, iAdd_j, iSub_j, iMul_j, iNeg_j, Option.bind_some, jlt_t, jlt_f, jlt, jle_t, jle_f, jle, jeq_t, jeq_f, jeq, ↓reduceIte, o100, l102, l141, ml, cw, z]
  have L : ∀ (b f : Nat) (G : Nat → Int → Int), b < n → b < f → G 102 = A → G 119 = U → TB A U row d n (G 114) (b + 1) → ∃ G' : Nat → Int → Int, (∀ a, a ≠ 114 → G' a = G a) ∧ L_X12_bowl_36 N f 100 (jI row) (jI d) (jI what) (jI (b : Int)) (hp q G) = some (jI (if what = -1 then pc (roF A) (wiF U row) (A 141) (gr (roF A) (wiF U row) (A 141) d n) n else gr (roF A) (wiF U row) (A 141) d n what - 9), hp q G') := by
    intro b
    induction b with
    | zero =>
      intro f G hb hf g2 gU hT
      obtain ⟨f, rfl⟩ : ∃ y, f = y + 1 := ⟨f - 1, by omega⟩
      exact ⟨G, fun _ _ => rfl, fin f G g2 gU hT⟩
    | succ b ih =>
      intro f G hb hf g2 gU hT
      obtain ⟨f, rfl⟩ : ∃ y, f = y + 1 := ⟨f - 1, by omega⟩
      obtain ⟨G1, ⟨j1, j2⟩, j3⟩ := mT44 (q := q) (what := what) hN h hb (L_X12_bowl_36 N f) 19 N 0 G (by omega) (by omega) (by omega) g2 gU hT (fun y x y0 y1 => absurd y1 (by omega))
      obtain ⟨G2, i1, i2⟩ := ih f G1 (by omega) (by omega) (by rw [j1 102 (by decide)]; exact g2) (by rw [j1 119 (by decide)]; exact gU) j2
      refine ⟨G2, fun a ha => by rw [i1 a ha, j1 a ha], ?_⟩
      rw [show (((b + 1 : Nat) : Int) - 1) = (b : Int) by omega, i2] at j3
      have c : (0 : Int) < ((b + 1 : Nat) : Int) := by omega
      rw [L_X12_bowl_36]
      simp (maxSteps := 2000000) (disch := first | assumption | omega) only [jI0, iAdd_j, iSub_j, iMul_j, iNeg_j, Option.bind_some, jlt_t, jlt_f, jlt, jle_t, jle_f, jle, jeq_t, jeq_f, jeq, ↓reduceIte, c, j3]
  obtain ⟨G', i1, i2⟩ := L (n - 1) N G (by omega) (by omega) g2 gU (fun b b0 b1 => absurd b1 (by omega))
  rw [show (((n - 1 : Nat) : Int)) = (n : Int) - 1 by omega] at i2
  exact ⟨G', i1, i2⟩
end
