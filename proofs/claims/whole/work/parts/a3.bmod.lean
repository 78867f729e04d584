/-! bowl: the model's table -/
def roF (A : Int → Int) (b : Int) : Int := A (51 + b)
def wiF (U : Int → Int) (row b : Int) : Int := U (40 * row + b)
/-- what a call of bowl stands on -/
def BN (A U : Int → Int) (row d : Int) (n : Nat) : Prop := A 26 = n ∧ (1 ≤ n ∧ n ≤ 8) ∧ (1 ≤ A 141 ∧ A 141 ≤ 999) ∧ (∀ b : Int, 0 ≤ b → b < n → 1 ≤ roF A b ∧ roF A b ≤ 40) ∧ (∀ b : Int, 0 ≤ b → b < n → 1 ≤ wiF U row b ∧ wiF U row b ≤ 9999) ∧ (0 ≤ row ∧ row < 4) ∧ (0 ≤ d ∧ d ≤ 18)
def mo (A : Int → Int) : Nat → Int
  | 0 => A 141
  | b + 1 => mo A b + 9 * roF A b
section
variable {A U : Int → Int} {row d : Int} {n : Nat}
theorem mo_r (h : BN A U row d n) : ∀ b : Nat, b ≤ n → 1 ≤ mo A b ∧ mo A b ≤ 999 + 360 * b
  | 0, _ => ⟨h.2.2.1.1, by have := h.2.2.1.2; show A 141 ≤ _; omega⟩
  | b + 1, hb => by
    have i := mo_r h b (by omega)
    have r := h.2.2.2.1 b (by omega) (by omega)
    rw [mo]
    omega
theorem wB_r (h : BN A U row d n) {b : Nat} (hb : b < n) {w l : Int} (w0 : 1 ≤ w) (w1 : w ≤ mo A b) (l0 : 0 ≤ l) (l1 : l ≤ 18) : (1 ≤ wB (roF A) w l b ∧ wB (roF A) w l b ≤ mo A (b + 1)) ∧ (-360 ≤ (l - 9) * roF A b ∧ (l - 9) * roF A b ≤ 360) := by
  have r := h.2.2.2.1 b (by omega) (by omega)
  have m := mo_r h b (by omega)
  have x1 : (l - 9) * roF A b ≤ 9 * roF A b := Int.mul_le_mul_of_nonneg_right (by omega) (by omega)
  have x2 : (-9) * roF A b ≤ (l - 9) * roF A b := Int.mul_le_mul_of_nonneg_right (by omega) (by omega)
  have e : mo A (b + 1) = mo A b + 9 * roF A b := rfl
  rw [e]
  unfold wB
  omega
theorem off_r (h : BN A U row d n) {b : Nat} (hb : b < n) {x : Int} (x0 : 1 ≤ x) (x1 : x ≤ mo A (b + 1)) : 0 ≤ off (wiF U row) x b ∧ off (wiF U row) x b ≤ 9998 := by
  have r := h.2.2.2.2.1 b (by omega) (by omega)
  have m := mo_r h (b + 1) (by omega)
  have n8 := h.2.1
  unfold off
  omega
theorem sc_hi (h : BN A U row d n) : ∀ (k b : Nat) (a w : Int), b + k = n → 1 ≤ w → w ≤ mo A b → 0 ≤ a → a ≤ 18 → 0 ≤ sc (roF A) (wiF U row) d k b a w ∧ sc (roF A) (wiF U row) d k b a w ≤ 9998 * k := by
  have hd := h.2.2.2.2.2.2
  intro k
  induction k with
  | zero =>
    intro b a w hb w0 w1 a0 a1
    rw [sc]
    omega
  | succ k ih =>
    intro b a w hb w0 w1 a0 a1
    obtain ⟨⟨l, l0, l1, l2, l3⟩, _⟩ := sc_c (roF A) (wiF U row) d (k := k) (b := b) (w := w) hd.1 a0 a1
    have x := wB_r h (show b < n by omega) w0 w1 l0 (show l ≤ 18 by omega)
    have y := off_r h (show b < n by omega) x.1.1 x.1.2
    have z := ih (b + 1) l (wB (roF A) w l b) (by omega) x.1.1 x.1.2 l0 (by omega)
    rw [Int.natCast_succ] at z
    rw [l3]
    omega
/-- the table from band b0 on -/
def TB (A U : Int → Int) (row d : Int) (n : Nat) (H : Int → Int) (b0 : Nat) : Prop := ∀ b : Nat, b0 ≤ b → b < n → ∀ l w : Int, 0 ≤ l → l ≤ 18 → 1 ≤ w → w ≤ mo A b → H (((b : Int) * 19 + l) * 4000 + w) = sc (roF A) (wiF U row) d (n - b) b l w
end
section
variable {q : Nat × Nat × (Nat → Nat)} {G : Nat → Int → Int} {N : Nat} {A U : Int → Int} {row d : Int} {n : Nat}
theorem mMost (hN : 10000 ≤ N) (h : BN A U row d n) (h2 : G 102 = A) {b : Nat} (hb : b < n) : f_X12_mostAhead N 100 (jI (b : Int)) (hp q G) = some (jI (mo A b), hp q G) := by
  have n8 := h.2.1
  have L : ∀ (k f : Nat) (j : Nat), j + k = b → k < f → L_X12_mostAhead_11 N f 100 (jI (b : Int)) (jI (mo A j)) (jI (j : Int)) (hp q G) = some (jI (mo A b), hp q G) := by
    intro k
    induction k with
    | zero =>
      intro f j hj hf
      obtain ⟨f, rfl⟩ : ∃ y, f = y + 1 := ⟨f - 1, by omega⟩
      have e : j = b := by omega
      rw [e, L_X12_mostAhead_11]
      have nn : ¬ (b : Int) < b := by omega
      simp (maxSteps := 2000000) (disch := first | assumption | omega) only [jI0, iAdd_j, iSub_j, iMul_j, iNeg_j, Option.bind_some, jlt_t, jlt_f, jlt, jle_t, jle_f, jle, jeq_t, jeq_f, jeq, ↓reduceIte, nn]
    | succ k ih =>
      intro f j hj hf
      obtain ⟨f, rfl⟩ : ∃ y, f = y + 1 := ⟨f - 1, by omega⟩
      have z := ih f (j + 1) (by omega) (by omega)
      have c : (j : Int) < b := by omega
      have e : G 102 (51 + (j : Int)) = roF A j := by rw [h2]; rfl
      rw [mo, Int.natCast_succ] at z
      rw [L_X12_mostAhead_11]
      simp (maxSteps := 2000000) (disch := first | assumption | omega) only [jI0, iAdd_j, iSub_j, iMul_j, iNeg_j, Option.bind_some, jlt_t, jlt_f, jlt, jle_t, jle_f, jle, jeq_t, jeq_f, jeq, ↓reduceIte, o100, l102, c, e, z]
  have l141 : G 102 141 = A 141 := by rw [h2]
  have z := L b N 0 (by omega) (by omega)
  rw [mo, show ((0 : Nat) : Int) = 0 from rfl] at z
  unfold f_X12_mostAhead
  simp (maxSteps := 2000000) (disch := first | assumption | omega) only [jI0, iAdd_j, iSub_j, iMul_j, iNeg_j, Option.bind_some, jlt_t, jlt_f, jlt, jle_t, jle_f, jle, jeq_t, jeq_f, jeq, ↓reduceIte, o100, l102, l141, z]
/-- what a lean costs, by the table of the bands behind -/
theorem mOffB (h : BN A U row d n) (h2 : G 102 = A) (hU : G 119 = U) {b : Nat} (hb : b < n) (hT : TB A U row d n (G 114) (b + 1)) {w l : Int} (w0 : 1 ≤ w) (w1 : w ≤ mo A b) (l0 : 0 ≤ l) (l1 : l ≤ 18) : f_X12_offBy N 100 (jI row) (jI (b : Int)) (jI l) (jI w) (hp q G) = some (jI (off (wiF U row) (wB (roF A) w l b) b + sc (roF A) (wiF U row) d (n - b - 1) (b + 1) l (wB (roF A) w l b)), hp q G) := by
  have n8 := h.2.1
  have x := wB_r h hb w0 w1 l0 l1
  have y := off_r h hb x.1.1 x.1.2
  have m := mo_r h b (by omega)
  have m1 := mo_r h (b + 1) (by omega)
  have wr := h.2.2.2.2.1 b (by omega) (by omega)
  have rr := h.2.2.2.2.2.1
  have er : G 102 (51 + (b : Int)) = roF A b := by rw [h2]; rfl
  have eu : G 119 (40 * row + (b : Int)) = wiF U row b := by rw [hU]; rfl
  have en : G 102 26 = n := by rw [h2]; exact h.1
  have z := sc_hi h (n - b - 1) (b + 1) l (wB (roF A) w l b) (by omega) x.1.1 x.1.2 l0 l1
  have ew : max 1 (w + (l - 9) * roF A b) = wB (roF A) w l b := rfl
  have J : J_X12_offBy_52 N 100 (jI (b : Int)) (jI l) (jI (wB (roF A) w l b)) (jI (off (wiF U row) (wB (roF A) w l b) b)) (hp q G) = some (jI (off (wiF U row) (wB (roF A) w l b) b + sc (roF A) (wiF U row) d (n - b - 1) (b + 1) l (wB (roF A) w l b)), hp q G) := by
    generalize wB (roF A) w l b = w' at *
    unfold J_X12_offBy_52 f_X12_offAt
    by_cases c : (b : Int) + 1 < n
    · have t := hT (b + 1) (Nat.le_refl _) (by omega) l w' l0 l1 x.1.1 x.1.2
      rw [Int.natCast_succ, show n - (b + 1) = n - b - 1 by omega] at t
      simp (maxSteps := 2000000) (disch := first | assumption | omega) only [jI0, iAdd_j, iSub_j, iMul_j, iNeg_j, Option.bind_some, jlt_t, jlt_f, jlt, jle_t, jle_f, jle, jeq_t, jeq_f, jeq, ↓reduceIte, o100, l102, en, c, l114, t]
    · have e0 : n - b - 1 = 0 := by omega
      rw [e0, sc]
      simp (maxSteps := 2000000) (disch := first | assumption | omega) only [jI0, iAdd_j, iSub_j, iMul_j, iNeg_j, Option.bind_some, jlt_t, jlt_f, jlt, jle_t, jle_f, jle, jeq_t, jeq_f, jeq, ↓reduceIte, o100, l102, en, c]
  have o1 := mOne (N := N) (h := hp q G) (v := w + (l - 9) * roF A b) (by omega) (by omega)
  rw [ew] at o1
  unfold f_X12_offBy
  by_cases c : wB (roF A) w l b - wiF U row b < 0
  · have e1 : off (wiF U row) (wB (roF A) w l b) b = -(wB (roF A) w l b - wiF U row b) := by unfold off; omega
    rw [e1] at J ⊢
    simp (maxSteps := 2000000) (disch := first | assumption | omega) only [jI0, iAdd_j, iSub_j, iMul_j, iNeg_j, Option.bind_some, jlt_t, jlt_f, jlt, jle_t, jle_f, jle, jeq_t, jeq_f, jeq, ↓reduceIte, o100, l102, er, o1, l119, eu, jLI, c, J]
  · have e1 : off (wiF U row) (wB (roF A) w l b) b = wB (roF A) w l b - wiF U row b := by unfold off; omega
    rw [e1] at J ⊢
    simp (maxSteps := 2000000) (disch := first | assumption | omega) only [jI0, iAdd_j, iSub_j, iMul_j, iNeg_j, Option.bind_some, jlt_t, jlt_f, jlt, jle_t, jle_f, jle, jeq_t, jeq_f, jeq, ↓reduceIte, o100, l102, er, o1, l119, eu, jLI, c, J]
theorem mLeast (hN : 10000 ≤ N) (h : BN A U row d n) (h2 : G 102 = A) (hU : G 119 = U) {b : Nat} (hb : b < n) (hT : TB A U row d n (G 114) (b + 1)) {w a : Int} (w0 : 1 ≤ w) (w1 : w ≤ mo A b) (a0 : 0 ≤ a) (a1 : a ≤ 18) : f_X12_leastBy N 100 (jI row) (jI (b : Int)) (jI d) (jI a) (jI w) (hp q G) = some (jI (sc (roF A) (wiF U row) d (n - b) b a w), hp q G) := by
  have n8 := h.2.1
  have hd := h.2.2.2.2.2.2
  obtain ⟨k, hk⟩ : ∃ k, n - b = k + 1 := ⟨n - b - 1, by omega⟩
  have ek : n - b - 1 = k := by omega
  rw [hk, sc]
  have lr : ∀ i : Nat, i ≤ 19 → -1 ≤ lbst (adm d b a) (fun l => off (wiF U row) (wB (roF A) w l b) b + sc (roF A) (wiF U row) d k (b + 1) l (wB (roF A) w l b)) i ∧ lbst (adm d b a) (fun l => off (wiF U row) (wB (roF A) w l b) b + sc (roF A) (wiF U row) d k (b + 1) l (wB (roF A) w l b)) i ≤ 100000 := by
    intro i
    induction i with
    | zero => intro _; rw [lbst]; omega
    | succ i ih =>
      intro hi
      have ih := ih (by omega)
      have x := wB_r h hb w0 w1 (l := (i : Int)) (by omega) (by omega)
      have y := off_r h hb x.1.1 x.1.2
      have z := sc_hi h k (b + 1) (i : Int) (wB (roF A) w i b) (by omega) x.1.1 x.1.2 (by omega) (by omega)
      rw [Int.natCast_succ] at z
      rw [lbst]
      split
      · split
        · omega
        · split
          · omega
          · exact ih
      · exact ih
  have L : ∀ (j f : Nat) (i : Nat), i + j = 19 → j < f → L_X12_leastBy_6 N f 100 (jI row) (jI (b : Int)) (jI d) (jI a) (jI w) (jI (lbst (adm d b a) (fun l => off (wiF U row) (wB (roF A) w l b) b + sc (roF A) (wiF U row) d k (b + 1) l (wB (roF A) w l b)) i)) (jI (i : Int)) (hp q G) = some (jI (lbst (adm d b a) (fun l => off (wiF U row) (wB (roF A) w l b) b + sc (roF A) (wiF U row) d k (b + 1) l (wB (roF A) w l b)) 19), hp q G) := by
    intro j
    induction j with
    | zero =>
      intro f i hi hf
      obtain ⟨f, rfl⟩ : ∃ y, f = y + 1 := ⟨f - 1, by omega⟩
      have e : i = 19 := by omega
      rw [e, L_X12_leastBy_6]
      simp (maxSteps := 2000000) (disch := first | assumption | omega) only [jI0, iAdd_j, iSub_j, iMul_j, iNeg_j, Option.bind_some, jlt_t, jlt_f, jlt, jle_t, jle_f, jle, jeq_t, jeq_f, jeq, ↓reduceIte]
    | succ j ih =>
      intro f i hi hf
      obtain ⟨f, rfl⟩ : ∃ y, f = y + 1 := ⟨f - 1, by omega⟩
      have z := ih f (i + 1) (by omega) (by omega)
      have lri := lr i (by omega)
      have mf := mOffB (N := N) (q := q) h h2 hU hb hT w0 w1 (l := (i : Int)) (by omega) (by omega)
      rw [ek] at mf
      have x := wB_r h hb w0 w1 (l := (i : Int)) (by omega) (by omega)
      have y := off_r h hb x.1.1 x.1.2
      have zz := sc_hi h k (b + 1) (i : Int) (wB (roF A) w i b) (by omega) x.1.1 x.1.2 (by omega) (by omega)
      rw [Int.natCast_succ] at zz
      rw [lbst, Int.natCast_succ] at z
      have c19 : (i : Int) < 19 := by omega
      have fr : 0 ≤ off (wiF U row) (wB (roF A) w i b) b + sc (roF A) (wiF U row) d k (b + 1) i (wB (roF A) w i b) ∧ off (wiF U row) (wB (roF A) w i b) b + sc (roF A) (wiF U row) d k (b + 1) i (wB (roF A) w i b) ≤ 100000 := by omega
      generalize lbst (adm d b a) (fun l => off (wiF U row) (wB (roF A) w l b) b + sc (roF A) (wiF U row) d k (b + 1) l (wB (roF A) w l b)) i = v at *
      generalize off (wiF U row) (wB (roF A) w i b) b + sc (roF A) (wiF U row) d k (b + 1) i (wB (roF A) w i b) = fv at *
      have J : adm d b a i = true → J_X12_leastBy_38 N (L_X12_leastBy_6 N f) 100 (jI row) (jI (b : Int)) (jI d) (jI a) (jI w) (jI v) (jI (i : Int)) (hp q G) = L_X12_leastBy_6 N f 100 (jI row) (jI (b : Int)) (jI d) (jI a) (jI w) (jI (if adm d b a i = true then (if v = -1 then fv else if fv < v then fv else v) else v)) (jI ((i : Int) + 1)) (hp q G) := by
        intro ha
        rw [if_pos ha]
        unfold J_X12_leastBy_38
        by_cases c1 : v = -1
        · rw [if_pos c1]
          simp (maxSteps := 2000000) (disch := first | assumption | omega) only [jI0, iAdd_j, iSub_j, iMul_j, iNeg_j, Option.bind_some, jlt_t, jlt_f, jlt, jle_t, jle_f, jle, jeq_t, jeq_f, jeq, ↓reduceIte, o100, mf, c1]
        · rw [if_neg c1]
          by_cases c2 : fv < v
          · rw [if_pos c2]
            simp (maxSteps := 2000000) (disch := first | assumption | omega) only [jI0, iAdd_j, iSub_j, iMul_j, iNeg_j, Option.bind_some, jlt_t, jlt_f, jlt, jle_t, jle_f, jle, jeq_t, jeq_f, jeq, ↓reduceIte, o100, mf, c1, c2]
          · rw [if_neg c2]
            simp (maxSteps := 2000000) (disch := first | assumption | omega) only [jI0, iAdd_j, iSub_j, iMul_j, iNeg_j, Option.bind_some, jlt_t, jlt_f, jlt, jle_t, jle_f, jle, jeq_t, jeq_f, jeq, ↓reduceIte, o100, mf, c1, c2]
      rw [L_X12_leastBy_6]
      by_cases cb : (b : Int) = 0
      · have ha : adm d b a i = true := decide_eq_true (.inl cb)
        have nn : ¬ (0 : Int) < b := by omega
        rw [← J ha] at z
        simp (maxSteps := 2000000) (disch := first | assumption | omega) only [jI0, iAdd_j, iSub_j, iMul_j, iNeg_j, Option.bind_some, jlt_t, jlt_f, jlt, jle_t, jle_f, jle, jeq_t, jeq_f, jeq, ↓reduceIte, c19, nn, z]
      · have nn : (0 : Int) < b := by omega
        by_cases c1 : d < (i : Int) - a
        · have ha : ¬ adm d b a i = true := by
            unfold adm
            rw [decide_eq_true_eq]
            omega
          rw [if_neg ha] at z
          simp (maxSteps := 2000000) (disch := first | assumption | omega) only [jI0, iAdd_j, iSub_j, iMul_j, iNeg_j, Option.bind_some, jlt_t, jlt_f, jlt, jle_t, jle_f, jle, jeq_t, jeq_f, jeq, ↓reduceIte, c19, nn, c1, z]
        · by_cases c2 : d < a - (i : Int)
          · have ha : ¬ adm d b a i = true := by
              unfold adm
              rw [decide_eq_true_eq]
              omega
            rw [if_neg ha] at z
            simp (maxSteps := 2000000) (disch := first | assumption | omega) only [jI0, iAdd_j, iSub_j, iMul_j, iNeg_j, Option.bind_some, jlt_t, jlt_f, jlt, jle_t, jle_f, jle, jeq_t, jeq_f, jeq, ↓reduceIte, c19, nn, c1, c2, z]
          · have ha : adm d b a i = true := decide_eq_true (.inr ⟨by omega, by omega⟩)
            rw [← J ha] at z
            simp (maxSteps := 2000000) (disch := first | assumption | omega) only [jI0, iAdd_j, iSub_j, iMul_j, iNeg_j, Option.bind_some, jlt_t, jlt_f, jlt, jle_t, jle_f, jle, jeq_t, jeq_f, jeq, ↓reduceIte, c19, nn, c1, c2, z]
  have z := L 19 N 0 (by omega) (by omega)
  rw [show ((0 : Nat) : Int) = 0 from rfl, lbst] at z
  unfold f_X12_leastBy
  exact z
end
