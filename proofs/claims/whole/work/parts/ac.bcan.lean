/-! bowl: when it can be asked -/
section
variable {K1 K2 : (Int → Int) → (Int → Int) → Prop} {q : Nat × Nat × (Nat → Nat)} {G : Nat → Int → Int} {N : Nat}
/-- the row holds the wishes, and the rest is within -/
def bCan (G : Nat → Int → Int) (r : Nat) (d what : Int) : Prop := (RP G r ∧ G (37 + 2 * r) 0 = G 102 26 ∧ AW G r 1 9999) ∧ 1 ≤ G 102 26 ∧ (-1 ≤ what ∧ what < G 102 26) ∧ (0 ≤ d ∧ d ≤ 18)
theorem oCanY (hN : 10000 ≤ N) {r : Nat} (hr : r < 4) {d what : Int} (h : bCan G r d what) (b2 : G 2 2 = G 102 26) (hv : G 102 26 ≤ 8) : f_X11_bowlCan N 0 (jI r) (jI d) (jI what) (hp q G) = some (jI 1, hp q G) := by
  obtain ⟨⟨pr, c2, c3⟩, c1, c4, c5⟩ := h
  have wo := oWithin (q := q) hN hr pr (lo := 1) (hi := 9999) (by omega) (by omega)
  rw [cI_t c3] at wo
  have k1 : ¬ what < -1 := by omega
  have k2 : ¬ d < 0 := by omega
  have k3 : ¬ 18 < d := by omega
  have k4 : 0 < G 102 26 := by omega
  have k5 := c4.2
  have ir := oIsRow (q := q) (G := G) (N := N) (i := (r : Int)) (by omega) (by omega)
  rw [bI_t (by omega)] at ir
  unfold f_X11_bowlCan
  simp (maxSteps := 2000000) (disch := first | assumption | omega) only [jI0, iAdd_j, iSub_j, iMul_j, iNeg_j, Option.bind_some, jlt_t, jlt_f, jlt, jle_t, jle_f, jle, jeq_t, jeq_f, jeq, ↓reduceIte, o0, ir, k1, o2, b2, k5, k2, k3, rA, k4, ro, c2, wo]
theorem oCanN (hN : 10000 ≤ N) {row d what : Int} (h1 : -2147483648 ≤ row ∧ row < 2147483648) (h2 : -2147483648 ≤ d ∧ d < 2147483648) (h3 : -2147483648 ≤ what ∧ what < 2147483648) (hR : ∀ r : Nat, r < 4 → (G (37 + 2 * r) 0 = -1 ∧ G 117 r = -1) ∨ RP G r) (b2 : G 2 2 = G 102 26) (hv : 0 ≤ G 102 26 ∧ G 102 26 ≤ 8) (h : ¬ ∃ r : Nat, r < 4 ∧ row = r ∧ bCan G r d what) : f_X11_bowlCan N 0 (jI row) (jI d) (jI what) (hp q G) = some (jI 0, hp q G) := by
  have ir := oIsRow (q := q) (G := G) (N := N) h1.1 h1.2
  unfold f_X11_bowlCan
  by_cases c : 0 ≤ row ∧ row < 4
  · obtain ⟨r, rfl⟩ := Int.eq_ofNat_of_zero_le c.1
    have hr : r < 4 := by omega
    rw [bI_t c] at ir
    by_cases k1 : what < -1
    · simp (maxSteps := 2000000) (disch := first | assumption | omega) only [jI0, iAdd_j, iSub_j, iMul_j, iNeg_j, Option.bind_some, jlt_t, jlt_f, jlt, jle_t, jle_f, jle, jeq_t, jeq_f, jeq, ↓reduceIte, o0, ir, k1]
    · by_cases k5 : what < G 102 26
      · by_cases k2 : d < 0
        · simp (maxSteps := 2000000) (disch := first | assumption | omega) only [jI0, iAdd_j, iSub_j, iMul_j, iNeg_j, Option.bind_some, jlt_t, jlt_f, jlt, jle_t, jle_f, jle, jeq_t, jeq_f, jeq, ↓reduceIte, o0, ir, k1, o2, b2, k5, k2]
        · by_cases k3 : 18 < d
          · simp (maxSteps := 2000000) (disch := first | assumption | omega) only [jI0, iAdd_j, iSub_j, iMul_j, iNeg_j, Option.bind_some, jlt_t, jlt_f, jlt, jle_t, jle_f, jle, jeq_t, jeq_f, jeq, ↓reduceIte, o0, ir, k1, o2, b2, k5, k2, k3]
          · by_cases k4 : 0 < G 102 26
            · by_cases c2 : G (37 + 2 * r) 0 = G 102 26
              · rcases hR r hr with ⟨m1, _⟩ | pr
                · omega
                · have wo := oWithin (q := q) hN hr pr (lo := 1) (hi := 9999) (by omega) (by omega)
                  have c3 : ¬ AW G r 1 9999 := fun c3 => h ⟨r, hr, rfl, ⟨pr, c2, c3⟩, by omega, ⟨by omega, k5⟩, by omega, by omega⟩
                  rw [cI_f c3] at wo
                  simp (maxSteps := 2000000) (disch := first | assumption | omega) only [jI0, iAdd_j, iSub_j, iMul_j, iNeg_j, Option.bind_some, jlt_t, jlt_f, jlt, jle_t, jle_f, jle, jeq_t, jeq_f, jeq, ↓reduceIte, o0, ir, k1, o2, b2, k5, k2, k3, rA, k4, ro, c2, wo]
              · have sr : -1 ≤ G (37 + 2 * r) 0 ∧ G (37 + 2 * r) 0 ≤ 40 := by
                  rcases hR r hr with ⟨m1, _⟩ | pr
                  · omega
                  · exact ⟨by have := pr.1; omega, pr.2.1⟩
                simp (maxSteps := 2000000) (disch := first | assumption | omega) only [jI0, iAdd_j, iSub_j, iMul_j, iNeg_j, Option.bind_some, jlt_t, jlt_f, jlt, jle_t, jle_f, jle, jeq_t, jeq_f, jeq, ↓reduceIte, o0, ir, k1, o2, b2, k5, k2, k3, rA, k4, ro, c2]
            · simp (maxSteps := 2000000) (disch := first | assumption | omega) only [jI0, iAdd_j, iSub_j, iMul_j, iNeg_j, Option.bind_some, jlt_t, jlt_f, jlt, jle_t, jle_f, jle, jeq_t, jeq_f, jeq, ↓reduceIte, o0, ir, k1, o2, b2, k5, k2, k3, rA, k4]
      · simp (maxSteps := 2000000) (disch := first | assumption | omega) only [jI0, iAdd_j, iSub_j, iMul_j, iNeg_j, Option.bind_some, jlt_t, jlt_f, jlt, jle_t, jle_f, jle, jeq_t, jeq_f, jeq, ↓reduceIte, o0, ir, k1, o2, b2, k5]
  · rw [bI_f c] at ir
    simp (maxSteps := 2000000) (disch := first | assumption | omega) only [jI0, iAdd_j, iSub_j, iMul_j, iNeg_j, Option.bind_some, jlt_t, jlt_f, jlt, jle_t, jle_f, jle, jeq_t, jeq_f, jeq, ↓reduceIte, o0, ir]
/-- the model's walk over the wishes -/
theorem mCanL (hN : 10000 ≤ N) {r : Nat} (hr : r < 4) {n : Nat} (n8 : n ≤ 8) (e : G 102 26 = n) (pr : RP G r) (es : G (37 + 2 * r) 0 = n) : L_X12_isBowl_86 N N 100 (jI r) (jI 0) (hp q G) = some (jI (cI (AW G r 1 9999)), hp q G) := by
  have p7 := pr.2.2.2.2.2.2
  have LL : ∀ (k f : Nat) (b : Int), b + k = n → 0 ≤ b → k < f → (∀ x : Int, 0 ≤ x → x < b → 1 ≤ G (38 + 2 * r) x ∧ G (38 + 2 * r) x ≤ 9999) → L_X12_isBowl_86 N f 100 (jI r) (jI b) (hp q G) = some (jI (cI (AW G r 1 9999)), hp q G) := by
    intro k
    induction k with
    | zero =>
      intro f b hb b0 hf hx
      obtain ⟨f, rfl⟩ : ∃ y, f = y + 1 := ⟨f - 1, by omega⟩
      have a : AW G r 1 9999 := fun x x0 x1 => hx x x0 (by omega)
      have c : ¬ b < n := by omega
      rw [L_X12_isBowl_86, cI_t a]
      simp (maxSteps := 2000000) (disch := first | assumption | omega) only [jI0, iAdd_j, iSub_j, iMul_j, iNeg_j, Option.bind_some, jlt_t, jlt_f, jlt, jle_t, jle_f, jle, jeq_t, jeq_f, jeq, ↓reduceIte, o100, l102, e, c]
    | succ k ih =>
      intro f b hb b0 hf hx
      obtain ⟨f, rfl⟩ : ∃ y, f = y + 1 := ⟨f - 1, by omega⟩
      obtain ⟨v1, v2, v3⟩ := p7 b b0 (by omega)
      have c : b < n := by omega
      by_cases cv : 1 ≤ G (38 + 2 * r) b ∧ G (38 + 2 * r) b ≤ 9999
      · have z := ih f (b + 1) (by omega) (by omega) (by omega) (fun x x0 x1 => by
          by_cases cx : x = b
          · rw [cx]; exact cv
          · exact hx x x0 (by omega))
        rw [L_X12_isBowl_86]
        simp (maxSteps := 2000000) (disch := first | assumption | omega) only [jI0, iAdd_j, iSub_j, iMul_j, iNeg_j, Option.bind_some, jlt_t, jlt_f, jlt, jle_t, jle_f, jle, jeq_t, jeq_f, jeq, ↓reduceIte, o100, l102, e, c, l119, v1, X12_within, bI_t, z]
      · have a : ¬ AW G r 1 9999 := fun hh => cv (hh b b0 (by omega))
        rw [L_X12_isBowl_86, cI_f a]
        simp (maxSteps := 2000000) (disch := first | assumption | omega) only [jI0, iAdd_j, iSub_j, iMul_j, iNeg_j, Option.bind_some, jlt_t, jlt_f, jlt, jle_t, jle_f, jle, jeq_t, jeq_f, jeq, ↓reduceIte, o100, l102, e, c, l119, v1, X12_within, bI_f]
  exact LL n N 0 (by omega) (by omega) (by omega) (fun x x0 x1 => absurd x1 (by omega))
theorem mCanY (hN : 10000 ≤ N) {r : Nat} (hr : r < 4) {d what : Int} (h : bCan G r d what) (hv : G 102 26 ≤ 8) : f_X12_isBowl N 100 (jI r) (jI d) (jI what) (hp q G) = some (jI 1, hp q G) := by
  obtain ⟨⟨pr, c2, c3⟩, c1, c4, c5⟩ := h
  obtain ⟨n, hn⟩ := Int.eq_ofNat_of_zero_le (show 0 ≤ G 102 26 by omega)
  have ml := mCanL (q := q) hN hr (n := n) (by omega) hn pr (by omega)
  rw [cI_t c3] at ml
  obtain ⟨p1, p2, p3, p4, p5, p6, p7⟩ := pr
  have k0 : G (37 + 2 * r) 1 ≠ -1 := by omega
  have k1 : G 102 26 ≠ 0 := by omega
  have k2 : (0 : Int) ≤ r ∧ (r : Int) ≤ 3 := by omega
  have k3 : -1 ≤ what ∧ what ≤ G 102 26 - 1 := by omega
  unfold f_X12_isBowl
  simp (maxSteps := 2000000) (disch := first | assumption | omega) only [jI0, iAdd_j, iSub_j, iMul_j, iNeg_j, Option.bind_some, jlt_t, jlt_f, jlt, jle_t, jle_f, jle, jeq_t, jeq_f, jeq, ↓reduceIte, jlL, X12_within, bI_t, o100, l117, p4, k0, l102, k1, l118, p3, c2, ml]
theorem mCanN (hN : 10000 ≤ N) {row d what : Int} (h1 : -2147483648 ≤ row ∧ row < 2147483648) (h2 : -2147483648 ≤ d ∧ d < 2147483648) (h3 : -2147483648 ≤ what ∧ what < 2147483648) (hR : ∀ r : Nat, r < 4 → (G (37 + 2 * r) 0 = -1 ∧ G 117 r = -1) ∨ (RP G r ∧ -2147483648 ≤ G 118 r ∧ G 118 r < 2147483648)) (hv : 0 ≤ G 102 26 ∧ G 102 26 ≤ 8) (h : ¬ ∃ r : Nat, r < 4 ∧ row = r ∧ bCan G r d what) : f_X12_isBowl N 100 (jI row) (jI d) (jI what) (hp q G) = some (jI 0, hp q G) := by
  unfold f_X12_isBowl
  by_cases c : 0 ≤ row ∧ row ≤ 3
  · obtain ⟨r, rfl⟩ := Int.eq_ofNat_of_zero_le c.1
    have hr : r < 4 := by omega
    rcases hR r hr with ⟨_, m2⟩ | ⟨pr, _⟩
    · simp (maxSteps := 2000000) (disch := first | assumption | omega) only [jI0, iAdd_j, iSub_j, iMul_j, iNeg_j, Option.bind_some, jlt_t, jlt_f, jlt, jle_t, jle_f, jle, jeq_t, jeq_f, jeq, ↓reduceIte, jlL, X12_within, bI_t, o100, l117, m2]
    · obtain ⟨p1, p2, p3, p4, p5, p6, p7⟩ := id pr
      have k0 : G (37 + 2 * r) 1 ≠ -1 := by omega
      by_cases k1 : G 102 26 = 0
      · simp (maxSteps := 2000000) (disch := first | assumption | omega) only [jI0, iAdd_j, iSub_j, iMul_j, iNeg_j, Option.bind_some, jlt_t, jlt_f, jlt, jle_t, jle_f, jle, jeq_t, jeq_f, jeq, ↓reduceIte, jlL, X12_within, bI_t, o100, l117, p4, k0, l102, k1]
      · by_cases c2 : G (37 + 2 * r) 0 = G 102 26
        · by_cases k2 : 0 ≤ d ∧ d ≤ 18
          · by_cases k3 : -1 ≤ what ∧ what ≤ G 102 26 - 1
            · obtain ⟨n, hn⟩ := Int.eq_ofNat_of_zero_le hv.1
              have ml := mCanL (q := q) hN hr (n := n) (by omega) hn pr (by omega)
              have c3 : ¬ AW G r 1 9999 := fun c3 => h ⟨r, hr, rfl, ⟨pr, c2, c3⟩, by omega, ⟨by omega, by omega⟩, k2⟩
              rw [cI_f c3] at ml
              simp (maxSteps := 2000000) (disch := first | assumption | omega) only [jI0, iAdd_j, iSub_j, iMul_j, iNeg_j, Option.bind_some, jlt_t, jlt_f, jlt, jle_t, jle_f, jle, jeq_t, jeq_f, jeq, ↓reduceIte, jlL, X12_within, bI_t, o100, l117, p4, k0, l102, k1, l118, p3, c2, ml]
            · simp (maxSteps := 2000000) (disch := first | assumption | omega) only [jI0, iAdd_j, iSub_j, iMul_j, iNeg_j, Option.bind_some, jlt_t, jlt_f, jlt, jle_t, jle_f, jle, jeq_t, jeq_f, jeq, ↓reduceIte, jlL, X12_within, bI_t, bI_f, o100, l117, p4, k0, l102, k1, l118, p3, c2]
          · simp (maxSteps := 2000000) (disch := first | assumption | omega) only [jI0, iAdd_j, iSub_j, iMul_j, iNeg_j, Option.bind_some, jlt_t, jlt_f, jlt, jle_t, jle_f, jle, jeq_t, jeq_f, jeq, ↓reduceIte, jlL, X12_within, bI_t, bI_f, o100, l117, p4, k0, l102, k1, l118, p3, c2]
        · simp (maxSteps := 2000000) (disch := first | assumption | omega) only [jI0, iAdd_j, iSub_j, iMul_j, iNeg_j, Option.bind_some, jlt_t, jlt_f, jlt, jle_t, jle_f, jle, jeq_t, jeq_f, jeq, ↓reduceIte, jlL, X12_within, bI_t, o100, l117, p4, k0, l102, k1, l118, p3, c2]
  · simp (maxSteps := 2000000) (disch := first | assumption | omega) only [jI0, iAdd_j, iSub_j, iMul_j, iNeg_j, Option.bind_some, jlt_t, jlt_f, jlt, jle_t, jle_f, jle, jeq_t, jeq_f, jeq, ↓reduceIte, jlL, X12_within, bI_f]
end
