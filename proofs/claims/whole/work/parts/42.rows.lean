/-! the component's kept rows, read -/
theorem rowInj {K r j r' j' : Int} (hj : 0 ≤ j ∧ j < K) (hj' : 0 ≤ j' ∧ j' < K) (e : r * K + j = r' * K + j') : r = r' ∧ j = j' := by
  have k0 : K ≠ 0 := by omega
  have h1 := congrArg (· / K) e
  have h2 := congrArg (· % K) e
  simp only [Int.add_comm (r * K), Int.add_comm (r' * K), Int.add_mul_ediv_right _ _ k0, Int.add_mul_emod_self_right] at h1 h2
  rw [Int.ediv_eq_zero_of_lt hj.1 hj.2, Int.ediv_eq_zero_of_lt hj'.1 hj'.2] at h1
  rw [Int.emod_eq_of_lt hj.1 hj.2, Int.emod_eq_of_lt hj'.1 hj'.2] at h2
  omega
theorem up13 {G : Nat → Int → Int} {p v : Int} : (∀ a, a ≠ 13 → up G 13 p v a = G a) ∧ (∀ p', p' ≠ p → up G 13 p v 13 p' = G 13 p') ∧ up G 13 p v 13 p = v := ⟨fun a ha => up_ne ha, fun p' hp => by rw [up_eq, u1_ne hp], by rw [up_eq, u1_eq]⟩
section
variable {q : Nat × Nat × (Nat → Nat)} {G : Nat → Int → Int} {N : Nat}
theorem X10_w50 (hN : 10000 ≤ N) (hB : BB G) {b j xs : Int} (hb : 0 ≤ b ∧ b < G 102 26) (hj : 0 ≤ j ∧ j < G 102 (27 + b)) (hx : xs = 1 ∨ (xs = 0 ∧ sBs (G 102) b = 0)) : ∃ G', L_X10_weaveOne_50 N N 12 (jI b) (jI j) (jI (G 102 (35 + b))) (jI (sPe (G 102) b)) (jI xs) (jI 0) (jI 0) (jI j) (jI 0) (hp q G) = some (hp q G') ∧ (∀ a, a ≠ 13 → G' a = G a) ∧ (∀ p, (∀ r, 0 ≤ r → r < G 102 (51 + b) → p ≠ b * 160 + (r * G 102 (27 + b) + j)) → G' 13 p = G 13 p) ∧ (∀ r, 0 ≤ r → r < G 102 (51 + b) → G' 13 (b * 160 + (r * G 102 (27 + b) + j)) = sRo (G 102) b j r) := by
  have g := hB.1.1
  have w := hB.1.2.2.1 b hb.1 hb.2
  have z : L_X10_weaveOne_50 N N 12 (jI b) (jI j) (jI (G 102 (35 + b))) (jI (sPe (G 102) b)) (jI xs) (jI 0) (jI 0) (jI j) (jI 0) (hp q G) = L_X10_weaveOne_50 N N 12 (jI b) (jI j) (jI (G 102 (35 + b))) (jI (sPe (G 102) b)) (jI xs) (jI (0 * G 102 0)) (jI (sAl (G 102) b j (0 * G 102 0))) (jI (0 * G 102 (27 + b) + j)) (jI 0) (hp q G) := by
    simp only [Int.zero_mul, Int.zero_add]
    rfl
  rw [z]
  refine loopQ (fun n (s : Int × (Nat → Int → Int)) => L_X10_weaveOne_50 N n 12 (jI b) (jI j) (jI (G 102 (35 + b))) (jI (sPe (G 102) b)) (jI xs) (jI (s.1 * G 102 0)) (jI (sAl (G 102) b j (s.1 * G 102 0))) (jI (s.1 * G 102 (27 + b) + j)) (jI s.1) (hp q s.2))
    (fun k s => s.1 = k ∧ (∀ a, a ≠ 13 → s.2 a = G a) ∧ (∀ p, (∀ r : Int, 0 ≤ r → r < k → p ≠ b * 160 + (r * G 102 (27 + b) + j)) → s.2 13 p = G 13 p) ∧ (∀ r : Int, 0 ≤ r → r < k → s.2 13 (b * 160 + (r * G 102 (27 + b) + j)) = sRo (G 102) b j r)) (G 102 (51 + b)).toNat
    (fun r => ∃ G', r = some (hp q G') ∧ (∀ a, a ≠ 13 → G' a = G a) ∧ (∀ p, (∀ r, 0 ≤ r → r < G 102 (51 + b) → p ≠ b * 160 + (r * G 102 (27 + b) + j)) → G' 13 p = G 13 p) ∧ (∀ r, 0 ≤ r → r < G 102 (51 + b) → G' 13 (b * 160 + (r * G 102 (27 + b) + j)) = sRo (G 102) b j r)) (by omega) (s := (0, G)) ⟨rfl, fun _ _ => rfl, fun _ _ => rfl, fun r h0 h1 => by omega⟩ ?_ ?_
  · rintro n k ⟨r, G1⟩ hk ⟨rfl, h1, h2, h3⟩
    simp only at h1 h2 h3
    have e2 : G1 102 = G 102 := h1 102 (by decide)
    have hB1 : BB G1 := by unfold BB at *; rw [h1 102 (by decide), h1 2 (by decide), h1 3 (by decide), h1 4 (by decide), h1 5 (by decide)]; exact hB
    have pl := rowPl hB.1 hb hj (r := k) (by omega)
    have t := X10_w78 (q := q) hN hB1 (b := b) (j := j) (r := k) (xs := xs) (by rw [e2]; exact hb) (by rw [e2]; exact hj) (by rw [e2]; omega) (by rw [e2]; exact hx) (L_X10_weaveOne_50 N n)
    rw [e2] at t
    refine ⟨(((k + 1 : Nat) : Int), up G1 13 (b * 160 + (k * G 102 (27 + b) + j)) (sRo (G 102) b j k)), ⟨rfl, ?_, ?_, ?_⟩, ?_⟩
    · intro a ha
      exact (up13.1 a ha).trans (h1 a ha)
    · intro p hp
      exact (up13.2.1 p (hp k (by omega) (by omega))).trans (h2 p (fun r h0 h1 => hp r h0 (by omega)))
    · intro r h0 h1
      show up G1 13 _ _ 13 _ = _
      by_cases c : r = k
      · subst c; exact up13.2.2
      · rw [up13.2.1 _ (fun x => c (rowInj hj hj (by omega)).1)]
        exact h3 r h0 (by omega)
    · show L_X10_weaveOne_50 N (n + 1) 12 (jI b) (jI j) (jI (G 102 (35 + b))) (jI (sPe (G 102) b)) (jI xs) (jI ((k : Int) * G 102 0)) (jI (sAl (G 102) b j ((k : Int) * G 102 0))) (jI ((k : Int) * G 102 (27 + b) + j)) (jI (k : Int)) (hp q G1) = L_X10_weaveOne_50 N n 12 (jI b) (jI j) (jI (G 102 (35 + b))) (jI (sPe (G 102) b)) (jI xs) (jI (((k + 1 : Nat) : Int) * G 102 0)) (jI (sAl (G 102) b j (((k + 1 : Nat) : Int) * G 102 0))) (jI (((k + 1 : Nat) : Int) * G 102 (27 + b) + j)) (jI ((k + 1 : Nat) : Int)) (hp q (up G1 13 (b * 160 + (k * G 102 (27 + b) + j)) (sRo (G 102) b j k)))
      rw [L_X10_weaveOne_50]
      simp (maxSteps := 2000000) (disch := first | assumption | omega | (rw [e2]; omega)) only [jI0, iAdd_j, iSub_j, iMul_j, iNeg_j, Option.bind_some, jlt_t, jlt_f, jlt, jle_t, jle_f, jle, jeq_t, jeq_f, jeq, ↓reduceIte, o12, o2, oBand, e2]
      rw [t, Int.natCast_succ, Int.add_mul, Int.one_mul, Int.add_mul, Int.one_mul]
      congr 2
      omega
  · rintro n ⟨r, G1⟩ ⟨h0, h1, h2, h3⟩
    simp only at h0 h1 h2 h3
    subst h0
    have e2 : G1 102 = G 102 := h1 102 (by decide)
    have hB1 : BB G1 := by unfold BB at *; rw [h1 102 (by decide), h1 2 (by decide), h1 3 (by decide), h1 4 (by decide), h1 5 (by decide)]; exact hB
    refine ⟨G1, ?_, h1, ?_, ?_⟩
    · show L_X10_weaveOne_50 N (n + 1) 12 (jI b) (jI j) (jI (G 102 (35 + b))) (jI (sPe (G 102) b)) (jI xs) (jI _) (jI _) (jI _) (jI ((G 102 (51 + b)).toNat : Int)) (hp q G1) = _
      rw [L_X10_weaveOne_50]
      simp (maxSteps := 2000000) (disch := first | assumption | omega | (rw [e2]; omega)) only [jI0, iAdd_j, iSub_j, iMul_j, iNeg_j, Option.bind_some, jlt_t, jlt_f, jlt, jle_t, jle_f, jle, jeq_t, jeq_f, jeq, ↓reduceIte, o12, o2, oBand, e2]
    · intro p hp
      exact h2 p (fun r h0 h1 => hp r h0 (by omega))
    · intro r h0 h1
      exact h3 r h0 (by omega)
theorem oWeave (hN : 10000 ≤ N) (hB : BB G) {b j : Int} (hb : 0 ≤ b ∧ b < G 102 26) (hj : 0 ≤ j ∧ j < G 102 (27 + b)) : ∃ G', f_X10_weaveOne N 12 (jI b) (jI j) (hp q G) = some (hp q G') ∧ (∀ a, a ≠ 13 → G' a = G a) ∧ (∀ p, (∀ r, 0 ≤ r → r < G 102 (51 + b) → p ≠ b * 160 + (r * G 102 (27 + b) + j)) → G' 13 p = G 13 p) ∧ (∀ r, 0 ≤ r → r < G 102 (51 + b) → G' 13 (b * 160 + (r * G 102 (27 + b) + j)) = sRo (G 102) b j r) := by
  have g := hB.1.1
  have s := sBs_r hB.1 (b := b)
  unfold f_X10_weaveOne
  by_cases c : 0 < sBs (G 102) b
  · obtain ⟨G', h1, h2⟩ := X10_w50 (q := q) hN hB hb hj (xs := 1) (.inl rfl)
    refine ⟨G', ?_, h2⟩
    unfold sPe at h1
    simp (maxSteps := 2000000) (disch := first | assumption | omega) only [jI0, iAdd_j, iSub_j, iMul_j, iNeg_j, Option.bind_some, jlt_t, jlt_f, jlt, jle_t, jle_f, jle, jeq_t, jeq_f, jeq, ↓reduceIte, o12, oBand, oPer, o2, oSlips]
    exact h1
  · obtain ⟨G', h1, h2⟩ := X10_w50 (q := q) hN hB hb hj (xs := 0) (.inr ⟨rfl, by omega⟩)
    refine ⟨G', ?_, h2⟩
    unfold sPe at h1
    simp (maxSteps := 2000000) (disch := first | assumption | omega) only [jI0, iAdd_j, iSub_j, iMul_j, iNeg_j, Option.bind_some, jlt_t, jlt_f, jlt, jle_t, jle_f, jle, jeq_t, jeq_f, jeq, ↓reduceIte, o12, oBand, oPer, o2, oSlips]
    exact h1
theorem oRow (hN : 10000 ≤ N) (hB : BB G) (hW : WV (G 12 5) (G 13) (G 102)) {b j r : Int} (hb : 0 ≤ b ∧ b < G 102 26) (hj : 0 ≤ j ∧ j < G 102 (27 + b)) (hr : 0 ≤ r ∧ r < G 102 (51 + b)) : ∃ G', WK G G' ∧ f_X10_rowBits N 12 (jI b) (jI (r * G 102 (27 + b) + j)) (hp q G) = some (jI (sRo (G 102) b j r), hp q G') := by
  have g := hB.1.1
  have w := hB.1.2.2.1 b hb.1 hb.2
  have pl := rowPl hB.1 hb hj hr
  have hbt : bI (0 ≤ b ∧ b < G 102 26) = jI 1 := bI_t hb
  have wn : (((G 12 5).toNat : Nat) : Int) = G 12 5 := by have := hW.1; omega
  have tb : iAnd (iUsr (jI (G 12 5)) (jI b)) (jI 1) = bI ((G 12 5).toNat.testBit b.toNat = true) := by
    have := bitAt (jI (G 12 5)) hb.1 (show b < 32 by omega)
    rw [this, ← wn, ib_n, Int.toNat_natCast]
    simp only [show b.toNat < 32 by omega, decide_true, Bool.true_and]
  unfold f_X10_rowBits
  by_cases c : (G 12 5).toNat.testBit b.toNat = true
  · refine ⟨G, WK.refl hW, ?_⟩
    have v := hW.2.2 b hb.1 hb.2 c r j hr.1 hr.2 hj.1 hj.2
    simp (maxSteps := 2000000) (disch := first | assumption | omega) only [jI0, iAdd_j, iSub_j, iMul_j, iNeg_j, Option.bind_some, jlt_t, jlt_f, jlt, jle_t, jle_f, jle, jeq_t, jeq_f, jeq, ↓reduceIte, o12, o2, hBand, hbt, tb, bI_t, l13, v]
    rfl
  · have tb0 : iAnd (iUsr (jI (G 12 5)) (jI b)) (jI 1) = jI 0 := by rw [tb, bI_f c]
    simp (maxSteps := 2000000) (disch := first | assumption | omega) only [jI0, iAdd_j, iSub_j, iMul_j, iNeg_j, Option.bind_some, jlt_t, jlt_f, jlt, jle_t, jle_f, jle, jeq_t, jeq_f, jeq, ↓reduceIte, o12, o2, hBand, hbt, tb0]
    refine loopQ (fun n (s : Int × (Nat → Int → Int)) => L_X10_rowBits_37 N n 12 (jI b) (jI (r * G 102 (27 + b) + j)) (jI s.1) (hp q s.2))
      (fun k s => s.1 = k ∧ (∀ a, a ≠ 13 → s.2 a = G a) ∧ (∀ p, ¬ (b * 160 ≤ p ∧ p < b * 160 + 160) → s.2 13 p = G 13 p) ∧ (∀ j' : Int, 0 ≤ j' → j' < k → ∀ r' : Int, 0 ≤ r' → r' < G 102 (51 + b) → s.2 13 (b * 160 + (r' * G 102 (27 + b) + j')) = sRo (G 102) b j' r')) (G 102 (27 + b)).toNat
      (fun x => ∃ G', WK G G' ∧ x = some (jI (sRo (G 102) b j r), hp q G')) (by omega) (s := (0, G)) ⟨rfl, fun _ _ => rfl, fun _ _ => rfl, fun j' h0 h1 => by omega⟩ ?_ ?_
    · rintro n k ⟨j', G1⟩ hk ⟨rfl, h1, h2, h3⟩
      simp only at h1 h2 h3
      have e2 : G1 102 = G 102 := h1 102 (by decide)
      have hB1 : BB G1 := by unfold BB at *; rw [h1 102 (by decide), h1 2 (by decide), h1 3 (by decide), h1 4 (by decide), h1 5 (by decide)]; exact hB
      obtain ⟨G2, t0, t1, t2, t3⟩ := oWeave (q := q) hN hB1 (b := b) (j := k) (by rw [e2]; exact hb) (by rw [e2]; omega)
      rw [e2] at t2 t3
      refine ⟨(((k + 1 : Nat) : Int), G2), ⟨rfl, ?_, ?_, ?_⟩, ?_⟩
      · intro a ha
        exact (t1 a ha).trans (h1 a ha)
      · intro p hp
        refine (t2 p (fun r h0 h1 => ?_)).trans (h2 p hp)
        have := rowPl hB.1 hb (j := k) (r := r) (by omega) ⟨h0, h1⟩
        omega
      · intro j' j0 j1 r' r0 r1
        show G2 13 _ = _
        by_cases c : j' = k
        · subst c; exact t3 r' r0 r1
        · rw [t2 _ (fun r h0 h1 x => c (rowInj (K := G 102 (27 + b)) (by omega) (by omega) (show r' * G 102 (27 + b) + j' = r * G 102 (27 + b) + k by omega)).2)]
          exact h3 j' j0 (by omega) r' r0 r1
      · show L_X10_rowBits_37 N (n + 1) 12 (jI b) (jI (r * G 102 (27 + b) + j)) (jI k) (hp q G1) = L_X10_rowBits_37 N n 12 (jI b) (jI (r * G 102 (27 + b) + j)) (jI ((k + 1 : Nat) : Int)) (hp q G2)
        rw [L_X10_rowBits_37]
        simp (maxSteps := 2000000) (disch := first | assumption | omega | (rw [e2]; omega)) only [jI0, iAdd_j, iSub_j, iMul_j, iNeg_j, Option.bind_some, jlt_t, jlt_f, jlt, jle_t, jle_f, jle, jeq_t, jeq_f, jeq, ↓reduceIte, o12, o2, oWv hB1, t0, Int.natCast_succ, e2]
    · rintro n ⟨j', G1⟩ ⟨h0, h1, h2, h3⟩
      simp only at h0 h1 h2 h3
      subst h0
      have e2 : G1 102 = G 102 := h1 102 (by decide)
      have e5 : G1 12 5 = G 12 5 := by rw [h1 12 (by decide)]
      have hB1 : BB G1 := by unfold BB at *; rw [h1 102 (by decide), h1 2 (by decide), h1 3 (by decide), h1 4 (by decide), h1 5 (by decide)]; exact hB
      have b2 : 2 ^ b.toNat < 2 ^ 8 := Nat.pow_lt_pow_right (by omega) (by omega)
      have ol : (G 12 5).toNat ||| 2 ^ b.toNat < 2 ^ 8 := Nat.or_lt_two_pow (by have := hW.2.1; omega) b2
      have ow : iOr (jI (G 12 5)) (iShl (jI 1) (jI b)) = jI (((G 12 5).toNat ||| 2 ^ b.toNat : Nat) : Int) := by
        apply ib_ext
        intro k hk
        rw [ib_or, ib_shl _ hb.1 (by omega), ib_1, ib_n, ← wn, ib_n, Nat.testBit_or, Nat.testBit_two_pow, wn]
        by_cases d : k = b.toNat
        · subst d; simp [hk]
        · by_cases d2 : k < b.toNat
          · simp [d2, hk, show ¬ b.toNat = k by omega]
          · simp [hk, show ¬ b.toNat = k by omega, show ¬ k - b.toNat = 0 by omega]
      refine ⟨up G1 12 5 (((G 12 5).toNat ||| 2 ^ b.toNat : Nat) : Int), ⟨?_, ?_⟩, ?_⟩
      · intro a ha
        rw [up_ne (by omega)]
        exact h1 a (by omega)
      · rw [up_eq, u1_eq, up_ne (by decide)]
        refine ⟨by omega, by omega, ?_⟩
        intro b' b0 b1 tb r' j' r0 r1 j0 j1
        by_cases d : b' = b
        · subst d
          exact h3 j' j0 (by omega) r' r0 r1
        · have pl2 := rowPl hB.1 ⟨b0, b1⟩ ⟨j0, j1⟩ ⟨r0, r1⟩
          rw [h2 _ (by omega)]
          refine hW.2.2 b' b0 b1 ?_ r' j' r0 r1 j0 j1
          have : ((((G 12 5).toNat ||| 2 ^ b.toNat : Nat) : Int)).toNat.testBit b'.toNat = true := tb
          rw [Int.toNat_natCast, Nat.testBit_or, Nat.testBit_two_pow] at this
          simpa [show ¬ b.toNat = b'.toNat by omega] using this
      · show L_X10_rowBits_37 N (n + 1) 12 (jI b) (jI (r * G 102 (27 + b) + j)) (jI ((G 102 (27 + b)).toNat : Int)) (hp q G1) = _
        have v := h3 j hj.1 (by omega) r hr.1 hr.2
        rw [L_X10_rowBits_37]
        simp (maxSteps := 2000000) (disch := first | assumption | omega | (rw [e2]; omega)) only [jI0, iAdd_j, iSub_j, iMul_j, iNeg_j, Option.bind_some, jlt_t, jlt_f, jlt, jle_t, jle_f, jle, jeq_t, jeq_f, jeq, ↓reduceIte, o12, o2, oWv hB1, e5, ow, w12, l13, e2]
        rw [up_ne (by decide), v]
def sOI (A : Int → Int) (b row s : Int) : Bool := sOv A b (row % A (27 + b)) (row / A (27 + b) * A 0 + sOf A b (row % A (27 + b)) s)
theorem ofF {A : Int → Int} (h : 0 < A 0) {b j s : Int} : 0 ≤ sOf A b j s ∧ sOf A b j s < A 0 := ⟨Int.emod_nonneg _ (by omega), Int.emod_lt_of_pos _ h⟩
theorem rowDm {A : Int → Int} (hV : BV A) {b row : Int} (hb : 0 ≤ b ∧ b < A 26) (hr : 0 ≤ row ∧ row < A (27 + b) * A (51 + b)) : (0 ≤ row % A (27 + b) ∧ row % A (27 + b) < A (27 + b)) ∧ (0 ≤ row / A (27 + b) ∧ row / A (27 + b) < A (51 + b)) ∧ row / A (27 + b) * A (27 + b) + row % A (27 + b) = row ∧ row < 160 := by
  have w := hV.2.2.1 b hb.1 hb.2
  have h1 := mulB (a := A (27 + b)) (b := A (51 + b)) (c := 4) (d := 40) (by omega) (by omega) (by omega) (by omega)
  refine ⟨⟨Int.emod_nonneg _ (by omega), Int.emod_lt_of_pos _ (by omega)⟩, ⟨Int.ediv_nonneg (by omega) (by omega), Int.ediv_lt_of_lt_mul (by omega) (by rw [Int.mul_comm]; exact hr.2)⟩, ?_, by omega⟩
  have := Int.emod_add_mul_ediv row (A (27 + b))
  rw [Int.mul_comm] at this
  omega
theorem oOver (hN : 10000 ≤ N) (hB : BB G) (hW : WV (G 12 5) (G 13) (G 102)) {b row s : Int} (hb : 0 ≤ b ∧ b < G 102 26) (hr : 0 ≤ row ∧ row < G 102 (27 + b) * G 102 (51 + b)) (hs : 0 ≤ s ∧ s < G 102 0) : ∃ G', WK G G' ∧ f_X10_overAt N 12 (jI b) (jI row) (jI s) (hp q G) = some (bI (sOI (G 102) b row s = true), hp q G') := by
  have g := hB.1.1
  have w := hB.1.2.2.1 b hb.1 hb.2
  obtain ⟨dm, dr, de, dl⟩ := rowDm hB.1 hb hr
  obtain ⟨G', hw, e⟩ := oRow (q := q) hN hB hW hb dm dr
  refine ⟨G', hw, ?_⟩
  rw [de] at e
  have hB1 := hw.bb hB
  have e2 := hw.e
  have o := ofF (A := G 102) (by omega) (b := b) (j := row % G 102 (27 + b)) (s := s)
  have t : iAnd (iUsr (jI (sRo (G 102) b (row % G 102 (27 + b)) (row / G 102 (27 + b)))) (jI (sOf (G 102) b (row % G 102 (27 + b)) s))) (jI 1) = bI (sOI (G 102) b row s = true) := by
    rw [bitAt _ o.1 (by omega)]
    unfold sRo
    rw [ib_msk _ (by omega)]
    have x : (((sOf (G 102) b (row % G 102 (27 + b)) s).toNat : Nat) : Int) = sOf (G 102) b (row % G 102 (27 + b)) s := by omega
    rw [x]
    simp [show (sOf (G 102) b (row % G 102 (27 + b)) s).toNat < (G 102 0).toNat by omega]
    rfl
  unfold f_X10_overAt
  simp (maxSteps := 2000000) (disch := first | assumption | omega | (rw [e2]; omega)) only [jI0, iAdd_j, iSub_j, iMul_j, iNeg_j, Option.bind_some, jlt_t, jlt_f, jlt, jle_t, jle_f, jle, jeq_t, jeq_f, jeq, ↓reduceIte, o12, o2, oWv hB, iRem_p, e, oOff hB1, t, e2]
  by_cases c : sOI (G 102) b row s = true
  · rw [bI_t c, if_pos rfl]
  · rw [bI_f c, if_neg (by rw [jeq_f (by omega)]; exact id)]
theorem oGoes (hN : 10000 ≤ N) (hB : BB G) (hW : WV (G 12 5) (G 13) (G 102)) {b j i : Int} (hb : 0 ≤ b ∧ b < G 102 26) (hj : 0 ≤ j ∧ j < G 102 (27 + b)) (hi : 0 ≤ i ∧ i < sCr (G 102) b) : ∃ G', WK G G' ∧ f_X10_goesOver N 12 (jI b) (jI j) (jI i) (hp q G) = some (bI (sOv (G 102) b j i = true), hp q G') := by
  have g := hB.1.1
  have w := hB.1.2.2.1 b hb.1 hb.2
  have cr := crF hB.1 hb.1 hb.2
  have dr : 0 ≤ i / G 102 0 ∧ i / G 102 0 < G 102 (51 + b) := ⟨Int.ediv_nonneg (by omega) (by omega), Int.ediv_lt_of_lt_mul (by omega) hi.2⟩
  have m0 := Int.emod_nonneg i (show G 102 0 ≠ 0 by omega)
  have m1 := Int.emod_lt_of_pos i (show 0 < G 102 0 by omega)
  have de := Int.emod_add_mul_ediv i (G 102 0)
  rw [Int.mul_comm] at de
  obtain ⟨G', hw, e⟩ := oRow (q := q) hN hB hW hb hj dr
  refine ⟨G', hw, ?_⟩
  have hB1 := hw.bb hB
  have e2 := hw.e
  have t : iAnd (iUsr (jI (sRo (G 102) b j (i / G 102 0))) (jI (i - i / G 102 0 * G 102 0))) (jI 1) = bI (sOv (G 102) b j i = true) := by
    rw [bitAt _ (by omega) (by omega)]
    unfold sRo
    rw [ib_msk _ (by omega)]
    have x : (((i - i / G 102 0 * G 102 0).toNat : Nat) : Int) = i - i / G 102 0 * G 102 0 := by omega
    rw [x, show i / G 102 0 * G 102 0 + (i - i / G 102 0 * G 102 0) = i by omega]
    simp [show (i - i / G 102 0 * G 102 0).toNat < (G 102 0).toNat by omega]
  unfold f_X10_goesOver
  simp (maxSteps := 2000000) (disch := first | assumption | omega | (rw [e2]; omega)) only [jI0, iAdd_j, iSub_j, iMul_j, iNeg_j, Option.bind_some, jlt_t, jlt_f, jlt, jle_t, jle_f, jle, jeq_t, jeq_f, jeq, ↓reduceIte, o12, o2, oRing hB, oWv hB, iDiv_j, e, oRing hB1, t, e2]
  by_cases c : sOv (G 102) b j i = true
  · rw [bI_t c, if_pos rfl]
  · rw [bI_f c, if_neg (by rw [jeq_f (by omega)]; exact id)]
theorem mOverIn (hN : 10000 ≤ N) (hV : BV (G 102)) {b row s : Int} (hb : 0 ≤ b ∧ b < G 102 26) (hr : 0 ≤ row ∧ row < G 102 (27 + b) * G 102 (51 + b)) (hs : 0 ≤ s ∧ s < G 102 0) : f_X12_isOverIn N 100 (jI b) (jI row) (jI s) (hp q G) = some (bI (sOI (G 102) b row s = true), hp q G) := by
  have g := hV.1
  have w := hV.2.2.1 b hb.1 hb.2
  obtain ⟨dm, dr, de, dl⟩ := rowDm hV hb hr
  have o := ofF (A := G 102) (by omega) (b := b) (j := row % G 102 (27 + b)) (s := s)
  have pl := rowPl hV hb dm dr
  unfold f_X12_isOverIn sOI
  simp (maxSteps := 2000000) (disch := first | assumption | omega) only [jI0, iAdd_j, iSub_j, iMul_j, iNeg_j, Option.bind_some, jlt_t, jlt_f, jlt, jle_t, jle_f, jle, jeq_t, jeq_f, jeq, ↓reduceIte, o100, l102, iRem_p, iDiv_j, mIndex, mOver, bI_and]
end
