/-! truth values -/
def bI (P : Prop) [Decidable P] : Int32 := jI (if P then 1 else 0)
theorem bI_t {P : Prop} [Decidable P] (h : P) : bI P = jI 1 := by unfold bI; rw [if_pos h]
theorem bI_f {P : Prop} [Decidable P] (h : ¬ P) : bI P = jI 0 := by unfold bI; rw [if_neg h]
theorem bI_and {P : Prop} [Decidable P] : (bI P &&& 1 = bI P) = True := by
  apply eq_true
  by_cases h : P
  · rw [bI_t h]; rfl
  · rw [bI_f h]; rfl
theorem bI_0 {P : Prop} [Decidable P] : (bI P = jI 0) = ¬ P := by
  by_cases h : P
  · rw [bI_t h, jeq_f (by omega)]; simp [h]
  · rw [bI_f h]; simp [h]
theorem bI_1 {P : Prop} [Decidable P] : (bI P = jI 1) = P := by
  by_cases h : P
  · rw [bI_t h]; simp [h]
  · rw [bI_f h, jeq_f (by omega)]; simp [h]
/-! longs that come from ints -/
theorem jlL {a : Int} (h : -2147483648 ≤ a ∧ a < 2147483648) : (jI a).toInt64 = jL a := jI_l h.1 h.2
theorem llt_t {a b : Int} (h : -9223372036854775808 ≤ a ∧ a < b ∧ b < 9223372036854775808) : (jL a < jL b) = True := eq_true ((jL_lt (by omega) (by omega) (by omega) (by omega)).mpr h.2.1)
theorem llt_f {a b : Int} (h : -9223372036854775808 ≤ b ∧ b ≤ a ∧ a < 9223372036854775808) : (jL a < jL b) = False := eq_false (fun q => by have := (jL_lt (by omega) (by omega) (by omega) (by omega)).mp q; omega)
theorem llt {a b : Int} (h : -9223372036854775808 ≤ a ∧ a < 9223372036854775808 ∧ -9223372036854775808 ≤ b ∧ b < 9223372036854775808) : (jL a < jL b) = (a < b) := propext (jL_lt h.1 h.2.1 h.2.2.1 h.2.2.2)
/-! what every call uses -/
section
variable {q : Nat × Nat × (Nat → Nat)} {G : Nat → Int → Int} {N : Nat}
/-- the place of a refusal's number -/
def rfz (c : Int) : Int := if c = -2 then 0 else if c = -3 then 1 else if c = -5 then 2 else if c = -6 then 3 else if c = -7 then 4 else 5
theorem rfz_r (c : Int) : 0 ≤ rfz c ∧ rfz c < 6 := by
  unfold rfz
  repeat' split
  all_goals omega
theorem X11_refuse {c : Int} (h : -2147483648 ≤ c ∧ c < 2147483648) : f_X11_refuse N 0 (jI c) (hp q G) = some (jI c, hp q (up G 98 (rfz c) (G 98 (rfz c) + 1))) := by
  unfold f_X11_refuse rfz
  by_cases c7 : c = -7
  · subst c7; simp (maxSteps := 2000000) (disch := first | assumption | omega) only [jI0, iAdd_j, iSub_j, iMul_j, iNeg_j, Option.bind_some, jlt_t, jlt_f, jlt, jle_t, jle_f, jle, jeq_t, jeq_f, jeq, ↓reduceIte, o0, l98, s98]; rfl
  by_cases c6 : c = -6
  · subst c6; simp (maxSteps := 2000000) (disch := first | assumption | omega) only [jI0, iAdd_j, iSub_j, iMul_j, iNeg_j, Option.bind_some, jlt_t, jlt_f, jlt, jle_t, jle_f, jle, jeq_t, jeq_f, jeq, ↓reduceIte, o0, l98, s98]; rfl
  by_cases c5 : c = -5
  · subst c5; simp (maxSteps := 2000000) (disch := first | assumption | omega) only [jI0, iAdd_j, iSub_j, iMul_j, iNeg_j, Option.bind_some, jlt_t, jlt_f, jlt, jle_t, jle_f, jle, jeq_t, jeq_f, jeq, ↓reduceIte, o0, l98, s98]; rfl
  by_cases c4 : c = -4
  · subst c4; simp (maxSteps := 2000000) (disch := first | assumption | omega) only [jI0, iAdd_j, iSub_j, iMul_j, iNeg_j, Option.bind_some, jlt_t, jlt_f, jlt, jle_t, jle_f, jle, jeq_t, jeq_f, jeq, ↓reduceIte, o0, l98, s98]; rfl
  by_cases c3 : c = -3
  · subst c3; simp (maxSteps := 2000000) (disch := first | assumption | omega) only [jI0, iAdd_j, iSub_j, iMul_j, iNeg_j, Option.bind_some, jlt_t, jlt_f, jlt, jle_t, jle_f, jle, jeq_t, jeq_f, jeq, ↓reduceIte, o0, l98, s98]; rfl
  by_cases c2 : c = -2
  · subst c2; simp (maxSteps := 2000000) (disch := first | assumption | omega) only [jI0, iAdd_j, iSub_j, iMul_j, iNeg_j, Option.bind_some, jlt_t, jlt_f, jlt, jle_t, jle_f, jle, jeq_t, jeq_f, jeq, ↓reduceIte, o0, l98, s98]
  simp (maxSteps := 2000000) (disch := first | assumption | omega) only [jI0, iAdd_j, iSub_j, iMul_j, iNeg_j, Option.bind_some, jlt_t, jlt_f, jlt, jle_t, jle_f, jle, jeq_t, jeq_f, jeq, ↓reduceIte, o0, l98, s98, c2, c3, c4, c5, c6, c7]
theorem X12_no {c : Int} (h : -2147483648 ≤ c ∧ c < 2147483648) : f_X12_no N 100 (jI c) (hp q G) = some (jI c, hp q (up G 101 (rfz c) (G 101 (rfz c) + 1))) := by
  unfold f_X12_no J_X12_no_55 rfz
  by_cases c2 : c = -2
  · subst c2; simp (maxSteps := 2000000) (disch := first | assumption | omega) only [jI0, iAdd_j, iSub_j, iMul_j, iNeg_j, Option.bind_some, jlt_t, jlt_f, jlt, jle_t, jle_f, jle, jeq_t, jeq_f, jeq, ↓reduceIte, o100, l101, s101]
  by_cases c3 : c = -3
  · subst c3; simp (maxSteps := 2000000) (disch := first | assumption | omega) only [jI0, iAdd_j, iSub_j, iMul_j, iNeg_j, Option.bind_some, jlt_t, jlt_f, jlt, jle_t, jle_f, jle, jeq_t, jeq_f, jeq, ↓reduceIte, o100, l101, s101]; rfl
  by_cases c5 : c = -5
  · subst c5; simp (maxSteps := 2000000) (disch := first | assumption | omega) only [jI0, iAdd_j, iSub_j, iMul_j, iNeg_j, Option.bind_some, jlt_t, jlt_f, jlt, jle_t, jle_f, jle, jeq_t, jeq_f, jeq, ↓reduceIte, o100, l101, s101]; rfl
  by_cases c6 : c = -6
  · subst c6; simp (maxSteps := 2000000) (disch := first | assumption | omega) only [jI0, iAdd_j, iSub_j, iMul_j, iNeg_j, Option.bind_some, jlt_t, jlt_f, jlt, jle_t, jle_f, jle, jeq_t, jeq_f, jeq, ↓reduceIte, o100, l101, s101]; rfl
  by_cases c7 : c = -7
  · subst c7; simp (maxSteps := 2000000) (disch := first | assumption | omega) only [jI0, iAdd_j, iSub_j, iMul_j, iNeg_j, Option.bind_some, jlt_t, jlt_f, jlt, jle_t, jle_f, jle, jeq_t, jeq_f, jeq, ↓reduceIte, o100, l101, s101]; rfl
  simp (maxSteps := 2000000) (disch := first | assumption | omega) only [jI0, iAdd_j, iSub_j, iMul_j, iNeg_j, Option.bind_some, jlt_t, jlt_f, jlt, jle_t, jle_f, jle, jeq_t, jeq_f, jeq, ↓reduceIte, o100, l101, s101, c2, c3, c5, c6, c7]
theorem X12_within {h : mH} {v a b : Int} (hv : -9223372036854775808 ≤ v ∧ v < 9223372036854775808) (ha : -9223372036854775808 ≤ a ∧ a < 9223372036854775808) (hb : -9223372036854775808 ≤ b ∧ b < 9223372036854775808) : f_X12_within N (jL v) (jL a) (jL b) h = some (bI (a ≤ v ∧ v ≤ b), h) := by
  unfold f_X12_within
  by_cases c1 : v < a
  · simp (maxSteps := 2000000) (disch := first | assumption | omega) only [jI0, iAdd_j, iSub_j, iMul_j, iNeg_j, Option.bind_some, jlt_t, jlt_f, jlt, jle_t, jle_f, jle, jeq_t, jeq_f, jeq, ↓reduceIte, llt_t, llt_f, bI_t, bI_f]
  · by_cases c2 : b < v
    · simp (maxSteps := 2000000) (disch := first | assumption | omega) only [jI0, iAdd_j, iSub_j, iMul_j, iNeg_j, Option.bind_some, jlt_t, jlt_f, jlt, jle_t, jle_f, jle, jeq_t, jeq_f, jeq, ↓reduceIte, llt_t, llt_f, bI_t, bI_f]
    · simp (maxSteps := 2000000) (disch := first | assumption | omega) only [jI0, iAdd_j, iSub_j, iMul_j, iNeg_j, Option.bind_some, jlt_t, jlt_f, jlt, jle_t, jle_f, jle, jeq_t, jeq_f, jeq, ↓reduceIte, llt_t, llt_f, bI_t, bI_f]
theorem X12_isBand {b : Int} (h1 : -2147483648 ≤ b) (h2 : b < 2147483648) (h3 : 0 ≤ G 102 26) (h4 : G 102 26 ≤ 8) : f_X12_isBand N 100 (jI b) (hp q G) = some (bI (0 ≤ b ∧ b < G 102 26), hp q G) := by
  unfold f_X12_isBand
  simp (maxSteps := 2000000) (disch := first | assumption | omega) only [jI0, iAdd_j, iSub_j, iMul_j, iNeg_j, Option.bind_some, jlt_t, jlt_f, jlt, jle_t, jle_f, jle, jeq_t, jeq_f, jeq, ↓reduceIte, o100, l102, jlL, X12_within, bI_and]
  congr 3
  apply propext
  omega
theorem X0_hasBand {b : Int} (h1 : -2147483648 ≤ b) (h2 : b < 2147483648) (h3 : 0 ≤ G 2 2) (h4 : G 2 2 ≤ 8) : f_X0_hasBand N 2 (jI b) (hp q G) = some (bI (0 ≤ b ∧ b < G 2 2), hp q G) := by
  unfold f_X0_hasBand
  by_cases c1 : b < 0
  · simp (maxSteps := 2000000) (disch := first | assumption | omega) only [jI0, iAdd_j, iSub_j, iMul_j, iNeg_j, Option.bind_some, jlt_t, jlt_f, jlt, jle_t, jle_f, jle, jeq_t, jeq_f, jeq, ↓reduceIte, o2, bI_f]
  · by_cases c2 : b < G 2 2
    · simp (maxSteps := 2000000) (disch := first | assumption | omega) only [jI0, iAdd_j, iSub_j, iMul_j, iNeg_j, Option.bind_some, jlt_t, jlt_f, jlt, jle_t, jle_f, jle, jeq_t, jeq_f, jeq, ↓reduceIte, o2, bI_t]
    · simp (maxSteps := 2000000) (disch := first | assumption | omega) only [jI0, iAdd_j, iSub_j, iMul_j, iNeg_j, Option.bind_some, jlt_t, jlt_f, jlt, jle_t, jle_f, jle, jeq_t, jeq_f, jeq, ↓reduceIte, o2, bI_f]
theorem X0_ofBand {b w : Int} (h1 : 0 ≤ b) (h2 : b < 8) (h3 : 0 ≤ w) (h4 : w < 11) : f_X0_ofBand N 2 (jI b) (jI w) (hp q G) = some (jI (G 4 (b * 11 + w)), hp q G) := by
  unfold f_X0_ofBand
  simp (maxSteps := 2000000) (disch := first | assumption | omega) only [jI0, iAdd_j, iSub_j, iMul_j, iNeg_j, Option.bind_some, jlt_t, jlt_f, jlt, jle_t, jle_f, jle, jeq_t, jeq_f, jeq, ↓reduceIte, o2, n4, l4]
theorem X0_crossingsOf {b : Int} (h1 : 0 ≤ b) (h2 : b < 8) : f_X0_crossingsOf N 2 (jI b) (hp q G) = some (jI (G 4 (b * 11 + 3) * G 2 0), hp q G) := by
  unfold f_X0_crossingsOf
  simp (maxSteps := 2000000) (disch := first | assumption | omega) only [jI0, iAdd_j, iSub_j, iMul_j, iNeg_j, Option.bind_some, jlt_t, jlt_f, jlt, jle_t, jle_f, jle, jeq_t, jeq_f, jeq, ↓reduceIte, o2, X0_ofBand]
theorem X0_slipsAt (hN : 10000 ≤ N) {b j i : Int} (hs : 0 ≤ G 2 3 ∧ G 2 3 ≤ 8) (hb : -2147483648 ≤ b ∧ b < 2147483648) (hj : -2147483648 ≤ j ∧ j < 2147483648) (hi : -2147483648 ≤ i ∧ i < 2147483648)
   (hv : ∀ k : Int, 0 ≤ k → k < 24 → -2147483648 ≤ G 5 k ∧ G 5 k < 2147483648) : f_X0_slipsAt N 2 (jI b) (jI j) (jI i) (hp q G) = some (jI (sm (fun k => if G 5 (3 * k) = b ∧ G 5 (3 * k + 1) = j ∧ G 5 (3 * k + 2) = i then 1 else 0) (G 2 3).toNat), hp q G) := by
  unfold f_X0_slipsAt
  refine loopE (fun n (s : Int × Int) => L_X0_slipsAt_6 N n 2 (jI b) (jI j) (jI i) (jI s.1) (jI s.2) (hp q G)) (fun k => (sm (fun k => if G 5 (3 * k) = b ∧ G 5 (3 * k + 1) = j ∧ G 5 (3 * k + 2) = i then 1 else 0) k, (k : Int))) (G 2 3).toNat (by omega) ?_ ?_
  · intro n k hk
    have v0 := hv (3 * k) (by omega) (by omega)
    have v1 := hv (3 * k + 1) (by omega) (by omega)
    have v2 := hv (3 * k + 2) (by omega) (by omega)
    have e0 : (k : Int) * 3 = 3 * k := by omega
    show L_X0_slipsAt_6 N (n + 1) 2 (jI b) (jI j) (jI i) (jI _) (jI _) (hp q G) = L_X0_slipsAt_6 N n 2 (jI b) (jI j) (jI i) (jI _) (jI _) (hp q G)
    rw [L_X0_slipsAt_6]
    simp only [sm]
    by_cases c1 : G 5 (3 * k) = b <;> by_cases c2 : G 5 (3 * k + 1) = j <;> by_cases c3 : G 5 (3 * k + 2) = i <;> simp (maxSteps := 2000000) (disch := first | assumption | omega) only [jI0, iAdd_j, iSub_j, iMul_j, iNeg_j, Option.bind_some, jlt_t, jlt_f, jlt, jle_t, jle_f, jle, jeq_t, jeq_f, jeq, ↓reduceIte, o2, l5, e0, c1, c2, c3, Int.natCast_succ, and_true, and_false, true_and, false_and, Int.add_zero]
  · intro n
    show L_X0_slipsAt_6 N (n + 1) 2 (jI b) (jI j) (jI i) (jI _) (jI _) (hp q G) = _
    rw [L_X0_slipsAt_6]
    simp (maxSteps := 2000000) (disch := first | assumption | omega) only [jI0, iAdd_j, iSub_j, iMul_j, iNeg_j, Option.bind_some, jlt_t, jlt_f, jlt, jle_t, jle_f, jle, jeq_t, jeq_f, jeq, ↓reduceIte, o2]
end
