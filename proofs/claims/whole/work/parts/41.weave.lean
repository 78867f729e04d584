/-! the component's kept rows -/
theorem sm_add {f g : Int → Int} : ∀ {n : Nat}, sm (fun k => f k + g k) n = sm f n + sm g n
  | 0 => rfl
  | n + 1 => by simp only [sm]; rw [sm_add (n := n)]; omega
theorem sm_zero {f : Int → Int} : ∀ {n : Nat}, (∀ k : Nat, k < n → f k = 0) → sm f n = 0
  | 0, _ => rfl
  | n + 1, h => by simp only [sm]; rw [sm_zero (fun k hk => h k (by omega)), h n (by omega)]; rfl
def sAt (A : Int → Int) (b j i : Int) : Int := sm (fun s => if A (116 + s) = b ∧ A (124 + s) = j ∧ A (132 + s) = i then 1 else 0) (A 115).toNat
def sBs (A : Int → Int) (b : Int) : Int := sm (fun s => if A (116 + s) = b then 1 else 0) (A 115).toNat
def sPe (A : Int → Int) (b : Int) : Int := A (35 + b) + A (43 + b)
theorem sPl_step {A : Int → Int} {b j i : Int} : sPl A b j i = sPl A b j (i - 1) + 1 + sAt A b j i := by
  unfold sPl sAt
  rw [show (fun s => if A (116 + s) = b ∧ A (124 + s) = j ∧ A (132 + s) ≤ i then (1 : Int) else 0) = (fun s => (if A (116 + s) = b ∧ A (124 + s) = j ∧ A (132 + s) ≤ i - 1 then (1 : Int) else 0) + (if A (116 + s) = b ∧ A (124 + s) = j ∧ A (132 + s) = i then 1 else 0)) from ?_, sm_add]
  · omega
  · funext s
    by_cases h1 : A (116 + s) = b <;> by_cases h2 : A (124 + s) = j <;> simp [h1, h2]
    split <;> split <;> split <;> omega
theorem sPl_neg {A : Int → Int} (hV : BV A) {b j : Int} : sPl A b j (-1) = -1 := by
  unfold sPl
  rw [sm_zero]
  · rfl
  · intro k hk
    have g := hV.1
    have := hV.2.2.2.2 k (by omega) (by omega)
    rw [if_neg (by omega)]
theorem sAt_r {A : Int → Int} (hV : BV A) {b j i : Int} : 0 ≤ sAt A b j i ∧ sAt A b j i ≤ 8 := by
  have g := hV.1
  have := sm_le (f := fun s => if A (116 + s) = b ∧ A (124 + s) = j ∧ A (132 + s) = i then 1 else 0) (c := 1) (n := (A 115).toNat) (fun k _ => by split <;> omega)
  unfold sAt
  omega
theorem sBs_r {A : Int → Int} (hV : BV A) {b : Int} : 0 ≤ sBs A b ∧ sBs A b ≤ 8 := by
  have g := hV.1
  have := sm_le (f := fun s => if A (116 + s) = b then 1 else 0) (c := 1) (n := (A 115).toNat) (fun k _ => by split <;> omega)
  unfold sBs
  omega
theorem sm_le' {f : Int → Int} : ∀ {n : Nat}, (∀ k : Nat, k < n → 0 ≤ f k) → 0 ≤ sm f n
  | 0, _ => by simp [sm]
  | n + 1, h => by
    have h1 := sm_le' (n := n) (fun k hk => h k (by omega))
    have h2 := h n (by omega)
    simp only [sm]
    omega
theorem sm_pos {f : Int → Int} : ∀ {n : Nat}, (∀ k : Nat, k < n → 0 ≤ f k) → sm f n = 0 → ∀ k : Nat, k < n → f k = 0
  | 0, _, _, k, hk => by omega
  | n + 1, h, e, k, hk => by
    have h1 := sm_le' (n := n) (fun k hk => h k (by omega))
    have h2 := h n (by omega)
    simp only [sm] at e
    by_cases c : k = n
    · subst c; omega
    · exact sm_pos (n := n) (fun k hk => h k (by omega)) (by omega) k (by omega)
theorem sAt_0 {A : Int → Int} (hV : BV A) {b j i : Int} (h : sBs A b = 0) : sAt A b j i = 0 := by
  apply sm_zero
  intro k hk
  have := sm_pos (fun k _ => by split <;> omega) h k hk
  by_cases c : A (116 + k) = b
  · rw [if_pos c] at this; omega
  · simp [c]
def sAl (A : Int → Int) (b j i : Int) : Int := if i = 0 then 0 else sPl A b j (i - 1) % sPe A b + 1
theorem alF {A : Int → Int} (hV : BV A) {b j i : Int} (h1 : 0 ≤ b) (h2 : b < A 26) (hi : 0 ≤ i) : (sAl A b j i + sAt A b j i) % sPe A b = sPl A b j i % sPe A b ∧ 0 ≤ sAl A b j i ∧ sAl A b j i ≤ 8 ∧ 2 ≤ sPe A b ∧ sPe A b ≤ 8 := by
  have w := hV.2.2.1 b h1 h2
  have p : 2 ≤ sPe A b ∧ sPe A b ≤ 8 := by unfold sPe; omega
  have m0 := Int.emod_nonneg (sPl A b j (i - 1)) (show sPe A b ≠ 0 by omega)
  have m1 := Int.emod_lt_of_pos (sPl A b j (i - 1)) (show 0 < sPe A b by omega)
  refine ⟨?_, ?_, ?_, p⟩
  · rw [sPl_step (i := i)]
    unfold sAl
    by_cases c : i = 0
    · subst c
      rw [if_pos rfl, show (0 : Int) - 1 = -1 from rfl, sPl_neg hV]
      congr 1
      try omega
    · rw [if_neg c, Int.add_assoc, Int.emod_add_emod, Int.add_assoc]
  · unfold sAl; split <;> omega
  · unfold sAl; split <;> omega
theorem al_next {A : Int → Int} {b j i : Int} (hi : 0 ≤ i) : sAl A b j (i + 1) = sPl A b j i % sPe A b + 1 := by
  unfold sAl
  rw [if_neg (by omega), show i + 1 - 1 = i by omega]
/-- a row -/
def sRo (A : Int → Int) (b j r : Int) : Nat := msk (fun k => sOv A b j (r * A 0 + k)) (A 0).toNat
/-- what may have changed: the kept rows -/
def WK (G G' : Nat → Int → Int) : Prop := (∀ a, a < 12 ∨ 13 < a → G' a = G a) ∧ WV (G' 12 5) (G' 13) (G 102)
section
variable {q : Nat × Nat × (Nat → Nat)} {G : Nat → Int → Int} {N : Nat}
theorem WK.refl (h : WV (G 12 5) (G 13) (G 102)) : WK G G := ⟨fun _ _ => rfl, h⟩
theorem WK.trans {G1 G2 : Nat → Int → Int} (h1 : WK G G1) (h2 : WK G1 G2) : WK G G2 := ⟨fun a ha => (h2.1 a ha).trans (h1.1 a ha), by have := h2.2; rw [h1.1 102 (by omega)] at this; exact this⟩
theorem WK.e {G1 : Nat → Int → Int} (h : WK G G1) : G1 102 = G 102 := h.1 102 (by omega)
theorem WK.bb {G1 : Nat → Int → Int} (h : WK G G1) (hB : BB G) : BB G1 := by
  unfold BB at *
  rw [h.1 102 (by omega), h.1 2 (by omega), h.1 3 (by omega), h.1 4 (by omega), h.1 5 (by omega)]
  exact hB
theorem oSlipsAt (hN : 10000 ≤ N) (hB : BB G) {b j i : Int} (hb : 0 ≤ b ∧ b < 8) (hj : 0 ≤ j ∧ j < 4) (hi : 0 ≤ i ∧ i ≤ 1280) : f_X0_slipsAt N 2 (jI b) (jI j) (jI i) (hp q G) = some (jI (sAt (G 102) b j i), hp q G) := by
  have g := hB.1.1
  have e3 := hB.2.1.2.2.2.1
  have hs := hB.2.2.2.2.2
  unfold f_X0_slipsAt sAt
  refine loopE (fun n (s : Int × Int) => L_X0_slipsAt_6 N n 2 (jI b) (jI j) (jI i) (jI s.1) (jI s.2) (hp q G)) (fun k => (sm (fun s => if G 102 (116 + s) = b ∧ G 102 (124 + s) = j ∧ G 102 (132 + s) = i then 1 else 0) k, (k : Int))) (G 102 115).toNat (by omega) ?_ ?_
  · intro n k hk
    have v := hB.1.2.2.2.2 k (by omega) (by omega)
    have u := hs k (by omega) (by omega)
    have e0 : (k : Int) * 3 = 3 * k := by omega
    show L_X0_slipsAt_6 N (n + 1) 2 (jI b) (jI j) (jI i) (jI _) (jI _) (hp q G) = L_X0_slipsAt_6 N n 2 (jI b) (jI j) (jI i) (jI _) (jI _) (hp q G)
    rw [L_X0_slipsAt_6]
    simp only [sm]
    by_cases c1 : G 102 (116 + k) = b <;> by_cases c2 : G 102 (124 + k) = j <;> by_cases c3 : G 102 (132 + k) = i <;> simp (maxSteps := 2000000) (disch := first | assumption | omega) only [jI0, iAdd_j, iSub_j, iMul_j, iNeg_j, Option.bind_some, jlt_t, jlt_f, jlt, jle_t, jle_f, jle, jeq_t, jeq_f, jeq, ↓reduceIte, o2, l5, e0, e3, u, c1, c2, c3, Int.natCast_succ, and_true, and_false, true_and, false_and, Int.add_zero]
  · intro n
    show L_X0_slipsAt_6 N (n + 1) 2 (jI b) (jI j) (jI i) (jI _) (jI _) (hp q G) = _
    rw [L_X0_slipsAt_6]
    simp (maxSteps := 2000000) (disch := first | assumption | omega) only [jI0, iAdd_j, iSub_j, iMul_j, iNeg_j, Option.bind_some, jlt_t, jlt_f, jlt, jle_t, jle_f, jle, jeq_t, jeq_f, jeq, ↓reduceIte, o2, e3]
theorem oSlips (hN : 10000 ≤ N) (hB : BB G) {b : Int} (hb : 0 ≤ b ∧ b < 8) : f_X0_slipsOfBand N 2 (jI b) (hp q G) = some (jI (sBs (G 102) b), hp q G) := by
  have g := hB.1.1
  have e3 := hB.2.1.2.2.2.1
  have hs := hB.2.2.2.2.2
  unfold f_X0_slipsOfBand sBs
  refine loopE (fun n (s : Int × Int) => L_X0_slipsOfBand_4 N n 2 (jI b) (jI s.1) (jI s.2) (hp q G)) (fun k => (sm (fun s => if G 102 (116 + s) = b then 1 else 0) k, (k : Int))) (G 102 115).toNat (by omega) ?_ ?_
  · intro n k hk
    have v := hB.1.2.2.2.2 k (by omega) (by omega)
    have u := hs k (by omega) (by omega)
    have e0 : (k : Int) * 3 = 3 * k := by omega
    show L_X0_slipsOfBand_4 N (n + 1) 2 (jI b) (jI _) (jI _) (hp q G) = L_X0_slipsOfBand_4 N n 2 (jI b) (jI _) (jI _) (hp q G)
    rw [L_X0_slipsOfBand_4]
    simp only [sm]
    by_cases c1 : G 102 (116 + k) = b <;> simp (maxSteps := 2000000) (disch := first | assumption | omega) only [jI0, iAdd_j, iSub_j, iMul_j, iNeg_j, Option.bind_some, jlt_t, jlt_f, jlt, jle_t, jle_f, jle, jeq_t, jeq_f, jeq, ↓reduceIte, o2, l5, e0, e3, u, c1, Int.natCast_succ, Int.add_zero]
  · intro n
    show L_X0_slipsOfBand_4 N (n + 1) 2 (jI b) (jI _) (jI _) (hp q G) = _
    rw [L_X0_slipsOfBand_4]
    simp (maxSteps := 2000000) (disch := first | assumption | omega) only [jI0, iAdd_j, iSub_j, iMul_j, iNeg_j, Option.bind_some, jlt_t, jlt_f, jlt, jle_t, jle_f, jle, jeq_t, jeq_f, jeq, ↓reduceIte, o2, e3]
theorem rowPl {A : Int → Int} (hV : BV A) {b j r : Int} (hb : 0 ≤ b ∧ b < A 26) (hj : 0 ≤ j ∧ j < A (27 + b)) (hr : 0 ≤ r ∧ r < A (51 + b)) : 0 ≤ r * A (27 + b) ∧ r * A (27 + b) + j < 160 ∧ 0 ≤ r * A 0 ∧ r * A 0 + A 0 ≤ 1280 := by
  have g := hV.1
  have w := hV.2.2.1 b hb.1 hb.2
  have h1 := mulB (a := r) (b := A (27 + b)) (c := 39) (d := 4) (by omega) (by omega) (by omega) (by omega)
  have h2 := mulB (a := r) (b := A 0) (c := 39) (d := 32) (by omega) (by omega) (by omega) (by omega)
  omega
theorem X10_w78 (hN : 10000 ≤ N) (hB : BB G) {b j r xs : Int} (hb : 0 ≤ b ∧ b < G 102 26) (hj : 0 ≤ j ∧ j < G 102 (27 + b)) (hr : 0 ≤ r ∧ r < G 102 (51 + b)) (hx : xs = 1 ∨ (xs = 0 ∧ sBs (G 102) b = 0)) (k50 : Nat → Int32 → Int32 → Int32 → Int32 → Int32 → Int32 → Int32 → Int32 → Int32 → mH → Option mH) : L_X10_weaveOne_78 N k50 N 12 (jI b) (jI j) (jI (G 102 (35 + b))) (jI (sPe (G 102) b)) (jI xs) (jI (r * G 102 0)) (jI (sAl (G 102) b j (r * G 102 0))) (jI (r * G 102 (27 + b) + j)) (jI r) (jI 0) (jI 0) (hp q G) = k50 12 (jI b) (jI j) (jI (G 102 (35 + b))) (jI (sPe (G 102) b)) (jI xs) (jI (r * G 102 0 + G 102 0)) (jI (sAl (G 102) b j (r * G 102 0 + G 102 0))) (jI (r * G 102 (27 + b) + j + G 102 (27 + b))) (jI (r + 1)) (hp q (up G 13 (b * 160 + (r * G 102 (27 + b) + j)) (sRo (G 102) b j r))) := by
  have g := hB.1.1
  have e0 := hB.2.1.1
  have w := hB.1.2.2.1 b hb.1 hb.2
  have pl := rowPl hB.1 hb hj hr
  generalize hf : (fun k => sOv (G 102) b j (r * G 102 0 + k)) = f
  have hR : sRo (G 102) b j r = msk f (G 102 0).toNat := by unfold sRo; rw [hf]
  refine Eq.trans ?_ (loopE (fun n (s : Int × Int × Nat × Int) => L_X10_weaveOne_78 N k50 n 12 (jI b) (jI j) (jI (G 102 (35 + b))) (jI (sPe (G 102) b)) (jI xs) (jI s.1) (jI s.2.1) (jI (r * G 102 (27 + b) + j)) (jI r) (jI s.2.2.1) (jI s.2.2.2) (hp q G)) (fun k => (r * G 102 0 + k, sAl (G 102) b j (r * G 102 0 + k), msk f k, (k : Int))) (G 102 0).toNat (show _ < N by omega) ?_ ?_)
  · show _ = L_X10_weaveOne_78 N k50 N 12 (jI b) (jI j) (jI (G 102 (35 + b))) (jI (sPe (G 102) b)) (jI xs) (jI (r * G 102 0 + 0)) (jI (sAl (G 102) b j (r * G 102 0 + 0))) (jI (r * G 102 (27 + b) + j)) (jI r) (jI 0) (jI 0) (hp q G)
    rw [Int.add_zero]
  · intro n k hk
    show L_X10_weaveOne_78 N k50 (n + 1) 12 (jI b) (jI j) (jI (G 102 (35 + b))) (jI (sPe (G 102) b)) (jI xs) (jI (r * G 102 0 + k)) (jI (sAl (G 102) b j (r * G 102 0 + k))) (jI (r * G 102 (27 + b) + j)) (jI r) (jI (msk f k)) (jI k) (hp q G) = L_X10_weaveOne_78 N k50 n 12 (jI b) (jI j) (jI (G 102 (35 + b))) (jI (sPe (G 102) b)) (jI xs) (jI (r * G 102 0 + ((k + 1 : Nat) : Int))) (jI (sAl (G 102) b j (r * G 102 0 + ((k + 1 : Nat) : Int)))) (jI (r * G 102 (27 + b) + j)) (jI r) (jI (msk f (k + 1))) (jI ((k + 1 : Nat) : Int)) (hp q G)
    have al := alF hB.1 (j := j) hb.1 hb.2 (show 0 ≤ r * G 102 0 + k by omega)
    have sa := sAt_r hB.1 (b := b) (j := j) (i := r * G 102 0 + k)
    have m0 := Int.emod_nonneg (sPl (G 102) b j (r * G 102 0 + k)) (show sPe (G 102) b ≠ 0 by omega)
    have m1 := Int.emod_lt_of_pos (sPl (G 102) b j (r * G 102 0 + k)) (show 0 < sPe (G 102) b by omega)
    have an := al_next (A := G 102) (b := b) (j := j) (show 0 ≤ r * G 102 0 + k by omega)
    have fk : f k = decide (sPl (G 102) b j (r * G 102 0 + k) % sPe (G 102) b < G 102 (35 + b)) := by rw [← hf]; rfl
    have mn := msk_next f (n := k) (by omega)
    have J : J_X10_weaveOne_111 N (L_X10_weaveOne_78 N k50 n) 12 (jI b) (jI j) (jI (G 102 (35 + b))) (jI (sPe (G 102) b)) (jI xs) (jI (r * G 102 0 + k)) (jI (sAl (G 102) b j (r * G 102 0 + k) + sAt (G 102) b j (r * G 102 0 + k))) (jI (r * G 102 (27 + b) + j)) (jI r) (jI (msk f k)) (jI k) (hp q G) = L_X10_weaveOne_78 N k50 n 12 (jI b) (jI j) (jI (G 102 (35 + b))) (jI (sPe (G 102) b)) (jI xs) (jI (r * G 102 0 + ((k + 1 : Nat) : Int))) (jI (sAl (G 102) b j (r * G 102 0 + ((k + 1 : Nat) : Int)))) (jI (r * G 102 (27 + b) + j)) (jI r) (jI (msk f (k + 1))) (jI ((k + 1 : Nat) : Int)) (hp q G) := by
      unfold J_X10_weaveOne_111
      by_cases c : sPl (G 102) b j (r * G 102 0 + k) % sPe (G 102) b < G 102 (35 + b)
      · have := mn.1 (by rw [fk]; exact decide_eq_true c)
        simp (maxSteps := 2000000) (disch := first | assumption | omega) only [jI0, iAdd_j, iSub_j, iMul_j, iNeg_j, Option.bind_some, jlt_t, jlt_f, jlt, jle_t, jle_f, jle, jeq_t, jeq_f, jeq, ↓reduceIte, iRem_p, al.1, this, Int.natCast_succ, ← Int.add_assoc, an]
      · have := mn.2 (by rw [fk]; simpa using c)
        simp (maxSteps := 2000000) (disch := first | assumption | omega) only [jI0, iAdd_j, iSub_j, iMul_j, iNeg_j, Option.bind_some, jlt_t, jlt_f, jlt, jle_t, jle_f, jle, jeq_t, jeq_f, jeq, ↓reduceIte, iRem_p, al.1, ← this, Int.natCast_succ, ← Int.add_assoc, an]
    rw [L_X10_weaveOne_78]
    rcases hx with rfl | ⟨rfl, hx⟩
    · simp (maxSteps := 2000000) (disch := first | assumption | omega) only [jI0, iAdd_j, iSub_j, iMul_j, iNeg_j, Option.bind_some, jlt_t, jlt_f, jlt, jle_t, jle_f, jle, jeq_t, jeq_f, jeq, ↓reduceIte, o12, o2, e0, oSlipsAt]
      exact J
    · have z := sAt_0 hB.1 (j := j) (i := r * G 102 0 + k) hx
      rw [z, Int.add_zero] at J
      simp (maxSteps := 2000000) (disch := first | assumption | omega) only [jI0, iAdd_j, iSub_j, iMul_j, iNeg_j, Option.bind_some, jlt_t, jlt_f, jlt, jle_t, jle_f, jle, jeq_t, jeq_f, jeq, ↓reduceIte, o12, o2, e0]
      exact J
  · intro n
    show L_X10_weaveOne_78 N k50 (n + 1) 12 (jI b) (jI j) (jI (G 102 (35 + b))) (jI (sPe (G 102) b)) (jI xs) (jI (r * G 102 0 + ((G 102 0).toNat : Int))) (jI (sAl (G 102) b j (r * G 102 0 + ((G 102 0).toNat : Int)))) (jI (r * G 102 (27 + b) + j)) (jI r) (jI (msk f (G 102 0).toNat)) (jI (G 102 0).toNat) (hp q G) = _
    have eb : BB (up G 13 (b * 160 + (r * G 102 (27 + b) + j)) (sRo (G 102) b j r)) := hB
    have ew : f_X0_weaversOf N 2 (jI b) (hp q (up G 13 (b * 160 + (r * G 102 (27 + b) + j)) (sRo (G 102) b j r))) = some (jI (G 102 (27 + b)), hp q (up G 13 (b * 160 + (r * G 102 (27 + b) + j)) (sRo (G 102) b j r))) := oWv eb hb.1 hb.2
    rw [L_X10_weaveOne_78, show ((G 102 0).toNat : Int) = G 102 0 by omega, ← hR]
    simp (maxSteps := 2000000) (disch := first | assumption | omega) only [jI0, iAdd_j, iSub_j, iMul_j, iNeg_j, Option.bind_some, jlt_t, jlt_f, jlt, jle_t, jle_f, jle, jeq_t, jeq_f, jeq, ↓reduceIte, o12, o2, e0, s13, ew]
end
