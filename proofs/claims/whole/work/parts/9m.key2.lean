/-! basket: the model's index of a word -/
section
variable {q : Nat × Nat × (Nat → Nat)} {G : Nat → Int → Int} {N : Nat}
theorem mK97 (k4 : Nat → Int32 → Int32 → mH → Option (Int32 × mH)) {i : Nat} (hi : i < 17) : ∀ (d f j : Nat), j + d = (sjI i).length → d < f → L_X12_keyAt_97 N k4 f 100 (jI (i : Nat)) (jI ((kst i + j : Nat) : Int)) (hp q G) = k4 100 (jI ((i + 1 : Nat) : Int)) (jI ((kst (i + 1) : Nat) : Int)) (hp q G) := by
  obtain ⟨a1, a2, a3, a4⟩ := kst_at i hi
  have l17 := (sjI_len 17 (by omega)).2
  intro d
  induction d with
  | zero =>
    intro f j hj hf
    obtain ⟨f, rfl⟩ : ∃ y, f = y + 1 := ⟨f - 1, by omega⟩
    have e : j = (sjI i).length := by omega
    subst e
    have sc := (sjI_at 17 (by omega) (kst i + (sjI i).length) a2).1
    rw [a3] at sc
    rw [L_X12_keyAt_97, a1, show ((kst i + (sjI i).length + 1 : Nat) : Int) = ((kst i + (sjI i).length : Nat) : Int) + 1 by omega, show ((i + 1 : Nat) : Int) = (i : Int) + 1 by omega]
    simp (maxSteps := 2000000) (disch := first | assumption | omega) only [jI0, iAdd_j, iSub_j, iMul_j, iNeg_j, Option.bind_some, jlt_t, jlt_f, jlt, jle_t, jle_f, jle, jeq_t, jeq_f, jeq, ↓reduceIte, sc]
  | succ d ih =>
    intro f j hj hf
    obtain ⟨f, rfl⟩ : ∃ y, f = y + 1 := ⟨f - 1, by omega⟩
    have hjl : j < (sjI i).length := by omega
    obtain ⟨b1, b2⟩ := kst_j i hi j hjl
    obtain ⟨sc, r0, r1⟩ := sjI_at 17 (by omega) (kst i + j) (by omega)
    have nx := ih f (j + 1) (by omega) (by omega)
    rw [show ((kst i + (j + 1) : Nat) : Int) = ((kst i + j : Nat) : Int) + 1 by omega] at nx
    have n32 : (sjI 17).getD (kst i + j) 0 ≠ 32 := by omega
    rw [L_X12_keyAt_97, ← nx]
    simp (maxSteps := 2000000) (disch := first | assumption | omega) only [jI0, iAdd_j, iSub_j, iMul_j, iNeg_j, Option.bind_some, jlt_t, jlt_f, jlt, jle_t, jle_f, jle, jeq_t, jeq_f, jeq, ↓reduceIte, sc]
end
