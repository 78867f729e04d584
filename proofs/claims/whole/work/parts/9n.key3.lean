/-! basket: the model's index of a word, one word -/
section
variable {q : Nat × Nat × (Nat → Nat)} {G : Nat → Int → Int} {N : Nat}
theorem mK15 (hN : 10000 ≤ N) (k4 : Nat → Int32 → Int32 → mH → Option (Int32 × mH)) {i : Nat} (hi : i < 17) {n s e : Int} {T : Int → Int} (h : TkM G n T) (e7 : G 100 7 = s) (e8 : G 100 8 = e) (s0 : 0 ≤ s) (s2 : e ≤ n) : ∀ (d f j : Nat), j + d = (sjI i).length → d < f → s + j ≤ e → (∀ k : Nat, k < j → T (s + k) = (sjI i).getD k 0) → (isW T s e (sjI i) → L_X12_keyAt_15 N k4 f 100 (jI (i : Nat)) (jI (kst i : Nat)) (jI (j : Nat)) (hp q G) = some (jI (i : Nat), hp q G)) ∧ (¬ isW T s e (sjI i) → L_X12_keyAt_15 N k4 f 100 (jI (i : Nat)) (jI (kst i : Nat)) (jI (j : Nat)) (hp q G) = k4 100 (jI ((i + 1 : Nat) : Int)) (jI ((kst (i + 1) : Nat) : Int)) (hp q G)) := by
  obtain ⟨a1, a2, a3, a4⟩ := kst_at i hi
  have l17 := (sjI_len 17 (by omega)).2
  have t3 := h.2.1
  have sk := mK97 (N := N) (q := q) (G := G) k4 hi (sjI i).length N 0 (by omega) (by omega)
  rw [show ((kst i + 0 : Nat) : Int) = (kst i : Int) by omega] at sk
  intro d
  induction d with
  | zero =>
    intro f j hj hf hse hk
    obtain ⟨f, rfl⟩ : ∃ y, f = y + 1 := ⟨f - 1, by omega⟩
    have ej : j = (sjI i).length := by omega
    subst ej
    have sc := (sjI_at 17 (by omega) (kst i + (sjI i).length) a2).1
    rw [a3, show ((kst i + (sjI i).length : Nat) : Int) = (kst i : Int) + ((sjI i).length : Nat) by omega] at sc
    rw [L_X12_keyAt_15]
    unfold J_X12_keyAt_69
    by_cases c : s + ((sjI i).length : Nat) = e
    · refine ⟨fun _ => ?_, fun hh => absurd ⟨by omega, hk⟩ hh⟩
      simp (maxSteps := 2000000) (disch := first | assumption | omega) only [jI0, iAdd_j, iSub_j, iMul_j, iNeg_j, Option.bind_some, jlt_t, jlt_f, jlt, jle_t, jle_f, jle, jeq_t, jeq_f, jeq, ↓reduceIte, sc, o100, e7, e8, c]
    · refine ⟨fun hh => absurd hh.1 (by omega), fun _ => ?_⟩
      simp (maxSteps := 2000000) (disch := first | assumption | omega) only [jI0, iAdd_j, iSub_j, iMul_j, iNeg_j, Option.bind_some, jlt_t, jlt_f, jlt, jle_t, jle_f, jle, jeq_t, jeq_f, jeq, ↓reduceIte, sc, o100, e7, e8, sk]
  | succ d ih =>
    intro f j hj hf hse hk
    obtain ⟨f, rfl⟩ : ∃ y, f = y + 1 := ⟨f - 1, by omega⟩
    have hjl : j < (sjI i).length := by omega
    obtain ⟨b1, b2⟩ := kst_j i hi j hjl
    obtain ⟨sc, r0, r1⟩ := sjI_at 17 (by omega) (kst i + j) (by omega)
    rw [b1] at sc r0 r1
    rw [show ((kst i + j : Nat) : Int) = (kst i : Int) + (j : Nat) by omega] at sc
    have n32 : (sjI i).getD j 0 ≠ 32 := by omega
    rw [L_X12_keyAt_15]
    unfold J_X12_keyAt_69
    by_cases c : s + (j : Int) < e
    · obtain ⟨tb, g4⟩ := h.2.2 (s + j) (by omega) (by omega)
      by_cases c2 : T (s + j) = (sjI i).getD j 0
      · have nx := ih f (j + 1) (by omega) (by omega) (by omega) (fun k hk1 => by
          by_cases ck : k = j
          · rw [ck]; exact c2
          · exact hk k (by omega))
        rw [show ((j + 1 : Nat) : Int) = (j : Int) + 1 by omega] at nx
        rw [c2] at g4
        refine ⟨fun hh => ?_, fun hh => ?_⟩
        · have nx1 := nx.1 hh
          simp (maxSteps := 2000000) (disch := first | assumption | omega) only [jI0, iAdd_j, iSub_j, iMul_j, iNeg_j, Option.bind_some, jlt_t, jlt_f, jlt, jle_t, jle_f, jle, jeq_t, jeq_f, jeq, ↓reduceIte, sc, o100, e7, e8, l104, g4, nx1]
        · have nx2 := nx.2 hh
          simp (maxSteps := 2000000) (disch := first | assumption | omega) only [jI0, iAdd_j, iSub_j, iMul_j, iNeg_j, Option.bind_some, jlt_t, jlt_f, jlt, jle_t, jle_f, jle, jeq_t, jeq_f, jeq, ↓reduceIte, sc, o100, e7, e8, l104, g4, nx2]
      · refine ⟨fun hh => absurd (hh.2 j hjl) c2, fun _ => ?_⟩
        simp (maxSteps := 2000000) (disch := first | assumption | omega) only [jI0, iAdd_j, iSub_j, iMul_j, iNeg_j, Option.bind_some, jlt_t, jlt_f, jlt, jle_t, jle_f, jle, jeq_t, jeq_f, jeq, ↓reduceIte, sc, o100, e7, e8, l104, g4, sk]
    · refine ⟨fun hh => absurd hh.1 (by omega), fun _ => ?_⟩
      simp (maxSteps := 2000000) (disch := first | assumption | omega) only [jI0, iAdd_j, iSub_j, iMul_j, iNeg_j, Option.bind_some, jlt_t, jlt_f, jlt, jle_t, jle_f, jle, jeq_t, jeq_f, jeq, ↓reduceIte, sc, o100, e7, e8, sk]
end
