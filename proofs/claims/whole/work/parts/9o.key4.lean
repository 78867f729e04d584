/-! basket: the model's index of a word, all words -/
def KeyV (T : Int → Int) (s e v : Int) : Prop := (v = 17 ∧ ∀ i : Nat, i < 17 → ¬ isW T s e (sjI i)) ∨ ∃ i : Nat, i < 17 ∧ v = i ∧ isW T s e (sjI i)
section
variable {q : Nat × Nat × (Nat → Nat)} {G : Nat → Int → Int} {N : Nat}
theorem mKey (hN : 10000 ≤ N) {n s e : Int} {T : Int → Int} (h : TkM G n T) (e7 : G 100 7 = s) (e8 : G 100 8 = e) (s0 : 0 ≤ s) (s1 : s ≤ e) (s2 : e ≤ n) : ∃ v : Int, KeyV T s e v ∧ f_X12_keyAt N 100 (hp q G) = some (jI v, hp q G) := by
  have l17 := sjI_len 17 (by omega)
  have lx := l17.1
  have LL : ∀ (d f i : Nat), i + d = 17 → d < f → (∀ k : Nat, k < i → ¬ isW T s e (sjI k)) → ∃ v : Int, KeyV T s e v ∧ L_X12_keyAt_4 N f 100 (jI (i : Nat)) (jI (kst i : Nat)) (hp q G) = some (jI v, hp q G) := by
    intro d
    induction d with
    | zero =>
      intro f i hi hf hk
      obtain ⟨f, rfl⟩ : ∃ y, f = y + 1 := ⟨f - 1, by omega⟩
      have ei : i = 17 := by omega
      subst ei
      refine ⟨17, .inl ⟨rfl, hk⟩, ?_⟩
      have ek := kst_e.1
      rw [L_X12_keyAt_4, ek]
      simp (maxSteps := 2000000) (disch := first | assumption | omega) only [jI0, iAdd_j, iSub_j, iMul_j, iNeg_j, Option.bind_some, jlt_t, jlt_f, jlt, jle_t, jle_f, jle, jeq_t, jeq_f, jeq, ↓reduceIte, lx]
    | succ d ih =>
      intro f i hi hf hk
      obtain ⟨f, rfl⟩ : ∃ y, f = y + 1 := ⟨f - 1, by omega⟩
      obtain ⟨a1, a2, a3, a4⟩ := kst_at i (by omega)
      have z := mK15 (N := N) (q := q) hN (L_X12_keyAt_4 N f) (i := i) (by omega) h e7 e8 s0 s2 (sjI i).length N 0 (by omega) (by omega) (by omega) (fun k hk => absurd hk (by omega))
      rw [show ((0 : Nat) : Int) = 0 from rfl] at z
      have kl : (kst i : Int) < ((sjI 17).length : Nat) := by omega
      rw [L_X12_keyAt_4]
      by_cases c : isW T s e (sjI i)
      · refine ⟨i, .inr ⟨i, by omega, rfl, c⟩, ?_⟩
        have z1 := z.1 c
        simp (maxSteps := 2000000) (disch := first | assumption | omega) only [jI0, iAdd_j, iSub_j, iMul_j, iNeg_j, Option.bind_some, jlt_t, jlt_f, jlt, jle_t, jle_f, jle, jeq_t, jeq_f, jeq, ↓reduceIte, lx, z1]
      · obtain ⟨v, v1, v2⟩ := ih f (i + 1) (by omega) (by omega) (fun k hk1 => by
          by_cases ck : k = i
          · rw [ck]; exact c
          · exact hk k (by omega))
        refine ⟨v, v1, ?_⟩
        have z2 := z.2 c
        rw [v2] at z2
        simp (maxSteps := 2000000) (disch := first | assumption | omega) only [jI0, iAdd_j, iSub_j, iMul_j, iNeg_j, Option.bind_some, jlt_t, jlt_f, jlt, jle_t, jle_f, jle, jeq_t, jeq_f, jeq, ↓reduceIte, lx, z2]
  obtain ⟨v, v1, v2⟩ := LL 17 N 0 (by omega) (by omega) (fun k hk => absurd hk (by omega))
  rw [kst_e.2, show ((0 : Nat) : Int) = 0 from rfl, show ((1 : Nat) : Int) = 1 from rfl] at v2
  exact ⟨v, v1, by unfold f_X12_keyAt; exact v2⟩
end
