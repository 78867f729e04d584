/-! basket: the model's runs of bytes -/
section
variable {q : Nat × Nat × (Nat → Nat)} {G : Nat → Int → Int} {N : Nat}
/-- the model reads n bytes of T -/
def TkM (G : Nat → Int → Int) (n : Int) (T : Int → Int) : Prop := G 100 9 = n ∧ (0 ≤ n ∧ n ≤ 500) ∧ ∀ k, 0 ≤ k → k < n → (0 ≤ T k ∧ T k ≤ 255) ∧ G 104 k = T k
theorem TkM.up {n v i : Int} {T : Int → Int} (h : TkM G n T) (hi : i ≠ 9) : TkM (up G 100 i v) n T := by
  unfold TkM at *
  rw [up_eq, u1_ne (by omega), up_ne (by decide)]
  exact h
theorem mSee {n p : Int} {T : Int → Int} (h : TkM G n T) (p0 : 0 ≤ p) (p1 : p ≤ 600) : f_X12_see N 100 (jI p) (hp q G) = some (jI (if p < n then T p else -1), hp q G) := by
  obtain ⟨t2, t3, t4⟩ := h
  unfold f_X12_see
  by_cases c : p < n
  · have g := (t4 p p0 c).2
    rw [if_pos c]
    simp (maxSteps := 2000000) (disch := first | assumption | omega) only [jI0, iAdd_j, iSub_j, iMul_j, iNeg_j, Option.bind_some, jlt_t, jlt_f, jlt, jle_t, jle_f, jle, jeq_t, jeq_f, jeq, ↓reduceIte, o100, t2, l104, g]
  · rw [if_neg c]
    simp (maxSteps := 2000000) (disch := first | assumption | omega) only [jI0, iAdd_j, iSub_j, iMul_j, iNeg_j, Option.bind_some, jlt_t, jlt_f, jlt, jle_t, jle_f, jle, jeq_t, jeq_f, jeq, ↓reduceIte, o100, t2]
theorem mSmall {c : Int} (h : -2147483648 ≤ c ∧ c < 2147483648) {g : mH} : f_X12_isSmall N (jI c) g = some (bI (97 ≤ c ∧ c ≤ 122), g) := by
  unfold f_X12_isSmall
  by_cases c1 : c < 97
  · simp (maxSteps := 2000000) (disch := first | assumption | omega) only [jI0, iAdd_j, iSub_j, iMul_j, iNeg_j, Option.bind_some, jlt_t, jlt_f, jlt, jle_t, jle_f, jle, jeq_t, jeq_f, jeq, ↓reduceIte, bI_f]
  · by_cases c2 : 122 < c
    · simp (maxSteps := 2000000) (disch := first | assumption | omega) only [jI0, iAdd_j, iSub_j, iMul_j, iNeg_j, Option.bind_some, jlt_t, jlt_f, jlt, jle_t, jle_f, jle, jeq_t, jeq_f, jeq, ↓reduceIte, bI_f]
    · simp (maxSteps := 2000000) (disch := first | assumption | omega) only [jI0, iAdd_j, iSub_j, iMul_j, iNeg_j, Option.bind_some, jlt_t, jlt_f, jlt, jle_t, jle_f, jle, jeq_t, jeq_f, jeq, ↓reduceIte, bI_t]
theorem mDigit {c : Int} (h : -2147483648 ≤ c ∧ c < 2147483648) {g : mH} : f_X12_isDigit N (jI c) g = some (bI (48 ≤ c ∧ c ≤ 57), g) := by
  unfold f_X12_isDigit
  by_cases c1 : c < 48
  · simp (maxSteps := 2000000) (disch := first | assumption | omega) only [jI0, iAdd_j, iSub_j, iMul_j, iNeg_j, Option.bind_some, jlt_t, jlt_f, jlt, jle_t, jle_f, jle, jeq_t, jeq_f, jeq, ↓reduceIte, bI_f]
  · by_cases c2 : 57 < c
    · simp (maxSteps := 2000000) (disch := first | assumption | omega) only [jI0, iAdd_j, iSub_j, iMul_j, iNeg_j, Option.bind_some, jlt_t, jlt_f, jlt, jle_t, jle_f, jle, jeq_t, jeq_f, jeq, ↓reduceIte, bI_f]
    · simp (maxSteps := 2000000) (disch := first | assumption | omega) only [jI0, iAdd_j, iSub_j, iMul_j, iNeg_j, Option.bind_some, jlt_t, jlt_f, jlt, jle_t, jle_f, jle, jeq_t, jeq_f, jeq, ↓reduceIte, bI_t]
theorem mSkip {n : Int} {T : Int → Int} : ∀ (d f : Nat) (p : Int) (G : Nat → Int → Int), n - p ≤ d → d < f → 0 ≤ p → p ≤ n → G 100 7 = p → TkM G n T → ∃ f' : Nat, L_X12_next_8 N f 100 (hp q G) = L_X12_next_8 N (f' + 1) 100 (hp q (up G 100 7 (ru (spB T) n d p))) := by
  intro d
  induction d with
  | zero =>
    intro f p G h1 h2 p0 p1 e h
    rw [ru, ← e, up_self]
    exact ⟨f - 1, by rw [show f - 1 + 1 = f by omega]⟩
  | succ d ih =>
    intro f p G h1 h2 p0 p1 e h
    obtain ⟨f, rfl⟩ : ∃ y, f = y + 1 := ⟨f - 1, by omega⟩
    have t3 := h.2.1
    by_cases c : p < n ∧ spB T p = true
    · have ob := mSee (N := N) (q := q) (p := p) h p0 (by omega)
      rw [if_pos c.1] at ob
      have tb := (h.2.2 p p0 c.1).1
      obtain ⟨f', hf⟩ := ih f (p + 1) (up G 100 7 (p + 1)) (by omega) (by omega) (by omega) (by omega) (by rw [up_eq, u1_eq]) (h.up (by omega))
      rw [up_up] at hf
      rw [ru, if_pos c]
      refine ⟨f', ?_⟩
      rw [← hf, L_X12_next_8]
      have w7 := (w100 q G (p + 1)).2.2.1
      by_cases c1 : T p = 32
      · rw [c1] at ob
        simp (maxSteps := 2000000) (disch := first | assumption | omega) only [jI0, iAdd_j, iSub_j, iMul_j, iNeg_j, Option.bind_some, jlt_t, jlt_f, jlt, jle_t, jle_f, jle, jeq_t, jeq_f, jeq, ↓reduceIte, o100, e, ob, w7]
      · have c2 : T p = 10 := by
          have := c.2
          unfold spB at this
          simpa [c1] using this
        rw [c2] at ob
        simp (maxSteps := 2000000) (disch := first | assumption | omega) only [jI0, iAdd_j, iSub_j, iMul_j, iNeg_j, Option.bind_some, jlt_t, jlt_f, jlt, jle_t, jle_f, jle, jeq_t, jeq_f, jeq, ↓reduceIte, o100, e, ob, w7]
    · rw [ru, if_neg c, ← e, up_self]
      exact ⟨f, rfl⟩
theorem mWord {n : Int} {T : Int → Int} : ∀ (d f : Nat) (p : Int) (G : Nat → Int → Int), n - p ≤ d → d < f → 0 ≤ p → p ≤ n → G 100 8 = p → TkM G n T → L_X12_next_89 N f 100 (hp q G) = (f_X12_keyAt N 100 (hp q (up G 100 8 (ru (smB T) n d p)))).bind fun p4 => (pV p4.2 12 100 10 (.int p4.1)).bind fun h5 => some h5 := by
  intro d
  induction d with
  | zero =>
    intro f p G h1 h2 p0 p1 e h
    obtain ⟨f, rfl⟩ : ∃ y, f = y + 1 := ⟨f - 1, by omega⟩
    have t3 := h.2.1
    have ob := mSee (N := N) (q := q) (p := p) h p0 (by omega)
    have c : ¬ p < n := by omega
    rw [if_neg c] at ob
    have os := mSmall (N := N) (c := -1) (by omega) (g := hp q G)
    have nf : ¬ ((97 : Int) ≤ -1 ∧ (-1 : Int) ≤ 122) := by omega
    rw [bI_f nf] at os
    rw [ru, ← e, up_self, L_X12_next_89]
    simp (maxSteps := 2000000) (disch := first | assumption | omega) only [jI0, iAdd_j, iSub_j, iMul_j, iNeg_j, Option.bind_some, jlt_t, jlt_f, jlt, jle_t, jle_f, jle, jeq_t, jeq_f, jeq, ↓reduceIte, o100, e, ob, os]
  | succ d ih =>
    intro f p G h1 h2 p0 p1 e h
    obtain ⟨f, rfl⟩ : ∃ y, f = y + 1 := ⟨f - 1, by omega⟩
    have t3 := h.2.1
    have ob := mSee (N := N) (q := q) (p := p) h p0 (by omega)
    rw [L_X12_next_89]
    by_cases c : p < n
    · rw [if_pos c] at ob
      have tb := (h.2.2 p p0 c).1
      have os := mSmall (N := N) (c := T p) (by omega) (g := hp q G)
      by_cases s : smB T p = true
      · have s2 : 97 ≤ T p ∧ T p ≤ 122 := of_decide_eq_true s
        rw [bI_t s2] at os
        have nx := ih f (p + 1) (up G 100 8 (p + 1)) (by omega) (by omega) (by omega) (by omega) (by rw [up_eq, u1_eq]) (h.up (by omega))
        rw [up_up] at nx
        have w8 := (w100 q G (p + 1)).2.2.2.1
        rw [ru, if_pos ⟨c, s⟩, ← nx]
        simp (maxSteps := 2000000) (disch := first | assumption | omega) only [jI0, iAdd_j, iSub_j, iMul_j, iNeg_j, Option.bind_some, jlt_t, jlt_f, jlt, jle_t, jle_f, jle, jeq_t, jeq_f, jeq, ↓reduceIte, o100, e, ob, os, w8]
      · have s2 : ¬ (97 ≤ T p ∧ T p ≤ 122) := fun h => s (decide_eq_true h)
        have ns : ¬ (p < n ∧ smB T p = true) := fun h => s h.2
        rw [bI_f s2] at os
        rw [ru, if_neg ns, ← e, up_self]
        simp (maxSteps := 2000000) (disch := first | assumption | omega) only [jI0, iAdd_j, iSub_j, iMul_j, iNeg_j, Option.bind_some, jlt_t, jlt_f, jlt, jle_t, jle_f, jle, jeq_t, jeq_f, jeq, ↓reduceIte, o100, e, ob, os]
    · rw [if_neg c] at ob
      have os := mSmall (N := N) (c := -1) (by omega) (g := hp q G)
      have nf : ¬ ((97 : Int) ≤ -1 ∧ (-1 : Int) ≤ 122) := by omega
      rw [bI_f nf] at os
      have ns : ¬ (p < n ∧ smB T p = true) := fun h => c h.1
      rw [ru, if_neg ns, ← e, up_self]
      simp (maxSteps := 2000000) (disch := first | assumption | omega) only [jI0, iAdd_j, iSub_j, iMul_j, iNeg_j, Option.bind_some, jlt_t, jlt_f, jlt, jle_t, jle_f, jle, jeq_t, jeq_f, jeq, ↓reduceIte, o100, e, ob, os]
end
