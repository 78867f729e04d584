/-! basket: runs of bytes; the component's reader -/
/-- the end of a run of P from p on, below n -/
def ru (P : Int → Bool) (n : Int) : Nat → Int → Int
  | 0, p => p
  | d + 1, p => if p < n ∧ P p = true then ru P n d (p + 1) else p
theorem ru_ge (P : Int → Bool) (n : Int) : ∀ (d : Nat) (p : Int), p ≤ ru P n d p
  | 0, p => Int.le_refl p
  | d + 1, p => by
    have := ru_ge P n d (p + 1)
    rw [ru]
    split <;> omega
theorem ru_le (P : Int → Bool) (n : Int) : ∀ (d : Nat) (p : Int), p ≤ n → ru P n d p ≤ n
  | 0, p, h => h
  | d + 1, p, h => by
    rw [ru]
    split
    · exact ru_le P n d (p + 1) (by omega)
    · exact h
theorem ru_end (P : Int → Bool) (n : Int) : ∀ (d : Nat) (p : Int), n - p ≤ d → ¬ (ru P n d p < n ∧ P (ru P n d p) = true)
  | 0, p, h => by
    rw [ru]
    omega
  | d + 1, p, h => by
    rw [ru]
    split
    · exact ru_end P n d (p + 1) (by omega)
    · assumption
def spB (T : Int → Int) (p : Int) : Bool := T p == 32 || T p == 10
def smB (T : Int → Int) (p : Int) : Bool := decide (97 ≤ T p ∧ T p ≤ 122)
def dgB (T : Int → Int) (p : Int) : Bool := decide (48 ≤ T p ∧ T p ≤ 57)
theorem i8_c {c : Int} (h : 0 ≤ c ∧ c ≤ 255) : (i8 c = c ∧ c ≤ 127) ∨ (i8 c = c - 256 ∧ 128 ≤ c) := by
  unfold i8
  split <;> omega
section
variable {q : Nat × Nat × (Nat → Nat)} {G : Nat → Int → Int} {N : Nat}
/-- the component's reader reads n bytes of T -/
def TkC (G : Nat → Int → Int) (n : Int) (T : Int → Int) : Prop := G 10 2 = 1 ∧ G 10 3 = n ∧ (0 ≤ n ∧ n ≤ 500) ∧ ∀ k, 0 ≤ k → k < n → (0 ≤ T k ∧ T k ≤ 255) ∧ G 1 k = i8 (T k)
theorem TkC.up {n v i : Int} {T : Int → Int} (h : TkC G n T) (hi : i ≠ 2 ∧ i ≠ 3) : TkC (up G 10 i v) n T := by
  unfold TkC at *
  rw [up_eq, u1_ne (by omega), u1_ne (by omega), up_ne (by decide)]
  exact h
theorem oByte {n p : Int} {T : Int → Int} (h : TkC G n T) (p0 : 0 ≤ p) (p1 : p ≤ 600) : f_X8_byteAt N 10 (jI p) (hp q G) = some (jI (if p < n then i8 (T p) else -1), hp q G) := by
  obtain ⟨t1, t2, t3, t4⟩ := h
  have e1 : (1 : Int).toNat = 1 := rfl
  unfold f_X8_byteAt
  by_cases c : p < n
  · have g := (t4 p p0 c).2
    rw [if_pos c]
    simp (maxSteps := 2000000) (disch := first | assumption | omega) only [jI0, iAdd_j, iSub_j, iMul_j, iNeg_j, Option.bind_some, jlt_t, jlt_f, jlt, jle_t, jle_f, jle, jeq_t, jeq_f, jeq, ↓reduceIte, o10, t1, t2, e1, l1, g]
  · rw [if_neg c]
    simp (maxSteps := 2000000) (disch := first | assumption | omega) only [jI0, iAdd_j, iSub_j, iMul_j, iNeg_j, Option.bind_some, jlt_t, jlt_f, jlt, jle_t, jle_f, jle, jeq_t, jeq_f, jeq, ↓reduceIte, o10, t1, t2, e1]
theorem oSkip {n : Int} {T : Int → Int} : ∀ (d f : Nat) (p : Int) (G : Nat → Int → Int), n - p ≤ d → d < f → 0 ≤ p → p ≤ n → G 10 4 = p → TkC G n T → L_X8_advance_8 N f 10 (hp q G) = J_X8_advance_58 N 10 (hp q (up G 10 4 (ru (spB T) n d p))) := by
  intro d
  induction d with
  | zero =>
    intro f p G h1 h2 p0 p1 e h
    obtain ⟨f, rfl⟩ : ∃ y, f = y + 1 := ⟨f - 1, by omega⟩
    have t2 := h.2.1
    have t3 := h.2.2.1
    rw [ru, ← e, up_self, L_X8_advance_8]
    simp (maxSteps := 2000000) (disch := first | assumption | omega) only [jI0, iAdd_j, iSub_j, iMul_j, iNeg_j, Option.bind_some, jlt_t, jlt_f, jlt, jle_t, jle_f, jle, jeq_t, jeq_f, jeq, ↓reduceIte, o10, e, t2]
  | succ d ih =>
    intro f p G h1 h2 p0 p1 e h
    obtain ⟨f, rfl⟩ : ∃ y, f = y + 1 := ⟨f - 1, by omega⟩
    have t2 := h.2.1
    have t3 := h.2.2.1
    rw [L_X8_advance_8]
    by_cases c : p < n
    · have ob := oByte (N := N) (q := q) h p0 (by omega)
      rw [if_pos c] at ob
      have tb := (h.2.2.2 p p0 c).1
      have ic := i8_c tb
      have NX : spB T p = true → L_X8_advance_8 N f 10 (hp q (up G 10 4 (p + 1))) = J_X8_advance_58 N 10 (hp q (up G 10 4 (ru (spB T) n (d + 1) p))) := by
        intro s
        rw [ih f (p + 1) (up G 10 4 (p + 1)) (by omega) (by omega) (by omega) (by omega) (by rw [up_eq, u1_eq]) (h.up (by omega)), up_up, ru, if_pos ⟨c, s⟩]
      by_cases c1 : T p = 32
      · have nx := NX (by unfold spB; rw [c1]; rfl)
        have i32 : i8 (T p) = 32 := by omega
        rw [i32] at ob
        simp (maxSteps := 2000000) (disch := first | assumption | omega) only [jI0, iAdd_j, iSub_j, iMul_j, iNeg_j, Option.bind_some, jlt_t, jlt_f, jlt, jle_t, jle_f, jle, jeq_t, jeq_f, jeq, ↓reduceIte, o10, e, t2, ob, w10, nx]
      · by_cases c2 : T p = 10
        · have nx := NX (by unfold spB; rw [c2]; rfl)
          have i10 : i8 (T p) = 10 := by omega
          rw [i10] at ob
          simp (maxSteps := 2000000) (disch := first | assumption | omega) only [jI0, iAdd_j, iSub_j, iMul_j, iNeg_j, Option.bind_some, jlt_t, jlt_f, jlt, jle_t, jle_f, jle, jeq_t, jeq_f, jeq, ↓reduceIte, o10, e, t2, ob, w10, nx]
        · have ns : ¬ (p < n ∧ spB T p = true) := by
            unfold spB
            simp [c1, c2]
          have n32 : i8 (T p) ≠ 32 := by omega
          have n10 : i8 (T p) ≠ 10 := by omega
          rw [ru, if_neg ns, ← e, up_self]
          simp (maxSteps := 2000000) (disch := first | assumption | omega) only [jI0, iAdd_j, iSub_j, iMul_j, iNeg_j, Option.bind_some, jlt_t, jlt_f, jlt, jle_t, jle_f, jle, jeq_t, jeq_f, jeq, ↓reduceIte, o10, e, t2, ob]
    · have ns : ¬ (p < n ∧ spB T p = true) := by omega
      rw [ru, if_neg ns, ← e, up_self]
      simp (maxSteps := 2000000) (disch := first | assumption | omega) only [jI0, iAdd_j, iSub_j, iMul_j, iNeg_j, Option.bind_some, jlt_t, jlt_f, jlt, jle_t, jle_f, jle, jeq_t, jeq_f, jeq, ↓reduceIte, o10, e, t2]
theorem oSmall {c : Int} (h : -2147483648 ≤ c ∧ c < 2147483648) {g : mH} : f_X8_isLetter N (jI c) g = some (bI (97 ≤ c ∧ c ≤ 122), g) := by
  unfold f_X8_isLetter
  by_cases c1 : c < 97
  · simp (maxSteps := 2000000) (disch := first | assumption | omega) only [jI0, iAdd_j, iSub_j, iMul_j, iNeg_j, Option.bind_some, jlt_t, jlt_f, jlt, jle_t, jle_f, jle, jeq_t, jeq_f, jeq, ↓reduceIte, bI_f]
  · by_cases c2 : 122 < c
    · simp (maxSteps := 2000000) (disch := first | assumption | omega) only [jI0, iAdd_j, iSub_j, iMul_j, iNeg_j, Option.bind_some, jlt_t, jlt_f, jlt, jle_t, jle_f, jle, jeq_t, jeq_f, jeq, ↓reduceIte, bI_f]
    · simp (maxSteps := 2000000) (disch := first | assumption | omega) only [jI0, iAdd_j, iSub_j, iMul_j, iNeg_j, Option.bind_some, jlt_t, jlt_f, jlt, jle_t, jle_f, jle, jeq_t, jeq_f, jeq, ↓reduceIte, bI_t]
theorem oDigit {c : Int} (h : -2147483648 ≤ c ∧ c < 2147483648) {g : mH} : f_X8_isDigit N (jI c) g = some (bI (48 ≤ c ∧ c ≤ 57), g) := by
  unfold f_X8_isDigit
  by_cases c1 : c < 48
  · simp (maxSteps := 2000000) (disch := first | assumption | omega) only [jI0, iAdd_j, iSub_j, iMul_j, iNeg_j, Option.bind_some, jlt_t, jlt_f, jlt, jle_t, jle_f, jle, jeq_t, jeq_f, jeq, ↓reduceIte, bI_f]
  · by_cases c2 : 57 < c
    · simp (maxSteps := 2000000) (disch := first | assumption | omega) only [jI0, iAdd_j, iSub_j, iMul_j, iNeg_j, Option.bind_some, jlt_t, jlt_f, jlt, jle_t, jle_f, jle, jeq_t, jeq_f, jeq, ↓reduceIte, bI_f]
    · simp (maxSteps := 2000000) (disch := first | assumption | omega) only [jI0, iAdd_j, iSub_j, iMul_j, iNeg_j, Option.bind_some, jlt_t, jlt_f, jlt, jle_t, jle_f, jle, jeq_t, jeq_f, jeq, ↓reduceIte, bI_t]
theorem oWord {n : Int} {T : Int → Int} : ∀ (d f : Nat) (p : Int) (G : Nat → Int → Int), n - p ≤ d → d < f → 0 ≤ p → p ≤ n → G 10 5 = p → TkC G n T → L_X8_advance_106 N f 10 (hp q G) = some (hp q (up G 10 5 (ru (smB T) n d p))) := by
  intro d
  induction d with
  | zero =>
    intro f p G h1 h2 p0 p1 e h
    obtain ⟨f, rfl⟩ : ∃ y, f = y + 1 := ⟨f - 1, by omega⟩
    have t2 := h.2.1
    have t3 := h.2.2.1
    rw [ru, ← e, up_self, L_X8_advance_106]
    simp (maxSteps := 2000000) (disch := first | assumption | omega) only [jI0, iAdd_j, iSub_j, iMul_j, iNeg_j, Option.bind_some, jlt_t, jlt_f, jlt, jle_t, jle_f, jle, jeq_t, jeq_f, jeq, ↓reduceIte, o10, e, t2]
  | succ d ih =>
    intro f p G h1 h2 p0 p1 e h
    obtain ⟨f, rfl⟩ : ∃ y, f = y + 1 := ⟨f - 1, by omega⟩
    have t2 := h.2.1
    have t3 := h.2.2.1
    rw [L_X8_advance_106]
    by_cases c : p < n
    · have ob := oByte (N := N) (q := q) h p0 (by omega)
      rw [if_pos c] at ob
      have tb := (h.2.2.2 p p0 c).1
      have ic := i8_c tb
      have os := oSmall (N := N) (c := i8 (T p)) (by omega) (g := hp q G)
      by_cases s : smB T p = true
      · have s2 : 97 ≤ T p ∧ T p ≤ 122 := of_decide_eq_true s
        have s3 : 97 ≤ i8 (T p) ∧ i8 (T p) ≤ 122 := by omega
        rw [bI_t s3] at os
        have nx := ih f (p + 1) (up G 10 5 (p + 1)) (by omega) (by omega) (by omega) (by omega) (by rw [up_eq, u1_eq]) (h.up (by omega))
        rw [up_up] at nx
        rw [ru, if_pos ⟨c, s⟩]
        simp (maxSteps := 2000000) (disch := first | assumption | omega) only [jI0, iAdd_j, iSub_j, iMul_j, iNeg_j, Option.bind_some, jlt_t, jlt_f, jlt, jle_t, jle_f, jle, jeq_t, jeq_f, jeq, ↓reduceIte, o10, e, t2, ob, os, w10, nx]
      · have s2 : ¬ (97 ≤ T p ∧ T p ≤ 122) := fun h => s (decide_eq_true h)
        have s3 : ¬ (97 ≤ i8 (T p) ∧ i8 (T p) ≤ 122) := by omega
        have ns : ¬ (p < n ∧ smB T p = true) := fun h => s h.2
        rw [bI_f s3] at os
        rw [ru, if_neg ns, ← e, up_self]
        simp (maxSteps := 2000000) (disch := first | assumption | omega) only [jI0, iAdd_j, iSub_j, iMul_j, iNeg_j, Option.bind_some, jlt_t, jlt_f, jlt, jle_t, jle_f, jle, jeq_t, jeq_f, jeq, ↓reduceIte, o10, e, t2, ob, os]
    · have ns : ¬ (p < n ∧ smB T p = true) := fun h => c h.1
      rw [ru, if_neg ns, ← e, up_self]
      simp (maxSteps := 2000000) (disch := first | assumption | omega) only [jI0, iAdd_j, iSub_j, iMul_j, iNeg_j, Option.bind_some, jlt_t, jlt_f, jlt, jle_t, jle_f, jle, jeq_t, jeq_f, jeq, ↓reduceIte, o10, e, t2]
end
