/-! basket: the words -/
/-- the bytes of a String constant -/
def sjI (i : Nat) : List Int := (sjByt.getD i []).map (fun b => b.toInt)
theorem sjI_len : ∀ i, i < 18 → sLn (UInt32.ofNat i) = some (jI ((sjI i).length : Nat)) ∧ (sjI i).length < 200 := by decide +kernel
theorem sjI_at : ∀ i, i < 18 → ∀ k, k < (sjI i).length → sChr (UInt32.ofNat i) (jI (k : Nat)) = some (jI ((sjI i).getD k 0)) ∧ 32 ≤ (sjI i).getD k 0 ∧ (sjI i).getD k 0 ≤ 122 := by decide +kernel
/-- the bytes from s to e are the word w -/
def isW (T : Int → Int) (s e : Int) (w : List Int) : Prop := e - s = (w.length : Nat) ∧ ∀ j : Nat, j < w.length → T (s + j) = w.getD j 0
section
variable {q : Nat × Nat × (Nat → Nat)} {G : Nat → Int → Int} {N : Nat}
theorem oWd35 {n s : Int} {T : Int → Int} {i : Nat} (hi : i < 18) (h : TkC G n T) (s0 : 0 ≤ s) (s1 : s + (sjI i).length ≤ n) (e4 : G 10 4 = s) : ∀ (d f j : Nat), j + d = (sjI i).length → d < f → (∀ k : Nat, k < j → T (s + k) = (sjI i).getD k 0) → L_X8_isWord_35 N f 10 (UInt32.ofNat i) (jI (j : Nat)) (hp q G) = some (jI (cI (∀ k : Nat, k < (sjI i).length → T (s + k) = (sjI i).getD k 0)), hp q G) := by
  have sl := sjI_len i hi
  have t3 := h.2.2.1
  intro d
  induction d with
  | zero =>
    intro f j hj hf hk
    obtain ⟨f, rfl⟩ : ∃ y, f = y + 1 := ⟨f - 1, by omega⟩
    have e : j = (sjI i).length := by omega
    subst e
    have c := cI_t hk
    have l1 := sl.1
    rw [c, L_X8_isWord_35]
    simp (maxSteps := 2000000) (disch := first | assumption | omega) only [jI0, iAdd_j, iSub_j, iMul_j, iNeg_j, Option.bind_some, jlt_t, jlt_f, jlt, jle_t, jle_f, jle, jeq_t, jeq_f, jeq, ↓reduceIte, l1]
  | succ d ih =>
    intro f j hj hf hk
    obtain ⟨f, rfl⟩ : ∃ y, f = y + 1 := ⟨f - 1, by omega⟩
    have hjl : j < (sjI i).length := by omega
    have ob := oByte (N := N) (q := q) (p := s + j) h (by omega) (by omega)
    have cn : s + (j : Int) < n := by omega
    rw [if_pos cn] at ob
    have tb := (h.2.2.2 (s + j) (by omega) cn).1
    have ic := i8_c tb
    obtain ⟨sc, r0, r1⟩ := sjI_at i hi j hjl
    have l1 := sl.1
    have hj1 : ((j + 1 : Nat) : Int) = (j : Int) + 1 := by omega
    rw [L_X8_isWord_35]
    by_cases c : T (s + j) = (sjI i).getD j 0
    · have ie : i8 (T (s + j)) = (sjI i).getD j 0 := by omega
      rw [ie] at ob
      have nx := ih f (j + 1) (by omega) (by omega) (fun k hk1 => by
        by_cases ck : k = j
        · rw [ck]; exact c
        · exact hk k (by omega))
      rw [hj1] at nx
      simp (maxSteps := 2000000) (disch := first | assumption | omega) only [jI0, iAdd_j, iSub_j, iMul_j, iNeg_j, Option.bind_some, jlt_t, jlt_f, jlt, jle_t, jle_f, jle, jeq_t, jeq_f, jeq, ↓reduceIte, l1, o10, e4, ob, sc, nx]
    · have ie : i8 (T (s + j)) ≠ (sjI i).getD j 0 := by omega
      have cf : ¬ (∀ k : Nat, k < (sjI i).length → T (s + k) = (sjI i).getD k 0) := fun hh => c (hh j hjl)
      have c0 := cI_f cf
      rw [c0]
      simp (maxSteps := 2000000) (disch := first | assumption | omega) only [jI0, iAdd_j, iSub_j, iMul_j, iNeg_j, Option.bind_some, jlt_t, jlt_f, jlt, jle_t, jle_f, jle, jeq_t, jeq_f, jeq, ↓reduceIte, l1, o10, e4, ob, sc]
end
