/-! basket: the model's list of words -/
/-- where word i begins in constant 17 -/
def kst (i : Nat) : Nat := ((List.range i).map (fun k => (sjI k).length + 1)).foldl (· + ·) 1
theorem kst_at : ∀ i, i < 17 → kst (i + 1) = kst i + (sjI i).length + 1 ∧ kst i + (sjI i).length < (sjI 17).length ∧ (sjI 17).getD (kst i + (sjI i).length) 0 = 32 ∧ 2 ≤ (sjI i).length := by decide +kernel
theorem kst_j : ∀ i, i < 17 → ∀ j, j < (sjI i).length → (sjI 17).getD (kst i + j) 0 = (sjI i).getD j 0 ∧ 97 ≤ (sjI i).getD j 0 := by decide +kernel
theorem kst_e : kst 17 = (sjI 17).length ∧ kst 0 = 1 := by decide +kernel
/-- no two words are the same -/
theorem sjI_ne : ∀ i, i < 17 → ∀ j, j < 17 → i ≠ j → sjI i ≠ sjI j := by decide +kernel
