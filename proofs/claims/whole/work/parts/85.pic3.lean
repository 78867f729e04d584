/-! calls: wish, print -/
theorem picOk {n S : Int} (hS : 3 ≤ S) (h0 : 0 ≤ n) : (S + 1 ≤ n ∧ n ≤ 8 * (S + 1) ∧ n % (S + 1) = 0) ↔ (n ≠ 0 ∧ n % (S + 1) = 0 ∧ n / (S + 1) ≤ 8) := by
  have e := Int.emod_add_mul_ediv n (S + 1)
  have d := Int.ediv_lt_iff_lt_mul (a := n) (b := 9) (show 0 < S + 1 by omega)
  have d1 := Int.le_ediv_iff_mul_le (a := 1) (b := n) (show 0 < S + 1 by omega)
  have q0 : 0 ≤ n / (S + 1) := Int.ediv_nonneg h0 (by omega)
  constructor
  · rintro ⟨a, b, c⟩
    exact ⟨by omega, c, by omega⟩
  · rintro ⟨a, b, c⟩
    rw [b, Int.zero_add] at e
    have m := Int.mul_le_mul_of_nonneg_left c (show 0 ≤ S + 1 by omega)
    refine ⟨?_, by omega, b⟩
    apply Classical.byContradiction
    intro h
    have : n / (S + 1) = 0 := Int.ediv_eq_zero_of_lt h0 (by omega)
    rw [this, Int.mul_zero] at e
    omega
section
variable {K1 K2 : (Int → Int) → (Int → Int) → Prop} {q : Nat × Nat × (Nat → Nat)} {G : Nat → Int → Int} {N : Nat}
theorem mPic (hN : 10000 ≤ N) {to ws S : Int} {n : Nat} (hto : 144 ≤ to ∧ to ≤ 401) (hw : ws = 0 ∨ ws = 1) (hS : 3 ≤ S ∧ S ≤ 32) (h0 : G 102 0 = S) (hn : n ≤ 500) (ht : ∀ k : Int, 0 ≤ k → k < n → 0 ≤ G 104 k ∧ G 104 k ≤ 255) : f_X12_readsPicture N 100 (jI to) (jI n) (jI ws) (hp q G) = if (S + 1 ≤ n ∧ n ≤ 8 * (S + 1) ∧ (n : Int) % (S + 1) = 0) ∧ piBt ws S (G 104) n = true then L_X12_readsPicture_190 N N 100 (jI to) (jI (S + 1)) (jI ((n : Int) / (S + 1))) (jI 0) (hp q (up (up (up G 100 9 n) 100 6 0) 102 (to - 1) ((n : Int) / (S + 1)))) else some (jI (-9), hp q (up (up (up G 100 9 n) 100 6 0) 101 (rfz (-9)) (G 101 (rfz (-9)) + 1))) := by
  have z : (jI (S + 1) = jI 0) = False := jeq_f (by omega)
  have pk := picOk (n := (n : Int)) hS.1 (by omega)
  have q0 : 0 ≤ (n : Int) / (S + 1) := Int.ediv_nonneg (by omega) (by omega)
  have q1 : (n : Int) / (S + 1) ≤ n := Int.ediv_le_self _ (by omega)
  have m0 : 0 ≤ (n : Int) % (S + 1) := Int.emod_nonneg _ (by omega)
  have m1 : (n : Int) % (S + 1) < S + 1 := Int.emod_lt_of_pos _ (by omega)
  have w9 : pV (hp q G) 12 100 9 (.int (jI (n : Int))) = some (hp q (up G 100 9 n)) := by simp (maxSteps := 2000000) (disch := first | assumption | omega) only [jI0, iAdd_j, iSub_j, iMul_j, iNeg_j, Option.bind_some, jlt_t, jlt_f, jlt, jle_t, jle_f, jle, jeq_t, jeq_f, jeq, ↓reduceIte, w100]
  have w6 : pV (hp q (up G 100 9 n)) 12 100 6 (.int (jI 0)) = some (hp q (up (up G 100 9 n) 100 6 0)) := by simp (maxSteps := 2000000) (disch := first | assumption | omega) only [jI0, iAdd_j, iSub_j, iMul_j, iNeg_j, Option.bind_some, jlt_t, jlt_f, jlt, jle_t, jle_f, jle, jeq_t, jeq_f, jeq, ↓reduceIte, w100]
  have e0 : up (up G 100 9 n) 100 6 0 102 0 = S := h0
  have mi := mIsPic (q := q) (G := up (up G 100 9 n) 100 6 0) hN hto hw hS (n := n) hn ht
  have e104 : up (up G 100 9 n) 100 6 0 104 = G 104 := rfl
  have e101 : up (up G 100 9 n) 100 6 0 101 = G 101 := rfl
  rw [e104, e101] at mi
  unfold f_X12_readsPicture
  by_cases c0 : (n : Int) = 0
  · have nn : ¬ ((S + 1 ≤ n ∧ n ≤ 8 * (S + 1) ∧ (n : Int) % (S + 1) = 0) ∧ piBt ws S (G 104) n = true) := fun h => by have := h.1.1; omega
    rw [if_neg nn]
    rw [c0] at w9 w6 ⊢
    simp (maxSteps := 2000000) (disch := first | assumption | omega) only [jI0, iAdd_j, iSub_j, iMul_j, iNeg_j, Option.bind_some, jlt_t, jlt_f, jlt, jle_t, jle_f, jle, jeq_t, jeq_f, jeq, ↓reduceIte, w9, w6, o100, l102, e0, X12_no, e101]
    rfl
  · by_cases c1 : (n : Int) % (S + 1) = 0
    · by_cases c2 : 8 < (n : Int) / (S + 1)
      · have nn : ¬ ((S + 1 ≤ n ∧ n ≤ 8 * (S + 1) ∧ (n : Int) % (S + 1) = 0) ∧ piBt ws S (G 104) n = true) := fun h => by have := (pk.mp h.1).2.2; omega
        rw [if_neg nn]
        simp (maxSteps := 2000000) (disch := first | assumption | omega) only [jI0, iAdd_j, iSub_j, iMul_j, iNeg_j, Option.bind_some, jlt_t, jlt_f, jlt, jle_t, jle_f, jle, jeq_t, jeq_f, jeq, ↓reduceIte, w9, w6, o100, l102, e0, z, iRem_p, c1, iDiv_j, X12_no, e101]
      · have pp := pk.mpr ⟨c0, c1, by omega⟩
        have e : ((S + 1 ≤ n ∧ n ≤ 8 * (S + 1) ∧ (n : Int) % (S + 1) = 0) ∧ piBt ws S (G 104) n = true) = (piBt ws S (G 104) n = true) := propext ⟨fun h => h.2, fun h => ⟨pp, h⟩⟩
        simp only [e]
        rw [← mi]
        simp (maxSteps := 2000000) (disch := first | assumption | omega) only [jI0, iAdd_j, iSub_j, iMul_j, iNeg_j, Option.bind_some, jlt_t, jlt_f, jlt, jle_t, jle_f, jle, jeq_t, jeq_f, jeq, ↓reduceIte, w9, w6, o100, l102, e0, z, iRem_p, c1, iDiv_j]
    · have nn : ¬ ((S + 1 ≤ n ∧ n ≤ 8 * (S + 1) ∧ (n : Int) % (S + 1) = 0) ∧ piBt ws S (G 104) n = true) := fun h => c1 h.1.2.2
      rw [if_neg nn]
      simp (maxSteps := 2000000) (disch := first | assumption | omega) only [jI0, iAdd_j, iSub_j, iMul_j, iNeg_j, Option.bind_some, jlt_t, jlt_f, jlt, jle_t, jle_f, jle, jeq_t, jeq_f, jeq, ↓reduceIte, w9, w6, o100, l102, e0, z, iRem_p, c1, X12_no, e101]
/-- the tape alone has been emptied -/
theorem INV.tape (hI : INV K1 K2 q G) (n : Int) : INV K1 K2 q (up (up (up G 0 1 0) 100 9 n) 100 6 0) := by
  obtain ⟨⟨t1, t2, t3, t4, t5, t6, t7, t8, t9, t10⟩, i1⟩ := hI
  have E : ∀ a, a ≠ 0 → a ≠ 100 → up (up (up G 0 1 0) 100 9 n) 100 6 0 a = G a := fun a a0 a1 => by rw [up_ne a1, up_ne a1, up_ne a0]
  have e : ∀ a, (decide (a ≠ 0) && decide (a ≠ 100)) = true → up (up (up G 0 1 0) 100 9 n) 100 6 0 a = G a := fun a h => by
    simp only [Bool.and_eq_true, decide_eq_true_eq] at h
    exact E a h.1 h.2
  have e0 : up (up (up G 0 1 0) 100 9 n) 100 6 0 0 1 = 0 := by rw [up_ne (by decide), up_ne (by decide), up_eq, u1_eq]
  have e6 : up (up (up G 0 1 0) 100 9 n) 100 6 0 100 6 = 0 := by rw [up_eq, u1_eq]
  have eh : ∀ i, i ≠ 6 → i ≠ 9 → up (up (up G 0 1 0) 100 9 n) 100 6 0 100 i = G 100 i := fun i h1 h2 => by rw [up_eq, u1_ne h1, up_eq, u1_ne h2, up_ne (by decide)]
  refine ⟨?_, fun k k0 k1 => by rw [e 98 rfl, e 101 rfl]; exact i1 k k0 k1⟩
  unfold INV0 BB BW at *
  rw [e 1 rfl, e 2 rfl, e 3 rfl, e 4 rfl, e 5 rfl, e 10 rfl, e 12 rfl, e 13 rfl, e 17 rfl, e 18 rfl, e 20 rfl, e 21 rfl, e 22 rfl, e 23 rfl, e 25 rfl, e 31 rfl, e 32 rfl, e 34 rfl, e 37 rfl, e 38 rfl, e 39 rfl, e 40 rfl, e 41 rfl, e 42 rfl, e 43 rfl, e 44 rfl, e 46 rfl, e 47 rfl, e 48 rfl, e 49 rfl, e 50 rfl, e 51 rfl, e 52 rfl, e 54 rfl, e 55 rfl, e 56 rfl, e 57 rfl, e 60 rfl, e 62 rfl, e 63 rfl, e 64 rfl, e 65 rfl, e 66 rfl, e 67 rfl, e 68 rfl, e 70 rfl, e 71 rfl, e 72 rfl, e 73 rfl, e 76 rfl, e 82 rfl, e 102 rfl, e 103 rfl, e 104 rfl, e 117 rfl, e 118 rfl, e 119 rfl, e0, e6, eh 0 (by decide) (by decide), eh 14 (by decide) (by decide), eh 15 (by decide) (by decide)]
  exact ⟨t1, t2, t3, t4, t5, t6, t7, ⟨rfl, Int.le_refl _, by omega, fun k k0 k1 => by omega⟩, t9, t10⟩
/-- a text that is none: both refuse, the tape is empty -/
theorem picNo {F1 F2 : mH → Option (Int32 × mH)} (hI : INV K1 K2 q G) (n : Int) (h1 : F1 (hp q G) = some (jI (-9), hp q (up (up G 0 1 0) 98 (rfz (-9)) (G 98 (rfz (-9)) + 1)))) (h2 : ∀ G1, G1 100 0 = 0 → (∀ a, a ≠ 0 → a ≠ 98 → G1 a = G a) → F2 (hp q G1) = some (jI (-9), hp q (up (up (up G1 100 9 n) 100 6 0) 101 (rfz (-9)) (G1 101 (rfz (-9)) + 1)))) : OP K1 K2 q G F1 F2 := by
  have hT := hI.1.2.1
  refine ⟨jI (-9), q, _, _, h1, h2 _ hT (fun a a0 a1 => by rw [up_ne a1, up_ne a0]), ?_⟩
  refine ((hI.tape n).rf (-9)).sc (SC.of2 (fun a a0 ha => ?_) ⟨?_, ?_, ?_, ?_⟩)
  · by_cases b0 : a = 0
    · subst b0; rfl
    by_cases b1 : a = 98
    · subst b1; rfl
    by_cases b2 : a = 101
    · subst b2; rfl
    rw [up_ne b2, up_ne a0, up_ne a0, up_ne b1, up_ne b0, up_ne b2, up_ne b1, up_ne a0, up_ne a0, up_ne b0]
  all_goals rfl
end
