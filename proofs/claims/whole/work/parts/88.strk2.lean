/-! STROKES: the component's mistakes, its next stroke -/
def nxS (S : Int) (x : Stk) : Option Stk := if xkL x = 0 then some (xkA x, xkB x, xkF x, 1) else if xkF x + 1 < S then some (xkA x, xkB x, xkF x + 1, 0) else if xkB x < 4 then some (xkA x, xkB x + 1, 0, 0) else if xkA x < 4 then some (xkA x + 1, 1, 0, 0) else none
theorem nxS_ok {S : Int} {x y : Stk} (hS : 3 ≤ S) (h : okS S x) (e : nxS S x = some y) : okS S y := by
  obtain ⟨⟨a1, a2⟩, ⟨b1, b2⟩, ⟨f1, f2⟩, l1, l2⟩ := h
  unfold nxS at e
  unfold okS
  split at e
  · obtain rfl := Option.some.inj e
    simp only [xkA, xkB, xkF, xkL] at *
    omega
  · split at e
    · obtain rfl := Option.some.inj e
      simp only [xkA, xkB, xkF, xkL] at *
      omega
    · split at e
      · obtain rfl := Option.some.inj e
        simp only [xkA, xkB, xkF, xkL] at *
        omega
      · split at e
        · obtain rfl := Option.some.inj e
          simp only [xkA, xkB, xkF, xkL] at *
          omega
        · cases e
/-- how many strokes are still to come behind this one -/
def rmS (S : Int) (x : Stk) : Int := ((4 - xkA x) * 4 + (4 - xkB x)) * (2 * S) + (S - 1 - xkF x) * 2 + (1 - xkL x)
theorem rmS_0 {S : Int} {x : Stk} (hS : 3 ≤ S) (h : okS S x) : 0 ≤ rmS S x := by
  obtain ⟨⟨a1, a2⟩, ⟨b1, b2⟩, ⟨f1, f2⟩, l1, l2⟩ := h
  have := Int.mul_nonneg (show 0 ≤ (4 - xkA x) * 4 + (4 - xkB x) by omega) (show 0 ≤ 2 * S by omega)
  unfold rmS
  omega
theorem rmS_n {S : Int} {x y : Stk} (hS : 3 ≤ S) (h : okS S x) (e : nxS S x = some y) : rmS S x = rmS S y + 1 := by
  obtain ⟨⟨a1, a2⟩, ⟨b1, b2⟩, ⟨f1, f2⟩, l1, l2⟩ := h
  have mm : ∀ u : Int, (u + 1) * (2 * S) = u * (2 * S) + 2 * S := fun u => by rw [Int.add_mul, Int.one_mul]
  unfold nxS at e
  split at e
  · obtain rfl := Option.some.inj e
    simp only [rmS, xkA, xkB, xkF, xkL] at *
    omega
  · split at e
    · obtain rfl := Option.some.inj e
      simp only [rmS, xkA, xkB, xkF, xkL] at *
      omega
    · split at e
      · obtain rfl := Option.some.inj e
        simp only [rmS, xkA, xkB, xkF, xkL] at *
        have := mm ((4 - x.1) * 4 + (4 - (x.2.1 + 1)))
        rw [show (4 - x.1) * 4 + (4 - (x.2.1 + 1)) + 1 = (4 - x.1) * 4 + (4 - x.2.1) by omega] at this
        omega
      · split at e
        · obtain rfl := Option.some.inj e
          simp only [rmS, xkA, xkB, xkF, xkL] at *
          have := mm ((4 - (x.1 + 1)) * 4 + (4 - 1))
          rw [show (4 - (x.1 + 1)) * 4 + (4 - 1) + 1 = (4 - x.1) * 4 + (4 - x.2.1) by omega] at this
          omega
        · cases e
theorem rmS_e {S : Int} {x : Stk} (h : okS S x) (e : nxS S x = none) : rmS S x = 0 := by
  obtain ⟨⟨a1, a2⟩, ⟨b1, b2⟩, ⟨f1, f2⟩, l1, l2⟩ := h
  unfold nxS at e
  split at e
  · cases e
  · split at e
    · cases e
    · split at e
      · cases e
      · split at e
        · cases e
        · simp only [rmS, xkA, xkB, xkF, xkL] at *
          rw [show (4 - x.1) * 4 + (4 - x.2.1) = 0 by omega, Int.zero_mul]
          omega
theorem rmS_1 {S : Int} (hS : 3 ≤ S ∧ S ≤ 32) : rmS S (1, 1, 0, 0) ≤ 1023 := by
  simp only [rmS, xkA, xkB, xkF, xkL]
  omega
section
variable {K1 K2 : (Int → Int) → (Int → Int) → Prop} {q : Nat × Nat × (Nat → Nat)} {G : Nat → Int → Int} {N : Nat}
/-- what is wanted of a row: OVER here, UNDER here -/
def WtC (G : Nat → Int → Int) (S R : Int) (ow uw : Int → Int → Bool) : Prop := ∀ r : Int, 0 ≤ r → r < R → (∀ i : Nat, ib (jI (G 28 r)) i = (decide ((i : Int) < S) && ow r i)) ∧ ∀ i : Nat, ib (jI (G 29 r)) i = (decide ((i : Int) < S) && uw r i)
def msR (S k : Int) (x : Stk) (ow uw : Int → Int → Bool) (r : Int) : Int := sm (fun s => if ((uw r s && soB S k x r s) || (ow r s && !soB S k x r s)) = true then 1 else 0) S.toNat
def msA (S k : Int) (x : Stk) (ow uw : Int → Int → Bool) (n : Nat) : Int := sm (fun r => msR S k x ow uw r) n
theorem msR_r (S k : Int) (hS : 3 ≤ S ∧ S ≤ 32) (x : Stk) (ow uw : Int → Int → Bool) (r : Int) : 0 ≤ msR S k x ow uw r ∧ msR S k x ow uw r ≤ 32 := by
  have := sm_le (f := fun s => if ((uw r s && soB S k x r s) || (ow r s && !soB S k x r s)) = true then 1 else 0) (c := 1) (n := S.toNat) (fun k _ => by split <;> omega)
  unfold msR
  omega
theorem msA_r (S k : Int) (hS : 3 ≤ S ∧ S ≤ 32) (x : Stk) (ow uw : Int → Int → Bool) (n : Nat) : 0 ≤ msA S k x ow uw n ∧ msA S k x ow uw n ≤ 32 * n := sm_le (fun i _ => msR_r S k hS x ow uw _)
theorem msA_m (S k : Int) (hS : 3 ≤ S ∧ S ≤ 32) (x : Stk) (ow uw : Int → Int → Bool) (n : Nat) : ∀ d : Nat, msA S k x ow uw n ≤ msA S k x ow uw (n + d)
  | 0 => Int.le_refl _
  | d + 1 => by
    have a := msA_m S k hS x ow uw n d
    have b := msR_r S k hS x ow uw ((n + d : Nat) : Int)
    show msA S k x ow uw n ≤ msA S k x ow uw (n + d) + msR S k x ow uw ((n + d : Nat) : Int)
    omega
theorem oMis (hN : 10000 ≤ N) {S R k e : Int} {x : Stk} {ow uw : Int → Int → Bool} (hS : 3 ≤ S ∧ S ≤ 32) (hR : 1 ≤ R ∧ R ≤ 8) (hk : 1 ≤ k ∧ k ≤ 4) (hd : R % k = 0) (hx : okS S x) (hw : NowC G S R k x) (hr : RowC G S R k x) (ht : WtC G S R ow uw) (he : 0 ≤ e ∧ e ≤ 2147483647) : ∃ v : Int, (v = msA S k x ow uw R.toNat ∨ (e < v ∧ v ≤ msA S k x ow uw R.toNat)) ∧ f_X9_mistakesOf N 25 (jI e) (hp q G) = some (jI v, hp q G) := by
  obtain ⟨⟨w1, w2⟩, w3, w4, w5, w6, w7⟩ := hw
  obtain ⟨⟨a1, a2⟩, ⟨b1, b2⟩, ⟨f1, f2⟩, l1, l2⟩ := hx
  have LL : ∀ (d f r : Nat), r + d = R.toNat → d < f → ∃ v : Int, (v = msA S k x ow uw R.toNat ∨ (e < v ∧ v ≤ msA S k x ow uw R.toNat)) ∧ L_X9_mistakesOf_10 N f 25 (jI e) (jI (msA S k x ow uw r)) (jI ((r : Int) % k)) (jI ((r : Int) / k)) (jI r) (hp q G) = some (jI v, hp q G) := by
    intro d
    induction d with
    | zero =>
      intro f r hr' hf
      obtain ⟨f, rfl⟩ : ∃ y, f = y + 1 := ⟨f - 1, by omega⟩
      have rn : r = R.toNat := by omega
      subst rn
      refine ⟨msA S k x ow uw R.toNat, .inl rfl, ?_⟩
      rw [L_X9_mistakesOf_10]
      simp (maxSteps := 2000000) (disch := first | assumption | omega) only [jI0, iAdd_j, iSub_j, iMul_j, iNeg_j, Option.bind_some, jlt_t, jlt_f, jlt, jle_t, jle_f, jle, jeq_t, jeq_f, jeq, ↓reduceIte, o25, w2]
    | succ d ih =>
      intro f r hr' hf
      obtain ⟨f, rfl⟩ : ∃ y, f = y + 1 := ⟨f - 1, by omega⟩
      have mr := msA_r S k hS x ow uw r
      have m1 := msR_r S k hS x ow uw (r : Int)
      rw [L_X9_mistakesOf_10]
      by_cases c : e < msA S k x ow uw r
      · refine ⟨msA S k x ow uw r, .inr ⟨c, by have := msA_m S k hS x ow uw r (d + 1); rw [hr'] at this; exact this⟩, ?_⟩
        simp (maxSteps := 2000000) (disch := first | assumption | omega) only [jI0, iAdd_j, iSub_j, iMul_j, iNeg_j, Option.bind_some, jlt_t, jlt_f, jlt, jle_t, jle_f, jle, jeq_t, jeq_f, jeq, ↓reduceIte, o25, w2]
      · obtain ⟨v, v1, v2⟩ := ih f (r + 1) (by omega) (by omega)
        refine ⟨v, v1, ?_⟩
        have j0 := Int.emod_nonneg (r : Int) (show k ≠ 0 by omega)
        have j1 := Int.emod_lt_of_pos (r : Int) (show 0 < k by omega)
        have e0 : 0 ≤ (r : Int) / k := Int.ediv_nonneg (by omega) (by omega)
        have em := Int.emod_add_mul_ediv (r : Int) k
        have eR := Int.emod_add_mul_ediv R k
        have e1 : (r : Int) / k < R / k := by
          apply Classical.byContradiction
          intro hh
          have := Int.mul_le_mul_of_nonneg_left (show R / k ≤ (r : Int) / k by omega) (show 0 ≤ k by omega)
          omega
        have e8 : (r : Int) / k ≤ r := Int.ediv_le_self _ (by omega)
        have rw' := hr ((r : Int) / k) e0 e1
        have tt := ht r (by omega) (by omega)
        have J : ∀ y : Int32, (∀ i : Nat, ib y i = (decide ((i : Int) < S) && soB S k x r i)) → J_X9_mistakesOf_90 N (L_X9_mistakesOf_10 N f) 25 (jI e) (jI (msA S k x ow uw r)) (jI ((r : Int) % k)) (jI ((r : Int) / k)) (jI r) y (hp q G) = some (jI v, hp q G) := by
          intro y hy
          have pc : ((pcn (iOr (iAnd (jI (G 29 r)) y) (iAnd (jI (G 28 r)) (iXor y (jI (-1))))) 32 : Nat) : Int) = msR S k x ow uw r := by
            rw [pcn_sm (f := fun s => decide (s < S) && ((uw r s && soB S k x r s) || (ow r s && !soB S k x r s))) (fun i hi => by
              rw [ib_or, ib_and, ib_and, ib_xor, ib_m1, tt.1, tt.2, hy]
              by_cases c1 : (i : Int) < S
              · simp [c1, hi]
              · simp [c1])]
            have := sm_tail (f := fun s => if (decide (s < S) && ((uw r s && soB S k x r s) || (ow r s && !soB S k x r s))) = true then 1 else 0) (n := S.toNat) (d := 32 - S.toNat) (fun i hi => by
              rw [decide_eq_false (by omega)]; rfl)
            rw [show S.toNat + (32 - S.toNat) = 32 by omega] at this
            rw [this]
            unfold msR
            apply sm_congr
            intro i hi
            rw [decide_eq_true (by omega), Bool.true_and]
          have ms : msA S k x ow uw (r + 1) = msA S k x ow uw r + msR S k x ow uw r := rfl
          rw [ms] at v2
          unfold J_X9_mistakesOf_90
          by_cases c1 : (r : Int) % k + 1 < k
          · have m' : ((r + 1 : Nat) : Int) % k = (r : Int) % k + 1 := by
              rw [Int.natCast_succ, ← Int.emod_add_emod, Int.emod_eq_of_lt (by omega) c1]
            have d' : ((r + 1 : Nat) : Int) / k = (r : Int) / k := by
              have em2 := Int.emod_add_mul_ediv ((r + 1 : Nat) : Int) k
              rw [m'] at em2
              have : k * (((r + 1 : Nat) : Int) / k) = k * ((r : Int) / k) := by omega
              exact Int.eq_of_mul_eq_mul_left (by omega) this
            rw [m', d', Int.natCast_succ] at v2
            simp (maxSteps := 2000000) (disch := first | assumption | omega) only [jI0, iAdd_j, iSub_j, iMul_j, iNeg_j, Option.bind_some, jlt_t, jlt_f, jlt, jle_t, jle_f, jle, jeq_t, jeq_f, jeq, ↓reduceIte, o25, l29, l28, bitCount, pc, l30, w3, v2]
          · have m' : ((r + 1 : Nat) : Int) % k = 0 := by
              rw [Int.natCast_succ, ← Int.emod_add_emod, show (r : Int) % k + 1 = k by omega, Int.emod_self]
            have d' : ((r + 1 : Nat) : Int) / k = (r : Int) / k + 1 := by
              have em2 := Int.emod_add_mul_ediv ((r + 1 : Nat) : Int) k
              rw [m'] at em2
              have : k * (((r + 1 : Nat) : Int) / k) = k * ((r : Int) / k + 1) := by rw [Int.mul_add, Int.mul_one]; omega
              exact Int.eq_of_mul_eq_mul_left (by omega) this
            rw [m', d', Int.natCast_succ] at v2
            simp (maxSteps := 2000000) (disch := first | assumption | omega) only [jI0, iAdd_j, iSub_j, iMul_j, iNeg_j, Option.bind_some, jlt_t, jlt_f, jlt, jle_t, jle_f, jle, jeq_t, jeq_f, jeq, ↓reduceIte, o25, l29, l28, bitCount, pc, l30, w3, v2]
        by_cases cl : xkL x = 1
        · obtain ⟨y, y1, y2⟩ := X11_turned (N := N) (h := hp q G) (x := jI (G 27 ((r : Int) / k))) (t := xkF x - (r : Int) % k + 1) (n := S) (by omega) (by omega) (by omega) (by omega) (fun i hi => by rw [rw'.2 i, decide_eq_false (by omega)]; rfl)
          have := J y (fun i => by
            rw [y2 i]
            by_cases c1 : (i : Int) < S
            · have u0 := Int.emod_nonneg ((i : Int) - (xkF x - (r : Int) % k + 1)) (show S ≠ 0 by omega)
              have u1' := Int.emod_lt_of_pos ((i : Int) - (xkF x - (r : Int) % k + 1)) (show 0 < S by omega)
              rw [rw'.2, show ((((i : Int) - (xkF x - (r : Int) % k + 1)) % S).toNat : Int) = ((i : Int) - (xkF x - (r : Int) % k + 1)) % S by omega]
              rw [decide_eq_true u1', Bool.true_and]
              unfold plB soB
              rw [if_pos cl, show xkF x - (r : Int) % k - (i : Int) = -((i : Int) - (xkF x - (r : Int) % k + 1)) - 1 by omega, neg1_mod (by omega)]
            · rw [decide_eq_false c1]; rfl)
          have w8 : G 30 4 = 1 := w7.trans cl
          simp (maxSteps := 2000000) (disch := first | assumption | omega) only [jI0, iAdd_j, iSub_j, iMul_j, iNeg_j, Option.bind_some, jlt_t, jlt_f, jlt, jle_t, jle_f, jle, jeq_t, jeq_f, jeq, ↓reduceIte, o25, w2, l30, w8, l27, w6, w1, y1, this]
        · obtain ⟨y, y1, y2⟩ := X11_turned (N := N) (h := hp q G) (x := jI (G 26 ((r : Int) / k))) (t := xkF x + (r : Int) % k) (n := S) (by omega) (by omega) (by omega) (by omega) (fun i hi => by rw [rw'.1 i, decide_eq_false (by omega)]; rfl)
          have := J y (fun i => by
            rw [y2 i]
            by_cases c1 : (i : Int) < S
            · have u0 := Int.emod_nonneg ((i : Int) - (xkF x + (r : Int) % k)) (show S ≠ 0 by omega)
              have u1' := Int.emod_lt_of_pos ((i : Int) - (xkF x + (r : Int) % k)) (show 0 < S by omega)
              rw [rw'.1, show ((((i : Int) - (xkF x + (r : Int) % k)) % S).toNat : Int) = ((i : Int) - (xkF x + (r : Int) % k)) % S by omega]
              rw [decide_eq_true u1', Bool.true_and]
              unfold plB soB
              rw [if_neg cl, show (i : Int) - xkF x - (r : Int) % k = (i : Int) - (xkF x + (r : Int) % k) by omega]
            · rw [decide_eq_false c1]; rfl)
          simp (maxSteps := 2000000) (disch := first | assumption | omega) only [jI0, iAdd_j, iSub_j, iMul_j, iNeg_j, Option.bind_some, jlt_t, jlt_f, jlt, jle_t, jle_f, jle, jeq_t, jeq_f, jeq, ↓reduceIte, o25, w2, l30, w7, l26, w6, w1, y1, this]
  have := LL R.toNat N 0 (by omega) (by omega)
  rw [show ((0 : Nat) : Int) = 0 from rfl, Int.zero_emod, Int.zero_ediv] at this
  exact this
end
