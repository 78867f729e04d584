/-! STROKES: what a stroke does, the next one; the component's side -/
/-- before, behind, from, left -/
abbrev Stk : Type := Int × Int × Int × Int
def xkA (x : Stk) : Int := x.1
def xkB (x : Stk) : Int := x.2.1
def xkF (x : Stk) : Int := x.2.2.1
def xkL (x : Stk) : Int := x.2.2.2
def okS (S : Int) (x : Stk) : Prop := (1 ≤ xkA x ∧ xkA x ≤ 4) ∧ (1 ≤ xkB x ∧ xkB x ≤ 4) ∧ (0 ≤ xkF x ∧ xkF x < S) ∧ 0 ≤ xkL x ∧ xkL x ≤ 1
/-- where a stroke goes OVER, row r, stake s, k weavers -/
def soB (S k : Int) (x : Stk) (r s : Int) : Bool := decide ((r / k * S + (if xkL x = 1 then xkF x - r % k - s else s - xkF x - r % k) % S) % (xkA x + xkB x) < xkA x)
def plB (S : Int) (x : Stk) (r i : Int) : Bool := decide ((r * S + i) % (xkA x + xkB x) < xkA x)
theorem neg1_mod {z S : Int} (h : 0 < S) : (-z - 1) % S = S - 1 - z % S := by
  have e := Int.emod_add_mul_ediv z S
  have r0 := Int.emod_nonneg z (show S ≠ 0 by omega)
  have r1 := Int.emod_lt_of_pos z h
  have : -z - 1 = (S - 1 - z % S) + S * (-(z / S) - 1) := by rw [Int.mul_sub, Int.mul_neg]; omega
  rw [this, Int.add_mul_emod_self_left]
  exact Int.emod_eq_of_lt (by omega) (by omega)
section
variable {K1 K2 : (Int → Int) → (Int → Int) → Prop} {q : Nat × Nat × (Nat → Nat)} {G : Nat → Int → Int} {N : Nat}
/-- the stroke that is tried -/
def NowC (G : Nat → Int → Int) (S R k : Int) (x : Stk) : Prop := (G 25 9 = S ∧ G 25 10 = R) ∧ G 30 0 = k ∧ G 30 1 = xkA x ∧ G 30 2 = xkB x ∧ G 30 3 = xkF x ∧ G 30 4 = xkL x
def RowC (G : Nat → Int → Int) (S R k : Int) (x : Stk) : Prop := ∀ r : Int, 0 ≤ r → r < R / k → (∀ i : Nat, ib (jI (G 26 r)) i = (decide ((i : Int) < S) && plB S x r i)) ∧ ∀ i : Nat, ib (jI (G 27 r)) i = (decide ((i : Int) < S) && plB S x r (S - 1 - i))
theorem oWr (hN : 10000 ≤ N) {S R k : Int} {x : Stk} (hS : 3 ≤ S ∧ S ≤ 32) (hR : 1 ≤ R ∧ R ≤ 8) (hk : 1 ≤ k ∧ k ≤ 4) (hx : okS S x) (hw : NowC G S R k x) : ∃ G' : Nat → Int → Int, ((∀ a, a ≠ 26 → a ≠ 27 → G' a = G a) ∧ RowC G' S R k x) ∧ f_X9_weaveRounds N 25 (hp q G) = some (hp q G') := by
  obtain ⟨⟨w1, w2⟩, w3, w4, w5, w6, w7⟩ := hw
  obtain ⟨⟨a1, a2⟩, ⟨b1, b2⟩, ⟨f1, f2⟩, l1, l2⟩ := hx
  have mp : iMax (jI 1) (jI (xkA x + xkB x)) = jI (xkA x + xkB x) := by rw [iMax_j (by omega) (by omega) (by omega) (by omega), Int.max_eq_right (by omega)]
  have mk : iMax (jI 1) (jI k) = jI k := by rw [iMax_j (by omega) (by omega) (by omega) (by omega), Int.max_eq_right (by omega)]
  have zk : (jI k = jI 0) = False := jeq_f (by omega)
  have d0 : 0 ≤ R / k := Int.ediv_nonneg (by omega) (by omega)
  have d1 : R / k ≤ R := Int.ediv_le_self _ (by omega)
  have dk : iDiv (jI R) (jI k) = jI (R / k) := iDiv_j (by omega) (by omega) (by omega) (by omega)
  generalize hn : R / k = n at *
  have LL : ∃ G' : Nat → Int → Int, ((∀ a, a ≠ 26 → a ≠ 27 → G' a = G a) ∧ ∀ r : Int, 0 ≤ r → r < n → (∀ i : Nat, ib (jI (G' 26 r)) i = (decide ((i : Int) < S) && plB S x r i)) ∧ ∀ i : Nat, ib (jI (G' 27 r)) i = (decide ((i : Int) < S) && plB S x r (S - 1 - i))) ∧ L_X9_weaveRounds_22 N N 25 (jI (xkA x + xkB x)) (jI ((((0 : Nat) : Int) * S) % (xkA x + xkB x))) (jI ((0 : Nat) : Int)) (hp q G) = some (hp q G') := by
    refine loopG (N := N) (fun f (t : Nat × (Nat → Int → Int)) => L_X9_weaveRounds_22 N f 25 (jI (xkA x + xkB x)) (jI (((t.1 : Int) * S) % (xkA x + xkB x))) (jI t.1) (hp q t.2)) (fun r t => t.1 = r ∧ (∀ a, a ≠ 26 → a ≠ 27 → t.2 a = G a) ∧ ∀ j : Int, 0 ≤ j → j < (r : Int) → (∀ i : Nat, ib (jI (t.2 26 j)) i = (decide ((i : Int) < S) && plB S x j i)) ∧ ∀ i : Nat, ib (jI (t.2 27 j)) i = (decide ((i : Int) < S) && plB S x j (S - 1 - i))) n.toNat (by omega) (s := (0, G)) ⟨rfl, fun _ _ _ => rfl, fun j j0 j1 => by omega⟩ ?_ ?_
    · rintro f r ⟨r', G1⟩ hr ⟨rfl, t1, t2⟩
      dsimp only at t1 t2 hr
      have e25 : G1 25 = G 25 := t1 25 (by decide) (by decide)
      have e30 : G1 30 = G 30 := t1 30 (by decide) (by decide)
      have IN : L_X9_weaveRounds_53 N (L_X9_weaveRounds_22 N f) N 25 (jI (xkA x + xkB x)) (jI (((r' : Int) * S) % (xkA x + xkB x))) (jI r') (jI 0) (jI 0) (hp q G1) = L_X9_weaveRounds_53 N (L_X9_weaveRounds_22 N f) (N - S.toNat) 25 (jI (xkA x + xkB x)) (jI (((r' : Int) * S + S) % (xkA x + xkB x))) (jI r') (jI (msk (fun i => plB S x r' i) S.toNat : Nat)) (jI S) (hp q G1) := by
        have h := loop (fun f2 (i : Nat) => L_X9_weaveRounds_53 N (L_X9_weaveRounds_22 N f) f2 25 (jI (xkA x + xkB x)) (jI (((r' : Int) * S + i) % (xkA x + xkB x))) (jI r') (jI (msk (fun i => plB S x r' i) i : Nat)) (jI i) (hp q G1)) (fun i => i) S.toNat (fun f2 i hi => ?_) S.toNat 0 (N - S.toNat) (by omega)
        · have s0 : (((S.toNat : Nat)) : Int) = S := by omega
          (try dsimp only at h)
          rw [show N - S.toNat + S.toNat = N by omega, s0, show ((0 : Nat) : Int) = 0 from rfl, Int.add_zero] at h
          exact h
        · show L_X9_weaveRounds_53 N (L_X9_weaveRounds_22 N f) (f2 + 1) 25 (jI (xkA x + xkB x)) (jI (((r' : Int) * S + i) % (xkA x + xkB x))) (jI r') (jI (msk (fun i => plB S x r' i) i : Nat)) (jI i) (hp q G1) = L_X9_weaveRounds_53 N (L_X9_weaveRounds_22 N f) f2 25 (jI (xkA x + xkB x)) (jI (((r' : Int) * S + ((i + 1 : Nat) : Int)) % (xkA x + xkB x))) (jI r') (jI (msk (fun i => plB S x r' i) (i + 1) : Nat)) (jI ((i + 1 : Nat) : Int)) (hp q G1)
          have m0 := Int.emod_nonneg ((r' : Int) * S + i) (show xkA x + xkB x ≠ 0 by omega)
          have m1 := Int.emod_lt_of_pos ((r' : Int) * S + i) (show 0 < xkA x + xkB x by omega)
          have mn := msk_next (fun i => plB S x r' i) (n := i) (by omega)
          have J : ∀ b : Int, J_X9_weaveRounds_81 N (L_X9_weaveRounds_53 N (L_X9_weaveRounds_22 N f) f2) 25 (jI (xkA x + xkB x)) (jI (((r' : Int) * S + i) % (xkA x + xkB x))) (jI r') (jI b) (jI i) (hp q G1) = L_X9_weaveRounds_53 N (L_X9_weaveRounds_22 N f) f2 25 (jI (xkA x + xkB x)) (jI (((r' : Int) * S + ((i + 1 : Nat) : Int)) % (xkA x + xkB x))) (jI r') (jI b) (jI ((i + 1 : Nat) : Int)) (hp q G1) := by
            intro b
            unfold J_X9_weaveRounds_81
            by_cases c : ((r' : Int) * S + i) % (xkA x + xkB x) + 1 < xkA x + xkB x
            · have em : ((r' : Int) * S + ((i + 1 : Nat) : Int)) % (xkA x + xkB x) = ((r' : Int) * S + i) % (xkA x + xkB x) + 1 := by
                rw [Int.natCast_succ, ← Int.add_assoc, ← Int.emod_add_emod, Int.emod_eq_of_lt (by omega) c]
              rw [em]
              simp (maxSteps := 2000000) (disch := first | assumption | omega) only [jI0, iAdd_j, iSub_j, iMul_j, iNeg_j, Option.bind_some, jlt_t, jlt_f, jlt, jle_t, jle_f, jle, jeq_t, jeq_f, jeq, ↓reduceIte, Int.natCast_succ]
            · have em : ((r' : Int) * S + ((i + 1 : Nat) : Int)) % (xkA x + xkB x) = 0 := by
                rw [Int.natCast_succ, ← Int.add_assoc, ← Int.emod_add_emod, show ((r' : Int) * S + i) % (xkA x + xkB x) + 1 = xkA x + xkB x by omega, Int.emod_self]
              rw [em]
              simp (maxSteps := 2000000) (disch := first | assumption | omega) only [jI0, iAdd_j, iSub_j, iMul_j, iNeg_j, Option.bind_some, jlt_t, jlt_f, jlt, jle_t, jle_f, jle, jeq_t, jeq_f, jeq, ↓reduceIte, Int.natCast_succ]
          rw [L_X9_weaveRounds_53]
          by_cases c : ((r' : Int) * S + i) % (xkA x + xkB x) < xkA x
          · have mo := mn.1 (by unfold plB; exact decide_eq_true c)
            simp (maxSteps := 2000000) (disch := first | assumption | omega) only [jI0, iAdd_j, iSub_j, iMul_j, iNeg_j, Option.bind_some, jlt_t, jlt_f, jlt, jle_t, jle_f, jle, jeq_t, jeq_f, jeq, ↓reduceIte, o25, e25, w1, e30, l30, w4, mo, J]
          · have mo := mn.2 (by unfold plB; rw [decide_eq_false c]; decide)
            rw [← mo]
            simp (maxSteps := 2000000) (disch := first | assumption | omega) only [jI0, iAdd_j, iSub_j, iMul_j, iNeg_j, Option.bind_some, jlt_t, jlt_f, jlt, jle_t, jle_f, jle, jeq_t, jeq_f, jeq, ↓reduceIte, o25, e25, w1, e30, l30, w4, J]
      obtain ⟨y, y1, y2⟩ := X11_mirrored (N := N) hN (h := hp q (up G1 26 r' (msk (fun i => plB S x r' i) S.toNat : Nat))) (x := jI (msk (fun i => plB S x r' i) S.toNat : Nat)) (n := S) (by omega) (by omega)
      have s27' : stI 0 (hp q (up G1 26 r' (msk (fun i => plB S x r' i) S.toNat : Nat))) 27 (jI (r' : Int)) y = some (hp q (up (up G1 26 r' (msk (fun i => plB S x r' i) S.toNat : Nat)) 27 r' y.toInt)) := by
        rw [jI_of y, s27 _ _ _ (by omega) (by omega), ← jI_of y]
      have er : ((r' : Int) * S + S) = ((r' + 1 : Nat) : Int) * S := by rw [Int.natCast_succ, Int.add_mul, Int.one_mul]
      refine ⟨(r' + 1, up (up G1 26 r' (msk (fun i => plB S x r' i) S.toNat : Nat)) 27 r' y.toInt), ⟨rfl, fun a h1 h2 => ?_, fun j j0 j1 => ?_⟩, ?_⟩
      · show up (up G1 26 r' (msk (fun i => plB S x r' i) S.toNat : Nat)) 27 r' y.toInt a = G a
        rw [up_ne h2, up_ne h1]
        exact t1 a h1 h2
      · show (∀ i : Nat, ib (jI (up (up G1 26 r' (msk (fun i => plB S x r' i) S.toNat : Nat)) 27 r' y.toInt 26 j)) i = (decide ((i : Int) < S) && plB S x j i)) ∧ ∀ i : Nat, ib (jI (up (up G1 26 r' (msk (fun i => plB S x r' i) S.toNat : Nat)) 27 r' y.toInt 27 j)) i = (decide ((i : Int) < S) && plB S x j (S - 1 - i))
        rw [up_ne (show (26 : Nat) ≠ 27 by decide), up_eq, up_eq, up_ne (show (27 : Nat) ≠ 26 by decide)]
        by_cases c : j = r'
        · subst c
          rw [u1_eq, u1_eq, ← jI_of y]
          refine ⟨fun i => ?_, fun i => ?_⟩
          · rw [ib_msk _ (by omega)]
            congr 1
            apply decide_eq_decide.mpr
            omega
          · rw [y2 i]
            by_cases d : (i : Int) < S
            · rw [ib_msk _ (by omega), show ((S - 1 - (i : Int)).toNat : Int) = S - 1 - i by omega]
              simp [d, show (S - 1 - (i : Int)).toNat < S.toNat by omega]
              (try (intro _; omega))
            · simp [d]
        · rw [u1_ne c, u1_ne c]
          exact t2 j j0 (by omega)
      · show L_X9_weaveRounds_22 N (f + 1) 25 (jI (xkA x + xkB x)) (jI (((r' : Int) * S) % (xkA x + xkB x))) (jI r') (hp q G1) = L_X9_weaveRounds_22 N f 25 (jI (xkA x + xkB x)) (jI ((((r' + 1 : Nat) : Int) * S) % (xkA x + xkB x))) (jI ((r' + 1 : Nat) : Int)) (hp q (up (up G1 26 r' (msk (fun i => plB S x r' i) S.toNat : Nat)) 27 r' y.toInt))
        rw [L_X9_weaveRounds_22]
        have f25 : up G1 26 r' (msk (fun i => plB S x r' i) S.toNat : Nat) 25 = G1 25 := up_ne (by decide)
        have K : L_X9_weaveRounds_53 N (L_X9_weaveRounds_22 N f) (N - S.toNat) 25 (jI (xkA x + xkB x)) (jI (((r' : Int) * S + S) % (xkA x + xkB x))) (jI r') (jI (msk (fun i => plB S x r' i) S.toNat : Nat)) (jI S) (hp q G1) = L_X9_weaveRounds_22 N f 25 (jI (xkA x + xkB x)) (jI ((((r' + 1 : Nat) : Int) * S) % (xkA x + xkB x))) (jI ((r' + 1 : Nat) : Int)) (hp q (up (up G1 26 r' (msk (fun i => plB S x r' i) S.toNat : Nat)) 27 r' y.toInt)) := by
          rw [show N - S.toNat = N - S.toNat - 1 + 1 by omega, L_X9_weaveRounds_53, er]
          simp (maxSteps := 2000000) (disch := first | assumption | omega) only [jI0, iAdd_j, iSub_j, iMul_j, iNeg_j, Option.bind_some, jlt_t, jlt_f, jlt, jle_t, jle_f, jle, jeq_t, jeq_f, jeq, ↓reduceIte, o25, e25, w1, f25, s26, y1, s27', Int.natCast_succ]
        simp (maxSteps := 2000000) (disch := first | assumption | omega) only [jI0, iAdd_j, iSub_j, iMul_j, iNeg_j, Option.bind_some, jlt_t, jlt_f, jlt, jle_t, jle_f, jle, jeq_t, jeq_f, jeq, ↓reduceIte, o25, e25, w2, e30, l30, w3, mk, zk, dk, IN, K]
    · rintro f ⟨r', G1⟩ ⟨rfl, t1, t2⟩
      dsimp only at t1 t2
      have e25 : G1 25 = G 25 := t1 25 (by decide) (by decide)
      have e30 : G1 30 = G 30 := t1 30 (by decide) (by decide)
      refine ⟨G1, ⟨t1, fun r r0 r1 => t2 r r0 (by omega)⟩, ?_⟩
      show L_X9_weaveRounds_22 N (f + 1) 25 (jI (xkA x + xkB x)) (jI (((n.toNat : Int) * S) % (xkA x + xkB x))) (jI n.toNat) (hp q G1) = _
      rw [L_X9_weaveRounds_22]
      simp (maxSteps := 2000000) (disch := first | assumption | omega) only [jI0, iAdd_j, iSub_j, iMul_j, iNeg_j, Option.bind_some, jlt_t, jlt_f, jlt, jle_t, jle_f, jle, jeq_t, jeq_f, jeq, ↓reduceIte, o25, e25, w2, e30, l30, w3, mk, zk, dk]
  obtain ⟨G', ⟨x1, x2⟩, x3⟩ := LL
  have z0 : (((0 : Nat) : Int) * S) % (xkA x + xkB x) = 0 := by rw [show ((0 : Nat) : Int) = 0 from rfl, Int.zero_mul, Int.zero_emod]
  rw [z0, show ((0 : Nat) : Int) = 0 from rfl] at x3
  refine ⟨G', ⟨x1, fun r r0 r1 => x2 r r0 (by rw [hn] at r1; exact r1)⟩, ?_⟩
  unfold f_X9_weaveRounds
  simp (maxSteps := 2000000) (disch := first | assumption | omega) only [jI0, iAdd_j, iSub_j, iMul_j, iNeg_j, Option.bind_some, jlt_t, jlt_f, jlt, jle_t, jle_f, jle, jeq_t, jeq_f, jeq, ↓reduceIte, o25, l30, w4, w5, mp, x3]
end
