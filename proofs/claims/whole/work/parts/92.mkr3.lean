/-! find: what the component keeps -/
noncomputable def fdK (S R : Int) (sg : Int → Int → Int) (k : Int) (s : Int × Int × Stk) : Int × Int × Stk := sgo S (fdF S R k sg) ((rmS S (1, 1, 0, 0)).toNat + 1) (1, 1, 0, 0) s
noncomputable def fdT (S R : Int) (sg : Int → Int → Int) : Int × Int × Stk := fdK S R sg 4 (fdK S R sg 3 (fdK S R sg 2 (fdK S R sg 1 (0, 0, (0, 0, 0, 0)))))
theorem fdK_no {S R : Int} {sg : Int → Int → Int} {k : Int} {s : Int × Int × Stk} (h : ¬ (R % k = 0 ∧ AGr S R sg k)) : fdK S R sg k s = s := sgo_id (fun x => fdF_f (fun m => h ⟨m.1, m.2.1⟩)) _ _
/-- the WISH's signs -/
def sgnW (A : Int → Int) (r s : Int) : Int := if (0 ≤ r ∧ r < 8) ∧ 0 ≤ s ∧ s < 32 then A (144 + 32 * r + s) else 46
theorem sgnW_at {A : Int → Int} {r s : Int} (h : (0 ≤ r ∧ r < 8) ∧ 0 ≤ s ∧ s < 32) : sgnW A r s = A (144 + 32 * r + s) := if_pos h
def K1w (A M : Int → Int) : Prop := MkR (A 0) (A 143) (sgnW A) M (fdT (A 0) (A 143) (sgnW A))
theorem KC1w : KC1 K1w := by
  intro A A' M h0 h h1
  have e : sgnW A' = sgnW A := by
    funext r s
    unfold sgnW
    split
    · rw [h _ (by omega) (by omega)]
    · rfl
  unfold K1w at *
  rw [h0, h 143 (by omega) (by omega), e]
  exact h1
section
variable {K1 K2 : (Int → Int) → (Int → Int) → Prop} {q : Nat × Nat × (Nat → Nat)} {G : Nat → Int → Int} {N : Nat}
/-- what the kept WISH says of rows -/
theorem wsRow {A : Int → Int} {g ov rk : Int → Int} (hn : A 0 ≤ 32) (h : WS g ov rk A) (h0 : g 0 ≠ 0) : (1 ≤ g 0 ∧ g 0 ≤ 8 ∧ A 143 = g 0 ∧ 3 ≤ A 0) ∧ (∀ r s, 0 ≤ r → r < g 0 → 0 ≤ s → s < A 0 → sgnW A r s = 46 ∨ (48 ≤ sgnW A r s ∧ sgnW A r s ≤ 53)) ∧ (∀ r, 0 ≤ r → r < g 0 → WR (A 0) (sgnW A) r (rk r)) ∧ ∀ r, 0 ≤ r → r < g 0 → ∀ i : Nat, ib (jI (ov r)) i = (decide ((i : Int) < A 0) && !(sgnW A r i == 46)) := by
  rcases h with ⟨a, _⟩ | ⟨a, b, c, d, e⟩
  · exact absurd a h0
  have at1 : ∀ r s, 0 ≤ r → r < g 0 → 0 ≤ s → s < A 0 → sgnW A r s = A (144 + 32 * r + s) := fun r s r0 r1 s0 s1 => sgnW_at ⟨⟨r0, by omega⟩, s0, by omega⟩
  refine ⟨⟨a, b, c, d⟩, fun r s r0 r1 s0 s1 => by rw [at1 r s r0 r1 s0 s1]; exact (e r r0 r1).1 s s0 s1, fun r r0 r1 => ?_, fun r r0 r1 i => ?_⟩
  · rcases (e r r0 r1).2.2 with ⟨x, y⟩ | ⟨x, y, ⟨s, z1, z2, z3⟩, w⟩ | ⟨x, s, t, y1, y2, y3, y4, y5, y6, y7⟩
    · exact .inl ⟨x, fun s s0 s1 => by rw [at1 r s r0 r1 s0 s1]; exact y s s0 s1⟩
    · exact .inr (.inl ⟨x, y, ⟨s, z1, z2, by rw [at1 r s r0 r1 z1 z2]; exact z3⟩, fun s s0 s1 => by rw [at1 r s r0 r1 s0 s1]; exact w s s0 s1⟩)
    · exact .inr (.inr ⟨x, s, t, y1, y2, y3, y4, by rw [at1 r s r0 r1 y1 y2]; exact y5, by rw [at1 r t r0 r1 y3 y4]; exact y6, by rw [at1 r s r0 r1 y1 y2, at1 r t r0 r1 y3 y4]; exact y7⟩)
  · rw [(e r r0 r1).2.1, ib_msk _ (by omega)]
    by_cases c : (i : Int) < A 0
    · rw [at1 r i r0 r1 (by omega) c]
      simp [c, show i < (A 0).toNat by omega]
    · simp [c, show ¬ i < (A 0).toNat by omega]
theorem oWant (hN : 10000 ≤ N) {S R : Int} {sg : Int → Int → Int} (hS : 3 ≤ S ∧ S ≤ 32) (hR : 1 ≤ R ∧ R ≤ 8) (g1 : G 25 10 = R) (ho : ∀ r, 0 ≤ r → r < R → ∀ i : Nat, ib (jI (G 18 r)) i = (decide ((i : Int) < S) && !(sg r i == 46))) : ∃ G' : Nat → Int → Int, ((∀ a, a ≠ 28 → a ≠ 29 → G' a = G a) ∧ WtC G' S R (fun r s => !(sg r s == 46)) (fun r s => sg r s == 46)) ∧ L_X9_makeKnown_43 N N 25 17 (jI S) (jI 0) (hp q G) = L_X9_makeKnown_96 N N 25 17 (jI 1) (hp q G') := by
  refine loopG (N := N) (fun f (t : Int × (Nat → Int → Int)) => L_X9_makeKnown_43 N f 25 17 (jI S) (jI t.1) (hp q t.2)) (fun n t => t.1 = n ∧ (∀ a, a ≠ 28 → a ≠ 29 → t.2 a = G a) ∧ WtC t.2 S (n : Int) (fun r s => !(sg r s == 46)) (fun r s => sg r s == 46)) R.toNat (R := fun G' => L_X9_makeKnown_96 N N 25 17 (jI 1) (hp q G')) (by omega) (s := (0, G)) ⟨rfl, fun _ _ _ => rfl, fun r r0 r1 => by omega⟩ ?_ ?_
  · rintro f n ⟨i, G1⟩ hn ⟨rfl, t1, t2⟩
    dsimp only at t1 t2
    have e25 : G1 25 10 = R := by rw [t1 25 (by decide) (by decide)]; exact g1
    have e18 : G1 18 = G 18 := t1 18 (by decide) (by decide)
    obtain ⟨y, y1, y2⟩ := X11_mask (N := N) (h := hp q (up G1 28 n (G 18 n))) (n := S) (by omega) (by omega)
    have s29' : ∀ z : Int32, stI 0 (hp q (up G1 28 n (G 18 n))) 29 (jI (n : Int)) z = some (hp q (up (up G1 28 n (G 18 n)) 29 n z.toInt)) := fun z => by
      rw [jI_of z, s29 _ _ _ (by omega) (by omega), ← jI_of z]
    have f18 : up G1 28 n (G 18 n) 18 = G 18 := by rw [up_ne (by decide)]; exact e18
    refine ⟨(((n + 1 : Nat) : Int), up (up G1 28 n (G 18 n)) 29 n (iAnd y (iXor (jI (G 18 n)) (jI (-1)))).toInt), ⟨rfl, fun a h1 h2 => ?_, fun r r0 r1 => ?_⟩, ?_⟩
    · show up (up G1 28 n (G 18 n)) 29 n (iAnd y (iXor (jI (G 18 n)) (jI (-1)))).toInt a = G a
      rw [up_ne h2, up_ne h1]
      exact t1 a h1 h2
    · show (∀ i : Nat, ib (jI (up (up G1 28 n (G 18 n)) 29 n (iAnd y (iXor (jI (G 18 n)) (jI (-1)))).toInt 28 r)) i = (decide ((i : Int) < S) && !(sg r i == 46))) ∧ ∀ i : Nat, ib (jI (up (up G1 28 n (G 18 n)) 29 n (iAnd y (iXor (jI (G 18 n)) (jI (-1)))).toInt 29 r)) i = (decide ((i : Int) < S) && sg r i == 46)
      rw [up_ne (show (28 : Nat) ≠ 29 by decide), up_eq, up_eq, up_ne (show (29 : Nat) ≠ 28 by decide)]
      by_cases c : r = n
      · subst c
        rw [u1_eq, u1_eq, ← jI_of]
        refine ⟨ho n (by omega) (by omega), fun i => ?_⟩
        by_cases c2 : i < 32
        · rw [ib_and, ib_xor, ib_m1, y2 i c2, ho n (by omega) (by omega) i]
          by_cases c3 : (i : Int) < S
          · simp [c2, c3]
          · simp [c3]
        · rw [ib_ge (by omega)]
          simp [show ¬ (i : Int) < S by omega]
      · rw [u1_ne c, u1_ne c]
        exact t2 r r0 (by omega)
    · show L_X9_makeKnown_43 N (f + 1) 25 17 (jI S) (jI (n : Int)) (hp q G1) = L_X9_makeKnown_43 N f 25 17 (jI S) (jI ((n + 1 : Nat) : Int)) (hp q (up (up G1 28 n (G 18 n)) 29 n (iAnd y (iXor (jI (G 18 n)) (jI (-1)))).toInt))
      rw [L_X9_makeKnown_43]
      simp (maxSteps := 2000000) (disch := first | assumption | omega) only [jI0, iAdd_j, iSub_j, iMul_j, iNeg_j, Option.bind_some, jlt_t, jlt_f, jlt, jle_t, jle_f, jle, jeq_t, jeq_f, jeq, ↓reduceIte, o25, e25, o17, l18, e18, s28, y1, f18, s29', Int.natCast_succ]
  · rintro f ⟨i, G1⟩ ⟨rfl, t1, t2⟩
    dsimp only at t1 t2
    have e25 : G1 25 10 = R := by rw [t1 25 (by decide) (by decide)]; exact g1
    rw [show ((R.toNat : Nat) : Int) = R by omega] at t2
    refine ⟨G1, ⟨t1, t2⟩, ?_⟩
    show L_X9_makeKnown_43 N (f + 1) 25 17 (jI S) (jI (R.toNat : Int)) (hp q G1) = _
    rw [L_X9_makeKnown_43]
    simp (maxSteps := 2000000) (disch := first | assumption | omega) only [jI0, iAdd_j, iSub_j, iMul_j, iNeg_j, Option.bind_some, jlt_t, jlt_f, jlt, jle_t, jle_f, jle, jeq_t, jeq_f, jeq, ↓reduceIte, o25, e25]
/-- one number of weavers -/
theorem oMkN (hN : 10000 ≤ N) {S R k : Int} {sg : Int → Int → Int} {s : Int × Int × Stk} (hS : 3 ≤ S ∧ S ≤ 32) (hR : 1 ≤ R ∧ R ≤ 8) (hk : 1 ≤ k ∧ k ≤ 4) (h0 : Fd0 S R sg G) (hm : MkR S R sg (G 31) s) (hs : s.1 ≤ 1024 * (k - 1)) (f : Nat) : ∃ G' : Nat → Int → Int, (Fd1 G G' ∧ MkR S R sg (G' 31) (fdK S R sg k s) ∧ (fdK S R sg k s).1 ≤ 1024 * k) ∧ L_X9_makeKnown_96 N (f + 1) 25 17 (jI k) (hp q G) = L_X9_makeKnown_96 N f 25 17 (jI (k + 1)) (hp q G') := by
  have m0 := Int.emod_nonneg R (show k ≠ 0 by omega)
  have m1 := Int.emod_lt_of_pos R (show 0 < k by omega)
  have zk : (jI k = jI 0) = False := jeq_f (by omega)
  have ag := oAgr (q := q) hN hR hk h0.2.1 h0.2.2.1
  have w2 := h0.1.2
  rw [L_X9_makeKnown_96]
  by_cases c : R % k = 0
  · by_cases c2 : AGr S R sg k
    · rw [cI_t c2] at ag
      obtain ⟨G1, ⟨b1, b2, b3⟩, b4⟩ := oBegin (q := q) hN hS hR hk h0.1.1 h0.1.2
      have f1 : Fd1 G G1 := fun a h1 h2 h3 _ => b1 a h1 h2 h3
      have r1 := rmS_1 hS
      have x0 : okS S (1, 1, 0, 0) := by unfold okS; simp only [xkA, xkB, xkF, xkL]; omega
      have r0 := rmS_0 hS.1 x0
      obtain ⟨G2, ⟨z1, z2, z3⟩, z4⟩ := oMkS (q := q) hN hS hR hk c c2 (rmS S (1, 1, 0, 0)).toNat N 0 (1, 1, 0, 0) s G1 (by omega) (by omega) (by omega) (by omega) x0 (h0.keep f1) b2 b3 (by rw [b1 31 (by decide) (by decide) (by decide)]; exact hm) (by omega)
      refine ⟨G2, ⟨fun a h1 h2 h3 h4 => (z1 a h1 h2 h3 h4).trans (f1 a h1 h2 h3 h4), z2, ?_⟩, ?_⟩
      · unfold fdK
        omega
      · unfold f_X9_makeWith
        simp (maxSteps := 2000000) (disch := first | assumption | omega) only [jI0, iAdd_j, iSub_j, iMul_j, iNeg_j, Option.bind_some, jlt_t, jlt_f, jlt, jle_t, jle_f, jle, jeq_t, jeq_f, jeq, ↓reduceIte, o25, w2, zk, iRem_p, c, ag, b4, z4]
    · rw [cI_f c2] at ag
      rw [fdK_no (fun h => c2 h.2)]
      refine ⟨G, ⟨fun _ _ _ _ _ => rfl, hm, by omega⟩, ?_⟩
      simp (maxSteps := 2000000) (disch := first | assumption | omega) only [jI0, iAdd_j, iSub_j, iMul_j, iNeg_j, Option.bind_some, jlt_t, jlt_f, jlt, jle_t, jle_f, jle, jeq_t, jeq_f, jeq, ↓reduceIte, o25, w2, zk, iRem_p, c, ag]
  · rw [fdK_no (fun h => c h.1)]
    refine ⟨G, ⟨fun _ _ _ _ _ => rfl, hm, by omega⟩, ?_⟩
    simp (maxSteps := 2000000) (disch := first | assumption | omega) only [jI0, iAdd_j, iSub_j, iMul_j, iNeg_j, Option.bind_some, jlt_t, jlt_f, jlt, jle_t, jle_f, jle, jeq_t, jeq_f, jeq, ↓reduceIte, o25, w2, zk, iRem_p, c]
theorem oMkA (hN : 10000 ≤ N) {S R : Int} {sg : Int → Int → Int} (hS : 3 ≤ S ∧ S ≤ 32) (hR : 1 ≤ R ∧ R ≤ 8) (h0 : Fd0 S R sg G) (hm : MkR S R sg (G 31) (0, 0, (0, 0, 0, 0))) : ∃ G' : Nat → Int → Int, (Fd1 G G' ∧ MkR S R sg (G' 31) (fdT S R sg)) ∧ L_X9_makeKnown_96 N N 25 17 (jI 1) (hp q G) = some (hp q G') := by
  obtain ⟨n, hn⟩ : ∃ n, N = n + 1 + 1 + 1 + 1 + 1 := ⟨N - 5, by omega⟩
  obtain ⟨G1, ⟨a1, a2, a3⟩, a4⟩ := oMkN (q := q) hN hS hR (k := 1) (by omega) h0 hm (by dsimp only; omega) (n + 1 + 1 + 1 + 1)
  obtain ⟨G2, ⟨b1, b2, b3⟩, b4⟩ := oMkN (q := q) hN hS hR (k := 2) (by omega) (h0.keep a1) a2 (by omega) (n + 1 + 1 + 1)
  obtain ⟨G3, ⟨c1, c2, c3⟩, c4⟩ := oMkN (q := q) hN hS hR (k := 3) (by omega) ((h0.keep a1).keep b1) b2 (by omega) (n + 1 + 1)
  obtain ⟨G4, ⟨d1, d2, d3⟩, d4⟩ := oMkN (q := q) hN hS hR (k := 4) (by omega) (((h0.keep a1).keep b1).keep c1) c2 (by omega) (n + 1)
  refine ⟨G4, ⟨fun a h1 h2 h3 h4 => by rw [d1 a h1 h2 h3 h4, c1 a h1 h2 h3 h4, b1 a h1 h2 h3 h4, a1 a h1 h2 h3 h4], d2⟩, ?_⟩
  have eN : L_X9_makeKnown_96 N N = L_X9_makeKnown_96 N (n + 1 + 1 + 1 + 1 + 1) := congrArg _ hn
  rw [eN, a4]
  rw [show (1 : Int) + 1 = 2 from rfl, b4, show (2 : Int) + 1 = 3 from rfl, c4, show (3 : Int) + 1 = 4 from rfl, d4, show (4 : Int) + 1 = 5 from rfl, L_X9_makeKnown_96]
  simp (maxSteps := 2000000) (disch := first | assumption | omega) only [jI0, iAdd_j, iSub_j, iMul_j, iNeg_j, Option.bind_some, jlt_t, jlt_f, jlt, jle_t, jle_f, jle, jeq_t, jeq_f, jeq, ↓reduceIte]
theorem oKnown (hN : 10000 ≤ N) (hn : G 102 0 ≤ 32) (h : WS (G 17) (G 18) (G 20) (G 102)) (h0 : G 17 0 ≠ 0) (hk : G 25 7 = 0 ∨ G 25 7 = 1) (hk2 : G 25 7 = 1 → K1w (G 102) (G 31)) : ∃ G' : Nat → Int → Int, ((∀ a, (a < 25 ∨ 31 < a) → G' a = G a) ∧ G' 25 7 = 1 ∧ G' 25 8 = G 25 8 ∧ K1w (G 102) (G' 31)) ∧ f_X9_makeKnown N 25 17 (jI (G 102 0)) (hp q G) = some (hp q G') := by
  obtain ⟨⟨r0, r8, e143, S3⟩, sgn, wr, ov⟩ := wsRow hn h h0
  rcases hk with k0 | k1
  · have w7 := (w25 q G 1).1
    have fi := fill_i (q := q) (G := up G 25 7 1) (a := 31) (n := 10) (v := -1) hN (by decide) (fun _ => rfl) (by decide)
    have s5 := s31 q (fl (up G 25 7 1) 31 10 (-1)) (i := 5) 0 (by decide) (by decide)
    have w9 := (w25 q (up (fl (up G 25 7 1) 31 10 (-1)) 31 5 0) (G 102 0)).2.2.1
    have w10 := (w25 q (up (up (fl (up G 25 7 1) 31 10 (-1)) 31 5 0) 25 9 (G 102 0)) (G 17 0)).2.2.2
    generalize hG1 : up (up (up (fl (up G 25 7 1) 31 10 (-1)) 31 5 0) 25 9 (G 102 0)) 25 10 (G 17 0) = G1 at *
    have E : ∀ a, a ≠ 25 → a ≠ 31 → G1 a = G a := fun a h1 h2 => by rw [← hG1, up_ne h1, up_ne h1, up_ne h2, fl_ne h2, up_ne h1]
    have e25 : ∀ i, G1 25 i = u1 (u1 (u1 (G 25) 7 1) 9 (G 102 0)) 10 (G 17 0) i := fun i => by
      rw [← hG1, up_eq, up_eq, up_ne (show (25 : Nat) ≠ 31 by decide), fl_ne (show (25 : Nat) ≠ 31 by decide), up_eq]
    have e31 : ∀ i, 0 ≤ i → i < 10 → G1 31 i = if i = 5 then 0 else -1 := fun i i0 i1 => by
      rw [← hG1, up_ne (by decide), up_ne (by decide), up_eq]
      by_cases c : i = 5
      · rw [c, u1_eq, if_pos rfl]
      · rw [u1_ne c, fl_eq i0 i1, if_neg c]
    have g17 : G1 17 = G 17 := E 17 (by decide) (by decide)
    obtain ⟨G2, ⟨a1, a2⟩, a3⟩ := oWant (q := q) (G := G1) hN (S := G 102 0) (R := G 17 0) (sg := sgnW (G 102)) ⟨S3, hn⟩ ⟨r0, r8⟩ (by rw [e25, u1_eq]) (fun r r0 r1 i => by rw [E 18 (by decide) (by decide)]; exact ov r r0 r1 i)
    have fd : Fd0 (G 102 0) (G 17 0) (sgnW (G 102)) G2 := by
      refine ⟨⟨?_, ?_⟩, ?_, fun r r0 r1 => ?_, a2⟩
      · rw [a1 25 (by decide) (by decide), e25, u1_ne (by decide), u1_eq]
      · rw [a1 25 (by decide) (by decide), e25, u1_eq]
      · rw [a1 17 (by decide) (by decide), g17]
      · rw [a1 20 (by decide) (by decide), E 20 (by decide) (by decide)]
        exact wr r r0 r1
    have mk : MkR (G 102 0) (G 17 0) (sgnW (G 102)) (G2 31) (0, 0, (0, 0, 0, 0)) := by
      rw [a1 31 (by decide) (by decide)]
      refine ⟨Int.le_refl _, by rw [e31 5 (by omega) (by omega), if_pos rfl], fun _ i i0 i1 i5 => by rw [e31 i i0 i1, if_neg i5], fun h => absurd rfl h⟩
    obtain ⟨G3, ⟨b1, b2⟩, b3⟩ := oMkA (q := q) hN ⟨S3, hn⟩ ⟨r0, r8⟩ fd mk
    have b25 : G3 25 = G1 25 := by rw [b1 25 (by decide) (by decide) (by decide) (by decide), a1 25 (by decide) (by decide)]
    refine ⟨G3, ⟨fun a ha => ?_, ?_, ?_, ?_⟩, ?_⟩
    · rw [b1 a (by omega) (by omega) (by omega) (by omega), a1 a (by omega) (by omega), E a (by omega) (by omega)]
    · rw [b25, e25, u1_ne (by decide), u1_ne (by decide), u1_eq]
    · rw [b25, e25, u1_ne (by decide), u1_ne (by decide), u1_ne (by decide)]
    · unfold K1w
      rw [e143]
      exact b2
    · have z17 : up (up (fl (up G 25 7 1) 31 10 (-1)) 31 5 0) 25 9 (G 102 0) 17 = G 17 := by
        rw [up_ne (by decide), up_ne (by decide), fl_ne (by decide), up_ne (by decide)]
      unfold f_X9_makeKnown
      simp (maxSteps := 2000000) (disch := first | assumption | omega) only [jI0, iAdd_j, iSub_j, iMul_j, iNeg_j, Option.bind_some, jlt_t, jlt_f, jlt, jle_t, jle_f, jle, jeq_t, jeq_f, jeq, ↓reduceIte, o25, k0, w7, fi, s5, w9, o17, z17, w10, a3, b3]
  · refine ⟨G, ⟨fun _ _ => rfl, k1, rfl, hk2 k1⟩, ?_⟩
    unfold f_X9_makeKnown
    simp (maxSteps := 2000000) (disch := first | assumption | omega) only [jI0, iAdd_j, iSub_j, iMul_j, iNeg_j, Option.bind_some, jlt_t, jlt_f, jlt, jle_t, jle_f, jle, jeq_t, jeq_f, jeq, ↓reduceIte, o25, k1]
end
