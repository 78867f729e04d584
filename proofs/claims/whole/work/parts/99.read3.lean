/-! reads, nearest: what the component knows; the model's mistakes -/
def SgP (G : Nat → Int → Int) (S R : Int) (sg : Int → Int → Int) : Prop := G 102 0 = S ∧ G 102 400 = R ∧ ∀ r s, 0 ≤ r → r < R → 0 ≤ s → s < S → G 102 (401 + 32 * r + s) = sg r s ∧ (sg r s = 111 ∨ sg r s = 117 ∨ sg r s = 63)
section
variable {K1 K2 : (Int → Int) → (Int → Int) → Prop} {q : Nat × Nat × (Nat → Nat)} {G : Nat → Int → Int} {N : Nat}
theorem psRow {A : Int → Int} {g ov un : Int → Int} (hn : A 0 ≤ 32) (h : PS g ov un A) (h0 : g 0 ≠ 0) : (1 ≤ g 0 ∧ g 0 ≤ 8 ∧ A 400 = g 0 ∧ 3 ≤ A 0) ∧ (∀ r s, 0 ≤ r → r < g 0 → 0 ≤ s → s < A 0 → A (401 + 32 * r + s) = sgnP A r s ∧ (sgnP A r s = 111 ∨ sgnP A r s = 117 ∨ sgnP A r s = 63)) ∧ (∀ r, 0 ≤ r → r < g 0 → ∀ i : Nat, ib (jI (ov r)) i = (decide ((i : Int) < A 0) && sgnP A r i == 111)) ∧ ∀ r, 0 ≤ r → r < g 0 → ∀ i : Nat, ib (jI (un r)) i = (decide ((i : Int) < A 0) && sgnP A r i == 117) := by
  rcases h with ⟨a, _⟩ | ⟨a, b, c, d, e⟩
  · exact absurd a h0
  have at1 : ∀ r s, 0 ≤ r → r < g 0 → 0 ≤ s → s < A 0 → sgnP A r s = A (401 + 32 * r + s) := fun r s r0 r1 s0 s1 => sgnP_at ⟨⟨r0, by omega⟩, s0, by omega⟩
  refine ⟨⟨a, b, c, d⟩, fun r s r0 r1 s0 s1 => by rw [at1 r s r0 r1 s0 s1]; exact ⟨rfl, (e r r0 r1).1 s s0 s1⟩, fun r r0 r1 i => ?_, fun r r0 r1 i => ?_⟩
  · rw [(e r r0 r1).2.1, ib_msk _ (by omega)]
    by_cases c : (i : Int) < A 0
    · rw [at1 r i r0 r1 (by omega) c]
      simp [c, show i < (A 0).toNat by omega]
    · simp [c, show ¬ i < (A 0).toNat by omega]
  · rw [(e r r0 r1).2.2, ib_msk _ (by omega)]
    by_cases c : (i : Int) < A 0
    · rw [at1 r i r0 r1 (by omega) c]
      simp [c, show i < (A 0).toNat by omega]
    · simp [c, show ¬ i < (A 0).toNat by omega]
theorem oReadK (hN : 10000 ≤ N) (hn : G 102 0 ≤ 32) (h : PS (G 21) (G 22) (G 23) (G 102)) (h0 : G 21 0 ≠ 0) (hk : G 25 8 = 0 ∨ G 25 8 = 1) (hk2 : G 25 8 = 1 → K2w (G 102) (G 32)) : ∃ G' : Nat → Int → Int, ((∀ a, (a < 25 ∨ 32 < a ∨ a = 31) → G' a = G a) ∧ G' 25 8 = 1 ∧ G' 25 7 = G 25 7 ∧ K2w (G 102) (G' 32)) ∧ f_X9_readKnown N 25 21 (jI (G 102 0)) (hp q G) = some (hp q G') := by
  obtain ⟨⟨r0, r8, e400, S3⟩, sgn, ho, hu⟩ := psRow hn h h0
  rcases hk with k0 | k1
  · have w8 := (w25 q G 1).2.1
    have fi := fill_i (q := q) (G := up G 25 8 1) (a := 32) (n := 16) (v := 0) hN (by decide) (fun _ => rfl) (by decide)
    have w9 := (w25 q (fl (up G 25 8 1) 32 16 0) (G 102 0)).2.2.1
    have w10 := (w25 q (up (fl (up G 25 8 1) 32 16 0) 25 9 (G 102 0)) (G 21 0)).2.2.2
    have z21 : up (fl (up G 25 8 1) 32 16 0) 25 9 (G 102 0) 21 = G 21 := by
      rw [up_ne (by decide), fl_ne (by decide), up_ne (by decide)]
    generalize hG1 : up (up (fl (up G 25 8 1) 32 16 0) 25 9 (G 102 0)) 25 10 (G 21 0) = G1 at *
    have E : ∀ a, a ≠ 25 → a ≠ 32 → G1 a = G a := fun a h1 h2 => by rw [← hG1, up_ne h1, up_ne h1, fl_ne h2, up_ne h1]
    have e25 : ∀ i, G1 25 i = u1 (u1 (u1 (G 25) 8 1) 9 (G 102 0)) 10 (G 21 0) i := fun i => by
      rw [← hG1, up_eq, up_eq, fl_ne (show (25 : Nat) ≠ 32 by decide), up_eq]
    have e32 : ∀ i, 0 ≤ i → i < 16 → G1 32 i = 0 := fun i i0 i1 => by
      rw [← hG1, up_ne (by decide), up_ne (by decide), fl_eq i0 i1]
    have b9 : G1 25 9 = G 102 0 := by rw [e25, u1_ne (by decide), u1_eq]
    have b10 : G1 25 10 = G 21 0 := by rw [e25, u1_eq]
    obtain ⟨n, hn⟩ : ∃ n, N = n + 1 + 1 + 1 := ⟨N - 3, by omega⟩
    obtain ⟨G2, ⟨a1, a2⟩, a3⟩ := oRdL (q := q) (G := G1) hN (d := 0) (.inl rfl) ⟨S3, by omega⟩ ⟨r0, r8⟩ b10 (sg := sgnP (G 102)) (fun r r0 r1 i => by rw [E 22 (by decide) (by decide)]; exact ho r r0 r1 i) (fun r r0 r1 i => by rw [E 23 (by decide) (by decide)]; exact hu r r0 r1 i) (L_X9_readKnown_36 N (n + 1 + 1))
    obtain ⟨G3, ⟨c1, c2⟩, c3⟩ := oRdA (q := q) (G := G2) hN (b := 0) (.inl rfl) ⟨S3, by omega⟩ ⟨r0, r8⟩ ⟨⟨by rw [a1 25 (by decide) (by decide)]; exact b9, by rw [a1 25 (by decide) (by decide)]; exact b10⟩, a2⟩ (by rw [a1 32 (by decide) (by decide)]; exact e32 _ (by omega) (by omega)) (by rw [a1 32 (by decide) (by decide)]; exact e32 _ (by omega) (by omega))
    have t25 : G3 25 = G1 25 := by rw [c1.1 25 (by decide) (by decide) (by decide) (by decide), a1 25 (by decide) (by decide)]
    have t32 : ∀ i, 8 ≤ i → i < 16 → G3 32 i = 0 := fun i i0 i1 => by
      rw [c1.2 i (by omega), a1 32 (by decide) (by decide)]
      exact e32 i (by omega) i1
    obtain ⟨G4, ⟨d1, d2⟩, d3⟩ := oRdL (q := q) (G := G3) hN (d := 1) (.inr rfl) ⟨S3, by omega⟩ ⟨r0, r8⟩ (by rw [t25]; exact b10) (sg := sgnP (G 102)) (fun r r0 r1 i => by rw [c1.1 22 (by decide) (by decide) (by decide) (by decide), a1 22 (by decide) (by decide), E 22 (by decide) (by decide)]; exact ho r r0 r1 i) (fun r r0 r1 i => by rw [c1.1 23 (by decide) (by decide) (by decide) (by decide), a1 23 (by decide) (by decide), E 23 (by decide) (by decide)]; exact hu r r0 r1 i) (L_X9_readKnown_36 N (n + 1))
    obtain ⟨G5, ⟨f1, f2⟩, f3⟩ := oRdA (q := q) (G := G4) hN (b := 8) (.inr rfl) ⟨S3, by omega⟩ ⟨r0, r8⟩ ⟨⟨by rw [d1 25 (by decide) (by decide), t25]; exact b9, by rw [d1 25 (by decide) (by decide), t25]; exact b10⟩, d2⟩ (by rw [d1 32 (by decide) (by decide)]; exact t32 _ (by omega) (by omega)) (by rw [d1 32 (by decide) (by decide)]; exact t32 _ (by omega) (by omega))
    have v25 : G5 25 = G1 25 := by rw [f1.1 25 (by decide) (by decide) (by decide) (by decide), d1 25 (by decide) (by decide), t25]
    have v32 : ∀ i, i < 8 → G5 32 i = G3 32 i := fun i hi => by rw [f1.2 i (by omega), d1 32 (by decide) (by decide)]
    refine ⟨G5, ⟨fun a ha => ?_, ?_, ?_, ?_⟩, ?_⟩
    · rw [f1.1 a (by omega) (by omega) (by omega) (by omega), d1 a (by omega) (by omega), c1.1 a (by omega) (by omega) (by omega) (by omega), a1 a (by omega) (by omega), E a (by omega) (by omega)]
    · rw [v25, e25, u1_ne (by decide), u1_ne (by decide), u1_eq]
    · rw [v25, e25, u1_ne (by decide), u1_ne (by decide), u1_ne (by decide)]
    · unfold K2w
      rw [e400]
      refine ⟨?_, f2⟩
      unfold RdR at c2 ⊢
      rw [v32 0 (by omega), v32 (0 + 1) (by omega), v32 (0 + 2) (by omega), v32 (0 + 3) (by omega), v32 (0 + 4) (by omega), v32 (0 + 5) (by omega), v32 (0 + 6) (by omega), v32 (0 + 7) (by omega)]
      exact c2
    · have z : L_X9_readKnown_36 N N 25 21 (jI (G 102 0)) (jI 0) (hp q G1) = some (hp q G5) := by
        have eN : L_X9_readKnown_36 N N = L_X9_readKnown_36 N (n + 1 + 1 + 1) := congrArg _ hn
        have q1 : L_X9_readKnown_36 N (n + 1) 25 21 (jI (G 102 0)) (jI (1 + 1)) (hp q G5) = some (hp q G5) := by
          rw [L_X9_readKnown_36]
          simp (maxSteps := 2000000) (disch := first | assumption | omega) only [jI0, iAdd_j, iSub_j, iMul_j, iNeg_j, Option.bind_some, jlt_t, jlt_f, jlt, jle_t, jle_f, jle, jeq_t, jeq_f, jeq, ↓reduceIte]
        have q2 : L_X9_readKnown_36 N (n + 1 + 1) 25 21 (jI (G 102 0)) (jI (0 + 1)) (hp q G3) = some (hp q G5) := by
          rw [show (1 : Int) * 8 = 8 from rfl, f3, Option.bind_some, q1] at d3
          rw [show (0 : Int) + 1 = 1 from rfl, L_X9_readKnown_36]
          simp (maxSteps := 2000000) (disch := first | assumption | omega) only [jI0, iAdd_j, iSub_j, iMul_j, iNeg_j, Option.bind_some, jlt_t, jlt_f, jlt, jle_t, jle_f, jle, jeq_t, jeq_f, jeq, ↓reduceIte, d3]
        rw [show (0 : Int) * 8 = 0 from rfl, c3, Option.bind_some, q2] at a3
        rw [eN, L_X9_readKnown_36]
        simp (maxSteps := 2000000) (disch := first | assumption | omega) only [jI0, iAdd_j, iSub_j, iMul_j, iNeg_j, Option.bind_some, jlt_t, jlt_f, jlt, jle_t, jle_f, jle, jeq_t, jeq_f, jeq, ↓reduceIte, a3]
      unfold f_X9_readKnown
      simp (maxSteps := 2000000) (disch := first | assumption | omega) only [jI0, iAdd_j, iSub_j, iMul_j, iNeg_j, Option.bind_some, jlt_t, jlt_f, jlt, jle_t, jle_f, jle, jeq_t, jeq_f, jeq, ↓reduceIte, o25, k0, w8, fi, w9, o21, z21, w10, z]
  · refine ⟨G, ⟨fun _ _ => rfl, k1, rfl, hk2 k1⟩, ?_⟩
    unfold f_X9_readKnown
    simp (maxSteps := 2000000) (disch := first | assumption | omega) only [jI0, iAdd_j, iSub_j, iMul_j, iNeg_j, Option.bind_some, jlt_t, jlt_f, jlt, jle_t, jle_f, jle, jeq_t, jeq_f, jeq, ↓reduceIte, o25, k1]
theorem mMs19 (hN : 10000 ≤ N) {S R k d r : Int} {sg : Int → Int → Int} {x : Stk} (hdd : d = 0 ∨ d = 1) (hS : 3 ≤ S ∧ S ≤ 32) (hR : 1 ≤ R ∧ R ≤ 8) (hk : 1 ≤ k ∧ k ≤ 4) (hx : okS S x) (hw : NowM G S k x) (hs : SgP G S R sg) (r0 : 0 ≤ r ∧ r < R) (k4 : Nat → Int32 → Int32 → Int32 → mH → Option (Int32 × mH)) : ∀ (n f s : Nat) (w : Int), (s : Int) + n = S → n < f → L_X12_mistakes_19 N k4 f 100 (jI d) (jI (w + sm (fun s => if ((rdU sg S d r s && soB S k x r s) || (rdO sg S d r s && !soB S k x r s)) = true then 1 else 0) s)) (jI r) (jI s) (hp q G) = k4 100 (jI d) (jI (w + msR S k x (rdO sg S d) (rdU sg S d) r)) (jI (r + 1)) (hp q G) := by
  intro n
  have s0 := hs.1
  induction n with
  | zero =>
    intro f s w hn hf
    obtain ⟨f, rfl⟩ : ∃ y, f = y + 1 := ⟨f - 1, by omega⟩
    have e : s = S.toNat := by omega
    have ee : ((S.toNat : Nat) : Int) = S := by omega
    rw [e, ee, L_X12_mistakes_19]
    unfold msR
    simp (maxSteps := 2000000) (disch := first | assumption | omega) only [jI0, iAdd_j, iSub_j, iMul_j, iNeg_j, Option.bind_some, jlt_t, jlt_f, jlt, jle_t, jle_f, jle, jeq_t, jeq_f, jeq, ↓reduceIte, o100, l102, s0]
  | succ n ih =>
    intro f s w hn hf
    obtain ⟨f, rfl⟩ : ∃ y, f = y + 1 := ⟨f - 1, by omega⟩
    have hs1 : ((s + 1 : Nat) : Int) = (s : Int) + 1 := by omega
    have so := mSo (N := N) (q := q) (r := r) (s := s) hS hk hx hw (by omega) (by omega)
    generalize hF : (fun s : Int => if ((rdU sg S d r s && soB S k x r s) || (rdO sg S d r s && !soB S k x r s)) = true then (1 : Int) else 0) = F at *
    have fs : F s = if ((rdU sg S d r s && soB S k x r s) || (rdO sg S d r s && !soB S k x r s)) = true then (1 : Int) else 0 := by rw [← hF]
    have NX : ∀ u : Int, u = w + sm F s + F s → L_X12_mistakes_19 N k4 f 100 (jI d) (jI u) (jI r) (jI ((s : Int) + 1)) (hp q G) = k4 100 (jI d) (jI (w + msR S k x (rdO sg S d) (rdU sg S d) r)) (jI (r + 1)) (hp q G) := by
      intro u hu
      have := ih f (s + 1) w (by omega) (by omega)
      rw [hs1] at this
      rw [hu, ← this]
      congr 2
      show w + sm F s + F s = w + (sm F s + F s)
      omega
    rw [L_X12_mistakes_19]
    unfold J_X12_mistakes_62 J_X12_mistakes_96 J_X12_mistakes_113
    rcases hdd with rfl | rfl
    · obtain ⟨g1, g2⟩ := hs.2.2 r s r0.1 r0.2 (by omega) (by omega)
      rcases g2 with v | v | v
      · by_cases c : soB S k x r s = true
        · rw [cI_t c] at so
          have nx := NX (w + sm F s + 0) (by rw [fs]; simp [rdU, rdO, v, c])
          simp (maxSteps := 2000000) (disch := first | assumption | omega) only [jI0, iAdd_j, iSub_j, iMul_j, iNeg_j, Option.bind_some, jlt_t, jlt_f, jlt, jle_t, jle_f, jle, jeq_t, jeq_f, jeq, ↓reduceIte, o100, l102, s0, g1, v, so, nx]
        · rw [cI_f c] at so
          have nx := NX (w + sm F s + 1) (by rw [fs]; simp [rdU, rdO, v, c])
          simp (maxSteps := 2000000) (disch := first | assumption | omega) only [jI0, iAdd_j, iSub_j, iMul_j, iNeg_j, Option.bind_some, jlt_t, jlt_f, jlt, jle_t, jle_f, jle, jeq_t, jeq_f, jeq, ↓reduceIte, o100, l102, s0, g1, v, so, nx]
      · by_cases c : soB S k x r s = true
        · rw [cI_t c] at so
          have nx := NX (w + sm F s + 1) (by rw [fs]; simp [rdU, rdO, v, c])
          simp (maxSteps := 2000000) (disch := first | assumption | omega) only [jI0, iAdd_j, iSub_j, iMul_j, iNeg_j, Option.bind_some, jlt_t, jlt_f, jlt, jle_t, jle_f, jle, jeq_t, jeq_f, jeq, ↓reduceIte, o100, l102, s0, g1, v, so, nx]
        · rw [cI_f c] at so
          have nx := NX (w + sm F s + 0) (by rw [fs]; simp [rdU, rdO, v, c])
          simp (maxSteps := 2000000) (disch := first | assumption | omega) only [jI0, iAdd_j, iSub_j, iMul_j, iNeg_j, Option.bind_some, jlt_t, jlt_f, jlt, jle_t, jle_f, jle, jeq_t, jeq_f, jeq, ↓reduceIte, o100, l102, s0, g1, v, so, nx]
      · have nx := NX (w + sm F s) (by rw [fs]; simp [rdU, rdO, v])
        simp (maxSteps := 2000000) (disch := first | assumption | omega) only [jI0, iAdd_j, iSub_j, iMul_j, iNeg_j, Option.bind_some, jlt_t, jlt_f, jlt, jle_t, jle_f, jle, jeq_t, jeq_f, jeq, ↓reduceIte, o100, l102, s0, g1, v, nx]
    · obtain ⟨g1, g2⟩ := hs.2.2 r (S - 1 - s) r0.1 r0.2 (by omega) (by omega)
      rcases g2 with v | v | v
      · by_cases c : soB S k x r s = true
        · rw [cI_t c] at so
          have nx := NX (w + sm F s + 1) (by rw [fs]; simp [rdU, rdO, v, c])
          simp (maxSteps := 2000000) (disch := first | assumption | omega) only [jI0, iAdd_j, iSub_j, iMul_j, iNeg_j, Option.bind_some, jlt_t, jlt_f, jlt, jle_t, jle_f, jle, jeq_t, jeq_f, jeq, ↓reduceIte, o100, l102, s0, g1, v, so, nx]
        · rw [cI_f c] at so
          have nx := NX (w + sm F s + 0) (by rw [fs]; simp [rdU, rdO, v, c])
          simp (maxSteps := 2000000) (disch := first | assumption | omega) only [jI0, iAdd_j, iSub_j, iMul_j, iNeg_j, Option.bind_some, jlt_t, jlt_f, jlt, jle_t, jle_f, jle, jeq_t, jeq_f, jeq, ↓reduceIte, o100, l102, s0, g1, v, so, nx]
      · by_cases c : soB S k x r s = true
        · rw [cI_t c] at so
          have nx := NX (w + sm F s + 0) (by rw [fs]; simp [rdU, rdO, v, c])
          simp (maxSteps := 2000000) (disch := first | assumption | omega) only [jI0, iAdd_j, iSub_j, iMul_j, iNeg_j, Option.bind_some, jlt_t, jlt_f, jlt, jle_t, jle_f, jle, jeq_t, jeq_f, jeq, ↓reduceIte, o100, l102, s0, g1, v, so, nx]
        · rw [cI_f c] at so
          have nx := NX (w + sm F s + 1) (by rw [fs]; simp [rdU, rdO, v, c])
          simp (maxSteps := 2000000) (disch := first | assumption | omega) only [jI0, iAdd_j, iSub_j, iMul_j, iNeg_j, Option.bind_some, jlt_t, jlt_f, jlt, jle_t, jle_f, jle, jeq_t, jeq_f, jeq, ↓reduceIte, o100, l102, s0, g1, v, so, nx]
      · have nx := NX (w + sm F s) (by rw [fs]; simp [rdU, rdO, v])
        simp (maxSteps := 2000000) (disch := first | assumption | omega) only [jI0, iAdd_j, iSub_j, iMul_j, iNeg_j, Option.bind_some, jlt_t, jlt_f, jlt, jle_t, jle_f, jle, jeq_t, jeq_f, jeq, ↓reduceIte, o100, l102, s0, g1, v, nx]
theorem mMist (hN : 10000 ≤ N) {S R k d : Int} {sg : Int → Int → Int} {x : Stk} (hdd : d = 0 ∨ d = 1) (hS : 3 ≤ S ∧ S ≤ 32) (hR : 1 ≤ R ∧ R ≤ 8) (hk : 1 ≤ k ∧ k ≤ 4) (hx : okS S x) (hw : NowM G S k x) (hs : SgP G S R sg) : f_X12_mistakes N 100 (jI d) (hp q G) = some (jI (msA S k x (rdO sg S d) (rdU sg S d) R.toNat), hp q G) := by
  have s1 := hs.2.1
  have LL : ∀ (n f r : Nat), (r : Int) + n = R → n < f → L_X12_mistakes_4 N f 100 (jI d) (jI (msA S k x (rdO sg S d) (rdU sg S d) r)) (jI r) (hp q G) = some (jI (msA S k x (rdO sg S d) (rdU sg S d) R.toNat), hp q G) := by
    intro n
    induction n with
    | zero =>
      intro f r hn hf
      obtain ⟨f, rfl⟩ : ∃ y, f = y + 1 := ⟨f - 1, by omega⟩
      have e : r = R.toNat := by omega
      have ee : ((R.toNat : Nat) : Int) = R := by omega
      rw [e, ee, L_X12_mistakes_4]
      simp (maxSteps := 2000000) (disch := first | assumption | omega) only [jI0, iAdd_j, iSub_j, iMul_j, iNeg_j, Option.bind_some, jlt_t, jlt_f, jlt, jle_t, jle_f, jle, jeq_t, jeq_f, jeq, ↓reduceIte, o100, l102, s1]
    | succ n ih =>
      intro f r hn hf
      obtain ⟨f, rfl⟩ : ∃ y, f = y + 1 := ⟨f - 1, by omega⟩
      have z := mMs19 (q := q) hN hdd hS hR hk hx hw hs (r := r) (by omega) (L_X12_mistakes_4 N f) S.toNat N 0 (msA S k x (rdO sg S d) (rdU sg S d) r) (by omega) (by omega)
      have i := ih f (r + 1) (by omega) (by omega)
      rw [show ((r + 1 : Nat) : Int) = (r : Int) + 1 by omega] at i
      have em : msA S k x (rdO sg S d) (rdU sg S d) (r + 1) = msA S k x (rdO sg S d) (rdU sg S d) r + msR S k x (rdO sg S d) (rdU sg S d) r := rfl
      rw [em] at i
      rw [i, show ((0 : Nat) : Int) = 0 from rfl, show ∀ F : Int → Int, sm F 0 = 0 from fun _ => rfl, Int.add_zero] at z
      rw [L_X12_mistakes_4]
      simp (maxSteps := 2000000) (disch := first | assumption | omega) only [jI0, iAdd_j, iSub_j, iMul_j, iNeg_j, Option.bind_some, jlt_t, jlt_f, jlt, jle_t, jle_f, jle, jeq_t, jeq_f, jeq, ↓reduceIte, o100, l102, s1, z]
  have z := LL R.toNat N 0 (by omega) (by omega)
  rw [show msA S k x (rdO sg S d) (rdU sg S d) 0 = 0 from rfl, show ((0 : Nat) : Int) = 0 from rfl] at z
  unfold f_X12_mistakes
  exact z
end
