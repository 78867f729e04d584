/-! reads, nearest: what the component keeps -/
def rdK (S R : Int) (ow uw : Int → Int → Bool) (k : Int) (s : Rds) : Rds := if R % k = 0 then sgo S (rdgF S R k ow uw) ((rmS S (1, 1, 0, 0)).toNat + 1) (1, 1, 0, 0) s else s
def rdT (S R : Int) (ow uw : Int → Int → Bool) : Rds := rdK S R ow uw 4 (rdK S R ow uw 3 (rdK S R ow uw 2 (rdK S R ow uw 1 (2147483647, (0, (0, 0, 0, 0)), 0, 0))))
theorem rdgF_le {S R k : Int} {ow uw : Int → Int → Bool} {x : Stk} {s : Rds} : s.2.2.1 ≤ (rdgF S R k ow uw x s).2.2.1 ∧ (rdgF S R k ow uw x s).2.2.1 ≤ s.2.2.1 + 1 := by
  unfold rdgF
  dsimp only
  split <;> omega
def rdO (sg : Int → Int → Int) (S d r s : Int) : Bool := if d = 0 then sg r s == 111 else sg r (S - 1 - s) == 117
def rdU (sg : Int → Int → Int) (S d r s : Int) : Bool := if d = 0 then sg r s == 117 else sg r (S - 1 - s) == 111
/-- the PRINT's signs -/
def sgnP (A : Int → Int) (r s : Int) : Int := if (0 ≤ r ∧ r < 8) ∧ 0 ≤ s ∧ s < 32 then A (401 + 32 * r + s) else 63
theorem sgnP_at {A : Int → Int} {r s : Int} (h : (0 ≤ r ∧ r < 8) ∧ 0 ≤ s ∧ s < 32) : sgnP A r s = A (401 + 32 * r + s) := if_pos h
def K2w (A M : Int → Int) : Prop := RdR 0 M (rdT (A 0) (A 400) (rdO (sgnP A) (A 0) 0) (rdU (sgnP A) (A 0) 0)) ∧ RdR 8 M (rdT (A 0) (A 400) (rdO (sgnP A) (A 0) 1) (rdU (sgnP A) (A 0) 1))
theorem KC2w : KC2 K2w := by
  intro A A' M h0 h h1
  have e : sgnP A' = sgnP A := by
    funext r s
    unfold sgnP
    split
    · rw [h _ (by omega) (by omega)]
    · rfl
  unfold K2w at *
  rw [h0, h 400 (by omega) (by omega), e]
  exact h1
section
variable {K1 K2 : (Int → Int) → (Int → Int) → Prop} {q : Nat × Nat × (Nat → Nat)} {G : Nat → Int → Int} {N : Nat}
theorem oRdS (hN : 10000 ≤ N) {S R k b : Int} {ow uw : Int → Int → Bool} (hb : b = 0 ∨ b = 8) (hS : 3 ≤ S ∧ S ≤ 32) (hR : 1 ≤ R ∧ R ≤ 8) (hk : 1 ≤ k ∧ k ≤ 4) (hd : R % k = 0) : ∀ (d f : Nat) (t : Int) (x : Stk) (s : Rds) (G : Nat → Int → Int), rmS S x = d → d + 1 < f → 0 ≤ t → t + d ≤ 1023 → okS S x → RdC G S R ow uw → NowC G S R k x → RowC G S R k x → RdR b (G 32) s → s.2.2.1 ≤ 100000 - d → ∃ G' : Nat → Int → Int, (Rk1 b G G' ∧ RdR b (G' 32) (sgo S (rdgF S R k ow uw) (d + 1) x s) ∧ (sgo S (rdgF S R k ow uw) (d + 1) x s).2.2.1 ≤ s.2.2.1 + d + 1) ∧ L_X9_readWith_10 N f 25 (jI b) (jI 1) (jI t) (hp q G) = some (hp q G') := by
  intro d
  induction d with
  | zero =>
    intro f t x s G hrm hf t0 t1 hx h0 hw hr hm hs
    obtain ⟨f, rfl⟩ : ∃ y, f = y + 1 + 1 := ⟨f - 2, by omega⟩
    have en : nxS S x = none := by
      cases e : nxS S x with
      | none => rfl
      | some y =>
        have := rmS_n hS.1 hx e
        have := rmS_0 hS.1 (nxS_ok hS.1 hx e)
        omega
    obtain ⟨G', ⟨z1, z2, z3⟩, z4⟩ := oRd1 (q := q) hN hb hS hR hk hd (t := t) (by omega) hx h0 hw hr hm (by omega) (f + 1)
    rw [en, if_pos rfl] at z4
    have es : sgo S (rdgF S R k ow uw) (0 + 1) x s = rdgF S R k ow uw x s := by simp only [sgo, en]
    have le := rdgF_le (S := S) (R := R) (k := k) (ow := ow) (uw := uw) (x := x) (s := s)
    rw [es]
    refine ⟨G', ⟨z1, z2, by omega⟩, ?_⟩
    rw [z4, L_X9_readWith_10]
    by_cases c : t + 1 < 1024 <;> simp (maxSteps := 2000000) (disch := first | assumption | omega) only [jI0, iAdd_j, iSub_j, iMul_j, iNeg_j, Option.bind_some, jlt_t, jlt_f, jlt, jle_t, jle_f, jle, jeq_t, jeq_f, jeq, ↓reduceIte]
  | succ d ih =>
    intro f t x s G hrm hf t0 t1 hx h0 hw hr hm hs
    obtain ⟨f, rfl⟩ : ∃ y, f = y + 1 := ⟨f - 1, by omega⟩
    obtain ⟨y, en⟩ : ∃ y, nxS S x = some y := by
      cases e : nxS S x with
      | none => have := rmS_e hx e; omega
      | some y => exact ⟨y, rfl⟩
    have ry := rmS_n hS.1 hx en
    obtain ⟨G1, ⟨z1, z2, z3⟩, z4⟩ := oRd1 (q := q) hN hb hS hR hk hd (t := t) (by omega) hx h0 hw hr hm (by omega) f
    rw [en, if_neg (fun h => by cases h)] at z4
    have le := rdgF_le (S := S) (R := R) (k := k) (ow := ow) (uw := uw) (x := x) (s := s)
    obtain ⟨G2, ⟨u1', u2, u3⟩, u4⟩ := ih f (t + 1) y (rdgF S R k ow uw x s) G1 (by omega) (by omega) (by omega) (by omega) (nxS_ok hS.1 hx en) (h0.keep z1) (z3 y en).1 (z3 y en).2 z2 (by omega)
    have es : sgo S (rdgF S R k ow uw) (d + 1 + 1) x s = sgo S (rdgF S R k ow uw) (d + 1) y (rdgF S R k ow uw x s) := by
      rw [sgo, en]
    rw [es]
    refine ⟨G2, ⟨z1.trans u1', u2, by omega⟩, ?_⟩
    rw [z4]
    exact u4
theorem oRdN (hN : 10000 ≤ N) {S R k b : Int} {ow uw : Int → Int → Bool} {s : Rds} (hb : b = 0 ∨ b = 8) (hS : 3 ≤ S ∧ S ≤ 32) (hR : 1 ≤ R ∧ R ≤ 8) (hk : 1 ≤ k ∧ k ≤ 4) (h0 : RdC G S R ow uw) (hm : RdR b (G 32) s) (hs : s.2.2.1 ≤ 1024 * (k - 1)) (f : Nat) : ∃ G' : Nat → Int → Int, (Rk1 b G G' ∧ RdR b (G' 32) (rdK S R ow uw k s) ∧ (rdK S R ow uw k s).2.2.1 ≤ 1024 * k) ∧ L_X9_readSide_12 N (f + 1) 25 (jI b) (jI k) (hp q G) = L_X9_readSide_12 N f 25 (jI b) (jI (k + 1)) (hp q G') := by
  have m0 := Int.emod_nonneg R (show k ≠ 0 by omega)
  have m1 := Int.emod_lt_of_pos R (show 0 < k by omega)
  have zk : (jI k = jI 0) = False := jeq_f (by omega)
  have w2 := h0.1.2
  rw [L_X9_readSide_12]
  by_cases c : R % k = 0
  · obtain ⟨G1, ⟨b1, b2, b3⟩, b4⟩ := oBegin (q := q) hN hS hR hk h0.1.1 h0.1.2
    have f1 : Rk1 b G G1 := ⟨fun a h1 h2 h3 _ => b1 a h1 h2 h3, fun i _ => by rw [b1 32 (by decide) (by decide) (by decide)]⟩
    have r1 := rmS_1 hS
    have x0 : okS S (1, 1, 0, 0) := by unfold okS; simp only [xkA, xkB, xkF, xkL]; omega
    have r0 := rmS_0 hS.1 x0
    obtain ⟨G2, ⟨z1, z2, z3⟩, z4⟩ := oRdS (q := q) hN hb hS hR hk c (rmS S (1, 1, 0, 0)).toNat N 0 (1, 1, 0, 0) s G1 (by omega) (by omega) (by omega) (by omega) x0 (h0.keep f1) b2 b3 (by rw [b1 32 (by decide) (by decide) (by decide)]; exact hm) (by omega)
    have er : rdK S R ow uw k s = sgo S (rdgF S R k ow uw) ((rmS S (1, 1, 0, 0)).toNat + 1) (1, 1, 0, 0) s := if_pos c
    rw [er]
    refine ⟨G2, ⟨f1.trans z1, z2, by omega⟩, ?_⟩
    unfold f_X9_readWith
    simp (maxSteps := 2000000) (disch := first | assumption | omega) only [jI0, iAdd_j, iSub_j, iMul_j, iNeg_j, Option.bind_some, jlt_t, jlt_f, jlt, jle_t, jle_f, jle, jeq_t, jeq_f, jeq, ↓reduceIte, o25, w2, zk, iRem_p, c, b4, z4]
  · have er : rdK S R ow uw k s = s := if_neg c
    rw [er]
    refine ⟨G, ⟨Rk1.same b G, hm, by omega⟩, ?_⟩
    simp (maxSteps := 2000000) (disch := first | assumption | omega) only [jI0, iAdd_j, iSub_j, iMul_j, iNeg_j, Option.bind_some, jlt_t, jlt_f, jlt, jle_t, jle_f, jle, jeq_t, jeq_f, jeq, ↓reduceIte, o25, w2, zk, iRem_p, c]
theorem oRdA (hN : 10000 ≤ N) {S R b : Int} {ow uw : Int → Int → Bool} (hb : b = 0 ∨ b = 8) (hS : 3 ≤ S ∧ S ≤ 32) (hR : 1 ≤ R ∧ R ≤ 8) (h0 : RdC G S R ow uw) (g6 : G 32 (b + 6) = 0) (g7 : G 32 (b + 7) = 0) : ∃ G' : Nat → Int → Int, (Rk1 b G G' ∧ RdR b (G' 32) (rdT S R ow uw)) ∧ f_X9_readSide N 25 (jI b) (hp q G) = some (hp q G') := by
  obtain ⟨n, hn⟩ : ∃ n, N = n + 1 + 1 + 1 + 1 + 1 := ⟨N - 5, by omega⟩
  have k0 : Rk1 b G (up G 32 (b + 5) 2147483647) := ⟨fun a _ _ _ h => up_ne h, fun i hi => by rw [up_eq, u1_ne (by omega)]⟩
  have m0 : RdR b (up G 32 (b + 5) 2147483647 32) (2147483647, (0, (0, 0, 0, 0)), 0, 0) := by
    rw [up_eq]
    exact ⟨⟨u1_eq, by rw [u1_ne (by omega)]; exact g6, by rw [u1_ne (by omega)]; exact g7⟩, by dsimp only; omega, by dsimp only; omega, fun h => absurd rfl h⟩
  obtain ⟨G1, ⟨a1, a2, a3⟩, a4⟩ := oRdN (q := q) hN hb hS hR (k := 1) (by omega) (h0.keep k0) m0 (by dsimp only; omega) (n + 1 + 1 + 1 + 1)
  obtain ⟨G2, ⟨b1, b2, b3⟩, b4⟩ := oRdN (q := q) hN hb hS hR (k := 2) (by omega) ((h0.keep k0).keep a1) a2 (by omega) (n + 1 + 1 + 1)
  obtain ⟨G3, ⟨c1, c2, c3⟩, c4⟩ := oRdN (q := q) hN hb hS hR (k := 3) (by omega) (((h0.keep k0).keep a1).keep b1) b2 (by omega) (n + 1 + 1)
  obtain ⟨G4, ⟨d1, d2, d3⟩, d4⟩ := oRdN (q := q) hN hb hS hR (k := 4) (by omega) ((((h0.keep k0).keep a1).keep b1).keep c1) c2 (by omega) (n + 1)
  refine ⟨G4, ⟨(((k0.trans a1).trans b1).trans c1).trans d1, d2⟩, ?_⟩
  have eN : L_X9_readSide_12 N N = L_X9_readSide_12 N (n + 1 + 1 + 1 + 1 + 1) := congrArg _ hn
  have z : L_X9_readSide_12 N N 25 (jI b) (jI 1) (hp q (up G 32 (b + 5) 2147483647)) = some (hp q G4) := by
    rw [eN, a4]
    rw [show (1 : Int) + 1 = 2 from rfl, b4, show (2 : Int) + 1 = 3 from rfl, c4, show (3 : Int) + 1 = 4 from rfl, d4, show (4 : Int) + 1 = 5 from rfl, L_X9_readSide_12]
    simp (maxSteps := 2000000) (disch := first | assumption | omega) only [jI0, iAdd_j, iSub_j, iMul_j, iNeg_j, Option.bind_some, jlt_t, jlt_f, jlt, jle_t, jle_f, jle, jeq_t, jeq_f, jeq, ↓reduceIte]
  unfold f_X9_readSide
  simp (maxSteps := 2000000) (disch := first | assumption | omega) only [jI0, iAdd_j, iSub_j, iMul_j, iNeg_j, Option.bind_some, jlt_t, jlt_f, jlt, jle_t, jle_f, jle, jeq_t, jeq_f, jeq, ↓reduceIte, o25, s32, z]
theorem oRdL (hN : 10000 ≤ N) {S R d : Int} {sg : Int → Int → Int} (hdd : d = 0 ∨ d = 1) (hS : 3 ≤ S ∧ S ≤ 32) (hR : 1 ≤ R ∧ R ≤ 8) (g1 : G 25 10 = R) (ho : ∀ r, 0 ≤ r → r < R → ∀ i : Nat, ib (jI (G 22 r)) i = (decide ((i : Int) < S) && sg r i == 111)) (hu : ∀ r, 0 ≤ r → r < R → ∀ i : Nat, ib (jI (G 23 r)) i = (decide ((i : Int) < S) && sg r i == 117)) (k36 : Nat → Nat → Int32 → Int32 → mH → Option mH) : ∃ G' : Nat → Int → Int, ((∀ a, a ≠ 28 → a ≠ 29 → G' a = G a) ∧ WtC G' S R (rdO sg S d) (rdU sg S d)) ∧ L_X9_readKnown_44 N k36 N 25 21 (jI S) (jI d) (jI 0) (hp q G) = (f_X9_readSide N 25 (jI (d * 8)) (hp q G')).bind fun h8 => k36 25 21 (jI S) (jI (d + 1)) h8 := by
  refine loopG (N := N) (fun f (t : Int × (Nat → Int → Int)) => L_X9_readKnown_44 N k36 f 25 21 (jI S) (jI d) (jI t.1) (hp q t.2)) (fun n t => t.1 = n ∧ (∀ a, a ≠ 28 → a ≠ 29 → t.2 a = G a) ∧ WtC t.2 S (n : Int) (rdO sg S d) (rdU sg S d)) R.toNat (R := fun G' => (f_X9_readSide N 25 (jI (d * 8)) (hp q G')).bind fun h8 => k36 25 21 (jI S) (jI (d + 1)) h8) (by omega) (s := (0, G)) ⟨rfl, fun _ _ _ => rfl, fun r r0 r1 => by omega⟩ ?_ ?_
  · rintro f n ⟨i, G1⟩ hn ⟨rfl, t1, t2⟩
    dsimp only at t1 t2
    have e25 : G1 25 10 = R := by rw [t1 25 (by decide) (by decide)]; exact g1
    have e22 : G1 22 = G 22 := t1 22 (by decide) (by decide)
    have e23 : G1 23 = G 23 := t1 23 (by decide) (by decide)
    have Z : ∀ y z : Int32, (∀ i : Nat, ib y i = (decide ((i : Int) < S) && rdO sg S d n i)) → (∀ i : Nat, ib z i = (decide ((i : Int) < S) && rdU sg S d n i)) → L_X9_readKnown_44 N k36 (f + 1) 25 21 (jI S) (jI d) (jI (n : Int)) (hp q G1) = L_X9_readKnown_44 N k36 f 25 21 (jI S) (jI d) (jI ((n + 1 : Nat) : Int)) (hp q (up (up G1 28 n y.toInt) 29 n z.toInt)) → ∃ s' : Int × (Nat → Int → Int), (s'.1 = ((n + 1 : Nat) : Int) ∧ (∀ a, a ≠ 28 → a ≠ 29 → s'.2 a = G a) ∧ WtC s'.2 S ((n + 1 : Nat) : Int) (rdO sg S d) (rdU sg S d)) ∧ L_X9_readKnown_44 N k36 (f + 1) 25 21 (jI S) (jI d) (jI (n : Int)) (hp q G1) = L_X9_readKnown_44 N k36 f 25 21 (jI S) (jI d) (jI s'.1) (hp q s'.2) := by
      intro y z hy hz h
      refine ⟨(((n + 1 : Nat) : Int), up (up G1 28 n y.toInt) 29 n z.toInt), ⟨rfl, fun a h1 h2 => ?_, fun r r0 r1 => ?_⟩, h⟩
      · show up (up G1 28 n y.toInt) 29 n z.toInt a = G a
        rw [up_ne h2, up_ne h1]
        exact t1 a h1 h2
      · show (∀ i : Nat, ib (jI (up (up G1 28 n y.toInt) 29 n z.toInt 28 r)) i = (decide ((i : Int) < S) && rdO sg S d r i)) ∧ ∀ i : Nat, ib (jI (up (up G1 28 n y.toInt) 29 n z.toInt 29 r)) i = (decide ((i : Int) < S) && rdU sg S d r i)
        rw [up_ne (show (28 : Nat) ≠ 29 by decide), up_eq, up_eq, up_ne (show (29 : Nat) ≠ 28 by decide)]
        by_cases c : r = n
        · subst c
          rw [u1_eq, u1_eq, ← jI_of, ← jI_of]
          exact ⟨hy, hz⟩
        · rw [u1_ne c, u1_ne c]
          exact t2 r r0 (by omega)
    have s28' : ∀ (H : Nat → Int → Int) (z : Int32), stI 0 (hp q H) 28 (jI (n : Int)) z = some (hp q (up H 28 n z.toInt)) := fun H z => by
      rw [jI_of z, s28 _ _ _ (by omega) (by omega), ← jI_of z]
    have s29' : ∀ (H : Nat → Int → Int) (z : Int32), stI 0 (hp q H) 29 (jI (n : Int)) z = some (hp q (up H 29 n z.toInt)) := fun H z => by
      rw [jI_of z, s29 _ _ _ (by omega) (by omega), ← jI_of z]
    have l22' : ldI 0 (hp q G1) 22 (jI (n : Int)) = some (jI (G 22 n)) := by rw [l22 _ _ (by omega) (by omega), e22]
    have l23' : ldI 0 (hp q G1) 23 (jI (n : Int)) = some (jI (G 23 n)) := by rw [l23 _ _ (by omega) (by omega), e23]
    have hn1 : ((n + 1 : Nat) : Int) = (n : Int) + 1 := by omega
    rcases hdd with rfl | rfl
    · refine Z (jI (G 22 n)) (jI (G 23 n)) (fun i => ?_) (fun i => ?_) ?_
      · rw [ho n (by omega) (by omega)]; rfl
      · rw [hu n (by omega) (by omega)]; rfl
      · rw [L_X9_readKnown_44, hn1]
        unfold J_X9_readKnown_99
        simp (maxSteps := 2000000) (disch := first | assumption | omega) only [jI0, iAdd_j, iSub_j, iMul_j, iNeg_j, Option.bind_some, jlt_t, jlt_f, jlt, jle_t, jle_f, jle, jeq_t, jeq_f, jeq, ↓reduceIte, o25, e25, o21, l22', l23', s28', s29']
    · obtain ⟨y, y1, y2⟩ := X11_mirrored (N := N) hN (h := hp q G1) (x := jI (G 23 n)) (n := S) (by omega) (by omega)
      obtain ⟨z, z1, z2⟩ := X11_mirrored (N := N) hN (h := hp q (up G1 28 n y.toInt)) (x := jI (G 22 n)) (n := S) (by omega) (by omega)
      have mi : ∀ i : Nat, (i : Int) < S → ((S - 1 - (i : Int)).toNat : Int) = S - 1 - i := fun i hi => by omega
      refine Z y z (fun i => ?_) (fun i => ?_) ?_
      · rw [y2 i, hu n (by omega) (by omega)]
        by_cases c : (i : Int) < S
        · rw [mi i c]
          have c2 : S - 1 - (i : Int) < S := by omega
          rw [decide_eq_true c, decide_eq_true c2]; rfl
        · rw [decide_eq_false c]; rfl
      · rw [z2 i, ho n (by omega) (by omega)]
        by_cases c : (i : Int) < S
        · rw [mi i c]
          have c2 : S - 1 - (i : Int) < S := by omega
          rw [decide_eq_true c, decide_eq_true c2]; rfl
        · rw [decide_eq_false c]; rfl
      · rw [L_X9_readKnown_44, hn1]
        unfold J_X9_readKnown_99
        simp (maxSteps := 2000000) (disch := first | assumption | omega) only [jI0, iAdd_j, iSub_j, iMul_j, iNeg_j, Option.bind_some, jlt_t, jlt_f, jlt, jle_t, jle_f, jle, jeq_t, jeq_f, jeq, ↓reduceIte, o25, e25, o21, l22', l23', y1, s28', z1, s29']
  · rintro f ⟨i, G1⟩ ⟨rfl, t1, t2⟩
    dsimp only at t1 t2
    have e25 : G1 25 10 = R := by rw [t1 25 (by decide) (by decide)]; exact g1
    have eR : ((R.toNat : Nat) : Int) = R := by omega
    refine ⟨G1, ⟨t1, by rw [eR] at t2; exact t2⟩, ?_⟩
    show L_X9_readKnown_44 N k36 (f + 1) 25 21 (jI S) (jI d) (jI ((R.toNat : Nat) : Int)) (hp q G1) = _
    rw [L_X9_readKnown_44, eR]
    simp (maxSteps := 2000000) (disch := first | assumption | omega) only [jI0, iAdd_j, iSub_j, iMul_j, iNeg_j, Option.bind_some, jlt_t, jlt_f, jlt, jle_t, jle_f, jle, jeq_t, jeq_f, jeq, ↓reduceIte, o25, e25]
end
