/-! call: reach -/
section
variable {K1 K2 : (Int → Int) → (Int → Int) → Prop} {q : Nat × Nat × (Nat → Nat)} {G : Nat → Int → Int} {N : Nat}
def rtn (v : Int → Int) (n : Nat) (ov t : Int) (k : Nat) : Int := if rtB v n ov t k = 0 then 0 else rtN n (rtB v n ov t k)
def rto (v : Int → Int) (n : Nat) (ov t : Int) (k : Nat) : Int := if rtB v n ov t k = 0 then 0 else rtO v n ov t (rtB v n ov t k)
theorem rt_next (v : Int → Int) (n : Nat) (ov t : Int) (k : Nat) : ((0 ≤ rtO v n ov t (k + 1) ∧ (rtB v n ov t k = 0 ∨ rtN n (k + 1) < rtn v n ov t k ∨ (rtN n (k + 1) = rtn v n ov t k ∧ rtO v n ov t (k + 1) < rto v n ov t k))) → rtB v n ov t (k + 1) = k + 1 ∧ rtn v n ov t (k + 1) = rtN n (k + 1) ∧ rto v n ov t (k + 1) = rtO v n ov t (k + 1)) ∧ (¬ (0 ≤ rtO v n ov t (k + 1) ∧ (rtB v n ov t k = 0 ∨ rtN n (k + 1) < rtn v n ov t k ∨ (rtN n (k + 1) = rtn v n ov t k ∧ rtO v n ov t (k + 1) < rto v n ov t k))) → rtB v n ov t (k + 1) = rtB v n ov t k ∧ rtn v n ov t (k + 1) = rtn v n ov t k ∧ rto v n ov t (k + 1) = rto v n ov t k) := by
  have a : ∀ c, rtB v n ov t (k + 1) = c → rtn v n ov t (k + 1) = (if c = 0 then 0 else rtN n c) ∧ rto v n ov t (k + 1) = (if c = 0 then 0 else rtO v n ov t c) := by
    rintro c rfl
    exact ⟨rfl, rfl⟩
  constructor
  · intro h
    have e : rtB v n ov t (k + 1) = k + 1 := by
      rw [rtB]
      refine if_pos ⟨h.1, ?_⟩
      by_cases c : rtB v n ov t k = 0
      · exact .inl c
      · have h2 := h.2
        unfold rtn rto at h2
        rw [if_neg c, if_neg c] at h2
        exact h2
    have := a _ e
    rw [if_neg (by omega), if_neg (by omega)] at this
    exact ⟨e, this⟩
  · intro h
    have e : rtB v n ov t (k + 1) = rtB v n ov t k := by
      rw [rtB]
      refine if_neg (fun x => h ⟨x.1, ?_⟩)
      by_cases c : rtB v n ov t k = 0
      · exact .inl c
      · have h2 := x.2
        unfold rtn rto
        rw [if_neg c, if_neg c]
        exact h2
    exact ⟨e, a _ e⟩
theorem rtn_r {v : Int → Int} {n : Nat} {ov t : Int} (hn : n ≤ 9) (hv : ∀ k : Nat, k < n → 1 ≤ v k ∧ v k ≤ 999) (ho : 0 ≤ ov ∧ ov ≤ 20) (ht : 1 ≤ t ∧ t ≤ 9999) (k : Nat) : 0 ≤ rtn v n ov t k ∧ rtn v n ov t k ≤ 9 ∧ -20000 ≤ rto v n ov t k ∧ rto v n ov t k ≤ 20000 := by
  have r := rt_r hn hv ho ht (rtB v n ov t k)
  unfold rtn rto
  split <;> omega
theorem oReach (hN : 10000 ≤ N) (hB : BB G) {r : Nat} (hr : r < 4) (p : RP G r) {n : Nat} {t : Int} (hn : G (37 + 2 * r) 0 = n) (n9 : n ≤ 9) (hv : ∀ k : Nat, k < n → 1 ≤ G (38 + 2 * r) k ∧ G (38 + 2 * r) k ≤ 999) (ht : 1 ≤ t ∧ t ≤ 9999) : f_X11_fewestThatReach N 0 (37 + 2 * r) (jI t) (hp q G) = some (jI (rtB (G (38 + 2 * r)) n (G 102 140) t (2 ^ n - 1) : Nat), hp q G) := by
  have g := hB.1.1
  have n2 : 2 ^ n ≤ 2 ^ 9 := Nat.pow_le_pow_right (by omega) n9
  have n3 : 0 < 2 ^ n := Nat.two_pow_pos n
  have hov : 0 ≤ G 102 140 ∧ G 102 140 ≤ 20 := by omega
  unfold f_X11_fewestThatReach
  refine (loopE (N := N) (fun m (k : Nat) => L_X11_fewestThatReach_11 N m 0 (37 + 2 * r) (jI t) (jI (rtB (G (38 + 2 * r)) n (G 102 140) t k : Nat)) (jI (rtn (G (38 + 2 * r)) n (G 102 140) t k)) (jI (rto (G (38 + 2 * r)) n (G 102 140) t k)) (jI ((k + 1 : Nat) : Int)) (hp q G)) (fun k => k) (2 ^ n - 1) (r := some (jI (rtB (G (38 + 2 * r)) n (G 102 140) t (2 ^ n - 1) : Nat), hp q G)) (by omega) ?_ ?_) |> Eq.trans ?_
  · rfl
  · intro m k hk
    show L_X11_fewestThatReach_11 N (m + 1) 0 (37 + 2 * r) (jI t) (jI (rtB (G (38 + 2 * r)) n (G 102 140) t k : Nat)) (jI (rtn (G (38 + 2 * r)) n (G 102 140) t k)) (jI (rto (G (38 + 2 * r)) n (G 102 140) t k)) (jI ((k + 1 : Nat) : Int)) (hp q G) = L_X11_fewestThatReach_11 N m 0 (37 + 2 * r) (jI t) (jI (rtB (G (38 + 2 * r)) n (G 102 140) t (k + 1) : Nat)) (jI (rtn (G (38 + 2 * r)) n (G 102 140) t (k + 1))) (jI (rto (G (38 + 2 * r)) n (G 102 140) t (k + 1))) (jI ((k + 1 + 1 : Nat) : Int)) (hp q G)
    have c1 := oCov (q := q) hN hB hr p hn n9 (s := k + 1) (by omega)
    have c2 := pcB (n := n) (s := k + 1) (by omega) (by omega)
    have rr := rt_r n9 hv hov ht (k + 1)
    have rn := rtn_r n9 hv hov ht k
    have nx := rt_next (G (38 + 2 * r)) n (G 102 140) t k
    have bl := rtB_le (G (38 + 2 * r)) n (G 102 140) t k
    have g37 := ro (q := q) (G := G) hr
    have eo : rtS (G (38 + 2 * r)) n (k + 1) - (rtN n (k + 1) - 1) * G 102 140 - t = rtO (G (38 + 2 * r)) n (G 102 140) t (k + 1) := rfl
    have ib0 : (jI (rtB (G (38 + 2 * r)) n (G 102 140) t k : Nat) = jI 0) = (rtB (G (38 + 2 * r)) n (G 102 140) t k = 0) := by
      rw [jeq (by omega)]; exact propext (by omega)
    rw [L_X11_fewestThatReach_11, g37.2.1, hn]
    generalize rtB (G (38 + 2 * r)) n (G 102 140) t k = B at *
    generalize rtn (G (38 + 2 * r)) n (G 102 140) t k = Bn at *
    generalize rto (G (38 + 2 * r)) n (G 102 140) t k = Bo at *
    generalize rtO (G (38 + 2 * r)) n (G 102 140) t (k + 1) = O at *
    generalize rtN n (k + 1) = Nn at *
    simp only [Option.bind_some, shl1 (show n < 32 by omega), jlt_t (show -2147483648 ≤ ((k + 1 : Nat) : Int) ∧ ((k + 1 : Nat) : Int) < ((2 ^ n : Nat) : Int) ∧ ((2 ^ n : Nat) : Int) < 2147483648 by omega), ↓reduceIte, (o0 q G).1, c1, bitCount, c2, iSub_j, eo, jI0, ib0]
    unfold J_X11_fewestThatReach_70
    by_cases d0 : 0 ≤ O
    · by_cases d1 : B = 0
      · obtain ⟨e1, e2, e3⟩ := nx.1 ⟨d0, .inl d1⟩
        rw [e1, e2, e3]
        simp (maxSteps := 2000000) (disch := first | assumption | omega) only [jI0, iAdd_j, iSub_j, iMul_j, iNeg_j, Option.bind_some, jlt_t, jlt_f, jlt, jle_t, jle_f, jle, jeq_t, jeq_f, jeq, ↓reduceIte, d1]
        rfl
      · by_cases d2 : Nn < Bn
        · obtain ⟨e1, e2, e3⟩ := nx.1 ⟨d0, .inr (.inl d2)⟩
          rw [e1, e2, e3]
          simp (maxSteps := 2000000) (disch := first | assumption | omega) only [jI0, iAdd_j, iSub_j, iMul_j, iNeg_j, Option.bind_some, jlt_t, jlt_f, jlt, jle_t, jle_f, jle, jeq_t, jeq_f, jeq, ↓reduceIte, d1]
          rfl
        · by_cases d3 : Nn = Bn
          · by_cases d4 : O < Bo
            · obtain ⟨e1, e2, e3⟩ := nx.1 ⟨d0, .inr (.inr ⟨d3, d4⟩)⟩
              rw [e1, e2, e3]
              simp (maxSteps := 2000000) (disch := first | assumption | omega) only [jI0, iAdd_j, iSub_j, iMul_j, iNeg_j, Option.bind_some, jlt_t, jlt_f, jlt, jle_t, jle_f, jle, jeq_t, jeq_f, jeq, ↓reduceIte, d1]
              rfl
            · obtain ⟨e1, e2, e3⟩ := nx.2 (by omega)
              rw [e1, e2, e3]
              simp (maxSteps := 2000000) (disch := first | assumption | omega) only [jI0, iAdd_j, iSub_j, iMul_j, iNeg_j, Option.bind_some, jlt_t, jlt_f, jlt, jle_t, jle_f, jle, jeq_t, jeq_f, jeq, ↓reduceIte, d1]
              rfl
          · obtain ⟨e1, e2, e3⟩ := nx.2 (by omega)
            rw [e1, e2, e3]
            simp (maxSteps := 2000000) (disch := first | assumption | omega) only [jI0, iAdd_j, iSub_j, iMul_j, iNeg_j, Option.bind_some, jlt_t, jlt_f, jlt, jle_t, jle_f, jle, jeq_t, jeq_f, jeq, ↓reduceIte, d1]
            rfl
    · obtain ⟨e1, e2, e3⟩ := nx.2 (by omega)
      rw [e1, e2, e3]
      by_cases d1 : B = 0
      · simp (maxSteps := 2000000) (disch := first | assumption | omega) only [jI0, iAdd_j, iSub_j, iMul_j, iNeg_j, Option.bind_some, jlt_t, jlt_f, jlt, jle_t, jle_f, jle, jeq_t, jeq_f, jeq, ↓reduceIte, d1]
        rfl
      · by_cases d2 : Nn < Bn
        · simp (maxSteps := 2000000) (disch := first | assumption | omega) only [jI0, iAdd_j, iSub_j, iMul_j, iNeg_j, Option.bind_some, jlt_t, jlt_f, jlt, jle_t, jle_f, jle, jeq_t, jeq_f, jeq, ↓reduceIte, d1]
          rfl
        · by_cases d3 : Nn = Bn
          · by_cases d4 : O < Bo <;> simp (maxSteps := 2000000) (disch := first | assumption | omega) only [jI0, iAdd_j, iSub_j, iMul_j, iNeg_j, Option.bind_some, jlt_t, jlt_f, jlt, jle_t, jle_f, jle, jeq_t, jeq_f, jeq, ↓reduceIte, d1] <;> rfl
          · simp (maxSteps := 2000000) (disch := first | assumption | omega) only [jI0, iAdd_j, iSub_j, iMul_j, iNeg_j, Option.bind_some, jlt_t, jlt_f, jlt, jle_t, jle_f, jle, jeq_t, jeq_f, jeq, ↓reduceIte, d1]
            rfl
  · intro m
    show L_X11_fewestThatReach_11 N (m + 1) 0 (37 + 2 * r) (jI t) (jI (rtB (G (38 + 2 * r)) n (G 102 140) t (2 ^ n - 1) : Nat)) (jI _) (jI _) (jI ((2 ^ n - 1 + 1 : Nat) : Int)) (hp q G) = _
    have g37 := ro (q := q) (G := G) hr
    rw [L_X11_fewestThatReach_11, g37.2.1, hn]
    simp only [Option.bind_some, shl1 (show n < 32 by omega), jlt_f (show -2147483648 ≤ ((2 ^ n : Nat) : Int) ∧ ((2 ^ n : Nat) : Int) ≤ ((2 ^ n - 1 + 1 : Nat) : Int) ∧ ((2 ^ n - 1 + 1 : Nat) : Int) < 2147483648 by omega), ↓reduceIte]
theorem mCov {r : Nat} (hr : r < 4) (p : RP G r) {n s : Nat} (hn : G (37 + 2 * r) 0 = n) (n9 : n ≤ 9) (K : Nat → Int32 → Int32 → Int32 → Int32 → Int32 → Int32 → Int32 → mH → Option (Int32 × mH)) {x2 x3 x4 x5 x6 : Int32} (m : Nat) : L_X12_reach_135 N K (m + n) 100 (jI r) x2 x3 x4 x5 x6 (jI s) (jI 0) (jI 0) (jI 0) (hp q G) = L_X12_reach_135 N K m 100 (jI r) x2 x3 x4 x5 x6 (jI s) (jI (rtN n s)) (jI (rtS (G (38 + 2 * r)) n s)) (jI n) (hp q G) := by
  obtain ⟨p0, p1, p2, p3, p4, p5, p6⟩ := p
  refine loop (fun m (k : Nat) => L_X12_reach_135 N K m 100 (jI r) x2 x3 x4 x5 x6 (jI s) (jI (rtN k s)) (jI (rtS (G (38 + 2 * r)) k s)) (jI k) (hp q G)) (fun k => k) n ?_ n 0 m (by omega)
  intro m k hk
  show L_X12_reach_135 N K (m + 1) 100 (jI r) x2 x3 x4 x5 x6 (jI s) (jI (rtN k s)) (jI (rtS (G (38 + 2 * r)) k s)) (jI k) (hp q G) = L_X12_reach_135 N K m 100 (jI r) x2 x3 x4 x5 x6 (jI s) (jI (rtN (k + 1) s)) (jI (rtS (G (38 + 2 * r)) (k + 1) s)) (jI ((k + 1 : Nat) : Int)) (hp q G)
  have e : rtS (G (38 + 2 * r)) (k + 1) s = rtS (G (38 + 2 * r)) k s + if s.testBit ((k : Int)).toNat = true then G (38 + 2 * r) k else 0 := rfl
  have e1 : rtN (k + 1) s = rtN k s + if s.testBit ((k : Int)).toNat = true then 1 else 0 := rfl
  have u := shrAt (s := s) (k := (k : Int)) (by omega) (by omega)
  have v := (p6 k (by omega) (by omega)).1
  rw [L_X12_reach_135, e, e1]
  by_cases c : s.testBit ((k : Int)).toNat = true
  · rw [if_pos c, if_pos c]
    rw [bI_t c] at u
    simp (maxSteps := 2000000) (disch := first | assumption | omega) only [jI0, iAdd_j, iSub_j, iMul_j, iNeg_j, Option.bind_some, jlt_t, jlt_f, jlt, jle_t, jle_f, jle, jeq_t, jeq_f, jeq, ↓reduceIte, o100, l118, l119, u, v, p2, hn, jLI, Int.natCast_succ]
  · rw [if_neg c, if_neg c]
    rw [bI_f c] at u
    simp (maxSteps := 2000000) (disch := first | assumption | omega) only [jI0, iAdd_j, iSub_j, iMul_j, iNeg_j, Option.bind_some, jlt_t, jlt_f, jlt, jle_t, jle_f, jle, jeq_t, jeq_f, jeq, ↓reduceIte, o100, l118, u, p2, hn, Int.natCast_succ, Int.add_zero]
def rtb (v : Int → Int) (n : Nat) (ov t : Int) (k : Nat) : Int := if rtB v n ov t k = 0 then -1 else rtB v n ov t k
theorem mReach (hN : 10000 ≤ N) (hV : BV (G 102)) {r : Nat} (hr : r < 4) (p : RP G r) {n : Nat} {t w : Int} (hn : G (37 + 2 * r) 0 = n) (n9 : n ≤ 9) (hv : ∀ k : Nat, k < n → 1 ≤ G (38 + 2 * r) k ∧ G (38 + 2 * r) k ≤ 999) (ht : 1 ≤ t ∧ t ≤ 9999) (hw : 0 ≤ w ∧ w ≤ 2) : L_X12_reach_113 N N 100 (jI r) (jI t) (jI w) (jI (-1)) (jI 0) (jI 0) (jI 1) (hp q G) = some (jI (if rtB (G (38 + 2 * r)) n (G 102 140) t (2 ^ n - 1) = 0 then -1 else if w = 0 then rtN n (rtB (G (38 + 2 * r)) n (G 102 140) t (2 ^ n - 1)) else if w = 1 then rtO (G (38 + 2 * r)) n (G 102 140) t (rtB (G (38 + 2 * r)) n (G 102 140) t (2 ^ n - 1)) else rtB (G (38 + 2 * r)) n (G 102 140) t (2 ^ n - 1)), hp q G) := by
  have g := hV.1
  have n2 : 2 ^ n ≤ 2 ^ 9 := Nat.pow_le_pow_right (by omega) n9
  have n3 : 0 < 2 ^ n := Nat.two_pow_pos n
  have hov : 0 ≤ G 102 140 ∧ G 102 140 ≤ 20 := by omega
  have p2 := p.2.2.1
  refine (loopE (N := N) (fun m (k : Nat) => L_X12_reach_113 N m 100 (jI r) (jI t) (jI w) (jI (rtb (G (38 + 2 * r)) n (G 102 140) t k)) (jI (rtn (G (38 + 2 * r)) n (G 102 140) t k)) (jI (rto (G (38 + 2 * r)) n (G 102 140) t k)) (jI ((k + 1 : Nat) : Int)) (hp q G)) (fun k => k) (2 ^ n - 1) (r := some (jI (if rtB (G (38 + 2 * r)) n (G 102 140) t (2 ^ n - 1) = 0 then -1 else if w = 0 then rtN n (rtB (G (38 + 2 * r)) n (G 102 140) t (2 ^ n - 1)) else if w = 1 then rtO (G (38 + 2 * r)) n (G 102 140) t (rtB (G (38 + 2 * r)) n (G 102 140) t (2 ^ n - 1)) else rtB (G (38 + 2 * r)) n (G 102 140) t (2 ^ n - 1)), hp q G)) (by omega) ?_ ?_) |> Eq.trans ?_
  · rfl
  · intro m k hk
    show L_X12_reach_113 N (m + 1) 100 (jI r) (jI t) (jI w) (jI (rtb (G (38 + 2 * r)) n (G 102 140) t k)) (jI (rtn (G (38 + 2 * r)) n (G 102 140) t k)) (jI (rto (G (38 + 2 * r)) n (G 102 140) t k)) (jI ((k + 1 : Nat) : Int)) (hp q G) = L_X12_reach_113 N m 100 (jI r) (jI t) (jI w) (jI (rtb (G (38 + 2 * r)) n (G 102 140) t (k + 1))) (jI (rtn (G (38 + 2 * r)) n (G 102 140) t (k + 1))) (jI (rto (G (38 + 2 * r)) n (G 102 140) t (k + 1))) (jI ((k + 1 + 1 : Nat) : Int)) (hp q G)
    have rr := rt_r n9 hv hov ht (k + 1)
    have rn := rtn_r n9 hv hov ht k
    have nx := rt_next (G (38 + 2 * r)) n (G 102 140) t k
    have bl := rtB_le (G (38 + 2 * r)) n (G 102 140) t k
    have eo : rtS (G (38 + 2 * r)) n (k + 1) - (rtN n (k + 1) - 1) * G 102 140 - t = rtO (G (38 + 2 * r)) n (G 102 140) t (k + 1) := rfl
    obtain ⟨M, hM⟩ : ∃ M, N = (M + 1) + n := ⟨N - 1 - n, by omega⟩
    have mc := mCov (N := N) (q := q) hr p (s := k + 1) hn n9 (L_X12_reach_113 N m) (x2 := jI t) (x3 := jI w) (x4 := jI (rtb (G (38 + 2 * r)) n (G 102 140) t k)) (x5 := jI (rtn (G (38 + 2 * r)) n (G 102 140) t k)) (x6 := jI (rto (G (38 + 2 * r)) n (G 102 140) t k)) (M + 1)
    have eN : L_X12_reach_135 N (L_X12_reach_113 N m) N = L_X12_reach_135 N (L_X12_reach_113 N m) ((M + 1) + n) := congrArg _ hM
    have l8 := (l118 q G (i := (r : Int)) (by omega) (by omega))
    rw [p2, hn] at l8
    rw [L_X12_reach_113, eN]
    simp only [Option.bind_some, (o100 q G).2, l8, shl1 (show n < 32 by omega), jlt_t (show -2147483648 ≤ ((k + 1 : Nat) : Int) ∧ ((k + 1 : Nat) : Int) < ((2 ^ n : Nat) : Int) ∧ ((2 ^ n : Nat) : Int) < 2147483648 by omega), ↓reduceIte]
    rw [mc, L_X12_reach_135]
    have eb : ∀ c, rtB (G (38 + 2 * r)) n (G 102 140) t (k + 1) = c → rtb (G (38 + 2 * r)) n (G 102 140) t (k + 1) = (if c = 0 then (-1 : Int) else (c : Int)) := by rintro c rfl; rfl
    have eb0 : rtb (G (38 + 2 * r)) n (G 102 140) t k = (if rtB (G (38 + 2 * r)) n (G 102 140) t k = 0 then (-1 : Int) else ((rtB (G (38 + 2 * r)) n (G 102 140) t k : Nat) : Int)) := rfl
    have l9 := l102 q G (i := 140) (by decide) (by decide)
    simp only [Option.bind_some, (o100 q G).2, l8, jlt_f (show -2147483648 ≤ ((n : Nat) : Int) ∧ ((n : Nat) : Int) ≤ ((n : Nat) : Int) ∧ ((n : Nat) : Int) < 2147483648 by omega), ↓reduceIte, l9, iSub_j, iMul_j, eo, jI0]
    generalize rtB (G (38 + 2 * r)) n (G 102 140) t k = B at *
    generalize rtn (G (38 + 2 * r)) n (G 102 140) t k = Bn at *
    generalize rto (G (38 + 2 * r)) n (G 102 140) t k = Bo at *
    generalize rtO (G (38 + 2 * r)) n (G 102 140) t (k + 1) = O at *
    generalize rtN n (k + 1) = Nn at *
    rw [eb0]
    by_cases d0 : 0 ≤ O
    · by_cases d1 : B = 0
      · obtain ⟨e1, e2, e3⟩ := nx.1 ⟨d0, .inl d1⟩
        rw [eb _ e1, e2, e3, if_pos d1, if_neg (show ¬ k + 1 = 0 by omega)]
        simp (maxSteps := 2000000) (disch := first | assumption | omega) only [jI0, iAdd_j, iSub_j, iMul_j, iNeg_j, Option.bind_some, jlt_t, jlt_f, jlt, jle_t, jle_f, jle, jeq_t, jeq_f, jeq, ↓reduceIte]
        rfl
      · rw [if_neg d1]
        by_cases d2 : Nn < Bn
        · obtain ⟨e1, e2, e3⟩ := nx.1 ⟨d0, .inr (.inl d2)⟩
          rw [eb _ e1, e2, e3, if_neg (show ¬ k + 1 = 0 by omega)]
          simp (maxSteps := 2000000) (disch := first | assumption | omega) only [jI0, iAdd_j, iSub_j, iMul_j, iNeg_j, Option.bind_some, jlt_t, jlt_f, jlt, jle_t, jle_f, jle, jeq_t, jeq_f, jeq, ↓reduceIte]
          rfl
        · by_cases d3 : Nn = Bn
          · by_cases d4 : O < Bo
            · obtain ⟨e1, e2, e3⟩ := nx.1 ⟨d0, .inr (.inr ⟨d3, d4⟩)⟩
              rw [eb _ e1, e2, e3, if_neg (show ¬ k + 1 = 0 by omega)]
              simp (maxSteps := 2000000) (disch := first | assumption | omega) only [jI0, iAdd_j, iSub_j, iMul_j, iNeg_j, Option.bind_some, jlt_t, jlt_f, jlt, jle_t, jle_f, jle, jeq_t, jeq_f, jeq, ↓reduceIte]
              rfl
            · obtain ⟨e1, e2, e3⟩ := nx.2 (by omega)
              rw [eb _ e1, e2, e3, if_neg d1]
              simp (maxSteps := 2000000) (disch := first | assumption | omega) only [jI0, iAdd_j, iSub_j, iMul_j, iNeg_j, Option.bind_some, jlt_t, jlt_f, jlt, jle_t, jle_f, jle, jeq_t, jeq_f, jeq, ↓reduceIte]
              rfl
          · obtain ⟨e1, e2, e3⟩ := nx.2 (by omega)
            rw [eb _ e1, e2, e3, if_neg d1]
            simp (maxSteps := 2000000) (disch := first | assumption | omega) only [jI0, iAdd_j, iSub_j, iMul_j, iNeg_j, Option.bind_some, jlt_t, jlt_f, jlt, jle_t, jle_f, jle, jeq_t, jeq_f, jeq, ↓reduceIte]
            rfl
    · obtain ⟨e1, e2, e3⟩ := nx.2 (by omega)
      rw [eb _ e1, e2, e3]
      simp (maxSteps := 2000000) (disch := first | assumption | omega) only [jI0, iAdd_j, iSub_j, iMul_j, iNeg_j, Option.bind_some, jlt_t, jlt_f, jlt, jle_t, jle_f, jle, jeq_t, jeq_f, jeq, ↓reduceIte]
      rfl
  · intro m
    show L_X12_reach_113 N (m + 1) 100 (jI r) (jI t) (jI w) (jI (rtb (G (38 + 2 * r)) n (G 102 140) t (2 ^ n - 1))) (jI (rtn (G (38 + 2 * r)) n (G 102 140) t (2 ^ n - 1))) (jI (rto (G (38 + 2 * r)) n (G 102 140) t (2 ^ n - 1))) (jI ((2 ^ n - 1 + 1 : Nat) : Int)) (hp q G) = _
    have l8 := (l118 q G (i := (r : Int)) (by omega) (by omega))
    rw [p2, hn] at l8
    have bl := rtB_le (G (38 + 2 * r)) n (G 102 140) t (2 ^ n - 1)
    rw [L_X12_reach_113]
    simp only [Option.bind_some, (o100 q G).2, l8, shl1 (show n < 32 by omega), jlt_f (show -2147483648 ≤ ((2 ^ n : Nat) : Int) ∧ ((2 ^ n : Nat) : Int) ≤ ((2 ^ n - 1 + 1 : Nat) : Int) ∧ ((2 ^ n - 1 + 1 : Nat) : Int) < 2147483648 by omega), ↓reduceIte]
    unfold rtb rtn rto
    by_cases d1 : rtB (G (38 + 2 * r)) n (G 102 140) t (2 ^ n - 1) = 0
    · simp only [if_pos d1]
      simp (maxSteps := 2000000) (disch := first | assumption | omega) only [jI0, iAdd_j, iSub_j, iMul_j, iNeg_j, Option.bind_some, jlt_t, jlt_f, jlt, jle_t, jle_f, jle, jeq_t, jeq_f, jeq, ↓reduceIte]
    · rw [if_neg d1, if_neg d1, if_neg d1, if_neg d1]
      by_cases c0 : w = 0
      · rw [if_pos c0]; subst c0; simp (maxSteps := 2000000) (disch := first | assumption | omega) only [jI0, iAdd_j, iSub_j, iMul_j, iNeg_j, Option.bind_some, jlt_t, jlt_f, jlt, jle_t, jle_f, jle, jeq_t, jeq_f, jeq, ↓reduceIte]
      · by_cases c1 : w = 1
        · rw [if_neg c0, if_pos c1]; subst c1; simp (maxSteps := 2000000) (disch := first | assumption | omega) only [jI0, iAdd_j, iSub_j, iMul_j, iNeg_j, Option.bind_some, jlt_t, jlt_f, jlt, jle_t, jle_f, jle, jeq_t, jeq_f, jeq, ↓reduceIte]
        · rw [if_neg c0, if_neg c1]; simp (maxSteps := 2000000) (disch := first | assumption | omega) only [jI0, iAdd_j, iSub_j, iMul_j, iNeg_j, Option.bind_some, jlt_t, jlt_f, jlt, jle_t, jle_f, jle, jeq_t, jeq_f, jeq, ↓reduceIte]
theorem op_reach (hN : 10000 ≤ N) (hI : INV K1 K2 q G) {row t w : Int} (h1 : -2147483648 ≤ row) (h2 : row < 2147483648) (h3 : -2147483648 ≤ t) (h4 : t < 2147483648) (h5 : -2147483648 ≤ w) (h6 : w < 2147483648) : OP K1 K2 q G (f_X11_reach N 0 (jI row) (jI t) (jI w)) (f_X12_reach N 100 (jI row) (jI t) (jI w)) := by
  have hB := hI.1.1; have hV := hB.1; have hT := hI.1.2.1; have g := hV.1
  by_cases c : 0 ≤ row ∧ row < 4
  · obtain ⟨r, rfl⟩ := Int.eq_ofNat_of_zero_le c.1
    have hr : r < 4 := by omega
    by_cases c1 : 0 ≤ w ∧ w ≤ 2
    · rcases hI.rp hr with ⟨m1, m2⟩ | p
      · refine OP.rf hI (-6) (jI (-6)) ?_ ?_
        · unfold f_X11_reach
          simp (maxSteps := 2000000) (disch := first | assumption | omega) only [jI0, iAdd_j, iSub_j, iMul_j, iNeg_j, Option.bind_some, jlt_t, jlt_f, jlt, jle_t, jle_f, jle, jeq_t, jeq_f, jeq, ↓reduceIte, o0, o2, o12, hBand, hStake, hKind, hCross, hWeaver, oBand, oKindOf, oKind, oCr, oRing, oWv, oPer, oRows, oAhead, oWhen, oAll, oStep, oRods, oRodAt, oStakeAt, oOff, bI_t, bI_f, X11_refuse, oIsRow, rA, ro, oMiss]
        · intro G1 hM e eo
          rw [← eo 117 (by decide)] at m2
          have hV1 := hM.1; have hT1 := hM.2; (try rw [← e] at dm); (try rw [← e] at dr); (try rw [← e] at de); (try rw [← e] at dl); (try rw [← e] at hb); (try rw [← e] at hj); (try rw [← e] at hr); (try rw [← e] at hs); (try rw [← e] at pl); (try rw [← e] at al); (try rw [← e] at g); (try rw [← e] at c); (try rw [← e] at c1); (try rw [← e] at c2); (try rw [← e] at c3); (try rw [← e] at c4); (try rw [← e] at c5); (try rw [← e] at c6); (try rw [← e] at wb); (try rw [← e] at pr); (try rw [← e] at kd); (try rw [← e] at cr); (try rw [← e] at fe); (try rw [← e] at ra); (try rw [← e] at f1); (try rw [← e] at f2); (try rw [← e] at f3); (try rw [← e] at f4); (try rw [← e])
          unfold f_X12_reach
          simp (maxSteps := 2000000) (disch := first | assumption | omega) only [jI0, iAdd_j, iSub_j, iMul_j, iNeg_j, Option.bind_some, jlt_t, jlt_f, jlt, jle_t, jle_f, jle, jeq_t, jeq_f, jeq, ↓reduceIte, o100, w100t, l102, mBand, mStake, mKind, mCross, mCr, mKindOf, mAhead, mWhen, mStep, mRods, mRodAt, mStakeAt, mIndex, mOver, mOverIn, jlL, X12_within, bI_t, bI_f, X12_no, l117]
      · obtain ⟨p1, p2, p3, p4, p5, p6, p7⟩ := id p
        have cz : ¬ bI (G (37 + 2 * r) 0 = -1) = jI 1 := by rw [bI_1]; omega
        have wo := oWithin (q := q) hN hr p (lo := 1) (hi := 999) (by omega) (by omega)
        by_cases c2 : (1 ≤ G (37 + 2 * r) 0 ∧ G (37 + 2 * r) 0 ≤ 9) ∧ AW G r 1 999 ∧ 1 ≤ t ∧ t ≤ 9999
        · obtain ⟨⟨c3, c4⟩, c5, c6, c7⟩ := c2
          rw [cI_t c5] at wo
          obtain ⟨n, hn⟩ := Int.eq_ofNat_of_zero_le p1
          have n9 : n ≤ 9 := by omega
          have hv : ∀ k : Nat, k < n → 1 ≤ G (38 + 2 * r) k ∧ G (38 + 2 * r) k ≤ 999 := fun k hk => c5 k (by omega) (by omega)
          have eR := oReach (q := q) hN hB hr p hn n9 hv ⟨c6, c7⟩
          have eM := mReach (q := q) hN hV hr p hn n9 hv ⟨c6, c7⟩ c1
          have bl := rtB_le (G (38 + 2 * r)) n (G 102 140) t (2 ^ n - 1)
          have n2 : 2 ^ n ≤ 2 ^ 9 := Nat.pow_le_pow_right (by omega) n9
          have n3 : 0 < 2 ^ n := Nat.two_pow_pos n
          have c8 := oCov (q := q) hN hB hr p hn n9 (s := rtB (G (38 + 2 * r)) n (G 102 140) t (2 ^ n - 1)) (by omega)
          have c9 := pcB (n := n) (s := rtB (G (38 + 2 * r)) n (G 102 140) t (2 ^ n - 1)) (by omega) (by omega)
          have eo : rtS (G (38 + 2 * r)) n (rtB (G (38 + 2 * r)) n (G 102 140) t (2 ^ n - 1)) - (rtN n (rtB (G (38 + 2 * r)) n (G 102 140) t (2 ^ n - 1)) - 1) * G 102 140 - t = rtO (G (38 + 2 * r)) n (G 102 140) t (rtB (G (38 + 2 * r)) n (G 102 140) t (2 ^ n - 1)) := rfl
          refine OP.ans hI (jI (if rtB (G (38 + 2 * r)) n (G 102 140) t (2 ^ n - 1) = 0 then -1 else if w = 0 then rtN n (rtB (G (38 + 2 * r)) n (G 102 140) t (2 ^ n - 1)) else if w = 1 then rtO (G (38 + 2 * r)) n (G 102 140) t (rtB (G (38 + 2 * r)) n (G 102 140) t (2 ^ n - 1)) else rtB (G (38 + 2 * r)) n (G 102 140) t (2 ^ n - 1))) ?_ ?_
          · unfold f_X11_reach
            simp (maxSteps := 2000000) (disch := first | assumption | omega) only [jI0, iAdd_j, iSub_j, iMul_j, iNeg_j, Option.bind_some, jlt_t, jlt_f, jlt, jle_t, jle_f, jle, jeq_t, jeq_f, jeq, ↓reduceIte, o0, o2, o12, hBand, hStake, hKind, hCross, hWeaver, oBand, oKindOf, oKind, oCr, oRing, oWv, oPer, oRows, oAhead, oWhen, oAll, oStep, oRods, oRodAt, oStakeAt, oOff, bI_t, bI_f, X11_refuse, oIsRow, rA, ro, oMiss, wo, eR]
            by_cases d1 : rtB (G (38 + 2 * r)) n (G 102 140) t (2 ^ n - 1) = 0
            · rw [if_pos d1, if_pos (by omega)]
            · rw [if_neg d1, if_neg (by omega)]
              by_cases d2 : w = 0
              · rw [if_pos d2]
                subst d2
                simp (maxSteps := 2000000) (disch := first | assumption | omega) only [jI0, iAdd_j, iSub_j, iMul_j, iNeg_j, Option.bind_some, jlt_t, jlt_f, jlt, jle_t, jle_f, jle, jeq_t, jeq_f, jeq, ↓reduceIte, bitCount, c9]
              · by_cases d3 : w = 1
                · subst d3
                  simp only [d2, ↓reduceIte]
                  simp (maxSteps := 2000000) (disch := first | assumption | omega) only [jI0, iAdd_j, iSub_j, iMul_j, iNeg_j, Option.bind_some, jlt_t, jlt_f, jlt, jle_t, jle_f, jle, jeq_t, jeq_f, jeq, ↓reduceIte, o0, o2, o12, hBand, hStake, hKind, hCross, hWeaver, oBand, oKindOf, oKind, oCr, oRing, oWv, oPer, oRows, oAhead, oWhen, oAll, oStep, oRods, oRodAt, oStakeAt, oOff, bI_t, bI_f, X11_refuse, c8, eo]
                · simp only [d2, d3, ↓reduceIte]
          · have ww := mWithin (q := q) hN hr p (lo := 1) (hi := 999) (by omega) (by omega)
            rw [cI_t c5] at ww
            unfold f_X12_reach
            simp (maxSteps := 2000000) (disch := first | assumption | omega) only [jI0, iAdd_j, iSub_j, iMul_j, iNeg_j, Option.bind_some, jlt_t, jlt_f, jlt, jle_t, jle_f, jle, jeq_t, jeq_f, jeq, ↓reduceIte, o100, w100t, l102, mBand, mStake, mKind, mCross, mCr, mKindOf, mAhead, mWhen, mStep, mRods, mRodAt, mStakeAt, mIndex, mOver, mOverIn, jlL, X12_within, bI_t, bI_f, X12_no, l117, l118, p3, p4, ww, eM]
        · refine OP.rf hI (-3) (jI (-3)) ?_ ?_
          · unfold f_X11_reach
            by_cases d1 : G (37 + 2 * r) 0 < 1
            · simp (maxSteps := 2000000) (disch := first | assumption | omega) only [jI0, iAdd_j, iSub_j, iMul_j, iNeg_j, Option.bind_some, jlt_t, jlt_f, jlt, jle_t, jle_f, jle, jeq_t, jeq_f, jeq, ↓reduceIte, o0, o2, o12, hBand, hStake, hKind, hCross, hWeaver, oBand, oKindOf, oKind, oCr, oRing, oWv, oPer, oRows, oAhead, oWhen, oAll, oStep, oRods, oRodAt, oStakeAt, oOff, bI_t, bI_f, X11_refuse, oIsRow, rA, ro, oMiss]
            · by_cases d2 : 9 < G (37 + 2 * r) 0
              · simp (maxSteps := 2000000) (disch := first | assumption | omega) only [jI0, iAdd_j, iSub_j, iMul_j, iNeg_j, Option.bind_some, jlt_t, jlt_f, jlt, jle_t, jle_f, jle, jeq_t, jeq_f, jeq, ↓reduceIte, o0, o2, o12, hBand, hStake, hKind, hCross, hWeaver, oBand, oKindOf, oKind, oCr, oRing, oWv, oPer, oRows, oAhead, oWhen, oAll, oStep, oRods, oRodAt, oStakeAt, oOff, bI_t, bI_f, X11_refuse, oIsRow, rA, ro, oMiss]
              · by_cases d3 : AW G r 1 999
                · rw [cI_t d3] at wo
                  by_cases d4 : t < 1
                  · simp (maxSteps := 2000000) (disch := first | assumption | omega) only [jI0, iAdd_j, iSub_j, iMul_j, iNeg_j, Option.bind_some, jlt_t, jlt_f, jlt, jle_t, jle_f, jle, jeq_t, jeq_f, jeq, ↓reduceIte, o0, o2, o12, hBand, hStake, hKind, hCross, hWeaver, oBand, oKindOf, oKind, oCr, oRing, oWv, oPer, oRows, oAhead, oWhen, oAll, oStep, oRods, oRodAt, oStakeAt, oOff, bI_t, bI_f, X11_refuse, oIsRow, rA, ro, oMiss, wo]
                  · have d5 : 9999 < t := by
                      apply Int.lt_of_not_ge
                      intro x
                      exact c2 ⟨by omega, d3, by omega, by omega⟩
                    simp (maxSteps := 2000000) (disch := first | assumption | omega) only [jI0, iAdd_j, iSub_j, iMul_j, iNeg_j, Option.bind_some, jlt_t, jlt_f, jlt, jle_t, jle_f, jle, jeq_t, jeq_f, jeq, ↓reduceIte, o0, o2, o12, hBand, hStake, hKind, hCross, hWeaver, oBand, oKindOf, oKind, oCr, oRing, oWv, oPer, oRows, oAhead, oWhen, oAll, oStep, oRods, oRodAt, oStakeAt, oOff, bI_t, bI_f, X11_refuse, oIsRow, rA, ro, oMiss, wo]
                · rw [cI_f d3] at wo
                  simp (maxSteps := 2000000) (disch := first | assumption | omega) only [jI0, iAdd_j, iSub_j, iMul_j, iNeg_j, Option.bind_some, jlt_t, jlt_f, jlt, jle_t, jle_f, jle, jeq_t, jeq_f, jeq, ↓reduceIte, o0, o2, o12, hBand, hStake, hKind, hCross, hWeaver, oBand, oKindOf, oKind, oCr, oRing, oWv, oPer, oRows, oAhead, oWhen, oAll, oStep, oRods, oRodAt, oStakeAt, oOff, bI_t, bI_f, X11_refuse, oIsRow, rA, ro, oMiss, wo]
          · intro G1 hM e eo
            have pp := p.eo hr eo
            have ww := mWithin (q := q) hN hr pp (lo := 1) (hi := 999) (by omega) (by omega)
            rw [AW.eo hr eo] at ww
            rw [← eo 117 (by decide)] at p4
            rw [← eo 118 (by decide)] at p3
            have hV1 := hM.1; have hT1 := hM.2; (try rw [← e] at dm); (try rw [← e] at dr); (try rw [← e] at de); (try rw [← e] at dl); (try rw [← e] at hb); (try rw [← e] at hj); (try rw [← e] at hr); (try rw [← e] at hs); (try rw [← e] at pl); (try rw [← e] at al); (try rw [← e] at g); (try rw [← e] at c); (try rw [← e] at c1); (try rw [← e] at c2); (try rw [← e] at c3); (try rw [← e] at c4); (try rw [← e] at c5); (try rw [← e] at c6); (try rw [← e] at wb); (try rw [← e] at pr); (try rw [← e] at kd); (try rw [← e] at cr); (try rw [← e] at fe); (try rw [← e] at ra); (try rw [← e] at f1); (try rw [← e] at f2); (try rw [← e] at f3); (try rw [← e] at f4); (try rw [← e])
            unfold f_X12_reach
            by_cases d1 : 1 ≤ G (37 + 2 * r) 0 ∧ G (37 + 2 * r) 0 ≤ 9
            · by_cases d3 : AW G r 1 999
              · rw [cI_t d3] at ww
                have d5 : ¬ (1 ≤ t ∧ t ≤ 9999) := fun x => c2 ⟨d1, d3, x⟩
                simp (maxSteps := 2000000) (disch := first | assumption | omega) only [jI0, iAdd_j, iSub_j, iMul_j, iNeg_j, Option.bind_some, jlt_t, jlt_f, jlt, jle_t, jle_f, jle, jeq_t, jeq_f, jeq, ↓reduceIte, o100, w100t, l102, mBand, mStake, mKind, mCross, mCr, mKindOf, mAhead, mWhen, mStep, mRods, mRodAt, mStakeAt, mIndex, mOver, mOverIn, jlL, X12_within, bI_t, bI_f, X12_no, l117, l118, p3, p4, ww]
              · rw [cI_f d3] at ww
                simp (maxSteps := 2000000) (disch := first | assumption | omega) only [jI0, iAdd_j, iSub_j, iMul_j, iNeg_j, Option.bind_some, jlt_t, jlt_f, jlt, jle_t, jle_f, jle, jeq_t, jeq_f, jeq, ↓reduceIte, o100, w100t, l102, mBand, mStake, mKind, mCross, mCr, mKindOf, mAhead, mWhen, mStep, mRods, mRodAt, mStakeAt, mIndex, mOver, mOverIn, jlL, X12_within, bI_t, bI_f, X12_no, l117, l118, p3, p4, ww]
            · simp (maxSteps := 2000000) (disch := first | assumption | omega) only [jI0, iAdd_j, iSub_j, iMul_j, iNeg_j, Option.bind_some, jlt_t, jlt_f, jlt, jle_t, jle_f, jle, jeq_t, jeq_f, jeq, ↓reduceIte, o100, w100t, l102, mBand, mStake, mKind, mCross, mCr, mKindOf, mAhead, mWhen, mStep, mRods, mRodAt, mStakeAt, mIndex, mOver, mOverIn, jlL, X12_within, bI_t, bI_f, X12_no, l117, l118, p3, p4]
    · refine OP.rf hI (-2) (jI (-2)) ?_ ?_
      · unfold f_X11_reach
        by_cases d : w < 0 <;> simp (maxSteps := 2000000) (disch := first | assumption | omega) only [jI0, iAdd_j, iSub_j, iMul_j, iNeg_j, Option.bind_some, jlt_t, jlt_f, jlt, jle_t, jle_f, jle, jeq_t, jeq_f, jeq, ↓reduceIte, o0, o2, o12, hBand, hStake, hKind, hCross, hWeaver, oBand, oKindOf, oKind, oCr, oRing, oWv, oPer, oRows, oAhead, oWhen, oAll, oStep, oRods, oRodAt, oStakeAt, oOff, bI_t, bI_f, X11_refuse, oIsRow]
      · intro G1 hM e eo
        have hV1 := hM.1; have hT1 := hM.2; (try rw [← e] at dm); (try rw [← e] at dr); (try rw [← e] at de); (try rw [← e] at dl); (try rw [← e] at hb); (try rw [← e] at hj); (try rw [← e] at hr); (try rw [← e] at hs); (try rw [← e] at pl); (try rw [← e] at al); (try rw [← e] at g); (try rw [← e] at c); (try rw [← e] at c1); (try rw [← e] at c2); (try rw [← e] at c3); (try rw [← e] at c4); (try rw [← e] at c5); (try rw [← e] at c6); (try rw [← e] at wb); (try rw [← e] at pr); (try rw [← e] at kd); (try rw [← e] at cr); (try rw [← e] at fe); (try rw [← e] at ra); (try rw [← e] at f1); (try rw [← e] at f2); (try rw [← e] at f3); (try rw [← e] at f4); (try rw [← e])
        unfold f_X12_reach
        simp (maxSteps := 2000000) (disch := first | assumption | omega) only [jI0, iAdd_j, iSub_j, iMul_j, iNeg_j, Option.bind_some, jlt_t, jlt_f, jlt, jle_t, jle_f, jle, jeq_t, jeq_f, jeq, ↓reduceIte, o100, w100t, l102, mBand, mStake, mKind, mCross, mCr, mKindOf, mAhead, mWhen, mStep, mRods, mRodAt, mStakeAt, mIndex, mOver, mOverIn, jlL, X12_within, bI_t, bI_f, X12_no]
  · refine OP.rf hI (-2) (jI (-2)) ?_ ?_
    · unfold f_X11_reach
      refine bs (v := ()) (by simp (maxSteps := 2000000) (disch := first | assumption | omega) only [jI0, iAdd_j, iSub_j, iMul_j, iNeg_j, Option.bind_some, jlt_t, jlt_f, jlt, jle_t, jle_f, jle, jeq_t, jeq_f, jeq, ↓reduceIte, o0]) ?_
      refine bs (v := (jI 0, hp q G)) (by simp (maxSteps := 2000000) (disch := first | assumption | omega) only [jI0, iAdd_j, iSub_j, iMul_j, iNeg_j, Option.bind_some, jlt_t, jlt_f, jlt, jle_t, jle_f, jle, jeq_t, jeq_f, jeq, ↓reduceIte, oIsRow, bI_f]) ?_
      refine bs0 ?_
      simp (maxSteps := 2000000) (disch := first | assumption | omega) only [jI0, iAdd_j, iSub_j, iMul_j, iNeg_j, Option.bind_some, jlt_t, jlt_f, jlt, jle_t, jle_f, jle, jeq_t, jeq_f, jeq, ↓reduceIte, o0, X11_refuse]
    · intro G1 hM e eo
      unfold f_X12_reach
      have wt := w100t (q := q) hM.2
      refine bs wt ?_
      refine bs (v := (jI 0, hp q G1)) (by simp (maxSteps := 2000000) (disch := first | assumption | omega) only [jI0, iAdd_j, iSub_j, iMul_j, iNeg_j, Option.bind_some, jlt_t, jlt_f, jlt, jle_t, jle_f, jle, jeq_t, jeq_f, jeq, ↓reduceIte, jlL, X12_within, bI_f]) ?_
      refine bs0 ?_
      simp (maxSteps := 2000000) (disch := first | assumption | omega) only [jI0, iAdd_j, iSub_j, iMul_j, iNeg_j, Option.bind_some, jlt_t, jlt_f, jlt, jle_t, jle_f, jle, jeq_t, jeq_f, jeq, ↓reduceIte, o100, X12_no]
end
