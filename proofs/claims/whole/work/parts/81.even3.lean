/-! call: even, put together -/
theorem fo_le {α : Type} {f : Nat → Int × α → Int × α} (h : ∀ i s, (f i s).1 ≤ s.1) : ∀ (n : Nat) (s : Int × α), (fo f n s).1 ≤ s.1
  | 0, _ => Int.le_refl _
  | n + 1, s => Int.le_trans (h n (fo f n s)) (fo_le h n s)
theorem fo_hit {α : Type} {f : Nat → Int × α → Int × α} {X : Int} (h : ∀ i s, (f i s).1 ≤ s.1) {j : Nat} (hj : ∀ s, (f j s).1 ≤ X) : ∀ (n : Nat) (s : Int × α), j < n → (fo f n s).1 ≤ X
  | 0, _, h0 => by omega
  | n + 1, s, h0 => by
    by_cases c : j = n
    · subst c; exact hj _
    · exact Int.le_trans (h n (fo f n s)) (fo_hit h hj n s (by omega))
theorem evR_le {th : Int → Int} {n m : Nat} : ∀ (d : Nat) (o : Int → Int) (k U : Nat) (s : Int × (Int → Int)), (evR th n m d o k U s).1 ≤ s.1
  | 0, o, k, U, s => by
    simp only [evR]
    split
    · simp only; omega
    · omega
  | d + 1, o, k, U, s => by
    simp only [evR]
    apply fo_le
    intro i s
    (try dsimp only)
    split
    · omega
    · exact evR_le d _ _ _ s
theorem evR_fd {th : Int → Int} {n m : Nat} (h : n = 2 * m) (m1 : 1 ≤ m) (m4 : m ≤ 4) (ht : ∀ i : Int, 0 ≤ i → i < n → 1 ≤ th i ∧ th i ≤ 99) : ∀ (d : Nat) (o : Int → Int) (k U : Nat) (s : Int × (Int → Int)), k + d = n → PI th n o k U → (evR th n m d o k U s).1 ≤ 800
  | 0, o, k, U, s, hk, hPI => by
    have r : evO (fun i => th (o i)) n m ≤ 800 := mx_le (by omega) (fun i hi => (evT_r (by omega) (by omega) m4 (fun j hj => by
      have a := hPI.2.2.1 j (by omega)
      have b := ht _ a.1 a.2
      omega) i).2)
    simp only [evR]
    split
    · exact r
    · omega
  | d + 1, o, k, U, s, hk, hPI => by
    obtain ⟨j, j1, j2⟩ : ∃ j, j < n ∧ U.testBit j = false := by
      apply Classical.byContradiction
      intro hno
      have al : ∀ j : Nat, j < n → U.testBit j = true := fun j hj => by
        cases c : U.testBit j with
        | true => rfl
        | false => exact absurd ⟨j, hj, c⟩ hno
      have e := hPI.2.2.2.2.1
      have e2 : sm (fun i => if U.testBit i.toNat = true then 1 else 0) n = sm (fun _ => 1) n := sm_congr (fun j hj => by rw [Int.toNat_natCast, if_pos (al j hj)])
      have e3 : ∀ n : Nat, sm (fun _ => 1) n = n := by
        intro n
        induction n with
        | zero => rfl
        | succ n ih => simp only [sm]; rw [ih]; omega
      rw [e2, e3] at e
      omega
    simp only [evR]
    refine fo_hit (j := j) ?_ ?_ n s j1
    · intro i s
      (try dsimp only)
      split
      · omega
      · exact evR_le d _ _ _ s
    · intro s
      (try dsimp only)
      rw [j2]
      exact evR_fd h m1 m4 ht d _ _ _ s (by omega) (hPI.next (by omega) j1 j2)
section
variable {K1 K2 : (Int → Int) → (Int → Int) → Prop} {q : Nat × Nat × (Nat → Nat)} {G : Nat → Int → Int} {N : Nat}
theorem SC.of2 {G2 : Nat → Int → Int} (h : ∀ a, a ≠ 100 → scrv a = false → G2 a = G a) (h0 : G2 100 0 = G 100 0 ∧ G2 100 6 = G 100 6 ∧ G2 100 14 = G 100 14 ∧ G2 100 15 = G 100 15) : SC G G2 := by
  refine ⟨fun a x _ => h a (by rintro rfl; cases x) (by unfold scrv; rw [x]; rfl), ⟨h0.1, by rw [h 0 (by decide) rfl], h0.2.1, by rw [h 10 (by decide) rfl], by rw [h 10 (by decide) rfl], h0.2.2.1, h0.2.2.2, by rw [h 25 (by decide) rfl], by rw [h 25 (by decide) rfl]⟩, ⟨h 98 (by decide) rfl, h 101 (by decide) rfl⟩, ?_⟩
  intro x
  rw [h 12 (by decide) rfl, h 13 (by decide) rfl]
  exact x
theorem OP.rf2 {F1 F2 : mH → Option (Int32 × mH)} (hI : INV K1 K2 q G) (c : Int) (r : Int32) (h1 : F1 (hp q G) = some (r, hp q (up G 98 (rfz c) (G 98 (rfz c) + 1)))) (h2 : ∀ G1, MV G1 → G1 102 = G 102 → (∀ a, a ≠ 98 → G1 a = G a) → ∃ G2, SC G1 G2 ∧ F2 (hp q G1) = some (r, hp q (up G2 101 (rfz c) (G2 101 (rfz c) + 1)))) : OP K1 K2 q G F1 F2 := by
  have m1 : MV (up G 98 (rfz c) (G 98 (rfz c) + 1)) := ⟨hI.1.1.1, hI.1.2.1⟩
  obtain ⟨G2, s, e⟩ := h2 (up G 98 (rfz c) (G 98 (rfz c) + 1)) m1 rfl (fun a ha => up_ne ha)
  refine ⟨r, q, _, _, h1, e, (hI.rf c).sc ?_⟩
  obtain ⟨s1, ⟨b1, b2, b3, b4, b5, b6, b7, b8, b9⟩, ⟨c1, c2⟩, d1⟩ := s
  refine ⟨fun a x y => ?_, ⟨?_, ?_, ?_, ?_, ?_, ?_, ?_, ?_, ?_⟩, ⟨?_, ?_⟩, ?_⟩
  · have n : a ≠ 101 := by rintro rfl; cases x
    rw [up_ne n, up_ne n]
    exact s1 a x y
  · rw [up_ne (by decide), up_ne (by decide)]; exact b1
  · rw [up_ne (by decide), up_ne (by decide)]; exact b2
  · rw [up_ne (by decide), up_ne (by decide)]; exact b3
  · rw [up_ne (by decide), up_ne (by decide)]; exact b4
  · rw [up_ne (by decide), up_ne (by decide)]; exact b5
  · rw [up_ne (by decide), up_ne (by decide)]; exact b6
  · rw [up_ne (by decide), up_ne (by decide)]; exact b7
  · rw [up_ne (by decide), up_ne (by decide)]; exact b8
  · rw [up_ne (by decide), up_ne (by decide)]; exact b9
  · rw [up_ne (by decide), up_ne (by decide)]; exact c1
  · rw [up_eq, up_eq, c2, up_ne (by decide)]
  · rw [up_ne (by decide), up_ne (by decide), up_ne (by decide), up_ne (by decide), up_ne (by decide), up_ne (by decide)]
    exact d1
theorem oRound (hN : 10000 ≤ N) {r : Nat} (hr : r < 4) (p : RP G r) {n m : Nat} (h : n = 2 * m) (m1 : 1 ≤ m) (m4 : m ≤ 4) (hn : G (37 + 2 * r) 0 = n) (aw : ∀ k : Int, 0 ≤ k → k < n → 1 ≤ G (38 + 2 * r) k ∧ G (38 + 2 * r) k ≤ 99) : ∃ G' : Nat → Int → Int, ((∀ a, a ≠ 78 → a ≠ 79 → a ≠ 80 → a ≠ 81 → G' a = G a) ∧ G' 78 0 = (evA (G (38 + 2 * r)) n m).1 ∧ G' 78 1 = n ∧ ∀ i : Int, 0 ≤ i → i < n → G' 81 i = (evA (G (38 + 2 * r)) n m).2 i) ∧ f_X2_putRound N 78 (37 + 2 * r) (hp q G) = some (hp q G') := by
  have g37 := ro (q := q) (G := G) hr
  have mn : min (8 : Int) n = n := Int.min_eq_right (by omega)
  have wa := (w78 q G (n : Int)).2.1
  have wb := (w78 q (up G 78 1 n) 0).2.2
  generalize hth : G (38 + 2 * r) = th at *
  have LL : ∃ G' : Nat → Int → Int, ((∀ a, a ≠ 78 → a ≠ 79 → a ≠ 80 → a ≠ 81 → G' a = G a) ∧ G' 78 0 = (evA th n m).1 ∧ G' 78 1 = n ∧ ∀ i : Int, 0 ≤ i → i < n → G' 81 i = (evA th n m).2 i) ∧ L_X2_putRound_20 N N 78 (37 + 2 * r) (jI 0) (hp q (up (up G 78 1 n) 78 2 0)) = some (hp q G') := by
    refine loopG (N := N) (fun f (t : Int × (Nat → Int → Int)) => L_X2_putRound_20 N f 78 (37 + 2 * r) (jI t.1) (hp q t.2)) (fun k t => t.1 = k ∧ (∀ a, a ≠ 78 → a ≠ 79 → t.2 a = G a) ∧ t.2 78 1 = n ∧ t.2 78 2 = sm th k ∧ ∀ j : Int, 0 ≤ j → j < k → t.2 79 j = th j) n (by omega) (s := (0, up (up G 78 1 n) 78 2 0)) ⟨rfl, fun a a0 a1 => by show up (up G 78 1 n) 78 2 0 a = G a; rw [up_ne a0, up_ne a0], by show up (up G 78 1 n) 78 2 0 78 1 = n; rw [up_eq, u1_ne (by decide), up_eq, u1_eq], by show up (up G 78 1 n) 78 2 0 78 2 = 0; rw [up_eq, u1_eq], fun j j0 j1 => by omega⟩ ?_ ?_
    · rintro f k ⟨i, G1⟩ hk ⟨rfl, t1, t2, t3, t4⟩
      simp only at t1 t2 t3 t4
      have p1 : RP G1 r := by
        unfold RP at *
        rw [t1 (37 + 2 * r) (by omega) (by omega), t1 (38 + 2 * r) (by omega) (by omega), t1 117 (by decide) (by decide), t1 118 (by decide) (by decide), t1 119 (by decide) (by decide)]
        exact p
      have e8 : G1 (38 + 2 * r) = th := by rw [t1 _ (by omega) (by omega), hth]
      have e7 : G1 (37 + 2 * r) 0 = n := by rw [t1 _ (by omega) (by omega)]; exact hn
      have g1 := ro (q := q) (G := G1) hr
      have oi := oInt (q := q) (N := N) hr p1 (k := (k : Int)) (by omega) (by omega)
      rw [e8] at oi
      have ww := (w78 q (up G1 79 k (th k)) (sm th k + th k)).2.2
      have z2 : up G1 79 k (th k) 78 2 = sm th k := by rw [up_ne (by decide)]; exact t3
      have z79 : up G1 79 k (th k) 79 k = th k := by rw [up_eq, u1_eq]
      refine ⟨(((k + 1 : Nat) : Int), up (up G1 79 k (th k)) 78 2 (sm th k + th k)), ⟨rfl, fun a a0 a1 => ?_, ?_, ?_, fun j j0 j1 => ?_⟩, ?_⟩
      · (try dsimp only)
        rw [up_ne a0, up_ne a1]; exact t1 a a0 a1
      · (try dsimp only)
        rw [up_eq, u1_ne (by decide), up_ne (by decide)]; exact t2
      · (try dsimp only)
        rw [up_eq, u1_eq]; rfl
      · (try dsimp only)
        rw [up_ne (by decide), up_eq]
        by_cases c : j = k
        · rw [c, u1_eq]
        · rw [u1_ne c]; exact t4 j j0 (by omega)
      · show L_X2_putRound_20 N (f + 1) 78 (37 + 2 * r) (jI (k : Int)) (hp q G1) = L_X2_putRound_20 N f 78 (37 + 2 * r) (jI ((k + 1 : Nat) : Int)) (hp q (up (up G1 79 k (th k)) 78 2 (sm th k + th k)))
        rw [L_X2_putRound_20]
        simp (maxSteps := 2000000) (disch := first | assumption | omega) only [jI0, iAdd_j, iSub_j, iMul_j, iNeg_j, Option.bind_some, jlt_t, jlt_f, jlt, jle_t, jle_f, jle, jeq_t, jeq_f, jeq, ↓reduceIte, o78, t2, g1, oi, s79, l79, z2, z79, ww, Int.natCast_succ]
    · rintro f ⟨i, G1⟩ ⟨rfl, t1, t2, t3, t4⟩
      simp only at t1 t2 t3 t4
      have wl := (w78 q G1 2147483647).1
      have eg : EvG th n (fun _ => 0) 1 (2147483647, fun _ => 0) (up (up G1 78 0 2147483647) 80 0 0) := by
        refine ⟨?_, ?_, ?_, ?_, ?_, .inl rfl, by omega, by omega⟩
        · rw [up_ne (by decide), up_eq, u1_eq]
        · rw [up_ne (by decide), up_eq, u1_ne (by decide)]; exact t2
        · rw [up_ne (by decide), up_eq, u1_ne (by decide)]; exact t3
        · intro i i0 i1
          rw [up_ne (by decide), up_ne (by decide)]
          exact ⟨t4 i i0 i1, aw i i0 i1⟩
        · intro i i0 i1
          have : i = 0 := by omega
          rw [this, up_eq, u1_eq]
          exact ⟨rfl, Int.le_refl _, by dsimp only; omega⟩
      have p1 : evP (fun i => th ((fun _ => 0) i)) m (sm th n) 1 = 0 := by unfold evP mx mx; simp
      obtain ⟨G', x1, x2, x3⟩ := oPutF (q := q) hN h m1 m4 (n - 1) 20 (fun _ => 0) 1 1 (2147483647, fun _ => 0) _ (by omega) (by omega) (PI_0 (by omega)) eg (by rw [p1]; decide)
      rw [p1] at x3
      have fd := evR_fd h m1 m4 aw (n - 1) (fun _ => 0) 1 1 (2147483647, fun _ => 0) (by omega) (PI_0 (by omega))
      refine ⟨G', ⟨?_, x2.1, x2.2.1, ?_⟩, ?_⟩
      · intro a a0 a1 a2 a3
        rw [x1 a a0 a2 a3, up_ne a2, up_ne a0]
        exact t1 a a0 a1
      · rcases x2.2.2.2.2.2.1 with y | y
        · rw [y] at fd; omega
        · exact y
      · show L_X2_putRound_20 N (f + 1) 78 (37 + 2 * r) (jI (n : Int)) (hp q G1) = _
        rw [L_X2_putRound_20]
        rw [show ((1 : Nat) : Int) = 1 from rfl] at x3
        simp (maxSteps := 2000000) (disch := first | assumption | omega) only [jI0, iAdd_j, iSub_j, iMul_j, iNeg_j, Option.bind_some, jlt_t, jlt_f, jlt, jle_t, jle_f, jle, jeq_t, jeq_f, jeq, ↓reduceIte, o78, t2, wl, s80, x3]
  obtain ⟨G', x1, x2⟩ := LL
  refine ⟨G', x1, ?_⟩
  unfold f_X2_putRound
  simp (maxSteps := 2000000) (disch := first | assumption | omega) only [jI0, iAdd_j, iSub_j, iMul_j, iNeg_j, Option.bind_some, jlt_t, jlt_f, jlt, jle_t, jle_f, jle, jeq_t, jeq_f, jeq, ↓reduceIte, g37, hn, iMin_j, mn, wa, wb, x2]
/-- the model: thick ones in, then the search -/
theorem mEvL (hN : 10000 ≤ N) {r : Nat} (hr : r < 4) (p : RP G r) {n m : Nat} (h : n = 2 * m) (m1 : 1 ≤ m) (m4 : m ≤ 4) (hn : G (37 + 2 * r) 0 = n) (g29 : G 100 29 = n) {w : Int} (hw : -1 ≤ w ∧ w ≤ 7) (aw : ∀ k : Int, 0 ≤ k → k < n → 1 ≤ G (38 + 2 * r) k ∧ G (38 + 2 * r) k ≤ 99) : ∃ G' : Nat → Int → Int, ((∀ a, a ≠ 100 → a ≠ 111 → a ≠ 112 → a ≠ 113 → G' a = G a) ∧ ∀ i, i ≠ 30 → G' 100 i = G 100 i) ∧ L_X12_even_101 N N 100 (jI r) (jI w) (jI 0) (hp q G) = some (jI (if w < n then (if w = -1 then (evA (G (38 + 2 * r)) n m).1 else (evA (G (38 + 2 * r)) n m).2 w) else -1), hp q G') := by
  have p7 := p.2.2.2.2.2.2
  generalize hth : G (38 + 2 * r) = th at *
  refine loopG (N := N) (fun f (t : Int × (Nat → Int → Int)) => L_X12_even_101 N f 100 (jI r) (jI w) (jI t.1) (hp q t.2)) (fun k t => t.1 = k ∧ (∀ a, a ≠ 111 → t.2 a = G a) ∧ ∀ j : Int, 0 ≤ j → j < k → t.2 111 j = th j) n (by omega) (s := (0, G)) ⟨rfl, fun _ _ => rfl, fun j j0 j1 => by omega⟩ ?_ ?_
  · rintro f k ⟨i, G1⟩ hk ⟨rfl, t1, t2⟩
    simp only at t1 t2
    have e29 : G1 100 29 = n := by rw [t1 _ (by decide)]; exact g29
    have e119 : G1 119 (40 * r + k) = th k := by rw [t1 _ (by decide)]; exact (p7 k (by omega) (by omega)).1
    have v := aw k (by omega) (by omega)
    refine ⟨(((k + 1 : Nat) : Int), up G1 111 k (th k)), ⟨rfl, fun a ha => (up_ne ha).trans (t1 a ha), fun j j0 j1 => ?_⟩, ?_⟩
    · show up G1 111 k _ 111 j = _
      rw [up_eq]
      by_cases c : j = k
      · rw [c, u1_eq]
      · rw [u1_ne c]; exact t2 j j0 (by omega)
    · show L_X12_even_101 N (f + 1) 100 (jI r) (jI w) (jI (k : Int)) (hp q G1) = L_X12_even_101 N f 100 (jI r) (jI w) (jI ((k + 1 : Nat) : Int)) (hp q (up G1 111 k (th k)))
      rw [L_X12_even_101]
      simp (maxSteps := 2000000) (disch := first | assumption | omega) only [jI0, iAdd_j, iSub_j, iMul_j, iNeg_j, Option.bind_some, jlt_t, jlt_f, jlt, jle_t, jle_f, jle, jeq_t, jeq_f, jeq, ↓reduceIte, o100, e29, l119, e119, X12_within, bI_t, jLI, s111, Int.natCast_succ]
  · rintro f ⟨i, G1⟩ ⟨rfl, t1, t2⟩
    simp only at t1 t2
    have e29 : G1 100 29 = n := by rw [t1 _ (by decide)]; exact g29
    show ∃ G', _ ∧ L_X12_even_101 N (f + 1) 100 (jI r) (jI w) (jI (n : Int)) (hp q G1) = _
    rw [L_X12_even_101]
    by_cases c : w < n
    · rw [if_pos c]
      have w30 : ∀ v, pV (hp q G1) 12 100 30 (.int (jI v)) = some (hp q (up G1 100 30 v)) := fun v => by simp (maxSteps := 2000000) (disch := first | assumption | omega) only [jI0, iAdd_j, iSub_j, iMul_j, iNeg_j, Option.bind_some, jlt_t, jlt_f, jlt, jle_t, jle_f, jle, jeq_t, jeq_f, jeq, ↓reduceIte, w100]
      have em : EvM th n (fun _ => 0) 0 (2147483647, fun _ => 0) (up G1 100 30 (-1)) := by
        refine ⟨?_, ?_, ?_, ?_, .inl rfl, by omega, by omega⟩
        · rw [up_eq, u1_eq]; rfl
        · rw [up_eq, u1_ne (by decide)]; exact e29
        · intro i i0 i1
          rw [up_ne (by decide)]
          exact ⟨t2 i i0 i1, aw i i0 i1⟩
        · intro i i0 i1; omega
      have em1 : EvM th n (fun _ => 0) 1 (2147483647, fun _ => 0) (up (up G1 100 30 (-1)) 112 0 0) := by
        obtain ⟨a0, a1, a2, a3, a4, a5⟩ := em
        refine ⟨by rw [up_ne (by decide)]; exact a0, by rw [up_ne (by decide)]; exact a1, fun i i0 i1 => by rw [up_ne (by decide)]; exact a2 i i0 i1, fun i i0 i1 => ?_, .inl rfl, a5⟩
        have : i = 0 := by omega
        rw [this, up_eq, u1_eq]
        exact ⟨rfl, Int.le_refl _, by dsimp only; omega⟩
      obtain ⟨G', x1, x2, x3⟩ := mPuts (q := q) hN h m1 m4 (n - 1) 19 (fun _ => 0) 1 1 (2147483647, fun _ => 0) _ (by omega) (by omega) (PI_0 (by omega)) em1
      have fd := evR_fd h m1 m4 aw (n - 1) (fun _ => 0) 1 1 (2147483647, fun _ => 0) (by omega) (PI_0 (by omega))
      have first : f_X12_puts N 20 100 (jI 0) (jI 0) (hp q (up G1 100 30 (-1))) = some (hp q G') := by
        have z29 : up G1 100 30 (-1) 100 29 = n := em.2.1
        have g29' : G' 100 29 = n := x2.2.1
        have s0 := shrAt (s := 0) (k := 0) (by omega) (by omega)
        rw [show ((0 : Nat) : Int) = 0 from rfl, Nat.zero_testBit, bI_f (by decide)] at s0
        have sh := shl1 (n := 0) (by omega)
        rw [show ((0 : Nat) : Int) = 0 from rfl, show ((2 ^ 0 : Nat) : Int) = 1 from rfl] at sh
        have io : iOr (jI 0) (jI 1) = jI 1 := rfl
        rw [show ((1 : Nat) : Int) = 1 from rfl] at x3
        have s2 : L_X12_puts_70 N (f_X12_puts N 19) N 100 (jI 0) (jI 0) (jI 0) (hp q (up G1 100 30 (-1))) = some (hp q G') := by
          obtain ⟨M0, hM0⟩ : ∃ x, N = x + 1 + 1 := ⟨N - 2, by omega⟩
          have eN : L_X12_puts_70 N (f_X12_puts N 19) N = L_X12_puts_70 N (f_X12_puts N 19) (M0 + 1 + 1) := congrArg _ hM0
          rw [eN, L_X12_puts_70]
          unfold J_X12_puts_86
          simp (maxSteps := 2000000) (disch := first | assumption | omega) only [jI0, iAdd_j, iSub_j, iMul_j, iNeg_j, Option.bind_some, jlt_t, jlt_f, jlt, jle_t, jle_f, jle, jeq_t, jeq_f, jeq, ↓reduceIte, o100, z29, s0, s112, sh, Int.zero_add, io, x3]
          rw [L_X12_puts_70]
          simp (maxSteps := 2000000) (disch := first | assumption | omega) only [jI0, iAdd_j, iSub_j, iMul_j, iNeg_j, Option.bind_some, jlt_t, jlt_f, jlt, jle_t, jle_f, jle, jeq_t, jeq_f, jeq, ↓reduceIte, o100, g29']
        rw [f_X12_puts]
        simp (maxSteps := 2000000) (disch := first | assumption | omega) only [jI0, iAdd_j, iSub_j, iMul_j, iNeg_j, Option.bind_some, jlt_t, jlt_f, jlt, jle_t, jle_f, jle, jeq_t, jeq_f, jeq, ↓reduceIte, o100, z29, s2]
      have x30 : G' 100 30 = (evA th n m).1 := by
        rw [x2.1]
        unfold bo
        rw [if_neg (by intro e; rw [e] at fd; omega)]
        rfl
      have x113 : ∀ i : Int, 0 ≤ i → i < n → G' 113 i = (evA th n m).2 i := by
        rcases x2.2.2.2.2.1 with y | y
        · rw [y] at fd; omega
        · exact y
      refine ⟨G', ⟨?_, ?_⟩, ?_⟩
      · intro a a0 a1 a2 a3
        rw [x1.1 a a0 a2 a3, up_ne a2, up_ne a0]
        exact t1 a a1
      · intro i hi
        rw [x1.2 i hi, up_ne (by decide), up_eq, u1_ne hi, t1 100 (by decide)]
      · by_cases c1 : w = -1
        · rw [if_pos c1]
          subst c1
          simp (maxSteps := 2000000) (disch := first | assumption | omega) only [jI0, iAdd_j, iSub_j, iMul_j, iNeg_j, Option.bind_some, jlt_t, jlt_f, jlt, jle_t, jle_f, jle, jeq_t, jeq_f, jeq, ↓reduceIte, o100, e29, w30, first, x30]
        · rw [if_neg c1]
          have := x113 w (by omega) c
          simp (maxSteps := 2000000) (disch := first | assumption | omega) only [jI0, iAdd_j, iSub_j, iMul_j, iNeg_j, Option.bind_some, jlt_t, jlt_f, jlt, jle_t, jle_f, jle, jeq_t, jeq_f, jeq, ↓reduceIte, o100, e29, w30, first, l113, this]
    · rw [if_neg c]
      refine ⟨G1, ⟨fun a a0 a1 a2 a3 => t1 a a1, fun i hi => by rw [t1 100 (by decide)]⟩, ?_⟩
      simp (maxSteps := 2000000) (disch := first | assumption | omega) only [jI0, iAdd_j, iSub_j, iMul_j, iNeg_j, Option.bind_some, jlt_t, jlt_f, jlt, jle_t, jle_f, jle, jeq_t, jeq_f, jeq, ↓reduceIte, o100, e29]
end
