/-! basket: the whole reading; the component's answer does not hang on the model's cells -/
section
variable {q : Nat × Nat × (Nat → Nat)} {G K H : Nat → Int → Int} {N : Nat} {T : Int → Int} {n : Int}
theorem jIs {a b : Int} (h : some (jI a) = some (jI b)) (h1 : -2147483648 ≤ a ∧ a < 2147483648) (h2 : -2147483648 ≤ b ∧ b < 2147483648) : a = b := (jI_eq h1.1 h1.2 h2.1 h2.2).mp (Option.some.inj h)
theorem BR.rk {g kt bt st A : Int → Int} (hV : BV A) (hR : BR g kt bt st A) {k w : Int} (k0 : 0 ≤ k) (k1 : k < A 1) (w0 : 0 ≤ w) (w1 : w < 4) : -2147483648 ≤ kt (k * 4 + w) ∧ kt (k * 4 + w) < 2147483648 := by
  rw [hR.2.1 k w k0 k1 w0 w1]
  have v := hV.2.1 k k0 k1
  have w4 : w = 0 ∨ w = 1 ∨ w = 2 ∨ w = 3 := by omega
  rcases w4 with e | e | e | e
  · rw [e, show 2 + 6 * (0 : Int) + k = 2 + k by omega]; omega
  · rw [e, show 2 + 6 * (1 : Int) + k = 8 + k by omega]; omega
  · rw [e, show 2 + 6 * (2 : Int) + k = 14 + k by omega]; omega
  · rw [e, show 2 + 6 * (3 : Int) + k = 20 + k by omega]; omega
theorem BR.rb {g kt bt st A : Int → Int} (hV : BV A) (hR : BR g kt bt st A) {b w : Int} (k0 : 0 ≤ b) (k1 : b < A 26) (w0 : 0 ≤ w) (w1 : w < 7) : -2147483648 ≤ bt (b * 11 + w) ∧ bt (b * 11 + w) < 2147483648 := by
  rw [hR.2.2.1 b w k0 k1 w0 w1]
  have v := hV.2.2.1 b k0 k1
  have v0 := hV.1
  have w4 : w = 0 ∨ w = 1 ∨ w = 2 ∨ w = 3 ∨ w = 4 ∨ w = 5 ∨ w = 6 := by omega
  rcases w4 with e | e | e | e | e | e | e
  · rw [e, show 27 + 8 * (0 : Int) + b = 27 + b by omega]; omega
  · rw [e, show 27 + 8 * (1 : Int) + b = 35 + b by omega]; omega
  · rw [e, show 27 + 8 * (2 : Int) + b = 43 + b by omega]; omega
  · rw [e, show 27 + 8 * (3 : Int) + b = 51 + b by omega]; omega
  · rw [e, show 27 + 8 * (4 : Int) + b = 59 + b by omega]; omega
  · rw [e, show 27 + 8 * (5 : Int) + b = 67 + b by omega]; omega
  · rw [e, show 27 + 8 * (6 : Int) + b = 75 + b by omega]; omega
theorem BR.tr {A B : Int → Int} (e : hp q G = hp q H) (hV : BV A) (hR : BR (G 6) (G 7) (G 8) (G 9) A) (hV' : BV B) (hR' : BR (H 6) (H 7) (H 8) (H 9) B) : BR (G 6) (G 7) (G 8) (G 9) B := by
  have v := hV.1
  have v' := hV'.1
  have r := hR.1
  have r' := hR'.1
  obtain ⟨_, g0, g1, g2, g3, g4, g5, g6, _⟩ := o6 (q := q) (G := G)
  obtain ⟨_, h0, h1, h2, h3, h4, h5, h6, _⟩ := o6 (q := q) (G := H)
  rw [e] at g0 g1 g2 g3 g4 g5 g6
  have e0 := jIs (g0.symm.trans h0) (by omega) (by omega)
  have e1 := jIs (g1.symm.trans h1) (by omega) (by omega)
  have e2 := jIs (g2.symm.trans h2) (by omega) (by omega)
  have e3 := jIs (g3.symm.trans h3) (by omega) (by omega)
  have e4 := jIs (g4.symm.trans h4) (by omega) (by omega)
  have e5 := jIs (g5.symm.trans h5) (by omega) (by omega)
  have e6 := jIs (g6.symm.trans h6) (by omega) (by omega)
  have a1 : A 1 = B 1 := by omega
  have a26 : A 26 = B 26 := by omega
  have a115 : A 115 = B 115 := by omega
  have eK : ∀ i : Int, 0 ≤ i → i < 24 → some (jI (G 7 i)) = some (jI (H 7 i)) := fun i i0 i1 => by
    have x := l7 q G i0 i1
    rw [e] at x
    exact x.symm.trans (l7 q H i0 i1)
  have eB : ∀ i : Int, 0 ≤ i → i < 88 → some (jI (G 8 i)) = some (jI (H 8 i)) := fun i i0 i1 => by
    have x := l8 q G i0 i1
    rw [e] at x
    exact x.symm.trans (l8 q H i0 i1)
  have eS : ∀ i : Int, 0 ≤ i → i < 24 → some (jI (G 9 i)) = some (jI (H 9 i)) := fun i i0 i1 => by
    have x := l9 q G i0 i1
    rw [e] at x
    exact x.symm.trans (l9 q H i0 i1)
  have b27 : ∀ b : Int, 0 ≤ b → b < B 26 → A (27 + b) = B (27 + b) := fun b b0 b1 => by
    have x := hR.2.2.1 b 0 b0 (by omega) (by decide) (by decide)
    have y := hR'.2.2.1 b 0 b0 b1 (by decide) (by decide)
    have z := jIs (eB (b * 11 + 0) (by omega) (by omega)) (hR.rb hV b0 (by omega) (by decide) (by decide)) (hR'.rb hV' b0 b1 (by decide) (by decide))
    rw [show 27 + 8 * (0 : Int) + b = 27 + b by omega] at x y
    omega
  refine ⟨?_, fun k w k0 k1 w0 w1 => ?_, fun b w b0 b1 w0 w1 => ?_, fun b j b0 b1 j0 j1 => ?_, fun s s0 s1 => ?_⟩
  · omega
  · rw [← hR'.2.1 k w k0 k1 w0 w1]
    exact jIs (eK _ (by omega) (by omega)) (hR.rk hV k0 (by omega) w0 w1) (hR'.rk hV' k0 k1 w0 w1)
  · rw [← hR'.2.2.1 b w b0 b1 w0 w1]
    exact jIs (eB _ (by omega) (by omega)) (hR.rb hV b0 (by omega) w0 w1) (hR'.rb hV' b0 b1 w0 w1)
  · have w := hV'.2.2.1 b b0 b1
    have y := b27 b b0 b1
    have c1 := hV.2.2.2.1 b j b0 (by omega) j0 (by omega)
    have c2 := hV'.2.2.2.1 b j b0 b1 j0 j1
    have d1 := hR.2.2.2.1 b j b0 (by omega) j0 (by omega)
    have d2 := hR'.2.2.2.1 b j b0 b1 j0 j1
    rw [← d2]
    exact jIs (eB _ (by omega) (by omega)) (by omega) (by omega)
  · have c1 := hV.2.2.2.2 s s0 (by omega)
    have c2 := hV'.2.2.2.2 s s0 s1
    have d1 := hR.2.2.2.2 s s0 (by omega)
    have d2 := hR'.2.2.2.2 s s0 s1
    rw [← d2.1, ← d2.2.1, ← d2.2.2]
    exact ⟨jIs (eS _ (by omega) (by omega)) (by omega) (by omega), jIs (eS _ (by omega) (by omega)) (by omega) (by omega), jIs (eS _ (by omega) (by omega)) (by omega) (by omega)⟩
theorem BVplain {A : Int → Int} (h : ∀ j : Int, 0 ≤ j → j < 143 → A j = if j = 140 then 2 else if j = 141 then 100 else 0) : BV A ∧ A 0 = 0 ∧ A 1 = 0 ∧ A 26 = 0 ∧ A 115 = 0 ∧ A 140 = 2 ∧ A 141 = 100 ∧ A 142 = 0 := by
  have z0 : A 0 = 0 := h 0 (by decide) (by decide)
  have z1 : A 1 = 0 := h 1 (by decide) (by decide)
  have z26 : A 26 = 0 := h 26 (by decide) (by decide)
  have z115 : A 115 = 0 := h 115 (by decide) (by decide)
  have z140 : A 140 = 2 := h 140 (by decide) (by decide)
  have z141 : A 141 = 100 := h 141 (by decide) (by decide)
  have z142 : A 142 = 0 := h 142 (by decide) (by decide)
  exact ⟨⟨by omega, fun k k0 k1 => absurd k1 (by omega), fun k k0 k1 => absurd k1 (by omega), fun k j k0 k1 => absurd k1 (by omega), fun k k0 k1 => absurd k1 (by omega)⟩, z0, z1, z26, z115, z140, z141, z142⟩
/-- both read the whole text -/
theorem sRead (hN : 10000 ≤ N) (hc : TkC G n T) (hm : TkM K n T) (x : G 10 0 = 0 ∧ G 10 1 = -1 ∧ G 10 5 = 0) (y : K 100 8 = 0 ∧ K 100 12 = 0) (z : G 6 0 = 0 ∧ G 6 1 = 0 ∧ G 6 2 = 0 ∧ G 6 3 = 0 ∧ G 6 4 = 2 ∧ G 6 5 = 100 ∧ G 6 6 = 0) (p : ∀ j : Int, 0 ≤ j → j < 143 → K 105 j = if j = 140 then 2 else if j = 141 then 100 else 0) : ∃ (G' K' : Nat → Int → Int) (r : Int), ((∀ a, (a < 6 ∨ 10 < a) → G' a = G a) ∧ (∀ a, a ≠ 100 → a ≠ 105 → K' a = K a) ∧ (∀ i : Int, i ≠ 7 → i ≠ 8 → i ≠ 10 → i ≠ 11 → i ≠ 12 → i ≠ 13 → K' 100 i = K 100 i)) ∧ RD T n G' K' ∧ ((r = 1 ∧ G' 10 0 = 0 ∧ BV (K' 105) ∧ BR (G' 6) (G' 7) (G' 8) (G' 9) (K' 105)) ∨ (r = 0 ∧ G' 10 0 ≠ 0 ∧ K' 100 12 ≠ 0)) ∧ ((f_X8_advance N 10 (hp q G)).bind fun h8 => L_X8_readBasket_41 N N 10 6 (jI 0) h8) = some (jI r, hp q G') ∧ ((f_X12_next N 100 (hp q K)).bind fun h11 => L_X12_basket_57 N N 100 h11) = J_X12_basket_80 N 100 (hp q K') := by
  obtain ⟨bp, p0, p1, p26, p115, p140, p141, p142⟩ := BVplain p
  have t3 := hc.2.2.1
  obtain ⟨G1, K1, ⟨a1, a2, a3, a4, a5⟩, e1, e2⟩ := sAdv0 (N := N) (q := q) hN hc hm x.1 x.2.1 y.2 (by omega) (by omega) (by omega)
  obtain ⟨G', K', r, s, rr, f1, f2⟩ := sLoop (N := N) (q := q) hN 500 N N 0 G1 K1 (by omega) (by omega) (by omega) (by omega) a4 (fun _ => by
    rw [a2 105 (by decide), a1 6 (by decide), a1 7 (by decide), a1 8 (by decide), a1 9 (by decide)]
    refine ⟨bp, ⟨by omega, fun k w k0 k1 => absurd k1 (by omega), fun b w b0 b1 => absurd b1 (by omega), fun b j b0 b1 => absurd b1 (by omega), fun s s0 s1 => absurd s1 (by omega)⟩, by omega, by omega⟩)
  refine ⟨G', K', r, ⟨fun a ha => by rw [s.1 a ha, a1 a (by omega)], fun a h1 h2 => by rw [s.2.1 a h1 h2, a2 a h1], fun i i7 i8 i10 i11 i12 i13 => by rw [s.2.2.1 i i7 i8 i10 i11 i12 i13, a3 i i7 i8 i10 i11 i12 i13]⟩, s.rd, rr, ?_, ?_⟩
  · rw [e1, Option.bind_some]
    exact f1
  · rw [e2, Option.bind_some]
    exact f2
/-- the model's beginning -/
theorem mPre (hN : 10000 ≤ N) (hT : K 100 0 = 0) (hn : 0 ≤ n ∧ n ≤ K 100 6 ∧ K 100 6 ≤ 500) : ∃ K0 : Nat → Int → Int, ((∀ a, a ≠ 100 → a ≠ 105 → K0 a = K a) ∧ (K0 100 9 = n ∧ K0 100 6 = 0 ∧ K0 100 8 = 0 ∧ K0 100 12 = 0 ∧ K0 100 0 = 0) ∧ ∀ j : Int, 0 ≤ j → j < 143 → K0 105 j = if j = 140 then 2 else if j = 141 then 100 else 0) ∧ f_X12_basket N 100 (jI n) (hp q K) = (f_X12_next N 100 (hp q K0)).bind fun h11 => L_X12_basket_57 N N 100 h11 := by
  generalize hK1 : up (up (up (up K 100 9 n) 100 6 0) 100 8 0) 100 12 0 = K1
  have E : K1 100 = u1 (u1 (u1 (u1 (K 100) 9 n) 6 0) 8 0) 12 0 := by rw [← hK1, up_eq, up_eq, up_eq, up_eq]
  obtain ⟨K0, ⟨p1, p2⟩, p3⟩ := mPlain (N := N) (q := q) (K := K1) hN
  have wt := w100t (q := q) hT
  refine ⟨K0, ⟨fun a h1 h2 => by rw [p1 a h2, ← hK1, up_ne h1, up_ne h1, up_ne h1, up_ne h1], ?_, p2⟩, ?_⟩
  · rw [p1 100 (by decide), E]
    exact ⟨rfl, rfl, rfl, rfl, hT⟩
  · unfold f_X12_basket
    simp (maxSteps := 2000000) (disch := first | assumption | omega) only [jI0, iAdd_j, iSub_j, iMul_j, iNeg_j, Option.bind_some, jlt_t, jlt_f, jlt, jle_t, jle_f, jle, jeq_t, jeq_f, jeq, ↓reduceIte, wt, o100, jlL, X12_within, bI_t, w100, hK1, p3]
/-- the model's end -/
theorem mFin0 (w : 1 ≤ K 100 12 ∧ K 100 12 ≤ 4) : J_X12_basket_80 N 100 (hp q K) = some (jI (-30 - K 100 12), hp q (up (up (up K 100 14 (K 100 12)) 100 15 (K 100 13)) 101 (rfz (-30 - K 100 12)) (up (up K 100 14 (K 100 12)) 100 15 (K 100 13) 101 (rfz (-30 - K 100 12)) + 1))) := by
  have u12 : up K 100 14 (K 100 12) 100 12 = K 100 12 := by rw [up_eq, u1_ne (by decide)]
  have u13 : up K 100 14 (K 100 12) 100 13 = K 100 13 := by rw [up_eq, u1_ne (by decide)]
  have v12 : up (up K 100 14 (K 100 12)) 100 15 (K 100 13) 100 12 = K 100 12 := by rw [up_eq, u1_ne (by decide), up_eq, u1_ne (by decide)]
  have n0 : K 100 12 ≠ 0 := by omega
  unfold J_X12_basket_80 J_X12_basket_104
  simp (maxSteps := 2000000) (disch := first | assumption | omega) only [jI0, iAdd_j, iSub_j, iMul_j, iNeg_j, Option.bind_some, jlt_t, jlt_f, jlt, jle_t, jle_f, jle, jeq_t, jeq_f, jeq, ↓reduceIte, o100, w100, u12, u13, v12, n0, X12_no]
theorem mFin1 (hN : 10000 ≤ N) (w : K 100 12 = 0) : ∃ K' : Nat → Int → Int, ((∀ a, a ≠ 102 → a ≠ 100 → K' a = K a) ∧ (K' 100 14 = 0 ∧ K' 100 15 = -1 ∧ ∀ i : Int, i ≠ 14 → i ≠ 15 → K' 100 i = K 100 i) ∧ ∀ j : Int, 0 ≤ j → K' 102 j = if j < 143 then K 105 j else if j = 143 ∨ j = 400 then -1 else K 102 j) ∧ J_X12_basket_80 N 100 (hp q K) = some (jI (K 105 142), hp q K') := by
  have u12 : up K 100 14 0 100 12 = 0 := by rw [up_eq, u1_ne (by decide)]; exact w
  have v12 : up (up K 100 14 0) 100 15 (-1) 100 12 = 0 := by rw [up_eq, u1_ne (by decide)]; exact u12
  have e5 : up (up K 100 14 0) 100 15 (-1) 105 = K 105 := by rw [up_ne (by decide), up_ne (by decide)]
  have e2 : up (up K 100 14 0) 100 15 (-1) 102 = K 102 := by rw [up_ne (by decide), up_ne (by decide)]
  obtain ⟨K', ⟨p1, p2⟩, p3⟩ := mTake (N := N) (q := q) (K := up (up K 100 14 0) 100 15 (-1)) hN
  rw [e5] at p2 p3
  rw [e2] at p2
  refine ⟨K', ⟨fun a h1 h2 => by rw [p1 a h1, up_ne h2, up_ne h2], ⟨?_, ?_, fun i h1 h2 => ?_⟩, p2⟩, ?_⟩
  · rw [p1 100 (by decide), up_eq, u1_ne (by decide), up_eq, u1_eq]
  · rw [p1 100 (by decide), up_eq, u1_eq]
  · rw [p1 100 (by decide), up_eq, u1_ne h2, up_eq, u1_ne h1]
  · unfold J_X12_basket_80 J_X12_basket_104
    simp (maxSteps := 2000000) (disch := first | assumption | omega) only [jI0, iAdd_j, iSub_j, iMul_j, iNeg_j, Option.bind_some, jlt_t, jlt_f, jlt, jle_t, jle_f, jle, jeq_t, jeq_f, jeq, ↓reduceIte, o100, w, w100, u12, v12, p3]
end
