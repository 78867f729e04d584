/-! basket: a step of both readers that writes into the two spare baskets -/
def StW (T : Int → Int) (n : Int) (G K G' K' : Nat → Int → Int) : Prop := (∀ a, (a < 6 ∨ 10 < a) → G' a = G a) ∧ (∀ a, a ≠ 100 → a ≠ 105 → K' a = K a) ∧ (∀ i : Int, i ≠ 7 → i ≠ 8 → i ≠ 10 → i ≠ 11 → i ≠ 12 → i ≠ 13 → K' 100 i = K 100 i) ∧ RD T n G' K' ∧ (G' 10 0 = 0 → G 10 0 = 0 ∧ K 100 7 ≤ K' 100 7) ∧ (K' 100 12 = 0 → K 100 12 = 0)
section
variable {q : Nat × Nat × (Nat → Nat)} {G K G' K' : Nat → Int → Int} {N : Nat} {T : Int → Int} {n : Int}
theorem StR.w (h : StR T n G K G' K') : StW T n G K G' K' := ⟨fun a ha => h.1 a (by omega), fun a ha _ => h.2.1 a ha, h.2.2⟩
theorem StW.trans {G1 K1 G2 K2 : Nat → Int → Int} (h1 : StW T n G K G1 K1) (h2 : StW T n G1 K1 G2 K2) : StW T n G K G2 K2 := by
  refine ⟨fun a ha => by rw [h2.1 a ha, h1.1 a ha], fun a ha hb => by rw [h2.2.1 a ha hb, h1.2.1 a ha hb], fun i i7 i8 i10 i11 i12 i13 => by rw [h2.2.2.1 i i7 i8 i10 i11 i12 i13, h1.2.2.1 i i7 i8 i10 i11 i12 i13], h2.2.2.2.1, fun w => ?_, fun w => h1.2.2.2.2.2 (h2.2.2.2.2.2 w)⟩
  have x := h2.2.2.2.2.1 w
  have y := h1.2.2.2.2.1 x.1
  exact ⟨y.1, by omega⟩
theorem StW.rd (h : StW T n G K G' K') : RD T n G' K' := h.2.2.2.1
theorem StR.rd (h : StR T n G K G' K') : RD T n G' K' := h.2.2.2.1
theorem StW.upG (h : StW T n G K G' K') {c : Nat} (hc : 6 ≤ c ∧ c ≤ 9) (i v : Int) : StW T n G K (up G' c i v) K' := by
  have e10 : up G' c i v 10 = G' 10 := up_ne (by omega)
  refine ⟨fun a ha => by rw [up_ne (by omega)]; exact h.1 a ha, h.2.1, h.2.2.1, h.rd.of (up_ne (by omega)) e10 rfl rfl, ?_, h.2.2.2.2.2⟩
  rw [e10]
  exact h.2.2.2.2.1
theorem StW.upK (h : StW T n G K G' K') (j u : Int) : StW T n G K G' (up K' 105 j u) := by
  have e10 : up K' 105 j u 100 = K' 100 := up_ne (by omega)
  refine ⟨h.1, fun a ha hb => by rw [up_ne hb]; exact h.2.1 a ha hb, ?_, h.rd.of rfl rfl e10 (up_ne (by omega)), ?_, ?_⟩
  · rw [e10]; exact h.2.2.1
  · rw [e10]; exact h.2.2.2.2.1
  · rw [e10]; exact h.2.2.2.2.2
/-- a number is taken, and written into both -/
theorem sTakeW (hN : 10000 ≤ N) (h : RD T n G K) {lo hi : Int} (hl : 0 ≤ lo ∧ lo ≤ 1000) (hh : -1000000 ≤ hi ∧ hi ≤ 1000000) {c : Nat} (hc : 6 ≤ c ∧ c ≤ 9) (i j : Int) : ∃ (G' K' G1 K1 : Nat → Int → Int) (v u : Int), StW T n G K G' K' ∧ ((∀ a, a ≠ 10 → a ≠ c → G' a = G a) ∧ G' c = u1 (G c) i v ∧ K' 105 = u1 (K 105) j u) ∧ ((v = 0 ∨ (lo ≤ v ∧ v ≤ hi)) ∧ Imp (K' 100 12 = 0) (u = v ∧ lo ≤ v ∧ v ≤ hi) ∧ Imp (G' 10 0 = 0) (u = v ∧ lo ≤ v ∧ v ≤ hi)) ∧ (f_X8_takeNumber N 10 (jI lo) (jI hi) (hp q G) = some (jI v, hp q G1) ∧ up G1 c i v = G') ∧ (f_X12_takes N 100 (jI lo) (jI hi) (hp q K) = some (jI u, hp q K1) ∧ up K1 105 j u = K') := by
  obtain ⟨G1, K1, v, u, s, ⟨b1, b2, b3⟩, e1, e2⟩ := sTake (N := N) (q := q) hN h hl hh
  have e10 : up G1 c i v 10 = G1 10 := up_ne (by omega)
  have k10 : up K1 105 j u 100 = K1 100 := up_ne (by omega)
  refine ⟨up G1 c i v, up K1 105 j u, G1, K1, v, u, (s.w.upG hc i v).upK j u, ⟨fun a ha hb => by rw [up_ne hb]; exact s.1 a ha, by rw [up_eq, s.1 c (by omega)], by rw [up_eq, s.2.1 105 (by omega)]⟩, ⟨b1, ?_, ?_⟩, ⟨e1, rfl⟩, ⟨e2, rfl⟩⟩
  · rw [k10]; exact b3
  · rw [e10]; exact fun w => b3 (b2 w)
theorem oTakeD {x y : Int32} (w : G 10 0 ≠ 0 ∧ 0 ≤ G 10 0 ∧ G 10 0 ≤ 4) : f_X8_takeNumber N 10 x y (hp q G) = some (jI 0, hp q G) := by
  have w0 := w.1
  unfold f_X8_takeNumber f_X8_fail
  simp (maxSteps := 2000000) (disch := first | assumption | omega) only [jI0, iAdd_j, iSub_j, iMul_j, iNeg_j, Option.bind_some, jlt_t, jlt_f, jlt, jle_t, jle_f, jle, jeq_t, jeq_f, jeq, ↓reduceIte, o10, w0]
end
/-- what a line leaves: the two spare baskets hold the same while nothing is wrong -/
def LnR (T : Int → Int) (n : Int) (G K G' K' : Nat → Int → Int) : Prop := StW T n G K G' K' ∧ (G' 10 0 = 0 → (BV (K' 105) ∧ BR (G' 6) (G' 7) (G' 8) (G' 9) (K' 105)) ∧ K' 105 142 = K 105 142)
