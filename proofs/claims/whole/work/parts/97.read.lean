/-! reads, nearest: the component's side -/
abbrev Rds : Type := Int × (Int × Stk) × Int × Int
def rdgF (S R k : Int) (ow uw : Int → Int → Bool) (x : Stk) (s : Rds) : Rds := (if msA S k x ow uw R.toNat < s.1 then msA S k x ow uw R.toNat else s.1, if msA S k x ow uw R.toNat < s.1 then (k, x) else s.2.1, if msA S k x ow uw R.toNat = 0 then s.2.2.1 + 1 else s.2.2.1, if msA S k x ow uw R.toNat = 0 then s.2.2.2 + xkL x else s.2.2.2)
def RdR (b : Int) (M : Int → Int) (s : Rds) : Prop := (M (b + 5) = s.1 ∧ M (b + 6) = s.2.2.1 ∧ M (b + 7) = s.2.2.2) ∧ (0 ≤ s.1 ∧ s.1 ≤ 2147483647) ∧ (0 ≤ s.2.2.2 ∧ s.2.2.2 ≤ s.2.2.1) ∧ (s.1 ≠ 2147483647 → M b = s.2.1.1 ∧ M (b + 1) = xkA s.2.1.2 ∧ M (b + 2) = xkB s.2.1.2 ∧ M (b + 3) = xkF s.2.1.2 ∧ M (b + 4) = xkL s.2.1.2)
def RdC (G : Nat → Int → Int) (S R : Int) (ow uw : Int → Int → Bool) : Prop := (G 25 9 = S ∧ G 25 10 = R) ∧ WtC G S R ow uw
def Rk1 (b : Int) (G G' : Nat → Int → Int) : Prop := (∀ a, a ≠ 26 → a ≠ 27 → a ≠ 30 → a ≠ 32 → G' a = G a) ∧ ∀ i, (i < b ∨ b + 8 ≤ i) → G' 32 i = G 32 i
theorem Rk1.trans {b : Int} {G G1 G2 : Nat → Int → Int} (h : Rk1 b G G1) (h2 : Rk1 b G1 G2) : Rk1 b G G2 := ⟨fun a a1 a2 a3 a4 => by rw [h2.1 a a1 a2 a3 a4, h.1 a a1 a2 a3 a4], fun i hi => by rw [h2.2 i hi, h.2 i hi]⟩
theorem Rk1.same (b : Int) (G : Nat → Int → Int) : Rk1 b G G := ⟨fun _ _ _ _ _ => rfl, fun _ _ => rfl⟩
theorem RdC.keep {S R b : Int} {ow uw : Int → Int → Bool} {G G' : Nat → Int → Int} (h : RdC G S R ow uw) (k : Rk1 b G G') : RdC G' S R ow uw := by
  unfold RdC WtC at *
  rw [k.1 25 (by decide) (by decide) (by decide) (by decide), k.1 28 (by decide) (by decide) (by decide) (by decide), k.1 29 (by decide) (by decide) (by decide) (by decide)]
  exact h
section
variable {K1 K2 : (Int → Int) → (Int → Int) → Prop} {q : Nat × Nat × (Nat → Nat)} {G : Nat → Int → Int} {N : Nat}
theorem oRd1 (hN : 10000 ≤ N) {S R k t b : Int} {ow uw : Int → Int → Bool} {x : Stk} {s : Rds} (hb : b = 0 ∨ b = 8) (hS : 3 ≤ S ∧ S ≤ 32) (hR : 1 ≤ R ∧ R ≤ 8) (hk : 1 ≤ k ∧ k ≤ 4) (hd : R % k = 0) (t0 : 0 ≤ t ∧ t < 1024) (hx : okS S x) (h0 : RdC G S R ow uw) (hw : NowC G S R k x) (hr : RowC G S R k x) (hm : RdR b (G 32) s) (hs : s.2.2.1 ≤ 100000) (f : Nat) : ∃ G' : Nat → Int → Int, (Rk1 b G G' ∧ RdR b (G' 32) (rdgF S R k ow uw x s) ∧ ∀ y, nxS S x = some y → NowC G' S R k y ∧ RowC G' S R k y) ∧ L_X9_readWith_10 N (f + 1) 25 (jI b) (jI 1) (jI t) (hp q G) = L_X9_readWith_10 N f 25 (jI b) (jI (if nxS S x = none then 0 else 1)) (jI (t + 1)) (hp q G') := by
  have hm' := hm
  obtain ⟨⟨m5, m6, m7⟩, ⟨e0, e1⟩, ⟨n0, n1⟩, ms⟩ := hm
  obtain ⟨v, v1, v2⟩ := oMis (q := q) hN hS hR hk hd hx hw hr h0.2 (e := s.1) (by omega)
  have mr := msA_r S k hS x ow uw R.toNat
  have hxl := hx.2.2.2
  have w4' := hw.2.2.2.2.2
  have JJ : ∀ (H : Nat → Int → Int) (s' : Rds), Rk1 b G H → RdR b (H 32) s' → s'.2.2.1 ≤ 100000 → NowC H S R k x → RowC H S R k x → ∃ G' : Nat → Int → Int, (Rk1 b G G' ∧ RdR b (G' 32) (s'.1, s'.2.1, if v = 0 then s'.2.2.1 + 1 else s'.2.2.1, if v = 0 then s'.2.2.2 + xkL x else s'.2.2.2) ∧ ∀ y, nxS S x = some y → NowC G' S R k y ∧ RowC G' S R k y) ∧ J_X9_readWith_77 N (L_X9_readWith_10 N f) 25 (jI b) (jI t) (jI v) (hp q H) = L_X9_readWith_10 N f 25 (jI b) (jI (if nxS S x = none then 0 else 1)) (jI (t + 1)) (hp q G') := by
    intro H s' kH rH nH wH oH
    obtain ⟨⟨p5, p6, p7⟩, q1, q2, q3⟩ := rH
    by_cases c : v = 0
    · have n2 : NowC (up (up H 32 (b + 6) (s'.2.2.1 + 1)) 32 (b + 7) (s'.2.2.2 + xkL x)) S R k x := by
        unfold NowC at *
        rw [up_ne (show (25 : Nat) ≠ 32 by decide), up_ne (show (30 : Nat) ≠ 32 by decide), up_ne (show (25 : Nat) ≠ 32 by decide), up_ne (show (30 : Nat) ≠ 32 by decide)]
        exact wH
      obtain ⟨G', ⟨x1, x2⟩, x3⟩ := oGo (q := q) hN hS hR hk hx n2 (oH.ab rfl rfl (by rw [up_ne (by decide), up_ne (by decide)]) (by rw [up_ne (by decide), up_ne (by decide)]))
      have e32 : G' 32 = u1 (u1 (H 32) (b + 6) (s'.2.2.1 + 1)) (b + 7) (s'.2.2.2 + xkL x) := by rw [x1 32 (by decide) (by decide) (by decide), up_eq, up_eq]
      have w30 := wH.2.2.2.2.2
      have d67 : b + 7 ≠ b + 6 := by omega
      refine ⟨G', ⟨⟨fun a h1 h2 h3 h4 => ?_, fun i hi => ?_⟩, ?_, x2⟩, ?_⟩
      · rw [x1 a h1 h2 h3, up_ne h4, up_ne h4]
        exact kH.1 a h1 h2 h3 h4
      · rw [e32, u1_ne (by omega), u1_ne (by omega)]
        exact kH.2 i hi
      · rw [if_pos c, if_pos c, e32]
        refine ⟨⟨by rw [u1_ne (by omega), u1_ne (by omega)]; exact p5, by rw [u1_ne (by omega), u1_eq], by rw [u1_eq]⟩, q1, by dsimp only; omega, fun h => ?_⟩
        rw [u1_ne (by omega), u1_ne (by omega), u1_ne (by omega), u1_ne (by omega), u1_ne (by omega), u1_ne (by omega), u1_ne (by omega), u1_ne (by omega), u1_ne (by omega), u1_ne (by omega)]
        exact q3 h
      · have t7 : up H 32 (b + 6) (s'.2.2.1 + 1) 32 (b + 7) = s'.2.2.2 := by rw [up_eq, u1_ne d67]; exact p7
        have t30 : up H 32 (b + 6) (s'.2.2.1 + 1) 30 = H 30 := up_ne (by decide)
        unfold J_X9_readWith_77
        simp (maxSteps := 2000000) (disch := first | assumption | omega) only [jI0, iAdd_j, iSub_j, iMul_j, iNeg_j, Option.bind_some, jlt_t, jlt_f, jlt, jle_t, jle_f, jle, jeq_t, jeq_f, jeq, ↓reduceIte, o25, c, l32, p6, s32, t7, l30, t30, w30, x3]
    · obtain ⟨G', ⟨x1, x2⟩, x3⟩ := oGo (q := q) hN hS hR hk hx wH oH
      have e32 : G' 32 = H 32 := x1 32 (by decide) (by decide) (by decide)
      refine ⟨G', ⟨⟨fun a h1 h2 h3 h4 => by rw [x1 a h1 h2 h3]; exact kH.1 a h1 h2 h3 h4, fun i hi => by rw [e32]; exact kH.2 i hi⟩, ?_, x2⟩, ?_⟩
      · rw [if_neg c, if_neg c, e32]
        exact ⟨⟨p5, p6, p7⟩, q1, q2, q3⟩
      · unfold J_X9_readWith_77
        simp (maxSteps := 2000000) (disch := first | assumption | omega) only [jI0, iAdd_j, iSub_j, iMul_j, iNeg_j, Option.bind_some, jlt_t, jlt_f, jlt, jle_t, jle_f, jle, jeq_t, jeq_f, jeq, ↓reduceIte, o25, x3]
  have vz : (v = 0) = (msA S k x ow uw R.toNat = 0) := propext (by omega)
  by_cases c : msA S k x ow uw R.toNat < s.1
  · have ve : v = msA S k x ow uw R.toNat := by omega
    have cp1 := hcp (q := q) (G := G) (a0 := 30) (a := 32) (n0 := 5) (n1 := 16) (sp := 0) (dp := b) (n := 5) (by omega) (by omega) (fun _ => rfl) (fun _ => rfl) (by omega) (by omega) (by omega) (by omega) (by omega) (by omega) (by omega)
    obtain ⟨H, hH⟩ : ∃ H, H = up (cp G 30 0 32 b 5) 32 (b + 5) v := ⟨_, rfl⟩
    have eH : ∀ a, a ≠ 32 → H a = G a := fun a h => by rw [hH, up_ne h, cp_ne h]
    have e32 : ∀ i, H 32 i = if i = b + 5 then v else if b ≤ i ∧ i < b + 5 then G 30 (i - b) else G 32 i := fun i => by
      rw [hH, up_eq, cp_eq]
      by_cases c2 : i = b + 5
      · rw [c2, u1_eq, if_pos rfl]
      · rw [u1_ne c2, if_neg c2, Int.zero_add]
    obtain ⟨_, w3, w4, w5, w6, w7⟩ := hw
    have hw' : NowC G S R k x := ⟨h0.1, w3, w4, w5, w6, w7⟩
    have z : ∀ i : Int, 0 ≤ i → i < 5 → H 32 (b + i) = G 30 i := fun i i0 i5 => by
      have n5 : ¬ b + i = b + 5 := by omega
      have y5 : b ≤ b + i ∧ b + i < b + 5 := by omega
      rw [e32, if_neg n5, if_pos y5, show b + i - b = i by omega]
    have o : ∀ i, (i < b ∨ b + 6 ≤ i) → H 32 i = G 32 i := fun i hi => by
      have n5 : ¬ i = b + 5 := by omega
      have y5 : ¬ (b ≤ i ∧ i < b + 5) := by omega
      rw [e32, if_neg n5, if_neg y5]
    have rr : RdR b (H 32) (v, (k, x), s.2.2.1, s.2.2.2) := by
      refine ⟨⟨by rw [e32, if_pos rfl], by rw [o _ (by omega)]; exact m6, by rw [o _ (by omega)]; exact m7⟩, by dsimp only; omega, ⟨n0, n1⟩, fun _ => ⟨?_, by rw [z 1 (by omega) (by omega)]; exact w4, by rw [z 2 (by omega) (by omega)]; exact w5, by rw [z 3 (by omega) (by omega)]; exact w6, by rw [z 4 (by omega) (by omega)]; exact w7⟩⟩
      have := z 0 (by omega) (by omega)
      rw [Int.add_zero] at this
      rw [this]
      exact w3
    have nH : NowC H S R k x := by
      unfold NowC at *
      rw [eH 25 (by decide), eH 30 (by decide)]
      exact hw'
    obtain ⟨G', ⟨z1, z2, z3⟩, z4⟩ := JJ H _ ⟨fun a _ _ _ h => eH a h, fun i hi => o i (by omega)⟩ rr hs nH (hr.ab rfl rfl (eH 26 (by decide)) (eH 27 (by decide)))
    refine ⟨G', ⟨z1, ?_, z3⟩, ?_⟩
    · have cv : v < s.1 := by omega
      unfold rdgF
      rw [← ve, if_pos cv, if_pos cv]
      exact z2
    · rw [← z4, L_X9_readWith_10]
      have b5 : b + 5 < 16 := by omega
      have cv : v < s.1 := by omega
      have s5 : stI 0 (hp q (cp G 30 0 32 b 5)) 32 (jI (b + 5)) (jI v) = some (hp q H) := by rw [s32 _ _ _ (by omega) (by omega), hH]
      simp (maxSteps := 2000000) (disch := first | assumption | omega) only [jI0, iAdd_j, iSub_j, iMul_j, iNeg_j, Option.bind_some, jlt_t, jlt_f, jlt, jle_t, jle_f, jle, jeq_t, jeq_f, jeq, ↓reduceIte, o25, v2, l32, m5, n30, cp1, s5]
  · obtain ⟨G', ⟨z1, z2, z3⟩, z4⟩ := JJ G s (Rk1.same b G) hm' hs hw hr
    refine ⟨G', ⟨z1, ?_, z3⟩, ?_⟩
    · unfold rdgF
      rw [if_neg c, if_neg c]
      simp only [vz] at z2
      exact z2
    · rw [← z4, L_X9_readWith_10]
      have cv : ¬ v < s.1 := by omega
      simp (maxSteps := 2000000) (disch := first | assumption | omega) only [jI0, iAdd_j, iSub_j, iMul_j, iNeg_j, Option.bind_some, jlt_t, jlt_f, jlt, jle_t, jle_f, jle, jeq_t, jeq_f, jeq, ↓reduceIte, o25, v2, l32, m5]
end
