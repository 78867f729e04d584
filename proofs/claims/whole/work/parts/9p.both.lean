/-! basket: both readers at the same token -/
theorem smB_t {T : Int → Int} {p : Int} : (smB T p = true) = (97 ≤ T p ∧ T p ≤ 122) := propext ⟨fun h => of_decide_eq_true h, fun h => decide_eq_true h⟩
theorem smB_f {T : Int → Int} {p : Int} : (smB T p = false) = ¬ (97 ≤ T p ∧ T p ≤ 122) := propext ⟨fun h => of_decide_eq_false h, fun h => decide_eq_false h⟩
theorem dgB_t {T : Int → Int} {p : Int} : (dgB T p = true) = (48 ≤ T p ∧ T p ≤ 57) := propext ⟨fun h => of_decide_eq_true h, fun h => decide_eq_true h⟩
theorem dgB_f {T : Int → Int} {p : Int} : (dgB T p = false) = ¬ (48 ≤ T p ∧ T p ≤ 57) := propext ⟨fun h => of_decide_eq_false h, fun h => decide_eq_false h⟩
theorem ru_in (P : Int → Bool) (n : Int) : ∀ (d : Nat) (p i : Int), p ≤ i → i < ru P n d p → P i = true
  | 0, p, i, h1, h2 => absurd h2 (by rw [ru]; omega)
  | d + 1, p, i, h1, h2 => by
    rw [ru] at h2
    split at h2
    · rename_i c
      by_cases ci : i = p
      · rw [ci]; exact c.2
      · exact ru_in P n d (p + 1) i (by omega) h2
    · exact absurd h2 (by omega)
theorem ru_st (P : Int → Bool) (n : Int) (d : Nat) (p : Int) (h : p < n) (hP : P p = true) : p < ru P n (d + 1) p := by
  rw [ru, if_pos ⟨h, hP⟩]
  have := ru_ge P n d (p + 1)
  omega
theorem isW_u {T : Int → Int} {s e : Int} {w w' : List Int} (h : isW T s e w) (h' : isW T s e w') : w = w' := by
  have l : w.length = w'.length := by
    have := h.1
    have := h'.1
    omega
  apply List.ext_getElem l
  intro j a b
  have x := h.2 j a
  have y := h'.2 j b
  rw [List.getD_eq_getElem?_getD, List.getElem?_eq_getElem a, Option.getD_some] at x
  rw [List.getD_eq_getElem?_getD, List.getElem?_eq_getElem b, Option.getD_some] at y
  exact x.symm.trans y
theorem KeyV.u {T : Int → Int} {s e v v' : Int} (h : KeyV T s e v) (h' : KeyV T s e v') : v = v' := by
  rcases h with ⟨a1, a2⟩ | ⟨i, a1, a2, a3⟩
  · rcases h' with ⟨b1, b2⟩ | ⟨j, b1, b2, b3⟩
    · rw [a1, b1]
    · exact absurd b3 (a2 j b1)
  · rcases h' with ⟨b1, b2⟩ | ⟨j, b1, b2, b3⟩
    · exact absurd a3 (b2 i a1)
    · by_cases c : i = j
      · rw [a2, b2, c]
      · exact absurd (isW_u a3 b3) (sjI_ne i a1 j b1 c)
theorem KeyV.ex (T : Int → Int) (s e : Int) : ∃ v, KeyV T s e v ∧ 0 ≤ v ∧ v ≤ 17 := by
  by_cases c : ∃ i : Nat, i < 17 ∧ isW T s e (sjI i)
  · obtain ⟨i, h1, h2⟩ := c
    exact ⟨i, .inr ⟨i, h1, rfl, h2⟩, by omega, by omega⟩
  · exact ⟨17, .inl ⟨rfl, fun i hi h => c ⟨i, hi, h⟩⟩, by omega, by omega⟩
/-- both readers hold the same token, no fault yet -/
def AlR (T : Int → Int) (n : Int) (g k : Int → Int) : Prop :=
  (g 0 = 0 ∧ g 1 = -1 ∧ k 12 = 0 ∧ g 4 = k 7 ∧ g 5 = k 8) ∧ (0 ≤ k 7 ∧ k 7 ≤ k 8 ∧ k 8 ≤ n) ∧ ((g 6 = 0 ∧ k 10 = 20) ∨ (g 6 = 1 ∧ (0 ≤ k 10 ∧ k 10 ≤ 17) ∧ KeyV T (k 7) (k 8) (k 10)) ∨ (g 6 = 2 ∧ k 10 = 18 ∧ g 7 = k 11 ∧ 0 ≤ k 11 ∧ k 11 ≤ 9999) ∨ (g 6 = 3 ∧ k 10 = 19)) ∧ (k 10 ≠ 20 → k 7 < k 8) ∧ (k 10 = 20 → k 7 = n)
/-- the component has failed; the model has failed alike, or holds the token that no word is -/
def DdR (g k : Int → Int) : Prop := (1 ≤ g 0 ∧ g 0 ≤ 4 ∧ 0 ≤ g 1 ∧ g 1 ≤ 500) ∧ ((k 12 = g 0 ∧ k 13 = g 1) ∨ (g 0 = 1 ∧ k 12 = 0 ∧ k 10 = 21 ∧ k 7 = g 1))
def RD (T : Int → Int) (n : Int) (G K : Nat → Int → Int) : Prop := TkC G n T ∧ TkM K n T ∧ (AlR T n (G 10) (K 100) ∨ DdR (G 10) (K 100))
/-- p → q, kept from omega's eyes -/
def Imp (p q : Prop) : Prop := p → q
/-- what a step of both readers leaves -/
def StR (T : Int → Int) (n : Int) (G K G' K' : Nat → Int → Int) : Prop := (∀ a, a ≠ 10 → G' a = G a) ∧ (∀ a, a ≠ 100 → K' a = K a) ∧ (∀ i : Int, i ≠ 7 → i ≠ 8 → i ≠ 10 → i ≠ 11 → i ≠ 12 → i ≠ 13 → K' 100 i = K 100 i) ∧ RD T n G' K' ∧ (G' 10 0 = 0 → G 10 0 = 0 ∧ K 100 7 ≤ K' 100 7) ∧ (K' 100 12 = 0 → K 100 12 = 0)
section
variable {q : Nat × Nat × (Nat → Nat)} {G K : Nat → Int → Int} {N : Nat} {T : Int → Int} {n : Int}
theorem RD.al (h : RD T n G K) (w : G 10 0 = 0) : AlR T n (G 10) (K 100) := by
  rcases h.2.2 with a | d
  · exact a
  · have := d.1
    exact absurd w (by omega)
theorem RD.dd (h : RD T n G K) (w : G 10 0 ≠ 0) : DdR (G 10) (K 100) := by
  rcases h.2.2 with a | d
  · exact absurd a.1.1 w
  · exact d
theorem RD.rng (h : RD T n G K) : 0 ≤ G 10 0 ∧ G 10 0 ≤ 4 := by
  rcases h.2.2 with a | d
  · have := a.1.1
    omega
  · have := d.1
    omega
theorem RD.refl (h : RD T n G K) : StR T n G K G K := ⟨fun _ _ => rfl, fun _ _ => rfl, fun _ _ _ _ _ _ _ => rfl, h, fun w => ⟨w, Int.le_refl _⟩, id⟩
theorem StR.trans {G1 K1 G2 K2 : Nat → Int → Int} (h1 : StR T n G K G1 K1) (h2 : StR T n G1 K1 G2 K2) : StR T n G K G2 K2 := by
  refine ⟨fun a ha => by rw [h2.1 a ha, h1.1 a ha], fun a ha => by rw [h2.2.1 a ha, h1.2.1 a ha], fun i i7 i8 i10 i11 i12 i13 => by rw [h2.2.2.1 i i7 i8 i10 i11 i12 i13, h1.2.2.1 i i7 i8 i10 i11 i12 i13], h2.2.2.2.1, fun w => ?_, fun w => h1.2.2.2.2.2 (h2.2.2.2.2.2 w)⟩
  have x := h2.2.2.2.2.1 w
  have y := h1.2.2.2.2.1 x.1
  exact ⟨y.1, by omega⟩
theorem RD.of {G' K' : Nat → Int → Int} (h : RD T n G K) (g1 : G' 1 = G 1) (g10 : G' 10 = G 10) (k1 : K' 100 = K 100) (k4 : K' 104 = K 104) : RD T n G' K' := by
  unfold RD TkC TkM at *
  rw [g1, g10, k1, k4]
  exact h
/-- a step of both, from the end of what they have read -/
theorem sAdv0 (hN : 10000 ≤ N) (hc : TkC G n T) (hm : TkM K n T) (w0 : G 10 0 = 0) (w1 : G 10 1 = -1) (w2 : K 100 12 = 0) (w5 : G 10 5 = K 100 8) (p0 : 0 ≤ K 100 8) (p1 : K 100 8 ≤ n) : ∃ G' K' : Nat → Int → Int, ((∀ a, a ≠ 10 → G' a = G a) ∧ (∀ a, a ≠ 100 → K' a = K a) ∧ (∀ i : Int, i ≠ 7 → i ≠ 8 → i ≠ 10 → i ≠ 11 → i ≠ 12 → i ≠ 13 → K' 100 i = K 100 i) ∧ RD T n G' K' ∧ K 100 8 ≤ K' 100 7) ∧ f_X8_advance N 10 (hp q G) = some (hp q G') ∧ f_X12_next N 100 (hp q K) = some (hp q K') := by
  obtain ⟨G', ⟨a1, a2, a3, a4⟩, ea⟩ := oAdv (N := N) (q := q) hN hc (by omega) (by omega) w0
  have s0 := ru_ge (spB T) n 600 (K 100 8)
  have s1 := ru_le (spB T) n 600 (K 100 8) p1
  have es : skT T n (K 100 8) = ru (spB T) n 600 (K 100 8) := rfl
  rw [← es] at s0 s1
  have l0 := ru_ge (smB T) n 600 (skT T n (K 100 8))
  have l1 := ru_le (smB T) n 600 (skT T n (K 100 8)) s1
  have el : leT T n (skT T n (K 100 8)) = ru (smB T) n 600 (skT T n (K 100 8)) := rfl
  rw [← el] at l0 l1
  obtain ⟨kv, kv1, kv2, kv3⟩ := KeyV.ex T (skT T n (K 100 8)) (leT T n (skT T n (K 100 8)))
  obtain ⟨K', ⟨b1, b2, b3⟩, eb⟩ := mAdv (N := N) (q := q) (kv := kv) hN hm p0 p1 (fun H h1 h2 h3 h4 => by
    obtain ⟨v, v1, v2⟩ := mKey (N := N) (q := q) hN h4 h2 h3 (by omega) l0 l1
    rw [v1.u kv1] at v2
    exact v2)
  rw [w5] at a3
  have t3 := hc.2.2.1
  have d0 := ru_ge (dgB T) n 600 (skT T n (K 100 8))
  have d1 := ru_le (dgB T) n 600 (skT T n (K 100 8)) s1
  have di := ru_in (dgB T) n 600 (skT T n (K 100 8))
  have ds := ru_st (dgB T) n 599 (skT T n (K 100 8))
  have ls := ru_st (smB T) n 599 (skT T n (K 100 8))
  have ed : deT T n (skT T n (K 100 8)) = ru (dgB T) n 600 (skT T n (K 100 8)) := rfl
  rw [show (599 : Nat) + 1 = 600 from rfl, ← ed] at ds
  rw [show (599 : Nat) + 1 = 600 from rfl, ← el] at ls
  rw [← ed] at d0 d1 di
  generalize skT T n (K 100 8) = s at *
  have nr := nmv_r (T := T) (s := s) (j := min (deT T n s - s).toNat 4) (by omega) (fun i i0 i1 => of_decide_eq_true (di i i0 (by omega)))
  unfold AdC at a3
  unfold AdM at b3
  simp only [smB_t, smB_f, dgB_t, dgB_f] at a3 b3 ds ls
  have k12 : K' 100 12 = 0 := by rw [b2 12 (by decide) (by decide) (by decide) (by decide)]; exact w2
  refine ⟨G', K', ⟨a1, b1, fun i i7 i8 i10 i11 i12 i13 => b2 i i7 i8 i10 i11, ⟨a2, ?_, ?_⟩, by omega⟩, ea, eb⟩
  · unfold TkM at *
    rw [b1 104 (by decide), b2 9 (by decide) (by decide) (by decide) (by decide)]
    exact hm
  obtain ⟨c4, C⟩ := a3
  obtain ⟨m7, M⟩ := b3
  rcases C with ⟨x1, x2, x3, x4⟩ | ⟨x1, x2, x3, x4, x5⟩ | ⟨x1, x2, x3, x4, x5, x6, x7⟩ | ⟨x1, x2, x3, x4, x5⟩ | ⟨x1, x2, x3, x4, x5, x6⟩
  · left
    have y : K' 100 10 = 20 ∧ K' 100 8 = s := by omega
    have w1' := a4 x4
    exact ⟨⟨x4, by omega, k12, by omega, by omega⟩, ⟨by omega, by omega, by omega⟩, .inl ⟨x2, y.1⟩, fun h => absurd y.1 h, fun _ => by omega⟩
  · left
    have y : K' 100 10 = kv ∧ K' 100 8 = leT T n s := by omega
    have w1' := a4 x5
    have lt := ls x1 x2
    exact ⟨⟨x5, by omega, k12, by omega, by omega⟩, ⟨by omega, by omega, by omega⟩, .inr (.inl ⟨x3, ⟨by omega, by omega⟩, by rw [m7, y.1, y.2]; exact kv1⟩), fun _ => by omega, fun h => absurd h (by omega)⟩
  · have lt := ds x1 x2
    by_cases c : 4 < deT T n s - s
    · right
      have y : K' 100 10 = 21 := by omega
      have z := x7 c
      exact ⟨by omega, .inr ⟨z.1, k12, y, by omega⟩⟩
    · left
      have y : K' 100 10 = 18 ∧ K' 100 8 = deT T n s ∧ K' 100 11 = nmv T s (min (deT T n s - s).toNat 4) := by omega
      have z := x6 (by omega)
      have w1' := a4 z
      exact ⟨⟨z, by omega, k12, by omega, by omega⟩, ⟨by omega, by omega, by omega⟩, .inr (.inr (.inl ⟨x3, y.1, by omega, by omega, by omega⟩)), fun _ => by omega, fun h => absurd h (by omega)⟩
  · left
    have y : K' 100 10 = 19 ∧ K' 100 8 = s + 1 := by omega
    have w1' := a4 x5
    exact ⟨⟨x5, by omega, k12, by omega, by omega⟩, ⟨by omega, by omega, by omega⟩, .inr (.inr (.inr ⟨x3, y.1⟩)), fun _ => by omega, fun h => absurd h (by omega)⟩
  · right
    have y : K' 100 10 = 21 := by omega
    exact ⟨by omega, .inr ⟨x5, k12, y, by omega⟩⟩
theorem sAdv (hN : 10000 ≤ N) (h : RD T n G K) (w : G 10 0 = 0) : ∃ G' K' : Nat → Int → Int, StR T n G K G' K' ∧ K 100 8 ≤ K' 100 7 ∧ f_X8_advance N 10 (hp q G) = some (hp q G') ∧ f_X12_next N 100 (hp q K) = some (hp q K') := by
  have a := h.al w
  have a21 := a.2.1
  obtain ⟨G', K', ⟨h1, h2, h3, h4, h5⟩, e1, e2⟩ := sAdv0 (N := N) (q := q) hN h.1 h.2.1 w a.1.2.1 a.1.2.2.1 a.1.2.2.2.2 (by omega) a.2.1.2.2
  have := a.2.1
  exact ⟨G', K', ⟨h1, h2, h3, h4, fun _ => ⟨w, by omega⟩, fun _ => a.1.2.2.1⟩, h5, e1, e2⟩
end
