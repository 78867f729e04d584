/-! calls: image, restore -/
section
variable {K1 K2 : (Int → Int) → (Int → Int) → Prop} {q : Nat × Nat × (Nat → Nat)} {G : Nat → Int → Int} {N : Nat}
/-- a basket like another one -/
def BaS (G G' : Nat → Int → Int) (a a' : Nat) : Prop := (∀ x, x ≠ a → x ≠ a + 1 → x ≠ a + 2 → x ≠ a + 3 → G' x = G x) ∧ (∀ i, 0 ≤ i → i < 7 → G' a i = G a' i) ∧ (∀ i, 0 ≤ i → i < 24 → G' (a + 1) i = G (a' + 1) i) ∧ (∀ i, 0 ≤ i → i < 88 → G' (a + 2) i = G (a' + 2) i) ∧ (∀ i, 0 ≤ i → i < 24 → G' (a + 3) i = G (a' + 3) i)
/-- where baskets lie -/
def isBa (a : Nat) : Prop := a < 100 ∧ (∀ sz, shp sz a = .inr (0, [0, 0, 0, 0, 0, 0, 0, a + 4, a + 5, a + 6])) ∧ (∀ sz, shp sz (a + 1) = .inl (0, 24)) ∧ (∀ sz, shp sz (a + 2) = .inl (0, 88)) ∧ (∀ sz, shp sz (a + 3) = .inl (0, 24))
theorem ba2 : isBa 2 := ⟨by decide, fun _ => rfl, fun _ => rfl, fun _ => rfl, fun _ => rfl⟩
theorem ba6 : isBa 6 := ⟨by decide, fun _ => rfl, fun _ => rfl, fun _ => rfl, fun _ => rfl⟩
theorem ba47 : isBa 47 := ⟨by decide, fun _ => rfl, fun _ => rfl, fun _ => rfl, fun _ => rfl⟩
theorem ba63 : isBa 63 := ⟨by decide, fun _ => rfl, fun _ => rfl, fun _ => rfl, fun _ => rfl⟩
theorem cp_at {G : Nat → Int → Int} {a0 a : Nat} {n i : Int} (h0 : 0 ≤ i) (h1 : i < n) : cp G a0 0 a 0 n a i = G a0 i := by
  rw [cp_eq]
  show (if 0 ≤ i ∧ i < 0 + n then G a0 (0 + (i - 0)) else G a i) = _
  rw [if_pos ⟨h0, by omega⟩, Int.sub_zero, Int.zero_add]
theorem baBecome {a a' : Nat} (ha : isBa a) (ha' : isBa a') (hd : a + 4 ≤ a' ∨ a' + 4 ≤ a) : ∃ G', BaS G G' a a' ∧ f_X0_become N a a' (hp q G) = some (hp q G') := by
  obtain ⟨l, s0, s1, s2, s3⟩ := ha
  obtain ⟨l', s0', s1', s2', s3'⟩ := ha'
  have g0 : ∀ H, gI (hp q H) 0 a' 0 = some (jI (H a' 0)) := fun H => hgI (by omega) s0' rfl
  have g1 : ∀ H, gI (hp q H) 0 a' 1 = some (jI (H a' 1)) := fun H => hgI (by omega) s0' rfl
  have g2 : ∀ H, gI (hp q H) 0 a' 2 = some (jI (H a' 2)) := fun H => hgI (by omega) s0' rfl
  have g3 : ∀ H, gI (hp q H) 0 a' 3 = some (jI (H a' 3)) := fun H => hgI (by omega) s0' rfl
  have g4 : ∀ H, gI (hp q H) 0 a' 4 = some (jI (H a' 4)) := fun H => hgI (by omega) s0' rfl
  have g5 : ∀ H, gI (hp q H) 0 a' 5 = some (jI (H a' 5)) := fun H => hgI (by omega) s0' rfl
  have g6 : ∀ H, gI (hp q H) 0 a' 6 = some (jI (H a' 6)) := fun H => hgI (by omega) s0' rfl
  have p0 : ∀ H v, pV (hp q H) 0 a 0 (.int (jI v)) = some (hp q (up H a 0 v)) := fun H v => hpI (by omega) s0 rfl
  have p1 : ∀ H v, pV (hp q H) 0 a 1 (.int (jI v)) = some (hp q (up H a 1 v)) := fun H v => hpI (by omega) s0 rfl
  have p2 : ∀ H v, pV (hp q H) 0 a 2 (.int (jI v)) = some (hp q (up H a 2 v)) := fun H v => hpI (by omega) s0 rfl
  have p3 : ∀ H v, pV (hp q H) 0 a 3 (.int (jI v)) = some (hp q (up H a 3 v)) := fun H v => hpI (by omega) s0 rfl
  have p4 : ∀ H v, pV (hp q H) 0 a 4 (.int (jI v)) = some (hp q (up H a 4 v)) := fun H v => hpI (by omega) s0 rfl
  have p5 : ∀ H v, pV (hp q H) 0 a 5 (.int (jI v)) = some (hp q (up H a 5 v)) := fun H v => hpI (by omega) s0 rfl
  have p6 : ∀ H v, pV (hp q H) 0 a 6 (.int (jI v)) = some (hp q (up H a 6 v)) := fun H v => hpI (by omega) s0 rfl
  have r7 : ∀ H, gR (hp q H) 0 a 7 = some (a + 1) := fun H => hgR (by omega) s0 rfl
  have r8 : ∀ H, gR (hp q H) 0 a 8 = some (a + 2) := fun H => hgR (by omega) s0 rfl
  have r9 : ∀ H, gR (hp q H) 0 a 9 = some (a + 3) := fun H => hgR (by omega) s0 rfl
  have r7' : ∀ H, gR (hp q H) 0 a' 7 = some (a' + 1) := fun H => hgR (by omega) s0' rfl
  have r8' : ∀ H, gR (hp q H) 0 a' 8 = some (a' + 2) := fun H => hgR (by omega) s0' rfl
  have r9' : ∀ H, gR (hp q H) 0 a' 9 = some (a' + 3) := fun H => hgR (by omega) s0' rfl
  have n1 : ∀ H, lnA (hp q H) (a + 1) = some (jI 24) := fun H => hln (by omega) (s1 _) (by omega)
  have n2 : ∀ H, lnA (hp q H) (a + 2) = some (jI 88) := fun H => hln (by omega) (s2 _) (by omega)
  have n3 : ∀ H, lnA (hp q H) (a + 3) = some (jI 24) := fun H => hln (by omega) (s3 _) (by omega)
  have k1 : ∀ H, cpI (hp q H) (a' + 1) (jI 0) (a + 1) (jI 0) (jI 24) = some (hp q (cp H (a' + 1) 0 (a + 1) 0 24)) := fun H => hcp (n0 := 24) (n1 := 24) (by omega) (by omega) s1' s1 (by omega) (by omega) (by omega) (by omega) (by omega) (by omega) (by omega)
  have k2 : ∀ H, cpI (hp q H) (a' + 2) (jI 0) (a + 2) (jI 0) (jI 88) = some (hp q (cp H (a' + 2) 0 (a + 2) 0 88)) := fun H => hcp (n0 := 88) (n1 := 88) (by omega) (by omega) s2' s2 (by omega) (by omega) (by omega) (by omega) (by omega) (by omega) (by omega)
  have k3 : ∀ H, cpI (hp q H) (a' + 3) (jI 0) (a + 3) (jI 0) (jI 24) = some (hp q (cp H (a' + 3) 0 (a + 3) 0 24)) := fun H => hcp (n0 := 24) (n1 := 24) (by omega) (by omega) s3' s3 (by omega) (by omega) (by omega) (by omega) (by omega) (by omega) (by omega)
  have ne : a' ≠ a := by omega
  generalize hH : up (up (up (up (up (up (up G a 0 (G a' 0)) a 1 (G a' 1)) a 2 (G a' 2)) a 3 (G a' 3)) a 4 (G a' 4)) a 5 (G a' 5)) a 6 (G a' 6) = H
  have Ho : ∀ x, x ≠ a → H x = G x := fun x hx => by rw [← hH, up_ne hx, up_ne hx, up_ne hx, up_ne hx, up_ne hx, up_ne hx, up_ne hx]
  have Ha : ∀ i, 0 ≤ i → i < 7 → H a i = G a' i := by
    intro i i0 i1
    have : i = 0 ∨ i = 1 ∨ i = 2 ∨ i = 3 ∨ i = 4 ∨ i = 5 ∨ i = 6 := by omega
    rw [← hH]
    rcases this with rfl | rfl | rfl | rfl | rfl | rfl | rfl <;> simp (disch := omega) only [up_eq, u1_eq, u1_ne]
  refine ⟨cp (cp (cp H (a' + 1) 0 (a + 1) 0 24) (a' + 2) 0 (a + 2) 0 88) (a' + 3) 0 (a + 3) 0 24, ⟨?_, ?_, ?_, ?_, ?_⟩, ?_⟩
  · intro x x0 x1 x2 x3
    rw [cp_ne x3, cp_ne x2, cp_ne x1]
    exact Ho x x0
  · intro i i0 i1
    rw [cp_ne (by omega), cp_ne (by omega), cp_ne (by omega)]
    exact Ha i i0 i1
  · intro i i0 i1
    rw [cp_ne (by omega), cp_ne (by omega), cp_at i0 i1, Ho _ (by omega)]
  · intro i i0 i1
    rw [cp_ne (by omega), cp_at i0 i1, cp_ne (by omega), Ho _ (by omega)]
  · intro i i0 i1
    rw [cp_at i0 i1, cp_ne (by omega), cp_ne (by omega), Ho _ (by omega)]
  · unfold f_X0_become
    simp only [Option.bind_some, g0, p0, g1, p1, g2, p2, g3, p3, g4, p4, g5, p5, g6, p6, up_ne ne, hH, r7, r8, r9, r7', r8', r9', n1, n2, n3, k1, k2, k3]
/-- a picture like another one -/
def PiS (G G' : Nat → Int → Int) (a a' : Nat) : Prop := (∀ x, x ≠ a → x ≠ a + 1 → x ≠ a + 2 → x ≠ a + 3 → G' x = G x) ∧ G' a 0 = G a' 0 ∧ (∀ i, 0 ≤ i → i < 8 → G' (a + 1) i = G (a' + 1) i) ∧ (∀ i, 0 ≤ i → i < 8 → G' (a + 2) i = G (a' + 2) i) ∧ (∀ i, 0 ≤ i → i < 8 → G' (a + 3) i = G (a' + 3) i)
def isPi (a : Nat) : Prop := a < 100 ∧ (∀ sz, shp sz a = .inr (6, [0, a + 4, a + 5, a + 6])) ∧ (∀ sz, shp sz (a + 1) = .inl (0, 8)) ∧ (∀ sz, shp sz (a + 2) = .inl (0, 8)) ∧ (∀ sz, shp sz (a + 3) = .inl (0, 8))
theorem pi17 : isPi 17 := ⟨by decide, fun _ => rfl, fun _ => rfl, fun _ => rfl, fun _ => rfl⟩
theorem pi21 : isPi 21 := ⟨by decide, fun _ => rfl, fun _ => rfl, fun _ => rfl, fun _ => rfl⟩
theorem pi51 : isPi 51 := ⟨by decide, fun _ => rfl, fun _ => rfl, fun _ => rfl, fun _ => rfl⟩
theorem pi55 : isPi 55 := ⟨by decide, fun _ => rfl, fun _ => rfl, fun _ => rfl, fun _ => rfl⟩
theorem pi67 : isPi 67 := ⟨by decide, fun _ => rfl, fun _ => rfl, fun _ => rfl, fun _ => rfl⟩
theorem pi71 : isPi 71 := ⟨by decide, fun _ => rfl, fun _ => rfl, fun _ => rfl, fun _ => rfl⟩
theorem piBecome {a a' : Nat} (ha : isPi a) (ha' : isPi a') (hd : a + 4 ≤ a' ∨ a' + 4 ≤ a) : ∃ G', PiS G G' a a' ∧ f_X6_become N a a' (hp q G) = some (hp q G') := by
  obtain ⟨l, s0, s1, s2, s3⟩ := ha
  obtain ⟨l', s0', s1', s2', s3'⟩ := ha'
  have g0 : ∀ H, gI (hp q H) 6 a' 0 = some (jI (H a' 0)) := fun H => hgI (by omega) s0' rfl
  have p0 : ∀ H v, pV (hp q H) 6 a 0 (.int (jI v)) = some (hp q (up H a 0 v)) := fun H v => hpI (by omega) s0 rfl
  have r7 : ∀ H, gR (hp q H) 6 a 1 = some (a + 1) := fun H => hgR (by omega) s0 rfl
  have r8 : ∀ H, gR (hp q H) 6 a 2 = some (a + 2) := fun H => hgR (by omega) s0 rfl
  have r9 : ∀ H, gR (hp q H) 6 a 3 = some (a + 3) := fun H => hgR (by omega) s0 rfl
  have r7' : ∀ H, gR (hp q H) 6 a' 1 = some (a' + 1) := fun H => hgR (by omega) s0' rfl
  have r8' : ∀ H, gR (hp q H) 6 a' 2 = some (a' + 2) := fun H => hgR (by omega) s0' rfl
  have r9' : ∀ H, gR (hp q H) 6 a' 3 = some (a' + 3) := fun H => hgR (by omega) s0' rfl
  have k1 : ∀ H, cpI (hp q H) (a' + 1) (jI 0) (a + 1) (jI 0) (jI 8) = some (hp q (cp H (a' + 1) 0 (a + 1) 0 8)) := fun H => hcp (n0 := 8) (n1 := 8) (by omega) (by omega) s1' s1 (by omega) (by omega) (by omega) (by omega) (by omega) (by omega) (by omega)
  have k2 : ∀ H, cpI (hp q H) (a' + 2) (jI 0) (a + 2) (jI 0) (jI 8) = some (hp q (cp H (a' + 2) 0 (a + 2) 0 8)) := fun H => hcp (n0 := 8) (n1 := 8) (by omega) (by omega) s2' s2 (by omega) (by omega) (by omega) (by omega) (by omega) (by omega) (by omega)
  have k3 : ∀ H, cpI (hp q H) (a' + 3) (jI 0) (a + 3) (jI 0) (jI 8) = some (hp q (cp H (a' + 3) 0 (a + 3) 0 8)) := fun H => hcp (n0 := 8) (n1 := 8) (by omega) (by omega) s3' s3 (by omega) (by omega) (by omega) (by omega) (by omega) (by omega) (by omega)
  refine ⟨cp (cp (cp (up G a 0 (G a' 0)) (a' + 1) 0 (a + 1) 0 8) (a' + 2) 0 (a + 2) 0 8) (a' + 3) 0 (a + 3) 0 8, ⟨?_, ?_, ?_, ?_, ?_⟩, ?_⟩
  · intro x x0 x1 x2 x3
    rw [cp_ne x3, cp_ne x2, cp_ne x1, up_ne x0]
  · rw [cp_ne (by omega), cp_ne (by omega), cp_ne (by omega), up_eq, u1_eq]
  · intro i i0 i1
    rw [cp_ne (by omega), cp_ne (by omega), cp_at i0 i1, up_ne (by omega)]
  · intro i i0 i1
    rw [cp_ne (by omega), cp_at i0 i1, cp_ne (by omega), up_ne (by omega)]
  · intro i i0 i1
    rw [cp_at i0 i1, cp_ne (by omega), cp_ne (by omega), up_ne (by omega)]
  · unfold f_X6_become
    simp only [Option.bind_some, g0, p0, r7, r8, r9, r7', r8', r9', k1, k2, k3]
def isHa (a : Nat) : Prop := a < 100 ∧ (∀ sz, shp sz a = .inr (3, [a + 4, a + 5])) ∧ (∀ sz, shp sz (a + 1) = .inl (0, 8))
theorem ha33 : isHa 33 := ⟨by decide, fun _ => rfl, fun _ => rfl⟩
theorem ha59 : isHa 59 := ⟨by decide, fun _ => rfl, fun _ => rfl⟩
theorem ha75 : isHa 75 := ⟨by decide, fun _ => rfl, fun _ => rfl⟩
theorem haBecome {a a' : Nat} (ha : isHa a) (ha' : isHa a') : ∃ G', ((∀ x, x ≠ a + 1 → G' x = G x) ∧ (∀ i, 0 ≤ i → i < 8 → G' (a + 1) i = G (a' + 1) i)) ∧ f_X3_become N a a' (hp q G) = some (hp q G') := by
  obtain ⟨l, s0, s1⟩ := ha
  obtain ⟨l', s0', s1'⟩ := ha'
  have r7 : gR (hp q G) 3 a 0 = some (a + 1) := hgR (by omega) s0 rfl
  have r7' : gR (hp q G) 3 a' 0 = some (a' + 1) := hgR (by omega) s0' rfl
  have k1 : cpI (hp q G) (a' + 1) (jI 0) (a + 1) (jI 0) (jI 8) = some (hp q (cp G (a' + 1) 0 (a + 1) 0 8)) := hcp (n0 := 8) (n1 := 8) (by omega) (by omega) s1' s1 (by omega) (by omega) (by omega) (by omega) (by omega) (by omega) (by omega)
  refine ⟨cp G (a' + 1) 0 (a + 1) 0 8, ⟨fun x hx => cp_ne hx, fun i i0 i1 => cp_at i0 i1⟩, ?_⟩
  unfold f_X3_become
  simp only [Option.bind_some, r7, r7', k1]
theorem imA {i : Nat} (h : i < 2) : ldR 5 (hp q G) 45 (jI i) = some (46 + 16 * i) := by
  have hc : cell (hp q G) 45 = some (.inl (5, 2, arr 5 (G 45))) := cell_hp (by omega)
  rw [ldR_c hc (by omega) (by omega) (by omega)]
  have : i = 0 ∨ i = 1 := by omega
  rcases this with rfl | rfl <;> rfl
theorem imO {i : Nat} (h : i < 2) : rcv (hp q G) 4 (46 + 16 * i) = some () ∧ gI (hp q G) 4 (46 + 16 * i) 0 = some (jI (G (46 + 16 * i) 0)) ∧ gR (hp q G) 4 (46 + 16 * i) 1 = some (47 + 16 * i) ∧ gR (hp q G) 4 (46 + 16 * i) 2 = some (51 + 16 * i) ∧ gR (hp q G) 4 (46 + 16 * i) 3 = some (55 + 16 * i) ∧ gR (hp q G) 4 (46 + 16 * i) 4 = some (59 + 16 * i) := by
  have : i = 0 ∨ i = 1 := by omega
  rcases this with rfl | rfl
  · exact o46 q G
  · exact o62 q G
theorem imW {i : Nat} (h : i < 2) (v : Int) : pV (hp q G) 4 (46 + 16 * i) 0 (.int (jI v)) = some (hp q (up G (46 + 16 * i) 0 v)) := by
  have : i = 0 ∨ i = 1 := by omega
  rcases this with rfl | rfl
  · exact w46 q G v
  · exact w62 q G v
/-- an image's part of the invariant -/
def IMi (G : Nat → Int → Int) (i : Nat) : Prop := IM (G (46 + 16 * i) 0) (G 103 i) (G (47 + 16 * i)) (G (48 + 16 * i)) (G (49 + 16 * i)) (G (50 + 16 * i)) (G (51 + 16 * i)) (G (52 + 16 * i)) (G (54 + 16 * i)) (G (55 + 16 * i)) (G (56 + 16 * i)) (G (57 + 16 * i)) (G (60 + 16 * i)) (fun k => G 102 (665 * ((i : Int) + 1) + k))
theorem INV.im (hI : INV K1 K2 q G) {i : Nat} (h : i < 2) : IMi G i := by
  have : i = 0 ∨ i = 1 := by omega
  rcases this with rfl | rfl
  · exact hI.1.2.2.2.2.2.1
  · exact hI.1.2.2.2.2.2.2.1
theorem rowSh {i : Int} (h1 : -2147483648 ≤ i) (h2 : i < 2147483648) : True := trivial
theorem op_image (hN : 10000 ≤ N) (k1 : KC1 K1) (k2 : KC2 K2) (hI : INV K1 K2 q G) {k : Int} (h1 : -2147483648 ≤ k) (h2 : k < 2147483648) : OP K1 K2 q G (f_X11_image N 0 (jI k)) (f_X12_image N 100 (jI k)) := by
  have hB := hI.1.1; have hV := hB.1; have hT := hI.1.2.1; have g := hV.1
  by_cases c : 0 ≤ k ∧ k < 2
  · obtain ⟨i, rfl⟩ := Int.eq_ofNat_of_zero_le c.1
    have hi : i < 2 := by omega
    have i01 : i = 0 ∨ i = 1 := by omega
    have bb : isBa (47 + 16 * i) := by rcases i01 with rfl | rfl; exact ba47; exact ba63
    have pw : isPi (51 + 16 * i) := by rcases i01 with rfl | rfl; exact pi51; exact pi67
    have pp : isPi (55 + 16 * i) := by rcases i01 with rfl | rfl; exact pi55; exact pi71
    have hh : isHa (59 + 16 * i) := by rcases i01 with rfl | rfl; exact ha59; exact ha75
    have rb : ∀ H, rcv (hp q H) 0 (47 + 16 * i) = some () := fun H => hrc (by omega) bb.2.1
    have rw' : ∀ H, rcv (hp q H) 6 (51 + 16 * i) = some () := fun H => hrc (by omega) pw.2.1
    have rp : ∀ H, rcv (hp q H) 6 (55 + 16 * i) = some () := fun H => hrc (by omega) pp.2.1
    have rh : ∀ H, rcv (hp q H) 3 (59 + 16 * i) = some () := fun H => hrc (by omega) hh.2.1
    obtain ⟨G1, s1, e1⟩ := baBecome (q := q) (G := G) (N := N) bb ba2 (by omega)
    obtain ⟨G2, s2, e2⟩ := piBecome (q := q) (G := G1) (N := N) pw pi17 (by omega)
    obtain ⟨G3, s3, e3⟩ := piBecome (q := q) (G := G2) (N := N) pp pi21 (by omega)
    obtain ⟨G4, s4, e4⟩ := haBecome (q := q) (G := G3) (N := N) hh ha33
    generalize hG5 : up G4 (46 + 16 * i) 0 1 = G5
    have A : ∀ x, (x < 46 + 16 * i ∨ 61 + 16 * i ≤ x) → G5 x = G x := by
      intro x hx
      rw [← hG5, up_ne (by omega), s4.1 x (by omega), s3.1 x (by omega) (by omega) (by omega) (by omega), s2.1 x (by omega) (by omega) (by omega) (by omega), s1.1 x (by omega) (by omega) (by omega) (by omega)]
    have F1 : ∀ x, 47 + 16 * i ≤ x → x ≤ 50 + 16 * i → G5 x = G1 x := fun x x0 x1 => by rw [← hG5, up_ne (by omega), s4.1 x (by omega), s3.1 x (by omega) (by omega) (by omega) (by omega), s2.1 x (by omega) (by omega) (by omega) (by omega)]
    have F2 : ∀ x, 51 + 16 * i ≤ x → x ≤ 54 + 16 * i → G5 x = G2 x := fun x x0 x1 => by rw [← hG5, up_ne (by omega), s4.1 x (by omega), s3.1 x (by omega) (by omega) (by omega) (by omega)]
    have F3 : ∀ x, 55 + 16 * i ≤ x → x ≤ 58 + 16 * i → G5 x = G3 x := fun x x0 x1 => by rw [← hG5, up_ne (by omega), s4.1 x (by omega)]
    have T5 : G5 100 0 = 0 := by rw [A 100 (by omega)]; exact hT
    have e102 : G5 102 = G 102 := A 102 (by omega)
    have M : ∃ G6, ((∀ x, x ≠ 102 → x ≠ 103 → G6 x = G5 x) ∧ G6 103 = u1 (G 103) i 1 ∧ ∀ j : Int, G6 102 j = if 665 * ((i : Int) + 1) ≤ j ∧ j < 665 * ((i : Int) + 1) + 665 then G 102 (j - 665 * ((i : Int) + 1)) else G 102 j) ∧ L_X12_image_24 N N 100 (jI i) (jI 0) (hp q G5) = some (jI 0, hp q G6) := by
      refine loopG (N := N) (fun m (t : Int × (Nat → Int → Int)) => L_X12_image_24 N m 100 (jI i) (jI t.1) (hp q t.2)) (fun n t => t.1 = n ∧ (∀ x, x ≠ 102 → t.2 x = G5 x) ∧ ∀ j : Int, t.2 102 j = if 665 * ((i : Int) + 1) ≤ j ∧ j < 665 * ((i : Int) + 1) + (n : Int) then G 102 (j - 665 * ((i : Int) + 1)) else G 102 j) 665 (by omega) (s := (0, G5)) ⟨rfl, fun _ _ => rfl, fun j => by rw [if_neg (by omega)]; show G5 102 j = _; rw [e102]⟩ ?_ ?_
      · rintro m n ⟨z, G6⟩ hn ⟨rfl, t1, t2⟩
        simp only at t1 t2
        have src := t2 n
        rw [if_neg (by omega)] at src
        refine ⟨(((n + 1 : Nat) : Int), up G6 102 (665 * ((i : Int) + 1) + n) (G 102 n)), ⟨rfl, fun x hx => (up_ne hx).trans (t1 x hx), ?_⟩, ?_⟩
        · intro j
          show up G6 102 _ _ 102 j = _
          rw [up_eq]
          by_cases d : j = 665 * ((i : Int) + 1) + n
          · rw [d, u1_eq, if_pos (by omega), show 665 * ((i : Int) + 1) + n - 665 * ((i : Int) + 1) = n by omega]
          · rw [u1_ne d, t2 j]
            by_cases d2 : 665 * ((i : Int) + 1) ≤ j ∧ j < 665 * ((i : Int) + 1) + (n : Int)
            · rw [if_pos d2, if_pos (by omega)]
            · rw [if_neg d2, if_neg (by omega)]
        · show L_X12_image_24 N (m + 1) 100 (jI i) (jI (n : Int)) (hp q G6) = L_X12_image_24 N m 100 (jI i) (jI ((n + 1 : Nat) : Int)) (hp q (up G6 102 (665 * ((i : Int) + 1) + n) (G 102 n)))
          rw [L_X12_image_24]
          simp (maxSteps := 2000000) (disch := first | assumption | omega) only [jI0, iAdd_j, iSub_j, iMul_j, iNeg_j, Option.bind_some, jlt_t, jlt_f, jlt, jle_t, jle_f, jle, jeq_t, jeq_f, jeq, ↓reduceIte, o100, l102, src, s102, Int.natCast_succ]
      · rintro m ⟨z, G6⟩ ⟨rfl, t1, t2⟩
        simp only at t1 t2
        have e103 : G6 103 = G 103 := by rw [t1 103 (by decide), A 103 (by omega)]
        have st := s103 (q := q) (G := G6) (i := (i : Int)) (v := 1) (x := jI 1) (by rfl) (by omega) (by omega)
        refine ⟨up G6 103 i 1, ⟨fun x x0 x1 => (up_ne x1).trans (t1 x x0), by rw [up_eq, e103], fun j => by rw [up_ne (by decide)]; exact t2 j⟩, ?_⟩
        show L_X12_image_24 N (m + 1) 100 (jI i) (jI ((665 : Nat) : Int)) (hp q G6) = _
        rw [show ((665 : Nat) : Int) = 665 from rfl, L_X12_image_24]
        simp (maxSteps := 2000000) (disch := first | assumption | omega) only [jI0, iAdd_j, iSub_j, iMul_j, iNeg_j, Option.bind_some, jlt_t, jlt_f, jlt, jle_t, jle_f, jle, jeq_t, jeq_f, jeq, ↓reduceIte, o100, st]
    obtain ⟨G6, ⟨m1, m2, m3⟩, e6⟩ := M
    refine ⟨jI 0, q, G5, G6, ?_, ?_, ?_⟩
    · unfold f_X11_image
      simp (maxSteps := 2000000) (disch := first | assumption | omega) only [jI0, iAdd_j, iSub_j, iMul_j, iNeg_j, Option.bind_some, jlt_t, jlt_f, jlt, jle_t, jle_f, jle, jeq_t, jeq_f, jeq, ↓reduceIte, o0, n45, imA, imO, rb, rw', rp, rh, e1, e2, e3, e4, imW, hG5]
    · unfold f_X12_image
      have wt := w100t (q := q) T5
      simp (maxSteps := 2000000) (disch := first | assumption | omega) only [jI0, iAdd_j, iSub_j, iMul_j, iNeg_j, Option.bind_some, jlt_t, jlt_f, jlt, jle_t, jle_f, jle, jeq_t, jeq_f, jeq, ↓reduceIte, wt, jlL, X12_within, bI_t, e6]
    · have im := hI.im hi
      have imo : ∀ i' : Nat, i' < 2 → i' ≠ i → IMi G i' := fun i' h _ => hI.im h
      obtain ⟨⟨t1, t2, t3, t4, t5, t6, t7, t8, t9, t10, t11, t12, t13, t14⟩, i1⟩ := hI
      have S : SameA 0 665 (G 102) (G6 102) := fun j j0 j1 => by rw [m3, if_neg (by omega)]
      have Sl : ∀ lo hi, 0 ≤ lo → hi ≤ 665 → SameA lo hi (G 102) (G6 102) := fun lo hi l1 l2 j j0 j1 => S j (by omega) (by omega)
      have SI : SameA 0 665 (G 102) (fun k => G6 102 (665 * ((i : Int) + 1) + k)) := fun j j0 j1 => by
        show G6 102 _ = _
        rw [m3, if_pos (by omega), show 665 * ((i : Int) + 1) + j - 665 * ((i : Int) + 1) = j by omega]
      have Sli : ∀ lo hi, 0 ≤ lo → hi ≤ 665 → SameA lo hi (G 102) (fun k => G6 102 (665 * ((i : Int) + 1) + k)) := fun lo hi l1 l2 j j0 j1 => SI j (by omega) (by omega)
      have E : ∀ x, (x < 46 + 16 * i ∨ 61 + 16 * i ≤ x) → x ≠ 102 → x ≠ 103 → G6 x = G x := fun x hx x0 x1 => by rw [m1 x x0 x1, A x hx]
      have E5 : ∀ x, x < 100 → G6 x = G5 x := fun x hx => m1 x (by omega) (by omega)
      have c0 : G6 102 0 = G 102 0 := S 0 (by omega) (by omega)
      have ci0 : (fun k => G6 102 (665 * ((i : Int) + 1) + k)) 0 = G 102 0 := SI 0 (by omega) (by omega)
      have mine : IMi G6 i := by
        have d1 : G6 (46 + 16 * i) 0 = 1 := by rw [E5 _ (by omega), ← hG5, up_eq, u1_eq]
        have d2 : G6 103 i = 1 := by rw [m2, u1_eq]
        unfold IMi IM
        rw [d1, d2]
        refine ⟨rfl, by omega, by omega, fun _ => ⟨t1.1.congr (Sli _ _ (by omega) (by omega)), ?_, ?_, ?_, ?_⟩⟩
        · refine t1.2.congr (Sli _ _ (by omega) (by omega)) t1.1 ?_ ?_ ?_ ?_
          · intro j j0 j1; rw [E5 _ (by omega), F1 _ (by omega) (by omega)]; exact s1.2.1 j j0 j1
          · intro j j0 j1; rw [E5 _ (by omega), F1 _ (by omega) (by omega), show 48 + 16 * i = 47 + 16 * i + 1 by omega]; exact s1.2.2.1 j j0 j1
          · intro j j0 j1; rw [E5 _ (by omega), F1 _ (by omega) (by omega), show 49 + 16 * i = 47 + 16 * i + 2 by omega]; exact s1.2.2.2.1 j j0 j1
          · intro j j0 j1; rw [E5 _ (by omega), F1 _ (by omega) (by omega), show 50 + 16 * i = 47 + 16 * i + 3 by omega]; exact s1.2.2.2.2 j j0 j1
        · refine t3.congr ci0 (by omega) (Sli _ _ (by omega) (by omega)) ?_ ?_ ?_
          · rw [E5 _ (by omega), F2 _ (by omega) (by omega), s2.2.1, s1.1 17 (by omega) (by omega) (by omega) (by omega)]
          · intro j j0 j1; rw [E5 _ (by omega), F2 _ (by omega) (by omega), show 52 + 16 * i = 51 + 16 * i + 1 by omega, s2.2.2.1 j j0 j1, s1.1 (17 + 1) (by omega) (by omega) (by omega) (by omega)]
          · intro j j0 j1; rw [E5 _ (by omega), F2 _ (by omega) (by omega), show 54 + 16 * i = 51 + 16 * i + 3 by omega, s2.2.2.2.2 j j0 j1, s1.1 (17 + 3) (by omega) (by omega) (by omega) (by omega)]
        · refine t4.congr ci0 (by omega) (Sli _ _ (by omega) (by omega)) ?_ ?_ ?_
          · rw [E5 _ (by omega), F3 _ (by omega) (by omega), s3.2.1, s2.1 21 (by omega) (by omega) (by omega) (by omega), s1.1 21 (by omega) (by omega) (by omega) (by omega)]
          · intro j j0 j1; rw [E5 _ (by omega), F3 _ (by omega) (by omega), show 56 + 16 * i = 55 + 16 * i + 1 by omega, s3.2.2.1 j j0 j1, s2.1 (21 + 1) (by omega) (by omega) (by omega) (by omega), s1.1 (21 + 1) (by omega) (by omega) (by omega) (by omega)]
          · intro j j0 j1; rw [E5 _ (by omega), F3 _ (by omega) (by omega), show 57 + 16 * i = 55 + 16 * i + 2 by omega, s3.2.2.2.1 j j0 j1, s2.1 (21 + 2) (by omega) (by omega) (by omega) (by omega), s1.1 (21 + 2) (by omega) (by omega) (by omega) (by omega)]
        · refine t5.congr (Sli _ _ (by omega) (by omega)) ?_
          intro j j0 j1
          rw [E5 _ (by omega), ← hG5, up_ne (by omega), show 60 + 16 * i = 59 + 16 * i + 1 by omega, s4.2 j j0 j1, s3.1 (33 + 1) (by omega) (by omega) (by omega) (by omega), s2.1 (33 + 1) (by omega) (by omega) (by omega) (by omega), s1.1 (33 + 1) (by omega) (by omega) (by omega) (by omega)]
      have other : ∀ i' : Nat, i' < 2 → i' ≠ i → IMi G6 i' := by
        intro i' h' ne
        have o := imo i' h' ne
        unfold IMi at *
        rw [E (46 + 16 * i') (by omega) (by omega) (by omega), E (47 + 16 * i') (by omega) (by omega) (by omega), E (48 + 16 * i') (by omega) (by omega) (by omega), E (49 + 16 * i') (by omega) (by omega) (by omega), E (50 + 16 * i') (by omega) (by omega) (by omega), E (51 + 16 * i') (by omega) (by omega) (by omega), E (52 + 16 * i') (by omega) (by omega) (by omega), E (54 + 16 * i') (by omega) (by omega) (by omega), E (55 + 16 * i') (by omega) (by omega) (by omega), E (56 + 16 * i') (by omega) (by omega) (by omega), E (57 + 16 * i') (by omega) (by omega) (by omega), E (60 + 16 * i') (by omega) (by omega) (by omega), m2, u1_ne (show (i' : Int) ≠ i by omega)]
        refine IM.congr (fun j j0 j1 => ?_) o
        show G6 102 _ = G 102 _
        rw [m3, if_neg (by omega)]
      have alli : ∀ i' : Nat, i' < 2 → IMi G6 i' := fun i' h' => by
        by_cases d : i' = i
        · subst d; exact mine
        · exact other i' h' d
      have n0 := alli 0 (by omega)
      have n1 := alli 1 (by omega)
      have e : ∀ x, (decide (x < 46 ∨ 77 ≤ x) && decide (x ≠ 102) && decide (x ≠ 103)) = true → G6 x = G x := fun x h => by
        simp only [Bool.and_eq_true, decide_eq_true_eq] at h
        exact E x (by omega) h.1.2 h.2
      refine ⟨?_, fun k k0 k1 => by rw [e 98 rfl, e 101 rfl]; exact i1 k k0 k1⟩
      unfold INV0 BB BW at *
      rw [e 0 rfl, e 1 rfl, e 2 rfl, e 3 rfl, e 4 rfl, e 5 rfl, e 10 rfl, e 12 rfl, e 13 rfl, e 17 rfl, e 18 rfl, e 20 rfl, e 21 rfl, e 22 rfl, e 23 rfl, e 25 rfl, e 31 rfl, e 32 rfl, e 34 rfl, e 37 rfl, e 38 rfl, e 39 rfl, e 40 rfl, e 41 rfl, e 42 rfl, e 43 rfl, e 44 rfl, e 82 rfl, e 100 rfl, e 104 rfl, e 117 rfl, e 118 rfl, e 119 rfl]
      exact ⟨⟨t1.1.congr (Sl _ _ (by omega) (by omega)), t1.2.congr (Sl _ _ (by omega) (by omega)) t1.1 (fun _ _ _ => rfl) (fun _ _ _ => rfl) (fun _ _ _ => rfl) (fun _ _ _ => rfl)⟩, t2, t3.congr c0 (by omega) (Sl _ _ (by omega) (by omega)) rfl (fun _ _ _ => rfl) (fun _ _ _ => rfl), t4.congr c0 (by omega) (Sl _ _ (by omega) (by omega)) rfl (fun _ _ _ => rfl) (fun _ _ _ => rfl), t5.congr (Sl _ _ (by omega) (by omega)) (fun _ _ _ => rfl), n0, n1, t8, t9, t10, t11.congr (Sl _ _ (by omega) (by omega)) t1.1, ⟨t12.1, fun x => k1 _ _ _ c0 (Sl _ _ (by omega) (by omega)) (t12.2 x)⟩, ⟨t13.1, fun x => k2 _ _ _ c0 (Sl _ _ (by omega) (by omega)) (t13.2 x)⟩, t14⟩
  · refine OP.rf hI (-2) (jI (-2)) ?_ ?_
    · unfold f_X11_image
      by_cases d : k < 0 <;> simp (maxSteps := 2000000) (disch := first | assumption | omega) only [jI0, iAdd_j, iSub_j, iMul_j, iNeg_j, Option.bind_some, jlt_t, jlt_f, jlt, jle_t, jle_f, jle, jeq_t, jeq_f, jeq, ↓reduceIte, o0, o2, o12, hBand, hStake, hKind, hCross, hWeaver, oBand, oKindOf, oKind, oCr, oRing, oWv, oPer, oRows, oAhead, oWhen, oAll, oStep, oRods, oRodAt, oStakeAt, oOff, bI_t, bI_f, X11_refuse, n45]
    · intro G1 hM e eo
      have hV1 := hM.1; have hT1 := hM.2; (try rw [← e] at dm); (try rw [← e] at dr); (try rw [← e] at de); (try rw [← e] at dl); (try rw [← e] at hb); (try rw [← e] at hj); (try rw [← e] at hr); (try rw [← e] at hs); (try rw [← e] at pl); (try rw [← e] at al); (try rw [← e] at g); (try rw [← e] at c); (try rw [← e] at c1); (try rw [← e] at c2); (try rw [← e] at c3); (try rw [← e] at c4); (try rw [← e] at c5); (try rw [← e] at c6); (try rw [← e] at wb); (try rw [← e] at pr); (try rw [← e] at kd); (try rw [← e] at cr); (try rw [← e] at fe); (try rw [← e] at ra); (try rw [← e] at f1); (try rw [← e] at f2); (try rw [← e] at f3); (try rw [← e] at f4); (try rw [← e])
      unfold f_X12_image
      simp (maxSteps := 2000000) (disch := first | assumption | omega) only [jI0, iAdd_j, iSub_j, iMul_j, iNeg_j, Option.bind_some, jlt_t, jlt_f, jlt, jle_t, jle_f, jle, jeq_t, jeq_f, jeq, ↓reduceIte, o100, w100t, l102, mBand, mStake, mKind, mCross, mCr, mKindOf, mAhead, mWhen, mStep, mRods, mRodAt, mStakeAt, mIndex, mOver, mOverIn, jlL, X12_within, bI_t, bI_f, X12_no]
theorem op_restore (hN : 10000 ≤ N) (hI : INV K1 K2 q G) {k : Int} (h1 : -2147483648 ≤ k) (h2 : k < 2147483648) : OP K1 K2 q G (f_X11_restore N 0 (jI k)) (f_X12_restore N 100 (jI k)) := by
  have hB := hI.1.1; have hV := hB.1; have hT := hI.1.2.1; have g := hV.1
  by_cases c : 0 ≤ k ∧ k < 2
  · obtain ⟨i, rfl⟩ := Int.eq_ofNat_of_zero_le c.1
    have hi : i < 2 := by omega
    have i01 : i = 0 ∨ i = 1 := by omega
    obtain ⟨y1, y2, y3, y4⟩ := hI.im hi
    by_cases c1 : G (46 + 16 * i) 0 = 1
    · obtain ⟨x1, x2, x3, x4, x5⟩ := y4 c1
      have gx := x1.1
      have bb : isBa (47 + 16 * i) := by rcases i01 with rfl | rfl; exact ba47; exact ba63
      have pw : isPi (51 + 16 * i) := by rcases i01 with rfl | rfl; exact pi51; exact pi67
      have pp : isPi (55 + 16 * i) := by rcases i01 with rfl | rfl; exact pi55; exact pi71
      have hh : isHa (59 + 16 * i) := by rcases i01 with rfl | rfl; exact ha59; exact ha75
      obtain ⟨G1, s1, e1⟩ := baBecome (q := q) (G := G) (N := N) ba2 bb (by omega)
      obtain ⟨G2, s2, e2⟩ := piBecome (q := q) (G := G1) (N := N) pi17 pw (by omega)
      obtain ⟨G3, s3, e3⟩ := piBecome (q := q) (G := G2) (N := N) pi21 pp (by omega)
      obtain ⟨G4, s4, e4⟩ := haBecome (q := q) (G := G3) (N := N) ha33 hh
      generalize hG5 : up (up (up G4 12 5 0) 25 7 0) 25 8 0 = G5
      have A : ∀ x, (x < 2 ∨ 5 < x) → (x < 17 ∨ 24 < x) → x ≠ 34 → x ≠ 12 → x ≠ 25 → G5 x = G x := by
        intro x h1 h2 h3 h4 h5
        rw [← hG5, up_ne h5, up_ne h5, up_ne h4, s4.1 x (by omega), s3.1 x (by omega) (by omega) (by omega) (by omega), s2.1 x (by omega) (by omega) (by omega) (by omega), s1.1 x (by omega) (by omega) (by omega) (by omega)]
      have D12 : G5 12 5 = 0 := by rw [← hG5, up_ne (by decide), up_ne (by decide), up_eq, u1_eq]
      have D7 : G5 25 7 = 0 := by rw [← hG5, up_eq, u1_ne (by decide), up_eq, u1_eq]
      have D8 : G5 25 8 = 0 := by rw [← hG5, up_eq, u1_eq]
      have F1 : ∀ x, 2 ≤ x → x ≤ 5 → G5 x = G1 x := fun x x0 x1 => by rw [← hG5, up_ne (by omega), up_ne (by omega), up_ne (by omega), s4.1 x (by omega), s3.1 x (by omega) (by omega) (by omega) (by omega), s2.1 x (by omega) (by omega) (by omega) (by omega)]
      have F2 : ∀ x, 17 ≤ x → x ≤ 20 → G5 x = G2 x := fun x x0 x1 => by rw [← hG5, up_ne (by omega), up_ne (by omega), up_ne (by omega), s4.1 x (by omega), s3.1 x (by omega) (by omega) (by omega) (by omega)]
      have F3 : ∀ x, 21 ≤ x → x ≤ 24 → G5 x = G3 x := fun x x0 x1 => by rw [← hG5, up_ne (by omega), up_ne (by omega), up_ne (by omega), s4.1 x (by omega)]
      have T5 : G5 100 0 = 0 := by rw [A 100 (by omega) (by omega) (by omega) (by omega) (by omega)]; exact hT
      have e102 : G5 102 = G 102 := A 102 (by omega) (by omega) (by omega) (by omega) (by omega)
      have e103 : G5 103 i = 1 := by rw [A 103 (by omega) (by omega) (by omega) (by omega) (by omega), ← y1]; exact c1
      have M : ∃ G6, ((∀ x, x ≠ 102 → G6 x = G5 x) ∧ ∀ j : Int, G6 102 j = if 0 ≤ j ∧ j < 665 then G 102 (665 * ((i : Int) + 1) + j) else G 102 j) ∧ L_X12_restore_40 N N 100 (jI i) (jI 0) (hp q G5) = some (jI 0, hp q G6) := by
        refine loopG (N := N) (fun m (t : Int × (Nat → Int → Int)) => L_X12_restore_40 N m 100 (jI i) (jI t.1) (hp q t.2)) (fun n t => t.1 = n ∧ (∀ x, x ≠ 102 → t.2 x = G5 x) ∧ ∀ j : Int, t.2 102 j = if 0 ≤ j ∧ j < (n : Int) then G 102 (665 * ((i : Int) + 1) + j) else G 102 j) 665 (by omega) (s := (0, G5)) ⟨rfl, fun _ _ => rfl, fun j => by rw [if_neg (by omega)]; show G5 102 j = _; rw [e102]⟩ ?_ ?_
        · rintro m n ⟨z, G6⟩ hn ⟨rfl, t1, t2⟩
          simp only at t1 t2
          have src := t2 (665 * ((i : Int) + 1) + n)
          rw [if_neg (by omega)] at src
          refine ⟨(((n + 1 : Nat) : Int), up G6 102 n (G 102 (665 * ((i : Int) + 1) + n))), ⟨rfl, fun x hx => (up_ne hx).trans (t1 x hx), ?_⟩, ?_⟩
          · intro j
            show up G6 102 _ _ 102 j = _
            rw [up_eq]
            by_cases d : j = n
            · rw [d, u1_eq, if_pos (by omega)]
            · rw [u1_ne d, t2 j]
              by_cases d2 : 0 ≤ j ∧ j < (n : Int)
              · rw [if_pos d2, if_pos (by omega)]
              · rw [if_neg d2, if_neg (by omega)]
          · show L_X12_restore_40 N (m + 1) 100 (jI i) (jI (n : Int)) (hp q G6) = L_X12_restore_40 N m 100 (jI i) (jI ((n + 1 : Nat) : Int)) (hp q (up G6 102 n (G 102 (665 * ((i : Int) + 1) + n))))
            rw [L_X12_restore_40]
            simp (maxSteps := 2000000) (disch := first | assumption | omega) only [jI0, iAdd_j, iSub_j, iMul_j, iNeg_j, Option.bind_some, jlt_t, jlt_f, jlt, jle_t, jle_f, jle, jeq_t, jeq_f, jeq, ↓reduceIte, o100, l102, src, s102, Int.natCast_succ]
        · rintro m ⟨z, G6⟩ ⟨rfl, t1, t2⟩
          simp only at t1 t2
          refine ⟨G6, ⟨t1, t2⟩, ?_⟩
          show L_X12_restore_40 N (m + 1) 100 (jI i) (jI ((665 : Nat) : Int)) (hp q G6) = _
          rw [show ((665 : Nat) : Int) = 665 from rfl, L_X12_restore_40]
          simp (maxSteps := 2000000) (disch := first | assumption | omega) only [jI0, iAdd_j, iSub_j, iMul_j, iNeg_j, Option.bind_some, jlt_t, jlt_f, jlt, jle_t, jle_f, jle, jeq_t, jeq_f, jeq, ↓reduceIte]
      obtain ⟨G6, ⟨m1, m2⟩, e6⟩ := M
      refine ⟨jI 0, q, G5, G6, ?_, ?_, ?_⟩
      · unfold f_X11_restore f_X11_forgetAnswers f_X10_forget f_X9_forgetWish f_X9_forgetPrint
        have w12' := w12 q G4 0
        have w25' := (w25 q (up G4 12 5 0) 0)
        have w25'' := (w25 q (up (up G4 12 5 0) 25 7 0) 0)
        simp (maxSteps := 2000000) (disch := first | assumption | omega) only [jI0, iAdd_j, iSub_j, iMul_j, iNeg_j, Option.bind_some, jlt_t, jlt_f, jlt, jle_t, jle_f, jle, jeq_t, jeq_f, jeq, ↓reduceIte, o0, n45, imA, imO, c1, o2, o17, o21, o33, o12, o25, e1, e2, e3, e4, w12', w25', w25'', hG5]
      · unfold f_X12_restore
        have wt := w100t (q := q) T5
        simp (maxSteps := 2000000) (disch := first | assumption | omega) only [jI0, iAdd_j, iSub_j, iMul_j, iNeg_j, Option.bind_some, jlt_t, jlt_f, jlt, jle_t, jle_f, jle, jeq_t, jeq_f, jeq, ↓reduceIte, wt, jlL, X12_within, bI_t, o100, l103, e103, e6]
      · have imo : ∀ i' : Nat, i' < 2 → IMi G i' := fun i' h => hI.im h
        obtain ⟨⟨t1, t2, t3, t4, t5, t6, t7, t8, t9, t10, t11, t12, t13, t14⟩, i1⟩ := hI
        have SI : SameA 0 665 (fun k => G 102 (665 * ((i : Int) + 1) + k)) (G6 102) := fun j j0 j1 => by rw [m2, if_pos ⟨j0, j1⟩]
        have Sli : ∀ lo hi, 0 ≤ lo → hi ≤ 665 → SameA lo hi (fun k => G 102 (665 * ((i : Int) + 1) + k)) (G6 102) := fun lo hi l1 l2 j j0 j1 => SI j (by omega) (by omega)
        have ci0 : G6 102 0 = (fun k => G 102 (665 * ((i : Int) + 1) + k)) 0 := SI 0 (by omega) (by omega)
        have E : ∀ x, (x < 2 ∨ 5 < x) → (x < 17 ∨ 24 < x) → x ≠ 34 → x ≠ 12 → x ≠ 25 → x ≠ 102 → G6 x = G x := fun x h1 h2 h3 h4 h5 h6 => by rw [m1 x h6, A x h1 h2 h3 h4 h5]
        have alli : ∀ i' : Nat, i' < 2 → IMi G6 i' := by
          intro i' h'
          have o := imo i' h'
          unfold IMi at *
          rw [E (46 + 16 * i') (by omega) (by omega) (by omega) (by omega) (by omega) (by omega), E (47 + 16 * i') (by omega) (by omega) (by omega) (by omega) (by omega) (by omega), E (48 + 16 * i') (by omega) (by omega) (by omega) (by omega) (by omega) (by omega), E (49 + 16 * i') (by omega) (by omega) (by omega) (by omega) (by omega) (by omega), E (50 + 16 * i') (by omega) (by omega) (by omega) (by omega) (by omega) (by omega), E (51 + 16 * i') (by omega) (by omega) (by omega) (by omega) (by omega) (by omega), E (52 + 16 * i') (by omega) (by omega) (by omega) (by omega) (by omega) (by omega), E (54 + 16 * i') (by omega) (by omega) (by omega) (by omega) (by omega) (by omega), E (55 + 16 * i') (by omega) (by omega) (by omega) (by omega) (by omega) (by omega), E (56 + 16 * i') (by omega) (by omega) (by omega) (by omega) (by omega) (by omega), E (57 + 16 * i') (by omega) (by omega) (by omega) (by omega) (by omega) (by omega), E (60 + 16 * i') (by omega) (by omega) (by omega) (by omega) (by omega) (by omega), E 103 (by omega) (by omega) (by omega) (by omega) (by omega) (by omega)]
          refine IM.congr (fun j j0 j1 => ?_) o
          show G6 102 _ = G 102 _
          rw [m2, if_neg (by omega)]
        have n0 := alli 0 (by omega)
        have n1 := alli 1 (by omega)
        have e : ∀ x, (decide (x < 2 ∨ 5 < x) && decide (x < 17 ∨ 24 < x) && decide (x ≠ 34) && decide (x ≠ 12) && decide (x ≠ 25) && decide (x ≠ 102)) = true → G6 x = G x := fun x h => by
          simp only [Bool.and_eq_true, decide_eq_true_eq] at h
          exact E x h.1.1.1.1.1 h.1.1.1.1.2 h.1.1.1.2 h.1.1.2 h.1.2 h.2
        have z12 : G6 12 5 = 0 := by rw [m1 12 (by decide)]; exact D12
        have z7 : G6 25 7 = 0 := by rw [m1 25 (by decide)]; exact D7
        have z8 : G6 25 8 = 0 := by rw [m1 25 (by decide)]; exact D8
        refine ⟨?_, fun k k0 k1 => by rw [e 98 rfl, e 101 rfl]; exact i1 k k0 k1⟩
        unfold INV0 BB BW at *
        rw [e 0 rfl, e 1 rfl, e 10 rfl, e 13 rfl, e 31 rfl, e 32 rfl, e 37 rfl, e 38 rfl, e 39 rfl, e 40 rfl, e 41 rfl, e 42 rfl, e 43 rfl, e 44 rfl, e 82 rfl, e 100 rfl, e 104 rfl, e 117 rfl, e 118 rfl, e 119 rfl, z12, z7, z8]
        refine ⟨⟨x1.congr (Sli _ _ (by omega) (by omega)), x2.congr (Sli _ _ (by omega) (by omega)) x1 ?_ ?_ ?_ ?_⟩, t2, x3.congr ci0 gx.2.1 (Sli _ _ (by omega) (by omega)) ?_ ?_ ?_, x4.congr ci0 gx.2.1 (Sli _ _ (by omega) (by omega)) ?_ ?_ ?_, x5.congr (Sli _ _ (by omega) (by omega)) ?_, n0, n1, t8, t9, t10, ⟨Int.le_refl _, by omega, fun b b0 b1 t => absurd t (by simp)⟩, ⟨.inl rfl, fun h => by omega⟩, ⟨.inl rfl, fun h => by omega⟩, t14⟩
        · intro j j0 j1; rw [m1 2 (by decide), F1 2 (by omega) (by omega)]; exact s1.2.1 j j0 j1
        · intro j j0 j1; rw [m1 3 (by decide), F1 3 (by omega) (by omega), show 48 + 16 * i = 47 + 16 * i + 1 by omega]; exact s1.2.2.1 j j0 j1
        · intro j j0 j1; rw [m1 4 (by decide), F1 4 (by omega) (by omega), show 49 + 16 * i = 47 + 16 * i + 2 by omega]; exact s1.2.2.2.1 j j0 j1
        · intro j j0 j1; rw [m1 5 (by decide), F1 5 (by omega) (by omega), show 50 + 16 * i = 47 + 16 * i + 3 by omega]; exact s1.2.2.2.2 j j0 j1
        · rw [m1 17 (by decide), F2 17 (by omega) (by omega), s2.2.1, s1.1 _ (by omega) (by omega) (by omega) (by omega)]
        · intro j j0 j1; rw [m1 18 (by decide), F2 18 (by omega) (by omega), show 52 + 16 * i = 51 + 16 * i + 1 by omega]; exact (s2.2.2.1 j j0 j1).trans (by rw [s1.1 _ (by omega) (by omega) (by omega) (by omega)])
        · intro j j0 j1; rw [m1 20 (by decide), F2 20 (by omega) (by omega), show 54 + 16 * i = 51 + 16 * i + 3 by omega]; exact (s2.2.2.2.2 j j0 j1).trans (by rw [s1.1 _ (by omega) (by omega) (by omega) (by omega)])
        · rw [m1 21 (by decide), F3 21 (by omega) (by omega), s3.2.1, s2.1 _ (by omega) (by omega) (by omega) (by omega), s1.1 _ (by omega) (by omega) (by omega) (by omega)]
        · intro j j0 j1; rw [m1 22 (by decide), F3 22 (by omega) (by omega), show 56 + 16 * i = 55 + 16 * i + 1 by omega]; exact (s3.2.2.1 j j0 j1).trans (by rw [s2.1 _ (by omega) (by omega) (by omega) (by omega), s1.1 _ (by omega) (by omega) (by omega) (by omega)])
        · intro j j0 j1; rw [m1 23 (by decide), F3 23 (by omega) (by omega), show 57 + 16 * i = 55 + 16 * i + 2 by omega]; exact (s3.2.2.2.1 j j0 j1).trans (by rw [s2.1 _ (by omega) (by omega) (by omega) (by omega), s1.1 _ (by omega) (by omega) (by omega) (by omega)])
        · intro j j0 j1
          rw [m1 34 (by decide), ← hG5, up_ne (by decide), up_ne (by decide), up_ne (by decide), show 60 + 16 * i = 59 + 16 * i + 1 by omega]
          exact (s4.2 j j0 j1).trans (by rw [s3.1 _ (by omega) (by omega) (by omega) (by omega), s2.1 _ (by omega) (by omega) (by omega) (by omega), s1.1 _ (by omega) (by omega) (by omega) (by omega)])
    · have m0 : G (46 + 16 * i) 0 = 0 := by omega
      refine OP.rf hI (-5) (jI (-5)) ?_ ?_
      · unfold f_X11_restore
        simp (maxSteps := 2000000) (disch := first | assumption | omega) only [jI0, iAdd_j, iSub_j, iMul_j, iNeg_j, Option.bind_some, jlt_t, jlt_f, jlt, jle_t, jle_f, jle, jeq_t, jeq_f, jeq, ↓reduceIte, o0, o2, o12, hBand, hStake, hKind, hCross, hWeaver, oBand, oKindOf, oKind, oCr, oRing, oWv, oPer, oRows, oAhead, oWhen, oAll, oStep, oRods, oRodAt, oStakeAt, oOff, bI_t, bI_f, X11_refuse, n45, imA, imO, m0]
      · intro G1 hM e eo
        have m3 : G1 103 i = 0 := by rw [eo 103 (by decide), ← y1]; exact m0
        have hV1 := hM.1; have hT1 := hM.2; (try rw [← e] at dm); (try rw [← e] at dr); (try rw [← e] at de); (try rw [← e] at dl); (try rw [← e] at hb); (try rw [← e] at hj); (try rw [← e] at hr); (try rw [← e] at hs); (try rw [← e] at pl); (try rw [← e] at al); (try rw [← e] at g); (try rw [← e] at c); (try rw [← e] at c1); (try rw [← e] at c2); (try rw [← e] at c3); (try rw [← e] at c4); (try rw [← e] at c5); (try rw [← e] at c6); (try rw [← e] at wb); (try rw [← e] at pr); (try rw [← e] at kd); (try rw [← e] at cr); (try rw [← e] at fe); (try rw [← e] at ra); (try rw [← e] at f1); (try rw [← e] at f2); (try rw [← e] at f3); (try rw [← e] at f4); (try rw [← e])
        unfold f_X12_restore
        simp (maxSteps := 2000000) (disch := first | assumption | omega) only [jI0, iAdd_j, iSub_j, iMul_j, iNeg_j, Option.bind_some, jlt_t, jlt_f, jlt, jle_t, jle_f, jle, jeq_t, jeq_f, jeq, ↓reduceIte, o100, w100t, l102, mBand, mStake, mKind, mCross, mCr, mKindOf, mAhead, mWhen, mStep, mRods, mRodAt, mStakeAt, mIndex, mOver, mOverIn, jlL, X12_within, bI_t, bI_f, X12_no, l103, m3]
  · refine OP.rf hI (-2) (jI (-2)) ?_ ?_
    · unfold f_X11_restore
      by_cases d : k < 0 <;> simp (maxSteps := 2000000) (disch := first | assumption | omega) only [jI0, iAdd_j, iSub_j, iMul_j, iNeg_j, Option.bind_some, jlt_t, jlt_f, jlt, jle_t, jle_f, jle, jeq_t, jeq_f, jeq, ↓reduceIte, o0, o2, o12, hBand, hStake, hKind, hCross, hWeaver, oBand, oKindOf, oKind, oCr, oRing, oWv, oPer, oRows, oAhead, oWhen, oAll, oStep, oRods, oRodAt, oStakeAt, oOff, bI_t, bI_f, X11_refuse, n45]
    · intro G1 hM e eo
      have hV1 := hM.1; have hT1 := hM.2; (try rw [← e] at dm); (try rw [← e] at dr); (try rw [← e] at de); (try rw [← e] at dl); (try rw [← e] at hb); (try rw [← e] at hj); (try rw [← e] at hr); (try rw [← e] at hs); (try rw [← e] at pl); (try rw [← e] at al); (try rw [← e] at g); (try rw [← e] at c); (try rw [← e] at c1); (try rw [← e] at c2); (try rw [← e] at c3); (try rw [← e] at c4); (try rw [← e] at c5); (try rw [← e] at c6); (try rw [← e] at wb); (try rw [← e] at pr); (try rw [← e] at kd); (try rw [← e] at cr); (try rw [← e] at fe); (try rw [← e] at ra); (try rw [← e] at f1); (try rw [← e] at f2); (try rw [← e] at f3); (try rw [← e] at f4); (try rw [← e])
      unfold f_X12_restore
      simp (maxSteps := 2000000) (disch := first | assumption | omega) only [jI0, iAdd_j, iSub_j, iMul_j, iNeg_j, Option.bind_some, jlt_t, jlt_f, jlt, jle_t, jle_f, jle, jeq_t, jeq_f, jeq, ↓reduceIte, o100, w100t, l102, mBand, mStake, mKind, mCross, mCr, mKindOf, mAhead, mWhen, mStep, mRods, mRodAt, mStakeAt, mIndex, mOver, mOverIn, jlL, X12_within, bI_t, bI_f, X12_no]
end
