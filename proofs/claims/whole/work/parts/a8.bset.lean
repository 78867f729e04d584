/-! bowl: the component's beginning: rounds, wishes, the widths that can be -/
/-- what stands in the maker: bands, wide, reach, rounds, wishes -/
def BT (A U : Int → Int) (row d : Int) (n : Nat) (G : Nat → Int → Int) : Prop := (G 82 0 = n ∧ G 82 1 = A 141 ∧ G 82 2 = d) ∧ ∀ b : Nat, b < n → G 83 b = roF A b ∧ G 84 b = wiF U row b
section
variable {q : Nat × Nat × (Nat → Nat)} {G : Nat → Int → Int} {N : Nat} {A U : Int → Int} {row d : Int} {n : Nat}
theorem BT.of {G' : Nat → Int → Int} (h : BT A U row d n G) (e : ∀ i : Int, i ≤ 2 → G' 82 i = G 82 i) (e3 : G' 83 = G 83) (e4 : G' 84 = G 84) : BT A U row d n G' := by
  unfold BT at *
  rw [e 0 (by omega), e 1 (by omega), e 2 (by omega), e3, e4]
  exact h
theorem oMk29 (hB : BN A U row d n) (hN : 10000 ≤ N) {a2 : Nat} (e2 : G 2 2 = n) (e5 : G 2 5 = A 141) (hr : ∀ H, rcv (hp q H) 5 a2 = some ()) (ho : ∀ (H : Nat → Int → Int) (b : Nat), (∀ a, (a < 82 ∨ 84 < a) → H a = G a) → b < n → f_X0_ofBand N 2 (jI (b : Int)) (jI 3) (hp q H) = some (jI (roF A b), hp q H)) (hi : ∀ (H : Nat → Int → Int) (b : Nat), (∀ a, (a < 82 ∨ 84 < a) → H a = G a) → b < n → f_X5_intAt N a2 (jI (b : Int)) (hp q H) = some (jI (wiF U row b), hp q H)) : ∃ (f : Nat) (G1 : Nat → Int → Int), ((∀ a, (a < 82 ∨ 84 < a) → G1 a = G a) ∧ BT A U row d n G1 ∧ (∀ i : Int, 3 ≤ i → G1 82 i = G 82 i)) ∧ f_X1_make N 82 2 a2 (jI d) (hp q G) = L_X1_make_29 N (f + 1) 82 2 a2 (jI (n : Int)) (hp q G1) := by
  have n8 := hB.2.1
  generalize hG0 : up (up (up G 82 0 n) 82 1 (A 141)) 82 2 d = G0
  have E82 : G0 82 = u1 (u1 (u1 (G 82) 0 n) 1 (A 141)) 2 d := by rw [← hG0, up_eq, up_eq, up_eq]
  have Eo : ∀ a, a ≠ 82 → G0 a = G a := fun a ha => by rw [← hG0, up_ne ha, up_ne ha, up_ne ha]
  have s0 : G0 82 0 = n ∧ G0 82 1 = A 141 ∧ G0 82 2 = d := by
    rw [E82]
    exact ⟨rfl, rfl, rfl⟩
  have LL : ∀ (k f j : Nat) (H : Nat → Int → Int), j + k = n → k < f → (∀ a, a ≠ 83 → a ≠ 84 → H a = G0 a) → (∀ b : Nat, b < j → H 83 b = roF A b ∧ H 84 b = wiF U row b) → ∃ (f' : Nat) (G1 : Nat → Int → Int), ((∀ a, a ≠ 83 → a ≠ 84 → G1 a = G0 a) ∧ (∀ b : Nat, b < n → G1 83 b = roF A b ∧ G1 84 b = wiF U row b)) ∧ L_X1_make_29 N f 82 2 a2 (jI (j : Int)) (hp q H) = L_X1_make_29 N (f' + 1) 82 2 a2 (jI (n : Int)) (hp q G1) := by
    intro k
    induction k with
    | zero =>
      intro f j H hj hf e1 e2
      obtain ⟨f, rfl⟩ : ∃ y, f = y + 1 := ⟨f - 1, by omega⟩
      have e : j = n := by omega
      rw [e] at e2 ⊢
      exact ⟨f, H, ⟨e1, e2⟩, rfl⟩
    | succ k ih =>
      intro f j H hj hf e1 e2
      obtain ⟨f, rfl⟩ : ∃ y, f = y + 1 := ⟨f - 1, by omega⟩
      have fr : ∀ a, (a < 82 ∨ 84 < a) → H a = G a := fun a ha => by rw [e1 a (by omega) (by omega), Eo a (by omega)]
      have o := ho H j fr (by omega)
      have i := hi (up H 83 j (roF A j)) j (fun a ha => by rw [up_ne (by omega)]; exact fr a ha) (by omega)
      have h0 : H 82 0 = n := by rw [e1 82 (by decide) (by decide)]; exact s0.1
      obtain ⟨f', G1, y1, y2⟩ := ih f (j + 1) (up (up H 83 j (roF A j)) 84 j (wiF U row j)) (by omega) (by omega) (fun a h3 h4 => by rw [up_ne h4, up_ne h3]; exact e1 a h3 h4) (fun b hb => by
        rw [up_ne (by decide), up_eq, up_eq, up_ne (by decide)]
        by_cases c : b = j
        · rw [c, u1_eq, u1_eq]
          exact ⟨rfl, rfl⟩
        · rw [u1_ne (by omega), u1_ne (by omega)]
          exact e2 b (by omega))
      refine ⟨f', G1, y1, ?_⟩
      rw [Int.natCast_succ] at y2
      have c : (j : Int) < n := by omega
      have rcH := hr (up H 83 j (roF A j))
      have rc2 := (o2 q H).1
      rw [L_X1_make_29]
      simp (maxSteps := 2000000) (disch := first | assumption | omega) only [jI0, iAdd_j, iSub_j, iMul_j, iNeg_j, Option.bind_some, jlt_t, jlt_f, jlt, jle_t, jle_f, jle, jeq_t, jeq_f, jeq, ↓reduceIte, o82, h0, c, rc2, o, s83, rcH, i, s84, y2]
  obtain ⟨f', G1, ⟨y1, y2⟩, y3⟩ := LL n N 0 G0 (by omega) (by omega) (fun _ _ _ => rfl) (fun b hb => absurd hb (by omega))
  refine ⟨f', G1, ⟨fun a ha => by rw [y1 a (by omega) (by omega), Eo a (by omega)], ⟨by rw [y1 82 (by decide) (by decide)]; exact s0, y2⟩, fun i hi => by rw [y1 82 (by decide) (by decide), E82, u1_ne (by omega), u1_ne (by omega), u1_ne (by omega)]⟩, ?_⟩
  rw [show ((0 : Nat) : Int) = 0 from rfl] at y3
  have mn : min (n : Int) 8 = n := by omega
  have g5 : up G 82 0 n 2 5 = A 141 := by rw [up_ne (by decide)]; exact e5
  unfold f_X1_make
  simp (maxSteps := 2000000) (disch := first | assumption | omega) only [jI0, iAdd_j, iSub_j, iMul_j, iNeg_j, Option.bind_some, jlt_t, jlt_f, jlt, jle_t, jle_f, jle, jeq_t, jeq_f, jeq, ↓reduceIte, o2, e2, iMin_j, mn, w82, g5, hG0, y3]
/-- the widths that leans can make, what no leans can spare -/
theorem oRanges (hB : BN A U row d n) (hN : 10000 ≤ N) (h : BT A U row d n G) : ∃ G1 : Nat → Int → Int, ((∀ a, (a < 85 ∨ 88 < a) → G1 a = G a) ∧ ∀ b : Nat, b < n → (G1 85 b = lw A (b + 1) ∧ G1 86 b = mo A (b + 1)) ∧ G1 87 b = su A U row b ∧ G1 88 b = ss A U row n - ss A U row (b + 1)) ∧ f_X1_setRanges N 82 (hp q G) = some (hp q G1) := by
  have n8 := hB.2.1
  have W := hB.2.2.1
  have sr : ∀ b : Nat, b ≤ n → 0 ≤ ss A U row b ∧ ss A U row b ≤ 9998 * b := by
    intro b
    induction b with
    | zero => intro _; rw [ss]; omega
    | succ b ih =>
      intro hb
      have i := ih (by omega)
      have r := su_r hB (show b < n by omega)
      rw [ss]
      omega
  have back : ∀ (k f : Nat) (H : Nat → Int → Int), k ≤ n → k < f → (∀ a, (a < 85 ∨ 88 < a) → H a = G a) → (∀ b : Nat, b < n → (H 85 b = lw A (b + 1) ∧ H 86 b = mo A (b + 1)) ∧ H 87 b = su A U row b) → (∀ b : Nat, b < n → k ≤ b → H 88 b = ss A U row n - ss A U row (b + 1)) → ∃ G1 : Nat → Int → Int, ((∀ a, (a < 85 ∨ 88 < a) → G1 a = G a) ∧ ∀ b : Nat, b < n → (G1 85 b = lw A (b + 1) ∧ G1 86 b = mo A (b + 1)) ∧ G1 87 b = su A U row b ∧ G1 88 b = ss A U row n - ss A U row (b + 1)) ∧ L_X1_setRanges_107 N f 82 (jI (ss A U row n - ss A U row k)) (jI ((k : Int) - 1)) (hp q H) = some (hp q G1) := by
    intro k
    induction k with
    | zero =>
      intro f H hk hf e1 e2 e3
      obtain ⟨f, rfl⟩ : ∃ y, f = y + 1 := ⟨f - 1, by omega⟩
      refine ⟨H, ⟨e1, fun b hb => ⟨(e2 b hb).1, (e2 b hb).2, e3 b hb (by omega)⟩⟩, ?_⟩
      rw [L_X1_setRanges_107]
      have c : ((0 : Nat) : Int) - 1 < 0 := by omega
      simp (maxSteps := 2000000) (disch := first | assumption | omega) only [jI0, iAdd_j, iSub_j, iMul_j, iNeg_j, Option.bind_some, jlt_t, jlt_f, jlt, jle_t, jle_f, jle, jeq_t, jeq_f, jeq, ↓reduceIte, c]
    | succ k ih =>
      intro f H hk hf e1 e2 e3
      obtain ⟨f, rfl⟩ : ∃ y, f = y + 1 := ⟨f - 1, by omega⟩
      have sk := sr (k + 1) (by omega)
      have snr := sr n (by omega)
      have e87 := (e2 k (by omega)).2
      obtain ⟨G1, y1, y2⟩ := ih f (up H 88 k (ss A U row n - ss A U row (k + 1))) (by omega) (by omega) (fun a ha => by rw [up_ne (by omega)]; exact e1 a ha) (fun b hb => by rw [up_ne (by decide), up_ne (by decide), up_ne (by decide)]; exact e2 b hb) (fun b hb hk' => by
        rw [up_eq]
        by_cases c : b = k
        · rw [c, u1_eq]
        · rw [u1_ne (by omega)]
          exact e3 b hb (by omega))
      refine ⟨G1, y1, ?_⟩
      have c : ¬ (k : Int) < 0 := by omega
      have ek : (((k + 1 : Nat) : Int) - 1) = (k : Int) := by omega
      have es : ss A U row n - ss A U row (k + 1) + su A U row k = ss A U row n - ss A U row k := by rw [ss]; omega
      have e87' : up H 88 k (ss A U row n - ss A U row (k + 1)) 87 k = su A U row k := by rw [up_ne (by decide)]; exact e87
      have em : (k : Int) + -1 = (k : Int) - 1 := by omega
      rw [ek, L_X1_setRanges_107]
      simp (maxSteps := 2000000) (disch := first | assumption | omega) only [jI0, iAdd_j, iSub_j, iMul_j, iNeg_j, Option.bind_some, jlt_t, jlt_f, jlt, jle_t, jle_f, jle, jeq_t, jeq_f, jeq, ↓reduceIte, c, o82, s88, l87, e87', es, em, y2]
  have forth : ∀ (k f j : Nat) (H : Nat → Int → Int), j + k = n → k < f → (∀ a, (a < 85 ∨ 87 < a) → H a = G a) → (∀ b : Nat, b < j → (H 85 b = lw A (b + 1) ∧ H 86 b = mo A (b + 1)) ∧ H 87 b = su A U row b) → ∃ G1 : Nat → Int → Int, ((∀ a, (a < 85 ∨ 88 < a) → G1 a = G a) ∧ ∀ b : Nat, b < n → (G1 85 b = lw A (b + 1) ∧ G1 86 b = mo A (b + 1)) ∧ G1 87 b = su A U row b ∧ G1 88 b = ss A U row n - ss A U row (b + 1)) ∧ L_X1_setRanges_12 N f 82 (jI (lw A j)) (jI (mo A j)) (jI (j : Int)) (hp q H) = some (hp q G1) := by
    intro k
    induction k with
    | zero =>
      intro f j H hj hf e1 e2
      obtain ⟨f, rfl⟩ : ∃ y, f = y + 1 := ⟨f - 1, by omega⟩
      have e : j = n := by omega
      rw [e] at e2 ⊢
      have h0 : H 82 0 = n := by rw [e1 82 (by omega)]; exact h.1.1
      obtain ⟨G1, y1, y2⟩ := back n N H (Nat.le_refl n) (by omega) (fun a ha => e1 a (by omega)) e2 (fun b hb hn => absurd hb (by omega))
      refine ⟨G1, y1, ?_⟩
      rw [Int.sub_self] at y2
      have c : ¬ (n : Int) < n := by omega
      rw [L_X1_setRanges_12]
      simp (maxSteps := 2000000) (disch := first | assumption | omega) only [jI0, iAdd_j, iSub_j, iMul_j, iNeg_j, Option.bind_some, jlt_t, jlt_f, jlt, jle_t, jle_f, jle, jeq_t, jeq_f, jeq, ↓reduceIte, o82, h0, c, y2]
    | succ k ih =>
      intro f j H hj hf e1 e2
      obtain ⟨f, rfl⟩ : ∃ y, f = y + 1 := ⟨f - 1, by omega⟩
      have h0 : H 82 0 = n := by rw [e1 82 (by omega)]; exact h.1.1
      have hb := h.2 j (by omega)
      have h83 : H 83 j = roF A j := by rw [e1 83 (by omega)]; exact hb.1
      have h84 : H 84 j = wiF U row j := by rw [e1 84 (by omega)]; exact hb.2
      have rr := hB.2.2.2.1 j (by omega) (by omega)
      have wr := hB.2.2.2.2.1 j (by omega) (by omega)
      have l1 := lw_1 hB j (by omega)
      have m1 := mo_r hB j (by omega)
      have l2 := lw_1 hB (j + 1) (by omega)
      have m2 := mo_r hB (j + 1) (by omega)
      have el : max 1 (lw A j - 9 * roF A j) = lw A (j + 1) := rfl
      have em : mo A j + 9 * roF A j = mo A (j + 1) := rfl
      have es : max 0 (max (lw A (j + 1) - wiF U row j) (wiF U row j - mo A (j + 1))) = su A U row j := rfl
      have x84 : up (up H 85 j (lw A (j + 1))) 86 j (mo A (j + 1)) 84 j = wiF U row j := by rw [up_ne (by decide), up_ne (by decide)]; exact h84
      obtain ⟨G1, y1, y2⟩ := ih f (j + 1) (up (up (up H 85 j (lw A (j + 1))) 86 j (mo A (j + 1))) 87 j (su A U row j)) (by omega) (by omega) (fun a ha => by rw [up_ne (by omega), up_ne (by omega), up_ne (by omega)]; exact e1 a ha) (fun b hb => by
        rw [up_ne (by decide), up_ne (by decide), up_eq, up_ne (by decide), up_eq, up_eq, up_ne (by decide), up_ne (by decide)]
        by_cases c : b = j
        · rw [c, u1_eq, u1_eq, u1_eq]
          exact ⟨⟨rfl, rfl⟩, rfl⟩
        · rw [u1_ne (by omega), u1_ne (by omega), u1_ne (by omega)]
          exact e2 b (by omega))
      refine ⟨G1, y1, ?_⟩
      rw [Int.natCast_succ] at y2
      have c : (j : Int) < n := by omega
      have i1 := iMax_j (a := 1) (b := lw A j - 9 * roF A j) (by omega) (by omega) (by omega) (by omega)
      have i2 := iMax_j (a := lw A (j + 1) - wiF U row j) (b := wiF U row j - mo A (j + 1)) (by omega) (by omega) (by omega) (by omega)
      have i3 := iMax_j (a := 0) (b := max (lw A (j + 1) - wiF U row j) (wiF U row j - mo A (j + 1))) (by omega) (by omega) (by omega) (by omega)
      rw [el] at i1
      rw [es] at i3
      rw [L_X1_setRanges_12]
      simp (maxSteps := 2000000) (disch := first | assumption | omega) only [jI0, iAdd_j, iSub_j, iMul_j, iNeg_j, Option.bind_some, jlt_t, jlt_f, jlt, jle_t, jle_f, jle, jeq_t, jeq_f, jeq, ↓reduceIte, o82, h0, c, l83, h83, i1, em, s85, s86, l84, x84, i2, i3, s87, y2]
  obtain ⟨G1, y1, y2⟩ := forth n N 0 G (by omega) (by omega) (fun _ _ => rfl) (fun b hb => absurd hb (by omega))
  refine ⟨G1, y1, ?_⟩
  have e1 := h.1.2.1
  have z1 : lw A 0 = A 141 := rfl
  have z2 : mo A 0 = A 141 := rfl
  rw [z1, z2, show ((0 : Nat) : Int) = 0 from rfl] at y2
  unfold f_X1_setRanges
  simp (maxSteps := 2000000) (disch := first | assumption | omega) only [jI0, iAdd_j, iSub_j, iMul_j, iNeg_j, Option.bind_some, jlt_t, jlt_f, jlt, jle_t, jle_f, jle, jeq_t, jeq_f, jeq, ↓reduceIte, o82, e1, y2]
end
