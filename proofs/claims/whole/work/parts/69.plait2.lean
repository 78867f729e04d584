/-! call: plait -/
section
variable {K1 K2 : (Int → Int) → (Int → Int) → Prop} {q : Nat × Nat × (Nat → Nat)} {G : Nat → Int → Int} {N : Nat}
theorem oPl {r : Nat} (hN : 10000 ≤ N) (hr : r < 4) (p : RP G r) {n : Nat} {m : Int} (hn : G (37 + 2 * r) 0 = n) (hm : 2 ≤ m ∧ m ≤ 9) (hv : ∀ k : Nat, k < n → 1 - m ≤ G (38 + 2 * r) k ∧ G (38 + 2 * r) k ≤ m - 2) : ∃ G1, ((∀ a, a ≠ 96 → G1 a = G a) ∧ ∀ k : Int, 0 ≤ k → k < 9 → G1 96 k = plP (G (38 + 2 * r)) n k) ∧ f_X7_make N 95 (37 + 2 * r) (jI m) (hp q G) = some (hp q G1) := by
  have n40 : n ≤ 40 := by have := p.2.1; omega
  unfold f_X7_make
  have S : ∃ G1, ((∀ a, a ≠ 96 → G1 a = G a) ∧ ∀ k : Int, 0 ≤ k → k < 9 → G1 96 k = k) ∧ L_X7_make_2 N N 95 (37 + 2 * r) (jI m) (jI 0) (hp q G) = L_X7_make_26 N N 95 (37 + 2 * r) (jI m) (jI 0) (hp q G1) := by
    refine loopG (N := N) (fun f (t : Int × (Nat → Int → Int)) => L_X7_make_2 N f 95 (37 + 2 * r) (jI m) (jI t.1) (hp q t.2)) (fun k t => t.1 = k ∧ (∀ a, a ≠ 96 → t.2 a = G a) ∧ ∀ j : Int, 0 ≤ j → j < k → t.2 96 j = j) 9 (by omega) (s := (0, G)) ⟨rfl, fun _ _ => rfl, fun j j0 j1 => by omega⟩ ?_ ?_
    · rintro f k ⟨i, G1⟩ hk ⟨rfl, t1, t2⟩
      simp only at t1 t2
      refine ⟨(((k + 1 : Nat) : Int), up G1 96 k k), ⟨rfl, fun a ha => (up_ne ha).trans (t1 a ha), fun j j0 j1 => ?_⟩, ?_⟩
      · show up G1 96 k k 96 j = j
        rw [up_eq]
        by_cases c : j = k
        · rw [c, u1_eq]
        · rw [u1_ne c]; exact t2 j j0 (by omega)
      · show L_X7_make_2 N (f + 1) 95 (37 + 2 * r) (jI m) (jI (k : Int)) (hp q G1) = L_X7_make_2 N f 95 (37 + 2 * r) (jI m) (jI ((k + 1 : Nat) : Int)) (hp q (up G1 96 k k))
        rw [L_X7_make_2]
        simp (maxSteps := 2000000) (disch := first | assumption | omega) only [jI0, iAdd_j, iSub_j, iMul_j, iNeg_j, Option.bind_some, jlt_t, jlt_f, jlt, jle_t, jle_f, jle, jeq_t, jeq_f, jeq, ↓reduceIte, o95, n96, s96, Int.natCast_succ]
    · rintro f ⟨i, G1⟩ ⟨rfl, t1, t2⟩
      simp only at t1 t2
      refine ⟨G1, ⟨t1, t2⟩, ?_⟩
      show L_X7_make_2 N (f + 1) 95 (37 + 2 * r) (jI m) (jI (9 : Nat)) (hp q G1) = _
      rw [L_X7_make_2]
      simp (maxSteps := 2000000) (disch := first | assumption | omega) only [jI0, iAdd_j, iSub_j, iMul_j, iNeg_j, Option.bind_some, jlt_t, jlt_f, jlt, jle_t, jle_f, jle, jeq_t, jeq_f, jeq, ↓reduceIte, o95, n96]
  obtain ⟨G0, ⟨a1, a2⟩, eS⟩ := S
  rw [eS]
  refine loopG (N := N) (fun f (t : Int × (Nat → Int → Int)) => L_X7_make_26 N f 95 (37 + 2 * r) (jI m) (jI t.1) (hp q t.2)) (fun k t => t.1 = k ∧ (∀ a, a ≠ 96 → t.2 a = G a) ∧ ∀ j : Int, 0 ≤ j → j < 9 → t.2 96 j = plP (G (38 + 2 * r)) k j) n (by omega) (s := (0, G0)) ⟨rfl, a1, a2⟩ ?_ ?_
  · rintro f k ⟨i, G1⟩ hk ⟨rfl, t1, t2⟩
    simp only at t1 t2
    have p1 := p.ne hr (x := 96) (by omega) t1
    have e7 : G1 (37 + 2 * r) 0 = n := by rw [t1 _ (by omega), hn]
    have e8 : G1 (38 + 2 * r) = G (38 + 2 * r) := t1 _ (by omega)
    have vk := hv k hk
    have px := plx_r vk.1 vk.2
    have g37 := ro (q := q) (G := G1) hr
    have oi := oInt (q := q) (N := N) hr p1 (k := (k : Int)) (by omega) (by omega)
    rw [e8] at oi
    have b1 := t2 (plx (G (38 + 2 * r) k)) (by omega) (by omega)
    have b2 := t2 (plx (G (38 + 2 * r) k) + 1) (by omega) (by omega)
    refine ⟨(((k + 1 : Nat) : Int), up (up G1 96 (plx (G (38 + 2 * r) k)) (plP (G (38 + 2 * r)) k (plx (G (38 + 2 * r) k) + 1))) 96 (plx (G (38 + 2 * r) k) + 1) (plP (G (38 + 2 * r)) k (plx (G (38 + 2 * r) k)))), ⟨rfl, fun a ha => (up_ne ha).trans ((up_ne ha).trans (t1 a ha)), fun j j0 j1 => ?_⟩, ?_⟩
    · (try dsimp only)
      rw [up_eq, up_eq]
      simp only [plP]
      by_cases c : j = plx (G (38 + 2 * r) k) + 1
      · rw [c, u1_eq, u1_eq]
      · rw [u1_ne c, u1_ne c]
        by_cases d : j = plx (G (38 + 2 * r) k)
        · rw [d, u1_eq, u1_eq]
        · rw [u1_ne d, u1_ne d]; exact t2 j j0 j1
    · show L_X7_make_26 N (f + 1) 95 (37 + 2 * r) (jI m) (jI (k : Int)) (hp q G1) = L_X7_make_26 N f 95 (37 + 2 * r) (jI m) (jI ((k + 1 : Nat) : Int)) (hp q _)
      rw [L_X7_make_26]
      have J : J_X7_make_55 N (L_X7_make_26 N f) 95 (37 + 2 * r) (jI m) (jI (k : Int)) (jI (plx (G (38 + 2 * r) k))) (hp q G1) = L_X7_make_26 N f 95 (37 + 2 * r) (jI m) (jI ((k + 1 : Nat) : Int)) (hp q (up (up G1 96 (plx (G (38 + 2 * r) k)) (plP (G (38 + 2 * r)) k (plx (G (38 + 2 * r) k) + 1))) 96 (plx (G (38 + 2 * r) k) + 1) (plP (G (38 + 2 * r)) k (plx (G (38 + 2 * r) k))))) := by
        unfold J_X7_make_55
        simp (maxSteps := 2000000) (disch := first | assumption | omega) only [jI0, iAdd_j, iSub_j, iMul_j, iNeg_j, Option.bind_some, jlt_t, jlt_f, jlt, jle_t, jle_f, jle, jeq_t, jeq_f, jeq, ↓reduceIte, o95, n96, l96, s96, b1, b2, Int.natCast_succ]
      by_cases c : G (38 + 2 * r) k < 0
      · have e : plx (G (38 + 2 * r) k) = -1 - G (38 + 2 * r) k := if_pos c
        simp (maxSteps := 2000000) (disch := first | assumption | omega) only [jI0, iAdd_j, iSub_j, iMul_j, iNeg_j, Option.bind_some, jlt_t, jlt_f, jlt, jle_t, jle_f, jle, jeq_t, jeq_f, jeq, ↓reduceIte, g37, e7, oi, ← e]
        exact J
      · have e : plx (G (38 + 2 * r) k) = G (38 + 2 * r) k := if_neg c
        simp (maxSteps := 2000000) (disch := first | assumption | omega) only [jI0, iAdd_j, iSub_j, iMul_j, iNeg_j, Option.bind_some, jlt_t, jlt_f, jlt, jle_t, jle_f, jle, jeq_t, jeq_f, jeq, ↓reduceIte, g37, e7, oi]
        rw [e] at J
        rw [e]
        exact J
  · rintro f ⟨i, G1⟩ ⟨rfl, t1, t2⟩
    simp only at t1 t2
    have e7 : G1 (37 + 2 * r) 0 = n := by rw [t1 _ (by omega), hn]
    have g37 := ro (q := q) (G := G1) hr
    refine ⟨G1, ⟨t1, t2⟩, ?_⟩
    show L_X7_make_26 N (f + 1) 95 (37 + 2 * r) (jI m) (jI (n : Int)) (hp q G1) = _
    rw [L_X7_make_26]
    simp (maxSteps := 2000000) (disch := first | assumption | omega) only [jI0, iAdd_j, iSub_j, iMul_j, iNeg_j, Option.bind_some, jlt_t, jlt_f, jlt, jle_t, jle_f, jle, jeq_t, jeq_f, jeq, ↓reduceIte, g37, e7]
theorem oLeftP {r : Nat} (hN : 10000 ≤ N) (hr : r < 4) (p : RP G r) {n : Nat} (hn : G (37 + 2 * r) 0 = n) (hv : ∀ k : Nat, k < n → -9 ≤ G (38 + 2 * r) k ∧ G (38 + 2 * r) k ≤ 9) : ∃ G1, (∀ a, a ≠ 97 → G1 a = G a) ∧ f_X7_leftOf N 95 (37 + 2 * r) (hp q G) = some (jI (plS (G (38 + 2 * r)) n).1, hp q G1) := by
  have n40 : n ≤ 40 := by have := p.2.1; omega
  unfold f_X7_leftOf
  refine loopG (N := N) (fun f (t : Nat × Int × (Nat → Int → Int)) => L_X7_leftOf_4 N f 95 (37 + 2 * r) (jI t.1) (jI t.2.1) (hp q t.2.2)) (fun k t => t.1 = (plS (G (38 + 2 * r)) k).1 ∧ t.2.1 = k ∧ (∀ a, a ≠ 97 → t.2.2 a = G a) ∧ ∀ j : Int, 0 ≤ j → j < (plS (G (38 + 2 * r)) k).1 → t.2.2 97 j = (plS (G (38 + 2 * r)) k).2 j) n (by omega) (s := (0, 0, G)) ⟨rfl, rfl, fun _ _ => rfl, fun j j0 j1 => by
    have : j < ((0 : Nat) : Int) := j1
    omega⟩ ?_ ?_
  · rintro f k ⟨c, i, G1⟩ hk ⟨rfl, rfl, t1, t2⟩
    simp only at t1 t2
    have p1 := p.ne hr (x := 97) (by omega) t1
    have e7 : G1 (37 + 2 * r) 0 = n := by rw [t1 _ (by omega), hn]
    have e8 : G1 (38 + 2 * r) = G (38 + 2 * r) := t1 _ (by omega)
    have vk := hv k hk
    have g37 := ro (q := q) (G := G1) hr
    have oi := oInt (q := q) (N := N) hr p1 (k := (k : Int)) (by omega) (by omega)
    rw [e8] at oi
    have sr := plS_r (v := G (38 + 2 * r)) (i := k) (fun j hj => hv j (by omega))
    have se : plS (G (38 + 2 * r)) (k + 1) = if 0 < (plS (G (38 + 2 * r)) k).1 ∧ (plS (G (38 + 2 * r)) k).2 ((plS (G (38 + 2 * r)) k).1 - 1) = -1 - G (38 + 2 * r) k then ((plS (G (38 + 2 * r)) k).1 - 1, (plS (G (38 + 2 * r)) k).2) else ((plS (G (38 + 2 * r)) k).1 + 1, u1 (plS (G (38 + 2 * r)) k).2 (plS (G (38 + 2 * r)) k).1 (G (38 + 2 * r) k)) := rfl
    generalize plS (G (38 + 2 * r)) k = S at *
    by_cases c1 : 0 < S.1 ∧ S.2 (S.1 - 1) = -1 - G (38 + 2 * r) k
    · rw [if_pos c1] at se
      refine ⟨(S.1 - 1, ((k + 1 : Nat) : Int), G1), ⟨by rw [se], rfl, t1, fun j j0 j1 => ?_⟩, ?_⟩
      · rw [se] at j1 ⊢
        have j2 : j < ((S.1 - 1 : Nat) : Int) := j1
        exact t2 j j0 (by omega)
      · show L_X7_leftOf_4 N (f + 1) 95 (37 + 2 * r) (jI S.1) (jI (k : Int)) (hp q G1) = L_X7_leftOf_4 N f 95 (37 + 2 * r) (jI ((S.1 - 1 : Nat) : Int)) (jI ((k + 1 : Nat) : Int)) (hp q G1)
        have b := t2 (S.1 - 1) (by omega) (by omega)
        rw [c1.2] at b
        have e1 : ((S.1 - 1 : Nat) : Int) = (S.1 : Int) + -1 := by omega
        rw [L_X7_leftOf_4, e1]
        simp (maxSteps := 2000000) (disch := first | assumption | omega) only [jI0, iAdd_j, iSub_j, iMul_j, iNeg_j, Option.bind_some, jlt_t, jlt_f, jlt, jle_t, jle_f, jle, jeq_t, jeq_f, jeq, ↓reduceIte, g37, e7, o95, n97, oi, l97, b, Int.natCast_succ]
    · rw [if_neg c1] at se
      refine ⟨(S.1 + 1, ((k + 1 : Nat) : Int), up G1 97 S.1 (G (38 + 2 * r) k)), ⟨by rw [se], rfl, fun a ha => (up_ne ha).trans (t1 a ha), fun j j0 j1 => ?_⟩, ?_⟩
      · rw [se] at j1 ⊢
        have j2 : j < ((S.1 + 1 : Nat) : Int) := j1
        show up G1 97 S.1 (G (38 + 2 * r) k) 97 j = u1 S.2 S.1 (G (38 + 2 * r) k) j
        rw [up_eq]
        by_cases d : j = S.1
        · rw [d, u1_eq, u1_eq]
        · rw [u1_ne d, u1_ne d]
          exact t2 j j0 (by omega)
      · show L_X7_leftOf_4 N (f + 1) 95 (37 + 2 * r) (jI S.1) (jI (k : Int)) (hp q G1) = L_X7_leftOf_4 N f 95 (37 + 2 * r) (jI ((S.1 + 1 : Nat) : Int)) (jI ((k + 1 : Nat) : Int)) (hp q (up G1 97 S.1 (G (38 + 2 * r) k)))
        rw [L_X7_leftOf_4]
        by_cases d : 0 < S.1
        · have b := t2 (S.1 - 1) (by omega) (by omega)
          have sb := sr.2 (S.1 - 1) (by omega) (by omega)
          have ne : S.2 (S.1 - 1) ≠ -1 - G (38 + 2 * r) k := fun x => c1 ⟨d, x⟩
          simp (maxSteps := 2000000) (disch := first | assumption | omega) only [jI0, iAdd_j, iSub_j, iMul_j, iNeg_j, Option.bind_some, jlt_t, jlt_f, jlt, jle_t, jle_f, jle, jeq_t, jeq_f, jeq, ↓reduceIte, g37, e7, o95, n97, oi, l97, s97, b, Int.natCast_succ]
        · simp (maxSteps := 2000000) (disch := first | assumption | omega) only [jI0, iAdd_j, iSub_j, iMul_j, iNeg_j, Option.bind_some, jlt_t, jlt_f, jlt, jle_t, jle_f, jle, jeq_t, jeq_f, jeq, ↓reduceIte, g37, e7, o95, n97, oi, s97, Int.natCast_succ]
  · rintro f ⟨c, i, G1⟩ ⟨rfl, rfl, t1, t2⟩
    simp only at t1 t2
    have e7 : G1 (37 + 2 * r) 0 = n := by rw [t1 _ (by omega), hn]
    have g37 := ro (q := q) (G := G1) hr
    refine ⟨G1, t1, ?_⟩
    show L_X7_leftOf_4 N (f + 1) 95 (37 + 2 * r) (jI (plS (G (38 + 2 * r)) n).1) (jI (n : Int)) (hp q G1) = _
    rw [L_X7_leftOf_4]
    simp (maxSteps := 2000000) (disch := first | assumption | omega) only [jI0, iAdd_j, iSub_j, iMul_j, iNeg_j, Option.bind_some, jlt_t, jlt_f, jlt, jle_t, jle_f, jle, jeq_t, jeq_f, jeq, ↓reduceIte, g37, e7]
theorem oRg (hN : 10000 ≤ N) {P : Int → Int} {m L : Nat} {k : Int} (hm : m ≤ 9) (hP : PM P m) (k0 : 0 ≤ k) (k1 : k < m) (hG : ∀ j : Int, 0 ≤ j → j < m → G 96 j = P j) (hL : RG P m k L) : f_X7_ringOf N 95 (jI k) (hp q G) = some (jI L, hp q G) := by
  obtain ⟨l1, l2, l3, l4⟩ := hL
  have ir := itP_r hP k0 k1
  have g1 := hG k k0 k1
  unfold f_X7_ringOf
  simp (maxSteps := 2000000) (disch := first | assumption | omega) only [jI0, iAdd_j, iSub_j, iMul_j, iNeg_j, Option.bind_some, jlt_t, jlt_f, jlt, jle_t, jle_f, jle, jeq_t, jeq_f, jeq, ↓reduceIte, o95, l96, g1]
  refine (loopE (N := N) (fun f (i : Nat) => L_X7_ringOf_9 N f 95 (jI k) (jI (itP P k (i + 1))) (jI ((i + 1 : Nat) : Int)) (hp q G)) (fun i => i) (L - 1) (r := some (jI L, hp q G)) (by omega) ?_ ?_) |> Eq.trans ?_
  · rfl
  · intro f i hi
    show L_X7_ringOf_9 N (f + 1) 95 (jI k) (jI (itP P k (i + 1))) (jI ((i + 1 : Nat) : Int)) (hp q G) = L_X7_ringOf_9 N f 95 (jI k) (jI (itP P k (i + 1 + 1))) (jI ((i + 1 + 1 : Nat) : Int)) (hp q G)
    have ne := l4 (i + 1) (by omega) (by omega)
    have r1 := ir (i + 1)
    have g2 := hG (itP P k (i + 1)) r1.1 r1.2
    have g3 : P (itP P k (i + 1)) = itP P k (i + 1 + 1) := rfl
    rw [L_X7_ringOf_9]
    generalize itP P k (i + 1) = x at *
    simp (maxSteps := 2000000) (disch := first | assumption | omega) only [jI0, iAdd_j, iSub_j, iMul_j, iNeg_j, Option.bind_some, jlt_t, jlt_f, jlt, jle_t, jle_f, jle, jeq_t, jeq_f, jeq, ↓reduceIte, o95, l96, g2, g3, Int.natCast_succ]
  · intro f
    show L_X7_ringOf_9 N (f + 1) 95 (jI k) (jI (itP P k (L - 1 + 1))) (jI ((L - 1 + 1 : Nat) : Int)) (hp q G) = _
    rw [show L - 1 + 1 = L by omega, l3, L_X7_ringOf_9]
    simp (maxSteps := 2000000) (disch := first | assumption | omega) only [jI0, iAdd_j, iSub_j, iMul_j, iNeg_j, Option.bind_some, jlt_t, jlt_f, jlt, jle_t, jle_f, jle, jeq_t, jeq_f, jeq, ↓reduceIte]
theorem mRg (hN : 10000 ≤ N) {P : Int → Int} {m L : Nat} {k : Int} {o : Nat} (hm : m ≤ 9) (hP : PM P m) (k0 : 0 ≤ k) (k1 : k < m) (hG : ∀ j : Int, 0 ≤ j → j < m → G 109 j = P j) (hL : RG P m k L) (ho : 0 < o ∧ o ≤ 2520) (K : Nat → Int32 → Int32 → Int32 → mH → Option (Int32 × mH)) : L_X12_plait_320 N K N 100 (jI m) (jI o) (jI k) (jI 1) (jI (P k)) (hp q G) = K 100 (jI m) (jI ((o / Nat.gcd o L * L : Nat) : Int)) (jI (k + 1)) (hp q G) := by
  obtain ⟨l1, l2, l3, l4⟩ := hL
  have ir := itP_r hP k0 k1
  refine (loopE (N := N) (fun f (i : Nat) => L_X12_plait_320 N K f 100 (jI m) (jI o) (jI k) (jI ((i + 1 : Nat) : Int)) (jI (itP P k (i + 1))) (hp q G)) (fun i => i) (L - 1) (r := K 100 (jI m) (jI ((o / Nat.gcd o L * L : Nat) : Int)) (jI (k + 1)) (hp q G)) (by omega) ?_ ?_) |> Eq.trans ?_
  · rfl
  · intro f i hi
    show L_X12_plait_320 N K (f + 1) 100 (jI m) (jI o) (jI k) (jI ((i + 1 : Nat) : Int)) (jI (itP P k (i + 1))) (hp q G) = L_X12_plait_320 N K f 100 (jI m) (jI o) (jI k) (jI ((i + 1 + 1 : Nat) : Int)) (jI (itP P k (i + 1 + 1))) (hp q G)
    have ne := l4 (i + 1) (by omega) (by omega)
    have r1 := ir (i + 1)
    have g2 := hG (itP P k (i + 1)) r1.1 r1.2
    have g3 : P (itP P k (i + 1)) = itP P k (i + 1 + 1) := rfl
    rw [L_X12_plait_320]
    generalize itP P k (i + 1) = x at *
    simp (maxSteps := 2000000) (disch := first | assumption | omega) only [jI0, iAdd_j, iSub_j, iMul_j, iNeg_j, Option.bind_some, jlt_t, jlt_f, jlt, jle_t, jle_f, jle, jeq_t, jeq_f, jeq, ↓reduceIte, o100, l109, g2, g3, Int.natCast_succ]
  · intro f
    show L_X12_plait_320 N K (f + 1) 100 (jI m) (jI o) (jI k) (jI ((L - 1 + 1 : Nat) : Int)) (jI (itP P k (L - 1 + 1))) (hp q G) = _
    have gp : 0 < Nat.gcd o L := Nat.gcd_pos_of_pos_left _ ho.1
    have gl : Nat.gcd o L ≤ o := Nat.gcd_le_left _ ho.1
    have e2 := X12_gcd (N := N) (h := hp q G) L o N (by omega) (by omega) (by omega)
    rw [show L - 1 + 1 = L by omega, l3, L_X12_plait_320]
    unfold f_X12_common
    simp (maxSteps := 2000000) (disch := first | assumption | omega) only [jI0, iAdd_j, iSub_j, iMul_j, iNeg_j, Option.bind_some, jlt_t, jlt_f, jlt, jle_t, jle_f, jle, jeq_t, jeq_f, jeq, ↓reduceIte, e2]
    rw [iDiv_j (by omega) (by omega) (by omega) (by omega), iMul_j, Int.natCast_mul, Int.natCast_ediv]
theorem oOrd (hN : 10000 ≤ N) {P : Int → Int} {m : Nat} {L : Nat → Nat} (hm : m ≤ 9) (hP : PM P m) (hG : ∀ j : Int, 0 ≤ j → j < m → G 96 j = P j) (hL : ∀ k : Nat, k < m → RG P m k (L k)) : f_X7_orderOf N 95 (jI m) (hp q G) = some (jI (orP L m), hp q G) := by
  have lr : ∀ i, i < m → 1 ≤ L i ∧ L i ≤ 9 := fun i hi => ⟨(hL i hi).1, by have := (hL i hi).2.1; omega⟩
  unfold f_X7_orderOf
  refine (loopE (N := N) (fun f (i : Nat) => L_X7_orderOf_4 N f 95 (jI m) (jI (orP L i)) (jI i) (hp q G)) (fun i => i) m (r := some (jI (orP L m), hp q G)) (by omega) ?_ ?_) |> Eq.trans ?_
  · rfl
  · intro f i hi
    show L_X7_orderOf_4 N (f + 1) 95 (jI m) (jI (orP L i)) (jI i) (hp q G) = L_X7_orderOf_4 N f 95 (jI m) (jI (orP L i / Nat.gcd (orP L i) (L i) * L i : Nat)) (jI ((i + 1 : Nat) : Int)) (hp q G)
    have o := orP_r (L := L) (k := i) (fun j hj => lr j (by omega))
    have ol := Nat.le_of_dvd (by decide) o.1
    have l := lr i hi
    have rg := oRg (q := q) hN hm hP (k := (i : Int)) (by omega) (by omega) hG (hL i hi)
    have gp : 0 < Nat.gcd (orP L i) (L i) := Nat.gcd_pos_of_pos_left _ o.2
    have gl : Nat.gcd (orP L i) (L i) ≤ orP L i := Nat.gcd_le_left _ o.2
    have e1 := X11_gcd (N := N) (h := hp q G) (L i) (orP L i) N 0 (by omega) (by omega) (by omega) gp (by omega)
    rw [show ((0 : Nat) : Int) = 0 from rfl] at e1
    rw [L_X7_orderOf_4]
    unfold f_X11_commonDivisor
    simp (maxSteps := 2000000) (disch := first | assumption | omega) only [jI0, iAdd_j, iSub_j, iMul_j, iNeg_j, Option.bind_some, jlt_t, jlt_f, jlt, jle_t, jle_f, jle, jeq_t, jeq_f, jeq, ↓reduceIte, o95, n96, rg, e1]
    rw [iDiv_j (by omega) (by omega) (by omega) (by omega), iMul_j, Int.natCast_mul, Int.natCast_ediv]
    rfl
  · intro f
    show L_X7_orderOf_4 N (f + 1) 95 (jI m) (jI (orP L m)) (jI m) (hp q G) = _
    rw [L_X7_orderOf_4]
    simp (maxSteps := 2000000) (disch := first | assumption | omega) only [jI0, iAdd_j, iSub_j, iMul_j, iNeg_j, Option.bind_some, jlt_t, jlt_f, jlt, jle_t, jle_f, jle, jeq_t, jeq_f, jeq, ↓reduceIte]
theorem mOrd (hN : 10000 ≤ N) {P : Int → Int} {m : Nat} {L : Nat → Nat} (hm : m ≤ 9) (hP : PM P m) (hG : ∀ j : Int, 0 ≤ j → j < m → G 109 j = P j) (hL : ∀ k : Nat, k < m → RG P m k (L k)) : L_X12_plait_302 N N 100 (jI m) (jI 1) (jI 0) (hp q G) = some (jI (orP L m), hp q G) := by
  have lr : ∀ i, i < m → 1 ≤ L i ∧ L i ≤ 9 := fun i hi => ⟨(hL i hi).1, by have := (hL i hi).2.1; omega⟩
  refine (loopE (N := N) (fun f (i : Nat) => L_X12_plait_302 N f 100 (jI m) (jI (orP L i)) (jI i) (hp q G)) (fun i => i) m (r := some (jI (orP L m), hp q G)) (by omega) ?_ ?_) |> Eq.trans ?_
  · rfl
  · intro f i hi
    show L_X12_plait_302 N (f + 1) 100 (jI m) (jI (orP L i)) (jI i) (hp q G) = L_X12_plait_302 N f 100 (jI m) (jI (orP L i / Nat.gcd (orP L i) (L i) * L i : Nat)) (jI ((i + 1 : Nat) : Int)) (hp q G)
    have o := orP_r (L := L) (k := i) (fun j hj => lr j (by omega))
    have ol := Nat.le_of_dvd (by decide) o.1
    have rg := mRg (q := q) hN hm hP (k := (i : Int)) (by omega) (by omega) hG (hL i hi) ⟨o.2, ol⟩ (L_X12_plait_302 N f)
    have g1 := hG i (by omega) (by omega)
    rw [L_X12_plait_302]
    simp (maxSteps := 2000000) (disch := first | assumption | omega) only [jI0, iAdd_j, iSub_j, iMul_j, iNeg_j, Option.bind_some, jlt_t, jlt_f, jlt, jle_t, jle_f, jle, jeq_t, jeq_f, jeq, ↓reduceIte, o100, l109, g1]
    exact rg
  · intro f
    show L_X12_plait_302 N (f + 1) 100 (jI m) (jI (orP L m)) (jI m) (hp q G) = _
    rw [L_X12_plait_302]
    simp (maxSteps := 2000000) (disch := first | assumption | omega) only [jI0, iAdd_j, iSub_j, iMul_j, iNeg_j, Option.bind_some, jlt_t, jlt_f, jlt, jle_t, jle_f, jle, jeq_t, jeq_f, jeq, ↓reduceIte]
end
