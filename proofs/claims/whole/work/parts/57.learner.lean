/-! the call learner -/
/-- a loop that ends with something found -/
theorem loopG {σ ρ τ : Type} (F : Nat → σ → Option ρ) (I : Nat → σ → Prop) (m : Nat) {C : τ → Prop} {R : τ → Option ρ} {N : Nat} (hN : m < N) {s : σ} (h0 : I 0 s) (hs : ∀ n k s, k < m → I k s → ∃ s', I (k + 1) s' ∧ F (n + 1) s = F n s') (he : ∀ n s, I m s → ∃ g, C g ∧ F (n + 1) s = R g) : ∃ g, C g ∧ F N s = R g := loopQ F I m (fun r => ∃ g, C g ∧ r = R g) hN h0 hs he
/-- x; how far each weaver is ahead; slips; otherwise; the first such -/
def lsl (A : Int → Int) (b c i j : Int) (s : Int × (Int → Int) × Int × Int × Int) : Int × (Int → Int) × Int × Int × Int :=
  (dr s.1, (if hi (dr s.1) % 100 < c then u1 s.2.1 j (s.2.1 j + 1) else s.2.1), (if hi (dr s.1) % 100 < c then s.2.2.1 + 1 else s.2.2.1), (if (sPl A b j i % sPe A b < A (35 + b)) ↔ ((sPl A b j i + (if hi (dr s.1) % 100 < c then u1 s.2.1 j (s.2.1 j + 1) else s.2.1) j) % sPe A b < A (35 + b)) then s.2.2.2.1 else s.2.2.2.1 + 1), (if (sPl A b j i % sPe A b < A (35 + b)) ↔ ((sPl A b j i + (if hi (dr s.1) % 100 < c then u1 s.2.1 j (s.2.1 j + 1) else s.2.1) j) % sPe A b < A (35 + b)) then s.2.2.2.2 else if s.2.2.2.1 = 0 then sWh A b j i else s.2.2.2.2))
def lsj (A : Int → Int) (b c i : Int) : Nat → (Int × (Int → Int) × Int × Int × Int) → Int × (Int → Int) × Int × Int × Int
  | 0, s => s
  | j + 1, s => lsl A b c i j (lsj A b c i j s)
def lso (A : Int → Int) (b c x : Int) : Nat → Int × (Int → Int) × Int × Int × Int
  | 0 => (x, fun _ => 0, 0, 0, -1)
  | i + 1 => lsj A b c i (A (27 + b)).toNat (lso A b c x i)
def Lg (n : Int) (s : Int × (Int → Int) × Int × Int × Int) : Prop := (∀ k, 0 ≤ s.2.1 k ∧ s.2.1 k ≤ n) ∧ (0 ≤ s.2.2.2.1 ∧ s.2.2.2.1 ≤ n) ∧ ((s.2.2.2.1 = 0 ∧ s.2.2.2.2 = -1) ∨ (0 < s.2.2.2.1 ∧ 0 ≤ s.2.2.2.2 ∧ s.2.2.2.2 ≤ 40960))
theorem lsl_eq {A : Int → Int} {b c i j : Int} {s : Int × (Int → Int) × Int × Int × Int} : (lsl A b c i j s).1 = dr s.1 ∧ (lsl A b c i j s).2.1 = (if hi (dr s.1) % 100 < c then u1 s.2.1 j (s.2.1 j + 1) else s.2.1) ∧ (lsl A b c i j s).2.2.1 = (if hi (dr s.1) % 100 < c then s.2.2.1 + 1 else s.2.2.1) ∧ (lsl A b c i j s).2.2.2.1 = (if (sPl A b j i % sPe A b < A (35 + b)) ↔ ((sPl A b j i + (if hi (dr s.1) % 100 < c then u1 s.2.1 j (s.2.1 j + 1) else s.2.1) j) % sPe A b < A (35 + b)) then s.2.2.2.1 else s.2.2.2.1 + 1) ∧ (lsl A b c i j s).2.2.2.2 = (if (sPl A b j i % sPe A b < A (35 + b)) ↔ ((sPl A b j i + (if hi (dr s.1) % 100 < c then u1 s.2.1 j (s.2.1 j + 1) else s.2.1) j) % sPe A b < A (35 + b)) then s.2.2.2.2 else if s.2.2.2.1 = 0 then sWh A b j i else s.2.2.2.2) := ⟨rfl, rfl, rfl, rfl, rfl⟩
theorem lsl_r {A : Int → Int} (hV : BV A) {b c i j n : Int} {s : Int × (Int → Int) × Int × Int × Int} (hb : 0 ≤ b ∧ b < A 26) (hj : 0 ≤ j ∧ j < A (27 + b)) (hii : 0 ≤ i ∧ i < sCr A b) (h : Lg n s) : Lg (n + 1) (lsl A b c i j s) := by
  obtain ⟨h1, h2, h3⟩ := h
  have w := whF hV hb.1 hb.2 hj.1 hj.2 hii.1 hii.2
  have o : ∀ k, 0 ≤ (if hi (dr s.1) % 100 < c then u1 s.2.1 j (s.2.1 j + 1) else s.2.1) k ∧ (if hi (dr s.1) % 100 < c then u1 s.2.1 j (s.2.1 j + 1) else s.2.1) k ≤ n + 1 := by
    intro k
    have a := h1 k
    have a' := h1 j
    split
    · by_cases d : k = j
      · subst d; rw [u1_eq]; omega
      · rw [u1_ne d]; omega
    · omega
  obtain ⟨q1, q2, q3, q4, q5⟩ := lsl_eq (A := A) (b := b) (c := c) (i := i) (j := j) (s := s)
  unfold Lg
  rw [q2, q4, q5]
  refine ⟨o, ?_, ?_⟩
  · split <;> omega
  · by_cases d : (sPl A b j i % sPe A b < A (35 + b)) ↔ ((sPl A b j i + (if hi (dr s.1) % 100 < c then u1 s.2.1 j (s.2.1 j + 1) else s.2.1) j) % sPe A b < A (35 + b))
    · rw [if_pos d, if_pos d]
      exact h3
    · rw [if_neg d, if_neg d]
      right
      refine ⟨by omega, ?_⟩
      split <;> omega
theorem lsj_r {A : Int → Int} (hV : BV A) {b c i n : Int} {s : Int × (Int → Int) × Int × Int × Int} (hb : 0 ≤ b ∧ b < A 26) (hii : 0 ≤ i ∧ i < sCr A b) (h : Lg n s) : ∀ j : Nat, (j : Int) ≤ A (27 + b) → Lg (n + j) (lsj A b c i j s)
  | 0, _ => by rw [show n + ((0 : Nat) : Int) = n by omega]; exact h
  | j + 1, hj => by
    rw [show n + ((j + 1 : Nat) : Int) = n + j + 1 by omega]
    exact lsl_r hV hb ⟨by omega, by omega⟩ hii (lsj_r hV hb hii h j (by omega))
theorem lso_r {A : Int → Int} (hV : BV A) {b c x : Int} (hb : 0 ≤ b ∧ b < A 26) : ∀ i : Nat, (i : Int) ≤ sCr A b → Lg (4 * i) (lso A b c x i)
  | 0, _ => ⟨fun _ => ⟨Int.le_refl _, Int.le_refl _⟩, ⟨Int.le_refl _, Int.le_refl _⟩, .inl ⟨rfl, rfl⟩⟩
  | i + 1, h => by
    have wb := hV.2.2.1 b hb.1 hb.2
    have := lsj_r (c := c) hV hb (i := i) ⟨by omega, by omega⟩ (lso_r hV (c := c) (x := x) hb i (by omega)) (A (27 + b)).toNat (by omega)
    obtain ⟨h1, h2, h3⟩ := this
    exact ⟨fun k => by have := h1 k; simp only [lso]; omega, by simp only [lso]; omega, h3⟩
/-- how far a weaver was told ahead -/
def sTs (A : Int → Int) (b j i : Int) : Int := sPl A b j i - i
section
variable {K1 K2 : (Int → Int) → (Int → Int) → Prop} {q : Nat × Nat × (Nat → Nat)} {G : Nat → Int → Int} {N : Nat}
/-- cells that don't count -/
def scrv (a : Nat) : Bool := !(relv a) && !([0, 10, 12, 25, 98, 100, 101].contains a)
theorem SC.of {G2 : Nat → Int → Int} (h : ∀ a, scrv a = false → G2 a = G a) : SC G G2 := by
  refine ⟨fun a h0 _ => h a (by unfold scrv; rw [h0]; rfl), ⟨?_, ?_, ?_, ?_, ?_, ?_, ?_, ?_, ?_⟩, ⟨h 98 rfl, h 101 rfl⟩, ?_⟩
  all_goals first | (rw [h 100 rfl]) | (rw [h 0 rfl]) | (rw [h 10 rfl]) | (rw [h 25 rfl]) | (intro x; rw [h 12 rfl, h 13 rfl]; exact x)
theorem SC.one {G2 : Nat → Int → Int} {c : Nat} (h : ∀ a, a ≠ c → G2 a = G a) (hc : scrv c = true) : SC G G2 := SC.of (fun a ha => h a (by rintro rfl; rw [hc] at ha; cases ha))
theorem sTs_step {A : Int → Int} {b j i : Int} : sTs A b j i = sTs A b j (i - 1) + sAt A b j i := by
  unfold sTs
  rw [sPl_step (i := i)]
  omega
theorem oLj (hN : 10000 ≤ N) (hB : BB G) {b j i xs o ot fi : Int} (hb : 0 ≤ b ∧ b < G 102 26) (hj : 0 ≤ j ∧ j < G 102 (27 + b)) (hii : 0 ≤ i ∧ i < sCr (G 102) b) (hx : xs = 1 ∨ (xs = 0 ∧ sBs (G 102) b = 0)) (h14 : G 14 j = sTs (G 102) b j (i - 1)) (h15 : G 15 j = o) (ho : 0 ≤ o ∧ o ≤ 100000) (hot : 0 ≤ ot ∧ ot ≤ 100000) (k105 : Nat → Int32 → Int32 → Int32 → Int32 → Int32 → Int32 → Int32 → Int32 → Int32 → Int32 → Int32 → Int32 → Int32 → mH → Option (Int32 × mH)) (c w x sl : Int) : J_X10_learnerDoes_145 N k105 12 (jI b) (jI c) (jI w) (jI (G 102 (27 + b))) (jI (sPe (G 102) b)) (jI (G 102 (35 + b))) (jI xs) (jI x) (jI sl) (jI ot) (jI fi) (jI i) (jI j) (hp q G) = k105 12 (jI b) (jI c) (jI w) (jI (G 102 (27 + b))) (jI (sPe (G 102) b)) (jI (G 102 (35 + b))) (jI xs) (jI x) (jI sl) (jI (if (sPl (G 102) b j i % sPe (G 102) b < G 102 (35 + b)) ↔ ((sPl (G 102) b j i + o) % sPe (G 102) b < G 102 (35 + b)) then ot else ot + 1)) (jI (if (sPl (G 102) b j i % sPe (G 102) b < G 102 (35 + b)) ↔ ((sPl (G 102) b j i + o) % sPe (G 102) b < G 102 (35 + b)) then fi else if ot = 0 then sWh (G 102) b j i else fi)) (jI i) (jI (j + 1)) (hp q (if xs = 0 then G else up G 14 j (sTs (G 102) b j i))) := by
  have g := hB.1.1
  have wb := hB.1.2.2.1 b hb.1 hb.2
  have cr := crF hB.1 hb.1 hb.2
  have pe : 2 ≤ sPe (G 102) b ∧ sPe (G 102) b ≤ 8 := by unfold sPe; omega
  have pl := plF hB.1 (b := b) (j := j) (i := i)
  have m0 := Int.emod_nonneg (sPl (G 102) b j i) (show sPe (G 102) b ≠ 0 by omega)
  have m1 := Int.emod_lt_of_pos (sPl (G 102) b j i) (show 0 < sPe (G 102) b by omega)
  have n0 := Int.emod_nonneg (sPl (G 102) b j i + o) (show sPe (G 102) b ≠ 0 by omega)
  have n1 := Int.emod_lt_of_pos (sPl (G 102) b j i + o) (show 0 < sPe (G 102) b by omega)
  have J : ∀ G2, BB G2 → G2 102 = G 102 → G2 14 j = sTs (G 102) b j i → G2 15 j = o → J_X10_learnerDoes_172 N k105 12 (jI b) (jI c) (jI w) (jI (G 102 (27 + b))) (jI (sPe (G 102) b)) (jI (G 102 (35 + b))) (jI xs) (jI x) (jI sl) (jI ot) (jI fi) (jI i) (jI j) (hp q G2) = k105 12 (jI b) (jI c) (jI w) (jI (G 102 (27 + b))) (jI (sPe (G 102) b)) (jI (G 102 (35 + b))) (jI xs) (jI x) (jI sl) (jI (if (sPl (G 102) b j i % sPe (G 102) b < G 102 (35 + b)) ↔ ((sPl (G 102) b j i + o) % sPe (G 102) b < G 102 (35 + b)) then ot else ot + 1)) (jI (if (sPl (G 102) b j i % sPe (G 102) b < G 102 (35 + b)) ↔ ((sPl (G 102) b j i + o) % sPe (G 102) b < G 102 (35 + b)) then fi else if ot = 0 then sWh (G 102) b j i else fi)) (jI i) (jI (j + 1)) (hp q G2) := by
    intro G2 hB2 e2 g14 g15
    have tl : i + sTs (G 102) b j i = sPl (G 102) b j i := by unfold sTs; omega
    have ew := oWhen (q := q) (N := N) hN hB2 (b := b) (j := j) (i := i) hb.1 (by rw [e2]; exact hb.2)
    rw [e2] at ew
    unfold J_X10_learnerDoes_172 J_X10_learnerDoes_199
    by_cases a1 : sPl (G 102) b j i % sPe (G 102) b < G 102 (35 + b)
    · by_cases a2 : (sPl (G 102) b j i + o) % sPe (G 102) b < G 102 (35 + b)
      · have z : (sPl (G 102) b j i % sPe (G 102) b < G 102 (35 + b)) ↔ ((sPl (G 102) b j i + o) % sPe (G 102) b < G 102 (35 + b)) := ⟨fun _ => a2, fun _ => a1⟩
        rw [if_pos z, if_pos z]
        unfold J_X10_learnerDoes_224
        simp (maxSteps := 2000000) (disch := first | assumption | omega) only [jI0, iAdd_j, iSub_j, iMul_j, iNeg_j, Option.bind_some, jlt_t, jlt_f, jlt, jle_t, jle_f, jle, jeq_t, jeq_f, jeq, ↓reduceIte, o12, l14, l15, g14, g15, tl, iRem_p]
      · have z : ¬ ((sPl (G 102) b j i % sPe (G 102) b < G 102 (35 + b)) ↔ ((sPl (G 102) b j i + o) % sPe (G 102) b < G 102 (35 + b))) := fun h => a2 (h.mp a1)
        rw [if_neg z, if_neg z]
        unfold J_X10_learnerDoes_224
        by_cases y : ot = 0
        · rw [if_pos y]
          simp (maxSteps := 2000000) (disch := first | assumption | omega) only [jI0, iAdd_j, iSub_j, iMul_j, iNeg_j, Option.bind_some, jlt_t, jlt_f, jlt, jle_t, jle_f, jle, jeq_t, jeq_f, jeq, ↓reduceIte, o12, o2, l14, l15, g14, g15, tl, iRem_p, ew]
        · rw [if_neg y]
          simp (maxSteps := 2000000) (disch := first | assumption | omega) only [jI0, iAdd_j, iSub_j, iMul_j, iNeg_j, Option.bind_some, jlt_t, jlt_f, jlt, jle_t, jle_f, jle, jeq_t, jeq_f, jeq, ↓reduceIte, o12, o2, l14, l15, g14, g15, tl, iRem_p, ew]
    · by_cases a2 : (sPl (G 102) b j i + o) % sPe (G 102) b < G 102 (35 + b)
      · have z : ¬ ((sPl (G 102) b j i % sPe (G 102) b < G 102 (35 + b)) ↔ ((sPl (G 102) b j i + o) % sPe (G 102) b < G 102 (35 + b))) := fun h => a1 (h.mpr a2)
        rw [if_neg z, if_neg z]
        unfold J_X10_learnerDoes_224
        by_cases y : ot = 0
        · rw [if_pos y]
          simp (maxSteps := 2000000) (disch := first | assumption | omega) only [jI0, iAdd_j, iSub_j, iMul_j, iNeg_j, Option.bind_some, jlt_t, jlt_f, jlt, jle_t, jle_f, jle, jeq_t, jeq_f, jeq, ↓reduceIte, o12, o2, l14, l15, g14, g15, tl, iRem_p, ew]
        · rw [if_neg y]
          simp (maxSteps := 2000000) (disch := first | assumption | omega) only [jI0, iAdd_j, iSub_j, iMul_j, iNeg_j, Option.bind_some, jlt_t, jlt_f, jlt, jle_t, jle_f, jle, jeq_t, jeq_f, jeq, ↓reduceIte, o12, o2, l14, l15, g14, g15, tl, iRem_p, ew]
      · have z : (sPl (G 102) b j i % sPe (G 102) b < G 102 (35 + b)) ↔ ((sPl (G 102) b j i + o) % sPe (G 102) b < G 102 (35 + b)) := ⟨fun h => absurd h a1, fun h => absurd h a2⟩
        rw [if_pos z, if_pos z]
        unfold J_X10_learnerDoes_224
        simp (maxSteps := 2000000) (disch := first | assumption | omega) only [jI0, iAdd_j, iSub_j, iMul_j, iNeg_j, Option.bind_some, jlt_t, jlt_f, jlt, jle_t, jle_f, jle, jeq_t, jeq_f, jeq, ↓reduceIte, o12, l14, l15, g14, g15, tl, iRem_p]
  unfold J_X10_learnerDoes_145
  rcases hx with rfl | ⟨rfl, hx⟩
  · have hB2 : BB (up G 14 j (sTs (G 102) b j i)) := hB
    have := J (up G 14 j (sTs (G 102) b j i)) hB2 rfl (by rw [up_eq, u1_eq]) (by rw [up_ne (by decide)]; exact h15)
    rw [if_neg (show ¬ (1 : Int) = 0 by omega), ← this]
    simp (maxSteps := 2000000) (disch := first | assumption | omega) only [jI0, iAdd_j, iSub_j, iMul_j, iNeg_j, Option.bind_some, jlt_t, jlt_f, jlt, jle_t, jle_f, jle, jeq_t, jeq_f, jeq, ↓reduceIte, o12, o2, l14, h14, oSlipsAt, s14, ← sTs_step]
  · rw [if_pos rfl, ← J G hB rfl (by rw [h14, sTs_step (i := i), sAt_0 hB.1 hx, Int.add_zero]) h15]
    simp (maxSteps := 2000000) (disch := first | assumption | omega) only [jI0, iAdd_j, iSub_j, iMul_j, iNeg_j, Option.bind_some, jlt_t, jlt_f, jlt, jle_t, jle_f, jle, jeq_t, jeq_f, jeq, ↓reduceIte]
theorem mLj (hN : 10000 ≤ N) (hV : BV (G 102)) {b j i o ot fi : Int} (hb : 0 ≤ b ∧ b < G 102 26) (hj : 0 ≤ j ∧ j < G 102 (27 + b)) (hii : 0 ≤ i ∧ i < sCr (G 102) b) (h15 : G 106 j = o) (ho : 0 ≤ o ∧ o ≤ 100000) (hot : (ot = 0 ∧ fi = -1) ∨ (0 < ot ∧ 0 ≤ fi ∧ fi ≤ 40960)) (k124 : Nat → Int32 → Int32 → Int32 → Int32 → Int32 → Int32 → Int32 → Int32 → Int32 → Int32 → mH → Option (Int32 × mH)) (c w x sl : Int) : J_X12_learner_176 N k124 100 (jI b) (jI c) (jI w) (jI (sPe (G 102) b)) (jI x) (jI sl) (jI ot) (jI fi) (jI i) (jI j) (hp q G) = k124 100 (jI b) (jI c) (jI w) (jI (sPe (G 102) b)) (jI x) (jI sl) (jI (if (sPl (G 102) b j i % sPe (G 102) b < G 102 (35 + b)) ↔ ((sPl (G 102) b j i + o) % sPe (G 102) b < G 102 (35 + b)) then ot else ot + 1)) (jI (if (sPl (G 102) b j i % sPe (G 102) b < G 102 (35 + b)) ↔ ((sPl (G 102) b j i + o) % sPe (G 102) b < G 102 (35 + b)) then fi else if ot = 0 then sWh (G 102) b j i else fi)) (jI i) (jI (j + 1)) (hp q G) := by
  have g := hV.1
  have wb := hV.2.2.1 b hb.1 hb.2
  have cr := crF hV hb.1 hb.2
  have pe : 2 ≤ sPe (G 102) b ∧ sPe (G 102) b ≤ 8 := by unfold sPe; omega
  have pl := plF hV (b := b) (j := j) (i := i)
  have m0 := Int.emod_nonneg (sPl (G 102) b j i) (show sPe (G 102) b ≠ 0 by omega)
  have m1 := Int.emod_lt_of_pos (sPl (G 102) b j i) (show 0 < sPe (G 102) b by omega)
  have n0 := Int.emod_nonneg (sPl (G 102) b j i + o) (show sPe (G 102) b ≠ 0 by omega)
  have n1 := Int.emod_lt_of_pos (sPl (G 102) b j i + o) (show 0 < sPe (G 102) b by omega)
  unfold J_X12_learner_176 J_X12_learner_209
  by_cases a1 : sPl (G 102) b j i % sPe (G 102) b < G 102 (35 + b)
  · by_cases a2 : (sPl (G 102) b j i + o) % sPe (G 102) b < G 102 (35 + b)
    · have z : (sPl (G 102) b j i % sPe (G 102) b < G 102 (35 + b)) ↔ ((sPl (G 102) b j i + o) % sPe (G 102) b < G 102 (35 + b)) := ⟨fun _ => a2, fun _ => a1⟩
      rw [if_pos z, if_pos z]
      unfold J_X12_learner_239
      simp (maxSteps := 2000000) (disch := first | assumption | omega) only [jI0, iAdd_j, iSub_j, iMul_j, iNeg_j, Option.bind_some, jlt_t, jlt_f, jlt, jle_t, jle_f, jle, jeq_t, jeq_f, jeq, ↓reduceIte, o100, l102, mPlace, l106, h15, iRem_p]
    · have z : ¬ ((sPl (G 102) b j i % sPe (G 102) b < G 102 (35 + b)) ↔ ((sPl (G 102) b j i + o) % sPe (G 102) b < G 102 (35 + b))) := fun h => a2 (h.mp a1)
      rw [if_neg z, if_neg z]
      unfold J_X12_learner_239
      by_cases y : ot = 0
      · rw [if_pos y]
        simp (maxSteps := 2000000) (disch := first | assumption | omega) only [jI0, iAdd_j, iSub_j, iMul_j, iNeg_j, Option.bind_some, jlt_t, jlt_f, jlt, jle_t, jle_f, jle, jeq_t, jeq_f, jeq, ↓reduceIte, o100, l102, mPlace, l106, h15, iRem_p, mWhen]
      · rw [if_neg y]
        simp (maxSteps := 2000000) (disch := first | assumption | omega) only [jI0, iAdd_j, iSub_j, iMul_j, iNeg_j, Option.bind_some, jlt_t, jlt_f, jlt, jle_t, jle_f, jle, jeq_t, jeq_f, jeq, ↓reduceIte, o100, l102, mPlace, l106, h15, iRem_p, mWhen]
  · by_cases a2 : (sPl (G 102) b j i + o) % sPe (G 102) b < G 102 (35 + b)
    · have z : ¬ ((sPl (G 102) b j i % sPe (G 102) b < G 102 (35 + b)) ↔ ((sPl (G 102) b j i + o) % sPe (G 102) b < G 102 (35 + b))) := fun h => a1 (h.mpr a2)
      rw [if_neg z, if_neg z]
      unfold J_X12_learner_239
      by_cases y : ot = 0
      · rw [if_pos y]
        simp (maxSteps := 2000000) (disch := first | assumption | omega) only [jI0, iAdd_j, iSub_j, iMul_j, iNeg_j, Option.bind_some, jlt_t, jlt_f, jlt, jle_t, jle_f, jle, jeq_t, jeq_f, jeq, ↓reduceIte, o100, l102, mPlace, l106, h15, iRem_p, mWhen]
      · rw [if_neg y]
        simp (maxSteps := 2000000) (disch := first | assumption | omega) only [jI0, iAdd_j, iSub_j, iMul_j, iNeg_j, Option.bind_some, jlt_t, jlt_f, jlt, jle_t, jle_f, jle, jeq_t, jeq_f, jeq, ↓reduceIte, o100, l102, mPlace, l106, h15, iRem_p, mWhen]
    · have z : (sPl (G 102) b j i % sPe (G 102) b < G 102 (35 + b)) ↔ ((sPl (G 102) b j i + o) % sPe (G 102) b < G 102 (35 + b)) := ⟨fun h => absurd h a1, fun h => absurd h a2⟩
      rw [if_pos z, if_pos z]
      unfold J_X12_learner_239
      simp (maxSteps := 2000000) (disch := first | assumption | omega) only [jI0, iAdd_j, iSub_j, iMul_j, iNeg_j, Option.bind_some, jlt_t, jlt_f, jlt, jle_t, jle_f, jle, jeq_t, jeq_f, jeq, ↓reduceIte, o100, l102, mPlace, l106, h15, iRem_p]
theorem oLi (hN : 10000 ≤ N) (hB : BB G) (ht : ∀ G1, TK G G1 → BB G1) {b i xs c w n : Int} (hb : 0 ≤ b ∧ b < G 102 26) (hii : 0 ≤ i ∧ i < sCr (G 102) b) (hc : 0 ≤ c ∧ c ≤ 100) (hx : xs = 1 ∨ (xs = 0 ∧ sBs (G 102) b = 0)) (hn : 0 ≤ n ∧ n ≤ 50000) {S : Int × (Int → Int) × Int × Int × Int} (lg : Lg n S) (k89 : Nat → Int32 → Int32 → Int32 → Int32 → Int32 → Int32 → Int32 → Int32 → Int32 → Int32 → Int32 → Int32 → mH → Option (Int32 × mH)) {G1 : Nat → Int → Int} (t1 : TK G G1) (hm : ∀ k, 0 ≤ k → k < G 102 (27 + b) → G1 14 k = sTs (G 102) b k (i - 1) ∧ G1 15 k = S.2.1 k) : ∃ G3, (TK G G3 ∧ ∀ k, 0 ≤ k → k < G 102 (27 + b) → G3 14 k = sTs (G 102) b k i ∧ G3 15 k = (lsj (G 102) b c i (G 102 (27 + b)).toNat S).2.1 k) ∧ L_X10_learnerDoes_105 N k89 N 12 (jI b) (jI c) (jI w) (jI (G 102 (27 + b))) (jI (sPe (G 102) b)) (jI (G 102 (35 + b))) (jI xs) (jI S.1) (jI S.2.2.1) (jI S.2.2.2.1) (jI S.2.2.2.2) (jI i) (jI 0) (hp q G1) = k89 12 (jI b) (jI c) (jI w) (jI (G 102 (27 + b))) (jI (sPe (G 102) b)) (jI (G 102 (35 + b))) (jI xs) (jI (lsj (G 102) b c i (G 102 (27 + b)).toNat S).1) (jI (lsj (G 102) b c i (G 102 (27 + b)).toNat S).2.2.1) (jI (lsj (G 102) b c i (G 102 (27 + b)).toNat S).2.2.2.1) (jI (lsj (G 102) b c i (G 102 (27 + b)).toNat S).2.2.2.2) (jI (i + 1)) (hp q G3) := by
  have X : ∀ v : Int, iAdd (iMul (jI 1103515245) (jI v)) (jI 12345) = jI (dr v) := fun v => by rw [iMul_j, iAdd_j]; rfl
  have wb := hB.1.2.2.1 b hb.1 hb.2
  have cr := crF hB.1 hb.1 hb.2
  refine loopG (N := N) (fun m (t : (Int × (Int → Int) × Int × Int × Int) × Int × (Nat → Int → Int)) => L_X10_learnerDoes_105 N k89 m 12 (jI b) (jI c) (jI w) (jI (G 102 (27 + b))) (jI (sPe (G 102) b)) (jI (G 102 (35 + b))) (jI xs) (jI t.1.1) (jI t.1.2.2.1) (jI t.1.2.2.2.1) (jI t.1.2.2.2.2) (jI i) (jI t.2.1) (hp q t.2.2)) (fun j t => t.1 = lsj (G 102) b c i j S ∧ t.2.1 = j ∧ TK G t.2.2 ∧ ∀ k, 0 ≤ k → k < G 102 (27 + b) → t.2.2 14 k = sTs (G 102) b k (if k < j then i else i - 1) ∧ t.2.2 15 k = (lsj (G 102) b c i j S).2.1 k) (G 102 (27 + b)).toNat (by omega) (s := (S, 0, G1)) ⟨rfl, rfl, t1, ?_⟩ ?_ ?_
  · intro k k0 k1
    rw [if_neg (by omega)]
    exact hm k k0 k1
  · rintro m j ⟨z, i', G2⟩ hj ⟨rfl, rfl, t2, hm2⟩
    simp only at t2 hm2
    have lgj := lsj_r (c := c) hB.1 hb hii lg j (by omega)
    obtain ⟨q1, q2, q3, q4, q5⟩ := lsl_eq (A := G 102) (b := b) (c := c) (i := i) (j := j) (s := lsj (G 102) b c i j S)
    have eL : lsj (G 102) b c i (j + 1) S = lsl (G 102) b c i j (lsj (G 102) b c i j S) := rfl
    rw [← eL] at q1 q2 q3 q4 q5
    generalize lsj (G 102) b c i (j + 1) S = S2 at q1 q2 q3 q4 q5 ⊢
    generalize lsj (G 102) b c i j S = S1 at lgj hm2 q1 q2 q3 q4 q5 ⊢
    have hr := hi_r (dr S1.1)
    have o1 := lgj.1 (j : Int)
    have m5 := hm2 j (by omega) (by omega)
    rw [if_neg (show ¬ (j : Int) < j by omega)] at m5
    have e2 := t2.e
    by_cases d : hi (dr S1.1) % 100 < c
    · rw [if_pos d] at q2 q3 q4 q5
      rw [u1_eq] at q4 q5
      have t3 : TK G (up G2 15 j (S1.2.1 j + 1)) := t2.up (by omega)
      have e3 := t3.e
      have J := oLj (q := q) hN (ht _ t3) (b := b) (j := j) (i := i) (xs := xs) (o := S1.2.1 j + 1) (ot := S1.2.2.2.1) (fi := S1.2.2.2.2) (by rw [e3]; exact hb) (by rw [e3]; omega) (by rw [e3]; exact hii) (by rw [e3]; exact hx) (by rw [e3, up_ne (by decide)]; exact m5.1) (by rw [up_eq, u1_eq]) (by omega) (by have := lgj.2.1; omega) (L_X10_learnerDoes_105 N k89 m) c w (dr S1.1) (S1.2.2.1 + 1)
      rw [e3] at J
      refine ⟨(S2, ((j + 1 : Nat) : Int), if xs = 0 then up G2 15 j (S1.2.1 j + 1) else up (up G2 15 j (S1.2.1 j + 1)) 14 j (sTs (G 102) b j i)), ⟨rfl, rfl, ?_, ?_⟩, ?_⟩
      · show TK G (if xs = 0 then _ else _)
        split
        · exact t3
        · exact t3.up (by omega)
      · intro k k0 k1
        have a := hm2 k k0 k1
        show (if xs = 0 then up G2 15 j (S1.2.1 j + 1) else up (up G2 15 j (S1.2.1 j + 1)) 14 j (sTs (G 102) b j i)) 14 k = _ ∧ (if xs = 0 then up G2 15 j (S1.2.1 j + 1) else up (up G2 15 j (S1.2.1 j + 1)) 14 j (sTs (G 102) b j i)) 15 k = _
        rw [q2]
        constructor
        · rcases hx with rfl | ⟨rfl, hx⟩
          · rw [if_neg (show ¬ (1 : Int) = 0 by omega), up_eq]
            by_cases kj : k = j
            · subst kj; rw [u1_eq, if_pos (by omega)]
            · rw [u1_ne kj, up_ne (by decide), a.1]
              by_cases lt : k < j
              · rw [if_pos lt, if_pos (by omega)]
              · rw [if_neg lt, if_neg (by omega)]
          · rw [if_pos rfl, up_ne (by decide), a.1]
            have s0 : sTs (G 102) b k i = sTs (G 102) b k (i - 1) := by rw [sTs_step (i := i), sAt_0 hB.1 hx, Int.add_zero]
            split <;> split <;> first | rfl | exact s0 | exact s0.symm
        · have : (if xs = 0 then up G2 15 j (S1.2.1 j + 1) else up (up G2 15 j (S1.2.1 j + 1)) 14 j (sTs (G 102) b j i)) 15 k = up G2 15 j (S1.2.1 j + 1) 15 k := by
            split
            · rfl
            · rw [up_ne (by decide)]
          rw [this, up_eq]
          by_cases kj : k = j
          · subst kj; rw [u1_eq, u1_eq]
          · rw [u1_ne kj, u1_ne kj]; exact a.2
      · show L_X10_learnerDoes_105 N k89 (m + 1) 12 (jI b) (jI c) (jI w) (jI (G 102 (27 + b))) (jI (sPe (G 102) b)) (jI (G 102 (35 + b))) (jI xs) (jI S1.1) (jI S1.2.2.1) (jI S1.2.2.2.1) (jI S1.2.2.2.2) (jI i) (jI (j : Int)) (hp q G2) = L_X10_learnerDoes_105 N k89 m 12 (jI b) (jI c) (jI w) (jI (G 102 (27 + b))) (jI (sPe (G 102) b)) (jI (G 102 (35 + b))) (jI xs) (jI S2.1) (jI S2.2.2.1) (jI S2.2.2.2.1) (jI S2.2.2.2.2) (jI i) (jI ((j + 1 : Nat) : Int)) (hp q (if xs = 0 then _ else _))
        rw [q1, q3, q4, q5, Int.natCast_succ, ← J, L_X10_learnerDoes_105]
        unfold f_X11_drawn
        simp only [X]
        simp (maxSteps := 2000000) (disch := first | assumption | omega) only [jI0, iAdd_j, iSub_j, iMul_j, iNeg_j, Option.bind_some, jlt_t, jlt_f, jlt, jle_t, jle_f, jle, jeq_t, jeq_f, jeq, ↓reduceIte, drw, iRem_p, o12, l15, m5.2, s15]
    · rw [if_neg d] at q2 q3 q4 q5
      have e3 := t2.e
      have J := oLj (q := q) hN (ht _ t2) (b := b) (j := j) (i := i) (xs := xs) (o := S1.2.1 j) (ot := S1.2.2.2.1) (fi := S1.2.2.2.2) (by rw [e3]; exact hb) (by rw [e3]; omega) (by rw [e3]; exact hii) (by rw [e3]; exact hx) (by rw [e3]; exact m5.1) m5.2 (by omega) (by have := lgj.2.1; omega) (L_X10_learnerDoes_105 N k89 m) c w (dr S1.1) S1.2.2.1
      rw [e3] at J
      refine ⟨(S2, ((j + 1 : Nat) : Int), if xs = 0 then G2 else up G2 14 j (sTs (G 102) b j i)), ⟨rfl, rfl, ?_, ?_⟩, ?_⟩
      · show TK G (if xs = 0 then _ else _)
        split
        · exact t2
        · exact t2.up (by omega)
      · intro k k0 k1
        have a := hm2 k k0 k1
        show (if xs = 0 then G2 else up G2 14 j (sTs (G 102) b j i)) 14 k = _ ∧ (if xs = 0 then G2 else up G2 14 j (sTs (G 102) b j i)) 15 k = _
        rw [q2]
        constructor
        · rcases hx with rfl | ⟨rfl, hx⟩
          · rw [if_neg (show ¬ (1 : Int) = 0 by omega), up_eq]
            by_cases kj : k = j
            · subst kj; rw [u1_eq, if_pos (by omega)]
            · rw [u1_ne kj, a.1]
              by_cases lt : k < j
              · rw [if_pos lt, if_pos (by omega)]
              · rw [if_neg lt, if_neg (by omega)]
          · rw [if_pos rfl, a.1]
            have s0 : sTs (G 102) b k i = sTs (G 102) b k (i - 1) := by rw [sTs_step (i := i), sAt_0 hB.1 hx, Int.add_zero]
            split <;> split <;> first | rfl | exact s0 | exact s0.symm
        · have : (if xs = 0 then G2 else up G2 14 j (sTs (G 102) b j i)) 15 k = G2 15 k := by
            split
            · rfl
            · rw [up_ne (by decide)]
          rw [this]
          exact a.2
      · show L_X10_learnerDoes_105 N k89 (m + 1) 12 (jI b) (jI c) (jI w) (jI (G 102 (27 + b))) (jI (sPe (G 102) b)) (jI (G 102 (35 + b))) (jI xs) (jI S1.1) (jI S1.2.2.1) (jI S1.2.2.2.1) (jI S1.2.2.2.2) (jI i) (jI (j : Int)) (hp q G2) = L_X10_learnerDoes_105 N k89 m 12 (jI b) (jI c) (jI w) (jI (G 102 (27 + b))) (jI (sPe (G 102) b)) (jI (G 102 (35 + b))) (jI xs) (jI S2.1) (jI S2.2.2.1) (jI S2.2.2.2.1) (jI S2.2.2.2.2) (jI i) (jI ((j + 1 : Nat) : Int)) (hp q (if xs = 0 then _ else _))
        rw [q1, q3, q4, q5, Int.natCast_succ, ← J, L_X10_learnerDoes_105]
        unfold f_X11_drawn
        simp only [X]
        simp (maxSteps := 2000000) (disch := first | assumption | omega) only [jI0, iAdd_j, iSub_j, iMul_j, iNeg_j, Option.bind_some, jlt_t, jlt_f, jlt, jle_t, jle_f, jle, jeq_t, jeq_f, jeq, ↓reduceIte, drw, iRem_p, o12]
  · rintro m ⟨z, i', G2⟩ ⟨rfl, rfl, t2, hm2⟩
    simp only at t2 hm2
    refine ⟨G2, ⟨t2, fun k k0 k1 => ?_⟩, ?_⟩
    · have a := hm2 k k0 k1
      rw [if_pos (by omega)] at a
      exact a
    · show L_X10_learnerDoes_105 N k89 (m + 1) 12 (jI b) (jI c) (jI w) (jI (G 102 (27 + b))) (jI (sPe (G 102) b)) (jI (G 102 (35 + b))) (jI xs) (jI _) (jI _) (jI _) (jI _) (jI i) (jI ((G 102 (27 + b)).toNat : Int)) (hp q G2) = _
      rw [L_X10_learnerDoes_105]
      simp (maxSteps := 2000000) (disch := first | assumption | omega) only [jI0, iAdd_j, iSub_j, iMul_j, iNeg_j, Option.bind_some, jlt_t, jlt_f, jlt, jle_t, jle_f, jle, jeq_t, jeq_f, jeq, ↓reduceIte]
theorem mLi (hN : 10000 ≤ N) (hV : BV (G 102)) {b i c w n : Int} (hb : 0 ≤ b ∧ b < G 102 26) (hii : 0 ≤ i ∧ i < sCr (G 102) b) (hc : 0 ≤ c ∧ c ≤ 100) (hn : 0 ≤ n ∧ n ≤ 50000) {S : Int × (Int → Int) × Int × Int × Int} (lg : Lg n S) (k111 : Nat → Int32 → Int32 → Int32 → Int32 → Int32 → Int32 → Int32 → Int32 → Int32 → mH → Option (Int32 × mH)) {G1 : Nat → Int → Int} (t1 : ∀ a, a ≠ 106 → G1 a = G a) (hm : ∀ k, 0 ≤ k → k < 4 → G1 106 k = S.2.1 k) : ∃ G3, ((∀ a, a ≠ 106 → G3 a = G a) ∧ ∀ k, 0 ≤ k → k < 4 → G3 106 k = (lsj (G 102) b c i (G 102 (27 + b)).toNat S).2.1 k) ∧ L_X12_learner_124 N k111 N 100 (jI b) (jI c) (jI w) (jI (sPe (G 102) b)) (jI S.1) (jI S.2.2.1) (jI S.2.2.2.1) (jI S.2.2.2.2) (jI i) (jI 0) (hp q G1) = k111 100 (jI b) (jI c) (jI w) (jI (sPe (G 102) b)) (jI (lsj (G 102) b c i (G 102 (27 + b)).toNat S).1) (jI (lsj (G 102) b c i (G 102 (27 + b)).toNat S).2.2.1) (jI (lsj (G 102) b c i (G 102 (27 + b)).toNat S).2.2.2.1) (jI (lsj (G 102) b c i (G 102 (27 + b)).toNat S).2.2.2.2) (jI (i + 1)) (hp q G3) := by
  have X : ∀ v : Int, iAdd (iMul (jI 1103515245) (jI v)) (jI 12345) = jI (dr v) := fun v => by rw [iMul_j, iAdd_j]; rfl
  have g := hV.1
  have wb := hV.2.2.1 b hb.1 hb.2
  have cr := crF hV hb.1 hb.2
  refine loopG (N := N) (fun m (t : (Int × (Int → Int) × Int × Int × Int) × Int × (Nat → Int → Int)) => L_X12_learner_124 N k111 m 100 (jI b) (jI c) (jI w) (jI (sPe (G 102) b)) (jI t.1.1) (jI t.1.2.2.1) (jI t.1.2.2.2.1) (jI t.1.2.2.2.2) (jI i) (jI t.2.1) (hp q t.2.2)) (fun j t => t.1 = lsj (G 102) b c i j S ∧ t.2.1 = j ∧ (∀ a, a ≠ 106 → t.2.2 a = G a) ∧ ∀ k, 0 ≤ k → k < 4 → t.2.2 106 k = (lsj (G 102) b c i j S).2.1 k) (G 102 (27 + b)).toNat (by omega) (s := (S, 0, G1)) ⟨rfl, rfl, t1, hm⟩ ?_ ?_
  · rintro m j ⟨z, i', G2⟩ hj ⟨rfl, rfl, t2, hm2⟩
    simp only at t2 hm2
    have lgj := lsj_r (c := c) hV hb hii lg j (by omega)
    obtain ⟨q1, q2, q3, q4, q5⟩ := lsl_eq (A := G 102) (b := b) (c := c) (i := i) (j := j) (s := lsj (G 102) b c i j S)
    have eL : lsj (G 102) b c i (j + 1) S = lsl (G 102) b c i j (lsj (G 102) b c i j S) := rfl
    rw [← eL] at q1 q2 q3 q4 q5
    generalize lsj (G 102) b c i (j + 1) S = S2 at q1 q2 q3 q4 q5 ⊢
    generalize lsj (G 102) b c i j S = S1 at lgj hm2 q1 q2 q3 q4 q5 ⊢
    have hr := hi_r (dr S1.1)
    have o1 := lgj.1 (j : Int)
    have m5 := hm2 j (by omega) (by omega)
    have e2 : G2 102 = G 102 := t2 102 (by decide)
    have hV2 : BV (G2 102) := by rw [e2]; exact hV
    by_cases d : hi (dr S1.1) % 100 < c
    · rw [if_pos d] at q2 q3 q4 q5
      rw [u1_eq] at q4 q5
      have J := mLj (q := q) (G := up G2 106 j (S1.2.1 j + 1)) hN hV2 (b := b) (j := j) (i := i) (o := S1.2.1 j + 1) (ot := S1.2.2.2.1) (fi := S1.2.2.2.2) (by show _ ∧ _ < G2 102 26; rw [e2]; exact hb) (by show _ ∧ _ < G2 102 _; rw [e2]; omega) (by show _ ∧ _ < sCr (G2 102) b; rw [e2]; exact hii) (by rw [up_eq, u1_eq]) (by omega) lgj.2.2 (L_X12_learner_124 N k111 m) c w (dr S1.1) (S1.2.2.1 + 1)
      rw [show up G2 106 j (S1.2.1 j + 1) 102 = G 102 from e2] at J
      refine ⟨(S2, ((j + 1 : Nat) : Int), up G2 106 j (S1.2.1 j + 1)), ⟨rfl, rfl, ?_, ?_⟩, ?_⟩
      · intro a ha
        exact (up_ne ha).trans (t2 a ha)
      · intro k k0 k1
        show up G2 106 j (S1.2.1 j + 1) 106 k = _
        rw [q2, up_eq]
        by_cases kj : k = j
        · subst kj; rw [u1_eq, u1_eq]
        · rw [u1_ne kj, u1_ne kj]; exact hm2 k k0 k1
      · show L_X12_learner_124 N k111 (m + 1) 100 (jI b) (jI c) (jI w) (jI (sPe (G 102) b)) (jI S1.1) (jI S1.2.2.1) (jI S1.2.2.2.1) (jI S1.2.2.2.2) (jI i) (jI (j : Int)) (hp q G2) = L_X12_learner_124 N k111 m 100 (jI b) (jI c) (jI w) (jI (sPe (G 102) b)) (jI S2.1) (jI S2.2.2.1) (jI S2.2.2.2.1) (jI S2.2.2.2.2) (jI i) (jI ((j + 1 : Nat) : Int)) (hp q (up G2 106 j (S1.2.1 j + 1)))
        rw [q1, q3, q4, q5, Int.natCast_succ, ← J, L_X12_learner_124]
        simp only [X]
        simp (maxSteps := 2000000) (disch := first | assumption | omega | (rw [e2]; omega)) only [jI0, iAdd_j, iSub_j, iMul_j, iNeg_j, Option.bind_some, jlt_t, jlt_f, jlt, jle_t, jle_f, jle, jeq_t, jeq_f, jeq, ↓reduceIte, drw, iRem_p, o100, l102, l106, m5, s106, e2]
    · rw [if_neg d] at q2 q3 q4 q5
      have J := mLj (q := q) (G := G2) hN hV2 (b := b) (j := j) (i := i) (o := S1.2.1 j) (ot := S1.2.2.2.1) (fi := S1.2.2.2.2) (by rw [e2]; exact hb) (by rw [e2]; omega) (by rw [e2]; exact hii) m5 (by omega) lgj.2.2 (L_X12_learner_124 N k111 m) c w (dr S1.1) S1.2.2.1
      rw [e2] at J
      refine ⟨(S2, ((j + 1 : Nat) : Int), G2), ⟨rfl, rfl, t2, ?_⟩, ?_⟩
      · intro k k0 k1
        rw [q2]
        exact hm2 k k0 k1
      · show L_X12_learner_124 N k111 (m + 1) 100 (jI b) (jI c) (jI w) (jI (sPe (G 102) b)) (jI S1.1) (jI S1.2.2.1) (jI S1.2.2.2.1) (jI S1.2.2.2.2) (jI i) (jI (j : Int)) (hp q G2) = L_X12_learner_124 N k111 m 100 (jI b) (jI c) (jI w) (jI (sPe (G 102) b)) (jI S2.1) (jI S2.2.2.1) (jI S2.2.2.2.1) (jI S2.2.2.2.2) (jI i) (jI ((j + 1 : Nat) : Int)) (hp q G2)
        rw [q1, q3, q4, q5, Int.natCast_succ, ← J, L_X12_learner_124]
        simp only [X]
        simp (maxSteps := 2000000) (disch := first | assumption | omega | (rw [e2]; omega)) only [jI0, iAdd_j, iSub_j, iMul_j, iNeg_j, Option.bind_some, jlt_t, jlt_f, jlt, jle_t, jle_f, jle, jeq_t, jeq_f, jeq, ↓reduceIte, drw, iRem_p, o100, l102, e2]
  · rintro m ⟨z, i', G2⟩ ⟨rfl, rfl, t2, hm2⟩
    simp only at t2 hm2
    have e2 : G2 102 = G 102 := t2 102 (by decide)
    refine ⟨G2, ⟨t2, hm2⟩, ?_⟩
    show L_X12_learner_124 N k111 (m + 1) 100 (jI b) (jI c) (jI w) (jI (sPe (G 102) b)) (jI _) (jI _) (jI _) (jI _) (jI i) (jI ((G 102 (27 + b)).toNat : Int)) (hp q G2) = _
    rw [L_X12_learner_124]
    simp (maxSteps := 2000000) (disch := first | assumption | omega | (rw [e2]; omega)) only [jI0, iAdd_j, iSub_j, iMul_j, iNeg_j, Option.bind_some, jlt_t, jlt_f, jlt, jle_t, jle_f, jle, jeq_t, jeq_f, jeq, ↓reduceIte, o100, l102, e2]
theorem op_learner (hN : 10000 ≤ N) (hI : INV K1 K2 q G) {b x c w : Int} (h1 : -2147483648 ≤ b) (h2 : b < 2147483648) (h5 : -2147483648 ≤ c) (h6 : c < 2147483648) (h7 : -2147483648 ≤ w) (h8 : w < 2147483648) : OP K1 K2 q G (f_X11_learner N 0 (jI b) (jI x) (jI c) (jI w)) (f_X12_learner N 100 (jI b) (jI x) (jI c) (jI w)) := by
  have hB := hI.1.1; have hV := hB.1; have hT := hI.1.2.1; have g := hV.1
  by_cases c1 : 0 ≤ b ∧ b < G 102 26
  · have wb := hV.2.2.1 b c1.1 c1.2
    have cr := crF hV c1.1 c1.2
    by_cases c2 : 0 ≤ w ∧ w ≤ 2
    · by_cases c3 : 0 ≤ c ∧ c ≤ 100
      · have pe : 2 ≤ sPe (G 102) b ∧ sPe (G 102) b ≤ 8 := by unfold sPe; omega
        have sb := sBs_r hV (b := b)
        generalize hF : lso (G 102) b c x (sCr (G 102) b).toNat = F
        refine OP.sc hI (jI (if w = 0 then F.2.2.1 else if w = 1 then F.2.2.2.1 else F.2.2.2.2)) ?_ ?_
        · have C0 : ∀ (xs : Int), (xs = 1 ∨ (xs = 0 ∧ sBs (G 102) b = 0)) → ∀ G1, TK G G1 → (∀ k, 0 ≤ k → k < 4 → G1 14 k = 0 ∧ G1 15 k = 0) → ∃ G2, TK G G2 ∧ L_X10_learnerDoes_89 N N 12 (jI b) (jI c) (jI w) (jI (G 102 (27 + b))) (jI (sPe (G 102) b)) (jI (G 102 (35 + b))) (jI xs) (jI x) (jI 0) (jI 0) (jI (-1)) (jI 0) (hp q G1) = some (jI (if w = 0 then F.2.2.1 else if w = 1 then F.2.2.2.1 else F.2.2.2.2), hp q G2) := by
            intro xs hx G1 ht1 h0
            refine loopQ (fun m (t : (Int × (Int → Int) × Int × Int × Int) × Int × (Nat → Int → Int)) => L_X10_learnerDoes_89 N m 12 (jI b) (jI c) (jI w) (jI (G 102 (27 + b))) (jI (sPe (G 102) b)) (jI (G 102 (35 + b))) (jI xs) (jI t.1.1) (jI t.1.2.2.1) (jI t.1.2.2.2.1) (jI t.1.2.2.2.2) (jI t.2.1) (hp q t.2.2)) (fun i t => t.1 = lso (G 102) b c x i ∧ t.2.1 = i ∧ TK G t.2.2 ∧ ∀ k, 0 ≤ k → k < G 102 (27 + b) → t.2.2 14 k = sTs (G 102) b k ((i : Int) - 1) ∧ t.2.2 15 k = (lso (G 102) b c x i).2.1 k) (sCr (G 102) b).toNat (fun r => ∃ G2, TK G G2 ∧ r = some (jI (if w = 0 then F.2.2.1 else if w = 1 then F.2.2.2.1 else F.2.2.2.2), hp q G2)) (by omega) (s := ((x, fun _ => 0, 0, 0, -1), 0, G1)) ⟨rfl, rfl, ht1, ?_⟩ ?_ ?_
            · intro k k0 k1
              have := h0 k k0 (by omega)
              refine ⟨?_, this.2⟩
              show G1 14 k = sTs (G 102) b k (0 - 1)
              unfold sTs
              rw [show (0 : Int) - 1 = -1 from rfl, sPl_neg hV]
              exact this.1
            · rintro m i ⟨z, i', G2⟩ hii ⟨rfl, rfl, ht2, hm⟩
              simp only at ht2 hm
              have lg := lso_r hV (c := c) (x := x) c1 i (by omega)
              obtain ⟨G3, ⟨t3, hm3⟩, e3⟩ := oLi (q := q) hN hB (fun G1 h => h.bb hB) (w := w) c1 (i := (i : Int)) (by omega) c3 hx (n := 4 * i) (by omega) lg (L_X10_learnerDoes_89 N m) ht2 hm
              refine ⟨(lso (G 102) b c x (i + 1), ((i + 1 : Nat) : Int), G3), ⟨rfl, rfl, t3, ?_⟩, ?_⟩
              · intro k k0 k1
                rw [show ((i + 1 : Nat) : Int) - 1 = i by omega]
                exact hm3 k k0 k1
              · show L_X10_learnerDoes_89 N (m + 1) 12 (jI b) (jI c) (jI w) (jI (G 102 (27 + b))) (jI (sPe (G 102) b)) (jI (G 102 (35 + b))) (jI xs) (jI (lso (G 102) b c x i).1) (jI (lso (G 102) b c x i).2.2.1) (jI (lso (G 102) b c x i).2.2.2.1) (jI (lso (G 102) b c x i).2.2.2.2) (jI (i : Int)) (hp q G2) = _
                have hB2 := ht2.bb hB
                have ec := oCr (q := q) (N := N) hB2 (b := b) c1.1 (by rw [ht2.e]; exact c1.2)
                rw [ht2.e] at ec
                rw [L_X10_learnerDoes_89]
                simp (maxSteps := 2000000) (disch := first | assumption | omega) only [jI0, iAdd_j, iSub_j, iMul_j, iNeg_j, Option.bind_some, jlt_t, jlt_f, jlt, jle_t, jle_f, jle, jeq_t, jeq_f, jeq, ↓reduceIte, o12, o2, ec]
                exact e3
            · rintro m ⟨z, i', G2⟩ ⟨rfl, rfl, ht2, hm⟩
              simp only at ht2 hm
              refine ⟨G2, ht2, ?_⟩
              show L_X10_learnerDoes_89 N (m + 1) 12 (jI b) (jI c) (jI w) (jI (G 102 (27 + b))) (jI (sPe (G 102) b)) (jI (G 102 (35 + b))) (jI xs) (jI _) (jI (lso (G 102) b c x (sCr (G 102) b).toNat).2.2.1) (jI (lso (G 102) b c x (sCr (G 102) b).toNat).2.2.2.1) (jI (lso (G 102) b c x (sCr (G 102) b).toNat).2.2.2.2) (jI ((sCr (G 102) b).toNat : Int)) (hp q G2) = _
              have hB2 := ht2.bb hB
              have ec := oCr (q := q) (N := N) hB2 (b := b) c1.1 (by rw [ht2.e]; exact c1.2)
              rw [ht2.e] at ec
              rw [L_X10_learnerDoes_89, hF]
              by_cases w0 : w = 0
              · rw [if_pos w0]
                simp (maxSteps := 2000000) (disch := first | assumption | omega) only [jI0, iAdd_j, iSub_j, iMul_j, iNeg_j, Option.bind_some, jlt_t, jlt_f, jlt, jle_t, jle_f, jle, jeq_t, jeq_f, jeq, ↓reduceIte, o12, o2, ec]
              · by_cases w1 : w = 1
                · rw [if_neg w0, if_pos w1]
                  simp (maxSteps := 2000000) (disch := first | assumption | omega) only [jI0, iAdd_j, iSub_j, iMul_j, iNeg_j, Option.bind_some, jlt_t, jlt_f, jlt, jle_t, jle_f, jle, jeq_t, jeq_f, jeq, ↓reduceIte, o12, o2, ec]
                · rw [if_neg w0, if_neg w1]
                  simp (maxSteps := 2000000) (disch := first | assumption | omega) only [jI0, iAdd_j, iSub_j, iMul_j, iNeg_j, Option.bind_some, jlt_t, jlt_f, jlt, jle_t, jle_f, jle, jeq_t, jeq_f, jeq, ↓reduceIte, o12, o2, ec]
          have f1 := fill_i (q := q) (G := G) (a := 14) (n := 4) (v := 0) hN (by decide) (fun _ => rfl) (by decide)
          have f2 := fill_i (q := q) (G := fl G 14 4 0) (a := 15) (n := 4) (v := 0) hN (by decide) (fun _ => rfl) (by decide)
          have t2 : TK G (fl (fl G 14 4 0) 15 4 0) := TK.fl (TK.fl ⟨fun _ _ => rfl, hI.wv⟩ (by omega)) (by omega)
          have hB2 := t2.bb hB
          have z0 : ∀ k, 0 ≤ k → k < 4 → fl (fl G 14 4 0) 15 4 0 14 k = 0 ∧ fl (fl G 14 4 0) 15 4 0 15 k = 0 := fun k k0 k1 => ⟨by rw [fl_ne (by decide)]; exact fl_eq k0 k1, fl_eq k0 k1⟩
          have ob := oBand (q := q) (N := N) hB2 (b := b) c1.1 c1.2
          have op := oPer (q := q) (N := N) hB2 (b := b) c1.1 c1.2
          have os := oSlips (q := q) hN hB2 (b := b) (by omega)
          rw [t2.e] at ob op os
          have mn : min (G 102 (27 + b)) 4 = G 102 (27 + b) := Int.min_eq_left (by omega)
          by_cases sl : 0 < sBs (G 102) b
          · obtain ⟨G2, t, e⟩ := C0 1 (.inl rfl) _ t2 z0
            refine ⟨G2, t.sc, ?_⟩
            unfold sPe at e
            unfold f_X11_learner f_X10_learnerDoes
            simp (maxSteps := 2000000) (disch := first | assumption | omega) only [jI0, iAdd_j, iSub_j, iMul_j, iNeg_j, Option.bind_some, jlt_t, jlt_f, jlt, jle_t, jle_f, jle, jeq_t, jeq_f, jeq, ↓reduceIte, o0, o2, o12, hBand, hStake, hKind, hCross, hWeaver, oBand, oKindOf, oKind, oCr, oRing, oWv, oPer, oRows, oAhead, oWhen, oAll, oStep, oRods, oRodAt, oStakeAt, oOff, bI_t, bI_f, X11_refuse, f1, f2, ob, op, os, n15, iMin_j, mn, e]
          · obtain ⟨G2, t, e⟩ := C0 0 (.inr ⟨rfl, by omega⟩) _ t2 z0
            refine ⟨G2, t.sc, ?_⟩
            unfold sPe at e
            unfold f_X11_learner f_X10_learnerDoes
            simp (maxSteps := 2000000) (disch := first | assumption | omega) only [jI0, iAdd_j, iSub_j, iMul_j, iNeg_j, Option.bind_some, jlt_t, jlt_f, jlt, jle_t, jle_f, jle, jeq_t, jeq_f, jeq, ↓reduceIte, o0, o2, o12, hBand, hStake, hKind, hCross, hWeaver, oBand, oKindOf, oKind, oCr, oRing, oWv, oPer, oRows, oAhead, oWhen, oAll, oStep, oRods, oRodAt, oStakeAt, oOff, bI_t, bI_f, X11_refuse, f1, f2, ob, op, os, n15, iMin_j, mn, e]
        · intro G1 s1 hM e
          have hV1 := hM.1; have hT1 := hM.2; (try rw [← e] at dm); (try rw [← e] at dr); (try rw [← e] at de); (try rw [← e] at dl); (try rw [← e] at hb); (try rw [← e] at hj); (try rw [← e] at hr); (try rw [← e] at hs); (try rw [← e] at pl); (try rw [← e] at al); (try rw [← e] at g); (try rw [← e] at c); (try rw [← e] at c1); (try rw [← e] at c2); (try rw [← e] at c3); (try rw [← e] at c4); (try rw [← e] at c5); (try rw [← e] at c6); (try rw [← e] at wb); (try rw [← e] at pr); (try rw [← e] at kd); (try rw [← e] at cr); (try rw [← e] at fe); (try rw [← e] at ra); (try rw [← e] at f1); (try rw [← e] at f2); (try rw [← e] at f3); (try rw [← e] at f4); (try rw [← e])
          rw [← e] at hF pe
          have L0 : ∃ G2, ((∀ a, a ≠ 106 → G2 a = G1 a) ∧ ∀ k, 0 ≤ k → k < 4 → G2 106 k = 0) ∧ L_X12_learner_55 N N 100 (jI b) (jI x) (jI c) (jI w) (jI 0) (hp q G1) = L_X12_learner_111 N N 100 (jI b) (jI c) (jI w) (jI (sPe (G1 102) b)) (jI x) (jI 0) (jI 0) (jI (-1)) (jI 0) (hp q G2) := by
            refine loopG (N := N) (fun m (t : Int × (Nat → Int → Int)) => L_X12_learner_55 N m 100 (jI b) (jI x) (jI c) (jI w) (jI t.1) (hp q t.2)) (fun k t => t.1 = k ∧ (∀ a, a ≠ 106 → t.2 a = G1 a) ∧ ∀ i, 0 ≤ i → i < (k : Int) → t.2 106 i = 0) 4 (by omega) (s := (0, G1)) ⟨rfl, fun _ _ => rfl, fun i i0 i1 => by omega⟩ ?_ ?_
            · rintro m k ⟨i, G2⟩ hk ⟨rfl, t, h⟩
              simp only at t h
              refine ⟨(((k + 1 : Nat) : Int), up G2 106 k 0), ⟨rfl, fun a ha => (up_ne ha).trans (t a ha), ?_⟩, ?_⟩
              · intro i i0 i1
                show up G2 106 k 0 106 i = 0
                rw [up_eq]
                by_cases ik : i = k
                · subst ik; rw [u1_eq]
                · rw [u1_ne ik]; exact h i i0 (by omega)
              · show L_X12_learner_55 N (m + 1) 100 (jI b) (jI x) (jI c) (jI w) (jI (k : Int)) (hp q G2) = L_X12_learner_55 N m 100 (jI b) (jI x) (jI c) (jI w) (jI ((k + 1 : Nat) : Int)) (hp q (up G2 106 k 0))
                rw [L_X12_learner_55]
                simp (maxSteps := 2000000) (disch := first | assumption | omega) only [jI0, iAdd_j, iSub_j, iMul_j, iNeg_j, Option.bind_some, jlt_t, jlt_f, jlt, jle_t, jle_f, jle, jeq_t, jeq_f, jeq, ↓reduceIte, o100, s106, Int.natCast_succ]
            · rintro m ⟨i, G2⟩ ⟨rfl, t, h⟩
              simp only at t h
              have e2 : G2 102 = G1 102 := t 102 (by decide)
              refine ⟨G2, ⟨t, h⟩, ?_⟩
              show L_X12_learner_55 N (m + 1) 100 (jI b) (jI x) (jI c) (jI w) (jI 4) (hp q G2) = _
              rw [L_X12_learner_55]
              unfold sPe
              simp (maxSteps := 2000000) (disch := first | assumption | omega | (rw [e2]; omega)) only [jI0, iAdd_j, iSub_j, iMul_j, iNeg_j, Option.bind_some, jlt_t, jlt_f, jlt, jle_t, jle_f, jle, jeq_t, jeq_f, jeq, ↓reduceIte, o100, l102, e2]
          obtain ⟨G2, ⟨t2, h2'⟩, e2'⟩ := L0
          have L : ∃ G3, (∀ a, a ≠ 106 → G3 a = G1 a) ∧ L_X12_learner_111 N N 100 (jI b) (jI c) (jI w) (jI (sPe (G1 102) b)) (jI x) (jI 0) (jI 0) (jI (-1)) (jI 0) (hp q G2) = some (jI (if w = 0 then F.2.2.1 else if w = 1 then F.2.2.2.1 else F.2.2.2.2), hp q G3) := by
            refine loopG (N := N) (fun m (t : (Int × (Int → Int) × Int × Int × Int) × Int × (Nat → Int → Int)) => L_X12_learner_111 N m 100 (jI b) (jI c) (jI w) (jI (sPe (G1 102) b)) (jI t.1.1) (jI t.1.2.2.1) (jI t.1.2.2.2.1) (jI t.1.2.2.2.2) (jI t.2.1) (hp q t.2.2)) (fun i t => t.1 = lso (G1 102) b c x i ∧ t.2.1 = i ∧ (∀ a, a ≠ 106 → t.2.2 a = G1 a) ∧ ∀ k, 0 ≤ k → k < 4 → t.2.2 106 k = (lso (G1 102) b c x i).2.1 k) (sCr (G1 102) b).toNat (by omega) (s := ((x, fun _ => 0, 0, 0, -1), 0, G2)) ⟨rfl, rfl, t2, h2'⟩ ?_ ?_
            · rintro m i ⟨z, i', G3⟩ hii ⟨rfl, rfl, t3, h3⟩
              simp only at t3 h3
              have lg := lso_r hV1 (c := c) (x := x) c1 i (by omega)
              obtain ⟨G4, ⟨t4, h4'⟩, e4⟩ := mLi (q := q) hN hV1 (w := w) c1 (i := (i : Int)) (by omega) c3 (n := 4 * i) (by omega) lg (L_X12_learner_111 N m) t3 h3
              have e2 : G3 102 = G1 102 := t3 102 (by decide)
              have hV3 : BV (G3 102) := by rw [e2]; exact hV1
              refine ⟨(lso (G1 102) b c x (i + 1), ((i + 1 : Nat) : Int), G4), ⟨rfl, rfl, t4, h4'⟩, ?_⟩
              show L_X12_learner_111 N (m + 1) 100 (jI b) (jI c) (jI w) (jI (sPe (G1 102) b)) (jI (lso (G1 102) b c x i).1) (jI (lso (G1 102) b c x i).2.2.1) (jI (lso (G1 102) b c x i).2.2.2.1) (jI (lso (G1 102) b c x i).2.2.2.2) (jI (i : Int)) (hp q G3) = _
              rw [L_X12_learner_111]
              simp (maxSteps := 2000000) (disch := first | assumption | omega | (rw [e2]; omega)) only [jI0, iAdd_j, iSub_j, iMul_j, iNeg_j, Option.bind_some, jlt_t, jlt_f, jlt, jle_t, jle_f, jle, jeq_t, jeq_f, jeq, ↓reduceIte, o100, mCr, e2]
              exact e4
            · rintro m ⟨z, i', G3⟩ ⟨rfl, rfl, t3, h3⟩
              simp only at t3 h3
              have e2 : G3 102 = G1 102 := t3 102 (by decide)
              have hV3 : BV (G3 102) := by rw [e2]; exact hV1
              refine ⟨G3, t3, ?_⟩
              show L_X12_learner_111 N (m + 1) 100 (jI b) (jI c) (jI w) (jI (sPe (G1 102) b)) (jI _) (jI (lso (G1 102) b c x (sCr (G1 102) b).toNat).2.2.1) (jI (lso (G1 102) b c x (sCr (G1 102) b).toNat).2.2.2.1) (jI (lso (G1 102) b c x (sCr (G1 102) b).toNat).2.2.2.2) (jI ((sCr (G1 102) b).toNat : Int)) (hp q G3) = _
              rw [L_X12_learner_111, hF]
              by_cases w0 : w = 0
              · rw [if_pos w0]
                simp (maxSteps := 2000000) (disch := first | assumption | omega | (rw [e2]; omega)) only [jI0, iAdd_j, iSub_j, iMul_j, iNeg_j, Option.bind_some, jlt_t, jlt_f, jlt, jle_t, jle_f, jle, jeq_t, jeq_f, jeq, ↓reduceIte, o100, mCr, e2]
              · by_cases w1 : w = 1
                · rw [if_neg w0, if_pos w1]
                  simp (maxSteps := 2000000) (disch := first | assumption | omega | (rw [e2]; omega)) only [jI0, iAdd_j, iSub_j, iMul_j, iNeg_j, Option.bind_some, jlt_t, jlt_f, jlt, jle_t, jle_f, jle, jeq_t, jeq_f, jeq, ↓reduceIte, o100, mCr, e2]
                · rw [if_neg w0, if_neg w1]
                  simp (maxSteps := 2000000) (disch := first | assumption | omega | (rw [e2]; omega)) only [jI0, iAdd_j, iSub_j, iMul_j, iNeg_j, Option.bind_some, jlt_t, jlt_f, jlt, jle_t, jle_f, jle, jeq_t, jeq_f, jeq, ↓reduceIte, o100, mCr, e2]
          obtain ⟨G3, t3, e3⟩ := L
          refine ⟨G3, SC.one t3 rfl, ?_⟩
          unfold f_X12_learner
          simp (maxSteps := 2000000) (disch := first | assumption | omega) only [jI0, iAdd_j, iSub_j, iMul_j, iNeg_j, Option.bind_some, jlt_t, jlt_f, jlt, jle_t, jle_f, jle, jeq_t, jeq_f, jeq, ↓reduceIte, o100, w100t, l102, mBand, mStake, mKind, mCross, mCr, mKindOf, mAhead, mWhen, mStep, mRods, mRodAt, mStakeAt, mIndex, mOver, mOverIn, jlL, X12_within, bI_t, bI_f, X12_no, e2', e3]
      · refine OP.rf hI (-3) (jI (-3)) ?_ ?_
        · unfold f_X11_learner
          by_cases d : c < 0 <;> simp (maxSteps := 2000000) (disch := first | assumption | omega) only [jI0, iAdd_j, iSub_j, iMul_j, iNeg_j, Option.bind_some, jlt_t, jlt_f, jlt, jle_t, jle_f, jle, jeq_t, jeq_f, jeq, ↓reduceIte, o0, o2, o12, hBand, hStake, hKind, hCross, hWeaver, oBand, oKindOf, oKind, oCr, oRing, oWv, oPer, oRows, oAhead, oWhen, oAll, oStep, oRods, oRodAt, oStakeAt, oOff, bI_t, bI_f, X11_refuse]
        · intro G1 hM e eo
          have hV1 := hM.1; have hT1 := hM.2; (try rw [← e] at dm); (try rw [← e] at dr); (try rw [← e] at de); (try rw [← e] at dl); (try rw [← e] at hb); (try rw [← e] at hj); (try rw [← e] at hr); (try rw [← e] at hs); (try rw [← e] at pl); (try rw [← e] at al); (try rw [← e] at g); (try rw [← e] at c); (try rw [← e] at c1); (try rw [← e] at c2); (try rw [← e] at c3); (try rw [← e] at c4); (try rw [← e] at c5); (try rw [← e] at c6); (try rw [← e] at wb); (try rw [← e] at pr); (try rw [← e] at kd); (try rw [← e] at cr); (try rw [← e] at fe); (try rw [← e] at ra); (try rw [← e] at f1); (try rw [← e] at f2); (try rw [← e] at f3); (try rw [← e] at f4); (try rw [← e])
          unfold f_X12_learner
          simp (maxSteps := 2000000) (disch := first | assumption | omega) only [jI0, iAdd_j, iSub_j, iMul_j, iNeg_j, Option.bind_some, jlt_t, jlt_f, jlt, jle_t, jle_f, jle, jeq_t, jeq_f, jeq, ↓reduceIte, o100, w100t, l102, mBand, mStake, mKind, mCross, mCr, mKindOf, mAhead, mWhen, mStep, mRods, mRodAt, mStakeAt, mIndex, mOver, mOverIn, jlL, X12_within, bI_t, bI_f, X12_no]
    · refine OP.rf hI (-2) (jI (-2)) ?_ ?_
      · unfold f_X11_learner
        by_cases d : w < 0 <;> simp (maxSteps := 2000000) (disch := first | assumption | omega) only [jI0, iAdd_j, iSub_j, iMul_j, iNeg_j, Option.bind_some, jlt_t, jlt_f, jlt, jle_t, jle_f, jle, jeq_t, jeq_f, jeq, ↓reduceIte, o0, o2, o12, hBand, hStake, hKind, hCross, hWeaver, oBand, oKindOf, oKind, oCr, oRing, oWv, oPer, oRows, oAhead, oWhen, oAll, oStep, oRods, oRodAt, oStakeAt, oOff, bI_t, bI_f, X11_refuse]
      · intro G1 hM e eo
        have hV1 := hM.1; have hT1 := hM.2; (try rw [← e] at dm); (try rw [← e] at dr); (try rw [← e] at de); (try rw [← e] at dl); (try rw [← e] at hb); (try rw [← e] at hj); (try rw [← e] at hr); (try rw [← e] at hs); (try rw [← e] at pl); (try rw [← e] at al); (try rw [← e] at g); (try rw [← e] at c); (try rw [← e] at c1); (try rw [← e] at c2); (try rw [← e] at c3); (try rw [← e] at c4); (try rw [← e] at c5); (try rw [← e] at c6); (try rw [← e] at wb); (try rw [← e] at pr); (try rw [← e] at kd); (try rw [← e] at cr); (try rw [← e] at fe); (try rw [← e] at ra); (try rw [← e] at f1); (try rw [← e] at f2); (try rw [← e] at f3); (try rw [← e] at f4); (try rw [← e])
        unfold f_X12_learner
        simp (maxSteps := 2000000) (disch := first | assumption | omega) only [jI0, iAdd_j, iSub_j, iMul_j, iNeg_j, Option.bind_some, jlt_t, jlt_f, jlt, jle_t, jle_f, jle, jeq_t, jeq_f, jeq, ↓reduceIte, o100, w100t, l102, mBand, mStake, mKind, mCross, mCr, mKindOf, mAhead, mWhen, mStep, mRods, mRodAt, mStakeAt, mIndex, mOver, mOverIn, jlL, X12_within, bI_t, bI_f, X12_no]
  · refine OP.rf hI (-2) (jI (-2)) ?_ ?_
    · unfold f_X11_learner
      simp (maxSteps := 2000000) (disch := first | assumption | omega) only [jI0, iAdd_j, iSub_j, iMul_j, iNeg_j, Option.bind_some, jlt_t, jlt_f, jlt, jle_t, jle_f, jle, jeq_t, jeq_f, jeq, ↓reduceIte, o0, o2, o12, hBand, hStake, hKind, hCross, hWeaver, oBand, oKindOf, oKind, oCr, oRing, oWv, oPer, oRows, oAhead, oWhen, oAll, oStep, oRods, oRodAt, oStakeAt, oOff, bI_t, bI_f, X11_refuse]
    · intro G1 hM e eo
      have hV1 := hM.1; have hT1 := hM.2; (try rw [← e] at dm); (try rw [← e] at dr); (try rw [← e] at de); (try rw [← e] at dl); (try rw [← e] at hb); (try rw [← e] at hj); (try rw [← e] at hr); (try rw [← e] at hs); (try rw [← e] at pl); (try rw [← e] at al); (try rw [← e] at g); (try rw [← e] at c); (try rw [← e] at c1); (try rw [← e] at c2); (try rw [← e] at c3); (try rw [← e] at c4); (try rw [← e] at c5); (try rw [← e] at c6); (try rw [← e] at wb); (try rw [← e] at pr); (try rw [← e] at kd); (try rw [← e] at cr); (try rw [← e] at fe); (try rw [← e] at ra); (try rw [← e] at f1); (try rw [← e] at f2); (try rw [← e] at f3); (try rw [← e] at f4); (try rw [← e])
      unfold f_X12_learner
      simp (maxSteps := 2000000) (disch := first | assumption | omega) only [jI0, iAdd_j, iSub_j, iMul_j, iNeg_j, Option.bind_some, jlt_t, jlt_f, jlt, jle_t, jle_f, jle, jeq_t, jeq_f, jeq, ↓reduceIte, o100, w100t, l102, mBand, mStake, mKind, mCross, mCr, mKindOf, mAhead, mWhen, mStep, mRods, mRodAt, mStakeAt, mIndex, mOver, mOverIn, jlL, X12_within, bI_t, bI_f, X12_no]
end
