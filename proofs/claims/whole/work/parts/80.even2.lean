/-! call: even -/
section
variable {K1 K2 : (Int → Int) → (Int → Int) → Prop} {q : Nat × Nat × (Nat → Nat)} {G : Nat → Int → Int} {N : Nat}
theorem mOff (hN : 10000 ≤ N) {th o : Int → Int} {n m : Nat} (h : n = 2 * m) (m1 : 1 ≤ m) (m4 : m ≤ 4) (g1 : G 100 29 = n) (g3 : ∀ i : Int, 0 ≤ i → i < n → G 111 i = th i ∧ 1 ≤ th i ∧ th i ≤ 99) (g4 : ∀ i : Int, 0 ≤ i → i < n → G 112 i = o i ∧ 0 ≤ o i ∧ o i < n) (ht : sm (fun i => th (o i)) n = sm th n) : f_X12_offOf N 100 (hp q G) = some (jI (evO (fun i => th (o i)) n m), hp q G) := by
  have d2 := iDiv2 h (by omega)
  have z2 : (jI 2 = jI 0) = False := jeq_f (by omega)
  have zn : (jI (n : Int) = jI 0) = False := jeq_f (by omega)
  have tr : ∀ i : Nat, i < n → 0 ≤ th (o i) ∧ th (o i) ≤ 99 := fun i hi => by
    have a := g4 i (by omega) (by omega)
    have b := g3 _ a.2.1 a.2.2
    omega
  have st := sm_le (f := th) (c := 99) (n := n) (fun k hk => by have := g3 k (by omega) (by omega); omega)
  unfold f_X12_offOf
  refine (loopE (N := N) (fun f (j : Nat) => L_X12_offOf_4 N f 100 (jI (sm th j)) (jI j) (hp q G)) (fun j => j) n (r := some (jI (evO (fun i => th (o i)) n m), hp q G)) (by omega) ?_ ?_) |> Eq.trans ?_
  · rfl
  · intro f j hj
    show L_X12_offOf_4 N (f + 1) 100 (jI (sm th j)) (jI j) (hp q G) = L_X12_offOf_4 N f 100 (jI (sm th j + th j)) (jI ((j + 1 : Nat) : Int)) (hp q G)
    have b := g3 j (by omega) (by omega)
    rw [L_X12_offOf_4]
    simp (maxSteps := 2000000) (disch := first | assumption | omega) only [jI0, iAdd_j, iSub_j, iMul_j, iNeg_j, Option.bind_some, jlt_t, jlt_f, jlt, jle_t, jle_f, jle, jeq_t, jeq_f, jeq, ↓reduceIte, o100, g1, l111, b.1, Int.natCast_succ]
  · intro f
    show L_X12_offOf_4 N (f + 1) 100 (jI (sm th n)) (jI n) (hp q G) = _
    have mr : ∀ k : Nat, k ≤ n → 0 ≤ mx (evT (fun i => th (o i)) n m) k ∧ mx (evT (fun i => th (o i)) n m) k ≤ 800 := fun k hk => ⟨mx_0 _ _, mx_le (by omega) (fun i hi => (evT_r (by omega) (by omega) m4 tr i).2)⟩
    rw [L_X12_offOf_4]
    simp (maxSteps := 2000000) (disch := first | assumption | omega) only [jI0, iAdd_j, iSub_j, iMul_j, iNeg_j, Option.bind_some, jlt_t, jlt_f, jlt, jle_t, jle_f, jle, jeq_t, jeq_f, jeq, ↓reduceIte, o100, g1]
    refine (loopE (N := N) (fun f (k : Nat) => L_X12_offOf_31 N f 100 (jI (sm th n)) (jI (mx (evT (fun i => th (o i)) n m) k)) (jI k) (hp q G)) (fun k => k) n (r := some (jI (evO (fun i => th (o i)) n m), hp q G)) (by omega) ?_ ?_) |> Eq.trans ?_
    · rfl
    · intro f k hk
      show L_X12_offOf_31 N (f + 1) 100 (jI (sm th n)) (jI (mx (evT (fun i => th (o i)) n m) k)) (jI k) (hp q G) = L_X12_offOf_31 N f 100 (jI (sm th n)) (jI (max (mx (evT (fun i => th (o i)) n m) k) (evT (fun i => th (o i)) n m k))) (jI ((k + 1 : Nat) : Int)) (hp q G)
      have sw : ∀ j : Nat, j ≤ m → 0 ≤ sm (fun i => th (o (((k : Int) + i) % n))) j ∧ sm (fun i => th (o (((k : Int) + i) % n))) j ≤ 99 * j := fun j hj => sm_le (fun i hi => by
        have h0 : 0 ≤ ((k : Int) + (i : Int)) % n := Int.emod_nonneg _ (by omega)
        have h1 : ((k : Int) + (i : Int)) % n < n := Int.emod_lt_of_pos _ (by omega)
        have := tr (((k : Int) + (i : Int)) % n).toNat (by omega)
        rw [Int.toNat_of_nonneg h0] at this
        exact this)
      have L : L_X12_offOf_45 N (L_X12_offOf_31 N f) N 100 (jI (sm th n)) (jI (mx (evT (fun i => th (o i)) n m) k)) (jI k) (jI 0) (jI 0) (hp q G) = L_X12_offOf_31 N f 100 (jI (sm th n)) (jI (max (mx (evT (fun i => th (o i)) n m) k) (evT (fun i => th (o i)) n m k))) (jI ((k + 1 : Nat) : Int)) (hp q G) := by
        refine (loopE (N := N) (fun f2 (j : Nat) => L_X12_offOf_45 N (L_X12_offOf_31 N f) f2 100 (jI (sm th n)) (jI (mx (evT (fun i => th (o i)) n m) k)) (jI k) (jI (sm (fun i => th (o (((k : Int) + i) % n))) j)) (jI j) (hp q G)) (fun j => j) m (r := L_X12_offOf_31 N f 100 (jI (sm th n)) (jI (max (mx (evT (fun i => th (o i)) n m) k) (evT (fun i => th (o i)) n m k))) (jI ((k + 1 : Nat) : Int)) (hp q G)) (by omega) ?_ ?_) |> Eq.trans ?_
        · rfl
        · intro f2 j hj
          show L_X12_offOf_45 N (L_X12_offOf_31 N f) (f2 + 1) 100 (jI (sm th n)) (jI (mx (evT (fun i => th (o i)) n m) k)) (jI k) (jI (sm (fun i => th (o (((k : Int) + i) % n))) j)) (jI j) (hp q G) = L_X12_offOf_45 N (L_X12_offOf_31 N f) f2 100 (jI (sm th n)) (jI (mx (evT (fun i => th (o i)) n m) k)) (jI k) (jI (sm (fun i => th (o (((k : Int) + i) % n))) j + th (o (((k : Int) + j) % n)))) (jI ((j + 1 : Nat) : Int)) (hp q G)
          have h0 : 0 ≤ ((k : Int) + (j : Int)) % n := Int.emod_nonneg _ (by omega)
          have h1 : ((k : Int) + (j : Int)) % n < n := Int.emod_lt_of_pos _ (by omega)
          have a := g4 _ h0 h1
          have b := g3 _ a.2.1 a.2.2
          rw [L_X12_offOf_45]
          simp (maxSteps := 2000000) (disch := first | assumption | omega) only [jI0, iAdd_j, iSub_j, iMul_j, iNeg_j, Option.bind_some, jlt_t, jlt_f, jlt, jle_t, jle_f, jle, jeq_t, jeq_f, jeq, ↓reduceIte, o100, g1, z2, zn, d2, iRem_p, l112, a.1, l111, b.1, Int.natCast_succ]
        · intro f2
          show L_X12_offOf_45 N (L_X12_offOf_31 N f) (f2 + 1) 100 (jI (sm th n)) (jI (mx (evT (fun i => th (o i)) n m) k)) (jI k) (jI (sm (fun i => th (o (((k : Int) + i) % n))) m)) (jI m) (hp q G) = _
          have s := sw m (Nat.le_refl _)
          have r := mr k (by omega)
          have er := evT_r (f := fun i => th (o i)) (n := n) (m := m) (by omega) (by omega) m4 tr k
          have et : evT (fun i => th (o i)) n m k = ab (2 * sm (fun i => th (o (((k : Int) + i) % n))) m - sm th n) := by
            unfold evT
            rw [ht]
          have J : J_X12_offOf_107 N (L_X12_offOf_31 N f) 100 (jI (sm th n)) (jI (mx (evT (fun i => th (o i)) n m) k)) (jI k) (jI (evT (fun i => th (o i)) n m k)) (hp q G) = L_X12_offOf_31 N f 100 (jI (sm th n)) (jI (max (mx (evT (fun i => th (o i)) n m) k) (evT (fun i => th (o i)) n m k))) (jI ((k + 1 : Nat) : Int)) (hp q G) := by
            unfold J_X12_offOf_107
            generalize mx (evT (fun i => th (o i)) n m) k = A at *
            generalize evT (fun i => th (o i)) n m k = B at *
            by_cases c : A < B
            · rw [Int.max_eq_right (by omega)]
              simp (maxSteps := 2000000) (disch := first | assumption | omega) only [jI0, iAdd_j, iSub_j, iMul_j, iNeg_j, Option.bind_some, jlt_t, jlt_f, jlt, jle_t, jle_f, jle, jeq_t, jeq_f, jeq, ↓reduceIte, Int.natCast_succ]
            · rw [Int.max_eq_left (by omega)]
              simp (maxSteps := 2000000) (disch := first | assumption | omega) only [jI0, iAdd_j, iSub_j, iMul_j, iNeg_j, Option.bind_some, jlt_t, jlt_f, jlt, jle_t, jle_f, jle, jeq_t, jeq_f, jeq, ↓reduceIte, Int.natCast_succ]
          rw [← J, et]
          rw [L_X12_offOf_45]
          unfold ab
          by_cases c : 2 * sm (fun i => th (o (((k : Int) + i) % n))) m - sm th n < 0
          · rw [if_pos c]
            simp (maxSteps := 2000000) (disch := first | assumption | omega) only [jI0, iAdd_j, iSub_j, iMul_j, iNeg_j, Option.bind_some, jlt_t, jlt_f, jlt, jle_t, jle_f, jle, jeq_t, jeq_f, jeq, ↓reduceIte, o100, g1, z2, d2]
          · rw [if_neg c]
            simp (maxSteps := 2000000) (disch := first | assumption | omega) only [jI0, iAdd_j, iSub_j, iMul_j, iNeg_j, Option.bind_some, jlt_t, jlt_f, jlt, jle_t, jle_f, jle, jeq_t, jeq_f, jeq, ↓reduceIte, o100, g1, z2, d2]
      rw [← L, L_X12_offOf_31]
      simp (maxSteps := 2000000) (disch := first | assumption | omega) only [jI0, iAdd_j, iSub_j, iMul_j, iNeg_j, Option.bind_some, jlt_t, jlt_f, jlt, jle_t, jle_f, jle, jeq_t, jeq_f, jeq, ↓reduceIte, o100, g1]
    · intro f2
      show L_X12_offOf_31 N (f2 + 1) 100 (jI (sm th n)) (jI (mx (evT (fun i => th (o i)) n m) n)) (jI n) (hp q G) = _
      rw [L_X12_offOf_31]
      simp (maxSteps := 2000000) (disch := first | assumption | omega) only [jI0, iAdd_j, iSub_j, iMul_j, iNeg_j, Option.bind_some, jlt_t, jlt_f, jlt, jle_t, jle_f, jle, jeq_t, jeq_f, jeq, ↓reduceIte, o100, g1]
      rfl
/-- what is kept in the model: none is -1 -/
def bo (x : Int) : Int := if x = 2147483647 then -1 else x
def EvM (th : Int → Int) (n : Nat) (o : Int → Int) (k : Nat) (s : Int × (Int → Int)) (G : Nat → Int → Int) : Prop := G 100 30 = bo s.1 ∧ G 100 29 = n ∧ (∀ i : Int, 0 ≤ i → i < n → G 111 i = th i ∧ 1 ≤ th i ∧ th i ≤ 99) ∧ (∀ i : Int, 0 ≤ i → i < k → G 112 i = o i ∧ 0 ≤ o i ∧ o i < n) ∧ (s.1 = 2147483647 ∨ ∀ i : Int, 0 ≤ i → i < n → G 113 i = s.2 i) ∧ 0 ≤ s.1 ∧ s.1 ≤ 2147483647
def Ev6 (G G' : Nat → Int → Int) : Prop := (∀ a, a ≠ 100 → a ≠ 112 → a ≠ 113 → G' a = G a) ∧ ∀ i, i ≠ 30 → G' 100 i = G 100 i
theorem mKeep (hN : 10000 ≤ N) {n : Nat} (n8 : n ≤ 8) (rc : Nat → Int32 → Int32 → mH → Option mH) (g1 : G 100 29 = n) : ∃ G', ((∀ a, a ≠ 113 → G' a = G a) ∧ ∀ i : Int, 0 ≤ i → i < n → G' 113 i = G 112 i) ∧ L_X12_puts_38 N rc N 100 (jI 0) (hp q G) = some (hp q G') := by
  refine loopG (N := N) (fun f (t : Int × (Nat → Int → Int)) => L_X12_puts_38 N rc f 100 (jI t.1) (hp q t.2)) (fun j t => t.1 = j ∧ (∀ a, a ≠ 113 → t.2 a = G a) ∧ ∀ i : Int, 0 ≤ i → i < (j : Int) → t.2 113 i = G 112 i) n (by omega) (s := (0, G)) ⟨rfl, fun _ _ => rfl, fun i i0 i1 => by omega⟩ ?_ ?_
  · rintro f j ⟨i, G1⟩ hj ⟨rfl, t1, t2⟩
    simp only at t1 t2
    have e29 : G1 100 29 = n := by rw [t1 100 (by decide)]; exact g1
    have e112 : G1 112 = G 112 := t1 112 (by decide)
    refine ⟨(((j + 1 : Nat) : Int), up G1 113 j (G 112 j)), ⟨rfl, fun a ha => (up_ne ha).trans (t1 a ha), fun i i0 i1 => ?_⟩, ?_⟩
    · show up G1 113 j _ 113 i = _
      rw [up_eq]
      by_cases c : i = j
      · rw [c, u1_eq]
      · rw [u1_ne c]; exact t2 i i0 (by omega)
    · show L_X12_puts_38 N rc (f + 1) 100 (jI (j : Int)) (hp q G1) = L_X12_puts_38 N rc f 100 (jI ((j + 1 : Nat) : Int)) (hp q (up G1 113 j (G 112 j)))
      rw [L_X12_puts_38]
      simp (maxSteps := 2000000) (disch := first | assumption | omega) only [jI0, iAdd_j, iSub_j, iMul_j, iNeg_j, Option.bind_some, jlt_t, jlt_f, jlt, jle_t, jle_f, jle, jeq_t, jeq_f, jeq, ↓reduceIte, o100, e29, l112, e112, s113, Int.natCast_succ]
  · rintro f ⟨i, G1⟩ ⟨rfl, t1, t2⟩
    simp only at t1 t2
    have e29 : G1 100 29 = n := by rw [t1 100 (by decide)]; exact g1
    refine ⟨G1, ⟨t1, fun i i0 i1 => t2 i i0 i1⟩, ?_⟩
    show L_X12_puts_38 N rc (f + 1) 100 (jI (n : Int)) (hp q G1) = _
    rw [L_X12_puts_38]
    simp (maxSteps := 2000000) (disch := first | assumption | omega) only [jI0, iAdd_j, iSub_j, iMul_j, iNeg_j, Option.bind_some, jlt_t, jlt_f, jlt, jle_t, jle_f, jle, jeq_t, jeq_f, jeq, ↓reduceIte, o100, e29]
theorem mPuts (hN : 10000 ≤ N) {th : Int → Int} {n m : Nat} (h : n = 2 * m) (m1 : 1 ≤ m) (m4 : m ≤ 4) : ∀ (d fu : Nat) (o : Int → Int) (k U : Nat) (s : Int × (Int → Int)) (G : Nat → Int → Int), k + d = n → d < fu → PI th n o k U → EvM th n o k s G → ∃ G', Ev6 G G' ∧ EvM th n o k (evR th n m d o k U s) G' ∧ f_X12_puts N fu 100 (jI k) (jI U) (hp q G) = some (hp q G') := by
  intro d
  induction d with
  | zero =>
    intro fu o k U s G hk hf hPI hg
    obtain ⟨fu, rfl⟩ : ∃ x, fu = x + 1 := ⟨fu - 1, by omega⟩
    have kn : k = n := by omega
    subst kn
    obtain ⟨g0, g1, g3, g4, g5, g6⟩ := hg
    have tr : ∀ i : Nat, i < k → 0 ≤ th (o i) ∧ th (o i) ≤ 99 := fun i hi => by
      have a := g4 i (by omega) (by omega)
      have b := g3 _ a.2.1 a.2.2
      omega
    have mo := mOff (q := q) hN h m1 m4 g1 g3 g4 hPI.full
    have r : 0 ≤ evO (fun i => th (o i)) k m ∧ evO (fun i => th (o i)) k m ≤ 800 := ⟨mx_0 _ _, mx_le (by omega) (fun i hi => (evT_r (by omega) (by omega) m4 tr i).2)⟩
    rw [f_X12_puts]
    simp only [evR]
    generalize evO (fun i => th (o i)) k m = W at *
    have w := (w100 q G W)
    have e29 : up G 100 30 W 100 29 = k := by rw [up_eq, u1_ne (by decide)]; exact g1
    obtain ⟨G', ⟨x1, x2⟩, x3⟩ := mKeep (q := q) (G := up G 100 30 W) hN (n := k) (by omega) (f_X12_puts N fu) e29
    have take : Ev6 G G' ∧ EvM th k o k (W, o) G' := by
      have eW : bo W = W := by unfold bo; rw [if_neg (by omega)]
      refine ⟨⟨fun a a0 a1 a2 => ?_, fun i hi => ?_⟩, ?_, ?_, ?_, ?_, ?_, by omega, by omega⟩
      · rw [x1 a a2, up_ne a0]
      · rw [x1 100 (by decide), up_eq, u1_ne hi]
      · rw [x1 100 (by decide), up_eq, u1_eq]; exact eW.symm
      · rw [x1 100 (by decide)]; exact e29
      · intro i i0 i1; rw [x1 111 (by decide), up_ne (by decide)]; exact g3 i i0 i1
      · intro i i0 i1; rw [x1 112 (by decide), up_ne (by decide)]; exact g4 i i0 i1
      · right
        intro i i0 i1
        rw [x2 i i0 i1, up_ne (by decide)]
        exact (g4 i i0 i1).1
    by_cases c0 : s.1 = 2147483647
    · have e30 : G 100 30 = -1 := by rw [g0]; unfold bo; rw [if_pos c0]
      rw [if_pos (by omega)]
      refine ⟨G', take.1, take.2, ?_⟩
      simp (maxSteps := 2000000) (disch := first | assumption | omega) only [jI0, iAdd_j, iSub_j, iMul_j, iNeg_j, Option.bind_some, jlt_t, jlt_f, jlt, jle_t, jle_f, jle, jeq_t, jeq_f, jeq, ↓reduceIte, o100, g1, mo, e30, w, x3]
    · have e30 : G 100 30 = s.1 := by rw [g0]; unfold bo; rw [if_neg c0]
      by_cases c : W < s.1
      · rw [if_pos c]
        refine ⟨G', take.1, take.2, ?_⟩
        simp (maxSteps := 2000000) (disch := first | assumption | omega) only [jI0, iAdd_j, iSub_j, iMul_j, iNeg_j, Option.bind_some, jlt_t, jlt_f, jlt, jle_t, jle_f, jle, jeq_t, jeq_f, jeq, ↓reduceIte, o100, g1, mo, e30, w, x3]
      · rw [if_neg c]
        refine ⟨G, ⟨fun _ _ _ _ => rfl, fun _ _ => rfl⟩, ⟨g0, g1, g3, g4, g5, g6⟩, ?_⟩
        simp (maxSteps := 2000000) (disch := first | assumption | omega) only [jI0, iAdd_j, iSub_j, iMul_j, iNeg_j, Option.bind_some, jlt_t, jlt_f, jlt, jle_t, jle_f, jle, jeq_t, jeq_f, jeq, ↓reduceIte, o100, g1, mo, e30]
  | succ d ih =>
    intro fu o k U s G hk hf hPI hg
    obtain ⟨fu, rfl⟩ : ∃ x, fu = x + 1 := ⟨fu - 1, by omega⟩
    have k1 := hPI.1
    have ub := hPI.2.2.2.2.2
    have L : ∃ G', (Ev6 G G' ∧ EvM th n o k (evR th n m (d + 1) o k U s) G') ∧ L_X12_puts_70 N (f_X12_puts N fu) N 100 (jI k) (jI U) (jI 0) (hp q G) = some (hp q G') := by
      refine loopG (N := N) (fun f (t : Int × (Nat → Int → Int)) => L_X12_puts_70 N (f_X12_puts N fu) f 100 (jI k) (jI U) (jI t.1) (hp q t.2)) (fun j t => t.1 = j ∧ Ev6 G t.2 ∧ EvM th n o k (fo (fun i s => if U.testBit i = true then s else evR th n m d (u1 o k i) (k + 1) (U ||| 2 ^ i) s) j s) t.2) n (by omega) (s := (0, G)) ⟨rfl, ⟨fun _ _ _ _ => rfl, fun _ _ => rfl⟩, hg⟩ ?_ ?_
      · rintro f j ⟨i, G1⟩ hj ⟨rfl, t1, t2⟩
        simp only at t1 t2
        have ej : fo (fun i s => if U.testBit i = true then s else evR th n m d (u1 o k i) (k + 1) (U ||| 2 ^ i) s) (j + 1) s = (if U.testBit j = true then (fo (fun i s => if U.testBit i = true then s else evR th n m d (u1 o k i) (k + 1) (U ||| 2 ^ i) s) j s) else evR th n m d (u1 o k j) (k + 1) (U ||| 2 ^ j) (fo (fun i s => if U.testBit i = true then s else evR th n m d (u1 o k i) (k + 1) (U ||| 2 ^ i) s) j s)) := rfl
        generalize fo (fun i s => if U.testBit i = true then s else evR th n m d (u1 o k i) (k + 1) (U ||| 2 ^ i) s) j s = z at *
        have us := shrAt (s := U) (k := (j : Int)) (by omega) (by omega)
        rw [Int.toNat_natCast] at us
        have g1 := t2.2.1
        by_cases c : U.testBit j = true
        · rw [bI_t c] at us
          refine ⟨(((j + 1 : Nat) : Int), G1), ⟨rfl, t1, by rw [ej, if_pos c]; exact t2⟩, ?_⟩
          show L_X12_puts_70 N (f_X12_puts N fu) (f + 1) 100 (jI k) (jI U) (jI (j : Int)) (hp q G1) = L_X12_puts_70 N (f_X12_puts N fu) f 100 (jI k) (jI U) (jI ((j + 1 : Nat) : Int)) (hp q G1)
          rw [L_X12_puts_70]
          unfold J_X12_puts_86
          simp (maxSteps := 2000000) (disch := first | assumption | omega) only [jI0, iAdd_j, iSub_j, iMul_j, iNeg_j, Option.bind_some, jlt_t, jlt_f, jlt, jle_t, jle_f, jle, jeq_t, jeq_f, jeq, ↓reduceIte, o100, g1, us, Int.natCast_succ]
        · have c' : U.testBit j = false := by simpa using c
          rw [bI_f c] at us
          have nx := hPI.next (by omega) (i := j) (by omega) c'
          have e2 : EvM th n (u1 o k j) (k + 1) z (up G1 112 k j) := by
            obtain ⟨x0, x1, x3, x4, x5, x6⟩ := t2
            refine ⟨by rw [up_ne (by decide)]; exact x0, by rw [up_ne (by decide)]; exact x1, fun i i0 i1 => by rw [up_ne (by decide)]; exact x3 i i0 i1, fun i i0 i1 => ?_, x5.imp id (fun y5 i i0 i1 => by rw [up_ne (by decide)]; exact y5 i i0 i1), x6⟩
            rw [up_eq]
            by_cases y : i = k
            · rw [y, u1_eq, u1_eq]
              refine ⟨rfl, by omega, by omega⟩
            · rw [u1_ne y, u1_ne y]
              exact x4 i i0 (by omega)
          obtain ⟨G2, y1, y2, y3⟩ := ih fu (u1 o k j) (k + 1) (U ||| 2 ^ j) z (up G1 112 k j) (by omega) (by omega) nx e2
          refine ⟨(((j + 1 : Nat) : Int), G2), ⟨rfl, ⟨?_, ?_⟩, ?_⟩, ?_⟩
          · intro a a0 a1 a2
            show G2 a = G a
            rw [y1.1 a a0 a1 a2, up_ne a1]
            exact t1.1 a a0 a1 a2
          · intro i hi
            show G2 100 i = G 100 i
            rw [y1.2 i hi, up_ne (by decide)]
            exact t1.2 i hi
          · rw [ej, if_neg c]
            obtain ⟨x0, x1, x3, x4, x5, x6⟩ := y2
            refine ⟨x0, x1, x3, fun i i0 i1 => ?_, x5, x6⟩
            have := x4 i i0 (by omega)
            rw [u1_ne (show i ≠ k by omega)] at this
            exact this
          · show L_X12_puts_70 N (f_X12_puts N fu) (f + 1) 100 (jI k) (jI U) (jI (j : Int)) (hp q G1) = L_X12_puts_70 N (f_X12_puts N fu) f 100 (jI k) (jI U) (jI ((j + 1 : Nat) : Int)) (hp q G2)
            have sh := shl1 (n := j) (by omega)
            have io : iOr (jI (U : Int)) (jI ((2 ^ j : Nat) : Int)) = jI ((U ||| 2 ^ j : Nat) : Int) := by
              apply ib_ext
              intro i hi
              rw [ib_or, ib_n, ib_n, ib_n, Nat.testBit_or]
              simp [hi]
            rw [Int.natCast_succ k] at y3
            rw [L_X12_puts_70]
            unfold J_X12_puts_86
            simp (maxSteps := 2000000) (disch := first | assumption | omega) only [jI0, iAdd_j, iSub_j, iMul_j, iNeg_j, Option.bind_some, jlt_t, jlt_f, jlt, jle_t, jle_f, jle, jeq_t, jeq_f, jeq, ↓reduceIte, o100, g1, us, s112, sh, io, y3, Int.natCast_succ]
      · rintro f ⟨i, G1⟩ ⟨rfl, t1, t2⟩
        simp only at t1 t2
        have g1 := t2.2.1
        refine ⟨G1, ⟨t1, ?_⟩, ?_⟩
        · simp only [evR]
          exact t2
        · show L_X12_puts_70 N (f_X12_puts N fu) (f + 1) 100 (jI k) (jI U) (jI (n : Int)) (hp q G1) = _
          rw [L_X12_puts_70]
          simp (maxSteps := 2000000) (disch := first | assumption | omega) only [jI0, iAdd_j, iSub_j, iMul_j, iNeg_j, Option.bind_some, jlt_t, jlt_f, jlt, jle_t, jle_f, jle, jeq_t, jeq_f, jeq, ↓reduceIte, o100, g1]
    obtain ⟨G', ⟨x1, x2⟩, x3⟩ := L
    refine ⟨G', x1, x2, ?_⟩
    have g1 := hg.2.1
    rw [f_X12_puts]
    simp (maxSteps := 2000000) (disch := first | assumption | omega) only [jI0, iAdd_j, iSub_j, iMul_j, iNeg_j, Option.bind_some, jlt_t, jlt_f, jlt, jle_t, jle_f, jle, jeq_t, jeq_f, jeq, ↓reduceIte, o100, g1, x3]
/-- where both begin: rod 0 first -/
theorem PI_0 {th : Int → Int} {n : Nat} (n1 : 1 ≤ n) : PI th n (fun _ => 0) 1 1 := by
  have b : ∀ j : Nat, (1 : Nat).testBit j = decide (j = 0) := by
    intro j
    have := Nat.testBit_two_pow (n := 0) (m := j)
    rw [show (2 : Nat) ^ 0 = 1 from rfl] at this
    rw [this]
    exact decide_eq_decide.mpr eq_comm
  have s : ∀ (g : Int → Int) (n : Nat), sm (fun i => if (1 : Nat).testBit i.toNat = true then g i else 0) (n + 1) = g 0 := by
    intro g n
    induction n with
    | zero => simp [sm]
    | succ n ih =>
      rw [sm, ih, b]
      simp
      (try omega)
  obtain ⟨k, rfl⟩ : ∃ k, n = k + 1 := ⟨n - 1, by omega⟩
  refine ⟨Nat.le_refl _, rfl, fun i hi => ⟨Int.le_refl 0, by dsimp only; omega⟩, ?_, ?_, by omega⟩
  · rw [s th k]
    simp [sm]
  · rw [s (fun _ => 1) k]
    rfl
def evA (th : Int → Int) (n m : Nat) : Int × (Int → Int) := evR th n m (n - 1) (fun _ => 0) 1 1 (2147483647, fun _ => 0)
end
