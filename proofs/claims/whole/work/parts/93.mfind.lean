/-! find: the model's side -/
def KG (P : Int → Int → Prop) (sg : Int → Int → Int) (v : Int) : Prop := (v = -1 ∧ ∀ r s, P r s → sg r s = 46) ∨ (0 ≤ v ∧ v ≤ 5 ∧ (∃ r s, P r s ∧ sg r s = 48 + v) ∧ ∀ r s, P r s → sg r s = 46 ∨ sg r s = 48 + v)
def Pw (S k j R r s a b : Int) : Prop := inW S k j R a b ∧ (a < r ∨ (a = r ∧ b < s))
theorem KG.same {P P' : Int → Int → Prop} {sg : Int → Int → Int} {v : Int} (g : KG P sg v) (h : ∀ a b, P a b ↔ P' a b) : KG P' sg v := by
  have : P = P' := funext fun a => funext fun b => propext (h a b)
  rw [← this]; exact g
theorem Pw_other {S k j R r s : Int} (h : j ≠ r % k) (a b : Int) : Pw S k j R r s a b ↔ Pw S k j R r (s + 1) a b := by
  unfold Pw inW
  constructor
  · rintro ⟨⟨x, y, z⟩, w⟩
    exact ⟨⟨x, y, z⟩, by omega⟩
  · rintro ⟨⟨x, y, z⟩, w⟩
    refine ⟨⟨x, y, z⟩, ?_⟩
    rcases w with w | ⟨w, w2⟩
    · exact .inl w
    · subst w; exact absurd z.symm h
theorem Pw_here {S k R r s : Int} (h : inW S k (r % k) R r s) (a b : Int) : Pw S k (r % k) R r (s + 1) a b ↔ (Pw S k (r % k) R r s a b ∨ (a = r ∧ b = s)) := by
  unfold Pw
  constructor
  · rintro ⟨x, w⟩
    by_cases c : a = r ∧ b = s
    · exact .inr c
    · exact .inl ⟨x, by omega⟩
  · rintro (⟨x, w⟩ | ⟨rfl, rfl⟩)
    · exact ⟨x, by omega⟩
    · exact ⟨h, by omega⟩
theorem Pw_row {S k j R r : Int} (a b : Int) : Pw S k j R r S a b ↔ Pw S k j R (r + 1) 0 a b := by
  unfold Pw inW
  constructor
  · rintro ⟨x, w⟩; exact ⟨x, by omega⟩
  · rintro ⟨x, w⟩; exact ⟨x, by omega⟩
theorem Pw_all {S k j R : Int} (a b : Int) : Pw S k j R R 0 a b ↔ inW S k j R a b := by
  unfold Pw inW
  constructor
  · rintro ⟨x, w⟩; exact x
  · intro x; exact ⟨x, by omega⟩
theorem KG.dot {P P' : Int → Int → Prop} {sg : Int → Int → Int} {v r s : Int} (g : KG P sg v) (h : ∀ a b, P' a b ↔ (P a b ∨ (a = r ∧ b = s))) (z : sg r s = 46) : KG P' sg v := by
  rcases g with ⟨a, b⟩ | ⟨a, b, ⟨c, d, e, e2⟩, f⟩
  · refine .inl ⟨a, fun r' s' y => ?_⟩
    rcases (h r' s').mp y with y | ⟨rfl, rfl⟩
    · exact b _ _ y
    · exact z
  · refine .inr ⟨a, b, ⟨c, d, (h _ _).mpr (.inl e), e2⟩, fun r' s' y => ?_⟩
    rcases (h r' s').mp y with y | ⟨rfl, rfl⟩
    · exact f _ _ y
    · exact .inl z
theorem KG.sign {P P' : Int → Int → Prop} {sg : Int → Int → Int} {v r s c : Int} (g : KG P sg v) (h : ∀ a b, P' a b ↔ (P a b ∨ (a = r ∧ b = s))) (z : sg r s = 48 + c) (c0 : 0 ≤ c ∧ c ≤ 5) (e : v = -1 ∨ v = c) : KG P' sg c := by
  refine .inr ⟨c0.1, c0.2, ⟨r, s, (h _ _).mpr (.inr ⟨rfl, rfl⟩), z⟩, fun r' s' y => ?_⟩
  rcases (h r' s').mp y with y | ⟨rfl, rfl⟩
  · rcases g with ⟨a, b⟩ | ⟨a, b, _, f⟩
    · exact .inl (b _ _ y)
    · have := f _ _ y
      omega
  · exact .inr z
theorem KG.clash {P : Int → Int → Prop} {sg : Int → Int → Int} {v : Int} (g : KG P sg v) (n : v ≠ -1) : 0 ≤ v ∧ v ≤ 5 ∧ ∃ a b, P a b ∧ sg a b = 48 + v := by
  rcases g with ⟨a, b⟩ | ⟨a, b, c, f⟩
  · exact absurd a n
  · exact ⟨a, b, c⟩
theorem KG.range {P : Int → Int → Prop} {sg : Int → Int → Int} {v : Int} (g : KG P sg v) : -1 ≤ v ∧ v ≤ 5 := by
  rcases g with ⟨a, b⟩ | ⟨a, b, c, f⟩ <;> omega
section
variable {K1 K2 : (Int → Int) → (Int → Int) → Prop} {q : Nat × Nat × (Nat → Nat)} {G : Nat → Int → Int} {N : Nat}
/-- the stroke that the model tries -/
def NowM (G : Nat → Int → Int) (S k : Int) (x : Stk) : Prop := G 102 0 = S ∧ G 100 17 = k ∧ G 100 18 = xkA x ∧ G 100 19 = xkB x ∧ G 100 20 = xkF x ∧ G 100 21 = xkL x
theorem mSo {S k r s : Int} {x : Stk} (hS : 3 ≤ S ∧ S ≤ 32) (hk : 1 ≤ k ∧ k ≤ 4) (hx : okS S x) (hw : NowM G S k x) (r0 : 0 ≤ r ∧ r ≤ 8) (s0 : 0 ≤ s ∧ s < S) : f_X12_strokeOver N 100 (jI r) (jI s) (hp q G) = some (jI (cI (soB S k x r s = true)), hp q G) := by
  obtain ⟨w0, w1, w2, w3, w4, w5⟩ := hw
  obtain ⟨⟨a1, a2⟩, ⟨b1, b2⟩, ⟨f1, f2⟩, l1, l2⟩ := hx
  have d0 : 0 ≤ r / k := Int.ediv_nonneg (by omega) (by omega)
  have d1 : r / k ≤ r := Int.ediv_le_self _ (by omega)
  have d2 : 0 ≤ r / k * S := Int.mul_nonneg d0 (by omega)
  have d3 : r / k * S ≤ 8 * 32 := Int.mul_le_mul (by omega) (by omega) (by omega) (by omega)
  have j0 := Int.emod_nonneg r (show k ≠ 0 by omega)
  have j1 := Int.emod_lt_of_pos r (show 0 < k by omega)
  have J : ∀ z : Int, -100 ≤ z → z ≤ 100 → J_X12_strokeOver_34 N 100 (jI r) (jI z) (hp q G) = some (jI (cI ((r / k * S + z % S) % (xkA x + xkB x) < xkA x)), hp q G) := by
    intro z z0 z1
    have m0 := Int.emod_nonneg z (show S ≠ 0 by omega)
    have m1 := Int.emod_lt_of_pos z (show 0 < S by omega)
    have n0 := Int.emod_nonneg (r / k * S + z % S) (show xkA x + xkB x ≠ 0 by omega)
    have n1 := Int.emod_lt_of_pos (r / k * S + z % S) (show 0 < xkA x + xkB x by omega)
    unfold J_X12_strokeOver_34
    by_cases c : (r / k * S + z % S) % (xkA x + xkB x) < xkA x
    · have c2 := cI_t c
      simp (maxSteps := 2000000) (disch := first | assumption | omega) only [jI0, iAdd_j, iSub_j, iMul_j, iNeg_j, Option.bind_some, jlt_t, jlt_f, jlt, jle_t, jle_f, jle, jeq_t, jeq_f, jeq, ↓reduceIte, o100, l102, X12_round, w0, w1, w2, w3, iDiv_j, iRem_p, c2]
    · have c2 := cI_f c
      simp (maxSteps := 2000000) (disch := first | assumption | omega) only [jI0, iAdd_j, iSub_j, iMul_j, iNeg_j, Option.bind_some, jlt_t, jlt_f, jlt, jle_t, jle_f, jle, jeq_t, jeq_f, jeq, ↓reduceIte, o100, l102, X12_round, w0, w1, w2, w3, iDiv_j, iRem_p, c2]
  unfold f_X12_strokeOver
  by_cases cl : xkL x = 1
  · have e : cI (soB S k x r s = true) = cI ((r / k * S + (xkF x - r % k - s) % S) % (xkA x + xkB x) < xkA x) := by
      unfold soB; rw [if_pos cl, decide_eq_true_eq]
    have J' := J (xkF x - r % k - s) (by omega) (by omega)
    rw [e]
    simp (maxSteps := 2000000) (disch := first | assumption | omega) only [jI0, iAdd_j, iSub_j, iMul_j, iNeg_j, Option.bind_some, jlt_t, jlt_f, jlt, jle_t, jle_f, jle, jeq_t, jeq_f, jeq, ↓reduceIte, o100, w1, w4, w5, cl, iRem_p, J']
  · have e : cI (soB S k x r s = true) = cI ((r / k * S + (s - xkF x - r % k) % S) % (xkA x + xkB x) < xkA x) := by
      unfold soB; rw [if_neg cl, decide_eq_true_eq]
    have J' := J (s - xkF x - r % k) (by omega) (by omega)
    have cl' : xkL x = 0 := by omega
    rw [e]
    simp (maxSteps := 2000000) (disch := first | assumption | omega) only [jI0, iAdd_j, iSub_j, iMul_j, iNeg_j, Option.bind_some, jlt_t, jlt_f, jlt, jle_t, jle_f, jle, jeq_t, jeq_f, jeq, ↓reduceIte, o100, w1, w4, w5, cl', iRem_p, J']
/-- what the model tries a stroke with -/
def MkI (G : Nat → Int → Int) (S R k : Int) (sg : Int → Int → Int) (x : Stk) (r s : Int) (G1 : Nat → Int → Int) : Prop := (∀ a, a ≠ 107 → G1 a = G a) ∧ (∀ j, 0 ≤ j → j < k → KG (Pw S k j R r s) sg (G1 107 j)) ∧ ∀ a b, 0 ≤ a → 0 ≤ b → b < S → (a < r ∨ (a = r ∧ b < s)) → soB S k x a b = !(sg a b == 46)
def MkT (q : Nat × Nat × (Nat → Nat)) (G : Nat → Int → Int) (S R k : Int) (sg : Int → Int → Int) (x : Stk) (y : Option (Int32 × mH)) : Prop := ∃ G' : Nat → Int → Int, ((∀ a, a ≠ 107 → G' a = G a) ∧ (MKa S R k sg x → ∀ j, 0 ≤ j → j < k → KQ S sg k j R (G' 107 j))) ∧ y = some (jI (cI (MKa S R k sg x)), hp q G')
theorem MkT.no {S R k : Int} {sg : Int → Int → Int} {x : Stk} {G1 : Nat → Int → Int} (h : ∀ a, a ≠ 107 → G1 a = G a) (n : ¬ MKa S R k sg x) : MkT q G S R k sg x (some (jI 0, hp q G1)) := by
  refine ⟨G1, ⟨h, fun m => absurd m n⟩, ?_⟩
  have c := cI_f n
  rw [c]
def SgM (G : Nat → Int → Int) (S R : Int) (sg : Int → Int → Int) : Prop := G 102 0 = S ∧ G 102 143 = R ∧ ∀ r s, 0 ≤ r → r < R → 0 ≤ s → s < S → G 102 (144 + 32 * r + s) = sg r s ∧ (sg r s = 46 ∨ (48 ≤ sg r s ∧ sg r s ≤ 53))
theorem mMk57 {S R k r : Int} {sg : Int → Int → Int} {x : Stk} (hS : 3 ≤ S ∧ S ≤ 32) (hR : 1 ≤ R ∧ R ≤ 8) (hk : 1 ≤ k ∧ k ≤ 4) (hx : okS S x) (hw : NowM G S k x) (hs : SgM G S R sg) (r0 : 0 ≤ r ∧ r < R) (k43 : Nat → Int32 → mH → Option (Int32 × mH)) (hk43 : ∀ G2, MkI G S R k sg x (r + 1) 0 G2 → MkT q G S R k sg x (k43 100 (jI (r + 1)) (hp q G2))) : ∀ (d f s : Nat) (G1 : Nat → Int → Int), (s : Int) + d = S → d < f → MkI G S R k sg x r s G1 → MkT q G S R k sg x (L_X12_makes_57 N k43 f 100 (jI r) (jI s) (hp q G1)) := by
  intro d
  induction d with
  | zero =>
    intro f s G1 hd hf hi
    obtain ⟨f, rfl⟩ : ∃ y, f = y + 1 := ⟨f - 1, by omega⟩
    have e : (s : Int) = S := by omega
    have ee : jI (s : Int) = jI S := by rw [e]
    obtain ⟨i1, i2, i3⟩ : MkI G S R k sg x r S G1 := by rw [e] at hi; exact hi
    have e102 : G1 102 = G 102 := i1 102 (by decide)
    have T := hk43 G1 ⟨i1, fun j j0 j1 => (i2 j j0 j1).same (fun a b => Pw_row a b), fun a b a0 b0 b1 w => i3 a b a0 b0 b1 (by omega)⟩
    have s0 := hs.1
    rw [ee, L_X12_makes_57]
    obtain ⟨G', t1, t2⟩ := T
    refine ⟨G', t1, ?_⟩
    simp (maxSteps := 2000000) (disch := first | assumption | omega) only [jI0, iAdd_j, iSub_j, iMul_j, iNeg_j, Option.bind_some, jlt_t, jlt_f, jlt, jle_t, jle_f, jle, jeq_t, jeq_f, jeq, ↓reduceIte, o100, l102, e102, s0, t2]
  | succ d ih =>
    intro f s G1 hd hf hi
    obtain ⟨f, rfl⟩ : ∃ y, f = y + 1 := ⟨f - 1, by omega⟩
    have hi' := hi
    obtain ⟨i1, i2, i3⟩ := hi
    have e102 : G1 102 = G 102 := i1 102 (by decide)
    have e100 : G1 100 = G 100 := i1 100 (by decide)
    have w1 := hw.2.1
    have s0 := hs.1
    obtain ⟨g1, g2⟩ := hs.2.2 r s r0.1 r0.2 (by omega) (by omega)
    have so := mSo (N := N) (q := q) (G := G1) (r := r) (s := s) hS hk hx (by unfold NowM at *; rw [e102, e100]; exact hw) (by omega) (by omega)
    have j0 := Int.emod_nonneg r (show k ≠ 0 by omega)
    have j1 := Int.emod_lt_of_pos r (show 0 < k by omega)
    have iw : inW S k (r % k) R r s := ⟨⟨r0.1, r0.2⟩, by omega, rfl⟩
    have kg := i2 (r % k) j0 j1
    have kr := kg.range
    have hsn : ((s : Int) + 1) = ((s + 1 : Nat) : Int) := by omega
    rw [L_X12_makes_57]
    by_cases c : soB S k x r s = true
    · have c2 := cI_t c
      rw [c2] at so
      by_cases c3 : sg r s = 46
      · have n : ¬ MKa S R k sg x := fun m => by
          have := m.2.2 r s r0.1 r0.2 (by omega) (by omega)
          rw [c, c3] at this
          exact absurd this (by decide)
        have T : MkT q G S R k sg x (some (jI 0, hp q G1)) := MkT.no i1 n
        obtain ⟨G', t1, t2⟩ := T
        refine ⟨G', t1, ?_⟩
        rw [← t2]
        simp (maxSteps := 2000000) (disch := first | assumption | omega) only [jI0, iAdd_j, iSub_j, iMul_j, iNeg_j, Option.bind_some, jlt_t, jlt_f, jlt, jle_t, jle_f, jle, jeq_t, jeq_f, jeq, ↓reduceIte, o100, l102, e102, s0, g1, so, c3]
      · have c4 : 48 ≤ sg r s ∧ sg r s ≤ 53 := by omega
        have J : (G1 107 (r % k) = -1 ∨ G1 107 (r % k) = sg r s - 48) → MkT q G S R k sg x (J_X12_makes_141 N (L_X12_makes_57 N k43 f) 100 (jI r) (jI s) (jI (sg r s)) (hp q G1)) := by
          intro v
          have T := ih f (s + 1) (up G1 107 (r % k) (sg r s - 48)) (by omega) (by omega) ⟨fun a ha => by rw [up_ne ha]; exact i1 a ha, fun j h0 h1 => ?_, fun a b a0 b0 b1 w => ?_⟩
          · obtain ⟨G', t1, t2⟩ := T
            refine ⟨G', t1, ?_⟩
            rw [← t2]
            unfold J_X12_makes_141
            simp (maxSteps := 2000000) (disch := first | assumption | omega) only [jI0, iAdd_j, iSub_j, iMul_j, iNeg_j, Option.bind_some, jlt_t, jlt_f, jlt, jle_t, jle_f, jle, jeq_t, jeq_f, jeq, ↓reduceIte, o100, e100, w1, iRem_p, s107, hsn]
          · rw [up_eq]
            by_cases cj : j = r % k
            · subst cj
              rw [u1_eq, ← hsn]
              exact kg.sign (Pw_here iw) (by omega) (by omega) v
            · rw [u1_ne cj, ← hsn]
              exact (i2 j h0 h1).same (Pw_other cj)
          · by_cases ce : a = r ∧ b = s
            · obtain ⟨rfl, rfl⟩ := ce
              rw [c]
              simp [c3]
            · exact i3 a b a0 b0 b1 (by omega)
        by_cases v1 : G1 107 (r % k) = -1
        · obtain ⟨G', t1, t2⟩ := J (.inl v1)
          refine ⟨G', t1, ?_⟩
          rw [← t2]
          simp (maxSteps := 2000000) (disch := first | assumption | omega) only [jI0, iAdd_j, iSub_j, iMul_j, iNeg_j, Option.bind_some, jlt_t, jlt_f, jlt, jle_t, jle_f, jle, jeq_t, jeq_f, jeq, ↓reduceIte, o100, l102, e102, e100, w1, s0, g1, so, iRem_p, l107, v1]
        · by_cases v2 : G1 107 (r % k) = sg r s - 48
          · obtain ⟨G', t1, t2⟩ := J (.inr v2)
            refine ⟨G', t1, ?_⟩
            rw [← t2]
            simp (maxSteps := 2000000) (disch := first | assumption | omega) only [jI0, iAdd_j, iSub_j, iMul_j, iNeg_j, Option.bind_some, jlt_t, jlt_f, jlt, jle_t, jle_f, jle, jeq_t, jeq_f, jeq, ↓reduceIte, o100, l102, e102, e100, w1, s0, g1, so, iRem_p, l107, v2]
          · have n : ¬ MKa S R k sg x := fun m => by
              obtain ⟨_, _, a, b, x1, x2⟩ := kg.clash v1
              exact m.2.1 (r % k) j0 j1 ⟨a, b, r, s, x1.1, iw, by omega, by omega, by omega⟩
            have T : MkT q G S R k sg x (some (jI 0, hp q G1)) := MkT.no i1 n
            obtain ⟨G', t1, t2⟩ := T
            refine ⟨G', t1, ?_⟩
            rw [← t2]
            simp (maxSteps := 2000000) (disch := first | assumption | omega) only [jI0, iAdd_j, iSub_j, iMul_j, iNeg_j, Option.bind_some, jlt_t, jlt_f, jlt, jle_t, jle_f, jle, jeq_t, jeq_f, jeq, ↓reduceIte, o100, l102, e102, e100, w1, s0, g1, so, iRem_p, l107]
    · have c2 := cI_f c
      rw [c2] at so
      by_cases c3 : sg r s = 46
      · have T := ih f (s + 1) G1 (by omega) (by omega) ⟨i1, fun j h0 h1 => ?_, fun a b a0 b0 b1 w => ?_⟩
        · obtain ⟨G', t1, t2⟩ := T
          refine ⟨G', t1, ?_⟩
          rw [← t2]
          simp (maxSteps := 2000000) (disch := first | assumption | omega) only [jI0, iAdd_j, iSub_j, iMul_j, iNeg_j, Option.bind_some, jlt_t, jlt_f, jlt, jle_t, jle_f, jle, jeq_t, jeq_f, jeq, ↓reduceIte, o100, l102, e102, s0, g1, so, c3, hsn]
        · by_cases cj : j = r % k
          · subst cj
            rw [← hsn]
            exact kg.dot (Pw_here iw) c3
          · rw [← hsn]
            exact (i2 j h0 h1).same (Pw_other cj)
        · by_cases ce : a = r ∧ b = s
          · obtain ⟨rfl, rfl⟩ := ce
            rw [c3]
            simpa using c
          · exact i3 a b a0 b0 b1 (by omega)
      · have n : ¬ MKa S R k sg x := fun m => by
          have := m.2.2 r s r0.1 r0.2 (by omega) (by omega)
          apply c
          rw [this]
          simp [c3]
        have T : MkT q G S R k sg x (some (jI 0, hp q G1)) := MkT.no i1 n
        obtain ⟨G', t1, t2⟩ := T
        refine ⟨G', t1, ?_⟩
        rw [← t2]
        simp (maxSteps := 2000000) (disch := first | assumption | omega) only [jI0, iAdd_j, iSub_j, iMul_j, iNeg_j, Option.bind_some, jlt_t, jlt_f, jlt, jle_t, jle_f, jle, jeq_t, jeq_f, jeq, ↓reduceIte, o100, l102, e102, s0, g1, so]
theorem mMk43 (hN : 10000 ≤ N) {S R k : Int} {sg : Int → Int → Int} {x : Stk} (hS : 3 ≤ S ∧ S ≤ 32) (hR : 1 ≤ R ∧ R ≤ 8) (hk : 1 ≤ k ∧ k ≤ 4) (hd : R % k = 0) (hx : okS S x) (hw : NowM G S k x) (hs : SgM G S R sg) : ∀ (d f r : Nat) (G1 : Nat → Int → Int), (r : Int) + d = R → d < f → MkI G S R k sg x r 0 G1 → MkT q G S R k sg x (L_X12_makes_43 N f 100 (jI r) (hp q G1)) := by
  intro d
  induction d with
  | zero =>
    intro f r G1 hd' hf hi
    obtain ⟨f, rfl⟩ : ∃ y, f = y + 1 := ⟨f - 1, by omega⟩
    have e : (r : Int) = R := by omega
    have ee : jI (r : Int) = jI R := by rw [e]
    obtain ⟨i1, i2, i3⟩ : MkI G S R k sg x R 0 G1 := by rw [e] at hi; exact hi
    have e102 : G1 102 = G 102 := i1 102 (by decide)
    have s1 := hs.2.1
    have kq : ∀ j, 0 ≤ j → j < k → KQ S sg k j R (G1 107 j) := fun j j0 j1 => (i2 j j0 j1).same (fun a b => Pw_all a b)
    have m : MKa S R k sg x := ⟨hd, fun j j0 j1 => (kq j j0 j1).no, fun a b a0 a1 b0 b1 => i3 a b a0 b0 b1 (.inl a1)⟩
    refine ⟨G1, ⟨i1, fun _ => kq⟩, ?_⟩
    have c := cI_t m
    rw [c, ee, L_X12_makes_43]
    simp (maxSteps := 2000000) (disch := first | assumption | omega) only [jI0, iAdd_j, iSub_j, iMul_j, iNeg_j, Option.bind_some, jlt_t, jlt_f, jlt, jle_t, jle_f, jle, jeq_t, jeq_f, jeq, ↓reduceIte, o100, l102, e102, s1]
  | succ d ih =>
    intro f r G1 hd' hf hi
    obtain ⟨f, rfl⟩ : ∃ y, f = y + 1 := ⟨f - 1, by omega⟩
    have e102 : G1 102 = G 102 := hi.1 102 (by decide)
    have s1 := hs.2.1
    have T := mMk57 (N := N) (q := q) hS hR hk hx hw hs (r := r) (by omega) (L_X12_makes_43 N f) (fun G2 h2 => by
      have := ih f (r + 1) G2 (by omega) (by omega) (by rw [show ((r + 1 : Nat) : Int) = (r : Int) + 1 by omega]; exact h2)
      rw [show ((r + 1 : Nat) : Int) = (r : Int) + 1 by omega] at this
      exact this) S.toNat N 0 G1 (by omega) (by omega) hi
    rw [show ((0 : Nat) : Int) = 0 from rfl] at T
    obtain ⟨G', t1, t2⟩ := T
    refine ⟨G', t1, ?_⟩
    rw [← t2, L_X12_makes_43]
    simp (maxSteps := 2000000) (disch := first | assumption | omega) only [jI0, iAdd_j, iSub_j, iMul_j, iNeg_j, Option.bind_some, jlt_t, jlt_f, jlt, jle_t, jle_f, jle, jeq_t, jeq_f, jeq, ↓reduceIte, o100, l102, e102, s1]
theorem mMk20 (hN : 10000 ≤ N) {S R k : Int} {sg : Int → Int → Int} {x : Stk} (hS : 3 ≤ S ∧ S ≤ 32) (hR : 1 ≤ R ∧ R ≤ 8) (hk : 1 ≤ k ∧ k ≤ 4) (hd : R % k = 0) (hx : okS S x) (hw : NowM G S k x) (hs : SgM G S R sg) : ∀ (d f j : Nat) (G1 : Nat → Int → Int), (j : Int) + d = k → d < f → (∀ a, a ≠ 107 → G1 a = G a) → (∀ i, 0 ≤ i → i < (j : Int) → G1 107 i = -1) → MkT q G S R k sg x (L_X12_makes_20 N f 100 (jI j) (hp q G1)) := by
  intro d
  induction d with
  | zero =>
    intro f j G1 hd' hf h1 h2
    obtain ⟨f, rfl⟩ : ∃ y, f = y + 1 := ⟨f - 1, by omega⟩
    have e : (j : Int) = k := by omega
    have ee : jI (j : Int) = jI k := by rw [e]
    have e100 : G1 100 = G 100 := h1 100 (by decide)
    have w1 := hw.2.1
    have T := mMk43 (q := q) hN hS hR hk hd hx hw hs R.toNat N 0 G1 (by omega) (by omega) ⟨h1, fun i i0 i1 => .inl ⟨h2 i i0 (by omega), fun a b w => ?_⟩, fun a b a0 b0 b1 w => ?_⟩
    · rw [show ((0 : Nat) : Int) = 0 from rfl] at T
      obtain ⟨G', t1, t2⟩ := T
      refine ⟨G', t1, ?_⟩
      rw [← t2, ee, L_X12_makes_20]
      simp (maxSteps := 2000000) (disch := first | assumption | omega) only [jI0, iAdd_j, iSub_j, iMul_j, iNeg_j, Option.bind_some, jlt_t, jlt_f, jlt, jle_t, jle_f, jle, jeq_t, jeq_f, jeq, ↓reduceIte, o100, e100, w1]
    · obtain ⟨⟨⟨w1, _⟩, ⟨w2, _⟩, _⟩, w3⟩ := w
      exact absurd w3 (by omega)
    · exact absurd w (by omega)
  | succ d ih =>
    intro f j G1 hd' hf h1 h2
    obtain ⟨f, rfl⟩ : ∃ y, f = y + 1 := ⟨f - 1, by omega⟩
    have e100 : G1 100 = G 100 := h1 100 (by decide)
    have w1 := hw.2.1
    have T := ih f (j + 1) (up G1 107 j (-1)) (by omega) (by omega) (fun a ha => by rw [up_ne ha]; exact h1 a ha) (fun i i0 i1 => by
      rw [up_eq]
      by_cases c : i = j
      · rw [c, u1_eq]
      · rw [u1_ne c]; exact h2 i i0 (by omega))
    obtain ⟨G', t1, t2⟩ := T
    refine ⟨G', t1, ?_⟩
    rw [← t2, L_X12_makes_20, show ((j + 1 : Nat) : Int) = (j : Int) + 1 by omega]
    simp (maxSteps := 2000000) (disch := first | assumption | omega) only [jI0, iAdd_j, iSub_j, iMul_j, iNeg_j, Option.bind_some, jlt_t, jlt_f, jlt, jle_t, jle_f, jle, jeq_t, jeq_f, jeq, ↓reduceIte, o100, e100, w1, s107]
theorem mMakes (hN : 10000 ≤ N) {S R k : Int} {sg : Int → Int → Int} {x : Stk} (hS : 3 ≤ S ∧ S ≤ 32) (hR : 1 ≤ R ∧ R ≤ 8) (hk : 1 ≤ k ∧ k ≤ 4) (hx : okS S x) (hw : NowM G S k x) (hs : SgM G S R sg) : MkT q G S R k sg x (f_X12_makes N 100 (hp q G)) := by
  have w1 := hw.2.1
  have s1 := hs.2.1
  have j0 := Int.emod_nonneg R (show k ≠ 0 by omega)
  have j1 := Int.emod_lt_of_pos R (show 0 < k by omega)
  by_cases hd : R % k = 0
  · have T := mMk20 (q := q) hN hS hR hk hd hx hw hs k.toNat N 0 G (by omega) (by omega) (fun _ _ => rfl) (fun i i0 i1 => absurd i1 (by omega))
    rw [show ((0 : Nat) : Int) = 0 from rfl] at T
    obtain ⟨G', t1, t2⟩ := T
    refine ⟨G', t1, ?_⟩
    rw [← t2]
    unfold f_X12_makes
    simp (maxSteps := 2000000) (disch := first | assumption | omega) only [jI0, iAdd_j, iSub_j, iMul_j, iNeg_j, Option.bind_some, jlt_t, jlt_f, jlt, jle_t, jle_f, jle, jeq_t, jeq_f, jeq, ↓reduceIte, o100, l102, w1, s1, iRem_p, hd]
  · have T : MkT q G S R k sg x (some (jI 0, hp q G)) := MkT.no (fun _ _ => rfl) (fun m => hd m.1)
    obtain ⟨G', t1, t2⟩ := T
    refine ⟨G', t1, ?_⟩
    rw [← t2]
    unfold f_X12_makes
    simp (maxSteps := 2000000) (disch := first | assumption | omega) only [jI0, iAdd_j, iSub_j, iMul_j, iNeg_j, Option.bind_some, jlt_t, jlt_f, jlt, jle_t, jle_f, jle, jeq_t, jeq_f, jeq, ↓reduceIte, o100, l102, w1, s1, iRem_p]
end
