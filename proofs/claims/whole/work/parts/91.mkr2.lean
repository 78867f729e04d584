/-! find: the component tries all strokes -/
theorem sm_z0 {f : Int → Int} : ∀ {n : Nat}, (∀ k : Nat, k < n → 0 ≤ f k) → (sm f n = 0 ↔ ∀ k : Nat, k < n → f k = 0)
  | 0, _ => ⟨fun _ k hk => by omega, fun _ => rfl⟩
  | n + 1, h => by
    have ih := sm_z0 (f := f) (n := n) (fun k hk => h k (by omega))
    have a := h n (by omega)
    have b : 0 ≤ sm f n := by
      have : ∀ m : Nat, m ≤ n → 0 ≤ sm f m := by
        intro m
        induction m with
        | zero => intro _; exact Int.le_refl 0
        | succ m ihm => intro hm; have := ihm (by omega); have := h m (by omega); simp only [sm]; omega
      exact this n (Nat.le_refl n)
    simp only [sm]
    constructor
    · intro e k hk
      by_cases c : k = n
      · subst c; omega
      · exact ih.mp (by omega) k (by omega)
    · intro e
      rw [ih.mpr (fun k hk => e k (by omega)), e n (by omega)]
      omega
/-- a stroke makes the wish -/
def MKs (S R k : Int) (sg : Int → Int → Int) (x : Stk) : Prop := ∀ r s, 0 ≤ r → r < R → 0 ≤ s → s < S → soB S k x r s = !(sg r s == 46)
def MKa (S R k : Int) (sg : Int → Int → Int) (x : Stk) : Prop := R % k = 0 ∧ AGr S R sg k ∧ MKs S R k sg x
noncomputable def fdF (S R k : Int) (sg : Int → Int → Int) (x : Stk) (s : Int × Int × Stk) : Int × Int × Stk := @ite _ (MKa S R k sg x) (Classical.propDecidable _) (s.1 + 1, if s.1 = 0 then (k, x) else s.2) s
theorem fdF_t {S R k : Int} {sg : Int → Int → Int} {x : Stk} {s : Int × Int × Stk} (h : MKa S R k sg x) : fdF S R k sg x s = (s.1 + 1, if s.1 = 0 then (k, x) else s.2) := by unfold fdF; exact if_pos h
theorem fdF_f {S R k : Int} {sg : Int → Int → Int} {x : Stk} {s : Int × Int × Stk} (h : ¬ MKa S R k sg x) : fdF S R k sg x s = s := by unfold fdF; exact if_neg h
theorem msA_0 {S R k : Int} {sg : Int → Int → Int} {x : Stk} (hS : 3 ≤ S ∧ S ≤ 32) (hR : 0 ≤ R) : msA S k x (fun r s => !(sg r s == 46)) (fun r s => sg r s == 46) R.toNat = 0 ↔ MKs S R k sg x := by
  unfold msA
  rw [sm_z0 (f := fun r => msR S k x (fun r s => !(sg r s == 46)) (fun r s => sg r s == 46) r) (fun r _ => (msR_r S k hS x _ _ r).1)]
  have one : ∀ r : Int, msR S k x (fun r s => !(sg r s == 46)) (fun r s => sg r s == 46) r = 0 ↔ ∀ s : Nat, s < S.toNat → soB S k x r s = !(sg r s == 46) := by
    intro r
    unfold msR
    rw [sm_z0 (fun s _ => by split <;> omega)]
    have bb2 : ∀ a b : Bool, ((if ((a && b) || (!a && !b)) = true then (1 : Int) else 0) = 0) ↔ b = !a := by decide
    exact ⟨fun h s hs => (bb2 _ _).mp (h s hs), fun h s hs => (bb2 _ _).mpr (h s hs)⟩
  constructor
  · intro h r s r0 r1 s0 s1
    have := (one _).mp (h r.toNat (by omega)) s.toNat (by omega)
    rw [Int.toNat_of_nonneg r0, Int.toNat_of_nonneg s0] at this
    exact this
  · intro h r hr
    exact (one _).mpr (fun s hs => h r s (by omega) (by omega) (by omega) (by omega))
/-- what is kept of it -/
def MkR (S R : Int) (sg : Int → Int → Int) (M : Int → Int) (s : Int × Int × Stk) : Prop := 0 ≤ s.1 ∧ M 5 = s.1 ∧ (s.1 = 0 → ∀ i, 0 ≤ i → i < 10 → i ≠ 5 → M i = -1) ∧ (s.1 ≠ 0 → (1 ≤ s.2.1 ∧ s.2.1 ≤ 4 ∧ okS S s.2.2) ∧ (M 0 = s.2.1 ∧ M 1 = xkA s.2.2 ∧ M 2 = xkB s.2.2 ∧ M 3 = xkF s.2.2 ∧ M 4 = xkL s.2.2) ∧ ∀ j, 0 ≤ j → j < 4 → (j < s.2.1 → ∃ v, KQ S sg s.2.1 j R v ∧ M (6 + j) = max 0 v) ∧ (s.2.1 ≤ j → M (6 + j) = -1))
/-- what the search doesn't change -/
def Fd0 (S R : Int) (sg : Int → Int → Int) (G : Nat → Int → Int) : Prop := (G 25 9 = S ∧ G 25 10 = R) ∧ G 17 0 = R ∧ (∀ r : Int, 0 ≤ r → r < R → WR S sg r (G 20 r)) ∧ WtC G S R (fun r s => !(sg r s == 46)) (fun r s => sg r s == 46)
def Fd1 (G G' : Nat → Int → Int) : Prop := ∀ a, a ≠ 26 → a ≠ 27 → a ≠ 30 → a ≠ 31 → G' a = G a
theorem Fd0.keep {S R : Int} {sg : Int → Int → Int} {G G' : Nat → Int → Int} (h : Fd0 S R sg G) (k : Fd1 G G') : Fd0 S R sg G' := by
  unfold Fd0 WtC at *
  rw [k 25 (by decide) (by decide) (by decide) (by decide), k 17 (by decide) (by decide) (by decide) (by decide), k 20 (by decide) (by decide) (by decide) (by decide), k 28 (by decide) (by decide) (by decide) (by decide), k 29 (by decide) (by decide) (by decide) (by decide)]
  exact h
section
variable {K1 K2 : (Int → Int) → (Int → Int) → Prop} {q : Nat × Nat × (Nat → Nat)} {G : Nat → Int → Int} {N : Nat}
/-- the kinds of the first stroke that was found -/
theorem oMkK (hN : 10000 ≤ N) {S R k : Int} {sg : Int → Int → Int} (hR : 1 ≤ R ∧ R ≤ 8) (hk : 1 ≤ k ∧ k ≤ 4) (h0 : Fd0 S R sg G) (ag : AGr S R sg k) (x4 : Int) (k10 : Nat → Nat → Int32 → Int32 → Int32 → mH → Option mH) : ∃ G' : Nat → Int → Int, ((∀ a, a ≠ 31 → G' a = G a) ∧ (∀ i, (i < 6 ∨ 6 + k ≤ i) → G' 31 i = G 31 i) ∧ ∀ j, 0 ≤ j → j < k → ∃ v, KQ S sg k j R v ∧ G' 31 (6 + j) = max 0 v) ∧ L_X9_makeWith_60 N k10 N 25 17 (jI k) (jI x4) (jI 0) (hp q G) = J_X9_makeWith_93 N k10 25 17 (jI k) (jI x4) (hp q G') := by
  refine loopG (N := N) (fun f (t : Int × (Nat → Int → Int)) => L_X9_makeWith_60 N k10 f 25 17 (jI k) (jI x4) (jI t.1) (hp q t.2)) (fun n t => t.1 = n ∧ (∀ a, a ≠ 31 → t.2 a = G a) ∧ (∀ i, (i < 6 ∨ 6 + k ≤ i) → t.2 31 i = G 31 i) ∧ ∀ j, 0 ≤ j → j < (n : Int) → ∃ v, KQ S sg k j R v ∧ t.2 31 (6 + j) = max 0 v) k.toNat (R := fun G' => J_X9_makeWith_93 N k10 25 17 (jI k) (jI x4) (hp q G')) (by omega) (s := (0, G)) ⟨rfl, fun _ _ => rfl, fun _ _ => rfl, fun j j0 j1 => by omega⟩ ?_ ?_
  · rintro f n ⟨i, G1⟩ hn ⟨rfl, t1, t2, t3⟩
    dsimp only at t1 t2 t3
    have h1 := h0.keep (G' := G1) (fun a _ _ _ h => t1 a h)
    obtain ⟨v, v1, v2⟩ := oKow (q := q) hN hR hk (j := (n : Int)) ⟨by omega, by omega⟩ h1.2.1 h1.2.2.1
    have qv : KQ S sg k n R v := by
      rcases v1 with a | ⟨_, b⟩
      · exact a
      · exact absurd b (ag n (by omega) (by omega))
    have vr : -1 ≤ v ∧ v ≤ 5 := by rcases qv with ⟨a, _⟩ | ⟨a, b, _⟩ <;> omega
    refine ⟨(((n + 1 : Nat) : Int), up G1 31 (6 + n) (max 0 v)), ⟨rfl, fun a h => (up_ne h).trans (t1 a h), fun i hi => ?_, fun j j0 j1 => ?_⟩, ?_⟩
    · show up G1 31 (6 + n) (max 0 v) 31 i = G 31 i
      rw [up_eq, u1_ne (by omega)]
      exact t2 i hi
    · show ∃ w, KQ S sg k j R w ∧ up G1 31 (6 + n) (max 0 v) 31 (6 + j) = max 0 w
      rw [up_eq]
      by_cases c : j = n
      · rw [c]
        exact ⟨v, qv, by rw [u1_eq]⟩
      · rw [u1_ne (by omega)]
        exact t3 j j0 (by omega)
    · show L_X9_makeWith_60 N k10 (f + 1) 25 17 (jI k) (jI x4) (jI (n : Int)) (hp q G1) = L_X9_makeWith_60 N k10 f 25 17 (jI k) (jI x4) (jI ((n + 1 : Nat) : Int)) (hp q (up G1 31 (6 + n) (max 0 v)))
      rw [L_X9_makeWith_60]
      simp (maxSteps := 2000000) (disch := first | assumption | omega) only [jI0, iAdd_j, iSub_j, iMul_j, iNeg_j, Option.bind_some, jlt_t, jlt_f, jlt, jle_t, jle_f, jle, jeq_t, jeq_f, jeq, ↓reduceIte, o25, v2, iMax_j, s31, Int.natCast_succ]
  · rintro f ⟨i, G1⟩ ⟨rfl, t1, t2, t3⟩
    dsimp only at t1 t2 t3
    refine ⟨G1, ⟨t1, t2, fun j j0 j1 => t3 j j0 (by omega)⟩, ?_⟩
    show L_X9_makeWith_60 N k10 (f + 1) 25 17 (jI k) (jI x4) (jI (k.toNat : Int)) (hp q G1) = _
    rw [L_X9_makeWith_60]
    simp (maxSteps := 2000000) (disch := first | assumption | omega) only [jI0, iAdd_j, iSub_j, iMul_j, iNeg_j, Option.bind_some, jlt_t, jlt_f, jlt, jle_t, jle_f, jle, jeq_t, jeq_f, jeq, ↓reduceIte]
/-- one stroke tried -/
theorem oMk1 (hN : 10000 ≤ N) {S R k t : Int} {sg : Int → Int → Int} {x : Stk} {s : Int × Int × Stk} (hS : 3 ≤ S ∧ S ≤ 32) (hR : 1 ≤ R ∧ R ≤ 8) (hk : 1 ≤ k ∧ k ≤ 4) (hd : R % k = 0) (ag : AGr S R sg k) (t0 : 0 ≤ t ∧ t < 1024) (hx : okS S x) (h0 : Fd0 S R sg G) (hw : NowC G S R k x) (hr : RowC G S R k x) (hm : MkR S R sg (G 31) s) (hs : s.1 ≤ 100000) (f : Nat) : ∃ G' : Nat → Int → Int, (Fd1 G G' ∧ MkR S R sg (G' 31) (fdF S R k sg x s) ∧ ∀ y, nxS S x = some y → NowC G' S R k y ∧ RowC G' S R k y) ∧ L_X9_makeWith_10 N (f + 1) 25 17 (jI k) (jI 1) (jI t) (hp q G) = L_X9_makeWith_10 N f 25 17 (jI k) (jI (if nxS S x = none then 0 else 1)) (jI (t + 1)) (hp q G') := by
  obtain ⟨v, v1, v2⟩ := oMis (q := q) hN hS hR hk hd hx hw hr h0.2.2.2 (e := 0) (by omega)
  have mr := msA_r S k hS x (fun r s => !(sg r s == 46)) (fun r s => sg r s == 46) R.toNat
  have mz := msA_0 (S := S) (R := R) (k := k) (sg := sg) (x := x) hS (by omega)
  have JJ : ∀ (H : Nat → Int → Int) (c : Int), Fd1 G H → H 31 5 = c → NowC H S R k x → RowC H S R k x → ∃ G' : Nat → Int → Int, (Fd1 G G' ∧ G' 31 = u1 (H 31) 5 (c + 1) ∧ ∀ y, nxS S x = some y → NowC G' S R k y ∧ RowC G' S R k y) ∧ J_X9_makeWith_93 N (L_X9_makeWith_10 N f) 25 17 (jI k) (jI t) (hp q H) = L_X9_makeWith_10 N f 25 17 (jI k) (jI (if nxS S x = none then 0 else 1)) (jI (t + 1)) (hp q G') := by
    intro H c fH hc nH rH
    have n2 : NowC (up H 31 5 (c + 1)) S R k x := by
      unfold NowC at *
      rw [up_ne (show (25 : Nat) ≠ 31 by decide), up_ne (show (30 : Nat) ≠ 31 by decide)]
      exact nH
    have r2 : RowC (up H 31 5 (c + 1)) S R k x := rH.ab rfl rfl (up_ne (by decide)) (up_ne (by decide))
    obtain ⟨G', ⟨x1, x2⟩, x3⟩ := oGo (q := q) hN hS hR hk hx n2 r2
    refine ⟨G', ⟨fun a h1 h2 h3 h4 => ?_, ?_, x2⟩, ?_⟩
    · rw [x1 a h1 h2 h3, up_ne h4]
      exact fH a h1 h2 h3 h4
    · rw [x1 31 (by decide) (by decide) (by decide), up_eq]
    · unfold J_X9_makeWith_93
      simp (maxSteps := 2000000) (disch := first | assumption | omega) only [jI0, iAdd_j, iSub_j, iMul_j, iNeg_j, Option.bind_some, jlt_t, jlt_f, jlt, jle_t, jle_f, jle, jeq_t, jeq_f, jeq, ↓reduceIte, o25, l31, hc, s31, x3]
  by_cases c : MKs S R k sg x
  · have m0 := mz.mpr c
    have v0 : v = 0 := by omega
    subst v0
    have mk : MKa S R k sg x := ⟨hd, ag, c⟩
    rw [fdF_t mk]
    obtain ⟨p0, p1, p2, p3⟩ := hm
    by_cases c1 : s.1 = 0
    · rw [if_pos c1]
      have p2' := p2 c1
      have cp1 := hcp (q := q) (G := G) (a0 := 30) (a := 31) (n0 := 5) (n1 := 10) (sp := 0) (dp := 0) (n := 5) (by omega) (by omega) (fun _ => rfl) (fun _ => rfl) (by omega) (by omega) (by omega) (by omega) (by omega) (by omega) (by omega)
      have f1 : Fd1 G (cp G 30 0 31 0 5) := fun a _ _ _ h => cp_ne h
      obtain ⟨G2, ⟨y1, y2, y3⟩, y4⟩ := oMkK (q := q) hN hR hk (h0.keep f1) ag t (L_X9_makeWith_10 N f)
      have row : ∀ i, 0 ≤ i → i < 5 → G2 31 i = G 30 i := fun i i0 i1 => by
        rw [y2 i (by omega), cp_at i0 i1]
      have rowO : ∀ i, (i = 5 ∨ 6 + k ≤ i) → G2 31 i = G 31 i := fun i hi => by
        rw [y2 i (by omega), cp_eq]
        show (if 0 ≤ i ∧ i < 0 + 5 then G 30 (0 + (i - 0)) else G 31 i) = G 31 i
        rw [if_neg (by omega)]
      have fH : Fd1 G G2 := fun a h1 h2 h3 h4 => by rw [y1 a h4]; exact f1 a h1 h2 h3 h4
      have nH : NowC G2 S R k x := by
        unfold NowC at *
        rw [y1 25 (by decide), y1 30 (by decide), cp_ne (by decide), cp_ne (by decide)]
        exact hw
      have rH : RowC G2 S R k x := hr.ab rfl rfl (by rw [y1 26 (by decide), cp_ne (by decide)]) (by rw [y1 27 (by decide), cp_ne (by decide)])
      obtain ⟨G', ⟨z1, z2, z3⟩, z4⟩ := JJ G2 0 fH (by rw [rowO 5 (by omega), p1, c1]) nH rH
      obtain ⟨⟨w1, w2⟩, w3, w4, w5, w6, w7⟩ := hw
      refine ⟨G', ⟨z1, ?_, z3⟩, ?_⟩
      · rw [z2]
        refine ⟨by dsimp only; omega, by rw [u1_eq]; dsimp only; omega, fun h => by dsimp only at h; omega, fun _ => ⟨⟨hk.1, hk.2, hx⟩, ?_, fun j j0 j1 => ⟨fun jk => ?_, fun jk => ?_⟩⟩⟩
        · dsimp only
          rw [u1_ne (by omega), u1_ne (by omega), u1_ne (by omega), u1_ne (by omega), u1_ne (by omega), row 0 (by omega) (by omega), row 1 (by omega) (by omega), row 2 (by omega) (by omega), row 3 (by omega) (by omega), row 4 (by omega) (by omega)]
          exact ⟨w3, w4, w5, w6, w7⟩
        · rw [u1_ne (by omega)]
          exact y3 j j0 jk
        · dsimp only at jk
          rw [u1_ne (by omega), rowO _ (by omega)]
          exact p2' (6 + j) (by omega) (by omega) (by omega)
      · rw [L_X9_makeWith_10]
        rw [c1] at p1
        simp (maxSteps := 2000000) (disch := first | assumption | omega) only [jI0, iAdd_j, iSub_j, iMul_j, iNeg_j, Option.bind_some, jlt_t, jlt_f, jlt, jle_t, jle_f, jle, jeq_t, jeq_f, jeq, ↓reduceIte, o25, v2, l31, p1, n30, cp1, y4, z4]
    · rw [if_neg c1]
      obtain ⟨G', ⟨z1, z2, z3⟩, z4⟩ := JJ G s.1 (fun _ _ _ _ _ => rfl) p1 hw hr
      refine ⟨G', ⟨z1, ?_, z3⟩, ?_⟩
      · rw [z2]
        obtain ⟨q1, q2, q3⟩ := p3 c1
        refine ⟨by dsimp only; omega, by rw [u1_eq], fun h => by dsimp only at h; omega, fun _ => ⟨q1, ?_, fun j j0 j1 => ?_⟩⟩
        · rw [u1_ne (by omega), u1_ne (by omega), u1_ne (by omega), u1_ne (by omega), u1_ne (by omega)]
          exact q2
        · rw [u1_ne (by omega)]
          exact q3 j j0 j1
      · rw [L_X9_makeWith_10]
        simp (maxSteps := 2000000) (disch := first | assumption | omega) only [jI0, iAdd_j, iSub_j, iMul_j, iNeg_j, Option.bind_some, jlt_t, jlt_f, jlt, jle_t, jle_f, jle, jeq_t, jeq_f, jeq, ↓reduceIte, o25, v2, l31, p1, z4]
  · have m0 : ¬ msA S k x (fun r s => !(sg r s == 46)) (fun r s => sg r s == 46) R.toNat = 0 := fun h => c (mz.mp h)
    have nk : ¬ MKa S R k sg x := fun h => c h.2.2
    rw [fdF_f nk]
    have v0 : v ≠ 0 := by omega
    obtain ⟨G', ⟨x1, x2⟩, x3⟩ := oGo (q := q) hN hS hR hk hx hw hr
    refine ⟨G', ⟨fun a h1 h2 h3 _ => x1 a h1 h2 h3, by rw [x1 31 (by decide) (by decide) (by decide)]; exact hm, x2⟩, ?_⟩
    rw [L_X9_makeWith_10]
    simp (maxSteps := 2000000) (disch := first | assumption | omega) only [jI0, iAdd_j, iSub_j, iMul_j, iNeg_j, Option.bind_some, jlt_t, jlt_f, jlt, jle_t, jle_f, jle, jeq_t, jeq_f, jeq, ↓reduceIte, o25, v2, x3]
theorem fdF_le {S R k : Int} {sg : Int → Int → Int} {x : Stk} {s : Int × Int × Stk} : s.1 ≤ (fdF S R k sg x s).1 ∧ (fdF S R k sg x s).1 ≤ s.1 + 1 := by
  by_cases h : MKa S R k sg x
  · rw [fdF_t h]; dsimp only; omega
  · rw [fdF_f h]; omega
theorem oMkS (hN : 10000 ≤ N) {S R k : Int} {sg : Int → Int → Int} (hS : 3 ≤ S ∧ S ≤ 32) (hR : 1 ≤ R ∧ R ≤ 8) (hk : 1 ≤ k ∧ k ≤ 4) (hd : R % k = 0) (ag : AGr S R sg k) : ∀ (d f : Nat) (t : Int) (x : Stk) (s : Int × Int × Stk) (G : Nat → Int → Int), rmS S x = d → d + 1 < f → 0 ≤ t → t + d ≤ 1023 → okS S x → Fd0 S R sg G → NowC G S R k x → RowC G S R k x → MkR S R sg (G 31) s → s.1 ≤ 100000 - d → ∃ G' : Nat → Int → Int, (Fd1 G G' ∧ MkR S R sg (G' 31) (sgo S (fdF S R k sg) (d + 1) x s) ∧ (sgo S (fdF S R k sg) (d + 1) x s).1 ≤ s.1 + d + 1) ∧ L_X9_makeWith_10 N f 25 17 (jI k) (jI 1) (jI t) (hp q G) = some (hp q G') := by
  intro d
  induction d with
  | zero =>
    intro f t x s G hrm hf t0 t1 hx h0 hw hr hm hs
    obtain ⟨f, rfl⟩ : ∃ y, f = y + 1 + 1 := ⟨f - 2, by omega⟩
    have en : nxS S x = none := by
      cases e : nxS S x with
      | none => rfl
      | some y =>
        have := rmS_n hS.1 hx e
        have := rmS_0 hS.1 (nxS_ok hS.1 hx e)
        omega
    obtain ⟨G', ⟨z1, z2, z3⟩, z4⟩ := oMk1 (q := q) hN hS hR hk hd ag (t := t) (by omega) hx h0 hw hr hm (by omega) (f + 1)
    rw [en, if_pos rfl] at z4
    have es : sgo S (fdF S R k sg) (0 + 1) x s = fdF S R k sg x s := by simp only [sgo, en]
    have le := fdF_le (S := S) (R := R) (k := k) (sg := sg) (x := x) (s := s)
    rw [es]
    refine ⟨G', ⟨z1, z2, by omega⟩, ?_⟩
    rw [z4, L_X9_makeWith_10]
    by_cases c : t + 1 < 1024 <;> simp (maxSteps := 2000000) (disch := first | assumption | omega) only [jI0, iAdd_j, iSub_j, iMul_j, iNeg_j, Option.bind_some, jlt_t, jlt_f, jlt, jle_t, jle_f, jle, jeq_t, jeq_f, jeq, ↓reduceIte]
  | succ d ih =>
    intro f t x s G hrm hf t0 t1 hx h0 hw hr hm hs
    obtain ⟨f, rfl⟩ : ∃ y, f = y + 1 := ⟨f - 1, by omega⟩
    obtain ⟨y, en⟩ : ∃ y, nxS S x = some y := by
      cases e : nxS S x with
      | none => have := rmS_e hx e; omega
      | some y => exact ⟨y, rfl⟩
    have ry := rmS_n hS.1 hx en
    obtain ⟨G1, ⟨z1, z2, z3⟩, z4⟩ := oMk1 (q := q) hN hS hR hk hd ag (t := t) (by omega) hx h0 hw hr hm (by omega) f
    rw [en, if_neg (fun h => by cases h)] at z4
    have le := fdF_le (S := S) (R := R) (k := k) (sg := sg) (x := x) (s := s)
    obtain ⟨G2, ⟨u1', u2, u3⟩, u4⟩ := ih f (t + 1) y (fdF S R k sg x s) G1 (by omega) (by omega) (by omega) (by omega) (nxS_ok hS.1 hx en) (h0.keep z1) (z3 y en).1 (z3 y en).2 z2 (by omega)
    have es : sgo S (fdF S R k sg) (d + 1 + 1) x s = sgo S (fdF S R k sg) (d + 1) y (fdF S R k sg x s) := by
      rw [sgo, en]
    rw [es]
    refine ⟨G2, ⟨fun a h1 h2 h3 h4 => (u1' a h1 h2 h3 h4).trans (z1 a h1 h2 h3 h4), u2, by omega⟩, ?_⟩
    rw [z4]
    exact u4
end
