/-! bowl: the component's trial: what it costs some row of leans can make -/
/-- a row of leans of b + 1 bands that ends with l, its width, its cost -/
def trl (A U : Int → Int) (row d : Int) (c : Nat) (l w v : Int) : Prop := ∃ s : Int → Int, fe d s (c + 1) ∧ s c = l ∧ bW A s (c + 1) = w ∧ bP A U row s (c + 1) = v
section
variable {q : Nat × Nat × (Nat → Nat)} {G : Nat → Int → Int} {N : Nat} {A U : Int → Int} {row d : Int} {n : Nat}
theorem trl_r (hB : BN A U row d n) {c : Nat} (hc : c < n) {l w v : Int} (h : trl A U row d c l w v) : (1 ≤ w ∧ w ≤ mo A (c + 1)) ∧ 0 ≤ v ∧ v ≤ 100000 := by
  obtain ⟨s, f1, f2, f3, f4⟩ := h
  have r := bP_r (s := s) hB (c + 1) (by omega) f1
  have n8 := hB.2.1
  rw [← f3, ← f4]
  exact ⟨r.2.1, by omega, by omega⟩
theorem trl_u (hB : BN A U row d n) {c : Nat} (hc : c + 1 < n) {k w v l : Int} (h : trl A U row d c k w v) (l0 : 0 ≤ l) (l1 : l ≤ 18) (ln : l - k ≤ d ∧ k - l ≤ d) : trl A U row d (c + 1) l (wB (roF A) w l ((c + 1 : Nat) : Int)) (v + ((wB (roF A) w l ((c + 1 : Nat) : Int) - wiF U row ((c + 1 : Nat) : Int)).natAbs : Int)) := by
  obtain ⟨s, f1, f2, f3, f4⟩ := h
  have ah' : ah s (c + 1) = k := f2
  refine ⟨u1 s ((c + 1 : Nat) : Int) l, fe_u f1 l0 l1 ?_, u1_eq, ?_, ?_⟩
  · rw [ah']
    exact decide_eq_true (.inr ln)
  · rw [bW_u, f3]
  · rw [bP_u, f3, f4]
    rfl
theorem oWidthT (h : BT A U row d n G) (hN : BN A U row d n) {b : Nat} (hb : b < n) {w l : Int} (w0 : 1 ≤ w) (w1 : w ≤ mo A b) (l0 : 0 ≤ l) (l1 : l ≤ 18) : f_X1_widthBy N 82 (jI w) (jI l) (jI (b : Int)) (hp q G) = some (jI (wB (roF A) w l b), hp q G) := by
  have n8 := hN.2.1
  have f := (h.2 b hb).1
  have x := wB_r hN hb w0 w1 l0 l1
  have m := mo_r hN b (by omega)
  unfold f_X1_widthBy wB
  simp (maxSteps := 2000000) (disch := first | assumption | omega) only [jI0, iAdd_j, iSub_j, iMul_j, iNeg_j, Option.bind_some, jlt_t, jlt_f, jlt, jle_t, jle_f, jle, jeq_t, jeq_f, jeq, ↓reduceIte, o82, l83, f, iMax_j]
theorem oTry (h : BT A U row d n G) (hB : BN A U row d n) (hN : 10000 ≤ N) {b c : Nat} (hc : b = c + 1) (hb : b < n) (T : ∀ l : Int, 0 ≤ l → l ≤ 18 → trl A U row d c l (G 89 l) (G 90 l)) {l : Int} (l0 : 0 ≤ l) (l1 : l ≤ 18) : ∃ G' : Nat → Int → Int, ((∀ a, a ≠ 91 → a ≠ 92 → G' a = G a) ∧ (∀ i : Int, i ≠ l → G' 91 i = G 91 i ∧ G' 92 i = G 92 i) ∧ trl A U row d b l (G' 91 l) (G' 92 l)) ∧ f_X1_tryLean N 82 (jI (b : Int)) (jI l) (hp q G) = some (hp q G') := by
  have n8 := hB.2.1
  have hd := hB.2.2.2.2.2.2
  obtain ⟨mm, hmm⟩ : ∃ mm, mm = min 18 (l + d) := ⟨_, rfl⟩
  obtain ⟨mx, hmx⟩ : ∃ mx, mx = max 0 (l - d) := ⟨_, rfl⟩
  have m1 : 0 ≤ mm ∧ mm ≤ 18 ∧ mm ≤ l + d ∧ (mm = 18 ∨ mm = l + d) := by omega
  have m2 : 0 ≤ mx ∧ mx ≤ 18 ∧ l - d ≤ mx ∧ (mx = 0 ∨ mx = l - d) := by omega
  have LL : ∀ (k f : Nat) (x v : Int) (H : Nat → Int → Int), x + k = mm + 1 → mx ≤ x → k < f → (∀ a, a ≠ 91 → a ≠ 92 → H a = G a) → (∀ i : Int, i ≠ l → H 91 i = G 91 i ∧ H 92 i = G 92 i) → ((x = mx ∧ v = 2147483647) ∨ (trl A U row d b l (H 91 l) (H 92 l) ∧ v = H 92 l)) → ∃ G' : Nat → Int → Int, ((∀ a, a ≠ 91 → a ≠ 92 → G' a = G a) ∧ (∀ i : Int, i ≠ l → G' 91 i = G 91 i ∧ G' 92 i = G 92 i) ∧ trl A U row d b l (G' 91 l) (G' 92 l)) ∧ L_X1_tryLean_15 N f 82 (jI (b : Int)) (jI l) (jI v) (jI x) (hp q H) = some (hp q G') := by
    intro k
    induction k with
    | zero =>
      intro f x v H hx x0 hf e1 e2 hv
      obtain ⟨f, rfl⟩ : ∃ y, f = y + 1 := ⟨f - 1, by omega⟩
      have h2 : H 82 2 = d := by rw [e1 82 (by decide) (by decide)]; exact h.1.2.2
      rcases hv with hv | hv
      · exact absurd hv.1 (by omega)
      · refine ⟨H, ⟨e1, e2, hv.1⟩, ?_⟩
        have c1 : mm < x := by omega
        rw [L_X1_tryLean_15]
        simp (maxSteps := 2000000) (disch := first | assumption | omega) only [jI0, iAdd_j, iSub_j, iMul_j, iNeg_j, Option.bind_some, jlt_t, jlt_f, jlt, jle_t, jle_f, jle, jeq_t, jeq_f, jeq, ↓reduceIte, o82, h2, iMin_j, ← hmm, c1]
    | succ k ih =>
      intro f x v H hx x0 hf e1 e2 hv
      obtain ⟨f, rfl⟩ : ∃ y, f = y + 1 := ⟨f - 1, by omega⟩
      have e82 : H 82 = G 82 := e1 82 (by decide) (by decide)
      have h2 : H 82 2 = d := by rw [e82]; exact h.1.2.2
      have hT : BT A U row d n H := h.of (fun i _ => by rw [e82]) (e1 83 (by decide) (by decide)) (e1 84 (by decide) (by decide))
      have t := T x (by omega) (by omega)
      have tr := trl_r hB (by omega) t
      have g89 : H 89 x = G 89 x := by rw [e1 89 (by decide) (by decide)]
      have g90 : H 90 x = G 90 x := by rw [e1 90 (by decide) (by decide)]
      have g84 := (hT.2 b hb).2
      have wb := oWidthT (N := N) hT hB hb (w := G 89 x) (l := l) (q := q) tr.1.1 (by rw [hc]; exact tr.1.2) l0 l1
      have tu := trl_u hB (l := l) (by omega) t l0 l1 ⟨by omega, by omega⟩
      rw [← hc] at tu
      have tur := trl_r hB hb tu
      have mB := mo_r hB (b + 1) (by omega)
      have wr := hB.2.2.2.2.1 b (by omega) (by omega)
      have ab := iAbs_j (a := wB (roF A) (G 89 x) l b - wiF U row b) (by omega) (by omega)
      have c1 : ¬ mm < x := by omega
      have vr : 0 ≤ v ∧ v ≤ 2147483647 := by
        rcases hv with hv | hv
        · omega
        · have := trl_r hB hb hv.1
          omega
      by_cases cl : G 90 x + ((wB (roF A) (G 89 x) l b - wiF U row b).natAbs : Int) < v
      · obtain ⟨G', y1, y2⟩ := ih f (x + 1) (G 90 x + ((wB (roF A) (G 89 x) l b - wiF U row b).natAbs : Int)) (up (up H 91 l (wB (roF A) (G 89 x) l b)) 92 l (G 90 x + ((wB (roF A) (G 89 x) l b - wiF U row b).natAbs : Int))) (by omega) (by omega) (by omega) (fun a h1 h2 => by rw [up_ne h2, up_ne h1]; exact e1 a h1 h2) (fun i hi => by
          rw [up_ne (by decide), up_eq, up_eq, up_ne (by decide), u1_ne hi, u1_ne hi]
          exact e2 i hi) (.inr ⟨by
          rw [up_ne (by decide), up_eq, up_eq, u1_eq, u1_eq]
          exact tu, by rw [up_eq, u1_eq]⟩)
        refine ⟨G', y1, ?_⟩
        rw [L_X1_tryLean_15]
        simp (maxSteps := 2000000) (disch := first | assumption | omega) only [jI0, iAdd_j, iSub_j, iMul_j, iNeg_j, Option.bind_some, jlt_t, jlt_f, jlt, jle_t, jle_f, jle, jeq_t, jeq_f, jeq, ↓reduceIte, o82, h2, iMin_j, ← hmm, c1, l89, g89, wb, l90, g90, l84, g84, ab, cl, s91, s92, y2]
      · obtain ⟨G', y1, y2⟩ := ih f (x + 1) v H (by omega) (by omega) (by omega) e1 e2 (by
          rcases hv with hv | hv
          · omega
          · exact .inr hv)
        refine ⟨G', y1, ?_⟩
        rw [L_X1_tryLean_15]
        simp (maxSteps := 2000000) (disch := first | assumption | omega) only [jI0, iAdd_j, iSub_j, iMul_j, iNeg_j, Option.bind_some, jlt_t, jlt_f, jlt, jle_t, jle_f, jle, jeq_t, jeq_f, jeq, ↓reduceIte, o82, h2, iMin_j, ← hmm, c1, l89, g89, wb, l90, g90, l84, g84, ab, cl, y2]
  obtain ⟨G', y1, y2⟩ := LL (mm + 1 - mx).toNat N mx 2147483647 G (by omega) (Int.le_refl _) (by omega) (fun _ _ _ => rfl) (fun _ _ => ⟨rfl, rfl⟩) (.inl ⟨rfl, rfl⟩)
  refine ⟨G', y1, ?_⟩
  have h2 := h.1.2.2
  unfold f_X1_tryLean
  simp (maxSteps := 2000000) (disch := first | assumption | omega) only [jI0, iAdd_j, iSub_j, iMul_j, iNeg_j, Option.bind_some, jlt_t, jlt_f, jlt, jle_t, jle_f, jle, jeq_t, jeq_f, jeq, ↓reduceIte, o82, h2, iMax_j, ← hmx, y2]
/-- the cost of the trial is that of a row of leans -/
theorem oTrial (h : BT A U row d n G) (hB : BN A U row d n) (hN : 10000 ≤ N) : ∃ (G' : Nat → Int → Int) (bd : Int), ((∀ a, (a < 89 ∨ 92 < a) → G' a = G a) ∧ ∃ s : Int → Int, fe d s n ∧ bP A U row s n = bd) ∧ f_X1_costOfTrial N 82 (hp q G) = some (jI bd, hp q G') := by
  have n8 := hB.2.1
  have hd := hB.2.2.2.2.2.2
  have W := hB.2.2.1
  have ofT : ∀ H : Nat → Int → Int, (∀ a, (a < 89 ∨ 92 < a) → H a = G a) → BT A U row d n H := fun H e => h.of (fun i _ => by rw [e 82 (by omega)]) (e 83 (by omega)) (e 84 (by omega))
  obtain ⟨m, hm⟩ : ∃ m, n = m + 1 := ⟨n - 1, by omega⟩
  -- the least of the last
  have last : ∀ (k f : Nat) (l v : Int) (H : Nat → Int → Int), l + k = 19 → 0 ≤ l → k < f → (∀ l : Int, 0 ≤ l → l ≤ 18 → trl A U row d m l (H 89 l) (H 90 l)) → (∃ y : Int, 0 ≤ y ∧ y ≤ 18 ∧ v = H 90 y) → ∃ y : Int, (0 ≤ y ∧ y ≤ 18) ∧ L_X1_costOfTrial_127 N f 82 (jI v) (jI l) (hp q H) = some (jI (H 90 y), hp q H) := by
    intro k
    induction k with
    | zero =>
      intro f l v H hl l0 hf T hv
      obtain ⟨f, rfl⟩ : ∃ y, f = y + 1 := ⟨f - 1, by omega⟩
      obtain ⟨y, y0, y1, y2⟩ := hv
      refine ⟨y, ⟨y0, y1⟩, ?_⟩
      have c : ¬ l < 19 := by omega
      rw [L_X1_costOfTrial_127, y2]
      simp (maxSteps := 2000000) (disch := first | assumption | omega) only [jI0, iAdd_j, iSub_j, iMul_j, iNeg_j, Option.bind_some, jlt_t, jlt_f, jlt, jle_t, jle_f, jle, jeq_t, jeq_f, jeq, ↓reduceIte, c]
    | succ k ih =>
      intro f l v H hl l0 hf T hv
      obtain ⟨f, rfl⟩ : ∃ y, f = y + 1 := ⟨f - 1, by omega⟩
      obtain ⟨y, y0, y1, y2⟩ := hv
      have t1 := trl_r hB (by omega) (T y y0 y1)
      have t2 := trl_r hB (by omega) (T l l0 (by omega))
      have c : l < 19 := by omega
      obtain ⟨z, z1, z2⟩ := ih f (l + 1) (min v (H 90 l)) H (by omega) (by omega) (by omega) T (by
        by_cases cc : v ≤ H 90 l
        · rw [Int.min_eq_left cc]; exact ⟨y, y0, y1, y2⟩
        · rw [Int.min_eq_right (by omega)]; exact ⟨l, l0, by omega, rfl⟩)
      refine ⟨z, z1, ?_⟩
      rw [L_X1_costOfTrial_127]
      simp (maxSteps := 2000000) (disch := first | assumption | omega) only [jI0, iAdd_j, iSub_j, iMul_j, iNeg_j, Option.bind_some, jlt_t, jlt_f, jlt, jle_t, jle_f, jle, jeq_t, jeq_f, jeq, ↓reduceIte, c, o82, l90, iMin_j, z2]
  -- a band's leans
  have band : ∀ (kk : Nat → Int32 → mH → Option (Int32 × mH)) (b c : Nat), b = c + 1 → b < n → ∀ (k f : Nat) (l : Int) (H : Nat → Int → Int), l + k = 19 → 0 ≤ l → k < f → (∀ a, (a < 89 ∨ 92 < a) → H a = G a) → (∀ l : Int, 0 ≤ l → l ≤ 18 → trl A U row d c l (H 89 l) (H 90 l)) → (∀ x : Int, 0 ≤ x → x < l → trl A U row d b x (H 91 x) (H 92 x)) → ∃ G' : Nat → Int → Int, ((∀ a, (a < 89 ∨ 92 < a) → G' a = G a) ∧ (∀ l : Int, 0 ≤ l → l ≤ 18 → trl A U row d b l (G' 89 l) (G' 90 l))) ∧ L_X1_costOfTrial_64 N kk f 82 (jI (b : Int)) (jI l) (hp q H) = kk 82 (jI ((b : Int) + 1)) (hp q G') := by
    intro kk b c hc hb k
    induction k with
    | zero =>
      intro f l H hl l0 hf e T T2
      obtain ⟨f, rfl⟩ : ∃ y, f = y + 1 := ⟨f - 1, by omega⟩
      have c1 : ¬ l < 19 := by omega
      have k1 := hcp (q := q) (G := H) (a0 := 91) (a := 89) (n0 := 19) (n1 := 19) (sp := 0) (dp := 0) (n := 19) (by decide) (by decide) (fun _ => rfl) (fun _ => rfl) (by decide) (by decide) (by decide) (by decide) (by decide) (by decide) (by decide)
      have k2 := hcp (q := q) (G := cp H 91 0 89 0 19) (a0 := 92) (a := 90) (n0 := 19) (n1 := 19) (sp := 0) (dp := 0) (n := 19) (by decide) (by decide) (fun _ => rfl) (fun _ => rfl) (by decide) (by decide) (by decide) (by decide) (by decide) (by decide) (by decide)
      refine ⟨cp (cp H 91 0 89 0 19) 92 0 90 0 19, ⟨fun a ha => by rw [cp_ne (by omega), cp_ne (by omega)]; exact e a ha, fun x x0 x1 => ?_⟩, ?_⟩
      · rw [cp_ne (by decide), cp_at x0 (by omega), cp_at x0 (by omega), cp_ne (by decide)]
        exact T2 x x0 (by omega)
      · rw [L_X1_costOfTrial_64]
        simp (maxSteps := 2000000) (disch := first | assumption | omega) only [jI0, iAdd_j, iSub_j, iMul_j, iNeg_j, Option.bind_some, jlt_t, jlt_f, jlt, jle_t, jle_f, jle, jeq_t, jeq_f, jeq, ↓reduceIte, c1, o82, k1, k2]
    | succ k ih =>
      intro f l H hl l0 hf e T T2
      obtain ⟨f, rfl⟩ : ∃ y, f = y + 1 := ⟨f - 1, by omega⟩
      have c1 : l < 19 := by omega
      obtain ⟨G1, ⟨y1, y2, y3⟩, y4⟩ := oTry (N := N) (q := q) (ofT H e) hB hN hc hb T l0 (show l ≤ 18 by omega)
      obtain ⟨G', z1, z2⟩ := ih f (l + 1) G1 (by omega) (by omega) (by omega) (fun a ha => by rw [y1 a (by omega) (by omega)]; exact e a ha) (fun x x0 x1 => by rw [y1 89 (by decide) (by decide), y1 90 (by decide) (by decide)]; exact T x x0 x1) (fun x x0 x1 => by
        by_cases cx : x = l
        · rw [cx]; exact y3
        · rw [(y2 x cx).1, (y2 x cx).2]
          exact T2 x x0 (by omega))
      refine ⟨G', z1, ?_⟩
      rw [L_X1_costOfTrial_64]
      simp (maxSteps := 2000000) (disch := first | assumption | omega) only [jI0, iAdd_j, iSub_j, iMul_j, iNeg_j, Option.bind_some, jlt_t, jlt_f, jlt, jle_t, jle_f, jle, jeq_t, jeq_f, jeq, ↓reduceIte, c1, o82, y4, z2]
  -- all bands
  have bands : ∀ (k f b c : Nat) (H : Nat → Int → Int), b + k = n → b = c + 1 → k < f → (∀ a, (a < 89 ∨ 92 < a) → H a = G a) → (∀ l : Int, 0 ≤ l → l ≤ 18 → trl A U row d c l (H 89 l) (H 90 l)) → ∃ (G' : Nat → Int → Int) (bd : Int), ((∀ a, (a < 89 ∨ 92 < a) → G' a = G a) ∧ ∃ s : Int → Int, fe d s n ∧ bP A U row s n = bd) ∧ L_X1_costOfTrial_54 N f 82 (jI (b : Int)) (hp q H) = some (jI bd, hp q G') := by
    intro k
    induction k with
    | zero =>
      intro f b c H hb hc hf e T
      obtain ⟨f, rfl⟩ : ∃ y, f = y + 1 := ⟨f - 1, by omega⟩
      have ec : c = m := by omega
      rw [ec] at T
      obtain ⟨y, y0, y1⟩ := last 18 N 1 (H 90 0) H (by omega) (by omega) (by omega) T ⟨0, by omega, by omega, rfl⟩
      obtain ⟨s, f1, f2, f3, f4⟩ := T y y0.1 y0.2
      rw [← hm] at f1 f4
      refine ⟨H, H 90 y, ⟨e, s, f1, f4⟩, ?_⟩
      have h0 : H 82 0 = n := by rw [e 82 (by omega)]; exact h.1.1
      have c1 : ¬ (b : Int) < n := by omega
      rw [L_X1_costOfTrial_54]
      simp (maxSteps := 2000000) (disch := first | assumption | omega) only [jI0, iAdd_j, iSub_j, iMul_j, iNeg_j, Option.bind_some, jlt_t, jlt_f, jlt, jle_t, jle_f, jle, jeq_t, jeq_f, jeq, ↓reduceIte, o82, h0, c1, l90, y1]
    | succ k ih =>
      intro f b c H hb hc hf e T
      obtain ⟨f, rfl⟩ : ∃ y, f = y + 1 := ⟨f - 1, by omega⟩
      obtain ⟨G1, ⟨y1, y2⟩, y3⟩ := band (L_X1_costOfTrial_54 N f) b c hc (by omega) 19 N 0 H (by omega) (by omega) (by omega) e T (fun x x0 x1 => absurd x1 (by omega))
      obtain ⟨G', bd, z1, z2⟩ := ih f (b + 1) b G1 (by omega) rfl (by omega) y1 y2
      rw [Int.natCast_succ] at z2
      rw [z2] at y3
      refine ⟨G', bd, z1, ?_⟩
      have h0 : H 82 0 = n := by rw [e 82 (by omega)]; exact h.1.1
      have c1 : (b : Int) < n := by omega
      rw [L_X1_costOfTrial_54]
      simp (maxSteps := 2000000) (disch := first | assumption | omega) only [jI0, iAdd_j, iSub_j, iMul_j, iNeg_j, Option.bind_some, jlt_t, jlt_f, jlt, jle_t, jle_f, jle, jeq_t, jeq_f, jeq, ↓reduceIte, o82, h0, c1, y3]
  -- the first band
  have first : ∀ (k f : Nat) (l : Int) (H : Nat → Int → Int), l + k = 19 → 0 ≤ l → k < f → (∀ a, (a < 89 ∨ 92 < a) → H a = G a) → (∀ x : Int, 0 ≤ x → x < l → trl A U row d 0 x (H 89 x) (H 90 x)) → ∃ (G' : Nat → Int → Int) (bd : Int), ((∀ a, (a < 89 ∨ 92 < a) → G' a = G a) ∧ ∃ s : Int → Int, fe d s n ∧ bP A U row s n = bd) ∧ L_X1_costOfTrial_2 N f 82 (jI l) (hp q H) = some (jI bd, hp q G') := by
    intro k
    induction k with
    | zero =>
      intro f l H hl l0 hf e T
      obtain ⟨f, rfl⟩ : ∃ y, f = y + 1 := ⟨f - 1, by omega⟩
      have c1 : ¬ l < 19 := by omega
      obtain ⟨G', bd, z1, z2⟩ := bands (n - 1) N 1 0 H (by omega) rfl (by omega) e (fun x x0 x1 => T x x0 (by omega))
      refine ⟨G', bd, z1, ?_⟩
      rw [show ((1 : Nat) : Int) = 1 from rfl] at z2
      rw [L_X1_costOfTrial_2]
      simp (maxSteps := 2000000) (disch := first | assumption | omega) only [jI0, iAdd_j, iSub_j, iMul_j, iNeg_j, Option.bind_some, jlt_t, jlt_f, jlt, jle_t, jle_f, jle, jeq_t, jeq_f, jeq, ↓reduceIte, c1, z2]
    | succ k ih =>
      intro f l H hl l0 hf e T
      obtain ⟨f, rfl⟩ : ∃ y, f = y + 1 := ⟨f - 1, by omega⟩
      have c1 : l < 19 := by omega
      have hT := ofT H e
      have wb := oWidthT (N := N) (q := q) hT hB (b := 0) (by omega) (w := A 141) (l := l) W.1 (Int.le_refl _) l0 (by omega)
      rw [show ((0 : Nat) : Int) = 0 from rfl] at wb
      have f0 : fe d (fun _ => 0) 0 := fun j hj => absurd hj (by omega)
      have tu : trl A U row d 0 l (wB (roF A) (A 141) l 0) (((wB (roF A) (A 141) l 0 - wiF U row 0).natAbs : Int)) := by
        refine ⟨u1 (fun _ => 0) ((0 : Nat) : Int) l, fe_u f0 l0 (by omega) (decide_eq_true (.inl rfl)), u1_eq, ?_, ?_⟩
        · rw [bW_u]
          rfl
        · rw [bP_u]
          show (0 : Int) + _ = _
          rw [Int.zero_add]
          rfl
      have tr := trl_r hB (by omega) tu
      have mB := mo_r hB (0 + 1) (by omega)
      have wr := hB.2.2.2.2.1 0 (by omega) (by omega)
      have ab := iAbs_j (a := wB (roF A) (A 141) l 0 - wiF U row 0) (by omega) (by omega)
      have h1 : H 82 1 = A 141 := hT.1.2.1
      have g84 : H 84 0 = wiF U row 0 := (hT.2 0 (by omega)).2
      obtain ⟨G', bd, z1, z2⟩ := ih f (l + 1) (up (up H 89 l (wB (roF A) (A 141) l 0)) 90 l ((wB (roF A) (A 141) l 0 - wiF U row 0).natAbs : Int)) (by omega) (by omega) (by omega) (fun a ha => by rw [up_ne (by omega), up_ne (by omega)]; exact e a ha) (fun x x0 x1 => by
        rw [up_ne (by decide), up_eq, up_eq, up_ne (by decide)]
        by_cases cx : x = l
        · rw [cx, u1_eq, u1_eq]; exact tu
        · rw [u1_ne cx, u1_ne cx]
          exact T x x0 (by omega))
      refine ⟨G', bd, z1, ?_⟩
      have g89 : up H 89 l (wB (roF A) (A 141) l 0) 89 l = wB (roF A) (A 141) l 0 := by rw [up_eq, u1_eq]
      have g84' : up H 89 l (wB (roF A) (A 141) l 0) 84 0 = wiF U row 0 := by rw [up_ne (by decide)]; exact g84
      rw [L_X1_costOfTrial_2]
      simp (maxSteps := 2000000) (disch := first | assumption | omega) only [jI0, iAdd_j, iSub_j, iMul_j, iNeg_j, Option.bind_some, jlt_t, jlt_f, jlt, jle_t, jle_f, jle, jeq_t, jeq_f, jeq, ↓reduceIte, c1, o82, h1, wb, s89, l89, g89, l84, g84', ab, s90, z2]
  obtain ⟨G', bd, z1, z2⟩ := first 19 N 0 G (by omega) (by omega) (by omega) (fun _ _ => rfl) (fun x x0 x1 => absurd x1 (by omega))
  exact ⟨G', bd, z1, by unfold f_X1_costOfTrial; exact z2⟩
end
