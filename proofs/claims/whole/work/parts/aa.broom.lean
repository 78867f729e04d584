/-! bowl: the widths that are worth a look; room for them -/
section
variable {q : Nat × Nat × (Nat → Nat)} {G : Nat → Int → Int} {N : Nat} {A U : Int → Int} {row d bd : Int} {n : Nat}
theorem oNarrow (h : BT A U row d n G) (hB : BN A U row d n) (hN : 10000 ≤ N) (hb : G 82 3 = bd) (br : 0 ≤ bd ∧ bd ≤ 100000) (hr : ∀ b : Nat, b < n → (G 85 b = lw A (b + 1) ∧ G 86 b = mo A (b + 1)) ∧ G 87 b = su A U row b) : ∃ G' : Nat → Int → Int, ((∀ a, a ≠ 85 → a ≠ 86 → G' a = G a) ∧ ∀ b : Nat, b < n → G' 85 b = max (lw A (b + 1)) (wiF U row b - (bd - ss A U row n) - su A U row b) ∧ G' 86 b = min (mo A (b + 1)) (wiF U row b + (bd - ss A U row n) + su A U row b)) ∧ f_X1_narrowRanges N 82 (hp q G) = some (hp q G') := by
  have n8 := hB.2.1
  have sr : ∀ b : Nat, b ≤ n → 0 ≤ ss A U row b ∧ ss A U row b ≤ 9998 * b := by
    intro b
    induction b with
    | zero => intro _; rw [ss]; omega
    | succ b ih =>
      intro hb
      have i := ih (by omega)
      have r := su_r hB (show b < n by omega)
      rw [ss]
      omega
  have snr := sr n (Nat.le_refl n)
  have second : ∀ (k f j : Nat) (H : Nat → Int → Int), j + k = n → k < f → (∀ a, a ≠ 85 → a ≠ 86 → H a = G a) → (∀ b : Nat, b < j → H 85 b = max (lw A (b + 1)) (wiF U row b - (bd - ss A U row n) - su A U row b) ∧ H 86 b = min (mo A (b + 1)) (wiF U row b + (bd - ss A U row n) + su A U row b)) → (∀ b : Nat, b < n → j ≤ b → H 85 b = lw A (b + 1) ∧ H 86 b = mo A (b + 1)) → ∃ G' : Nat → Int → Int, ((∀ a, a ≠ 85 → a ≠ 86 → G' a = G a) ∧ ∀ b : Nat, b < n → G' 85 b = max (lw A (b + 1)) (wiF U row b - (bd - ss A U row n) - su A U row b) ∧ G' 86 b = min (mo A (b + 1)) (wiF U row b + (bd - ss A U row n) + su A U row b)) ∧ L_X1_narrowRanges_32 N f 82 (jI (bd - ss A U row n)) (jI (j : Int)) (hp q H) = some (hp q G') := by
    intro k
    induction k with
    | zero =>
      intro f j H hj hf e1 e2 e3
      obtain ⟨f, rfl⟩ : ∃ y, f = y + 1 := ⟨f - 1, by omega⟩
      have h0 : H 82 0 = n := by rw [e1 82 (by decide) (by decide)]; exact h.1.1
      refine ⟨H, ⟨e1, fun b hb => e2 b (by omega)⟩, ?_⟩
      have c : ¬ (j : Int) < n := by omega
      rw [L_X1_narrowRanges_32]
      simp (maxSteps := 2000000) (disch := first | assumption | omega) only [jI0, iAdd_j, iSub_j, iMul_j, iNeg_j, Option.bind_some, jlt_t, jlt_f, jlt, jle_t, jle_f, jle, jeq_t, jeq_f, jeq, ↓reduceIte, o82, h0, c]
    | succ k ih =>
      intro f j H hj hf e1 e2 e3
      obtain ⟨f, rfl⟩ : ∃ y, f = y + 1 := ⟨f - 1, by omega⟩
      have h0 : H 82 0 = n := by rw [e1 82 (by decide) (by decide)]; exact h.1.1
      have e := e3 j (by omega) (Nat.le_refl j)
      have h84 : H 84 j = wiF U row j := by rw [e1 84 (by decide) (by decide)]; exact (h.2 j (by omega)).2
      have h87 : H 87 j = su A U row j := by rw [e1 87 (by decide) (by decide)]; exact (hr j (by omega)).2
      have l1 := lw_1 hB (j + 1) (by omega)
      have m1 := mo_r hB (j + 1) (by omega)
      have sj := su_r hB (show j < n by omega)
      have wr := hB.2.2.2.2.1 j (by omega) (by omega)
      generalize hlo : max (lw A (j + 1)) (wiF U row j - (bd - ss A U row n) - su A U row j) = lo
      generalize hhi : min (mo A (j + 1)) (wiF U row j + (bd - ss A U row n) + su A U row j) = hi
      obtain ⟨G', y1, y2⟩ := ih f (j + 1) (up (up H 85 j lo) 86 j hi) (by omega) (by omega) (fun a h1 h2 => by rw [up_ne h2, up_ne h1]; exact e1 a h1 h2) (fun b hb => by
        rw [up_ne (by decide), up_eq, up_eq, up_ne (by decide)]
        by_cases cb : b = j
        · rw [cb, u1_eq, u1_eq]
          exact ⟨hlo.symm, hhi.symm⟩
        · rw [u1_ne (by omega), u1_ne (by omega)]
          exact e2 b (by omega)) (fun b hb hj' => by
        rw [up_ne (by decide), up_eq, up_eq, up_ne (by decide), u1_ne (by omega), u1_ne (by omega)]
        exact e3 b hb (by omega))
      refine ⟨G', y1, ?_⟩
      rw [Int.natCast_succ] at y2
      have c : (j : Int) < n := by omega
      have ia := iMax_j (a := lw A (j + 1)) (b := wiF U row j - (bd - ss A U row n) - su A U row j) (by omega) (by omega) (by omega) (by omega)
      have ib := iMin_j (a := mo A (j + 1)) (b := wiF U row j + (bd - ss A U row n) + su A U row j) (by omega) (by omega) (by omega) (by omega)
      rw [hlo] at ia
      rw [hhi] at ib
      have x86 : up H 85 j lo 86 j = mo A (j + 1) := by rw [up_ne (by decide)]; exact e.2
      have x84 : up H 85 j lo 84 j = wiF U row j := by rw [up_ne (by decide)]; exact h84
      have x87 : up H 85 j lo 87 j = su A U row j := by rw [up_ne (by decide)]; exact h87
      have ea := e.1
      rw [L_X1_narrowRanges_32]
      simp (maxSteps := 2000000) (disch := first | assumption | omega) only [jI0, iAdd_j, iSub_j, iMul_j, iNeg_j, Option.bind_some, jlt_t, jlt_f, jlt, jle_t, jle_f, jle, jeq_t, jeq_f, jeq, ↓reduceIte, o82, h0, c, l85, ea, l84, h84, l87, h87, ia, s85, l86, x86, x84, x87, ib, s86, y2]
  have firstL : ∀ (k f j : Nat), j + k = n → k < f → ∃ G' : Nat → Int → Int, ((∀ a, a ≠ 85 → a ≠ 86 → G' a = G a) ∧ ∀ b : Nat, b < n → G' 85 b = max (lw A (b + 1)) (wiF U row b - (bd - ss A U row n) - su A U row b) ∧ G' 86 b = min (mo A (b + 1)) (wiF U row b + (bd - ss A U row n) + su A U row b)) ∧ L_X1_narrowRanges_7 N f 82 (jI (bd - ss A U row j)) (jI (j : Int)) (hp q G) = some (hp q G') := by
    intro k
    induction k with
    | zero =>
      intro f j hj hf
      obtain ⟨f, rfl⟩ : ∃ y, f = y + 1 := ⟨f - 1, by omega⟩
      have e : j = n := by omega
      obtain ⟨G', y1, y2⟩ := second n N 0 G (by omega) (by omega) (fun _ _ _ => rfl) (fun b hb => absurd hb (by omega)) (fun b hb _ => (hr b hb).1)
      refine ⟨G', y1, ?_⟩
      have h0 := h.1.1
      have c : ¬ (n : Int) < n := by omega
      rw [show ((0 : Nat) : Int) = 0 from rfl] at y2
      rw [e, L_X1_narrowRanges_7]
      simp (maxSteps := 2000000) (disch := first | assumption | omega) only [jI0, iAdd_j, iSub_j, iMul_j, iNeg_j, Option.bind_some, jlt_t, jlt_f, jlt, jle_t, jle_f, jle, jeq_t, jeq_f, jeq, ↓reduceIte, o82, h0, c, y2]
    | succ k ih =>
      intro f j hj hf
      obtain ⟨f, rfl⟩ : ∃ y, f = y + 1 := ⟨f - 1, by omega⟩
      obtain ⟨G', y1, y2⟩ := ih f (j + 1) (by omega) (by omega)
      refine ⟨G', y1, ?_⟩
      have h0 := h.1.1
      have h87 := (hr j (by omega)).2
      have es : bd - ss A U row j - su A U row j = bd - ss A U row (j + 1) := by rw [ss]; omega
      rw [Int.natCast_succ] at y2
      have c : (j : Int) < n := by omega
      rw [L_X1_narrowRanges_7]
      simp (maxSteps := 2000000) (disch := first | assumption | omega) only [jI0, iAdd_j, iSub_j, iMul_j, iNeg_j, Option.bind_some, jlt_t, jlt_f, jlt, jle_t, jle_f, jle, jeq_t, jeq_f, jeq, ↓reduceIte, o82, h0, c, l87, h87, es, y2]
  obtain ⟨G', y1, y2⟩ := firstL n N 0 (by omega) (by omega)
  refine ⟨G', y1, ?_⟩
  rw [ss, show ((0 : Nat) : Int) = 0 from rfl, Int.sub_zero] at y2
  unfold f_X1_narrowRanges
  simp (maxSteps := 2000000) (disch := first | assumption | omega) only [jI0, iAdd_j, iSub_j, iMul_j, iNeg_j, Option.bind_some, jlt_t, jlt_f, jlt, jle_t, jle_f, jle, jeq_t, jeq_f, jeq, ↓reduceIte, o82, hb, y2]
theorem oRowsT (e0 : G 82 0 = n) {b : Nat} (hb : b < n) (n8 : n ≤ 8) (r1 : -1000000 ≤ G 85 b ∧ G 85 b ≤ 1000000) (r2 : -1000000 ≤ G 86 b ∧ G 86 b ≤ 1000000) : f_X1_rowsOf N 82 (jI (b : Int)) (hp q G) = some (jI (bR G b), hp q G) := by
  unfold f_X1_rowsOf bR
  simp (maxSteps := 2000000) (disch := first | assumption | omega) only [jI0, iAdd_j, iSub_j, iMul_j, iNeg_j, Option.bind_some, jlt_t, jlt_f, jlt, jle_t, jle_f, jle, jeq_t, jeq_f, jeq, ↓reduceIte, o82, e0, l85, l86, iMax_j]
theorem hp1 : (hp q G).1 = 120 + q.1 := rfl
theorem SHlen : SH.length = 120 := by decide +kernel
theorem shp_new {sz : Nat → Nat} {a : Nat} (h : 120 ≤ a) : shp sz a = .inl (1, sz a) := by
  unfold shp
  rw [List.getD_eq_getElem?_getD, List.getElem?_eq_none (by rw [SHlen]; exact h), Option.getD_none]
theorem shp_same {sz sz' : Nat → Nat} {a : Nat} (h : sz' a = sz a) : shp sz' a = shp sz a := by
  unfold shp
  rw [h]
theorem hnw {w : Int} (h0 : 0 ≤ w) (h1 : w ≤ 1000000) : nwA (hp q G) 1 (jI w) = some (hp (q.1 + 1, q.2.1 + w.toNat, fun a => if a = 120 + q.1 then w.toNat else q.2.2 a) (fun a => if a = 120 + q.1 then (fun _ => 0) else G a)) := by
  have b1 : ¬ jI w < 0 := by rw [jI0, jI_lt (by omega) (by omega) (by omega) (by omega)]; omega
  unfold nwA
  rw [jI_nat h0 (by omega), if_pos ⟨b1, by omega⟩]
  have e : ∀ (f g : Nat → mE), (∀ a, f a = g a) → some ((120 + q.1 + 1, q.2.1 + w.toNat, f) : mH) = some (120 + (q.1 + 1), q.2.1 + w.toNat, g) := fun f g h => by
    rw [show f = g from funext h]
    rfl
  refine e (fun j => if j = 120 + q.1 then (.inl (1, w.toNat, zrA 1)) else cof (shp q.2.2 j) (G j)) (fun a => cof (shp (fun a => if a = 120 + q.1 then w.toNat else q.2.2 a) a) (if a = 120 + q.1 then (fun _ => 0) else G a)) (fun a => ?_)
  by_cases c : a = 120 + q.1
  · rw [if_pos c, if_pos c, shp_new (by omega), if_pos c]
    rfl
  · rw [if_neg c, if_neg c, shp_same (sz := q.2.2) (sz' := fun a => if a = 120 + q.1 then w.toNat else q.2.2 a) (if_neg c)]
/-- room for all rows of codes -/
theorem oRoom (hW : BW q G) (hN : 10000 ≤ N) (n1 : 1 ≤ n ∧ n ≤ 8) (e0 : G 82 0 = n) (r1 : ∀ b : Nat, b < n → -1000000 ≤ G 85 b ∧ G 85 b ≤ 1000000) (r2 : ∀ b : Nat, b < n → -1000000 ≤ G 86 b ∧ G 86 b ≤ 1000000) (rb : ∀ b : Nat, b < n → bR G b ≤ 3879) : ∃ (q' : Nat × Nat × (Nat → Nat)) (G' : Nat → Int → Int) (L s1 s2 : Nat), ((∀ a, a < 120 → a ≠ 82 → G' a = G a) ∧ (∀ i : Int, i ≠ 14 → i ≠ 15 → G' 82 i = G 82 i) ∧ (G' 82 14 = s1 ∧ G' 82 15 = s2) ∧ (s1 ≠ s2 ∧ RC q' s1 L ∧ RC q' s2 L) ∧ (L ≤ 77580 ∧ q'.1 ≤ 2 * L ∧ q'.2.1 ≤ 700000 + 4 * L + 155160 * (L / 77580)) ∧ ∀ b : Nat, b < n → 20 * bR G b ≤ L) ∧ f_X1_makeRoom N 82 (hp q G) = some (hp q' G') := by
  obtain ⟨L, a1, a2, w1, w2, w3, w4, w5, w6, w7, w8, w9, w10', w11, w12'⟩ := hW
  have ln := hln (q := q) (G := G) (a := a1) (t := 1) (n := L) w4 w6 (by decide)
  have fin : ∀ (f : Nat) (x : Int), 1 ≤ x → x ≤ 3879 → (∀ b : Nat, b < n → bR G b ≤ x) → ∃ (q' : Nat × Nat × (Nat → Nat)) (G' : Nat → Int → Int) (L s1 s2 : Nat), ((∀ a, a < 120 → a ≠ 82 → G' a = G a) ∧ (∀ i : Int, i ≠ 14 → i ≠ 15 → G' 82 i = G 82 i) ∧ (G' 82 14 = s1 ∧ G' 82 15 = s2) ∧ (s1 ≠ s2 ∧ RC q' s1 L ∧ RC q' s2 L) ∧ (L ≤ 77580 ∧ q'.1 ≤ 2 * L ∧ q'.2.1 ≤ 700000 + 4 * L + 155160 * (L / 77580)) ∧ ∀ b : Nat, b < n → 20 * bR G b ≤ L) ∧ L_X1_makeRoom_4 N (f + 1) 82 (jI x) (jI (n : Int)) (hp q G) = some (hp q' G') := by
    intro f x x0 x1 hx
    have c : ¬ (n : Int) < n := by omega
    by_cases cl : (L : Int) < x * 20
    · generalize hw : min 77580 (max (x * 20) (2 * (L : Int))) = w
      have wr : 20 ≤ w ∧ w ≤ 77580 ∧ x * 20 ≤ w ∧ (2 * (L : Int) ≤ w ∨ w = 77580) := by omega
      have h1 := hnw (q := q) (G := G) (w := w) (by omega) (by omega)
      generalize hq1 : ((q.1 + 1, q.2.1 + w.toNat, fun a => if a = 120 + q.1 then w.toNat else q.2.2 a) : Nat × Nat × (Nat → Nat)) = q1 at h1
      generalize hG1 : (fun a => if a = 120 + q.1 then (fun _ => 0) else G a : Nat → Int → Int) = G1 at h1
      have q11 : q1.1 = q.1 + 1 := by rw [← hq1]
      have p1 := hpM (q := q1) (G := G1) (ci := 1) (a := 82) (k := 14) (r := 120 + q.1) (by decide) (fun _ => rfl) rfl
      have h2 := hnw (q := q1) (G := up G1 82 ((14 : Nat) : Int) ((120 + q.1 : Nat) : Int)) (w := w) (by omega) (by omega)
      generalize hq2 : ((q1.1 + 1, q1.2.1 + w.toNat, fun a => if a = 120 + q1.1 then w.toNat else q1.2.2 a) : Nat × Nat × (Nat → Nat)) = q2 at h2
      generalize hG2 : (fun a => if a = 120 + q1.1 then (fun _ => 0) else up G1 82 ((14 : Nat) : Int) ((120 + q.1 : Nat) : Int) a : Nat → Int → Int) = G2 at h2
      have p2 := hpM (q := q2) (G := G2) (ci := 1) (a := 82) (k := 15) (r := 120 + q1.1) (by decide) (fun _ => rfl) rfl
      have q21 : q2.1 = q.1 + 2 := by rw [← hq2]; show q1.1 + 1 = _; omega
      have q22 : q2.2.1 = q.2.1 + w.toNat + w.toNat := by rw [← hq2, ← hq1]
      have q23 : ∀ a, q2.2.2 a = if a = 120 + q1.1 then w.toNat else if a = 120 + q.1 then w.toNat else q.2.2 a := fun a => by rw [← hq2, ← hq1]
      have g2o : ∀ a, a < 120 → a ≠ 82 → G2 a = G a := fun a ha hb => by
        rw [← hG2]
        show (if a = 120 + q1.1 then (fun _ => 0) else up G1 82 ((14 : Nat) : Int) ((120 + q.1 : Nat) : Int) a) = _
        rw [if_neg (by omega), up_ne hb, ← hG1]
        show (if a = 120 + q.1 then (fun _ => 0) else G a) = _
        rw [if_neg (by omega)]
      have g282 : G2 82 = u1 (G 82) 14 ((120 + q.1 : Nat) : Int) := by
        rw [← hG2]
        show (if 82 = 120 + q1.1 then (fun _ => 0) else up G1 82 ((14 : Nat) : Int) ((120 + q.1 : Nat) : Int) 82) = _
        rw [if_neg (by omega), up_eq, ← hG1]
        show u1 (if 82 = 120 + q.1 then (fun _ => 0) else G 82) ((14 : Nat) : Int) ((120 + q.1 : Nat) : Int) = _
        rw [if_neg (by omega)]
        rfl
      refine ⟨q2, up G2 82 ((15 : Nat) : Int) ((120 + q1.1 : Nat) : Int), w.toNat, 120 + q.1, 120 + q1.1, ⟨fun a ha hb => by rw [up_ne hb]; exact g2o a ha hb, fun i i1 i2 => ?_, ⟨?_, ?_⟩, ⟨by omega, ?_, ?_⟩, ⟨by omega, by omega, by omega⟩, fun b hb => ?_⟩, ?_⟩
      · rw [up_eq]
        show u1 (G2 82) 15 ((120 + q1.1 : Nat) : Int) i = _
        rw [u1_ne i2, g282, u1_ne i1]
      · rw [up_eq, u1_ne (by decide), g282, u1_eq]
      · rw [up_eq]
        exact u1_eq
      · refine ⟨by omega, ?_, by omega⟩
        rw [shp_new (by omega), q23, if_neg (by omega), if_pos rfl]
      · refine ⟨by omega, ?_, by omega⟩
        rw [shp_new (by omega), q23, if_pos rfl]
      · have := hx b hb
        omega
      · rw [L_X1_makeRoom_4]
        simp (maxSteps := 2000000) (disch := first | assumption | omega) only [jI0, iAdd_j, iSub_j, iMul_j, iNeg_j, Option.bind_some, jlt_t, jlt_f, jlt, jle_t, jle_f, jle, jeq_t, jeq_f, jeq, ↓reduceIte, o82, e0, c, w1, Int.toNat_natCast, ln, cl, iMin_j, iMax_j, hw, h1, hp1, p1, h2, p2]
    · refine ⟨q, G, L, a1, a2, ⟨fun _ _ _ => rfl, fun _ _ _ => rfl, ⟨w1, w2⟩, ⟨w3, ⟨w4, w6, w11⟩, ⟨w5, w7, w12'⟩⟩, ⟨w8, w9, w10'⟩, fun b hb => ?_⟩, ?_⟩
      · have := hx b hb
        omega
      · rw [L_X1_makeRoom_4]
        simp (maxSteps := 2000000) (disch := first | assumption | omega) only [jI0, iAdd_j, iSub_j, iMul_j, iNeg_j, Option.bind_some, jlt_t, jlt_f, jlt, jle_t, jle_f, jle, jeq_t, jeq_f, jeq, ↓reduceIte, o82, e0, c, w1, Int.toNat_natCast, ln, cl]
  have LL : ∀ (k f j : Nat) (x : Int), j + k = n → k < f → 1 ≤ x → x ≤ 3879 → (∀ b : Nat, b < j → bR G b ≤ x) → ∃ (q' : Nat × Nat × (Nat → Nat)) (G' : Nat → Int → Int) (L s1 s2 : Nat), ((∀ a, a < 120 → a ≠ 82 → G' a = G a) ∧ (∀ i : Int, i ≠ 14 → i ≠ 15 → G' 82 i = G 82 i) ∧ (G' 82 14 = s1 ∧ G' 82 15 = s2) ∧ (s1 ≠ s2 ∧ RC q' s1 L ∧ RC q' s2 L) ∧ (L ≤ 77580 ∧ q'.1 ≤ 2 * L ∧ q'.2.1 ≤ 700000 + 4 * L + 155160 * (L / 77580)) ∧ ∀ b : Nat, b < n → 20 * bR G b ≤ L) ∧ L_X1_makeRoom_4 N f 82 (jI x) (jI (j : Int)) (hp q G) = some (hp q' G') := by
    intro k
    induction k with
    | zero =>
      intro f j x hj hf x0 x1 hx
      obtain ⟨f, rfl⟩ : ∃ y, f = y + 1 := ⟨f - 1, by omega⟩
      have e : j = n := by omega
      rw [e] at hx ⊢
      exact fin f x x0 x1 hx
    | succ k ih =>
      intro f j x hj hf x0 x1 hx
      obtain ⟨f, rfl⟩ : ∃ y, f = y + 1 := ⟨f - 1, by omega⟩
      have rj := rb j (by omega)
      have ro' := oRowsT (N := N) (q := q) e0 (b := j) (by omega) n1.2 (r1 j (by omega)) (r2 j (by omega))
      have rj0 : 0 ≤ bR G j := by unfold bR; omega
      obtain ⟨q', G', L', s1, s2, y1, y2⟩ := ih f (j + 1) (max x (bR G j)) (by omega) (by omega) (by omega) (by omega) (fun b hb => by
        by_cases cb : b = j
        · rw [cb]; omega
        · have := hx b (by omega)
          omega)
      refine ⟨q', G', L', s1, s2, y1, ?_⟩
      rw [Int.natCast_succ] at y2
      have c : (j : Int) < n := by omega
      rw [L_X1_makeRoom_4]
      simp (maxSteps := 2000000) (disch := first | assumption | omega) only [jI0, iAdd_j, iSub_j, iMul_j, iNeg_j, Option.bind_some, jlt_t, jlt_f, jlt, jle_t, jle_f, jle, jeq_t, jeq_f, jeq, ↓reduceIte, o82, e0, c, ro', iMax_j, y2]
  have z := LL n N 0 1 (by omega) (by omega) (by omega) (by omega) (fun b hb => absurd hb (by omega))
  rw [show ((0 : Nat) : Int) = 0 from rfl] at z
  unfold f_X1_makeRoom
  exact z
end
