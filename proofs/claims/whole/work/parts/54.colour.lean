/-! calls: colour, floats -/
/-- a row of ints filled -/
def fl (G : Nat → Int → Int) (a n : Nat) (v : Int) : Nat → Int → Int := fun b => if b = a then (fun j => if 0 ≤ j ∧ j < n then v else G a j) else G b
theorem fl_eq {G : Nat → Int → Int} {a n : Nat} {v i : Int} (h0 : 0 ≤ i) (h1 : i < n) : fl G a n v a i = v := by
  unfold fl
  rw [if_pos rfl, if_pos ⟨h0, h1⟩]
theorem fl_ne {G : Nat → Int → Int} {a b n : Nat} {v : Int} (h : b ≠ a) : fl G a n v b = G b := if_neg h
/-- so many of a kind are SEEN -/
def sCk (A : Int → Int) (b s : Int) (P : Prop) [Decidable P] (k : Int) (n : Nat) : Int := sm (fun row => if A (83 + 4 * b + row % A (27 + b)) = k ∧ ¬ ((sOI A b row s = true) ↔ P) then 1 else 0) n
/-- the first of the greatest -/
def bst (f : Int → Int) : Nat → Int
  | 0 => 0
  | k + 1 => if f (bst f k) < f (k + 1) then k + 1 else bst f k
theorem bst_r (f : Int → Int) : ∀ k, 0 ≤ bst f k ∧ bst f k ≤ k
  | 0 => ⟨Int.le_refl _, Int.le_refl _⟩
  | k + 1 => by
    have := bst_r f k
    simp only [bst]
    rw [Int.natCast_succ]
    split <;> omega
theorem bst_more {f : Int → Int} {k : Nat} (hf : ∀ i : Int, 0 ≤ i → 0 ≤ f i) : ∀ d : Nat, (∀ i : Nat, k < i → f i = 0) → bst f (k + d) = bst f k
  | 0, _ => rfl
  | d + 1, h => by
    show (if f (bst f (k + d)) < f ((k + d : Nat) + 1) then _ else bst f (k + d)) = _
    have z := h (k + d + 1) (by omega)
    rw [Int.natCast_succ] at z
    rw [z, if_neg (by have := hf (bst f (k + d)) (bst_r f (k + d)).1; omega)]
    exact bst_more hf d h
/-- it and how many; -1 for none -/
def mst (f : Int → Int) (k : Nat) : Int × Int := if f (bst f k) = 0 then (-1, 0) else (bst f k, f (bst f k))
theorem mst_0 {f : Int → Int} (hf : ∀ i, 0 ≤ f i) : (if 0 < f 0 then (0 : Int) else -1) = (mst f 0).1 ∧ (if 0 < f 0 then f 0 else 0) = (mst f 0).2 := by
  have h0 := hf 0
  unfold mst
  show _ = (if f 0 = 0 then ((-1 : Int), (0 : Int)) else (0, f 0)).1 ∧ _ = (if f 0 = 0 then ((-1 : Int), (0 : Int)) else (0, f 0)).2
  by_cases c : f 0 = 0
  · rw [if_pos c, if_neg (by omega), if_neg (by omega)]
    exact ⟨rfl, rfl⟩
  · rw [if_neg c, if_pos (by omega), if_pos (by omega)]
    exact ⟨rfl, rfl⟩
theorem mst_s {f : Int → Int} (hf : ∀ i, 0 ≤ f i) (k : Nat) : (if (mst f k).2 < f (k + 1) then (k : Int) + 1 else (mst f k).1) = (mst f (k + 1)).1 ∧ (if (mst f k).2 < f (k + 1) then f (k + 1) else (mst f k).2) = (mst f (k + 1)).2 := by
  have h0 := hf (k + 1)
  have h1 := hf (bst f k)
  by_cases d : f (bst f k) < f (k + 1)
  · have e : bst f (k + 1) = k + 1 := if_pos d
    have m : mst f (k + 1) = ((k : Int) + 1, f (k + 1)) := by
      unfold mst
      rw [e, if_neg (by omega)]
    have l : (mst f k).2 < f (k + 1) := by
      unfold mst
      split
      · show (0 : Int) < _; omega
      · exact d
    rw [m, if_pos l, if_pos l]
    exact ⟨rfl, rfl⟩
  · have e : bst f (k + 1) = bst f k := if_neg d
    have m : mst f (k + 1) = mst f k := by
      unfold mst
      rw [e]
    have l : ¬ (mst f k).2 < f (k + 1) := by
      unfold mst
      split
      · show ¬ (0 : Int) < _; omega
      · exact d
    rw [m, if_neg l, if_neg l]
    exact ⟨rfl, rfl⟩
theorem mst_r {f : Int → Int} (hf : ∀ i, 0 ≤ f i ∧ f i ≤ 160) (k : Nat) : 0 ≤ (mst f k).2 ∧ (mst f k).2 ≤ 160 := by
  have h1 := hf (bst f k)
  unfold mst
  split
  · exact ⟨Int.le_refl _, show (0 : Int) ≤ 160 by omega⟩
  · exact h1
/-- stretches: found, now -/
def sFl (f : Int → Bool) (most : Int) : Nat → Int × Int
  | 0 => (0, 0)
  | i + 1 =>
    let now := if 0 < i ∧ f i = f (i - 1) then (sFl f most i).2 + 1 else 1
    ((sFl f most i).1 + (if now = most + 1 then 1 else 0), now)
theorem sFl_r (f : Int → Bool) (most : Int) : ∀ i, 0 ≤ (sFl f most i).2 ∧ (sFl f most i).2 ≤ i
  | 0 => ⟨Int.le_refl _, Int.le_refl _⟩
  | i + 1 => by
    have := sFl_r f most i
    simp only [sFl]
    rw [Int.natCast_succ]
    split <;> omega
section
variable {K1 K2 : (Int → Int) → (Int → Int) → Prop} {q : Nat × Nat × (Nat → Nat)} {G : Nat → Int → Int} {N : Nat}
theorem fill_i {a n : Nat} {v : Int} (hN : 10000 ≤ N) (ha : a < 120) (hs : ∀ sz, shp sz a = .inl (0, n)) (hn : n < 10000) : f_J7_fill_53178 N a (jI v) (hp q G) = some (hp q (fl G a n v)) := by
  unfold f_J7_fill_53178
  rw [hln (by omega) (hs _) (by omega)]
  simp only [Option.bind_some]
  refine (loopE (N := N) (fun m (t : Int × (Nat → Int → Int)) => L_J7_fill_53178_5 N m a (jI v) (jI t.1) (jI n) (hp q t.2)) (fun k => ((k : Int), fl G a k v)) n (r := some (hp q (fl G a n v))) (by omega) ?_ ?_) |> Eq.trans ?_
  · show _ = L_J7_fill_53178_5 N N a (jI v) (jI 0) (jI n) (hp q (fl G a 0 v))
    have : fl G a 0 v = G := by
      funext b j
      unfold fl
      by_cases c : b = a
      · subst c
        rw [if_pos rfl, if_neg (by omega)]
      · rw [if_neg c]
    rw [this]
  · intro m k hk
    show L_J7_fill_53178_5 N (m + 1) a (jI v) (jI k) (jI n) (hp q (fl G a k v)) = L_J7_fill_53178_5 N m a (jI v) (jI ((k + 1 : Nat) : Int)) (jI n) (hp q (fl G a (k + 1) v))
    have : up (fl G a k v) a k v = fl G a (k + 1) v := by
      funext b j
      by_cases c : b = a
      · subst c
        rw [up_eq]
        unfold fl
        rw [if_pos rfl, if_pos rfl]
        by_cases d : j = k
        · subst d
          rw [u1_eq, if_pos (by omega)]
        · rw [u1_ne d]
          by_cases d2 : 0 ≤ j ∧ j < k
          · rw [if_pos d2, if_pos (by omega)]
          · rw [if_neg d2, if_neg (by omega)]
      · rw [up_ne c, fl_ne c, fl_ne c]
    rw [L_J7_fill_53178_5]
    have s := hst (q := q) (G := fl G a k v) (i := (k : Int)) (v := v) ha hs (.inl rfl) (by omega) (by omega) (by omega) (x := jI v) rfl
    simp (maxSteps := 2000000) (disch := first | assumption | omega) only [jI0, iAdd_j, iSub_j, iMul_j, iNeg_j, Option.bind_some, jlt_t, jlt_f, jlt, jle_t, jle_f, jle, jeq_t, jeq_f, jeq, ↓reduceIte, s, this, Int.natCast_succ]
  · intro m
    show L_J7_fill_53178_5 N (m + 1) a (jI v) (jI n) (jI n) (hp q (fl G a n v)) = _
    rw [L_J7_fill_53178_5]
    simp (maxSteps := 2000000) (disch := first | assumption | omega) only [jI0, iAdd_j, iSub_j, iMul_j, iNeg_j, Option.bind_some, jlt_t, jlt_f, jlt, jle_t, jle_f, jle, jeq_t, jeq_f, jeq, ↓reduceIte]
theorem oSeen (hN : 10000 ≤ N) (hB : BB G) (hW : WV (G 12 5) (G 13) (G 102)) {b row s : Int} (hb : 0 ≤ b ∧ b < G 102 26) (hr : 0 ≤ row ∧ row < G 102 (27 + b) * G 102 (51 + b)) (hs : 0 ≤ s ∧ s < G 102 0) (P : Prop) [Decidable P] : ∃ G', WK G G' ∧ f_X10_kindSeen N 12 (jI b) (jI row) (jI s) (bI P) (hp q G) = some (jI (if (sOI (G 102) b row s = true) ↔ P then -1 else G 102 (83 + 4 * b + row % G 102 (27 + b))), hp q G') := by
  have wb := hB.1.2.2.1 b hb.1 hb.2
  obtain ⟨dm, dr, de, dl⟩ := rowDm hB.1 hb hr
  obtain ⟨G1, hw, e⟩ := oOver (q := q) hN hB hW hb hr hs
  have hB1 := hw.bb hB
  have e2 := hw.e
  refine ⟨G1, hw, ?_⟩
  unfold f_X10_kindSeen
  by_cases c : (sOI (G 102) b row s = true) ↔ P
  · rw [if_pos c]
    simp (maxSteps := 2000000) (disch := first | assumption | omega | (rw [e2]; omega)) only [jI0, iAdd_j, iSub_j, iMul_j, iNeg_j, Option.bind_some, jlt_t, jlt_f, jlt, jle_t, jle_f, jle, jeq_t, jeq_f, jeq, ↓reduceIte, o0, o2, o12, hBand, hStake, hKind, hCross, hWeaver, oBand, oKindOf, oKind, oCr, oRing, oWv, oPer, oRows, oAhead, oWhen, oAll, oStep, oRods, oRodAt, oStakeAt, oOff, bI_t, bI_f, X11_refuse, e, iRem_p, bI_eq, c, e2]
  · rw [if_neg c]
    simp (maxSteps := 2000000) (disch := first | assumption | omega | (rw [e2]; omega)) only [jI0, iAdd_j, iSub_j, iMul_j, iNeg_j, Option.bind_some, jlt_t, jlt_f, jlt, jle_t, jle_f, jle, jeq_t, jeq_f, jeq, ↓reduceIte, o0, o2, o12, hBand, hStake, hKind, hCross, hWeaver, oBand, oKindOf, oKind, oCr, oRing, oWv, oPer, oRows, oAhead, oWhen, oAll, oStep, oRods, oRodAt, oStakeAt, oOff, bI_t, bI_f, X11_refuse, e, iRem_p, bI_eq, c, e2]
/-- the keeping of tallies -/
def TK (G G' : Nat → Int → Int) : Prop := (∀ a, a < 12 ∨ 16 < a → G' a = G a) ∧ WV (G' 12 5) (G' 13) (G 102)
theorem TK.e {G1 : Nat → Int → Int} (h : TK G G1) : G1 102 = G 102 := h.1 102 (by omega)
theorem TK.bb {G1 : Nat → Int → Int} (h : TK G G1) (hB : BB G) : BB G1 := by
  unfold BB at *
  rw [h.1 102 (by omega), h.1 2 (by omega), h.1 3 (by omega), h.1 4 (by omega), h.1 5 (by omega)]
  exact hB
theorem TK.wv {G1 : Nat → Int → Int} (h : TK G G1) : WV (G1 12 5) (G1 13) (G1 102) := by rw [h.e]; exact h.2
theorem TK.wk {G1 G2 : Nat → Int → Int} (h1 : TK G G1) (h2 : WK G1 G2) : TK G G2 := ⟨fun a ha => (h2.1 a (by omega)).trans (h1.1 a ha), by have := h2.2; rw [h1.e] at this; exact this⟩
theorem TK.sc {G1 : Nat → Int → Int} (h : TK G G1) : SC G G1 := by
  refine ⟨fun a h0 h1 => h.1 a ?_, ⟨?_, ?_, ?_, ?_, ?_, ?_, ?_, ?_, ?_⟩, ⟨h.1 98 (by omega), h.1 101 (by omega)⟩, fun _ => h.2⟩
  · by_cases c : a < 12 ∨ 16 < a
    · exact c
    · have : a = 12 ∨ a = 13 ∨ a = 14 ∨ a = 15 ∨ a = 16 := by omega
      rcases this with rfl | rfl | rfl | rfl | rfl
      · cases h0
      · exact absurd rfl h1
      · cases h0
      · cases h0
      · cases h0
  all_goals rw [h.1 _ (by omega)]
theorem TK.up {G1 : Nat → Int → Int} (h : TK G G1) {a : Nat} {i v : Int} (ha : a = 14 ∨ a = 15 ∨ a = 16) : TK G (up G1 a i v) := ⟨fun b hb => by rw [up_ne (by omega)]; exact h.1 b hb, by rw [up_ne (by omega), up_ne (by omega)]; exact h.2⟩
theorem TK.fl {G1 : Nat → Int → Int} (h : TK G G1) {a n : Nat} {v : Int} (ha : a = 14 ∨ a = 15 ∨ a = 16) : TK G (fl G1 a n v) := ⟨fun b hb => by rw [fl_ne (by omega)]; exact h.1 b hb, by rw [fl_ne (by omega), fl_ne (by omega)]; exact h.2⟩
theorem sCk_r {A : Int → Int} {b s : Int} (P : Prop) [Decidable P] {k : Int} {n : Nat} : 0 ≤ sCk A b s P k n ∧ sCk A b s P k n ≤ n := sm_r1
theorem op_colour (hN : 10000 ≤ N) (hI : INV K1 K2 q G) {b s : Int} (h1 : -2147483648 ≤ b) (h2 : b < 2147483648) (h5 : -2147483648 ≤ s) (h6 : s < 2147483648) (P : Prop) [Decidable P] : OP K1 K2 q G (f_X11_colour N 0 (jI b) (jI s) (bI P)) (f_X12_colour N 100 (jI b) (jI s) (bI P)) := by
  have hB := hI.1.1; have hV := hB.1; have hT := hI.1.2.1; have g := hV.1
  by_cases c : 0 ≤ b ∧ b < G 102 26
  · have wb := hV.2.2.1 b c.1 c.2
    have pr := mulB (a := G 102 (27 + b)) (b := G 102 (51 + b)) (c := 4) (d := 40) (by omega) (by omega) (by omega) (by omega)
    have kd := hV.2.2.2.1 b 0 c.1 c.2 (by omega) (by omega)
    by_cases c3 : 0 ≤ s ∧ s < G 102 0
    · generalize hf : (fun k => sCk (G 102) b s P k (G 102 (27 + b) * G 102 (51 + b)).toNat) = f
      have fe : ∀ k, sCk (G 102) b s P k (G 102 (27 + b) * G 102 (51 + b)).toNat = f k := fun k => by rw [← hf]
      have F : ∀ k, 0 ≤ f k ∧ f k ≤ 160 := fun k => by
        have := sCk_r (A := G 102) (b := b) (s := s) P (k := k) (n := (G 102 (27 + b) * G 102 (51 + b)).toNat)
        rw [← fe]; omega
      have F0 : ∀ k : Nat, (G 102 1).toNat - 1 < k → f k = 0 := fun k hk => by
        rw [← fe]
        apply sm_zero
        intro row hr
        obtain ⟨dm, dr, de, dl⟩ := rowDm hV c (row := row) ⟨by omega, by omega⟩
        have := hV.2.2.2.1 b _ c.1 c.2 dm.1 dm.2
        rw [if_neg (by omega)]
      have B5 : bst f 5 = bst f ((G 102 1).toNat - 1) := by
        have := bst_more (f := f) (k := (G 102 1).toNat - 1) (fun i _ => (F i).1) (5 - ((G 102 1).toNat - 1)) F0
        rw [show (G 102 1).toNat - 1 + (5 - ((G 102 1).toNat - 1)) = 5 by omega] at this
        exact this
      refine OP.sc hI (jI (if f (bst f 5) = 0 then -1 else bst f 5)) ?_ ?_
      · have L : ∃ G1, TK G G1 ∧ f_X10_mostSeen N 12 (jI b) (jI s) (bI P) (hp q G) = some (jI (if f (bst f 5) = 0 then -1 else bst f 5), hp q G1) := by
          unfold f_X10_mostSeen
          have ff := fill_i (q := q) (G := G) (a := 16) (n := 6) (v := 0) hN (by decide) (fun _ => rfl) (by decide)
          simp (maxSteps := 2000000) (disch := first | assumption | omega) only [jI0, iAdd_j, iSub_j, iMul_j, iNeg_j, Option.bind_some, jlt_t, jlt_f, jlt, jle_t, jle_f, jle, jeq_t, jeq_f, jeq, ↓reduceIte, o12, ff]
          refine loopQ (fun n (t : Int × (Nat → Int → Int)) => L_X10_mostSeen_11 N n 12 (jI b) (jI s) (bI P) (jI t.1) (hp q t.2)) (fun k t => t.1 = k ∧ TK G t.2 ∧ ∀ i, 0 ≤ i → i < 6 → t.2 16 i = sCk (G 102) b s P i k) (G 102 (27 + b) * G 102 (51 + b)).toNat (fun r => ∃ G1, TK G G1 ∧ r = some (jI (if f (bst f 5) = 0 then -1 else bst f 5), hp q G1)) (by omega) (s := (0, fl G 16 6 0)) ⟨rfl, TK.fl ⟨fun _ _ => rfl, hI.wv⟩ (by omega), fun i i0 i1 => fl_eq (G := G) (a := 16) (n := 6) (v := 0) i0 i1⟩ ?_ ?_
          · rintro n k ⟨i, G1⟩ hk ⟨rfl, ht, hc⟩
            simp only at ht hc
            have e1 := ht.e
            obtain ⟨G2, hw2, e⟩ := oSeen (q := q) hN (ht.bb hB) ht.wv (b := b) (row := k) (s := s) (by rw [e1]; exact c) (by rw [e1]; omega) (by rw [e1]; exact c3) P
            have ht2 := ht.wk hw2
            have e2 := ht2.e
            have h16 : ∀ i, 0 ≤ i → i < 6 → G2 16 i = sCk (G 102) b s P i k := fun i i0 i1 => by rw [hw2.1 16 (by omega)]; exact hc i i0 i1
            have orr := oRows (q := q) (N := N) (ht.bb hB) (b := b) c.1 (by rw [e1]; exact c.2)
            rw [e1] at e orr
            obtain ⟨dm, dr, de, dl⟩ := rowDm hV c (row := k) ⟨by omega, by omega⟩
            have kd2 := hV.2.2.2.1 b _ c.1 c.2 dm.1 dm.2
            by_cases d : (sOI (G 102) b k s = true) ↔ P
            · refine ⟨(((k + 1 : Nat) : Int), G2), ⟨rfl, ht2, ?_⟩, ?_⟩
              · intro i i0 i1
                show G2 16 i = _
                rw [h16 i i0 i1]
                simp only [sCk, sm]
                rw [if_neg (fun h => h.2 d), Int.add_zero]
              · show L_X10_mostSeen_11 N (n + 1) 12 (jI b) (jI s) (bI P) (jI k) (hp q G1) = L_X10_mostSeen_11 N n 12 (jI b) (jI s) (bI P) (jI ((k + 1 : Nat) : Int)) (hp q G2)
                rw [if_pos d] at e
                rw [L_X10_mostSeen_11]
                simp (maxSteps := 2000000) (disch := first | assumption | omega) only [jI0, iAdd_j, iSub_j, iMul_j, iNeg_j, Option.bind_some, jlt_t, jlt_f, jlt, jle_t, jle_f, jle, jeq_t, jeq_f, jeq, ↓reduceIte, o12, o2, orr, e, Int.natCast_succ]
            · refine ⟨(((k + 1 : Nat) : Int), up G2 16 (G 102 (83 + 4 * b + k % G 102 (27 + b))) (sCk (G 102) b s P (G 102 (83 + 4 * b + k % G 102 (27 + b))) k + 1)), ⟨rfl, ht2.up (by omega), ?_⟩, ?_⟩
              · intro i i0 i1
                show up G2 16 _ _ 16 i = _
                rw [up_eq]
                simp only [sCk, sm]
                by_cases x : i = G 102 (83 + 4 * b + k % G 102 (27 + b))
                · subst x
                  rw [u1_eq, if_pos ⟨rfl, d⟩]
                · rw [u1_ne x, h16 i i0 i1, if_neg (fun h => x h.1.symm), Int.add_zero]
                  rfl
              · show L_X10_mostSeen_11 N (n + 1) 12 (jI b) (jI s) (bI P) (jI k) (hp q G1) = L_X10_mostSeen_11 N n 12 (jI b) (jI s) (bI P) (jI ((k + 1 : Nat) : Int)) (hp q (up G2 16 _ _))
                rw [if_neg d] at e
                have hv := h16 _ kd2.1 (by omega)
                rw [L_X10_mostSeen_11]
                simp (maxSteps := 2000000) (disch := first | assumption | omega) only [jI0, iAdd_j, iSub_j, iMul_j, iNeg_j, Option.bind_some, jlt_t, jlt_f, jlt, jle_t, jle_f, jle, jeq_t, jeq_f, jeq, ↓reduceIte, o12, o2, orr, e, n16, l16, hv, s16, Int.natCast_succ]
          · rintro n ⟨i, G1⟩ ⟨rfl, ht, hc⟩
            simp only at ht hc
            have e1 := ht.e
            have orr := oRows (q := q) (N := N) (ht.bb hB) (b := b) c.1 (by rw [e1]; exact c.2)
            rw [e1] at orr
            refine ⟨G1, ht, ?_⟩
            show L_X10_mostSeen_11 N (n + 1) 12 (jI b) (jI s) (bI P) (jI ((G 102 (27 + b) * G 102 (51 + b)).toNat : Int)) (hp q G1) = _
            have h16 : ∀ i, 0 ≤ i → i < 6 → G1 16 i = f i := fun i i0 i1 => by rw [hc i i0 i1, fe]
            rw [L_X10_mostSeen_11]
            simp (maxSteps := 2000000) (disch := first | assumption | omega) only [jI0, iAdd_j, iSub_j, iMul_j, iNeg_j, Option.bind_some, jlt_t, jlt_f, jlt, jle_t, jle_f, jle, jeq_t, jeq_f, jeq, ↓reduceIte, o12, o2, orr]
            refine loopE (N := N) (fun n (t : Int × Int) => L_X10_mostSeen_73 N n 12 (jI t.1) (jI t.2) (hp q G1)) (fun k => (bst f k, ((k + 1 : Nat) : Int))) 5 (by omega) ?_ ?_
            · intro n k hk
              show L_X10_mostSeen_73 N (n + 1) 12 (jI (bst f k)) (jI ((k + 1 : Nat) : Int)) (hp q G1) = L_X10_mostSeen_73 N n 12 (jI (bst f (k + 1))) (jI ((k + 1 + 1 : Nat) : Int)) (hp q G1)
              have br := bst_r f k
              have v1 := h16 ((k + 1 : Nat) : Int) (by omega) (by omega)
              have v2 := h16 (bst f k) (by omega) (by omega)
              have f1 := F ((k + 1 : Nat) : Int)
              have f2 := F (bst f k)
              rw [L_X10_mostSeen_73]
              simp only [bst]
              rw [Int.natCast_succ] at v1 f1
              by_cases d : f (bst f k) < f (k + 1)
              · rw [if_pos d]
                simp (maxSteps := 2000000) (disch := first | assumption | omega) only [jI0, iAdd_j, iSub_j, iMul_j, iNeg_j, Option.bind_some, jlt_t, jlt_f, jlt, jle_t, jle_f, jle, jeq_t, jeq_f, jeq, ↓reduceIte, o12, n16, l16, v1, v2, Int.natCast_succ]
              · rw [if_neg d]
                simp (maxSteps := 2000000) (disch := first | assumption | omega) only [jI0, iAdd_j, iSub_j, iMul_j, iNeg_j, Option.bind_some, jlt_t, jlt_f, jlt, jle_t, jle_f, jle, jeq_t, jeq_f, jeq, ↓reduceIte, o12, n16, l16, v1, v2, Int.natCast_succ]
            · intro n
              show L_X10_mostSeen_73 N (n + 1) 12 (jI (bst f 5)) (jI 6) (hp q G1) = _
              have br := bst_r f 5
              have v2 := h16 (bst f 5) (by omega) (by omega)
              have f2 := F (bst f 5)
              rw [L_X10_mostSeen_73]
              by_cases d : f (bst f 5) = 0
              · rw [if_pos d]
                simp (maxSteps := 2000000) (disch := first | assumption | omega) only [jI0, iAdd_j, iSub_j, iMul_j, iNeg_j, Option.bind_some, jlt_t, jlt_f, jlt, jle_t, jle_f, jle, jeq_t, jeq_f, jeq, ↓reduceIte, o12, n16, l16, v2]
              · rw [if_neg d]
                simp (maxSteps := 2000000) (disch := first | assumption | omega) only [jI0, iAdd_j, iSub_j, iMul_j, iNeg_j, Option.bind_some, jlt_t, jlt_f, jlt, jle_t, jle_f, jle, jeq_t, jeq_f, jeq, ↓reduceIte, o12, n16, l16, v2]
        obtain ⟨G1, ht, e⟩ := L
        refine ⟨G1, ht.sc, ?_⟩
        unfold f_X11_colour
        simp (maxSteps := 2000000) (disch := first | assumption | omega) only [jI0, iAdd_j, iSub_j, iMul_j, iNeg_j, Option.bind_some, jlt_t, jlt_f, jlt, jle_t, jle_f, jle, jeq_t, jeq_f, jeq, ↓reduceIte, o0, o2, o12, hBand, hStake, hKind, hCross, hWeaver, oBand, oKindOf, oKind, oCr, oRing, oWv, oPer, oRows, oAhead, oWhen, oAll, oStep, oRods, oRodAt, oStakeAt, oOff, bI_t, bI_f, X11_refuse, e]
      · intro G1 s1 hM e
        refine ⟨G1, SC.refl, ?_⟩
        have hV1 := hM.1; have hT1 := hM.2; (try rw [← e] at dm); (try rw [← e] at dr); (try rw [← e] at de); (try rw [← e] at dl); (try rw [← e] at hb); (try rw [← e] at hj); (try rw [← e] at hr); (try rw [← e] at hs); (try rw [← e] at pl); (try rw [← e] at al); (try rw [← e] at g); (try rw [← e] at c); (try rw [← e] at c1); (try rw [← e] at c2); (try rw [← e] at c3); (try rw [← e] at c4); (try rw [← e] at c5); (try rw [← e] at c6); (try rw [← e] at wb); (try rw [← e] at pr); (try rw [← e] at kd); (try rw [← e] at cr); (try rw [← e] at fe); (try rw [← e] at ra); (try rw [← e] at f1); (try rw [← e] at f2); (try rw [← e] at f3); (try rw [← e] at f4); (try rw [← e])
        rw [← e] at B5
        unfold f_X12_colour
        simp (maxSteps := 2000000) (disch := first | assumption | omega) only [jI0, iAdd_j, iSub_j, iMul_j, iNeg_j, Option.bind_some, jlt_t, jlt_f, jlt, jle_t, jle_f, jle, jeq_t, jeq_f, jeq, ↓reduceIte, o100, w100t, l102, mBand, mStake, mKind, mCross, mCr, mKindOf, mAhead, mWhen, mStep, mRods, mRodAt, mStakeAt, mIndex, mOver, mOverIn, jlL, X12_within, bI_t, bI_f, X12_no]
        refine (loopE (N := N) (fun n (t : (Int × Int) × Int) => L_X12_colour_37 N n 100 (jI b) (jI s) (bI P) (jI t.1.1) (jI t.1.2) (jI t.2) (hp q G1)) (fun k => ((if k = 0 then (-1, 0) else mst f (k - 1)), (k : Int))) (G1 102 1).toNat (r := some (jI (if f (bst f 5) = 0 then -1 else bst f 5), hp q G1)) (by omega) ?_ ?_)
        · intro n k hk
          show L_X12_colour_37 N (n + 1) 100 (jI b) (jI s) (bI P) (jI (if k = 0 then ((-1 : Int), (0 : Int)) else mst f (k - 1)).1) (jI (if k = 0 then ((-1 : Int), (0 : Int)) else mst f (k - 1)).2) (jI (k : Int)) (hp q G1) = L_X12_colour_37 N n 100 (jI b) (jI s) (bI P) (jI (if k + 1 = 0 then ((-1 : Int), (0 : Int)) else mst f (k + 1 - 1)).1) (jI (if k + 1 = 0 then ((-1 : Int), (0 : Int)) else mst f (k + 1 - 1)).2) (jI ((k + 1 : Nat) : Int)) (hp q G1)
          have IN : ∀ u v : Int, 0 ≤ v → v ≤ 160 → L_X12_colour_54 N (L_X12_colour_37 N n) N 100 (jI b) (jI s) (bI P) (jI u) (jI v) (jI (k : Int)) (jI 0) (jI 0) (hp q G1) = L_X12_colour_37 N n 100 (jI b) (jI s) (bI P) (jI (if v < f k then (k : Int) else u)) (jI (if v < f k then f k else v)) (jI (k + 1)) (hp q G1) := by
            intro u v v0 v1
            refine (loopE (N := N) (fun n' (t : Int × Int) => L_X12_colour_54 N (L_X12_colour_37 N n) n' 100 (jI b) (jI s) (bI P) (jI u) (jI v) (jI (k : Int)) (jI t.1) (jI t.2) (hp q G1)) (fun row => (sCk (G1 102) b s P k row, (row : Int))) (G1 102 (27 + b) * G1 102 (51 + b)).toNat (by omega) ?_ ?_)
            · intro m row hr
              show L_X12_colour_54 N (L_X12_colour_37 N n) (m + 1) 100 (jI b) (jI s) (bI P) (jI u) (jI v) (jI (k : Int)) (jI (sCk (G1 102) b s P k row)) (jI row) (hp q G1) = L_X12_colour_54 N (L_X12_colour_37 N n) m 100 (jI b) (jI s) (bI P) (jI u) (jI v) (jI (k : Int)) (jI (sCk (G1 102) b s P k (row + 1))) (jI ((row + 1 : Nat) : Int)) (hp q G1)
              obtain ⟨dm, dr, de, dl⟩ := rowDm hV1 c (row := row) ⟨by omega, by omega⟩
              have kd2 := hV1.2.2.2.1 b _ c.1 c.2 dm.1 dm.2
              rw [L_X12_colour_54]
              simp only [sCk, sm]
              by_cases x : G1 102 (83 + 4 * b + (row : Int) % G1 102 (27 + b)) = k
              · by_cases d : (sOI (G1 102) b row s = true) ↔ P
                · rw [if_neg (fun h => h.2 d)]
                  simp (maxSteps := 2000000) (disch := first | assumption | omega) only [jI0, iAdd_j, iSub_j, iMul_j, iNeg_j, Option.bind_some, jlt_t, jlt_f, jlt, jle_t, jle_f, jle, jeq_t, jeq_f, jeq, ↓reduceIte, o100, w100t, l102, mBand, mStake, mKind, mCross, mCr, mKindOf, mAhead, mWhen, mStep, mRods, mRodAt, mStakeAt, mIndex, mOver, mOverIn, jlL, X12_within, bI_t, bI_f, X12_no, iRem_p, bI_eq, d, Int.natCast_succ]
                · rw [if_pos ⟨x, d⟩]
                  simp (maxSteps := 2000000) (disch := first | assumption | omega) only [jI0, iAdd_j, iSub_j, iMul_j, iNeg_j, Option.bind_some, jlt_t, jlt_f, jlt, jle_t, jle_f, jle, jeq_t, jeq_f, jeq, ↓reduceIte, o100, l102, mKindOf, mOverIn, iRem_p, bI_eq, d, Int.natCast_succ]
              · rw [if_neg (fun h => x h.1)]
                simp (maxSteps := 2000000) (disch := first | assumption | omega) only [jI0, iAdd_j, iSub_j, iMul_j, iNeg_j, Option.bind_some, jlt_t, jlt_f, jlt, jle_t, jle_f, jle, jeq_t, jeq_f, jeq, ↓reduceIte, o100, w100t, l102, mBand, mStake, mKind, mCross, mCr, mKindOf, mAhead, mWhen, mStep, mRods, mRodAt, mStakeAt, mIndex, mOver, mOverIn, jlL, X12_within, bI_t, bI_f, X12_no, iRem_p, Int.natCast_succ]
            · intro m
              show L_X12_colour_54 N (L_X12_colour_37 N n) (m + 1) 100 (jI b) (jI s) (bI P) (jI u) (jI v) (jI (k : Int)) (jI (sCk (G1 102) b s P k (G1 102 (27 + b) * G1 102 (51 + b)).toNat)) (jI ((G1 102 (27 + b) * G1 102 (51 + b)).toNat : Int)) (hp q G1) = _
              have f1 := F k
              rw [L_X12_colour_54, fe]
              by_cases d : v < f k
              · rw [if_pos d, if_pos d]
                simp (maxSteps := 2000000) (disch := first | assumption | omega) only [jI0, iAdd_j, iSub_j, iMul_j, iNeg_j, Option.bind_some, jlt_t, jlt_f, jlt, jle_t, jle_f, jle, jeq_t, jeq_f, jeq, ↓reduceIte, o100, w100t, l102, mBand, mStake, mKind, mCross, mCr, mKindOf, mAhead, mWhen, mStep, mRods, mRodAt, mStakeAt, mIndex, mOver, mOverIn, jlL, X12_within, bI_t, bI_f, X12_no]
              · rw [if_neg d, if_neg d]
                simp (maxSteps := 2000000) (disch := first | assumption | omega) only [jI0, iAdd_j, iSub_j, iMul_j, iNeg_j, Option.bind_some, jlt_t, jlt_f, jlt, jle_t, jle_f, jle, jeq_t, jeq_f, jeq, ↓reduceIte, o100, w100t, l102, mBand, mStake, mKind, mCross, mCr, mKindOf, mAhead, mWhen, mStep, mRods, mRodAt, mStakeAt, mIndex, mOver, mOverIn, jlL, X12_within, bI_t, bI_f, X12_no]
          rw [L_X12_colour_37]
          simp only [show ¬ k + 1 = 0 by omega, ↓reduceIte, Nat.add_sub_cancel]
          simp (maxSteps := 2000000) (disch := first | assumption | omega) only [jI0, iAdd_j, iSub_j, iMul_j, iNeg_j, Option.bind_some, jlt_t, jlt_f, jlt, jle_t, jle_f, jle, jeq_t, jeq_f, jeq, ↓reduceIte, o100, w100t, l102, mBand, mStake, mKind, mCross, mCr, mKindOf, mAhead, mWhen, mStep, mRods, mRodAt, mStakeAt, mIndex, mOver, mOverIn, jlL, X12_within, bI_t, bI_f, X12_no]
          have f1 := F k
          match k, hk, IN, f1 with
          | 0, hk, IN, f1 =>
            rw [show ((0 : Nat) : Int) = 0 from rfl] at *
            simp only [↓reduceIte]
            rw [IN _ _ (by omega) (by omega), (mst_0 (fun i => (F i).1)).1, (mst_0 (fun i => (F i).1)).2]
            rfl
          | k + 1, hk, IN, f1 =>
            have mr := mst_r F k
            simp only [show ¬ k + 1 = 0 by omega, ↓reduceIte, Nat.add_sub_cancel]
            rw [Int.natCast_succ] at *
            rw [IN _ _ (by omega) (by omega), (mst_s (fun i => (F i).1) k).1, (mst_s (fun i => (F i).1) k).2]
            rfl
        · intro n
          show L_X12_colour_37 N (n + 1) 100 (jI b) (jI s) (bI P) (jI (if (G1 102 1).toNat = 0 then ((-1 : Int), (0 : Int)) else mst f ((G1 102 1).toNat - 1)).1) (jI _) (jI ((G1 102 1).toNat : Int)) (hp q G1) = _
          rw [if_neg (show ¬ (G1 102 1).toNat = 0 by omega), L_X12_colour_37]
          simp (maxSteps := 2000000) (disch := first | assumption | omega) only [jI0, iAdd_j, iSub_j, iMul_j, iNeg_j, Option.bind_some, jlt_t, jlt_f, jlt, jle_t, jle_f, jle, jeq_t, jeq_f, jeq, ↓reduceIte, o100, w100t, l102, mBand, mStake, mKind, mCross, mCr, mKindOf, mAhead, mWhen, mStep, mRods, mRodAt, mStakeAt, mIndex, mOver, mOverIn, jlL, X12_within, bI_t, bI_f, X12_no]
          unfold mst
          rw [← B5]
          by_cases d : f (bst f 5) = 0
          · rw [if_pos d, if_pos d]
          · rw [if_neg d, if_neg d]
    · refine OP.rf hI (-2) (jI (-2)) (by unfold f_X11_colour; simp (maxSteps := 2000000) (disch := first | assumption | omega) only [jI0, iAdd_j, iSub_j, iMul_j, iNeg_j, Option.bind_some, jlt_t, jlt_f, jlt, jle_t, jle_f, jle, jeq_t, jeq_f, jeq, ↓reduceIte, o0, o2, o12, hBand, hStake, hKind, hCross, hWeaver, oBand, oKindOf, oKind, oCr, oRing, oWv, oPer, oRows, oAhead, oWhen, oAll, oStep, oRods, oRodAt, oStakeAt, oOff, bI_t, bI_f, X11_refuse]) (by intro G1 hM e eo; have hV1 := hM.1; have hT1 := hM.2; (try rw [← e] at dm); (try rw [← e] at dr); (try rw [← e] at de); (try rw [← e] at dl); (try rw [← e] at hb); (try rw [← e] at hj); (try rw [← e] at hr); (try rw [← e] at hs); (try rw [← e] at pl); (try rw [← e] at al); (try rw [← e] at g); (try rw [← e] at c); (try rw [← e] at c1); (try rw [← e] at c2); (try rw [← e] at c3); (try rw [← e] at c4); (try rw [← e] at c5); (try rw [← e] at c6); (try rw [← e] at wb); (try rw [← e] at pr); (try rw [← e] at kd); (try rw [← e] at cr); (try rw [← e] at fe); (try rw [← e] at ra); (try rw [← e] at f1); (try rw [← e] at f2); (try rw [← e] at f3); (try rw [← e] at f4); (try rw [← e]); unfold f_X12_colour; simp (maxSteps := 2000000) (disch := first | assumption | omega) only [jI0, iAdd_j, iSub_j, iMul_j, iNeg_j, Option.bind_some, jlt_t, jlt_f, jlt, jle_t, jle_f, jle, jeq_t, jeq_f, jeq, ↓reduceIte, o100, w100t, l102, mBand, mStake, mKind, mCross, mCr, mKindOf, mAhead, mWhen, mStep, mRods, mRodAt, mStakeAt, mIndex, mOver, mOverIn, jlL, X12_within, bI_t, bI_f, X12_no])
  · refine OP.rf hI (-2) (jI (-2)) (by unfold f_X11_colour; simp (maxSteps := 2000000) (disch := first | assumption | omega) only [jI0, iAdd_j, iSub_j, iMul_j, iNeg_j, Option.bind_some, jlt_t, jlt_f, jlt, jle_t, jle_f, jle, jeq_t, jeq_f, jeq, ↓reduceIte, o0, o2, o12, hBand, hStake, hKind, hCross, hWeaver, oBand, oKindOf, oKind, oCr, oRing, oWv, oPer, oRows, oAhead, oWhen, oAll, oStep, oRods, oRodAt, oStakeAt, oOff, bI_t, bI_f, X11_refuse]) (by intro G1 hM e eo; have hV1 := hM.1; have hT1 := hM.2; (try rw [← e] at dm); (try rw [← e] at dr); (try rw [← e] at de); (try rw [← e] at dl); (try rw [← e] at hb); (try rw [← e] at hj); (try rw [← e] at hr); (try rw [← e] at hs); (try rw [← e] at pl); (try rw [← e] at al); (try rw [← e] at g); (try rw [← e] at c); (try rw [← e] at c1); (try rw [← e] at c2); (try rw [← e] at c3); (try rw [← e] at c4); (try rw [← e] at c5); (try rw [← e] at c6); (try rw [← e] at wb); (try rw [← e] at pr); (try rw [← e] at kd); (try rw [← e] at cr); (try rw [← e] at fe); (try rw [← e] at ra); (try rw [← e] at f1); (try rw [← e] at f2); (try rw [← e] at f3); (try rw [← e] at f4); (try rw [← e]); unfold f_X12_colour; simp (maxSteps := 2000000) (disch := first | assumption | omega) only [jI0, iAdd_j, iSub_j, iMul_j, iNeg_j, Option.bind_some, jlt_t, jlt_f, jlt, jle_t, jle_f, jle, jeq_t, jeq_f, jeq, ↓reduceIte, o100, w100t, l102, mBand, mStake, mKind, mCross, mCr, mKindOf, mAhead, mWhen, mStep, mRods, mRodAt, mStakeAt, mIndex, mOver, mOverIn, jlL, X12_within, bI_t, bI_f, X12_no])
theorem op_floats (hN : 10000 ≤ N) (hI : INV K1 K2 q G) {b w : Int} (h1 : -2147483648 ≤ b) (h2 : b < 2147483648) (h5 : -2147483648 ≤ w) (h6 : w < 2147483648) : OP K1 K2 q G (f_X11_floats N 0 (jI b) (jI w)) (f_X12_floats N 100 (jI b) (jI w)) := by
  have hB := hI.1.1; have hV := hB.1; have hT := hI.1.2.1; have g := hV.1
  by_cases c : 0 ≤ b ∧ b < G 102 26
  · have wb := hV.2.2.1 b c.1 c.2
    have cr := crF hV c.1 c.2
    by_cases c3 : 1 ≤ w ∧ w ≤ 9999
    · refine OP.sc hI (jI (sm (fun j => (sFl (sOv (G 102) b j) w (sCr (G 102) b).toNat).1) (G 102 (27 + b)).toNat)) ?_ ?_
      · have L : ∃ G1, WK G G1 ∧ f_X10_longStretches N 12 (jI b) (jI w) (hp q G) = some (jI (sm (fun j => (sFl (sOv (G 102) b j) w (sCr (G 102) b).toNat).1) (G 102 (27 + b)).toNat), hp q G1) := by
          unfold f_X10_longStretches
          refine loopQ (fun n (t : Int × Int × (Nat → Int → Int)) => L_X10_longStretches_5 N n 12 (jI b) (jI w) (jI t.1) (jI t.2.1) (hp q t.2.2)) (fun k t => t.1 = sm (fun j => (sFl (sOv (G 102) b j) w (sCr (G 102) b).toNat).1) k ∧ t.2.1 = k ∧ WK G t.2.2) (G 102 (27 + b)).toNat (fun r => ∃ G1, WK G G1 ∧ r = some (jI (sm (fun j => (sFl (sOv (G 102) b j) w (sCr (G 102) b).toNat).1) (G 102 (27 + b)).toNat), hp q G1)) (by omega) (s := (0, 0, G)) ⟨rfl, rfl, WK.refl hI.wv⟩ ?_ ?_
          · rintro n j ⟨z, i, G1⟩ hj ⟨rfl, rfl, hw⟩
            simp only at hw
            have IN : ∃ G2, WK G G2 ∧ L_X10_longStretches_28 N (L_X10_longStretches_5 N n) N 12 (jI b) (jI w) (jI (sm (fun j => (sFl (sOv (G 102) b j) w (sCr (G 102) b).toNat).1) j)) (jI (j : Int)) (jI 0) (jI 0) (jI 0) (hp q G1) = L_X10_longStretches_5 N n 12 (jI b) (jI w) (jI (sm (fun j => (sFl (sOv (G 102) b j) w (sCr (G 102) b).toNat).1) (j + 1))) (jI ((j + 1 : Nat) : Int)) (hp q G2) := by
              refine loopQ (fun n' (t : (Int × Int × Int) × Int × (Nat → Int → Int)) => L_X10_longStretches_28 N (L_X10_longStretches_5 N n) n' 12 (jI b) (jI w) (jI t.1.1) (jI (j : Int)) (jI t.1.2.1) (jI t.1.2.2) (jI t.2.1) (hp q t.2.2)) (fun i t => t.1 = (sm (fun j => (sFl (sOv (G 102) b j) w (sCr (G 102) b).toNat).1) j + (sFl (sOv (G 102) b j) w i).1, (sFl (sOv (G 102) b j) w i).2, if i = 0 then 0 else bz (sOv (G 102) b j (i - 1))) ∧ t.2.1 = i ∧ WK G t.2.2) (sCr (G 102) b).toNat (fun r => ∃ G2, WK G G2 ∧ r = L_X10_longStretches_5 N n 12 (jI b) (jI w) (jI (sm (fun j => (sFl (sOv (G 102) b j) w (sCr (G 102) b).toNat).1) (j + 1))) (jI ((j + 1 : Nat) : Int)) (hp q G2)) (by omega) (s := ((sm (fun j => (sFl (sOv (G 102) b j) w (sCr (G 102) b).toNat).1) j, 0, 0), 0, G1)) ⟨by simp [sFl], rfl, hw⟩ ?_ ?_
              · rintro m i ⟨z, i', G2⟩ hi ⟨rfl, rfl, hw2⟩
                simp only at hw2
                have e2 := hw2.e
                have hB1 := hw2.bb hB
                obtain ⟨G3, hw3, e⟩ := oGoes (q := q) hN hB1 hw2.wv (b := b) (j := j) (i := i) (by rw [e2]; exact c) (by rw [e2]; omega) (by rw [e2]; omega)
                rw [e2, bI_bz] at e
                refine ⟨(_, ((i + 1 : Nat) : Int), G3), ⟨rfl, rfl, hw2.trans hw3⟩, ?_⟩
                show L_X10_longStretches_28 N (L_X10_longStretches_5 N n) (m + 1) 12 (jI b) (jI w) (jI (_ + (sFl (sOv (G 102) b j) w i).1)) (jI (j : Int)) (jI (sFl (sOv (G 102) b j) w i).2) (jI (if i = 0 then 0 else bz (sOv (G 102) b j (i - 1)))) (jI (i : Int)) (hp q G2) = L_X10_longStretches_28 N (L_X10_longStretches_5 N n) m 12 (jI b) (jI w) (jI (_ + (sFl (sOv (G 102) b j) w (i + 1)).1)) (jI (j : Int)) (jI (sFl (sOv (G 102) b j) w (i + 1)).2) (jI (if i + 1 = 0 then 0 else bz (sOv (G 102) b j (((i + 1 : Nat) : Int) - 1)))) (jI ((i + 1 : Nat) : Int)) (hp q G3)
                generalize sm (fun j => (sFl (sOv (G 102) b j) w (sCr (G 102) b).toNat).1) j = S0
                have fr := sFl_r (sOv (G 102) b j) w i
                have b1 := bz_r (sOv (G 102) b j i)
                have b2 := bz_r (sOv (G 102) b j (i - 1))
                have J : ∀ v : Int, 0 ≤ v → v ≤ 2000 → J_X10_longStretches_72 N (L_X10_longStretches_28 N (L_X10_longStretches_5 N n) m) 12 (jI b) (jI w) (jI (S0 + (sFl (sOv (G 102) b j) w i).1)) (jI (j : Int)) (jI (i : Int)) (jI (bz (sOv (G 102) b j i))) (jI v) (hp q G3) = L_X10_longStretches_28 N (L_X10_longStretches_5 N n) m 12 (jI b) (jI w) (jI (S0 + ((sFl (sOv (G 102) b j) w i).1 + (if v = w + 1 then 1 else 0)))) (jI (j : Int)) (jI v) (jI (bz (sOv (G 102) b j i))) (jI (i + 1)) (hp q G3) := by
                  intro v v0 v1
                  unfold J_X10_longStretches_72
                  by_cases d : v = w + 1
                  · rw [if_pos d]
                    simp (maxSteps := 2000000) (disch := first | assumption | omega) only [jI0, iAdd_j, iSub_j, iMul_j, iNeg_j, Option.bind_some, jlt_t, jlt_f, jlt, jle_t, jle_f, jle, jeq_t, jeq_f, jeq, ↓reduceIte, Int.add_assoc]
                  · rw [if_neg d]
                    simp (maxSteps := 2000000) (disch := first | assumption | omega) only [jI0, iAdd_j, iSub_j, iMul_j, iNeg_j, Option.bind_some, jlt_t, jlt_f, jlt, jle_t, jle_f, jle, jeq_t, jeq_f, jeq, ↓reduceIte, Int.add_zero]
                rw [L_X10_longStretches_28]
                simp only [sFl, show ¬ i + 1 = 0 by omega, ↓reduceIte, Int.natCast_succ, Int.add_sub_cancel]
                by_cases d0 : i = 0
                · subst d0
                  rw [show ((0 : Nat) : Int) = 0 from rfl] at *
                  simp only [show ¬ 0 < 0 by omega, false_and, ↓reduceIte]
                  simp (maxSteps := 2000000) (disch := first | assumption | omega | (rw [e2]; omega)) only [jI0, iAdd_j, iSub_j, iMul_j, iNeg_j, Option.bind_some, jlt_t, jlt_f, jlt, jle_t, jle_f, jle, jeq_t, jeq_f, jeq, ↓reduceIte, o0, o2, o12, hBand, hStake, hKind, hCross, hWeaver, oBand, oKindOf, oKind, oCr, oRing, oWv, oPer, oRows, oAhead, oWhen, oAll, oStep, oRods, oRodAt, oStakeAt, oOff, bI_t, bI_f, X11_refuse, e, J, e2]
                · by_cases d : sOv (G 102) b j i = sOv (G 102) b j (i - 1)
                  · have h1 : 0 < i ∧ sOv (G 102) b j i = sOv (G 102) b j (i - 1) := ⟨by omega, d⟩
                    rw [if_neg d0, if_pos h1, ← d]
                    simp (maxSteps := 2000000) (disch := first | assumption | omega | (rw [e2]; omega)) only [jI0, iAdd_j, iSub_j, iMul_j, iNeg_j, Option.bind_some, jlt_t, jlt_f, jlt, jle_t, jle_f, jle, jeq_t, jeq_f, jeq, ↓reduceIte, o0, o2, o12, hBand, hStake, hKind, hCross, hWeaver, oBand, oKindOf, oKind, oCr, oRing, oWv, oPer, oRows, oAhead, oWhen, oAll, oStep, oRods, oRodAt, oStakeAt, oOff, bI_t, bI_f, X11_refuse, e, J, e2]
                  · have d2 : bz (sOv (G 102) b j i) ≠ bz (sOv (G 102) b j (i - 1)) := by
                      intro h
                      apply d
                      cases h1 : sOv (G 102) b j i <;> cases h2 : sOv (G 102) b j (i - 1) <;> simp [h1, h2, bz] at h ⊢
                    have h1 : ¬ (0 < i ∧ sOv (G 102) b j i = sOv (G 102) b j (i - 1)) := fun h => d h.2
                    rw [if_neg d0, if_neg h1]
                    simp (maxSteps := 2000000) (disch := first | assumption | omega | (rw [e2]; omega)) only [jI0, iAdd_j, iSub_j, iMul_j, iNeg_j, Option.bind_some, jlt_t, jlt_f, jlt, jle_t, jle_f, jle, jeq_t, jeq_f, jeq, ↓reduceIte, o0, o2, o12, hBand, hStake, hKind, hCross, hWeaver, oBand, oKindOf, oKind, oCr, oRing, oWv, oPer, oRows, oAhead, oWhen, oAll, oStep, oRods, oRodAt, oStakeAt, oOff, bI_t, bI_f, X11_refuse, e, J, e2]
              · rintro m ⟨z, i', G2⟩ ⟨rfl, rfl, hw2⟩
                simp only at hw2
                have e2 := hw2.e
                have hB1 := hw2.bb hB
                refine ⟨G2, hw2, ?_⟩
                show L_X10_longStretches_28 N (L_X10_longStretches_5 N n) (m + 1) 12 (jI b) (jI w) (jI _) (jI (j : Int)) (jI _) (jI _) (jI ((sCr (G 102) b).toNat : Int)) (hp q G2) = _
                rw [L_X10_longStretches_28]
                simp (maxSteps := 2000000) (disch := first | assumption | omega | (rw [e2]; omega)) only [jI0, iAdd_j, iSub_j, iMul_j, iNeg_j, Option.bind_some, jlt_t, jlt_f, jlt, jle_t, jle_f, jle, jeq_t, jeq_f, jeq, ↓reduceIte, o0, o2, o12, hBand, hStake, hKind, hCross, hWeaver, oBand, oKindOf, oKind, oCr, oRing, oWv, oPer, oRows, oAhead, oWhen, oAll, oStep, oRods, oRodAt, oStakeAt, oOff, bI_t, bI_f, X11_refuse, Int.natCast_succ, e2]
                rfl
            obtain ⟨G2, hw2, e⟩ := IN
            refine ⟨(_, ((j + 1 : Nat) : Int), G2), ⟨rfl, rfl, hw2⟩, ?_⟩
            refine Eq.trans ?_ e
            show L_X10_longStretches_5 N (n + 1) 12 (jI b) (jI w) (jI _) (jI (j : Int)) (hp q G1) = _
            have e2 := hw.e
            have hB1 := hw.bb hB
            rw [L_X10_longStretches_5]
            simp (maxSteps := 2000000) (disch := first | assumption | omega | (rw [e2]; omega)) only [jI0, iAdd_j, iSub_j, iMul_j, iNeg_j, Option.bind_some, jlt_t, jlt_f, jlt, jle_t, jle_f, jle, jeq_t, jeq_f, jeq, ↓reduceIte, o0, o2, o12, hBand, hStake, hKind, hCross, hWeaver, oBand, oKindOf, oKind, oCr, oRing, oWv, oPer, oRows, oAhead, oWhen, oAll, oStep, oRods, oRodAt, oStakeAt, oOff, bI_t, bI_f, X11_refuse, e2]
          · rintro n ⟨z, i, G1⟩ ⟨rfl, rfl, hw⟩
            simp only at hw
            have e2 := hw.e
            have hB1 := hw.bb hB
            refine ⟨G1, hw, ?_⟩
            show L_X10_longStretches_5 N (n + 1) 12 (jI b) (jI w) (jI _) (jI ((G 102 (27 + b)).toNat : Int)) (hp q G1) = _
            rw [L_X10_longStretches_5]
            simp (maxSteps := 2000000) (disch := first | assumption | omega | (rw [e2]; omega)) only [jI0, iAdd_j, iSub_j, iMul_j, iNeg_j, Option.bind_some, jlt_t, jlt_f, jlt, jle_t, jle_f, jle, jeq_t, jeq_f, jeq, ↓reduceIte, o0, o2, o12, hBand, hStake, hKind, hCross, hWeaver, oBand, oKindOf, oKind, oCr, oRing, oWv, oPer, oRows, oAhead, oWhen, oAll, oStep, oRods, oRodAt, oStakeAt, oOff, bI_t, bI_f, X11_refuse, e2]
        obtain ⟨G1, hw, e⟩ := L
        refine ⟨G1, hw.sc, ?_⟩
        unfold f_X11_floats
        simp (maxSteps := 2000000) (disch := first | assumption | omega) only [jI0, iAdd_j, iSub_j, iMul_j, iNeg_j, Option.bind_some, jlt_t, jlt_f, jlt, jle_t, jle_f, jle, jeq_t, jeq_f, jeq, ↓reduceIte, o0, o2, o12, hBand, hStake, hKind, hCross, hWeaver, oBand, oKindOf, oKind, oCr, oRing, oWv, oPer, oRows, oAhead, oWhen, oAll, oStep, oRods, oRodAt, oStakeAt, oOff, bI_t, bI_f, X11_refuse, e]
      · intro G1 s1 hM e
        refine ⟨G1, SC.refl, ?_⟩
        have hV1 := hM.1; have hT1 := hM.2; (try rw [← e] at dm); (try rw [← e] at dr); (try rw [← e] at de); (try rw [← e] at dl); (try rw [← e] at hb); (try rw [← e] at hj); (try rw [← e] at hr); (try rw [← e] at hs); (try rw [← e] at pl); (try rw [← e] at al); (try rw [← e] at g); (try rw [← e] at c); (try rw [← e] at c1); (try rw [← e] at c2); (try rw [← e] at c3); (try rw [← e] at c4); (try rw [← e] at c5); (try rw [← e] at c6); (try rw [← e] at wb); (try rw [← e] at pr); (try rw [← e] at kd); (try rw [← e] at cr); (try rw [← e] at fe); (try rw [← e] at ra); (try rw [← e] at f1); (try rw [← e] at f2); (try rw [← e] at f3); (try rw [← e] at f4); (try rw [← e])
        unfold f_X12_floats
        simp (maxSteps := 2000000) (disch := first | assumption | omega) only [jI0, iAdd_j, iSub_j, iMul_j, iNeg_j, Option.bind_some, jlt_t, jlt_f, jlt, jle_t, jle_f, jle, jeq_t, jeq_f, jeq, ↓reduceIte, o100, w100t, l102, mBand, mStake, mKind, mCross, mCr, mKindOf, mAhead, mWhen, mStep, mRods, mRodAt, mStakeAt, mIndex, mOver, mOverIn, jlL, X12_within, bI_t, bI_f, X12_no]
        refine loopE (N := N) (fun n (t : Int × Int) => L_X12_floats_44 N n 100 (jI b) (jI w) (jI t.1) (jI t.2) (hp q G1)) (fun k => (sm (fun j => (sFl (sOv (G1 102) b j) w (sCr (G1 102) b).toNat).1) k, (k : Int))) (G1 102 (27 + b)).toNat (by omega) ?_ ?_
        · intro n j hj
          show L_X12_floats_44 N (n + 1) 100 (jI b) (jI w) (jI (sm (fun j => (sFl (sOv (G1 102) b j) w (sCr (G1 102) b).toNat).1) j)) (jI (j : Int)) (hp q G1) = L_X12_floats_44 N n 100 (jI b) (jI w) (jI (sm (fun j => (sFl (sOv (G1 102) b j) w (sCr (G1 102) b).toNat).1) (j + 1))) (jI ((j + 1 : Nat) : Int)) (hp q G1)
          rw [L_X12_floats_44]
          simp (maxSteps := 2000000) (disch := first | assumption | omega) only [jI0, iAdd_j, iSub_j, iMul_j, iNeg_j, Option.bind_some, jlt_t, jlt_f, jlt, jle_t, jle_f, jle, jeq_t, jeq_f, jeq, ↓reduceIte, o100, w100t, l102, mBand, mStake, mKind, mCross, mCr, mKindOf, mAhead, mWhen, mStep, mRods, mRodAt, mStakeAt, mIndex, mOver, mOverIn, jlL, X12_within, bI_t, bI_f, X12_no]
          simp only [sm]
          generalize sm (fun j => (sFl (sOv (G1 102) b j) w (sCr (G1 102) b).toNat).1) j = S0
          refine (loopE (N := N) (fun n' (t : (Int × Int) × Int) => L_X12_floats_64 N (L_X12_floats_44 N n) n' 100 (jI b) (jI w) (jI t.1.1) (jI (j : Int)) (jI t.1.2) (jI t.2) (hp q G1)) (fun i => ((S0 + (sFl (sOv (G1 102) b j) w i).1, (sFl (sOv (G1 102) b j) w i).2), (i : Int))) (sCr (G1 102) b).toNat (by omega) ?_ ?_) |> Eq.trans ?_
          · show _ = L_X12_floats_64 N (L_X12_floats_44 N n) N 100 (jI b) (jI w) (jI (S0 + 0)) (jI (j : Int)) (jI 0) (jI 0) (hp q G1)
            rw [Int.add_zero]
          · intro m i hi
            show L_X12_floats_64 N (L_X12_floats_44 N n) (m + 1) 100 (jI b) (jI w) (jI (S0 + (sFl (sOv (G1 102) b j) w i).1)) (jI (j : Int)) (jI (sFl (sOv (G1 102) b j) w i).2) (jI (i : Int)) (hp q G1) = L_X12_floats_64 N (L_X12_floats_44 N n) m 100 (jI b) (jI w) (jI (S0 + (sFl (sOv (G1 102) b j) w (i + 1)).1)) (jI (j : Int)) (jI (sFl (sOv (G1 102) b j) w (i + 1)).2) (jI ((i + 1 : Nat) : Int)) (hp q G1)
            have fr := sFl_r (sOv (G1 102) b j) w i
            have J : ∀ v : Int, 0 ≤ v → v ≤ 2000 → J_X12_floats_110 N (L_X12_floats_64 N (L_X12_floats_44 N n) m) 100 (jI b) (jI w) (jI (S0 + (sFl (sOv (G1 102) b j) w i).1)) (jI (j : Int)) (jI (i : Int)) (jI v) (hp q G1) = L_X12_floats_64 N (L_X12_floats_44 N n) m 100 (jI b) (jI w) (jI (S0 + ((sFl (sOv (G1 102) b j) w i).1 + (if v = w + 1 then 1 else 0)))) (jI (j : Int)) (jI v) (jI (i + 1)) (hp q G1) := by
              intro v v0 v1
              unfold J_X12_floats_110
              by_cases d : v = w + 1
              · rw [if_pos d]
                simp (maxSteps := 2000000) (disch := first | assumption | omega) only [jI0, iAdd_j, iSub_j, iMul_j, iNeg_j, Option.bind_some, jlt_t, jlt_f, jlt, jle_t, jle_f, jle, jeq_t, jeq_f, jeq, ↓reduceIte, Int.add_assoc]
              · rw [if_neg d]
                simp (maxSteps := 2000000) (disch := first | assumption | omega) only [jI0, iAdd_j, iSub_j, iMul_j, iNeg_j, Option.bind_some, jlt_t, jlt_f, jlt, jle_t, jle_f, jle, jeq_t, jeq_f, jeq, ↓reduceIte, Int.add_zero]
            rw [L_X12_floats_64]
            simp only [sFl, Int.natCast_succ]
            by_cases d0 : i = 0
            · subst d0
              rw [show ((0 : Nat) : Int) = 0 from rfl] at *
              simp only [show ¬ 0 < 0 by omega, false_and, ↓reduceIte]
              simp (maxSteps := 2000000) (disch := first | assumption | omega) only [jI0, iAdd_j, iSub_j, iMul_j, iNeg_j, Option.bind_some, jlt_t, jlt_f, jlt, jle_t, jle_f, jle, jeq_t, jeq_f, jeq, ↓reduceIte, o100, w100t, l102, mBand, mStake, mKind, mCross, mCr, mKindOf, mAhead, mWhen, mStep, mRods, mRodAt, mStakeAt, mIndex, mOver, mOverIn, jlL, X12_within, bI_t, bI_f, X12_no, J]
            · by_cases d : sOv (G1 102) b j i = sOv (G1 102) b j (i - 1)
              · have h1 : 0 < i ∧ sOv (G1 102) b j i = sOv (G1 102) b j (i - 1) := ⟨by omega, d⟩
                rw [if_pos h1]
                simp (maxSteps := 2000000) (disch := first | assumption | omega) only [jI0, iAdd_j, iSub_j, iMul_j, iNeg_j, Option.bind_some, jlt_t, jlt_f, jlt, jle_t, jle_f, jle, jeq_t, jeq_f, jeq, ↓reduceIte, o100, w100t, l102, mBand, mStake, mKind, mCross, mCr, mKindOf, mAhead, mWhen, mStep, mRods, mRodAt, mStakeAt, mIndex, mOver, mOverIn, jlL, X12_within, bI_t, bI_f, X12_no, d, J]
              · have d2 : ¬ ((sOv (G1 102) b j i = true) ↔ (sOv (G1 102) b j (i - 1) = true)) := fun h => d (Bool.eq_iff_iff.mpr h)
                have h1 : ¬ (0 < i ∧ sOv (G1 102) b j i = sOv (G1 102) b j (i - 1)) := fun h => d h.2
                rw [if_neg h1]
                simp (maxSteps := 2000000) (disch := first | assumption | omega) only [jI0, iAdd_j, iSub_j, iMul_j, iNeg_j, Option.bind_some, jlt_t, jlt_f, jlt, jle_t, jle_f, jle, jeq_t, jeq_f, jeq, ↓reduceIte, o100, l102, mCr, mOver, bI_eq, d2, J]
          · intro m
            show L_X12_floats_64 N (L_X12_floats_44 N n) (m + 1) 100 (jI b) (jI w) (jI _) (jI (j : Int)) (jI _) (jI ((sCr (G1 102) b).toNat : Int)) (hp q G1) = _
            rw [L_X12_floats_64]
            simp (maxSteps := 2000000) (disch := first | assumption | omega) only [jI0, iAdd_j, iSub_j, iMul_j, iNeg_j, Option.bind_some, jlt_t, jlt_f, jlt, jle_t, jle_f, jle, jeq_t, jeq_f, jeq, ↓reduceIte, o100, w100t, l102, mBand, mStake, mKind, mCross, mCr, mKindOf, mAhead, mWhen, mStep, mRods, mRodAt, mStakeAt, mIndex, mOver, mOverIn, jlL, X12_within, bI_t, bI_f, X12_no, Int.natCast_succ]
        · intro n
          show L_X12_floats_44 N (n + 1) 100 (jI b) (jI w) (jI _) (jI ((G1 102 (27 + b)).toNat : Int)) (hp q G1) = _
          rw [L_X12_floats_44]
          simp (maxSteps := 2000000) (disch := first | assumption | omega) only [jI0, iAdd_j, iSub_j, iMul_j, iNeg_j, Option.bind_some, jlt_t, jlt_f, jlt, jle_t, jle_f, jle, jeq_t, jeq_f, jeq, ↓reduceIte, o100, w100t, l102, mBand, mStake, mKind, mCross, mCr, mKindOf, mAhead, mWhen, mStep, mRods, mRodAt, mStakeAt, mIndex, mOver, mOverIn, jlL, X12_within, bI_t, bI_f, X12_no]
    · refine OP.rf hI (-3) (jI (-3)) ?_ ?_
      · unfold f_X11_floats
        by_cases d : w < 1 <;> simp (maxSteps := 2000000) (disch := first | assumption | omega) only [jI0, iAdd_j, iSub_j, iMul_j, iNeg_j, Option.bind_some, jlt_t, jlt_f, jlt, jle_t, jle_f, jle, jeq_t, jeq_f, jeq, ↓reduceIte, o0, o2, o12, hBand, hStake, hKind, hCross, hWeaver, oBand, oKindOf, oKind, oCr, oRing, oWv, oPer, oRows, oAhead, oWhen, oAll, oStep, oRods, oRodAt, oStakeAt, oOff, bI_t, bI_f, X11_refuse]
      · intro G1 hM e eo
        have hV1 := hM.1; have hT1 := hM.2; (try rw [← e] at dm); (try rw [← e] at dr); (try rw [← e] at de); (try rw [← e] at dl); (try rw [← e] at hb); (try rw [← e] at hj); (try rw [← e] at hr); (try rw [← e] at hs); (try rw [← e] at pl); (try rw [← e] at al); (try rw [← e] at g); (try rw [← e] at c); (try rw [← e] at c1); (try rw [← e] at c2); (try rw [← e] at c3); (try rw [← e] at c4); (try rw [← e] at c5); (try rw [← e] at c6); (try rw [← e] at wb); (try rw [← e] at pr); (try rw [← e] at kd); (try rw [← e] at cr); (try rw [← e] at fe); (try rw [← e] at ra); (try rw [← e] at f1); (try rw [← e] at f2); (try rw [← e] at f3); (try rw [← e] at f4); (try rw [← e])
        unfold f_X12_floats
        simp (maxSteps := 2000000) (disch := first | assumption | omega) only [jI0, iAdd_j, iSub_j, iMul_j, iNeg_j, Option.bind_some, jlt_t, jlt_f, jlt, jle_t, jle_f, jle, jeq_t, jeq_f, jeq, ↓reduceIte, o100, w100t, l102, mBand, mStake, mKind, mCross, mCr, mKindOf, mAhead, mWhen, mStep, mRods, mRodAt, mStakeAt, mIndex, mOver, mOverIn, jlL, X12_within, bI_t, bI_f, X12_no]
  · refine OP.rf hI (-2) (jI (-2)) (by unfold f_X11_floats; simp (maxSteps := 2000000) (disch := first | assumption | omega) only [jI0, iAdd_j, iSub_j, iMul_j, iNeg_j, Option.bind_some, jlt_t, jlt_f, jlt, jle_t, jle_f, jle, jeq_t, jeq_f, jeq, ↓reduceIte, o0, o2, o12, hBand, hStake, hKind, hCross, hWeaver, oBand, oKindOf, oKind, oCr, oRing, oWv, oPer, oRows, oAhead, oWhen, oAll, oStep, oRods, oRodAt, oStakeAt, oOff, bI_t, bI_f, X11_refuse]) (by intro G1 hM e eo; have hV1 := hM.1; have hT1 := hM.2; (try rw [← e] at dm); (try rw [← e] at dr); (try rw [← e] at de); (try rw [← e] at dl); (try rw [← e] at hb); (try rw [← e] at hj); (try rw [← e] at hr); (try rw [← e] at hs); (try rw [← e] at pl); (try rw [← e] at al); (try rw [← e] at g); (try rw [← e] at c); (try rw [← e] at c1); (try rw [← e] at c2); (try rw [← e] at c3); (try rw [← e] at c4); (try rw [← e] at c5); (try rw [← e] at c6); (try rw [← e] at wb); (try rw [← e] at pr); (try rw [← e] at kd); (try rw [← e] at cr); (try rw [← e] at fe); (try rw [← e] at ra); (try rw [← e] at f1); (try rw [← e] at f2); (try rw [← e] at f3); (try rw [← e] at f4); (try rw [← e]); unfold f_X12_floats; simp (maxSteps := 2000000) (disch := first | assumption | omega) only [jI0, iAdd_j, iSub_j, iMul_j, iNeg_j, Option.bind_some, jlt_t, jlt_f, jlt, jle_t, jle_f, jle, jeq_t, jeq_f, jeq, ↓reduceIte, o100, w100t, l102, mBand, mStake, mKind, mCross, mCr, mKindOf, mAhead, mWhen, mStep, mRods, mRodAt, mStakeAt, mIndex, mOver, mOverIn, jlL, X12_within, bI_t, bI_f, X12_no])
end
