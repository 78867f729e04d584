/-! call: plait -/
section
variable {K1 K2 : (Int → Int) → (Int → Int) → Prop} {q : Nat × Nat × (Nat → Nat)} {G : Nat → Int → Int} {N : Nat}
theorem mPl {r : Nat} (hN : 10000 ≤ N) (hr : r < 4) (p : RP G r) {n : Nat} {m : Nat} {w : Int} (hn : G (37 + 2 * r) 0 = n) (hm : 2 ≤ m ∧ m ≤ 9) (hw : (0 ≤ w ∧ w ≤ 1) ∨ (10 ≤ w ∧ w ≤ 18)) (hv : ∀ k : Nat, k < n → 1 - (m : Int) ≤ G (38 + 2 * r) k ∧ G (38 + 2 * r) k ≤ (m : Int) - 2) : ∃ G1, ((∀ a, a ≠ 109 → a ≠ 110 → G1 a = G a) ∧ ∀ k : Int, 0 ≤ k → k < m → G1 109 k = plP (G (38 + 2 * r)) n k) ∧ L_X12_plait_103 N N 100 (jI r) (jI m) (jI w) (jI 0) (hp q G) = (if w < 10 then (if w = 1 then some (jI (plS (G (38 + 2 * r)) n).1, hp q G1) else L_X12_plait_302 N N 100 (jI m) (jI 1) (jI 0) (hp q G1)) else if w - 10 < m then some (jI (plP (G (38 + 2 * r)) n (w - 10)), hp q G1) else some (jI (-1), hp q G1)) := by
  have n40 : n ≤ 40 := by have := p.2.1; omega
  have S : ∃ G1, ((∀ a, a ≠ 109 → a ≠ 110 → G1 a = G a) ∧ ∀ k : Int, 0 ≤ k → k < m → G1 109 k = k) ∧ L_X12_plait_103 N N 100 (jI r) (jI m) (jI w) (jI 0) (hp q G) = L_X12_plait_130 N N 100 (jI r) (jI m) (jI w) (jI 0) (jI 0) (hp q G1) := by
    refine loopG (N := N) (fun f (t : Int × (Nat → Int → Int)) => L_X12_plait_103 N f 100 (jI r) (jI m) (jI w) (jI t.1) (hp q t.2)) (fun k t => t.1 = k ∧ (∀ a, a ≠ 109 → a ≠ 110 → t.2 a = G a) ∧ ∀ j : Int, 0 ≤ j → j < k → t.2 109 j = j) m (by omega) (s := (0, G)) ⟨rfl, fun _ _ _ => rfl, fun j j0 j1 => by omega⟩ ?_ ?_
    · rintro f k ⟨i, G1⟩ hk ⟨rfl, t1, t2⟩
      simp only at t1 t2
      refine ⟨(((k + 1 : Nat) : Int), up G1 109 k k), ⟨rfl, fun a ha hb => (up_ne ha).trans (t1 a ha hb), fun j j0 j1 => ?_⟩, ?_⟩
      · show up G1 109 k k 109 j = j
        rw [up_eq]
        by_cases c : j = k
        · rw [c, u1_eq]
        · rw [u1_ne c]; exact t2 j j0 (by omega)
      · show L_X12_plait_103 N (f + 1) 100 (jI r) (jI m) (jI w) (jI (k : Int)) (hp q G1) = L_X12_plait_103 N f 100 (jI r) (jI m) (jI w) (jI ((k + 1 : Nat) : Int)) (hp q (up G1 109 k k))
        rw [L_X12_plait_103]
        simp (maxSteps := 2000000) (disch := first | assumption | omega) only [jI0, iAdd_j, iSub_j, iMul_j, iNeg_j, Option.bind_some, jlt_t, jlt_f, jlt, jle_t, jle_f, jle, jeq_t, jeq_f, jeq, ↓reduceIte, o100, s109, Int.natCast_succ]
    · rintro f ⟨i, G1⟩ ⟨rfl, t1, t2⟩
      simp only at t1 t2
      refine ⟨G1, ⟨t1, t2⟩, ?_⟩
      show L_X12_plait_103 N (f + 1) 100 (jI r) (jI m) (jI w) (jI (m : Nat)) (hp q G1) = _
      rw [L_X12_plait_103]
      simp (maxSteps := 2000000) (disch := first | assumption | omega) only [jI0, iAdd_j, iSub_j, iMul_j, iNeg_j, Option.bind_some, jlt_t, jlt_f, jlt, jle_t, jle_f, jle, jeq_t, jeq_f, jeq, ↓reduceIte]
  obtain ⟨G0, ⟨a1, a2⟩, eS⟩ := S
  rw [eS]
  refine loopG (N := N) (fun f (t : Nat × Int × (Nat → Int → Int)) => L_X12_plait_130 N f 100 (jI r) (jI m) (jI w) (jI t.1) (jI t.2.1) (hp q t.2.2)) (fun k t => t.1 = (plS (G (38 + 2 * r)) k).1 ∧ t.2.1 = k ∧ (∀ a, a ≠ 109 → a ≠ 110 → t.2.2 a = G a) ∧ (∀ j : Int, 0 ≤ j → j < (plS (G (38 + 2 * r)) k).1 → t.2.2 110 j = (plS (G (38 + 2 * r)) k).2 j) ∧ ∀ j : Int, 0 ≤ j → j < m → t.2.2 109 j = plP (G (38 + 2 * r)) k j) n (by omega) (s := (0, 0, G0)) ⟨rfl, rfl, a1, fun j j0 j1 => by
    have : j < ((0 : Nat) : Int) := j1
    omega, a2⟩ ?_ ?_
  · rintro f k ⟨c, i, G1⟩ hk ⟨rfl, rfl, t1, t2, t3⟩
    simp only at t1 t2 t3
    have vk := hv k hk
    have px := plx_r vk.1 vk.2
    have vv := (p.2.2.2.2.2.2 k (by omega) (by omega)).1
    have e118 : G1 118 r = n := by rw [t1 _ (by decide) (by decide), p.2.2.1, hn]
    have e119 : G1 119 (40 * r + k) = G (38 + 2 * r) k := by rw [t1 _ (by decide) (by decide), vv]
    have sr := plS_r (v := G (38 + 2 * r)) (i := k) (fun j hj => by have := hv j (by omega); omega)
    have se : plS (G (38 + 2 * r)) (k + 1) = if 0 < (plS (G (38 + 2 * r)) k).1 ∧ (plS (G (38 + 2 * r)) k).2 ((plS (G (38 + 2 * r)) k).1 - 1) = -1 - G (38 + 2 * r) k then ((plS (G (38 + 2 * r)) k).1 - 1, (plS (G (38 + 2 * r)) k).2) else ((plS (G (38 + 2 * r)) k).1 + 1, u1 (plS (G (38 + 2 * r)) k).2 (plS (G (38 + 2 * r)) k).1 (G (38 + 2 * r) k)) := rfl
    have b1 := t3 (plx (G (38 + 2 * r) k)) (by omega) (by omega)
    have b2 := t3 (plx (G (38 + 2 * r) k) + 1) (by omega) (by omega)
    generalize hG2 : up (up G1 109 (plx (G (38 + 2 * r) k)) (plP (G (38 + 2 * r)) k (plx (G (38 + 2 * r) k) + 1))) 109 (plx (G (38 + 2 * r) k) + 1) (plP (G (38 + 2 * r)) k (plx (G (38 + 2 * r) k))) = G2
    have f1 : ∀ a, a ≠ 109 → G2 a = G1 a := fun a ha => by rw [← hG2, up_ne ha, up_ne ha]
    have f2 : ∀ j : Int, 0 ≤ j → j < m → G2 109 j = plP (G (38 + 2 * r)) (k + 1) j := by
      intro j j0 j1
      rw [← hG2]
      (try dsimp only)
      rw [up_eq, up_eq]
      simp only [plP]
      by_cases c : j = plx (G (38 + 2 * r) k) + 1
      · rw [c, u1_eq, u1_eq]
      · rw [u1_ne c, u1_ne c]
        by_cases d : j = plx (G (38 + 2 * r) k)
        · rw [d, u1_eq, u1_eq]
        · rw [u1_ne d, u1_ne d]; exact t3 j j0 j1
    generalize plS (G (38 + 2 * r)) k = S at *
    have c1' : ∀ x : Int32, L_X12_plait_130 N (f + 1) 100 (jI r) (jI m) (jI w) x (jI (k : Int)) (hp q G1) = J_X12_plait_173 N (L_X12_plait_130 N f) 100 (jI r) (jI m) (jI w) x (jI (k : Int)) (jL (G (38 + 2 * r) k)) (jL (plx (G (38 + 2 * r) k))) (hp q G1) := by
      intro x
      have j0 := jL_lt (a := G (38 + 2 * r) k) (b := 0) (by omega) (by omega) (by omega) (by omega)
      rw [L_X12_plait_130]
      by_cases c : G (38 + 2 * r) k < 0
      · have e : plx (G (38 + 2 * r) k) = -1 - G (38 + 2 * r) k := if_pos c
        rw [e]
        simp (maxSteps := 2000000) (disch := first | assumption | omega) only [jI0, iAdd_j, iSub_j, iMul_j, iNeg_j, Option.bind_some, jlt_t, jlt_f, jlt, jle_t, jle_f, jle, jeq_t, jeq_f, jeq, ↓reduceIte, o100, l118, l119, e118, e119, j0, c, lSub_j]
      · have e : plx (G (38 + 2 * r) k) = G (38 + 2 * r) k := if_neg c
        rw [e]
        simp (maxSteps := 2000000) (disch := first | assumption | omega) only [jI0, iAdd_j, iSub_j, iMul_j, iNeg_j, Option.bind_some, jlt_t, jlt_f, jlt, jle_t, jle_f, jle, jeq_t, jeq_f, jeq, ↓reduceIte, o100, l118, l119, e118, e119, j0, c]
    by_cases c1 : 0 < S.1 ∧ S.2 (S.1 - 1) = -1 - G (38 + 2 * r) k
    · rw [if_pos c1] at se
      refine ⟨(S.1 - 1, ((k + 1 : Nat) : Int), G2), ⟨by rw [se], rfl, fun a ha hb => (f1 a ha).trans (t1 a ha hb), fun j j0 j1 => ?_, f2⟩, ?_⟩
      · rw [se] at j1 ⊢
        have j2 : j < ((S.1 - 1 : Nat) : Int) := j1
        show G2 110 j = _
        rw [f1 _ (by decide)]
        exact t2 j j0 (by omega)
      · show L_X12_plait_130 N (f + 1) 100 (jI r) (jI m) (jI w) (jI S.1) (jI (k : Int)) (hp q G1) = L_X12_plait_130 N f 100 (jI r) (jI m) (jI w) (jI ((S.1 - 1 : Nat) : Int)) (jI ((k + 1 : Nat) : Int)) (hp q G2)
        have b := t2 (S.1 - 1) (by omega) (by omega)
        rw [c1.2, ← f1 110 (by decide)] at b
        have e1 : ((S.1 - 1 : Nat) : Int) = (S.1 : Int) + -1 := by omega
        rw [c1', e1]
        unfold J_X12_plait_173
        simp (maxSteps := 2000000) (disch := first | assumption | omega) only [jI0, iAdd_j, iSub_j, iMul_j, iNeg_j, Option.bind_some, jlt_t, jlt_f, jlt, jle_t, jle_f, jle, jeq_t, jeq_f, jeq, ↓reduceIte, o100, jLI, l109, s109, b1, b2, hG2, l110, b, lSub_j, Int.natCast_succ]
    · rw [if_neg c1] at se
      refine ⟨(S.1 + 1, ((k + 1 : Nat) : Int), up G2 110 S.1 (G (38 + 2 * r) k)), ⟨by rw [se], rfl, fun a ha hb => (up_ne hb).trans ((f1 a ha).trans (t1 a ha hb)), fun j j0 j1 => ?_, fun j j0 j1 => ?_⟩, ?_⟩
      · rw [se] at j1 ⊢
        have j2 : j < ((S.1 + 1 : Nat) : Int) := j1
        show up G2 110 S.1 (G (38 + 2 * r) k) 110 j = u1 S.2 S.1 (G (38 + 2 * r) k) j
        rw [up_eq]
        by_cases d : j = S.1
        · rw [d, u1_eq, u1_eq]
        · rw [u1_ne d, u1_ne d, f1 _ (by decide)]
          exact t2 j j0 (by omega)
      · show up G2 110 S.1 (G (38 + 2 * r) k) 109 j = _
        rw [up_ne (by decide)]
        exact f2 j j0 j1
      · show L_X12_plait_130 N (f + 1) 100 (jI r) (jI m) (jI w) (jI S.1) (jI (k : Int)) (hp q G1) = L_X12_plait_130 N f 100 (jI r) (jI m) (jI w) (jI ((S.1 + 1 : Nat) : Int)) (jI ((k + 1 : Nat) : Int)) (hp q (up G2 110 S.1 (G (38 + 2 * r) k)))
        rw [c1']
        unfold J_X12_plait_173
        by_cases d : 0 < S.1
        · have b := t2 (S.1 - 1) (by omega) (by omega)
          rw [← f1 110 (by decide)] at b
          have sb := sr.2 (S.1 - 1) (by omega) (by omega)
          have ne : S.2 (S.1 - 1) ≠ -1 - G (38 + 2 * r) k := fun x => c1 ⟨d, x⟩
          have je := jL_eq (a := S.2 (S.1 - 1)) (b := -1 - G (38 + 2 * r) k) (by omega) (by omega) (by omega) (by omega)
          simp (maxSteps := 2000000) (disch := first | assumption | omega) only [jI0, iAdd_j, iSub_j, iMul_j, iNeg_j, Option.bind_some, jlt_t, jlt_f, jlt, jle_t, jle_f, jle, jeq_t, jeq_f, jeq, ↓reduceIte, o100, jLI, l109, s109, b1, b2, hG2, l110, s110, b, lSub_j, je, ne, Int.natCast_succ]
        · simp (maxSteps := 2000000) (disch := first | assumption | omega) only [jI0, iAdd_j, iSub_j, iMul_j, iNeg_j, Option.bind_some, jlt_t, jlt_f, jlt, jle_t, jle_f, jle, jeq_t, jeq_f, jeq, ↓reduceIte, o100, jLI, l109, s109, b1, b2, hG2, s110, Int.natCast_succ]
  · rintro f ⟨c, i, G1⟩ ⟨rfl, rfl, t1, t2, t3⟩
    simp only at t1 t2 t3
    have e118 : G1 118 r = n := by rw [t1 _ (by decide) (by decide), p.2.2.1, hn]
    refine ⟨G1, ⟨t1, t3⟩, ?_⟩
    show L_X12_plait_130 N (f + 1) 100 (jI r) (jI m) (jI w) (jI (plS (G (38 + 2 * r)) n).1) (jI (n : Int)) (hp q G1) = _
    rw [L_X12_plait_130]
    by_cases d0 : w < 10
    · rw [if_pos d0]
      by_cases d1 : w = 1
      · rw [if_pos d1]
        simp (maxSteps := 2000000) (disch := first | assumption | omega) only [jI0, iAdd_j, iSub_j, iMul_j, iNeg_j, Option.bind_some, jlt_t, jlt_f, jlt, jle_t, jle_f, jle, jeq_t, jeq_f, jeq, ↓reduceIte, o100, l118, e118]
      · rw [if_neg d1]
        simp (maxSteps := 2000000) (disch := first | assumption | omega) only [jI0, iAdd_j, iSub_j, iMul_j, iNeg_j, Option.bind_some, jlt_t, jlt_f, jlt, jle_t, jle_f, jle, jeq_t, jeq_f, jeq, ↓reduceIte, o100, l118, e118]
    · rw [if_neg d0]
      by_cases d1 : w - 10 < m
      · have g := t3 (w - 10) (by omega) d1
        rw [if_pos d1]
        simp (maxSteps := 2000000) (disch := first | assumption | omega) only [jI0, iAdd_j, iSub_j, iMul_j, iNeg_j, Option.bind_some, jlt_t, jlt_f, jlt, jle_t, jle_f, jle, jeq_t, jeq_f, jeq, ↓reduceIte, o100, l118, e118, l109, g]
      · rw [if_neg d1]
        simp (maxSteps := 2000000) (disch := first | assumption | omega) only [jI0, iAdd_j, iSub_j, iMul_j, iNeg_j, Option.bind_some, jlt_t, jlt_f, jlt, jle_t, jle_f, jle, jeq_t, jeq_f, jeq, ↓reduceIte, o100, l118, e118]
theorem plP_c {v v2 : Int → Int} : ∀ {n : Nat}, (∀ k : Nat, k < n → v2 k = v k) → plP v2 n = plP v n
  | 0, _ => rfl
  | n + 1, h => by simp only [plP]; rw [plP_c (fun k hk => h k (by omega)), h n (by omega)]
theorem plS_c {v v2 : Int → Int} : ∀ {n : Nat}, (∀ k : Nat, k < n → v2 k = v k) → plS v2 n = plS v n
  | 0, _ => rfl
  | n + 1, h => by simp only [plS]; rw [plS_c (fun k hk => h k (by omega)), h n (by omega)]
theorem op_plait (hN : 10000 ≤ N) (hI : INV K1 K2 q G) {row m w : Int} (h1 : -2147483648 ≤ row) (h2 : row < 2147483648) (h3 : -2147483648 ≤ m) (h4 : m < 2147483648) (h5 : -2147483648 ≤ w) (h6 : w < 2147483648) : OP K1 K2 q G (f_X11_plait N 0 (jI row) (jI m) (jI w)) (f_X12_plait N 100 (jI row) (jI m) (jI w)) := by
  have hB := hI.1.1; have hV := hB.1; have hT := hI.1.2.1; have g := hV.1
  by_cases c : 0 ≤ row ∧ row < 4
  · obtain ⟨r, rfl⟩ := Int.eq_ofNat_of_zero_le c.1
    have hr : r < 4 := by omega
    by_cases c1 : (0 ≤ w ∧ w ≤ 1) ∨ (10 ≤ w ∧ w ≤ 18)
    · have FC : f_X11_plait N 0 (jI r) (jI m) (jI w) (hp q G) = J_X11_plait_48 N 0 (jI r) (jI m) (jI w) (hp q G) := by
        have ir := oIsRow (q := q) (N := N) (G := G) (i := (r : Int)) (by omega) (by omega)
        rw [bI_t c] at ir
        unfold f_X11_plait J_X11_plait_17
        by_cases d : w < 10
        · by_cases d1 : w = 0
          · simp (maxSteps := 2000000) (disch := first | assumption | omega) only [jI0, iAdd_j, iSub_j, iMul_j, iNeg_j, Option.bind_some, jlt_t, jlt_f, jlt, jle_t, jle_f, jle, jeq_t, jeq_f, jeq, ↓reduceIte, o0, o2, o12, hBand, hStake, hKind, hCross, hWeaver, oBand, oKindOf, oKind, oCr, oRing, oWv, oPer, oRows, oAhead, oWhen, oAll, oStep, oRods, oRodAt, oStakeAt, oOff, bI_t, bI_f, X11_refuse, ir]
          · have : w = 1 := by omega
            simp (maxSteps := 2000000) (disch := first | assumption | omega) only [jI0, iAdd_j, iSub_j, iMul_j, iNeg_j, Option.bind_some, jlt_t, jlt_f, jlt, jle_t, jle_f, jle, jeq_t, jeq_f, jeq, ↓reduceIte, o0, o2, o12, hBand, hStake, hKind, hCross, hWeaver, oBand, oKindOf, oKind, oCr, oRing, oWv, oPer, oRows, oAhead, oWhen, oAll, oStep, oRods, oRodAt, oStakeAt, oOff, bI_t, bI_f, X11_refuse, ir]
        · simp (maxSteps := 2000000) (disch := first | assumption | omega) only [jI0, iAdd_j, iSub_j, iMul_j, iNeg_j, Option.bind_some, jlt_t, jlt_f, jlt, jle_t, jle_f, jle, jeq_t, jeq_f, jeq, ↓reduceIte, o0, o2, o12, hBand, hStake, hKind, hCross, hWeaver, oBand, oKindOf, oKind, oCr, oRing, oWv, oPer, oRows, oAhead, oWhen, oAll, oStep, oRods, oRodAt, oStakeAt, oOff, bI_t, bI_f, X11_refuse, ir]
      have FM : ∀ G1, MV G1 → f_X12_plait N 100 (jI r) (jI m) (jI w) (hp q G1) = J_X12_plait_48 N 100 (jI r) (jI m) (jI w) (hp q G1) := by
        intro G1 hM
        have hT1 := hM.2
        unfold f_X12_plait
        by_cases d : 0 ≤ w ∧ w ≤ 1
        · simp (maxSteps := 2000000) (disch := first | assumption | omega) only [jI0, iAdd_j, iSub_j, iMul_j, iNeg_j, Option.bind_some, jlt_t, jlt_f, jlt, jle_t, jle_f, jle, jeq_t, jeq_f, jeq, ↓reduceIte, o100, w100t, l102, mBand, mStake, mKind, mCross, mCr, mKindOf, mAhead, mWhen, mStep, mRods, mRodAt, mStakeAt, mIndex, mOver, mOverIn, jlL, X12_within, bI_t, bI_f, X12_no]
        · simp (maxSteps := 2000000) (disch := first | assumption | omega) only [jI0, iAdd_j, iSub_j, iMul_j, iNeg_j, Option.bind_some, jlt_t, jlt_f, jlt, jle_t, jle_f, jle, jeq_t, jeq_f, jeq, ↓reduceIte, o100, w100t, l102, mBand, mStake, mKind, mCross, mCr, mKindOf, mAhead, mWhen, mStep, mRods, mRodAt, mStakeAt, mIndex, mOver, mOverIn, jlL, X12_within, bI_t, bI_f, X12_no]
      rcases hI.rp hr with ⟨m1, m2⟩ | pr
      · refine OP.rf hI (-6) (jI (-6)) ?_ ?_
        · rw [FC]
          unfold J_X11_plait_48
          simp (maxSteps := 2000000) (disch := first | assumption | omega) only [jI0, iAdd_j, iSub_j, iMul_j, iNeg_j, Option.bind_some, jlt_t, jlt_f, jlt, jle_t, jle_f, jle, jeq_t, jeq_f, jeq, ↓reduceIte, o0, o2, o12, hBand, hStake, hKind, hCross, hWeaver, oBand, oKindOf, oKind, oCr, oRing, oWv, oPer, oRows, oAhead, oWhen, oAll, oStep, oRods, oRodAt, oStakeAt, oOff, bI_t, bI_f, X11_refuse, rA, ro, oMiss]
        · intro G1 hM e eo
          rw [FM G1 hM]
          rw [← eo 117 (by decide)] at m2
          have hV1 := hM.1; have hT1 := hM.2; (try rw [← e] at dm); (try rw [← e] at dr); (try rw [← e] at de); (try rw [← e] at dl); (try rw [← e] at hb); (try rw [← e] at hj); (try rw [← e] at hr); (try rw [← e] at hs); (try rw [← e] at pl); (try rw [← e] at al); (try rw [← e] at g); (try rw [← e] at c); (try rw [← e] at c1); (try rw [← e] at c2); (try rw [← e] at c3); (try rw [← e] at c4); (try rw [← e] at c5); (try rw [← e] at c6); (try rw [← e] at wb); (try rw [← e] at pr); (try rw [← e] at kd); (try rw [← e] at cr); (try rw [← e] at fe); (try rw [← e] at ra); (try rw [← e] at f1); (try rw [← e] at f2); (try rw [← e] at f3); (try rw [← e] at f4); (try rw [← e])
          unfold J_X12_plait_48
          simp (maxSteps := 2000000) (disch := first | assumption | omega) only [jI0, iAdd_j, iSub_j, iMul_j, iNeg_j, Option.bind_some, jlt_t, jlt_f, jlt, jle_t, jle_f, jle, jeq_t, jeq_f, jeq, ↓reduceIte, o100, w100t, l102, mBand, mStake, mKind, mCross, mCr, mKindOf, mAhead, mWhen, mStep, mRods, mRodAt, mStakeAt, mIndex, mOver, mOverIn, jlL, X12_within, bI_t, bI_f, X12_no, l117]
      · obtain ⟨p1, p2, p3, p4, p5, p6, p7⟩ := id pr
        have cz : ¬ bI (G (37 + 2 * r) 0 = -1) = jI 1 := by rw [bI_1]; omega
        by_cases c2 : (2 ≤ m ∧ m ≤ 9) ∧ AW G r (1 - m) (m - 2)
        · obtain ⟨c3, c5⟩ := c2
          have wo := oWithin (q := q) hN hr pr (lo := 1 - m) (hi := m - 2) (by omega) (by omega)
          rw [cI_t c5] at wo
          obtain ⟨n, hn⟩ := Int.eq_ofNat_of_zero_le p1
          obtain ⟨m, rfl⟩ := Int.eq_ofNat_of_zero_le (show 0 ≤ m by omega)
          have hv : ∀ k : Nat, k < n → 1 - (m : Int) ≤ G (38 + 2 * r) k ∧ G (38 + 2 * r) k ≤ (m : Int) - 2 := fun k hk => c5 k (by omega) (by omega)
          have hv9 : ∀ k : Nat, k < n → -9 ≤ G (38 + 2 * r) k ∧ G (38 + 2 * r) k ≤ 9 := fun k hk => by have := hv k hk; omega
          have hP : PM (plP (G (38 + 2 * r)) n) m := plP_m (fun k hk => plx_r (hv k hk).1 (hv k hk).2)
          obtain ⟨L, hL⟩ : ∃ L : Nat → Nat, ∀ k : Nat, k < m → RG (plP (G (38 + 2 * r)) n) m k (L k) := by
            have H : ∀ k : Nat, ∃ l : Nat, k < m → RG (plP (G (38 + 2 * r)) n) m k l := fun k => by
              by_cases d : k < m
              · obtain ⟨l, hl⟩ := RG_ex hP (k := (k : Int)) (by omega) (by omega)
                exact ⟨l, fun _ => hl⟩
              · exact ⟨0, fun x => absurd x d⟩
            exact ⟨fun k => Classical.choose (H k), fun k hk => Classical.choose_spec (H k) hk⟩
          refine OP.sc hI (jI (if w < 10 then (if w = 1 then ((plS (G (38 + 2 * r)) n).1 : Int) else orP L m) else if w - 10 < m then plP (G (38 + 2 * r)) n (w - 10) else -1)) ?_ ?_
          · rw [FC]
            unfold J_X11_plait_48
            by_cases d1 : w = 1
            · obtain ⟨G1, t1, t2⟩ := oLeftP (q := q) hN hr pr hn hv9
              refine ⟨G1, SC.one (c := 97) t1 rfl, ?_⟩
              rw [if_pos (by omega), if_pos d1]
              simp (maxSteps := 2000000) (disch := first | assumption | omega) only [jI0, iAdd_j, iSub_j, iMul_j, iNeg_j, Option.bind_some, jlt_t, jlt_f, jlt, jle_t, jle_f, jle, jeq_t, jeq_f, jeq, ↓reduceIte, o0, o2, o12, hBand, hStake, hKind, hCross, hWeaver, oBand, oKindOf, oKind, oCr, oRing, oWv, oPer, oRows, oAhead, oWhen, oAll, oStep, oRods, oRodAt, oStakeAt, oOff, bI_t, bI_f, X11_refuse, o95, rA, ro, oMiss, jlL, wo, t2]
            · obtain ⟨G1, ⟨t1, t3⟩, t2⟩ := oPl (q := q) hN hr pr hn (by omega) hv
              refine ⟨G1, SC.one (c := 96) t1 rfl, ?_⟩
              by_cases d0 : w < 10
              · have d2 : w = 0 := by omega
                have oo := oOrd (q := q) hN (m := m) (by omega) hP (fun j j0 j1 => t3 j j0 (by omega)) hL
                rw [if_pos d0, if_neg d1]
                simp (maxSteps := 2000000) (disch := first | assumption | omega) only [jI0, iAdd_j, iSub_j, iMul_j, iNeg_j, Option.bind_some, jlt_t, jlt_f, jlt, jle_t, jle_f, jle, jeq_t, jeq_f, jeq, ↓reduceIte, o0, o2, o12, hBand, hStake, hKind, hCross, hWeaver, oBand, oKindOf, oKind, oCr, oRing, oWv, oPer, oRows, oAhead, oWhen, oAll, oStep, oRods, oRodAt, oStakeAt, oOff, bI_t, bI_f, X11_refuse, o95, rA, ro, oMiss, jlL, wo, t2, oo]
              · rw [if_neg d0]
                by_cases d2 : w - 10 < m
                · have t4 := t3 (w - 10) (by omega) (by omega)
                  rw [if_pos d2]
                  simp (maxSteps := 2000000) (disch := first | assumption | omega) only [jI0, iAdd_j, iSub_j, iMul_j, iNeg_j, Option.bind_some, jlt_t, jlt_f, jlt, jle_t, jle_f, jle, jeq_t, jeq_f, jeq, ↓reduceIte, o0, o2, o12, hBand, hStake, hKind, hCross, hWeaver, oBand, oKindOf, oKind, oCr, oRing, oWv, oPer, oRows, oAhead, oWhen, oAll, oStep, oRods, oRodAt, oStakeAt, oOff, bI_t, bI_f, X11_refuse, o95, rA, ro, oMiss, jlL, wo, t2, f_X7_strandAt, o95, n96, l96, t4]
                · rw [if_neg d2]
                  simp (maxSteps := 2000000) (disch := first | assumption | omega) only [jI0, iAdd_j, iSub_j, iMul_j, iNeg_j, Option.bind_some, jlt_t, jlt_f, jlt, jle_t, jle_f, jle, jeq_t, jeq_f, jeq, ↓reduceIte, o0, o2, o12, hBand, hStake, hKind, hCross, hWeaver, oBand, oKindOf, oKind, oCr, oRing, oWv, oPer, oRows, oAhead, oWhen, oAll, oStep, oRods, oRodAt, oStakeAt, oOff, bI_t, bI_f, X11_refuse, o95, rA, ro, oMiss, jlL, wo, t2, f_X7_strandAt]
          · intro G2 s2 hM e
            have pp := pr.sc hr s2
            have ww := mWithin (q := q) hN hr pp (lo := 1 - (m : Int)) (hi := (m : Int) - 2) (by omega) (by omega)
            rw [AW.sc hr s2, cI_t c5] at ww
            have e7 : G2 117 r = G (37 + 2 * r) 1 := by rw [s2.1 117 rfl (by decide), p4]
            have e9 : G2 (37 + 2 * r) 0 = n := by rw [← pp.2.2.1, s2.1 118 rfl (by decide), p3, hn]
            have ev : ∀ k : Nat, k < n → G2 (38 + 2 * r) k = G (38 + 2 * r) k := fun k k1 => by
              rw [← (pp.2.2.2.2.2.2 k (by omega) (by omega)).1, s2.1 119 rfl (by decide)]
              exact (p7 k (by omega) (by omega)).1
            obtain ⟨G3, ⟨t1, t3⟩, t2⟩ := mPl (q := q) hN hr pp (n := n) (m := m) (w := w) e9 (by omega) c1 (fun k hk => by rw [ev k hk]; exact hv k hk)
            rw [plP_c ev, plS_c ev] at t2
            rw [plP_c ev] at t3
            refine ⟨G3, SC.of (fun a ha => t1 a (by rintro rfl; cases ha) (by rintro rfl; cases ha)), ?_⟩
            rw [FM G2 hM]
            unfold J_X12_plait_48
            simp (maxSteps := 2000000) (disch := first | assumption | omega) only [jI0, iAdd_j, iSub_j, iMul_j, iNeg_j, Option.bind_some, jlt_t, jlt_f, jlt, jle_t, jle_f, jle, jeq_t, jeq_f, jeq, ↓reduceIte, o100, w100t, l102, mBand, mStake, mKind, mCross, mCr, mKindOf, mAhead, mWhen, mStep, mRods, mRodAt, mStakeAt, mIndex, mOver, mOverIn, jlL, X12_within, bI_t, bI_f, X12_no, l117, e7, ww, t2]
            by_cases d0 : w < 10
            · rw [if_pos d0, if_pos d0]
              by_cases d1 : w = 1
              · rw [if_pos d1, if_pos d1]
              · rw [if_neg d1, if_neg d1]
                exact mOrd (q := q) hN (by omega) hP t3 hL
            · rw [if_neg d0, if_neg d0]
              by_cases d1 : w - 10 < m
              · rw [if_pos d1, if_pos d1]
              · rw [if_neg d1, if_neg d1]
        · refine OP.rf hI (-3) (jI (-3)) ?_ ?_
          · rw [FC]
            unfold J_X11_plait_48
            by_cases d1 : m < 2
            · simp (maxSteps := 2000000) (disch := first | assumption | omega) only [jI0, iAdd_j, iSub_j, iMul_j, iNeg_j, Option.bind_some, jlt_t, jlt_f, jlt, jle_t, jle_f, jle, jeq_t, jeq_f, jeq, ↓reduceIte, o0, o2, o12, hBand, hStake, hKind, hCross, hWeaver, oBand, oKindOf, oKind, oCr, oRing, oWv, oPer, oRows, oAhead, oWhen, oAll, oStep, oRods, oRodAt, oStakeAt, oOff, bI_t, bI_f, X11_refuse, rA, ro, oMiss]
            · by_cases d2 : 9 < m
              · simp (maxSteps := 2000000) (disch := first | assumption | omega) only [jI0, iAdd_j, iSub_j, iMul_j, iNeg_j, Option.bind_some, jlt_t, jlt_f, jlt, jle_t, jle_f, jle, jeq_t, jeq_f, jeq, ↓reduceIte, o0, o2, o12, hBand, hStake, hKind, hCross, hWeaver, oBand, oKindOf, oKind, oCr, oRing, oWv, oPer, oRows, oAhead, oWhen, oAll, oStep, oRods, oRodAt, oStakeAt, oOff, bI_t, bI_f, X11_refuse, rA, ro, oMiss]
              · have wo := oWithin (q := q) hN hr pr (lo := 1 - m) (hi := m - 2) (by omega) (by omega)
                rw [cI_f (fun x => c2 ⟨by omega, x⟩)] at wo
                simp (maxSteps := 2000000) (disch := first | assumption | omega) only [jI0, iAdd_j, iSub_j, iMul_j, iNeg_j, Option.bind_some, jlt_t, jlt_f, jlt, jle_t, jle_f, jle, jeq_t, jeq_f, jeq, ↓reduceIte, o0, o2, o12, hBand, hStake, hKind, hCross, hWeaver, oBand, oKindOf, oKind, oCr, oRing, oWv, oPer, oRows, oAhead, oWhen, oAll, oStep, oRods, oRodAt, oStakeAt, oOff, bI_t, bI_f, X11_refuse, rA, ro, oMiss, jlL, wo]
          · intro G1 hM e eo
            rw [FM G1 hM]
            have pp := pr.eo hr eo
            rw [← eo 117 (by decide)] at p4
            have hV1 := hM.1; have hT1 := hM.2; (try rw [← e] at dm); (try rw [← e] at dr); (try rw [← e] at de); (try rw [← e] at dl); (try rw [← e] at hb); (try rw [← e] at hj); (try rw [← e] at hr); (try rw [← e] at hs); (try rw [← e] at pl); (try rw [← e] at al); (try rw [← e] at g); (try rw [← e] at c); (try rw [← e] at c1); (try rw [← e] at c2); (try rw [← e] at c3); (try rw [← e] at c4); (try rw [← e] at c5); (try rw [← e] at c6); (try rw [← e] at wb); (try rw [← e] at pr); (try rw [← e] at kd); (try rw [← e] at cr); (try rw [← e] at fe); (try rw [← e] at ra); (try rw [← e] at f1); (try rw [← e] at f2); (try rw [← e] at f3); (try rw [← e] at f4); (try rw [← e])
            unfold J_X12_plait_48
            by_cases d1 : 2 ≤ m ∧ m ≤ 9
            · have ww := mWithin (q := q) hN hr pp (lo := 1 - m) (hi := m - 2) (by omega) (by omega)
              rw [AW.eo hr eo, cI_f (fun x => c2 ⟨d1, x⟩)] at ww
              simp (maxSteps := 2000000) (disch := first | assumption | omega) only [jI0, iAdd_j, iSub_j, iMul_j, iNeg_j, Option.bind_some, jlt_t, jlt_f, jlt, jle_t, jle_f, jle, jeq_t, jeq_f, jeq, ↓reduceIte, o100, w100t, l102, mBand, mStake, mKind, mCross, mCr, mKindOf, mAhead, mWhen, mStep, mRods, mRodAt, mStakeAt, mIndex, mOver, mOverIn, jlL, X12_within, bI_t, bI_f, X12_no, l117, p4, ww]
            · simp (maxSteps := 2000000) (disch := first | assumption | omega) only [jI0, iAdd_j, iSub_j, iMul_j, iNeg_j, Option.bind_some, jlt_t, jlt_f, jlt, jle_t, jle_f, jle, jeq_t, jeq_f, jeq, ↓reduceIte, o100, w100t, l102, mBand, mStake, mKind, mCross, mCr, mKindOf, mAhead, mWhen, mStep, mRods, mRodAt, mStakeAt, mIndex, mOver, mOverIn, jlL, X12_within, bI_t, bI_f, X12_no, l117, p4]
    · refine OP.rf hI (-2) (jI (-2)) ?_ ?_
      · have ir := oIsRow (q := q) (N := N) (G := G) (i := (r : Int)) (by omega) (by omega)
        rw [bI_t c] at ir
        unfold f_X11_plait J_X11_plait_17
        by_cases d : w < 10
        · simp (maxSteps := 2000000) (disch := first | assumption | omega) only [jI0, iAdd_j, iSub_j, iMul_j, iNeg_j, Option.bind_some, jlt_t, jlt_f, jlt, jle_t, jle_f, jle, jeq_t, jeq_f, jeq, ↓reduceIte, o0, o2, o12, hBand, hStake, hKind, hCross, hWeaver, oBand, oKindOf, oKind, oCr, oRing, oWv, oPer, oRows, oAhead, oWhen, oAll, oStep, oRods, oRodAt, oStakeAt, oOff, bI_t, bI_f, X11_refuse, ir]
        · simp (maxSteps := 2000000) (disch := first | assumption | omega) only [jI0, iAdd_j, iSub_j, iMul_j, iNeg_j, Option.bind_some, jlt_t, jlt_f, jlt, jle_t, jle_f, jle, jeq_t, jeq_f, jeq, ↓reduceIte, o0, o2, o12, hBand, hStake, hKind, hCross, hWeaver, oBand, oKindOf, oKind, oCr, oRing, oWv, oPer, oRows, oAhead, oWhen, oAll, oStep, oRods, oRodAt, oStakeAt, oOff, bI_t, bI_f, X11_refuse, ir]
      · intro G1 hM e eo
        have hV1 := hM.1; have hT1 := hM.2; (try rw [← e] at dm); (try rw [← e] at dr); (try rw [← e] at de); (try rw [← e] at dl); (try rw [← e] at hb); (try rw [← e] at hj); (try rw [← e] at hr); (try rw [← e] at hs); (try rw [← e] at pl); (try rw [← e] at al); (try rw [← e] at g); (try rw [← e] at c); (try rw [← e] at c1); (try rw [← e] at c2); (try rw [← e] at c3); (try rw [← e] at c4); (try rw [← e] at c5); (try rw [← e] at c6); (try rw [← e] at wb); (try rw [← e] at pr); (try rw [← e] at kd); (try rw [← e] at cr); (try rw [← e] at fe); (try rw [← e] at ra); (try rw [← e] at f1); (try rw [← e] at f2); (try rw [← e] at f3); (try rw [← e] at f4); (try rw [← e])
        unfold f_X12_plait
        simp (maxSteps := 2000000) (disch := first | assumption | omega) only [jI0, iAdd_j, iSub_j, iMul_j, iNeg_j, Option.bind_some, jlt_t, jlt_f, jlt, jle_t, jle_f, jle, jeq_t, jeq_f, jeq, ↓reduceIte, o100, w100t, l102, mBand, mStake, mKind, mCross, mCr, mKindOf, mAhead, mWhen, mStep, mRods, mRodAt, mStakeAt, mIndex, mOver, mOverIn, jlL, X12_within, bI_t, bI_f, X12_no]
  · refine OP.rf hI (-2) (jI (-2)) ?_ ?_
    · have ir := oIsRow (q := q) (N := N) (G := G) (i := row) (by omega) (by omega)
      rw [bI_f c] at ir
      unfold f_X11_plait J_X11_plait_17
      by_cases d : w < 10
      · simp (maxSteps := 2000000) (disch := first | assumption | omega) only [jI0, iAdd_j, iSub_j, iMul_j, iNeg_j, Option.bind_some, jlt_t, jlt_f, jlt, jle_t, jle_f, jle, jeq_t, jeq_f, jeq, ↓reduceIte, o0, o2, o12, hBand, hStake, hKind, hCross, hWeaver, oBand, oKindOf, oKind, oCr, oRing, oWv, oPer, oRows, oAhead, oWhen, oAll, oStep, oRods, oRodAt, oStakeAt, oOff, bI_t, bI_f, X11_refuse, ir]
      · by_cases d1 : w < 19
        · simp (maxSteps := 2000000) (disch := first | assumption | omega) only [jI0, iAdd_j, iSub_j, iMul_j, iNeg_j, Option.bind_some, jlt_t, jlt_f, jlt, jle_t, jle_f, jle, jeq_t, jeq_f, jeq, ↓reduceIte, o0, o2, o12, hBand, hStake, hKind, hCross, hWeaver, oBand, oKindOf, oKind, oCr, oRing, oWv, oPer, oRows, oAhead, oWhen, oAll, oStep, oRods, oRodAt, oStakeAt, oOff, bI_t, bI_f, X11_refuse, ir]
        · simp (maxSteps := 2000000) (disch := first | assumption | omega) only [jI0, iAdd_j, iSub_j, iMul_j, iNeg_j, Option.bind_some, jlt_t, jlt_f, jlt, jle_t, jle_f, jle, jeq_t, jeq_f, jeq, ↓reduceIte, o0, o2, o12, hBand, hStake, hKind, hCross, hWeaver, oBand, oKindOf, oKind, oCr, oRing, oWv, oPer, oRows, oAhead, oWhen, oAll, oStep, oRods, oRodAt, oStakeAt, oOff, bI_t, bI_f, X11_refuse, ir]
    · intro G1 hM e eo
      have hV1 := hM.1; have hT1 := hM.2; (try rw [← e] at dm); (try rw [← e] at dr); (try rw [← e] at de); (try rw [← e] at dl); (try rw [← e] at hb); (try rw [← e] at hj); (try rw [← e] at hr); (try rw [← e] at hs); (try rw [← e] at pl); (try rw [← e] at al); (try rw [← e] at g); (try rw [← e] at c); (try rw [← e] at c1); (try rw [← e] at c2); (try rw [← e] at c3); (try rw [← e] at c4); (try rw [← e] at c5); (try rw [← e] at c6); (try rw [← e] at wb); (try rw [← e] at pr); (try rw [← e] at kd); (try rw [← e] at cr); (try rw [← e] at fe); (try rw [← e] at ra); (try rw [← e] at f1); (try rw [← e] at f2); (try rw [← e] at f3); (try rw [← e] at f4); (try rw [← e])
      unfold f_X12_plait
      simp (maxSteps := 2000000) (disch := first | assumption | omega) only [jI0, iAdd_j, iSub_j, iMul_j, iNeg_j, Option.bind_some, jlt_t, jlt_f, jlt, jle_t, jle_f, jle, jeq_t, jeq_f, jeq, ↓reduceIte, o100, w100t, l102, mBand, mStake, mKind, mCross, mCr, mKindOf, mAhead, mWhen, mStep, mRods, mRodAt, mStakeAt, mIndex, mOver, mOverIn, jlL, X12_within, bI_t, bI_f, X12_no]
end
