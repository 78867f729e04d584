/-! masks, turned and mirrored; the call repeats -/
theorem ib_mask {n : Nat} (hn : n ≤ 32) {k : Nat} (hk : k < 32) : ib (if n < 32 then iSub (iShl (jI 1) (jI n)) (jI 1) else jI (-1)) k = decide (k < n) := by
  have : ∀ (n : Fin 33) (k : Fin 32), ib (if n.val < 32 then iSub (iShl (jI 1) (jI (n.val : Nat))) (jI 1) else jI (-1)) k.val = decide (k.val < n.val) := by decide +kernel
  exact this ⟨n, by omega⟩ ⟨k, hk⟩
theorem X11_mask {N : Nat} {h : mH} {n : Int} (h0 : 0 ≤ n) (h1 : n ≤ 32) : ∃ y, f_X11_maskOf N (jI n) h = some (y, h) ∧ ∀ k : Nat, k < 32 → ib y k = decide ((k : Int) < n) := by
  obtain ⟨m, rfl⟩ := Int.eq_ofNat_of_zero_le h0
  refine ⟨if m < 32 then iSub (iShl (jI 1) (jI m)) (jI 1) else jI (-1), ?_, ?_⟩
  · unfold f_X11_maskOf
    by_cases c : m < 32
    · rw [if_pos c, if_pos (by rw [jlt_t (by omega)]; trivial)]
    · rw [if_neg c, if_neg (by rw [jlt_f (by omega)]; exact id)]
  · intro k hk
    rw [ib_mask (by omega) hk]
    apply decide_eq_decide.mpr
    omega
theorem X11_turned {N : Nat} {h : mH} {x : Int32} {t n : Int} (t0 : -2147483648 ≤ t) (t1 : t < 2147483648) (h0 : 1 ≤ n) (h1 : n ≤ 32) (hx : ∀ k : Nat, n ≤ k → ib x k = false) : ∃ y, f_X11_turned N x (jI t) (jI n) h = some (y, h) ∧ ∀ k : Nat, ib y k = (decide ((k : Int) < n) && ib x (((k : Int) - t) % n).toNat) := by
  have m0 := Int.emod_nonneg t (show n ≠ 0 by omega)
  have m1 := Int.emod_lt_of_pos t (show 0 < n by omega)
  have em := Int.emod_add_mul_ediv t n
  have sh : ∀ k : Int, (k - t) % n = (k - t % n) % n := fun k => by
    rw [show k - t = (k - t % n) + n * (-(t / n)) by rw [Int.mul_neg]; omega, Int.add_mul_emod_self_left]
  have mx : max 1 n = n := Int.max_eq_right (by omega)
  unfold f_X11_turned
  by_cases c : t % n = 0
  · refine ⟨x, ?_, ?_⟩
    · simp (maxSteps := 2000000) (disch := first | assumption | omega) only [jI0, iAdd_j, iSub_j, iMul_j, iNeg_j, Option.bind_some, jlt_t, jlt_f, jlt, jle_t, jle_f, jle, jeq_t, jeq_f, jeq, ↓reduceIte, iMax_j, mx, J9_floorMod, c]
    · intro k
      rw [sh, c, Int.sub_zero]
      by_cases d : (k : Int) < n
      · rw [Int.emod_eq_of_lt (by omega) d]; simp [d]
      · rw [hx k (by omega)]; simp [d]
  · obtain ⟨y, e, hy⟩ := X11_mask (N := N) (h := h) (n := n) (by omega) h1
    refine ⟨iAnd (iOr (iShl x (jI (t % n))) (iUsr x (jI (n - t % n)))) y, ?_, ?_⟩
    · simp (maxSteps := 2000000) (disch := first | assumption | omega) only [jI0, iAdd_j, iSub_j, iMul_j, iNeg_j, Option.bind_some, jlt_t, jlt_f, jlt, jle_t, jle_f, jle, jeq_t, jeq_f, jeq, ↓reduceIte, iMax_j, mx, J9_floorMod, c, e]
    · intro k
      by_cases k3 : k < 32
      · rw [ib_and, ib_or, ib_shl _ m0 (by omega), ib_usr _ (by omega) (by omega), hy k k3, sh]
        by_cases d : (k : Int) < n
        · by_cases d2 : (k : Int) < t % n
          · rw [show ((k : Int) - t % n) % n = k - t % n + n by rw [← Int.add_emod_right]; exact Int.emod_eq_of_lt (by omega) (by omega)]
            rw [show ((k : Int) - t % n + n).toNat = (n - t % n).toNat + k by omega]
            simp [d, k3, show k < (t % n).toNat by omega]
          · rw [show ((k : Int) - t % n) % n = k - t % n from Int.emod_eq_of_lt (by omega) (by omega), hx ((n - t % n).toNat + k) (by omega)]
            rw [show ((k : Int) - t % n).toNat = k - (t % n).toNat by omega]
            simp [d, k3, show ¬ k < (t % n).toNat by omega]
        · simp [d]
      · rw [ib_ge (by omega)]
        simp [show ¬ (k : Int) < n by omega]
theorem X11_mirrored {N : Nat} (hN : 10000 ≤ N) {h : mH} {x : Int32} {n : Int} (h0 : 0 ≤ n) (h1 : n ≤ 32) : ∃ y, f_X11_mirrored N x (jI n) h = some (y, h) ∧ ∀ k : Nat, ib y k = (decide ((k : Int) < n) && ib x (n - 1 - k).toNat) := by
  unfold f_X11_mirrored
  refine loopQ (fun m (s : Int32 × Int) => L_X11_mirrored_4 N m x (jI n) s.1 (jI s.2) h) (fun k s => s.2 = k ∧ ∀ i : Nat, ib s.1 i = (decide (i < k) && ib x (k - 1 - i))) n.toNat (fun r => ∃ y, r = some (y, h) ∧ ∀ k : Nat, ib y k = (decide ((k : Int) < n) && ib x (n - 1 - k).toNat)) (by omega) (s := (jI 0, 0)) ⟨rfl, fun i => by rw [ib_0]; simp⟩ ?_ ?_
  · rintro m k ⟨y, i⟩ hk ⟨rfl, hy⟩
    simp only at hy
    refine ⟨(iOr (iShl y (jI 1)) (iAnd (iUsr x (jI k)) (jI 1)), ((k + 1 : Nat) : Int)), ⟨rfl, ?_⟩, ?_⟩
    · intro i
      show ib (iOr _ _) i = _
      rw [ib_or, ib_shl _ (by omega) (by omega), ib_and, ib_usr _ (by omega) (by omega), ib_1, hy]
      by_cases i0 : i = 0
      · subst i0
        simp
      · by_cases i3 : i < 32
        · by_cases ik : i < k + 1
          · simp [i0, i3, ik, show ¬ i < 1 by omega, show i - 1 < k by omega, show k - 1 - (i - 1) = k - i by omega]
          · simp [i0, i3, ik, show ¬ i < 1 by omega, show ¬ i - 1 < k by omega]
        · simp [i0, i3, show ¬ i < k + 1 by omega]
    · show L_X11_mirrored_4 N (m + 1) x (jI n) y (jI k) h = L_X11_mirrored_4 N m x (jI n) _ (jI ((k + 1 : Nat) : Int)) h
      rw [L_X11_mirrored_4]
      simp (maxSteps := 2000000) (disch := first | assumption | omega) only [jI0, iAdd_j, iSub_j, iMul_j, iNeg_j, Option.bind_some, jlt_t, jlt_f, jlt, jle_t, jle_f, jle, jeq_t, jeq_f, jeq, ↓reduceIte, Int.natCast_succ]
  · rintro m ⟨y, i⟩ ⟨rfl, hy⟩
    simp only at hy
    refine ⟨y, ?_, ?_⟩
    · show L_X11_mirrored_4 N (m + 1) x (jI n) y (jI (n.toNat : Int)) h = _
      rw [L_X11_mirrored_4]
      simp (maxSteps := 2000000) (disch := first | assumption | omega) only [jI0, iAdd_j, iSub_j, iMul_j, iNeg_j, Option.bind_some, jlt_t, jlt_f, jlt, jle_t, jle_f, jle, jeq_t, jeq_f, jeq, ↓reduceIte]
    · intro k
      rw [hy k, show n.toNat - 1 - k = (n - 1 - k).toNat by omega]
      congr 1
      apply decide_eq_decide.mpr
      omega
/-- how far the CROSSING at a STAKE lies behind the round's first one, from another FROM -/
def sOff (A : Int → Int) (b f j s : Int) : Int := (if A (67 + b) = 1 then f - j - s else s - f - j) % A 0
theorem offF {A : Int → Int} (h : 0 < A 0) {b f j s : Int} : 0 ≤ sOff A b f j s ∧ sOff A b f j s < A 0 := ⟨Int.emod_nonneg _ (by omega), Int.emod_lt_of_pos _ h⟩
theorem off_inv {A : Int → Int} (h : 0 < A 0) {b j k : Int} (k0 : 0 ≤ k) (k1 : k < A 0) : sOf A b j (sSa A b j k) = k := by
  unfold sOf sSa
  have em : ∀ x : Int, x % A 0 = x + A 0 * (-(x / A 0)) := fun x => by
    have := Int.emod_add_mul_ediv x (A 0)
    rw [Int.mul_neg]; omega
  split
  · rw [em (A (59 + b) - j - k), show A (59 + b) - j - (A (59 + b) - j - k + A 0 * -((A (59 + b) - j - k) / A 0)) = k + A 0 * ((A (59 + b) - j - k) / A 0) by rw [Int.mul_neg]; omega, Int.add_mul_emod_self_left]
    exact Int.emod_eq_of_lt k0 k1
  · rw [em (A (59 + b) + j + k), show A (59 + b) + j + k + A 0 * -((A (59 + b) + j + k) / A 0) - A (59 + b) - j = k + A 0 * (-((A (59 + b) + j + k) / A 0)) by omega, Int.add_mul_emod_self_left]
    exact Int.emod_eq_of_lt k0 k1
theorem saF {A : Int → Int} (h : 0 < A 0) {b j i : Int} : 0 ≤ sSa A b j i ∧ sSa A b j i < A 0 := ⟨Int.emod_nonneg _ (by omega), Int.emod_lt_of_pos _ h⟩
theorem rowEq {A : Int → Int} (h : 0 < A 0) (h2 : A 0 ≤ 32) {b j r r' : Int} : (jI (sRo A b j r) = jI (sRo A b j r')) ↔ ∀ s, 0 ≤ s → s < A 0 → sOv A b j (r * A 0 + sOf A b j s) = sOv A b j (r' * A 0 + sOf A b j s) := by
  unfold sRo
  constructor
  · intro e s s0 s1
    have o := ofF h (b := b) (j := j) (s := s)
    have := congrArg (fun x => ib x (sOf A b j s).toNat) e
    rw [ib_msk _ (by omega), ib_msk _ (by omega), show (((sOf A b j s).toNat : Nat) : Int) = sOf A b j s by omega] at this
    simpa [show (sOf A b j s).toNat < (A 0).toNat by omega] using this
  · intro e
    apply ib_ext
    intro k hk
    rw [ib_msk _ (by omega), ib_msk _ (by omega)]
    by_cases c : k < (A 0).toNat
    · have s := saF h (b := b) (j := j) (i := k)
      have := e (sSa A b j k) s.1 s.2
      rw [off_inv h (by omega) (by omega)] at this
      simp [c, this]
    · simp [c]
noncomputable def cI (P : Prop) : Int := @ite Int P (Classical.propDecidable P) 1 0
theorem cI_t {P : Prop} (h : P) : cI P = 1 := by unfold cI; exact if_pos h
theorem cI_f {P : Prop} (h : ¬ P) : cI P = 0 := by unfold cI; exact if_neg h
/-- rows alike; alike behind so many -/
def rAl (A : Int → Int) (b row row' : Int) : Prop := ∀ s, 0 ≤ s → s < A 0 → sOI A b row s = sOI A b row' s
def rBh (A : Int → Int) (b m : Int) : Prop := ∀ row, 0 ≤ row → row + m < A (27 + b) * A (51 + b) → rAl A b row (row + m)
section
variable {K1 K2 : (Int → Int) → (Int → Int) → Prop} {q : Nat × Nat × (Nat → Nat)} {G : Nat → Int → Int} {N : Nat}
theorem oRowB (hN : 10000 ≤ N) (hB : BB G) (hW : WV (G 12 5) (G 13) (G 102)) {b row : Int} (hb : 0 ≤ b ∧ b < G 102 26) (hr : 0 ≤ row ∧ row < G 102 (27 + b) * G 102 (51 + b)) : ∃ G', WK G G' ∧ f_X10_rowBits N 12 (jI b) (jI row) (hp q G) = some (jI (sRo (G 102) b (row % G 102 (27 + b)) (row / G 102 (27 + b))), hp q G') := by
  obtain ⟨dm, dr, de, dl⟩ := rowDm hB.1 hb hr
  obtain ⟨G', hw, e⟩ := oRow (q := q) hN hB hW hb dm dr
  rw [de] at e
  exact ⟨G', hw, e⟩
theorem oSame (hN : 10000 ≤ N) (hB : BB G) (hW : WV (G 12 5) (G 13) (G 102)) {b m : Int} (hb : 0 ≤ b ∧ b < G 102 26) (hm : 0 ≤ m ∧ m ≤ 200) (hd : m % G 102 (27 + b) = 0) : ∃ G', WK G G' ∧ f_X10_sameBehind N 12 (jI b) (jI m) (jI (G 102 (27 + b) * G 102 (51 + b))) (hp q G) = some (jI (cI (rBh (G 102) b m)), hp q G') := by
  have g := hB.1.1
  have wb := hB.1.2.2.1 b hb.1 hb.2
  have pr := mulB (a := G 102 (27 + b)) (b := G 102 (51 + b)) (c := 4) (d := 40) (by omega) (by omega) (by omega) (by omega)
  have E : ∀ row, 0 ≤ row → row + m < G 102 (27 + b) * G 102 (51 + b) → ((jI (sRo (G 102) b (row % G 102 (27 + b)) (row / G 102 (27 + b))) = jI (sRo (G 102) b ((row + m) % G 102 (27 + b)) ((row + m) / G 102 (27 + b)))) ↔ rAl (G 102) b row (row + m)) := by
    intro row r0 r1
    have e : (row + m) % G 102 (27 + b) = row % G 102 (27 + b) := by
      rw [Int.add_emod, hd, Int.add_zero, Int.emod_emod]
    rw [e, rowEq (by omega) (by omega)]
    unfold rAl sOI
    rw [e]
  unfold f_X10_sameBehind
  have ST : ∀ (n k : Nat) (G1 : Nat → Int → Int), (k : Int) + m < G 102 (27 + b) * G 102 (51 + b) → WK G G1 → ∃ G2, WK G G2 ∧ L_X10_sameBehind_3 N (n + 1) 12 (jI b) (jI m) (jI (G 102 (27 + b) * G 102 (51 + b))) (jI k) (hp q G1) = if jI (sRo (G 102) b ((k : Int) % G 102 (27 + b)) (k / G 102 (27 + b))) = jI (sRo (G 102) b ((k + m) % G 102 (27 + b)) ((k + m) / G 102 (27 + b))) then L_X10_sameBehind_3 N n 12 (jI b) (jI m) (jI (G 102 (27 + b) * G 102 (51 + b))) (jI ((k + 1 : Nat) : Int)) (hp q G2) else some (jI 0, hp q G2) := by
    intro n k G1 hk hw
    have e2 := hw.e
    have hB1 := hw.bb hB
    obtain ⟨G2, hw2, e⟩ := oRowB (q := q) hN hB1 hw.wv (b := b) (row := k) (by rw [e2]; exact hb) (by rw [e2]; omega)
    have hw2' := hw.trans hw2
    have e3 := hw2'.e
    obtain ⟨G3, hw3, e'⟩ := oRowB (q := q) hN (hw2'.bb hB) hw2'.wv (b := b) (row := k + m) (by rw [e3]; exact hb) (by rw [e3]; omega)
    rw [e2] at e
    rw [e3] at e'
    refine ⟨G3, hw2'.trans hw3, ?_⟩
    rw [L_X10_sameBehind_3]
    simp (maxSteps := 2000000) (disch := first | assumption | omega) only [jI0, iAdd_j, iSub_j, iMul_j, iNeg_j, Option.bind_some, jlt_t, jlt_f, jlt, jle_t, jle_f, jle, jeq_t, jeq_f, jeq, ↓reduceIte, o12, e, e', Int.natCast_succ]
  have H0 : ∀ k : Nat, 0 ≤ (k : Int) := fun k => by omega
  rcases first_or (fun k => (k : Int) + m < G 102 (27 + b) * G 102 (51 + b) ∧ ¬ rAl (G 102) b k (k + m)) (G 102 (27 + b) * G 102 (51 + b) - m).toNat with F | ⟨k0, h0, ⟨h1, h1'⟩, F⟩
  · have all : rBh (G 102) b m := by
      intro row r0 r1
      have := F row.toNat (by omega)
      rw [show ((row.toNat : Nat) : Int) = row by omega] at this
      exact Classical.byContradiction (fun h => this ⟨r1, h⟩)
    rw [cI_t all]
    refine loopQ (fun n (s : Int × (Nat → Int → Int)) => L_X10_sameBehind_3 N n 12 (jI b) (jI m) (jI (G 102 (27 + b) * G 102 (51 + b))) (jI s.1) (hp q s.2)) (fun k s => s.1 = k ∧ WK G s.2) (G 102 (27 + b) * G 102 (51 + b) - m).toNat (fun r => ∃ G', WK G G' ∧ r = some (jI 1, hp q G')) (by omega) (s := (0, G)) ⟨rfl, WK.refl hW⟩ ?_ ?_
    · rintro n k ⟨i, G1⟩ hk ⟨rfl, hw⟩
      obtain ⟨G2, hw2, e⟩ := ST n k G1 (by omega) hw
      rw [if_pos ((E k (H0 k) (by omega)).mpr (all k (H0 k) (by omega)))] at e
      exact ⟨(((k + 1 : Nat) : Int), G2), ⟨rfl, hw2⟩, e⟩
    · rintro n ⟨i, G1⟩ ⟨rfl, hw⟩
      refine ⟨G1, hw, ?_⟩
      show L_X10_sameBehind_3 N (n + 1) 12 (jI b) (jI m) (jI (G 102 (27 + b) * G 102 (51 + b))) (jI ((G 102 (27 + b) * G 102 (51 + b) - m).toNat : Int)) (hp q G1) = _
      rw [L_X10_sameBehind_3]
      simp (maxSteps := 2000000) (disch := first | assumption | omega) only [jI0, iAdd_j, iSub_j, iMul_j, iNeg_j, Option.bind_some, jlt_t, jlt_f, jlt, jle_t, jle_f, jle, jeq_t, jeq_f, jeq, ↓reduceIte]
  · have nall : ¬ rBh (G 102) b m := fun h => h1' (h k0 (H0 k0) h1)
    rw [cI_f nall]
    refine loopQ (fun n (s : Int × (Nat → Int → Int)) => L_X10_sameBehind_3 N n 12 (jI b) (jI m) (jI (G 102 (27 + b) * G 102 (51 + b))) (jI s.1) (hp q s.2)) (fun k s => s.1 = k ∧ WK G s.2) k0 (fun r => ∃ G', WK G G' ∧ r = some (jI 0, hp q G')) (by omega) (s := (0, G)) ⟨rfl, WK.refl hW⟩ ?_ ?_
    · rintro n k ⟨i, G1⟩ hk ⟨rfl, hw⟩
      obtain ⟨G2, hw2, e⟩ := ST n k G1 (by omega) hw
      rw [if_pos ((E k (H0 k) (by omega)).mpr (Classical.byContradiction (fun h => F k hk ⟨by omega, h⟩)))] at e
      exact ⟨(((k + 1 : Nat) : Int), G2), ⟨rfl, hw2⟩, e⟩
    · rintro n ⟨i, G1⟩ ⟨rfl, hw⟩
      obtain ⟨G2, hw2, e⟩ := ST n k0 G1 h1 hw
      rw [if_neg (fun h => h1' ((E k0 (H0 k0) h1).mp h))] at e
      exact ⟨G2, hw2, e⟩
theorem mAlike (hN : 10000 ≤ N) (hV : BV (G 102)) {b row row' : Int} (hb : 0 ≤ b ∧ b < G 102 26) (hr : 0 ≤ row ∧ row < G 102 (27 + b) * G 102 (51 + b)) (hr' : 0 ≤ row' ∧ row' < G 102 (27 + b) * G 102 (51 + b)) : f_X12_isRowAlike N 100 (jI b) (jI row) (jI row') (hp q G) = some (jI (cI (rAl (G 102) b row row')), hp q G) := by
  have g := hV.1
  unfold f_X12_isRowAlike
  have ST : ∀ (n k : Nat), (k : Int) < G 102 0 → L_X12_isRowAlike_3 N (n + 1) 100 (jI b) (jI row) (jI row') (jI k) (hp q G) = if sOI (G 102) b row k = sOI (G 102) b row' k then L_X12_isRowAlike_3 N n 100 (jI b) (jI row) (jI row') (jI ((k + 1 : Nat) : Int)) (hp q G) else some (jI 0, hp q G) := by
    intro n k hk
    rw [L_X12_isRowAlike_3]
    by_cases c : sOI (G 102) b row k = sOI (G 102) b row' k
    · rw [if_pos c]
      simp (maxSteps := 2000000) (disch := first | assumption | omega) only [jI0, iAdd_j, iSub_j, iMul_j, iNeg_j, Option.bind_some, jlt_t, jlt_f, jlt, jle_t, jle_f, jle, jeq_t, jeq_f, jeq, ↓reduceIte, o100, w100t, l102, mBand, mStake, mKind, mCross, mCr, mKindOf, mAhead, mWhen, mStep, mRods, mRodAt, mStakeAt, mIndex, mOver, mOverIn, jlL, X12_within, bI_t, bI_f, X12_no, c, Int.natCast_succ]
    · rw [if_neg c]
      have : ¬ ((sOI (G 102) b row k = true) ↔ (sOI (G 102) b row' k = true)) := fun h => c (Bool.eq_iff_iff.mpr h)
      simp (maxSteps := 2000000) (disch := first | assumption | omega) only [jI0, iAdd_j, iSub_j, iMul_j, iNeg_j, Option.bind_some, jlt_t, jlt_f, jlt, jle_t, jle_f, jle, jeq_t, jeq_f, jeq, ↓reduceIte, o100, l102, mOverIn, bI_eq, this]
  rcases first_or (fun k => ¬ sOI (G 102) b row k = sOI (G 102) b row' k) (G 102 0).toNat with F | ⟨k0, h0, h1, F⟩
  · have all : rAl (G 102) b row row' := by
      intro s s0 s1
      have := F s.toNat (by omega)
      rw [show ((s.toNat : Nat) : Int) = s by omega] at this
      exact Classical.byContradiction this
    rw [cI_t all]
    refine loopE (fun n (s : Int) => L_X12_isRowAlike_3 N n 100 (jI b) (jI row) (jI row') (jI s) (hp q G)) (fun k => (k : Int)) (G 102 0).toNat (by omega) ?_ ?_
    · intro n k hk
      show L_X12_isRowAlike_3 N (n + 1) 100 (jI b) (jI row) (jI row') (jI (k : Int)) (hp q G) = _
      rw [ST n k (by omega), if_pos (all k (by omega) (by omega))]
    · intro n
      show L_X12_isRowAlike_3 N (n + 1) 100 (jI b) (jI row) (jI row') (jI ((G 102 0).toNat : Int)) (hp q G) = _
      rw [L_X12_isRowAlike_3]
      simp (maxSteps := 2000000) (disch := first | assumption | omega) only [jI0, iAdd_j, iSub_j, iMul_j, iNeg_j, Option.bind_some, jlt_t, jlt_f, jlt, jle_t, jle_f, jle, jeq_t, jeq_f, jeq, ↓reduceIte, o100, w100t, l102, mBand, mStake, mKind, mCross, mCr, mKindOf, mAhead, mWhen, mStep, mRods, mRodAt, mStakeAt, mIndex, mOver, mOverIn, jlL, X12_within, bI_t, bI_f, X12_no]
  · have nall : ¬ rAl (G 102) b row row' := fun h => h1 (h k0 (by omega) (by omega))
    rw [cI_f nall]
    refine loopE (fun n (s : Int) => L_X12_isRowAlike_3 N n 100 (jI b) (jI row) (jI row') (jI s) (hp q G)) (fun k => (k : Int)) k0 (by omega) ?_ ?_
    · intro n k hk
      show L_X12_isRowAlike_3 N (n + 1) 100 (jI b) (jI row) (jI row') (jI (k : Int)) (hp q G) = _
      rw [ST n k (by omega), if_pos (Classical.byContradiction (F k hk))]
    · intro n
      show L_X12_isRowAlike_3 N (n + 1) 100 (jI b) (jI row) (jI row') (jI (k0 : Int)) (hp q G) = _
      rw [ST n k0 (by omega), if_neg h1]
end
