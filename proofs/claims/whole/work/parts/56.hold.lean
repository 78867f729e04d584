/-! calls: hold, gives -/
def chg (f : Int → Bool) (i : Int) : Int := if 0 < i ∧ f i ≠ f (i - 1) then 1 else 0
theorem chg_r (f : Int → Bool) (n : Nat) : 0 ≤ sm (chg f) n ∧ sm (chg f) n ≤ n := by
  have := sm_le (f := chg f) (c := 1) (n := n) (fun k _ => by unfold chg; split <;> omega)
  omega
theorem sm_split {f : Int → Int} {a : Nat} : ∀ d : Nat, sm f (a + d) = sm f a + sm (fun k => f (a + k)) d
  | 0 => by simp [sm]
  | d + 1 => by
    show sm f (a + d) + f ((a + d : Nat) : Int) = sm f a + (sm (fun k => f (a + k)) d + f (a + d))
    rw [sm_split d, Int.natCast_add]
    omega
theorem sm_head {g : Int → Int} : ∀ d : Nat, sm g (d + 1) = g 0 + sm (fun k => g (k + 1)) d
  | 0 => by simp [sm]
  | d + 1 => by
    show sm g (d + 1) + g ((d + 1 : Nat) : Int) = g 0 + (sm (fun k => g (k + 1)) d + g (d + 1))
    rw [sm_head d, Int.natCast_succ]
    omega
def sHo (A : Int → Int) (b : Int) (n : Nat) : Int := sm (fun j => sm (chg (sOv A b j)) (sCr A b).toNat * A (8 + A (83 + 4 * b + j)) * (100 - A (14 + A (83 + 4 * b + j)))) n
theorem sHo_r {A : Int → Int} (hV : BV A) {b : Int} (hb : 0 ≤ b ∧ b < A 26) : 0 ≤ sHo A b (A (27 + b)).toNat ∧ sHo A b (A (27 + b)).toNat ≤ 4608000 := by
  have wb := hV.2.2.1 b hb.1 hb.2
  have cr := crF hV hb.1 hb.2
  have : 0 ≤ sHo A b (A (27 + b)).toNat ∧ sHo A b (A (27 + b)).toNat ≤ 1152000 * (A (27 + b)).toNat := by
    apply sm_le
    intro j hj
    have kd := hV.2.2.2.1 b j hb.1 hb.2 (by omega) (by omega)
    have f := hV.2.1 _ kd.1 kd.2
    have c := chg_r (sOv A b j) (sCr A b).toNat
    have m1 := mulB (a := sm (chg (sOv A b j)) (sCr A b).toNat) (b := A (8 + A (83 + 4 * b + j))) (c := 1280) (d := 9) (by omega) (by omega) (by omega) (by omega)
    have m2 := mulB (a := sm (chg (sOv A b j)) (sCr A b).toNat * A (8 + A (83 + 4 * b + j))) (b := 100 - A (14 + A (83 + 4 * b + j))) (c := 1280 * 9) (d := 100) (by omega) (by omega) (by omega) (by omega)
    omega
  omega
section
variable {K1 K2 : (Int → Int) → (Int → Int) → Prop} {q : Nat × Nat × (Nat → Nat)} {G : Nat → Int → Int} {N : Nat}
theorem bz_inj : ∀ a b : Bool, bz a = bz b → a = b := by decide
theorem oChanges (hN : 10000 ≤ N) (hB : BB G) (hW : WV (G 12 5) (G 13) (G 102)) {b j : Int} (hb : 0 ≤ b ∧ b < G 102 26) (hj : 0 ≤ j ∧ j < G 102 (27 + b)) : ∃ G', WK G G' ∧ f_X10_changesOf N 12 (jI b) (jI j) (hp q G) = some (jI (sm (chg (sOv (G 102) b j)) (sCr (G 102) b).toNat), hp q G') := by
  have g := hB.1.1
  have wb := hB.1.2.2.1 b hb.1 hb.2
  have cr := crF hB.1 hb.1 hb.2
  obtain ⟨n, hn⟩ := Int.eq_ofNat_of_zero_le (show 0 ≤ G 102 0 by omega)
  generalize hf : sOv (G 102) b j = f
  have cn : (sCr (G 102) b).toNat = (G 102 (51 + b)).toNat * n := by
    unfold sCr
    rw [hn]
    obtain ⟨m, hm⟩ := Int.eq_ofNat_of_zero_le (show 0 ≤ G 102 (51 + b) by omega)
    rw [hm, ← Int.natCast_mul, Int.toNat_natCast, Int.toNat_natCast]
  unfold f_X10_changesOf
  simp (maxSteps := 2000000) (disch := first | assumption | omega) only [jI0, iAdd_j, iSub_j, iMul_j, iNeg_j, Option.bind_some, jlt_t, jlt_f, jlt, jle_t, jle_f, jle, jeq_t, jeq_f, jeq, ↓reduceIte, o12, o2, oRing hB]
  refine loopQ (fun m (t : (Int × Int) × Int × (Nat → Int → Int)) => L_X10_changesOf_17 N m 12 (jI b) (jI j) (jI (G 102 0)) (jI t.1.1) (jI t.1.2) (jI t.2.1) (hp q t.2.2)) (fun r t => t.1 = (sm (chg f) (r * n), if r = 0 then 0 else bz (f ((r * n : Nat) - 1))) ∧ t.2.1 = r ∧ WK G t.2.2) (G 102 (51 + b)).toNat (fun x => ∃ G1, WK G G1 ∧ x = some (jI (sm (chg f) (sCr (G 102) b).toNat), hp q G1)) (by omega) (s := ((0, 0), 0, G)) ⟨by simp [sm], rfl, WK.refl hW⟩ ?_ ?_
  · rintro m r ⟨z, i, G1⟩ hr ⟨rfl, rfl, hw⟩
    simp only at hw
    have e2 := hw.e
    have hB1 := hw.bb hB
    have ew := oWv (q := q) (N := N) hB1 (b := b) hb.1 (by rw [e2]; exact hb.2)
    rw [e2] at ew
    obtain ⟨G2, hw2, e⟩ := oRow (q := q) hN hB1 hw.wv (b := b) (j := j) (r := r) (by rw [e2]; exact hb) (by rw [e2]; exact hj) (by rw [e2]; omega)
    rw [e2] at e
    obtain ⟨mk, em, hm⟩ := X11_mask (N := N) (h := hp q G2) (n := G 102 0) (by omega) (by omega)
    have bit : ∀ k : Nat, ib (jI (sRo (G 102) b j r)) k = (decide (k < n) && f ((r * n : Nat) + k)) := fun k => by
      unfold sRo
      rw [ib_msk _ (by omega), hf, hn, Int.toNat_natCast, Int.natCast_mul]
    generalize hx : jI (sRo (G 102) b j r) = x at e bit
    have pb : ∀ k : Nat, k < 32 → ib (iAnd (iXor x (iUsr x (jI 1))) (iUsr mk (jI 1))) k = (decide (k + 1 < n) && decide (f ((r * n : Nat) + k) ≠ f ((r * n : Nat) + (k + 1)))) := by
      intro k hk
      rw [ib_and, ib_xor, ib_usr _ (by omega) (by omega), ib_usr _ (by omega) (by omega), bit, bit, show (1 : Int).toNat + k = k + 1 by omega]
      by_cases k31 : k + 1 < 32
      · rw [hm _ k31]
        by_cases c : k + 1 < n
        · have : decide (((k + 1 : Nat) : Int) < G 102 0) = true := decide_eq_true (by omega)
          rw [this, Int.natCast_succ]
          simp only [c, show k < n by omega, decide_true, Bool.true_and, Bool.and_true]
          by_cases d : f ((r * n : Nat) + k) = f ((r * n : Nat) + (k + 1))
          · rw [(xorN _ _).1 d]; exact (decide_eq_false (fun h => h d)).symm
          · rw [(xorN _ _).2 d]; exact (decide_eq_true d).symm
        · have : decide (((k + 1 : Nat) : Int) < G 102 0) = false := decide_eq_false (by omega)
          rw [this]
          simp [c]
      · rw [ib_ge (by omega)]
        simp [show ¬ k + 1 < n by omega]
    have PC : ((pcn (iAnd (iXor x (iUsr x (jI 1))) (iUsr mk (jI 1))) 32 : Nat) : Int) = sm (fun k => chg f ((r * n : Nat) + (k + 1))) (n - 1) := by
      have z : ((pcn (iAnd (iXor x (iUsr x (jI 1))) (iUsr mk (jI 1))) 32 : Nat) : Int) = sm (fun k => if ib (iAnd (iXor x (iUsr x (jI 1))) (iUsr mk (jI 1))) k.toNat = true then 1 else 0) 32 := pcn_sm (f := fun k => ib (iAnd (iXor x (iUsr x (jI 1))) (iUsr mk (jI 1))) k.toNat) (fun k _ => rfl)
      rw [z, show (32 : Nat) = (n - 1) + (32 - (n - 1)) by omega, sm_tail (by
        intro k hk
        rw [Int.toNat_natCast]
        by_cases k3 : k < 32
        · rw [if_neg (by rw [pb k k3]; simp [show ¬ k + 1 < n by omega])]
        · rw [if_neg (by rw [ib_ge (by omega)]; exact Bool.false_ne_true)])]
      apply sm_congr
      intro k hk
      simp only [Int.toNat_natCast]
      unfold chg
      by_cases d : f ((r * n : Nat) + (k : Int)) = f ((r * n : Nat) + ((k : Int) + 1))
      · rw [if_neg (by rw [pb k (by omega), decide_eq_true (show k + 1 < n by omega), decide_eq_false (show ¬ (f ((r * n : Nat) + (k : Int)) ≠ f ((r * n : Nat) + ((k : Int) + 1))) from fun h => h d)]; exact Bool.false_ne_true), if_neg (fun h => h.2 (by rw [← d]; congr 1; omega))]
      · rw [if_pos (by rw [pb k (by omega), decide_eq_true (show k + 1 < n by omega), decide_eq_true d]; rfl), if_pos ⟨by omega, fun h => d (by rw [h]; congr 1; omega)⟩]
    have SM : sm (chg f) ((r + 1) * n) = sm (chg f) (r * n) + (chg f (r * n : Nat) + sm (fun k => chg f ((r * n : Nat) + (k + 1))) (n - 1)) := by
      have h := sm_head (g := fun k => chg f ((r * n : Nat) + k)) (n - 1)
      rw [show n - 1 + 1 = n by omega, Int.add_zero] at h
      rw [Nat.add_mul, Nat.one_mul, sm_split, h]
    have b0 : iAnd x (jI 1) = jI (bz (f (r * n : Nat))) := by
      rw [bit1, bit 0, ← bI_bz]
      simp [show 0 < n by omega]
    have bL : iAnd (iUsr x (jI (G 102 0 - 1))) (jI 1) = jI (bz (f (((r + 1) * n : Nat) - 1))) := by
      rw [bitAt _ (by omega) (by omega), bit, ← bI_bz, show (G 102 0 - 1).toNat = n - 1 by omega]
      have : (((r * n : Nat) : Int) + ((n - 1 : Nat) : Int)) = (((r + 1) * n : Nat) : Int) - 1 := by
        rw [Nat.add_mul, Nat.one_mul]
        omega
      rw [this]
      simp [show n - 1 < n by omega]
    refine ⟨((sm (chg f) ((r + 1) * n), if r + 1 = 0 then 0 else bz (f (((r + 1) * n : Nat) - 1))), ((r + 1 : Nat) : Int), G2), ⟨rfl, rfl, hw.trans hw2⟩, ?_⟩
    show L_X10_changesOf_17 N (m + 1) 12 (jI b) (jI j) (jI (G 102 0)) (jI (sm (chg f) (r * n))) (jI (if r = 0 then 0 else bz (f ((r * n : Nat) - 1)))) (jI (r : Int)) (hp q G1) = L_X10_changesOf_17 N m 12 (jI b) (jI j) (jI (G 102 0)) (jI (sm (chg f) ((r + 1) * n))) (jI (if r + 1 = 0 then 0 else bz (f (((r + 1) * n : Nat) - 1)))) (jI ((r + 1 : Nat) : Int)) (hp q G2)
    have br0 := bz_r (f (r * n : Nat))
    have br1 := bz_r (f ((r * n : Nat) - 1))
    rw [L_X10_changesOf_17, if_neg (show ¬ r + 1 = 0 by omega), SM, ← PC]
    by_cases r0 : r = 0
    · subst r0
      have c0 : chg f ((0 * n : Nat) : Int) = 0 := by unfold chg; rw [if_neg (fun h => by omega)]
      rw [if_pos rfl, c0, Int.zero_add]
      simp (maxSteps := 2000000) (disch := first | assumption | omega | (rw [e2]; omega)) only [jI0, iAdd_j, iSub_j, iMul_j, iNeg_j, Option.bind_some, jlt_t, jlt_f, jlt, jle_t, jle_f, jle, jeq_t, jeq_f, jeq, ↓reduceIte, o12, o2, oBand hB1, ew, e, em, bitCount, bL, Int.natCast_succ, e2]
    · rw [if_neg r0]
      by_cases d : f (r * n : Nat) = f ((r * n : Nat) - 1)
      · have c0 : chg f ((r * n : Nat) : Int) = 0 := by unfold chg; rw [if_neg (fun h => h.2 d)]
        rw [c0, Int.zero_add, ← d]
        simp (maxSteps := 2000000) (disch := first | assumption | omega | (rw [e2]; omega)) only [jI0, iAdd_j, iSub_j, iMul_j, iNeg_j, Option.bind_some, jlt_t, jlt_f, jlt, jle_t, jle_f, jle, jeq_t, jeq_f, jeq, ↓reduceIte, o12, o2, oBand hB1, ew, e, em, bitCount, bL, b0, Int.natCast_succ, e2]
      · have d2 : bz (f (r * n : Nat)) ≠ bz (f ((r * n : Nat) - 1)) := fun h => d (bz_inj _ _ h)
        have rn : 0 < ((r * n : Nat) : Int) := by
          have := Nat.mul_pos (show 0 < r by omega) (show 0 < n by omega)
          omega
        have c0 : chg f ((r * n : Nat) : Int) = 1 := by unfold chg; rw [if_pos ⟨rn, d⟩]
        rw [c0]
        simp (maxSteps := 2000000) (disch := first | assumption | omega | (rw [e2]; omega)) only [jI0, iAdd_j, iSub_j, iMul_j, iNeg_j, Option.bind_some, jlt_t, jlt_f, jlt, jle_t, jle_f, jle, jeq_t, jeq_f, jeq, ↓reduceIte, o12, o2, oBand hB1, ew, e, em, bitCount, bL, b0, Int.natCast_succ, e2]
        congr 2
        omega
  · rintro m ⟨z, i, G1⟩ ⟨rfl, rfl, hw⟩
    simp only at hw
    have e2 := hw.e
    have hB1 := hw.bb hB
    refine ⟨G1, hw, ?_⟩
    show L_X10_changesOf_17 N (m + 1) 12 (jI b) (jI j) (jI (G 102 0)) (jI (sm (chg f) ((G 102 (51 + b)).toNat * n))) (jI _) (jI ((G 102 (51 + b)).toNat : Int)) (hp q G1) = _
    rw [L_X10_changesOf_17, cn]
    simp (maxSteps := 2000000) (disch := first | assumption | omega | (rw [e2]; omega)) only [jI0, iAdd_j, iSub_j, iMul_j, iNeg_j, Option.bind_some, jlt_t, jlt_f, jlt, jle_t, jle_f, jle, jeq_t, jeq_f, jeq, ↓reduceIte, o12, o2, oBand hB1, e2]
theorem oHold (hN : 10000 ≤ N) (hB : BB G) (hW : WV (G 12 5) (G 13) (G 102)) {b : Int} (hb : 0 ≤ b ∧ b < G 102 26) : ∃ G', WK G G' ∧ f_X10_holdOf N 12 (jI b) (hp q G) = some (jI (sHo (G 102) b (G 102 (27 + b)).toNat), hp q G') := by
  have wb := hB.1.2.2.1 b hb.1 hb.2
  unfold f_X10_holdOf
  refine loopQ (fun m (t : Int × Int × (Nat → Int → Int)) => L_X10_holdOf_4 N m 12 (jI b) (jI t.1) (jI t.2.1) (hp q t.2.2)) (fun j t => t.1 = sHo (G 102) b j ∧ t.2.1 = j ∧ WK G t.2.2) (G 102 (27 + b)).toNat (fun x => ∃ G1, WK G G1 ∧ x = some (jI (sHo (G 102) b (G 102 (27 + b)).toNat), hp q G1)) (by omega) (s := (0, 0, G)) ⟨rfl, rfl, WK.refl hW⟩ ?_ ?_
  · rintro m j ⟨z, i, G1⟩ hj ⟨rfl, rfl, hw⟩
    simp only at hw
    have e2 := hw.e
    have hB1 := hw.bb hB
    have kd := hB.1.2.2.2.1 b j hb.1 hb.2 (by omega) (by omega)
    obtain ⟨G2, hw2, e⟩ := oChanges (q := q) hN hB1 hw.wv (b := b) (j := j) (by rw [e2]; exact hb) (by rw [e2]; omega)
    rw [e2] at e
    have ht := hw.trans hw2
    have k1 := (oKind (q := q) (N := N) (ht.bb hB) (k := G 102 (83 + 4 * b + j)) kd.1 (by rw [ht.e]; exact kd.2)).2.1
    have k2 := oDries (q := q) (N := N) (ht.bb hB) (k := G 102 (83 + 4 * b + j)) kd.1 (by rw [ht.e]; exact kd.2)
    rw [ht.e] at k1 k2
    refine ⟨(sHo (G 102) b (j + 1), ((j + 1 : Nat) : Int), G2), ⟨rfl, rfl, ht⟩, ?_⟩
    show L_X10_holdOf_4 N (m + 1) 12 (jI b) (jI (sHo (G 102) b j)) (jI (j : Int)) (hp q G1) = L_X10_holdOf_4 N m 12 (jI b) (jI (sHo (G 102) b (j + 1))) (jI ((j + 1 : Nat) : Int)) (hp q G2)
    rw [L_X10_holdOf_4]
    simp only [sHo, sm]
    simp (maxSteps := 2000000) (disch := first | assumption | omega | (rw [e2]; omega)) only [jI0, iAdd_j, iSub_j, iMul_j, iNeg_j, Option.bind_some, jlt_t, jlt_f, jlt, jle_t, jle_f, jle, jeq_t, jeq_f, jeq, ↓reduceIte, o12, o2, oBand hB1, oKindOf hB1, e, k1, k2, Int.natCast_succ, e2]
  · rintro m ⟨z, i, G1⟩ ⟨rfl, rfl, hw⟩
    simp only at hw
    have e2 := hw.e
    have hB1 := hw.bb hB
    refine ⟨G1, hw, ?_⟩
    show L_X10_holdOf_4 N (m + 1) 12 (jI b) (jI _) (jI ((G 102 (27 + b)).toNat : Int)) (hp q G1) = _
    rw [L_X10_holdOf_4]
    simp (maxSteps := 2000000) (disch := first | assumption | omega | (rw [e2]; omega)) only [jI0, iAdd_j, iSub_j, iMul_j, iNeg_j, Option.bind_some, jlt_t, jlt_f, jlt, jle_t, jle_f, jle, jeq_t, jeq_f, jeq, ↓reduceIte, o12, o2, oBand hB1, e2]
theorem mHold (hN : 10000 ≤ N) (hV : BV (G 102)) {b : Int} (hb : 0 ≤ b ∧ b < G 102 26) : f_X12_holdOf N 100 (jI b) (hp q G) = some (jI (sHo (G 102) b (G 102 (27 + b)).toNat), hp q G) := by
  have g := hV.1
  have wb := hV.2.2.1 b hb.1 hb.2
  have cr := crF hV hb.1 hb.2
  unfold f_X12_holdOf
  refine loopE (N := N) (fun n (t : Int × Int) => L_X12_holdOf_4 N n 100 (jI b) (jI t.1) (jI t.2) (hp q G)) (fun k => (sHo (G 102) b k, (k : Int))) (G 102 (27 + b)).toNat (by omega) ?_ ?_
  · intro n j hj
    show L_X12_holdOf_4 N (n + 1) 100 (jI b) (jI (sHo (G 102) b j)) (jI (j : Int)) (hp q G) = L_X12_holdOf_4 N n 100 (jI b) (jI (sHo (G 102) b (j + 1))) (jI ((j + 1 : Nat) : Int)) (hp q G)
    have kd := hV.2.2.2.1 b j hb.1 hb.2 (by omega) (by omega)
    rw [L_X12_holdOf_4]
    simp (maxSteps := 2000000) (disch := first | assumption | omega) only [jI0, iAdd_j, iSub_j, iMul_j, iNeg_j, Option.bind_some, jlt_t, jlt_f, jlt, jle_t, jle_f, jle, jeq_t, jeq_f, jeq, ↓reduceIte, o100, w100t, l102, mBand, mStake, mKind, mCross, mCr, mKindOf, mAhead, mWhen, mStep, mRods, mRodAt, mStakeAt, mIndex, mOver, mOverIn, jlL, X12_within, bI_t, bI_f, X12_no]
    have e1 : sHo (G 102) b (j + 1) = sHo (G 102) b j + sm (chg (sOv (G 102) b j)) (sCr (G 102) b).toNat * G 102 (8 + G 102 (83 + 4 * b + j)) * (100 - G 102 (14 + G 102 (83 + 4 * b + j))) := rfl
    rw [e1]
    generalize sHo (G 102) b j = S0
    refine (loopE (N := N) (fun n' (t : Int × Int) => L_X12_holdOf_23 N (L_X12_holdOf_4 N n) n' 100 (jI b) (jI S0) (jI (j : Int)) (jI t.1) (jI t.2) (hp q G)) (fun i => (sm (chg (sOv (G 102) b j)) (i + 1), ((i + 1 : Nat) : Int))) ((sCr (G 102) b).toNat - 1) (by omega) ?_ ?_) |> Eq.trans ?_
    · show _ = L_X12_holdOf_23 N (L_X12_holdOf_4 N n) N 100 (jI b) (jI S0) (jI (j : Int)) (jI (0 + chg (sOv (G 102) b j) 0)) (jI 1) (hp q G)
      unfold chg
      rw [if_neg (fun h => by omega)]
      rfl
    · intro m i hi
      show L_X12_holdOf_23 N (L_X12_holdOf_4 N n) (m + 1) 100 (jI b) (jI S0) (jI (j : Int)) (jI (sm (chg (sOv (G 102) b j)) (i + 1))) (jI ((i + 1 : Nat) : Int)) (hp q G) = L_X12_holdOf_23 N (L_X12_holdOf_4 N n) m 100 (jI b) (jI S0) (jI (j : Int)) (jI (sm (chg (sOv (G 102) b j)) (i + 1) + chg (sOv (G 102) b j) ((i + 1 : Nat) : Int))) (jI ((i + 1 + 1 : Nat) : Int)) (hp q G)
      generalize sm (chg (sOv (G 102) b j)) (i + 1) = S1
      rw [L_X12_holdOf_23, Int.natCast_succ]
      unfold chg
      by_cases d : sOv (G 102) b j ((i : Int) + 1) = sOv (G 102) b j ((i : Int) + 1 - 1)
      · rw [if_neg (fun h => h.2 d)]
        simp (maxSteps := 2000000) (disch := first | assumption | omega) only [jI0, iAdd_j, iSub_j, iMul_j, iNeg_j, Option.bind_some, jlt_t, jlt_f, jlt, jle_t, jle_f, jle, jeq_t, jeq_f, jeq, ↓reduceIte, o100, w100t, l102, mBand, mStake, mKind, mCross, mCr, mKindOf, mAhead, mWhen, mStep, mRods, mRodAt, mStakeAt, mIndex, mOver, mOverIn, jlL, X12_within, bI_t, bI_f, X12_no, d, Int.natCast_succ, Int.add_zero]
      · have d2 : ¬ ((sOv (G 102) b j ((i : Int) + 1) = true) ↔ (sOv (G 102) b j ((i : Int) + 1 - 1) = true)) := fun h => d (Bool.eq_iff_iff.mpr h)
        have h1 : 0 < (i : Int) + 1 ∧ sOv (G 102) b j ((i : Int) + 1) ≠ sOv (G 102) b j ((i : Int) + 1 - 1) := ⟨by omega, d⟩
        rw [if_pos h1]
        simp (maxSteps := 2000000) (disch := first | assumption | omega) only [jI0, iAdd_j, iSub_j, iMul_j, iNeg_j, Option.bind_some, jlt_t, jlt_f, jlt, jle_t, jle_f, jle, jeq_t, jeq_f, jeq, ↓reduceIte, o100, l102, mCr, mOver, bI_eq, d2, Int.natCast_succ]
    · intro m
      show L_X12_holdOf_23 N (L_X12_holdOf_4 N n) (m + 1) 100 (jI b) (jI S0) (jI (j : Int)) (jI (sm (chg (sOv (G 102) b j)) ((sCr (G 102) b).toNat - 1 + 1))) (jI (((sCr (G 102) b).toNat - 1 + 1 : Nat) : Int)) (hp q G) = _
      rw [L_X12_holdOf_23, show (sCr (G 102) b).toNat - 1 + 1 = (sCr (G 102) b).toNat by omega]
      simp (maxSteps := 2000000) (disch := first | assumption | omega) only [jI0, iAdd_j, iSub_j, iMul_j, iNeg_j, Option.bind_some, jlt_t, jlt_f, jlt, jle_t, jle_f, jle, jeq_t, jeq_f, jeq, ↓reduceIte, o100, w100t, l102, mBand, mStake, mKind, mCross, mCr, mKindOf, mAhead, mWhen, mStep, mRods, mRodAt, mStakeAt, mIndex, mOver, mOverIn, jlL, X12_within, bI_t, bI_f, X12_no, Int.natCast_succ]
  · intro n
    show L_X12_holdOf_4 N (n + 1) 100 (jI b) (jI _) (jI ((G 102 (27 + b)).toNat : Int)) (hp q G) = _
    rw [L_X12_holdOf_4]
    simp (maxSteps := 2000000) (disch := first | assumption | omega) only [jI0, iAdd_j, iSub_j, iMul_j, iNeg_j, Option.bind_some, jlt_t, jlt_f, jlt, jle_t, jle_f, jle, jeq_t, jeq_f, jeq, ↓reduceIte, o100, w100t, l102, mBand, mStake, mKind, mCross, mCr, mKindOf, mAhead, mWhen, mStep, mRods, mRodAt, mStakeAt, mIndex, mOver, mOverIn, jlL, X12_within, bI_t, bI_f, X12_no]
theorem op_hold (hN : 10000 ≤ N) (hI : INV K1 K2 q G) {b : Int} (h1 : -2147483648 ≤ b) (h2 : b < 2147483648) : OP K1 K2 q G (f_X11_hold N 0 (jI b)) (f_X12_hold N 100 (jI b)) := by
  have hB := hI.1.1; have hV := hB.1; have hT := hI.1.2.1; have g := hV.1
  by_cases c : 0 ≤ b ∧ b < G 102 26
  · refine OP.sc hI (jI (sHo (G 102) b (G 102 (27 + b)).toNat)) ?_ ?_
    · obtain ⟨G1, hw, e⟩ := oHold (q := q) hN hB hI.wv c
      refine ⟨G1, hw.sc, ?_⟩
      unfold f_X11_hold
      simp (maxSteps := 2000000) (disch := first | assumption | omega) only [jI0, iAdd_j, iSub_j, iMul_j, iNeg_j, Option.bind_some, jlt_t, jlt_f, jlt, jle_t, jle_f, jle, jeq_t, jeq_f, jeq, ↓reduceIte, o0, o2, o12, hBand, hStake, hKind, hCross, hWeaver, oBand, oKindOf, oKind, oCr, oRing, oWv, oPer, oRows, oAhead, oWhen, oAll, oStep, oRods, oRodAt, oStakeAt, oOff, bI_t, bI_f, X11_refuse, e]
    · intro G1 s1 hM e
      refine ⟨G1, SC.refl, ?_⟩
      have hV1 := hM.1; have hT1 := hM.2; (try rw [← e] at dm); (try rw [← e] at dr); (try rw [← e] at de); (try rw [← e] at dl); (try rw [← e] at hb); (try rw [← e] at hj); (try rw [← e] at hr); (try rw [← e] at hs); (try rw [← e] at pl); (try rw [← e] at al); (try rw [← e] at g); (try rw [← e] at c); (try rw [← e] at c1); (try rw [← e] at c2); (try rw [← e] at c3); (try rw [← e] at c4); (try rw [← e] at c5); (try rw [← e] at c6); (try rw [← e] at wb); (try rw [← e] at pr); (try rw [← e] at kd); (try rw [← e] at cr); (try rw [← e] at fe); (try rw [← e] at ra); (try rw [← e] at f1); (try rw [← e] at f2); (try rw [← e] at f3); (try rw [← e] at f4); (try rw [← e])
      unfold f_X12_hold
      simp (maxSteps := 2000000) (disch := first | assumption | omega) only [jI0, iAdd_j, iSub_j, iMul_j, iNeg_j, Option.bind_some, jlt_t, jlt_f, jlt, jle_t, jle_f, jle, jeq_t, jeq_f, jeq, ↓reduceIte, o100, w100t, l102, mBand, mStake, mKind, mCross, mCr, mKindOf, mAhead, mWhen, mStep, mRods, mRodAt, mStakeAt, mIndex, mOver, mOverIn, jlL, X12_within, bI_t, bI_f, X12_no, mHold]
  · refine OP.rf hI (-2) (jI (-2)) (by unfold f_X11_hold; simp (maxSteps := 2000000) (disch := first | assumption | omega) only [jI0, iAdd_j, iSub_j, iMul_j, iNeg_j, Option.bind_some, jlt_t, jlt_f, jlt, jle_t, jle_f, jle, jeq_t, jeq_f, jeq, ↓reduceIte, o0, o2, o12, hBand, hStake, hKind, hCross, hWeaver, oBand, oKindOf, oKind, oCr, oRing, oWv, oPer, oRows, oAhead, oWhen, oAll, oStep, oRods, oRodAt, oStakeAt, oOff, bI_t, bI_f, X11_refuse]) (by intro G1 hM e eo; have hV1 := hM.1; have hT1 := hM.2; (try rw [← e] at dm); (try rw [← e] at dr); (try rw [← e] at de); (try rw [← e] at dl); (try rw [← e] at hb); (try rw [← e] at hj); (try rw [← e] at hr); (try rw [← e] at hs); (try rw [← e] at pl); (try rw [← e] at al); (try rw [← e] at g); (try rw [← e] at c); (try rw [← e] at c1); (try rw [← e] at c2); (try rw [← e] at c3); (try rw [← e] at c4); (try rw [← e] at c5); (try rw [← e] at c6); (try rw [← e] at wb); (try rw [← e] at pr); (try rw [← e] at kd); (try rw [← e] at cr); (try rw [← e] at fe); (try rw [← e] at ra); (try rw [← e] at f1); (try rw [← e] at f2); (try rw [← e] at f3); (try rw [← e] at f4); (try rw [← e]); unfold f_X12_hold; simp (maxSteps := 2000000) (disch := first | assumption | omega) only [jI0, iAdd_j, iSub_j, iMul_j, iNeg_j, Option.bind_some, jlt_t, jlt_f, jlt, jle_t, jle_f, jle, jeq_t, jeq_f, jeq, ↓reduceIte, o100, w100t, l102, mBand, mStake, mKind, mCross, mCr, mKindOf, mAhead, mWhen, mStep, mRods, mRodAt, mStakeAt, mIndex, mOver, mOverIn, jlL, X12_within, bI_t, bI_f, X12_no])
/-- bits of the bands whose HOLD is below it -/
def sGv (A : Int → Int) (w : Int) : Nat → Int32
  | 0 => jI 0
  | k + 1 => if sHo A k (A (27 + k)).toNat < w then iOr (sGv A w k) (iShl (jI 1) (jI k)) else sGv A w k
theorem iOr_0 (x : Int32) : iOr x (jI 0) = x := by
  apply ib_ext
  intro k hk
  rw [ib_or, ib_0, Bool.or_false]
theorem op_gives (hN : 10000 ≤ N) (hI : INV K1 K2 q G) {w : Int} (h1 : -2147483648 ≤ w) (h2 : w < 2147483648) : OP K1 K2 q G (f_X11_gives N 0 (jI w)) (f_X12_gives N 100 (jI w)) := by
  have hB := hI.1.1; have hV := hB.1; have hT := hI.1.2.1; have g := hV.1
  by_cases c : 0 ≤ w
  · refine OP.sc hI (sGv (G 102) w (G 102 26).toNat) ?_ ?_
    · have L : ∃ G1, WK G G1 ∧ L_X11_gives_15 N N 0 (jI w) (jI 0) (jI 0) (hp q G) = some (sGv (G 102) w (G 102 26).toNat, hp q G1) := by
        refine loopQ (fun m (t : Int32 × Int × (Nat → Int → Int)) => L_X11_gives_15 N m 0 (jI w) t.1 (jI t.2.1) (hp q t.2.2)) (fun k t => t.1 = sGv (G 102) w k ∧ t.2.1 = k ∧ WK G t.2.2) (G 102 26).toNat (fun x => ∃ G1, WK G G1 ∧ x = some (sGv (G 102) w (G 102 26).toNat, hp q G1)) (by omega) (s := (jI 0, 0, G)) ⟨rfl, rfl, WK.refl hI.wv⟩ ?_ ?_
        · rintro m k ⟨z, i, G1⟩ hk ⟨rfl, rfl, hw⟩
          simp only at hw
          have e2 := hw.e
          have hB1 := hw.bb hB
          have e0 := hB1.2.1
          rw [e2] at e0
          obtain ⟨G2, hw2, e⟩ := oHold (q := q) hN hB1 hw.wv (b := (k : Int)) (by rw [e2]; omega)
          rw [e2] at e
          have hr := sHo_r hV (b := (k : Int)) ⟨by omega, by omega⟩
          refine ⟨(sGv (G 102) w (k + 1), ((k + 1 : Nat) : Int), G2), ⟨rfl, rfl, hw.trans hw2⟩, ?_⟩
          show L_X11_gives_15 N (m + 1) 0 (jI w) (sGv (G 102) w k) (jI (k : Int)) (hp q G1) = L_X11_gives_15 N m 0 (jI w) (sGv (G 102) w (k + 1)) (jI ((k + 1 : Nat) : Int)) (hp q G2)
          rw [L_X11_gives_15]
          simp only [sGv]
          by_cases d : sHo (G 102) k (G 102 (27 + k)).toNat < w
          · rw [if_pos d]
            simp (maxSteps := 2000000) (disch := first | assumption | omega) only [jI0, iAdd_j, iSub_j, iMul_j, iNeg_j, Option.bind_some, jlt_t, jlt_f, jlt, jle_t, jle_f, jle, jeq_t, jeq_f, jeq, ↓reduceIte, o0, o12, o2, e0, e, Int.natCast_succ]
          · rw [if_neg d]
            simp (maxSteps := 2000000) (disch := first | assumption | omega) only [jI0, iAdd_j, iSub_j, iMul_j, iNeg_j, Option.bind_some, jlt_t, jlt_f, jlt, jle_t, jle_f, jle, jeq_t, jeq_f, jeq, ↓reduceIte, o0, o12, o2, e0, e, Int.natCast_succ]
        · rintro m ⟨z, i, G1⟩ ⟨rfl, rfl, hw⟩
          simp only at hw
          have e0 := (hw.bb hB).2.1
          rw [hw.e] at e0
          refine ⟨G1, hw, ?_⟩
          show L_X11_gives_15 N (m + 1) 0 (jI w) _ (jI ((G 102 26).toNat : Int)) (hp q G1) = _
          rw [L_X11_gives_15]
          simp (maxSteps := 2000000) (disch := first | assumption | omega) only [jI0, iAdd_j, iSub_j, iMul_j, iNeg_j, Option.bind_some, jlt_t, jlt_f, jlt, jle_t, jle_f, jle, jeq_t, jeq_f, jeq, ↓reduceIte, o0, o2, e0]
      obtain ⟨G1, hw, e⟩ := L
      refine ⟨G1, hw.sc, ?_⟩
      unfold f_X11_gives
      simp (maxSteps := 2000000) (disch := first | assumption | omega) only [jI0, iAdd_j, iSub_j, iMul_j, iNeg_j, Option.bind_some, jlt_t, jlt_f, jlt, jle_t, jle_f, jle, jeq_t, jeq_f, jeq, ↓reduceIte, o0, o2, o12, hBand, hStake, hKind, hCross, hWeaver, oBand, oKindOf, oKind, oCr, oRing, oWv, oPer, oRows, oAhead, oWhen, oAll, oStep, oRods, oRodAt, oStakeAt, oOff, bI_t, bI_f, X11_refuse, e]
    · intro G1 s1 hM e
      refine ⟨G1, SC.refl, ?_⟩
      have hV1 := hM.1; have hT1 := hM.2; (try rw [← e] at dm); (try rw [← e] at dr); (try rw [← e] at de); (try rw [← e] at dl); (try rw [← e] at hb); (try rw [← e] at hj); (try rw [← e] at hr); (try rw [← e] at hs); (try rw [← e] at pl); (try rw [← e] at al); (try rw [← e] at g); (try rw [← e] at c); (try rw [← e] at c1); (try rw [← e] at c2); (try rw [← e] at c3); (try rw [← e] at c4); (try rw [← e] at c5); (try rw [← e] at c6); (try rw [← e] at wb); (try rw [← e] at pr); (try rw [← e] at kd); (try rw [← e] at cr); (try rw [← e] at fe); (try rw [← e] at ra); (try rw [← e] at f1); (try rw [← e] at f2); (try rw [← e] at f3); (try rw [← e] at f4); (try rw [← e])
      unfold f_X12_gives
      simp (maxSteps := 2000000) (disch := first | assumption | omega) only [jI0, iAdd_j, iSub_j, iMul_j, iNeg_j, Option.bind_some, jlt_t, jlt_f, jlt, jle_t, jle_f, jle, jeq_t, jeq_f, jeq, ↓reduceIte, o100, w100t, l102, mBand, mStake, mKind, mCross, mCr, mKindOf, mAhead, mWhen, mStep, mRods, mRodAt, mStakeAt, mIndex, mOver, mOverIn, jlL, X12_within, bI_t, bI_f, X12_no]
      refine loopE (N := N) (fun n (t : Int32 × Int) => L_X12_gives_20 N n 100 (jI w) t.1 (jI t.2) (hp q G1)) (fun k => (sGv (G1 102) w k, (k : Int))) (G1 102 26).toNat (by omega) ?_ ?_
      · intro n k hk
        show L_X12_gives_20 N (n + 1) 100 (jI w) (sGv (G1 102) w k) (jI (k : Int)) (hp q G1) = L_X12_gives_20 N n 100 (jI w) (sGv (G1 102) w (k + 1)) (jI ((k + 1 : Nat) : Int)) (hp q G1)
        have hr := sHo_r hV1 (b := (k : Int)) ⟨by omega, by omega⟩
        have mh := mHold (q := q) hN hV1 (b := (k : Int)) ⟨by omega, by omega⟩
        rw [L_X12_gives_20]
        simp only [sGv]
        by_cases d : sHo (G1 102) k (G1 102 (27 + k)).toNat < w
        · rw [if_pos d]
          simp (maxSteps := 2000000) (disch := first | assumption | omega) only [jI0, iAdd_j, iSub_j, iMul_j, iNeg_j, Option.bind_some, jlt_t, jlt_f, jlt, jle_t, jle_f, jle, jeq_t, jeq_f, jeq, ↓reduceIte, o100, l102, mh, Int.natCast_succ]
        · rw [if_neg d]
          simp (maxSteps := 2000000) (disch := first | assumption | omega) only [jI0, iAdd_j, iSub_j, iMul_j, iNeg_j, Option.bind_some, jlt_t, jlt_f, jlt, jle_t, jle_f, jle, jeq_t, jeq_f, jeq, ↓reduceIte, o100, l102, mh, iOr_0, Int.natCast_succ]
      · intro n
        show L_X12_gives_20 N (n + 1) 100 (jI w) _ (jI ((G1 102 26).toNat : Int)) (hp q G1) = _
        rw [L_X12_gives_20]
        simp (maxSteps := 2000000) (disch := first | assumption | omega) only [jI0, iAdd_j, iSub_j, iMul_j, iNeg_j, Option.bind_some, jlt_t, jlt_f, jlt, jle_t, jle_f, jle, jeq_t, jeq_f, jeq, ↓reduceIte, o100, w100t, l102, mBand, mStake, mKind, mCross, mCr, mKindOf, mAhead, mWhen, mStep, mRods, mRodAt, mStakeAt, mIndex, mOver, mOverIn, jlL, X12_within, bI_t, bI_f, X12_no]
  · refine OP.rf hI (-3) (jI (-3)) (by unfold f_X11_gives; simp (maxSteps := 2000000) (disch := first | assumption | omega) only [jI0, iAdd_j, iSub_j, iMul_j, iNeg_j, Option.bind_some, jlt_t, jlt_f, jlt, jle_t, jle_f, jle, jeq_t, jeq_f, jeq, ↓reduceIte, o0, o2, o12, hBand, hStake, hKind, hCross, hWeaver, oBand, oKindOf, oKind, oCr, oRing, oWv, oPer, oRows, oAhead, oWhen, oAll, oStep, oRods, oRodAt, oStakeAt, oOff, bI_t, bI_f, X11_refuse]) (by intro G1 hM e eo; have hV1 := hM.1; have hT1 := hM.2; (try rw [← e] at dm); (try rw [← e] at dr); (try rw [← e] at de); (try rw [← e] at dl); (try rw [← e] at hb); (try rw [← e] at hj); (try rw [← e] at hr); (try rw [← e] at hs); (try rw [← e] at pl); (try rw [← e] at al); (try rw [← e] at g); (try rw [← e] at c); (try rw [← e] at c1); (try rw [← e] at c2); (try rw [← e] at c3); (try rw [← e] at c4); (try rw [← e] at c5); (try rw [← e] at c6); (try rw [← e] at wb); (try rw [← e] at pr); (try rw [← e] at kd); (try rw [← e] at cr); (try rw [← e] at fe); (try rw [← e] at ra); (try rw [← e] at f1); (try rw [← e] at f2); (try rw [← e] at f3); (try rw [← e] at f4); (try rw [← e]); unfold f_X12_gives; simp (maxSteps := 2000000) (disch := first | assumption | omega) only [jI0, iAdd_j, iSub_j, iMul_j, iNeg_j, Option.bind_some, jlt_t, jlt_f, jlt, jle_t, jle_f, jle, jeq_t, jeq_f, jeq, ↓reduceIte, o100, w100t, l102, mBand, mStake, mKind, mCross, mCr, mKindOf, mAhead, mWhen, mStep, mRods, mRodAt, mStakeAt, mIndex, mOver, mOverIn, jlL, X12_within, bI_t, bI_f, X12_no])
end
