/-! calls: seam, turn, spiral -/
/-- how many alike: the last row of a band, the first one of the next from f -/
def sSm (A : Int → Int) (b f : Int) (n : Nat) : Int := sm (fun s => if sOI A b (A (27 + b) * A (51 + b) - 1) s = sOv A (b + 1) 0 (sOff A (b + 1) f 0 s) then 1 else 0) n
theorem pcn_sm {x : Int32} {f : Int → Bool} : ∀ {n : Nat}, (∀ k : Nat, k < n → ib x k = f k) → ((pcn x n : Nat) : Int) = sm (fun k => if f k = true then 1 else 0) n
  | 0, _ => rfl
  | n + 1, h => by
    have ih := pcn_sm (n := n) (fun k hk => h k (by omega))
    have hn := h n (by omega)
    simp only [sm, pcn]
    rw [Int.natCast_add, ih]
    unfold bb
    rw [hn]
    by_cases c : f n = true
    · rw [if_pos c, if_pos c]; rfl
    · rw [if_neg c, if_neg c]; rfl
theorem sm_tail {f : Int → Int} {n : Nat} : ∀ {d : Nat}, (∀ k : Nat, n ≤ k → f k = 0) → sm f (n + d) = sm f n
  | 0, _ => rfl
  | d + 1, h => by
    show sm f (n + d) + f ((n + d : Nat) : Int) = _
    rw [sm_tail (d := d) h, h (n + d) (by omega), Int.add_zero]
theorem sm_one {n : Nat} : sm (fun _ => 1) n = n := by
  induction n with
  | zero => rfl
  | succ n ih => simp only [sm]; rw [ih, Int.natCast_succ]
section
variable {K1 K2 : (Int → Int) → (Int → Int) → Prop} {q : Nat × Nat × (Nat → Nat)} {G : Nat → Int → Int} {N : Nat}
theorem oBits (hN : 10000 ≤ N) (hB : BB G) (hW : WV (G 12 5) (G 13) (G 102)) {b row f : Int} (hb : 0 ≤ b ∧ b < G 102 26) (hr : 0 ≤ row ∧ row < G 102 (27 + b) * G 102 (51 + b)) (hf : 0 ≤ f ∧ f < G 102 0) : ∃ G' y, WK G G' ∧ f_X10_stakeBits N 12 (jI b) (jI row) (jI f) (hp q G) = some (y, hp q G') ∧ ∀ k : Nat, ib y k = (decide ((k : Int) < G 102 0) && sOv (G 102) b (row % G 102 (27 + b)) (row / G 102 (27 + b) * G 102 0 + sOff (G 102) b f (row % G 102 (27 + b)) k)) := by
  have g := hB.1.1
  have e0 := hB.2.1.1
  have wb := hB.1.2.2.1 b hb.1 hb.2
  obtain ⟨dm, dr, de, dl⟩ := rowDm hB.1 hb hr
  obtain ⟨G', hw, e⟩ := oRowB (q := q) hN hB hW hb hr
  have hB1 := hw.bb hB
  have e2 := hw.e
  have o5 : f_X0_ofBand N 2 (jI b) (jI 5) (hp q G') = some (jI (G 102 (67 + b)), hp q G') := by
    have := (oBand (q := q) (N := N) hB1 (b := b) hb.1 (by rw [e2]; exact hb.2)).2.2.2.2.2.1
    rw [e2] at this
    exact this
  have bit : ∀ k : Nat, ib (jI (sRo (G 102) b (row % G 102 (27 + b)) (row / G 102 (27 + b)))) k = (decide (k < (G 102 0).toNat) && sOv (G 102) b (row % G 102 (27 + b)) (row / G 102 (27 + b) * G 102 0 + k)) := fun k => by
    unfold sRo
    rw [ib_msk _ (by omega)]
  by_cases c : G 102 (67 + b) = 1
  · obtain ⟨y1, m1, b1⟩ := X11_mirrored (N := N) hN (h := hp q G') (x := jI (sRo (G 102) b (row % G 102 (27 + b)) (row / G 102 (27 + b)))) (n := G 102 0) (by omega) (by omega)
    obtain ⟨y2, m2, b2⟩ := X11_turned (N := N) (h := hp q G') (x := y1) (t := f - row % G 102 (27 + b) + 1) (n := G 102 0) (by omega) (by omega) (by omega) (by omega) (fun k hk => by rw [b1]; simp [show ¬ (k : Int) < G 102 0 by omega])
    refine ⟨G', y2, hw, ?_, ?_⟩
    · unfold f_X10_stakeBits
      simp (maxSteps := 2000000) (disch := first | assumption | omega) only [jI0, iAdd_j, iSub_j, iMul_j, iNeg_j, Option.bind_some, jlt_t, jlt_f, jlt, jle_t, jle_f, jle, jeq_t, jeq_f, jeq, ↓reduceIte, o12, o2, e0, oWv hB, iRem_p, e, o5, c, m1, m2]
    · intro k
      rw [b2, b1, bit]
      by_cases d : (k : Int) < G 102 0
      · have z0 := Int.emod_nonneg ((k : Int) - (f - row % G 102 (27 + b) + 1)) (show G 102 0 ≠ 0 by omega)
        have z1 := Int.emod_lt_of_pos ((k : Int) - (f - row % G 102 (27 + b) + 1)) (show 0 < G 102 0 by omega)
        have zm : ((G 102 0 - 1 - (((k : Int) - (f - row % G 102 (27 + b) + 1)) % G 102 0).toNat).toNat : Int) = sOff (G 102) b f (row % G 102 (27 + b)) k := by
          unfold sOff
          rw [if_pos c]
          have em := Int.emod_add_mul_ediv ((k : Int) - (f - row % G 102 (27 + b) + 1)) (G 102 0)
          rw [show f - row % G 102 (27 + b) - (k : Int) = (G 102 0 - 1 - ((k : Int) - (f - row % G 102 (27 + b) + 1)) % G 102 0) + G 102 0 * (-(((k : Int) - (f - row % G 102 (27 + b) + 1)) / G 102 0) - 1) by rw [Int.mul_sub, Int.mul_neg, Int.mul_one]; omega, Int.add_mul_emod_self_left, show (G 102 0 - 1 - ((k : Int) - (f - row % G 102 (27 + b) + 1)) % G 102 0) % G 102 0 = G 102 0 - 1 - ((k : Int) - (f - row % G 102 (27 + b) + 1)) % G 102 0 from Int.emod_eq_of_lt (by omega) (by omega)]
          omega
        rw [zm]
        have l1 : (((k : Int) - (f - row % G 102 (27 + b) + 1)) % G 102 0).toNat < G 102 0 := by omega
        have l2 : (G 102 0 - 1 - (((k : Int) - (f - row % G 102 (27 + b) + 1)) % G 102 0).toNat).toNat < (G 102 0).toNat := by omega
        simp only [d, l1, l2, decide_true, Bool.true_and]
      · simp [d]
  · obtain ⟨y2, m2, b2⟩ := X11_turned (N := N) (h := hp q G') (x := jI (sRo (G 102) b (row % G 102 (27 + b)) (row / G 102 (27 + b)))) (t := f + row % G 102 (27 + b)) (n := G 102 0) (by omega) (by omega) (by omega) (by omega) (fun k hk => by rw [bit]; simp [show ¬ k < (G 102 0).toNat by omega])
    refine ⟨G', y2, hw, ?_, ?_⟩
    · unfold f_X10_stakeBits
      simp (maxSteps := 2000000) (disch := first | assumption | omega) only [jI0, iAdd_j, iSub_j, iMul_j, iNeg_j, Option.bind_some, jlt_t, jlt_f, jlt, jle_t, jle_f, jle, jeq_t, jeq_f, jeq, ↓reduceIte, o12, o2, e0, oWv hB, iRem_p, e, o5, c, m2]
    · intro k
      rw [b2, bit]
      by_cases d : (k : Int) < G 102 0
      · have z0 := Int.emod_nonneg ((k : Int) - (f + row % G 102 (27 + b))) (show G 102 0 ≠ 0 by omega)
        have z1 := Int.emod_lt_of_pos ((k : Int) - (f + row % G 102 (27 + b))) (show 0 < G 102 0 by omega)
        have zm : (((((k : Int) - (f + row % G 102 (27 + b))) % G 102 0).toNat : Nat) : Int) = sOff (G 102) b f (row % G 102 (27 + b)) k := by
          unfold sOff
          rw [if_neg c, show (k : Int) - f - row % G 102 (27 + b) = (k : Int) - (f + row % G 102 (27 + b)) by omega]
          omega
        rw [zm]
        have l2 : (((k : Int) - (f + row % G 102 (27 + b))) % G 102 0).toNat < (G 102 0).toNat := by omega
        simp only [d, l2, decide_true, Bool.true_and]
      · simp [d]
theorem xorN : ∀ a b : Bool, (a = b → (a ^^ b) = false) ∧ (a ≠ b → (a ^^ b) = true) := by decide
theorem oAlike (hN : 10000 ≤ N) (hB : BB G) (hW : WV (G 12 5) (G 13) (G 102)) {b f : Int} (hb : 0 ≤ b ∧ b + 1 < G 102 26) (hf : 0 ≤ f ∧ f < G 102 0) : ∃ G', WK G G' ∧ f_X10_alike N 12 (jI b) (jI f) (hp q G) = some (jI (sSm (G 102) b f (G 102 0).toNat), hp q G') := by
  have g := hB.1.1
  have wb := hB.1.2.2.1 b hb.1 (by omega)
  have wb2 := hB.1.2.2.1 (b + 1) (by omega) hb.2
  have pr := mulB (a := G 102 (27 + b)) (b := G 102 (51 + b)) (c := 4) (d := 40) (by omega) (by omega) (by omega) (by omega)
  have pp := Int.mul_pos (show 0 < G 102 (27 + b) by omega) (show 0 < G 102 (51 + b) by omega)
  have pp2 := Int.mul_pos (show 0 < G 102 (27 + (b + 1)) by omega) (show 0 < G 102 (51 + (b + 1)) by omega)
  obtain ⟨G1, y1, hw1, e1, b1⟩ := oBits (q := q) hN hB hW (b := b) (row := G 102 (27 + b) * G 102 (51 + b) - 1) (f := G 102 (59 + b)) ⟨hb.1, by omega⟩ (by omega) (by omega)
  have e2 := hw1.e
  have hB1 := hw1.bb hB
  obtain ⟨G2, y2, hw2, e3, b2⟩ := oBits (q := q) hN hB1 hw1.wv (b := b + 1) (row := 0) (f := f) (by rw [e2]; omega) (by rw [e2]; omega) (by rw [e2]; exact hf)
  have hw := hw1.trans hw2
  rw [e2] at b2
  have e0 := (hw.bb hB).2.1.1
  rw [hw.e] at e0
  refine ⟨G2, hw, ?_⟩
  have E1 : ∀ s : Int, sOff (G 102) b (G 102 (59 + b)) ((G 102 (27 + b) * G 102 (51 + b) - 1) % G 102 (27 + b)) s = sOf (G 102) b ((G 102 (27 + b) * G 102 (51 + b) - 1) % G 102 (27 + b)) s := fun s => rfl
  have B1 : ∀ k : Nat, (k : Int) < G 102 0 → ib (iXor y1 y2) k = (sOI (G 102) b (G 102 (27 + b) * G 102 (51 + b) - 1) k ^^ sOv (G 102) (b + 1) 0 (sOff (G 102) (b + 1) f 0 k)) := by
    intro k hk
    rw [ib_xor, b1, b2, E1]
    simp only [hk, decide_true, Bool.true_and, Int.zero_emod, Int.zero_ediv, Int.zero_mul, Int.zero_add]
    rfl
  have B2 : ∀ k : Nat, (G 102 0).toNat ≤ k → ib (iXor y1 y2) k = false := by
    intro k hk
    rw [ib_xor, b1, b2]
    simp [show ¬ (k : Int) < G 102 0 by omega]
  have P : ((pcn (iXor y1 y2) 32 : Nat) : Int) = G 102 0 - sSm (G 102) b f (G 102 0).toNat := by
    have z : ((pcn (iXor y1 y2) 32 : Nat) : Int) = sm (fun k => if ib (iXor y1 y2) k.toNat = true then 1 else 0) 32 := pcn_sm (f := fun k => ib (iXor y1 y2) k.toNat) (fun k _ => rfl)
    rw [z, show (32 : Nat) = (G 102 0).toNat + (32 - (G 102 0).toNat) by omega, sm_tail (by
      intro k hk
      rw [Int.toNat_natCast, B2 k hk]
      rfl)]
    have y := sm_add (f := fun k => if ib (iXor y1 y2) k.toNat = true then 1 else 0) (g := fun s => if sOI (G 102) b (G 102 (27 + b) * G 102 (51 + b) - 1) s = sOv (G 102) (b + 1) 0 (sOff (G 102) (b + 1) f 0 s) then 1 else 0) (n := (G 102 0).toNat)
    rw [sm_congr (g := fun _ => 1) (by
      intro k hk
      simp only [Int.toNat_natCast]
      have hb1 := B1 k (by omega)
      by_cases hx : sOI (G 102) b (G 102 (27 + b) * G 102 (51 + b) - 1) k = sOv (G 102) (b + 1) 0 (sOff (G 102) (b + 1) f 0 k)
      · rw [if_pos hx, if_neg (by rw [hb1, (xorN _ _).1 hx]; exact Bool.false_ne_true)]
        rfl
      · rw [if_neg hx, if_pos (by rw [hb1, (xorN _ _).2 hx])]
        rfl), sm_one] at y
    unfold sSm
    omega
  unfold f_X10_alike
  simp (maxSteps := 2000000) (disch := first | assumption | omega) only [jI0, iAdd_j, iSub_j, iMul_j, iNeg_j, Option.bind_some, jlt_t, jlt_f, jlt, jle_t, jle_f, jle, jeq_t, jeq_f, jeq, ↓reduceIte, o12, oRows hB, oBand hB, e1, e3, o2, e0, bitCount]
  rw [P]
  congr 3
  omega
theorem BV_from {A : Int → Int} (h : BV A) {b f : Int} (hb : 0 ≤ b ∧ b < A 26) (hf : 0 ≤ f ∧ f < A 0) : BV (u1 A (59 + b) f) := by
  obtain ⟨g, h1, h2, h3, h4⟩ := h
  refine ⟨?_, ?_, ?_, ?_, ?_⟩
  · simp (disch := omega) only [u1_ne]
    exact g
  · intro k k0 k1
    simp (disch := omega) only [u1_ne] at k1
    simp (disch := omega) only [u1_ne]
    exact h1 k k0 k1
  · intro b' k0 k1
    simp (disch := omega) only [u1_ne] at k1
    simp (disch := omega) only [u1_ne]
    have := h2 b' k0 k1
    clear h1 h2 h3 h4
    by_cases c : b' = b
    · subst c
      rw [u1_eq]
      omega
    · simp (disch := omega) only [u1_ne]
      exact this
  · intro b' j k0 k1 j0 j1
    have := h2 b' k0 (by simp (disch := omega) only [u1_ne] at k1; exact k1)
    simp (disch := omega) only [u1_ne] at k1
    simp (disch := omega) only [u1_ne] at j1
    simp (disch := omega) only [u1_ne]
    exact h3 b' j k0 k1 j0 j1
  · intro s k0 k1
    simp (disch := omega) only [u1_ne] at k1
    simp (disch := omega) only [u1_ne]
    exact h4 s k0 k1
theorem sPl_u {A : Int → Int} (hV : BV A) {p v b j i : Int} (hp : p < 115 ∨ 140 ≤ p) : sPl (u1 A p v) b j i = sPl A b j i := by
  have g := hV.1
  unfold sPl
  simp (disch := omega) only [u1_ne]
  congr 1
  apply sm_congr
  intro k hk
  simp (disch := omega) only [u1_ne]
theorem sOv_u {A : Int → Int} (hV : BV A) {p v b j i : Int} (hp : p < 115 ∨ 140 ≤ p) (h1 : p ≠ 35 + b) (h2 : p ≠ 43 + b) : sOv (u1 A p v) b j i = sOv A b j i := by
  unfold sOv
  rw [sPl_u hV hp]
  simp (disch := omega) only [u1_ne]
theorem mSeam (hN : 10000 ≤ N) (hV : BV (G 102)) {b : Int} (hb : 0 ≤ b ∧ b + 1 < G 102 26) : f_X12_seamOf N 100 (jI b) (hp q G) = some (jI (sSm (G 102) b (G 102 (59 + (b + 1))) (G 102 0).toNat), hp q G) := by
  have g := hV.1
  have wb := hV.2.2.1 b hb.1 (by omega)
  have wb2 := hV.2.2.1 (b + 1) (by omega) hb.2
  have pr := mulB (a := G 102 (27 + b)) (b := G 102 (51 + b)) (c := 4) (d := 40) (by omega) (by omega) (by omega) (by omega)
  have pp := Int.mul_pos (show 0 < G 102 (27 + b) by omega) (show 0 < G 102 (51 + b) by omega)
  have pp2 := Int.mul_pos (show 0 < G 102 (27 + (b + 1)) by omega) (show 0 < G 102 (51 + (b + 1)) by omega)
  unfold f_X12_seamOf
  refine loopE (fun n (t : Int × Int) => L_X12_seamOf_4 N n 100 (jI b) (jI t.1) (jI t.2) (hp q G)) (fun k => (sSm (G 102) b (G 102 (59 + (b + 1))) k, (k : Int))) (G 102 0).toNat (by omega) ?_ ?_
  · intro n k hk
    show L_X12_seamOf_4 N (n + 1) 100 (jI b) (jI (sSm (G 102) b (G 102 (59 + (b + 1))) k)) (jI k) (hp q G) = L_X12_seamOf_4 N n 100 (jI b) (jI (sSm (G 102) b (G 102 (59 + (b + 1))) (k + 1))) (jI ((k + 1 : Nat) : Int)) (hp q G)
    have E : sOI (G 102) (b + 1) 0 k = sOv (G 102) (b + 1) 0 (sOff (G 102) (b + 1) (G 102 (59 + (b + 1))) 0 k) := by
      unfold sOI
      simp only [Int.zero_emod, Int.zero_ediv, Int.zero_mul, Int.zero_add]
      rfl
    have c1 : 0 ≤ b ∧ b < G 102 26 := by omega
    have c2 : 0 ≤ b + 1 ∧ b + 1 < G 102 26 := by omega
    rw [L_X12_seamOf_4]
    simp only [sSm, sm]
    rw [← E]
    by_cases d : sOI (G 102) b (G 102 (27 + b) * G 102 (51 + b) - 1) k = sOI (G 102) (b + 1) 0 k
    · rw [if_pos d]
      simp (maxSteps := 2000000) (disch := first | assumption | omega) only [jI0, iAdd_j, iSub_j, iMul_j, iNeg_j, Option.bind_some, jlt_t, jlt_f, jlt, jle_t, jle_f, jle, jeq_t, jeq_f, jeq, ↓reduceIte, o100, w100t, l102, mBand, mStake, mKind, mCross, mCr, mKindOf, mAhead, mWhen, mStep, mRods, mRodAt, mStakeAt, mIndex, mOver, mOverIn, jlL, X12_within, bI_t, bI_f, X12_no, d, Int.natCast_succ]
    · rw [if_neg d, Int.add_zero]
      have : ¬ ((sOI (G 102) b (G 102 (27 + b) * G 102 (51 + b) - 1) k = true) ↔ (sOI (G 102) (b + 1) 0 k = true)) := fun h => d (Bool.eq_iff_iff.mpr h)
      simp (maxSteps := 2000000) (disch := first | assumption | omega) only [jI0, iAdd_j, iSub_j, iMul_j, iNeg_j, Option.bind_some, jlt_t, jlt_f, jlt, jle_t, jle_f, jle, jeq_t, jeq_f, jeq, ↓reduceIte, o100, l102, mOverIn, bI_eq, this, Int.natCast_succ, Int.add_zero]
  · intro n
    show L_X12_seamOf_4 N (n + 1) 100 (jI b) (jI _) (jI ((G 102 0).toNat : Int)) (hp q G) = _
    rw [L_X12_seamOf_4]
    simp (maxSteps := 2000000) (disch := first | assumption | omega) only [jI0, iAdd_j, iSub_j, iMul_j, iNeg_j, Option.bind_some, jlt_t, jlt_f, jlt, jle_t, jle_f, jle, jeq_t, jeq_f, jeq, ↓reduceIte, o100, w100t, l102, mBand, mStake, mKind, mCross, mCr, mKindOf, mAhead, mWhen, mStep, mRods, mRodAt, mStakeAt, mIndex, mOver, mOverIn, jlL, X12_within, bI_t, bI_f, X12_no]
theorem op_seam (hN : 10000 ≤ N) (hI : INV K1 K2 q G) {b : Int} (h1 : -2147483648 ≤ b) (h2 : b < 2147483648) : OP K1 K2 q G (f_X11_seam N 0 (jI b)) (f_X12_seam N 100 (jI b)) := by
  have hB := hI.1.1; have hV := hB.1; have hT := hI.1.2.1; have g := hV.1
  by_cases c : 0 ≤ b ∧ b < G 102 26
  · by_cases c1 : b + 1 < G 102 26
    · have wb := hV.2.2.1 (b + 1) (by omega) c1
      refine OP.sc hI (jI (sSm (G 102) b (G 102 (59 + (b + 1))) (G 102 0).toNat)) ?_ ?_
      · obtain ⟨G1, hw, e⟩ := oAlike (q := q) hN hB hI.wv (b := b) (f := G 102 (59 + (b + 1))) ⟨c.1, c1⟩ (by omega)
        refine ⟨G1, hw.sc, ?_⟩
        unfold f_X11_seam
        simp (maxSteps := 2000000) (disch := first | assumption | omega) only [jI0, iAdd_j, iSub_j, iMul_j, iNeg_j, Option.bind_some, jlt_t, jlt_f, jlt, jle_t, jle_f, jle, jeq_t, jeq_f, jeq, ↓reduceIte, o0, o2, o12, hBand, hStake, hKind, hCross, hWeaver, oBand, oKindOf, oKind, oCr, oRing, oWv, oPer, oRows, oAhead, oWhen, oAll, oStep, oRods, oRodAt, oStakeAt, oOff, bI_t, bI_f, X11_refuse, e]
      · intro G1 s1 hM e
        refine ⟨G1, SC.refl, ?_⟩
        have hV1 := hM.1; have hT1 := hM.2; (try rw [← e] at dm); (try rw [← e] at dr); (try rw [← e] at de); (try rw [← e] at dl); (try rw [← e] at hb); (try rw [← e] at hj); (try rw [← e] at hr); (try rw [← e] at hs); (try rw [← e] at pl); (try rw [← e] at al); (try rw [← e] at g); (try rw [← e] at c); (try rw [← e] at c1); (try rw [← e] at c2); (try rw [← e] at c3); (try rw [← e] at c4); (try rw [← e] at c5); (try rw [← e] at c6); (try rw [← e] at wb); (try rw [← e] at pr); (try rw [← e] at kd); (try rw [← e] at cr); (try rw [← e] at fe); (try rw [← e] at ra); (try rw [← e] at f1); (try rw [← e] at f2); (try rw [← e] at f3); (try rw [← e] at f4); (try rw [← e])
        unfold f_X12_seam
        simp (maxSteps := 2000000) (disch := first | assumption | omega) only [jI0, iAdd_j, iSub_j, iMul_j, iNeg_j, Option.bind_some, jlt_t, jlt_f, jlt, jle_t, jle_f, jle, jeq_t, jeq_f, jeq, ↓reduceIte, o100, w100t, l102, mBand, mStake, mKind, mCross, mCr, mKindOf, mAhead, mWhen, mStep, mRods, mRodAt, mStakeAt, mIndex, mOver, mOverIn, jlL, X12_within, bI_t, bI_f, X12_no, mSeam]
    · refine OP.ans hI (jI (-1)) ?_ ?_
      · unfold f_X11_seam
        simp (maxSteps := 2000000) (disch := first | assumption | omega) only [jI0, iAdd_j, iSub_j, iMul_j, iNeg_j, Option.bind_some, jlt_t, jlt_f, jlt, jle_t, jle_f, jle, jeq_t, jeq_f, jeq, ↓reduceIte, o0, o2, o12, hBand, hStake, hKind, hCross, hWeaver, oBand, oKindOf, oKind, oCr, oRing, oWv, oPer, oRows, oAhead, oWhen, oAll, oStep, oRods, oRodAt, oStakeAt, oOff, bI_t, bI_f, X11_refuse]
      · unfold f_X12_seam
        simp (maxSteps := 2000000) (disch := first | assumption | omega) only [jI0, iAdd_j, iSub_j, iMul_j, iNeg_j, Option.bind_some, jlt_t, jlt_f, jlt, jle_t, jle_f, jle, jeq_t, jeq_f, jeq, ↓reduceIte, o100, w100t, l102, mBand, mStake, mKind, mCross, mCr, mKindOf, mAhead, mWhen, mStep, mRods, mRodAt, mStakeAt, mIndex, mOver, mOverIn, jlL, X12_within, bI_t, bI_f, X12_no]
  · refine OP.rf hI (-2) (jI (-2)) (by unfold f_X11_seam; simp (maxSteps := 2000000) (disch := first | assumption | omega) only [jI0, iAdd_j, iSub_j, iMul_j, iNeg_j, Option.bind_some, jlt_t, jlt_f, jlt, jle_t, jle_f, jle, jeq_t, jeq_f, jeq, ↓reduceIte, o0, o2, o12, hBand, hStake, hKind, hCross, hWeaver, oBand, oKindOf, oKind, oCr, oRing, oWv, oPer, oRows, oAhead, oWhen, oAll, oStep, oRods, oRodAt, oStakeAt, oOff, bI_t, bI_f, X11_refuse]) (by intro G1 hM e eo; have hV1 := hM.1; have hT1 := hM.2; (try rw [← e] at dm); (try rw [← e] at dr); (try rw [← e] at de); (try rw [← e] at dl); (try rw [← e] at hb); (try rw [← e] at hj); (try rw [← e] at hr); (try rw [← e] at hs); (try rw [← e] at pl); (try rw [← e] at al); (try rw [← e] at g); (try rw [← e] at c); (try rw [← e] at c1); (try rw [← e] at c2); (try rw [← e] at c3); (try rw [← e] at c4); (try rw [← e] at c5); (try rw [← e] at c6); (try rw [← e] at wb); (try rw [← e] at pr); (try rw [← e] at kd); (try rw [← e] at cr); (try rw [← e] at fe); (try rw [← e] at ra); (try rw [← e] at f1); (try rw [← e] at f2); (try rw [← e] at f3); (try rw [← e] at f4); (try rw [← e]); unfold f_X12_seam; simp (maxSteps := 2000000) (disch := first | assumption | omega) only [jI0, iAdd_j, iSub_j, iMul_j, iNeg_j, Option.bind_some, jlt_t, jlt_f, jlt, jle_t, jle_f, jle, jeq_t, jeq_f, jeq, ↓reduceIte, o100, w100t, l102, mBand, mStake, mKind, mCross, mCr, mKindOf, mAhead, mWhen, mStep, mRods, mRodAt, mStakeAt, mIndex, mOver, mOverIn, jlL, X12_within, bI_t, bI_f, X12_no])
theorem up_up {a : Nat} {i v w : Int} : up (up G a i v) a i w = up G a i w := by
  funext b j
  by_cases h : b = a
  · subst h
    rw [up_eq, up_eq, up_eq]
    by_cases hj : j = i
    · subst hj; rw [u1_eq, u1_eq]
    · rw [u1_ne hj, u1_ne hj, u1_ne hj]
  · rw [up_ne h, up_ne h, up_ne h]
theorem up_self {a : Nat} {i : Int} : up G a i (G a i) = G := by
  funext b j
  by_cases h : b = a
  · subst h
    rw [up_eq]
    by_cases hj : j = i
    · subst hj; rw [u1_eq]
    · rw [u1_ne hj]
  · rw [up_ne h]
theorem sm_r1 {p : Int → Prop} [DecidablePred p] {n : Nat} : 0 ≤ sm (fun s => if p s then 1 else 0) n ∧ sm (fun s => if p s then 1 else 0) n ≤ n := by
  have := sm_le (f := fun s => if p s then 1 else 0) (c := 1) (n := n) (fun k _ => by split <;> omega)
  omega
theorem sSm_r {A : Int → Int} {b f : Int} {n : Nat} : 0 ≤ sSm A b f n ∧ sSm A b f n ≤ n := sm_r1
theorem sSm_u {A : Int → Int} (hV : BV A) {b f f' : Int} (hb : 0 ≤ b ∧ b + 1 < A 26) {n : Nat} : sSm (u1 A (59 + (b + 1)) f') b f n = sSm A b f n := by
  have g := hV.1
  unfold sSm
  apply sm_congr
  intro k hk
  unfold sOI sOf sOff
  rw [sOv_u hV (by omega) (by omega) (by omega), sOv_u hV (by omega) (by omega) (by omega)]
  simp (disch := omega) only [u1_ne]
theorem op_turn (hN : 10000 ≤ N) (hI : INV K1 K2 q G) {b : Int} (h1 : -2147483648 ≤ b) (h2 : b < 2147483648) : OP K1 K2 q G (f_X11_turn N 0 (jI b)) (f_X12_turn N 100 (jI b)) := by
  have hB := hI.1.1; have hV := hB.1; have hT := hI.1.2.1; have g := hV.1
  by_cases c : 0 ≤ b ∧ b < G 102 26
  · by_cases c1 : b + 1 < G 102 26
    · have wb := hV.2.2.1 (b + 1) (by omega) c1
      generalize hf : (fun f => sSm (G 102) b f (G 102 0).toNat) = f
      have fe : ∀ x, sSm (G 102) b x (G 102 0).toNat = f x := fun x => by rw [← hf]
      have F : ∀ x, 0 ≤ f x ∧ f x ≤ 32 := fun x => by rw [← fe]; have := sSm_r (A := G 102) (b := b) (f := x) (n := (G 102 0).toNat); omega
      have F2 : ∀ k : Nat, 0 ≤ (chB f k).1 ∧ (chB f k).1 ≤ k ∧ 0 ≤ (chB f k).2 ∧ (chB f k).2 ≤ 32 := fun k => chB_r k (fun i _ => F i)
      refine OP.sc hI (jI (chB f ((G 102 0).toNat - 1)).1) ?_ ?_
      · have L : ∃ G1, WK G G1 ∧ f_X10_bestFrom N 12 (jI b) (hp q G) = some (jI (chB f ((G 102 0).toNat - 1)).1, hp q G1) := by
          obtain ⟨G1, hw1, e1⟩ := oAlike (q := q) hN hB hI.wv (b := b) (f := 0) ⟨c.1, c1⟩ (by omega)
          unfold f_X10_bestFrom
          rw [fe] at e1
          simp (maxSteps := 2000000) (disch := first | assumption | omega) only [jI0, iAdd_j, iSub_j, iMul_j, iNeg_j, Option.bind_some, jlt_t, jlt_f, jlt, jle_t, jle_f, jle, jeq_t, jeq_f, jeq, ↓reduceIte, o12, e1]
          refine loopQ (fun n (t : (Int × Int) × Int × (Nat → Int → Int)) => L_X10_bestFrom_12 N n 12 (jI b) (jI t.1.1) (jI t.1.2) (jI t.2.1) (hp q t.2.2)) (fun k t => t.1 = chB f k ∧ t.2.1 = ((k + 1 : Nat) : Int) ∧ WK G t.2.2) ((G 102 0).toNat - 1) (fun r => ∃ G1, WK G G1 ∧ r = some (jI (chB f ((G 102 0).toNat - 1)).1, hp q G1)) (by omega) (s := ((0, f 0), 1, G1)) ⟨rfl, rfl, hw1⟩ ?_ ?_
          · rintro n k ⟨p, i, G2⟩ hk ⟨rfl, rfl, hw⟩
            simp only at hw
            have e2 := hw.e
            have hB1 := hw.bb hB
            have e0 := hB1.2.1.1
            rw [e2] at e0
            obtain ⟨G3, hw3, e3⟩ := oAlike (q := q) hN hB1 hw.wv (b := b) (f := ((k + 1 : Nat) : Int)) (by rw [e2]; exact ⟨c.1, c1⟩) (by rw [e2]; omega)
            rw [e2, fe] at e3
            have f1 := F ((k + 1 : Nat) : Int)
            have f2 := F2 k
            refine ⟨(chB f (k + 1), ((k + 1 + 1 : Nat) : Int), G3), ⟨rfl, rfl, hw.trans hw3⟩, ?_⟩
            show L_X10_bestFrom_12 N (n + 1) 12 (jI b) (jI (chB f k).1) (jI (chB f k).2) (jI ((k + 1 : Nat) : Int)) (hp q G2) = L_X10_bestFrom_12 N n 12 (jI b) (jI (chB f (k + 1)).1) (jI (chB f (k + 1)).2) (jI ((k + 1 + 1 : Nat) : Int)) (hp q G3)
            rw [L_X10_bestFrom_12]
            simp only [chB]
            rw [Int.natCast_succ] at e3 f1
            by_cases d : f (k + 1) < (chB f k).2
            · rw [if_pos d]
              simp (maxSteps := 2000000) (disch := first | assumption | omega) only [jI0, iAdd_j, iSub_j, iMul_j, iNeg_j, Option.bind_some, jlt_t, jlt_f, jlt, jle_t, jle_f, jle, jeq_t, jeq_f, jeq, ↓reduceIte, o12, o2, e0, e3, Int.natCast_succ]
            · rw [if_neg d]
              simp (maxSteps := 2000000) (disch := first | assumption | omega) only [jI0, iAdd_j, iSub_j, iMul_j, iNeg_j, Option.bind_some, jlt_t, jlt_f, jlt, jle_t, jle_f, jle, jeq_t, jeq_f, jeq, ↓reduceIte, o12, o2, e0, e3, Int.natCast_succ]
          · rintro n ⟨p, i, G2⟩ ⟨rfl, rfl, hw⟩
            simp only at hw
            have e0 := (hw.bb hB).2.1.1
            rw [hw.e] at e0
            refine ⟨G2, hw, ?_⟩
            show L_X10_bestFrom_12 N (n + 1) 12 (jI b) (jI _) (jI _) (jI (((G 102 0).toNat - 1 + 1 : Nat) : Int)) (hp q G2) = _
            rw [L_X10_bestFrom_12]
            simp (maxSteps := 2000000) (disch := first | assumption | omega) only [jI0, iAdd_j, iSub_j, iMul_j, iNeg_j, Option.bind_some, jlt_t, jlt_f, jlt, jle_t, jle_f, jle, jeq_t, jeq_f, jeq, ↓reduceIte, o12, o2, e0]
        obtain ⟨G1, hw, e⟩ := L
        refine ⟨G1, hw.sc, ?_⟩
        unfold f_X11_turn
        simp (maxSteps := 2000000) (disch := first | assumption | omega) only [jI0, iAdd_j, iSub_j, iMul_j, iNeg_j, Option.bind_some, jlt_t, jlt_f, jlt, jle_t, jle_f, jle, jeq_t, jeq_f, jeq, ↓reduceIte, o0, o2, o12, hBand, hStake, hKind, hCross, hWeaver, oBand, oKindOf, oKind, oCr, oRing, oWv, oPer, oRows, oAhead, oWhen, oAll, oStep, oRods, oRodAt, oStakeAt, oOff, bI_t, bI_f, X11_refuse, e]
      · intro G1 s1 hM e
        refine ⟨G1, SC.refl, ?_⟩
        have hV1 := hM.1; have hT1 := hM.2; (try rw [← e] at dm); (try rw [← e] at dr); (try rw [← e] at de); (try rw [← e] at dl); (try rw [← e] at hb); (try rw [← e] at hj); (try rw [← e] at hr); (try rw [← e] at hs); (try rw [← e] at pl); (try rw [← e] at al); (try rw [← e] at g); (try rw [← e] at c); (try rw [← e] at c1); (try rw [← e] at c2); (try rw [← e] at c3); (try rw [← e] at c4); (try rw [← e] at c5); (try rw [← e] at c6); (try rw [← e] at wb); (try rw [← e] at pr); (try rw [← e] at kd); (try rw [← e] at cr); (try rw [← e] at fe); (try rw [← e] at ra); (try rw [← e] at f1); (try rw [← e] at f2); (try rw [← e] at f3); (try rw [← e] at f4); (try rw [← e])
        unfold f_X12_turn
        simp (maxSteps := 2000000) (disch := first | assumption | omega) only [jI0, iAdd_j, iSub_j, iMul_j, iNeg_j, Option.bind_some, jlt_t, jlt_f, jlt, jle_t, jle_f, jle, jeq_t, jeq_f, jeq, ↓reduceIte, o100, w100t, l102, mBand, mStake, mKind, mCross, mCr, mKindOf, mAhead, mWhen, mStep, mRods, mRodAt, mStakeAt, mIndex, mOver, mOverIn, jlL, X12_within, bI_t, bI_f, X12_no]
        refine (loopE (N := N) (fun n (t : (Int × Int) × Int × Int) => L_X12_turn_55 N n 100 (jI b) (jI (G1 102 (59 + (b + 1)))) (jI t.1.1) (jI t.1.2) (jI t.2.1) (hp q (up G1 102 (59 + (b + 1)) t.2.2))) (fun k => ((if k = 0 then (0, -1) else chB f (k - 1)), (k : Int), (if k = 0 then G1 102 (59 + (b + 1)) else (k : Int) - 1))) (G1 102 0).toNat (r := some (jI (chB f ((G1 102 0).toNat - 1)).1, hp q G1)) (by omega) ?_ ?_) |> Eq.trans ?_
        · show _ = L_X12_turn_55 N N 100 (jI b) (jI (G1 102 (59 + (b + 1)))) (jI 0) (jI (-1)) (jI 0) (hp q (up G1 102 (59 + (b + 1)) (G1 102 (59 + (b + 1)))))
          rw [up_self, show 59 + b + 1 = 59 + (b + 1) by omega]
        · intro n k hk
          show L_X12_turn_55 N (n + 1) 100 (jI b) (jI (G1 102 (59 + (b + 1)))) (jI (if k = 0 then ((0 : Int), (-1 : Int)) else chB f (k - 1)).1) (jI (if k = 0 then ((0 : Int), (-1 : Int)) else chB f (k - 1)).2) (jI (k : Int)) (hp q (up G1 102 (59 + (b + 1)) (if k = 0 then G1 102 (59 + (b + 1)) else (k : Int) - 1))) = L_X12_turn_55 N n 100 (jI b) (jI (G1 102 (59 + (b + 1)))) (jI (if k + 1 = 0 then ((0 : Int), (-1 : Int)) else chB f (k + 1 - 1)).1) (jI (if k + 1 = 0 then ((0 : Int), (-1 : Int)) else chB f (k + 1 - 1)).2) (jI ((k + 1 : Nat) : Int)) (hp q (up G1 102 (59 + (b + 1)) (if k + 1 = 0 then G1 102 (59 + (b + 1)) else ((k + 1 : Nat) : Int) - 1)))
          generalize hG : up G1 102 (59 + (b + 1)) (if k = 0 then G1 102 (59 + (b + 1)) else (k : Int) - 1) = G2
          have z0 : G2 102 0 = G1 102 0 := by rw [← hG, up_eq, u1_ne (by omega)]
          have st : up G2 102 (59 + (b + 1)) k = up G1 102 (59 + (b + 1)) k := by rw [← hG, up_up]
          have bv : BV (up G1 102 (59 + (b + 1)) k 102) := by rw [up_eq]; exact BV_from hV1 ⟨by omega, c1⟩ (by omega)
          have sq := mSeam (q := q) hN bv (b := b) (by rw [up_eq, u1_ne (by omega)]; exact ⟨c.1, c1⟩)
          rw [up_eq, u1_eq, u1_ne (show (0 : Int) ≠ 59 + (b + 1) by omega), sSm_u hV1 ⟨c.1, c1⟩, fe] at sq
          have f1 := F k
          rw [L_X12_turn_55]
          simp only [show ¬ k + 1 = 0 by omega, ↓reduceIte, Nat.add_sub_cancel, show ((k + 1 : Nat) : Int) - 1 = (k : Int) by omega]
          have a1 : 59 + b + 1 = 59 + (b + 1) := by omega
          match k, hk, f1, sq, st, bv with
          | 0, hk, f1, sq, st, bv =>
            rw [show ((0 : Nat) : Int) = 0 from rfl] at *
            simp (maxSteps := 2000000) (disch := first | assumption | omega) only [jI0, iAdd_j, iSub_j, iMul_j, iNeg_j, Option.bind_some, jlt_t, jlt_f, jlt, jle_t, jle_f, jle, jeq_t, jeq_f, jeq, ↓reduceIte, o100, l102, z0, a1, s102, st, sq, chB, Int.natCast_succ]
            rfl
          | k + 1, hk, f1, sq, st, bv =>
            have f2 := F2 k
            simp only [show ¬ k + 1 = 0 by omega, ↓reduceIte, Nat.add_sub_cancel, chB]
            rw [Int.natCast_succ] at *
            by_cases d : f (k + 1) < (chB f k).2
            · rw [if_pos d]
              simp (maxSteps := 2000000) (disch := first | assumption | omega) only [jI0, iAdd_j, iSub_j, iMul_j, iNeg_j, Option.bind_some, jlt_t, jlt_f, jlt, jle_t, jle_f, jle, jeq_t, jeq_f, jeq, ↓reduceIte, o100, l102, z0, a1, s102, st, sq, Int.natCast_succ]
            · rw [if_neg d]
              simp (maxSteps := 2000000) (disch := first | assumption | omega) only [jI0, iAdd_j, iSub_j, iMul_j, iNeg_j, Option.bind_some, jlt_t, jlt_f, jlt, jle_t, jle_f, jle, jeq_t, jeq_f, jeq, ↓reduceIte, o100, l102, z0, a1, s102, st, sq, Int.natCast_succ]
        · intro n
          show L_X12_turn_55 N (n + 1) 100 (jI b) (jI (G1 102 (59 + (b + 1)))) (jI (if (G1 102 0).toNat = 0 then ((0 : Int), (-1 : Int)) else chB f ((G1 102 0).toNat - 1)).1) (jI _) (jI ((G1 102 0).toNat : Int)) (hp q (up G1 102 (59 + (b + 1)) (if (G1 102 0).toNat = 0 then G1 102 (59 + (b + 1)) else ((G1 102 0).toNat : Int) - 1))) = _
          rw [if_neg (show ¬ (G1 102 0).toNat = 0 by omega), if_neg (show ¬ (G1 102 0).toNat = 0 by omega), L_X12_turn_55]
          have z0 : up G1 102 (59 + (b + 1)) (((G1 102 0).toNat : Int) - 1) 102 0 = G1 102 0 := by rw [up_eq, u1_ne (by omega)]
          have a1 : 59 + b + 1 = 59 + (b + 1) := by omega
          simp (maxSteps := 2000000) (disch := first | assumption | omega) only [jI0, iAdd_j, iSub_j, iMul_j, iNeg_j, Option.bind_some, jlt_t, jlt_f, jlt, jle_t, jle_f, jle, jeq_t, jeq_f, jeq, ↓reduceIte, o100, l102, z0, a1, s102, up_up, up_self]
    · refine OP.ans hI (jI (-1)) ?_ ?_
      · unfold f_X11_turn
        simp (maxSteps := 2000000) (disch := first | assumption | omega) only [jI0, iAdd_j, iSub_j, iMul_j, iNeg_j, Option.bind_some, jlt_t, jlt_f, jlt, jle_t, jle_f, jle, jeq_t, jeq_f, jeq, ↓reduceIte, o0, o2, o12, hBand, hStake, hKind, hCross, hWeaver, oBand, oKindOf, oKind, oCr, oRing, oWv, oPer, oRows, oAhead, oWhen, oAll, oStep, oRods, oRodAt, oStakeAt, oOff, bI_t, bI_f, X11_refuse]
      · unfold f_X12_turn
        simp (maxSteps := 2000000) (disch := first | assumption | omega) only [jI0, iAdd_j, iSub_j, iMul_j, iNeg_j, Option.bind_some, jlt_t, jlt_f, jlt, jle_t, jle_f, jle, jeq_t, jeq_f, jeq, ↓reduceIte, o100, w100t, l102, mBand, mStake, mKind, mCross, mCr, mKindOf, mAhead, mWhen, mStep, mRods, mRodAt, mStakeAt, mIndex, mOver, mOverIn, jlL, X12_within, bI_t, bI_f, X12_no]
  · refine OP.rf hI (-2) (jI (-2)) (by unfold f_X11_turn; simp (maxSteps := 2000000) (disch := first | assumption | omega) only [jI0, iAdd_j, iSub_j, iMul_j, iNeg_j, Option.bind_some, jlt_t, jlt_f, jlt, jle_t, jle_f, jle, jeq_t, jeq_f, jeq, ↓reduceIte, o0, o2, o12, hBand, hStake, hKind, hCross, hWeaver, oBand, oKindOf, oKind, oCr, oRing, oWv, oPer, oRows, oAhead, oWhen, oAll, oStep, oRods, oRodAt, oStakeAt, oOff, bI_t, bI_f, X11_refuse]) (by intro G1 hM e eo; have hV1 := hM.1; have hT1 := hM.2; (try rw [← e] at dm); (try rw [← e] at dr); (try rw [← e] at de); (try rw [← e] at dl); (try rw [← e] at hb); (try rw [← e] at hj); (try rw [← e] at hr); (try rw [← e] at hs); (try rw [← e] at pl); (try rw [← e] at al); (try rw [← e] at g); (try rw [← e] at c); (try rw [← e] at c1); (try rw [← e] at c2); (try rw [← e] at c3); (try rw [← e] at c4); (try rw [← e] at c5); (try rw [← e] at c6); (try rw [← e] at wb); (try rw [← e] at pr); (try rw [← e] at kd); (try rw [← e] at cr); (try rw [← e] at fe); (try rw [← e] at ra); (try rw [← e] at f1); (try rw [← e] at f2); (try rw [← e] at f3); (try rw [← e] at f4); (try rw [← e]); unfold f_X12_turn; simp (maxSteps := 2000000) (disch := first | assumption | omega) only [jI0, iAdd_j, iSub_j, iMul_j, iNeg_j, Option.bind_some, jlt_t, jlt_f, jlt, jle_t, jle_f, jle, jeq_t, jeq_f, jeq, ↓reduceIte, o100, w100t, l102, mBand, mStake, mKind, mCross, mCr, mKindOf, mAhead, mWhen, mStep, mRods, mRodAt, mStakeAt, mIndex, mOver, mOverIn, jlL, X12_within, bI_t, bI_f, X12_no])
/-- turned by d STAKES -/
def sTb (A : Int → Int) (b j r d : Int) : Prop := ∀ s, 0 ≤ s → s < A 0 → sOv A b j ((r + 1) * A 0 + sOf A b j s) = sOv A b j (r * A 0 + sOf A b j ((s - d) % A 0))
theorem op_spiral (hN : 10000 ≤ N) (hI : INV K1 K2 q G) {b j r : Int} (h1 : -2147483648 ≤ b) (h2 : b < 2147483648) (h3 : -2147483648 ≤ j) (h4 : j < 2147483648) (h5 : -2147483648 ≤ r) (h6 : r < 2147483648) : OP K1 K2 q G (f_X11_spiral N 0 (jI b) (jI j) (jI r)) (f_X12_spiral N 100 (jI b) (jI j) (jI r)) := by
  have hB := hI.1.1; have hV := hB.1; have hT := hI.1.2.1; have g := hV.1
  by_cases c : 0 ≤ b ∧ b < G 102 26
  · have wb := hV.2.2.1 b c.1 c.2
    by_cases c1 : 0 ≤ j ∧ j < G 102 (27 + b)
    · by_cases c2 : 0 ≤ r ∧ r ≤ G 102 (51 + b) - 2
      · have pl := rowPl hV c c1 (r := r) (by omega)
        have pr := Int.mul_le_mul_of_nonneg_left (show r + 2 ≤ G 102 (51 + b) by omega) (show 0 ≤ G 102 (27 + b) by omega)
        rw [Int.mul_add, Int.mul_comm _ r] at pr
        have dm1 : (r * G 102 (27 + b) + j) % G 102 (27 + b) = j := by rw [Int.add_comm, Int.add_mul_emod_self_right]; exact Int.emod_eq_of_lt c1.1 c1.2
        have dr1 : (r * G 102 (27 + b) + j) / G 102 (27 + b) = r := by rw [Int.add_comm, Int.add_mul_ediv_right _ _ (by omega), Int.ediv_eq_zero_of_lt c1.1 c1.2, Int.zero_add]
        have dm2 : (r * G 102 (27 + b) + j + G 102 (27 + b)) % G 102 (27 + b) = j := by rw [Int.add_emod_right]; exact dm1
        have dr2 : (r * G 102 (27 + b) + j + G 102 (27 + b)) / G 102 (27 + b) = r + 1 := by rw [Int.add_ediv_of_dvd_right (Int.dvd_refl _), Int.ediv_self (by omega), dr1]
        have L : ∀ x : Int, ((∃ d0 : Nat, (d0 : Int) < G 102 0 ∧ x = d0 ∧ sTb (G 102) b j r d0 ∧ ∀ d : Nat, d < d0 → ¬ sTb (G 102) b j r d) ∨ (x = -1 ∧ ∀ d : Nat, (d : Int) < G 102 0 → ¬ sTb (G 102) b j r d)) → ∃ G1, WK G G1 ∧ f_X10_turnBetween N 12 (jI b) (jI j) (jI r) (hp q G) = some (jI x, hp q G1) := by
          intro x hx
          obtain ⟨G1, y1, hw1, e1, b1⟩ := oBits (q := q) hN hB hI.wv (b := b) (row := r * G 102 (27 + b) + j) (f := G 102 (59 + b)) c (by omega) (by omega)
          have e2 := hw1.e
          have hB1 := hw1.bb hB
          have ew := oWv (q := q) (N := N) hB1 (b := b) c.1 (by rw [e2]; exact c.2)
          rw [e2] at ew
          obtain ⟨G2, y2, hw2, e3, b2⟩ := oBits (q := q) hN hB1 hw1.wv (b := b) (row := r * G 102 (27 + b) + j + G 102 (27 + b)) (f := G 102 (59 + b)) (by rw [e2]; exact c) (by rw [e2]; omega) (by rw [e2]; omega)
          have hw := hw1.trans hw2
          rw [e2] at b2
          rw [dm1, dr1] at b1
          rw [dm2, dr2] at b2
          have e0 := (hw.bb hB).2.1.1
          rw [hw.e] at e0
          refine ⟨G2, hw, ?_⟩
          unfold f_X10_turnBetween
          simp (maxSteps := 2000000) (disch := first | assumption | omega) only [jI0, iAdd_j, iSub_j, iMul_j, iNeg_j, Option.bind_some, jlt_t, jlt_f, jlt, jle_t, jle_f, jle, jeq_t, jeq_f, jeq, ↓reduceIte, o12, o2, oWv hB, oBand hB, e1, ew, e3]
          have T : ∀ d : Nat, (d : Int) < G 102 0 → ∃ y, f_X11_turned N y1 (jI d) (jI (G 102 0)) (hp q G2) = some (y, hp q G2) ∧ ((y = y2) ↔ sTb (G 102) b j r d) := by
            intro d hd
            obtain ⟨y, ey, by'⟩ := X11_turned (N := N) (h := hp q G2) (x := y1) (t := d) (n := G 102 0) (by omega) (by omega) (by omega) (by omega) (fun k hk => by rw [b1]; simp [show ¬ (k : Int) < G 102 0 by omega])
            refine ⟨y, ey, ?_⟩
            have Q : ∀ s : Nat, (s : Int) < G 102 0 → (ib y s = ib y2 s ↔ sOv (G 102) b j ((r + 1) * G 102 0 + sOf (G 102) b j s) = sOv (G 102) b j (r * G 102 0 + sOf (G 102) b j (((s : Int) - d) % G 102 0))) := by
              intro s hs
              have z0 := Int.emod_nonneg ((s : Int) - d) (show G 102 0 ≠ 0 by omega)
              have z1 := Int.emod_lt_of_pos ((s : Int) - d) (show 0 < G 102 0 by omega)
              rw [by', b1, b2, show (((((s : Int) - d) % G 102 0).toNat : Nat) : Int) = ((s : Int) - d) % G 102 0 by omega]
              simp only [hs, z1, decide_true, Bool.true_and]
              exact ⟨fun h => h.symm, fun h => h.symm⟩
            constructor
            · intro e s s0 s1
              have := (Q s.toNat (by omega)).mp (by rw [e])
              rw [show ((s.toNat : Nat) : Int) = s by omega] at this
              exact this
            · intro e
              apply ib_ext
              intro k hk
              by_cases kn : (k : Int) < G 102 0
              · exact (Q k kn).mpr (e k (by omega) kn)
              · rw [by', b2]
                simp [kn]
          rcases hx with ⟨d0, h0, rfl, h1, F⟩ | ⟨rfl, F⟩
          · refine loopE (fun n (t : Int) => L_X10_turnBetween_59 N n 12 y1 y2 (jI t) (hp q G2)) (fun k => (k : Int)) d0 (by omega) ?_ ?_
            · intro n k hk
              show L_X10_turnBetween_59 N (n + 1) 12 y1 y2 (jI (k : Int)) (hp q G2) = L_X10_turnBetween_59 N n 12 y1 y2 (jI ((k + 1 : Nat) : Int)) (hp q G2)
              obtain ⟨y, ey, iy⟩ := T k (by omega)
              have ny : ¬ y = y2 := fun h => F k hk (iy.mp h)
              rw [L_X10_turnBetween_59]
              simp (maxSteps := 2000000) (disch := first | assumption | omega) only [jI0, iAdd_j, iSub_j, iMul_j, iNeg_j, Option.bind_some, jlt_t, jlt_f, jlt, jle_t, jle_f, jle, jeq_t, jeq_f, jeq, ↓reduceIte, o12, o2, e0, ey, ny, Int.natCast_succ]
            · intro n
              show L_X10_turnBetween_59 N (n + 1) 12 y1 y2 (jI (d0 : Int)) (hp q G2) = _
              obtain ⟨y, ey, iy⟩ := T d0 h0
              have ny := iy.mpr h1
              rw [L_X10_turnBetween_59]
              simp (maxSteps := 2000000) (disch := first | assumption | omega) only [jI0, iAdd_j, iSub_j, iMul_j, iNeg_j, Option.bind_some, jlt_t, jlt_f, jlt, jle_t, jle_f, jle, jeq_t, jeq_f, jeq, ↓reduceIte, o12, o2, e0, ey, ny]
          · refine loopE (fun n (t : Int) => L_X10_turnBetween_59 N n 12 y1 y2 (jI t) (hp q G2)) (fun k => (k : Int)) (G 102 0).toNat (by omega) ?_ ?_
            · intro n k hk
              show L_X10_turnBetween_59 N (n + 1) 12 y1 y2 (jI (k : Int)) (hp q G2) = L_X10_turnBetween_59 N n 12 y1 y2 (jI ((k + 1 : Nat) : Int)) (hp q G2)
              obtain ⟨y, ey, iy⟩ := T k (by omega)
              have ny : ¬ y = y2 := fun h => F k (by omega) (iy.mp h)
              rw [L_X10_turnBetween_59]
              simp (maxSteps := 2000000) (disch := first | assumption | omega) only [jI0, iAdd_j, iSub_j, iMul_j, iNeg_j, Option.bind_some, jlt_t, jlt_f, jlt, jle_t, jle_f, jle, jeq_t, jeq_f, jeq, ↓reduceIte, o12, o2, e0, ey, ny, Int.natCast_succ]
            · intro n
              show L_X10_turnBetween_59 N (n + 1) 12 y1 y2 (jI ((G 102 0).toNat : Int)) (hp q G2) = _
              rw [L_X10_turnBetween_59]
              simp (maxSteps := 2000000) (disch := first | assumption | omega) only [jI0, iAdd_j, iSub_j, iMul_j, iNeg_j, Option.bind_some, jlt_t, jlt_f, jlt, jle_t, jle_f, jle, jeq_t, jeq_f, jeq, ↓reduceIte, o12, o2, e0]
        have M : ∀ (G1 : Nat → Int → Int), MV G1 → G1 102 = G 102 → ∀ x : Int, ((∃ d0 : Nat, (d0 : Int) < G 102 0 ∧ x = d0 ∧ sTb (G 102) b j r d0 ∧ ∀ d : Nat, d < d0 → ¬ sTb (G 102) b j r d) ∨ (x = -1 ∧ ∀ d : Nat, (d : Int) < G 102 0 → ¬ sTb (G 102) b j r d)) → f_X12_spiral N 100 (jI b) (jI j) (jI r) (hp q G1) = some (jI x, hp q G1) := by
          intro G1 hM e x hx
          have hV1 := hM.1; have hT1 := hM.2; (try rw [← e] at dm); (try rw [← e] at dr); (try rw [← e] at de); (try rw [← e] at dl); (try rw [← e] at hb); (try rw [← e] at hj); (try rw [← e] at hr); (try rw [← e] at hs); (try rw [← e] at pl); (try rw [← e] at al); (try rw [← e] at g); (try rw [← e] at c); (try rw [← e] at c1); (try rw [← e] at c2); (try rw [← e] at c3); (try rw [← e] at c4); (try rw [← e] at c5); (try rw [← e] at c6); (try rw [← e] at wb); (try rw [← e] at pr); (try rw [← e] at kd); (try rw [← e] at cr); (try rw [← e] at fe); (try rw [← e] at ra); (try rw [← e] at f1); (try rw [← e] at f2); (try rw [← e] at f3); (try rw [← e] at f4); (try rw [← e])
          have pm := Int.mul_le_mul_of_nonneg_right (show r + 1 ≤ 39 by omega) (show 0 ≤ G1 102 0 by omega)
          have pm0 := Int.mul_nonneg (show 0 ≤ r by omega) (show 0 ≤ G1 102 0 by omega)
          rw [← e] at hx
          rw [Int.add_mul, Int.one_mul] at pm
          have IN : ∀ (n : Nat) (d : Nat), (d : Int) < G1 102 0 → (sTb (G1 102) b j r d → L_X12_spiral_82 N (L_X12_spiral_65 N n) N 100 (jI b) (jI j) (jI r) (jI d) (jI 1) (jI 0) (hp q G1) = some (jI d, hp q G1)) ∧ (¬ sTb (G1 102) b j r d → L_X12_spiral_82 N (L_X12_spiral_65 N n) N 100 (jI b) (jI j) (jI r) (jI d) (jI 1) (jI 0) (hp q G1) = L_X12_spiral_65 N n 100 (jI b) (jI j) (jI r) (jI ((d + 1 : Nat) : Int)) (hp q G1)) := by
            intro n d hd
            have ST : ∀ (m s : Nat), (s : Int) < G1 102 0 → L_X12_spiral_82 N (L_X12_spiral_65 N n) (m + 1) 100 (jI b) (jI j) (jI r) (jI d) (jI 1) (jI s) (hp q G1) = L_X12_spiral_82 N (L_X12_spiral_65 N n) m 100 (jI b) (jI j) (jI r) (jI d) (jI (if sOv (G1 102) b j ((r + 1) * G1 102 0 + sOf (G1 102) b j s) = sOv (G1 102) b j (r * G1 102 0 + sOf (G1 102) b j (((s : Int) - d) % G1 102 0)) then 1 else 0)) (jI ((s + 1 : Nat) : Int)) (hp q G1) := by
              intro m s hs
              have z0 := Int.emod_nonneg ((s : Int) - d) (show G1 102 0 ≠ 0 by omega)
              have z1 := Int.emod_lt_of_pos ((s : Int) - d) (show 0 < G1 102 0 by omega)
              have o1 := ofF (A := G1 102) (by omega) (b := b) (j := j) (s := s)
              have o2' := ofF (A := G1 102) (by omega) (b := b) (j := j) (s := ((s : Int) - d) % G1 102 0)
              have pe : (r + 1) * G1 102 0 = r * G1 102 0 + G1 102 0 := by rw [Int.add_mul, Int.one_mul]
              rw [L_X12_spiral_82]
              by_cases y : sOv (G1 102) b j ((r + 1) * G1 102 0 + sOf (G1 102) b j s) = sOv (G1 102) b j (r * G1 102 0 + sOf (G1 102) b j (((s : Int) - d) % G1 102 0))
              · rw [if_pos y]
                simp (maxSteps := 2000000) (disch := first | assumption | omega) only [jI0, iAdd_j, iSub_j, iMul_j, iNeg_j, Option.bind_some, jlt_t, jlt_f, jlt, jle_t, jle_f, jle, jeq_t, jeq_f, jeq, ↓reduceIte, o100, w100t, l102, mBand, mStake, mKind, mCross, mCr, mKindOf, mAhead, mWhen, mStep, mRods, mRodAt, mStakeAt, mIndex, mOver, mOverIn, jlL, X12_within, bI_t, bI_f, X12_no, y, X12_round, Int.natCast_succ]
              · rw [if_neg y]
                have : ¬ ((sOv (G1 102) b j ((r + 1) * G1 102 0 + sOf (G1 102) b j s) = true) ↔ (sOv (G1 102) b j (r * G1 102 0 + sOf (G1 102) b j (((s : Int) - d) % G1 102 0)) = true)) := fun h => y (Bool.eq_iff_iff.mpr h)
                simp (maxSteps := 2000000) (disch := first | assumption | omega) only [jI0, iAdd_j, iSub_j, iMul_j, iNeg_j, Option.bind_some, jlt_t, jlt_f, jlt, jle_t, jle_f, jle, jeq_t, jeq_f, jeq, ↓reduceIte, o100, l102, mIndex, X12_round, mOver, bI_eq, this, Int.natCast_succ]
            constructor
            · intro y
              refine loopE (fun m (t : Int) => L_X12_spiral_82 N (L_X12_spiral_65 N n) m 100 (jI b) (jI j) (jI r) (jI d) (jI 1) (jI t) (hp q G1)) (fun k => (k : Int)) (G1 102 0).toNat (by omega) ?_ ?_
              · intro m k hk
                show L_X12_spiral_82 N (L_X12_spiral_65 N n) (m + 1) 100 (jI b) (jI j) (jI r) (jI d) (jI 1) (jI (k : Int)) (hp q G1) = _
                rw [ST m k (by omega), if_pos (y k (by omega) (by omega))]
              · intro m
                show L_X12_spiral_82 N (L_X12_spiral_65 N n) (m + 1) 100 (jI b) (jI j) (jI r) (jI d) (jI 1) (jI ((G1 102 0).toNat : Int)) (hp q G1) = _
                rw [L_X12_spiral_82]
                simp (maxSteps := 2000000) (disch := first | assumption | omega) only [jI0, iAdd_j, iSub_j, iMul_j, iNeg_j, Option.bind_some, jlt_t, jlt_f, jlt, jle_t, jle_f, jle, jeq_t, jeq_f, jeq, ↓reduceIte, o100, w100t, l102, mBand, mStake, mKind, mCross, mCr, mKindOf, mAhead, mWhen, mStep, mRods, mRodAt, mStakeAt, mIndex, mOver, mOverIn, jlL, X12_within, bI_t, bI_f, X12_no]
            · intro y
              rcases first_or (fun k => ¬ sOv (G1 102) b j ((r + 1) * G1 102 0 + sOf (G1 102) b j k) = sOv (G1 102) b j (r * G1 102 0 + sOf (G1 102) b j (((k : Int) - d) % G1 102 0))) (G1 102 0).toNat with F | ⟨k0, h0, h1, F⟩
              · refine absurd (fun s s0 s1 => ?_) y
                have := F s.toNat (by omega)
                rw [show ((s.toNat : Nat) : Int) = s by omega] at this
                exact Classical.byContradiction this
              · refine (loopE (N := N) (fun m (t : Int × Int) => L_X12_spiral_82 N (L_X12_spiral_65 N n) m 100 (jI b) (jI j) (jI r) (jI d) (jI t.1) (jI t.2) (hp q G1)) (fun k => ((if k ≤ k0 then 1 else 0), (k : Int))) (k0 + 1) (by omega) ?_ ?_) |> Eq.trans ?_
                · show _ = L_X12_spiral_82 N (L_X12_spiral_65 N n) N 100 (jI b) (jI j) (jI r) (jI d) (jI (if 0 ≤ k0 then 1 else 0)) (jI 0) (hp q G1)
                  rw [if_pos (by omega)]
                · intro m k hk
                  show L_X12_spiral_82 N (L_X12_spiral_65 N n) (m + 1) 100 (jI b) (jI j) (jI r) (jI d) (jI (if k ≤ k0 then 1 else 0)) (jI (k : Int)) (hp q G1) = L_X12_spiral_82 N (L_X12_spiral_65 N n) m 100 (jI b) (jI j) (jI r) (jI d) (jI (if k + 1 ≤ k0 then 1 else 0)) (jI ((k + 1 : Nat) : Int)) (hp q G1)
                  rw [if_pos (show k ≤ k0 by omega), ST m k (by omega)]
                  by_cases z : k = k0
                  · subst z
                    rw [if_neg h1, if_neg (show ¬ k + 1 ≤ k by omega)]
                  · rw [if_pos (Classical.byContradiction (F k (by omega))), if_pos (show k + 1 ≤ k0 by omega)]
                · intro m
                  show L_X12_spiral_82 N (L_X12_spiral_65 N n) (m + 1) 100 (jI b) (jI j) (jI r) (jI d) (jI (if k0 + 1 ≤ k0 then 1 else 0)) (jI ((k0 + 1 : Nat) : Int)) (hp q G1) = _
                  rw [if_neg (show ¬ k0 + 1 ≤ k0 by omega), L_X12_spiral_82]
                  by_cases z : ((k0 + 1 : Nat) : Int) < G1 102 0 <;> simp (maxSteps := 2000000) (disch := first | assumption | omega) only [jI0, iAdd_j, iSub_j, iMul_j, iNeg_j, Option.bind_some, jlt_t, jlt_f, jlt, jle_t, jle_f, jle, jeq_t, jeq_f, jeq, ↓reduceIte, o100, w100t, l102, mBand, mStake, mKind, mCross, mCr, mKindOf, mAhead, mWhen, mStep, mRods, mRodAt, mStakeAt, mIndex, mOver, mOverIn, jlL, X12_within, bI_t, bI_f, X12_no, Int.natCast_succ]
          unfold f_X12_spiral
          simp (maxSteps := 2000000) (disch := first | assumption | omega) only [jI0, iAdd_j, iSub_j, iMul_j, iNeg_j, Option.bind_some, jlt_t, jlt_f, jlt, jle_t, jle_f, jle, jeq_t, jeq_f, jeq, ↓reduceIte, o100, w100t, l102, mBand, mStake, mKind, mCross, mCr, mKindOf, mAhead, mWhen, mStep, mRods, mRodAt, mStakeAt, mIndex, mOver, mOverIn, jlL, X12_within, bI_t, bI_f, X12_no]
          rcases hx with ⟨d0, h0, rfl, h1, F⟩ | ⟨rfl, F⟩
          · refine loopE (fun n (t : Int) => L_X12_spiral_65 N n 100 (jI b) (jI j) (jI r) (jI t) (hp q G1)) (fun k => (k : Int)) d0 (by omega) ?_ ?_
            · intro n k hk
              show L_X12_spiral_65 N (n + 1) 100 (jI b) (jI j) (jI r) (jI (k : Int)) (hp q G1) = L_X12_spiral_65 N n 100 (jI b) (jI j) (jI r) (jI ((k + 1 : Nat) : Int)) (hp q G1)
              rw [L_X12_spiral_65]
              simp (maxSteps := 2000000) (disch := first | assumption | omega) only [jI0, iAdd_j, iSub_j, iMul_j, iNeg_j, Option.bind_some, jlt_t, jlt_f, jlt, jle_t, jle_f, jle, jeq_t, jeq_f, jeq, ↓reduceIte, o100, w100t, l102, mBand, mStake, mKind, mCross, mCr, mKindOf, mAhead, mWhen, mStep, mRods, mRodAt, mStakeAt, mIndex, mOver, mOverIn, jlL, X12_within, bI_t, bI_f, X12_no]
              exact (IN n k (by omega)).2 (F k hk)
            · intro n
              show L_X12_spiral_65 N (n + 1) 100 (jI b) (jI j) (jI r) (jI (d0 : Int)) (hp q G1) = _
              rw [L_X12_spiral_65]
              simp (maxSteps := 2000000) (disch := first | assumption | omega) only [jI0, iAdd_j, iSub_j, iMul_j, iNeg_j, Option.bind_some, jlt_t, jlt_f, jlt, jle_t, jle_f, jle, jeq_t, jeq_f, jeq, ↓reduceIte, o100, w100t, l102, mBand, mStake, mKind, mCross, mCr, mKindOf, mAhead, mWhen, mStep, mRods, mRodAt, mStakeAt, mIndex, mOver, mOverIn, jlL, X12_within, bI_t, bI_f, X12_no]
              exact (IN n d0 h0).1 h1
          · refine loopE (fun n (t : Int) => L_X12_spiral_65 N n 100 (jI b) (jI j) (jI r) (jI t) (hp q G1)) (fun k => (k : Int)) (G1 102 0).toNat (by omega) ?_ ?_
            · intro n k hk
              show L_X12_spiral_65 N (n + 1) 100 (jI b) (jI j) (jI r) (jI (k : Int)) (hp q G1) = L_X12_spiral_65 N n 100 (jI b) (jI j) (jI r) (jI ((k + 1 : Nat) : Int)) (hp q G1)
              rw [L_X12_spiral_65]
              simp (maxSteps := 2000000) (disch := first | assumption | omega) only [jI0, iAdd_j, iSub_j, iMul_j, iNeg_j, Option.bind_some, jlt_t, jlt_f, jlt, jle_t, jle_f, jle, jeq_t, jeq_f, jeq, ↓reduceIte, o100, w100t, l102, mBand, mStake, mKind, mCross, mCr, mKindOf, mAhead, mWhen, mStep, mRods, mRodAt, mStakeAt, mIndex, mOver, mOverIn, jlL, X12_within, bI_t, bI_f, X12_no]
              exact (IN n k (by omega)).2 (F k (by omega))
            · intro n
              show L_X12_spiral_65 N (n + 1) 100 (jI b) (jI j) (jI r) (jI ((G1 102 0).toNat : Int)) (hp q G1) = _
              rw [L_X12_spiral_65]
              simp (maxSteps := 2000000) (disch := first | assumption | omega) only [jI0, iAdd_j, iSub_j, iMul_j, iNeg_j, Option.bind_some, jlt_t, jlt_f, jlt, jle_t, jle_f, jle, jeq_t, jeq_f, jeq, ↓reduceIte, o100, w100t, l102, mBand, mStake, mKind, mCross, mCr, mKindOf, mAhead, mWhen, mStep, mRods, mRodAt, mStakeAt, mIndex, mOver, mOverIn, jlL, X12_within, bI_t, bI_f, X12_no]
        have key : ∃ x : Int, ((∃ d0 : Nat, (d0 : Int) < G 102 0 ∧ x = d0 ∧ sTb (G 102) b j r d0 ∧ ∀ d : Nat, d < d0 → ¬ sTb (G 102) b j r d) ∨ (x = -1 ∧ ∀ d : Nat, (d : Int) < G 102 0 → ¬ sTb (G 102) b j r d)) := by
          rcases first_or (fun d : Nat => sTb (G 102) b j r d) (G 102 0).toNat with F | ⟨k0, h0, h1, F⟩
          · exact ⟨-1, .inr ⟨rfl, fun d hd => F d (by omega)⟩⟩
          · exact ⟨k0, .inl ⟨k0, by omega, rfl, h1, F⟩⟩
        obtain ⟨x, hx⟩ := key
        refine OP.sc hI (jI x) ?_ ?_
        · obtain ⟨G1, hw, e⟩ := L x hx
          refine ⟨G1, hw.sc, ?_⟩
          unfold f_X11_spiral
          simp (maxSteps := 2000000) (disch := first | assumption | omega) only [jI0, iAdd_j, iSub_j, iMul_j, iNeg_j, Option.bind_some, jlt_t, jlt_f, jlt, jle_t, jle_f, jle, jeq_t, jeq_f, jeq, ↓reduceIte, o0, o2, o12, hBand, hStake, hKind, hCross, hWeaver, oBand, oKindOf, oKind, oCr, oRing, oWv, oPer, oRows, oAhead, oWhen, oAll, oStep, oRods, oRodAt, oStakeAt, oOff, bI_t, bI_f, X11_refuse, e]
        · intro G1 s1 hM e
          exact ⟨G1, SC.refl, M G1 hM e x hx⟩
      · refine OP.rf hI (-2) (jI (-2)) ?_ ?_
        · unfold f_X11_spiral
          by_cases d : r < 0 <;> simp (maxSteps := 2000000) (disch := first | assumption | omega) only [jI0, iAdd_j, iSub_j, iMul_j, iNeg_j, Option.bind_some, jlt_t, jlt_f, jlt, jle_t, jle_f, jle, jeq_t, jeq_f, jeq, ↓reduceIte, o0, o2, o12, hBand, hStake, hKind, hCross, hWeaver, oBand, oKindOf, oKind, oCr, oRing, oWv, oPer, oRows, oAhead, oWhen, oAll, oStep, oRods, oRodAt, oStakeAt, oOff, bI_t, bI_f, X11_refuse]
        · intro G1 hM e eo
          have hV1 := hM.1; have hT1 := hM.2; (try rw [← e] at dm); (try rw [← e] at dr); (try rw [← e] at de); (try rw [← e] at dl); (try rw [← e] at hb); (try rw [← e] at hj); (try rw [← e] at hr); (try rw [← e] at hs); (try rw [← e] at pl); (try rw [← e] at al); (try rw [← e] at g); (try rw [← e] at c); (try rw [← e] at c1); (try rw [← e] at c2); (try rw [← e] at c3); (try rw [← e] at c4); (try rw [← e] at c5); (try rw [← e] at c6); (try rw [← e] at wb); (try rw [← e] at pr); (try rw [← e] at kd); (try rw [← e] at cr); (try rw [← e] at fe); (try rw [← e] at ra); (try rw [← e] at f1); (try rw [← e] at f2); (try rw [← e] at f3); (try rw [← e] at f4); (try rw [← e])
          unfold f_X12_spiral
          simp (maxSteps := 2000000) (disch := first | assumption | omega) only [jI0, iAdd_j, iSub_j, iMul_j, iNeg_j, Option.bind_some, jlt_t, jlt_f, jlt, jle_t, jle_f, jle, jeq_t, jeq_f, jeq, ↓reduceIte, o100, w100t, l102, mBand, mStake, mKind, mCross, mCr, mKindOf, mAhead, mWhen, mStep, mRods, mRodAt, mStakeAt, mIndex, mOver, mOverIn, jlL, X12_within, bI_t, bI_f, X12_no]
    · refine OP.rf hI (-2) (jI (-2)) (by unfold f_X11_spiral; simp (maxSteps := 2000000) (disch := first | assumption | omega) only [jI0, iAdd_j, iSub_j, iMul_j, iNeg_j, Option.bind_some, jlt_t, jlt_f, jlt, jle_t, jle_f, jle, jeq_t, jeq_f, jeq, ↓reduceIte, o0, o2, o12, hBand, hStake, hKind, hCross, hWeaver, oBand, oKindOf, oKind, oCr, oRing, oWv, oPer, oRows, oAhead, oWhen, oAll, oStep, oRods, oRodAt, oStakeAt, oOff, bI_t, bI_f, X11_refuse]) (by intro G1 hM e eo; have hV1 := hM.1; have hT1 := hM.2; (try rw [← e] at dm); (try rw [← e] at dr); (try rw [← e] at de); (try rw [← e] at dl); (try rw [← e] at hb); (try rw [← e] at hj); (try rw [← e] at hr); (try rw [← e] at hs); (try rw [← e] at pl); (try rw [← e] at al); (try rw [← e] at g); (try rw [← e] at c); (try rw [← e] at c1); (try rw [← e] at c2); (try rw [← e] at c3); (try rw [← e] at c4); (try rw [← e] at c5); (try rw [← e] at c6); (try rw [← e] at wb); (try rw [← e] at pr); (try rw [← e] at kd); (try rw [← e] at cr); (try rw [← e] at fe); (try rw [← e] at ra); (try rw [← e] at f1); (try rw [← e] at f2); (try rw [← e] at f3); (try rw [← e] at f4); (try rw [← e]); unfold f_X12_spiral; simp (maxSteps := 2000000) (disch := first | assumption | omega) only [jI0, iAdd_j, iSub_j, iMul_j, iNeg_j, Option.bind_some, jlt_t, jlt_f, jlt, jle_t, jle_f, jle, jeq_t, jeq_f, jeq, ↓reduceIte, o100, w100t, l102, mBand, mStake, mKind, mCross, mCr, mKindOf, mAhead, mWhen, mStep, mRods, mRodAt, mStakeAt, mIndex, mOver, mOverIn, jlL, X12_within, bI_t, bI_f, X12_no])
  · refine OP.rf hI (-2) (jI (-2)) (by unfold f_X11_spiral; simp (maxSteps := 2000000) (disch := first | assumption | omega) only [jI0, iAdd_j, iSub_j, iMul_j, iNeg_j, Option.bind_some, jlt_t, jlt_f, jlt, jle_t, jle_f, jle, jeq_t, jeq_f, jeq, ↓reduceIte, o0, o2, o12, hBand, hStake, hKind, hCross, hWeaver, oBand, oKindOf, oKind, oCr, oRing, oWv, oPer, oRows, oAhead, oWhen, oAll, oStep, oRods, oRodAt, oStakeAt, oOff, bI_t, bI_f, X11_refuse]) (by intro G1 hM e eo; have hV1 := hM.1; have hT1 := hM.2; (try rw [← e] at dm); (try rw [← e] at dr); (try rw [← e] at de); (try rw [← e] at dl); (try rw [← e] at hb); (try rw [← e] at hj); (try rw [← e] at hr); (try rw [← e] at hs); (try rw [← e] at pl); (try rw [← e] at al); (try rw [← e] at g); (try rw [← e] at c); (try rw [← e] at c1); (try rw [← e] at c2); (try rw [← e] at c3); (try rw [← e] at c4); (try rw [← e] at c5); (try rw [← e] at c6); (try rw [← e] at wb); (try rw [← e] at pr); (try rw [← e] at kd); (try rw [← e] at cr); (try rw [← e] at fe); (try rw [← e] at ra); (try rw [← e] at f1); (try rw [← e] at f2); (try rw [← e] at f3); (try rw [← e] at f4); (try rw [← e]); unfold f_X12_spiral; simp (maxSteps := 2000000) (disch := first | assumption | omega) only [jI0, iAdd_j, iSub_j, iMul_j, iNeg_j, Option.bind_some, jlt_t, jlt_f, jlt, jle_t, jle_f, jle, jeq_t, jeq_f, jeq, ↓reduceIte, o100, w100t, l102, mBand, mStake, mKind, mCross, mCr, mKindOf, mAhead, mWhen, mStep, mRods, mRodAt, mStakeAt, mIndex, mOver, mOverIn, jlL, X12_within, bI_t, bI_f, X12_no])
end
