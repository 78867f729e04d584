/-! what the relation rests on; the calls ways, lid, feed -/
def SameA (lo hi : Int) (A A' : Int → Int) : Prop := ∀ i, lo ≤ i → i < hi → A' i = A i
theorem BV.congr {A A' : Int → Int} (h : SameA 0 143 A A') (b : BV A) : BV A' := by
  obtain ⟨g, h1, h2, h3, h4⟩ := b
  unfold SameA at h
  have c0 := h 0 (by omega) (by omega); have c1 := h 1 (by omega) (by omega); have c26 := h 26 (by omega) (by omega); have c115 := h 115 (by omega) (by omega); have c140 := h 140 (by omega) (by omega); have c141 := h 141 (by omega) (by omega); have c142 := h 142 (by omega) (by omega)
  refine ⟨?_, ?_, ?_, ?_, ?_⟩
  · rw [c0, c1, c26, c115, c140, c141, c142]
    exact g
  · intro k k0 k1
    rw [c1] at k1
    rw [h (2 + k) (by omega) (by omega), h (8 + k) (by omega) (by omega), h (14 + k) (by omega) (by omega), h (20 + k) (by omega) (by omega)]
    exact h1 k k0 k1
  · intro k k0 k1
    rw [c26] at k1
    rw [h (27 + k) (by omega) (by omega), h (35 + k) (by omega) (by omega), h (43 + k) (by omega) (by omega), h (51 + k) (by omega) (by omega), h (59 + k) (by omega) (by omega), h (67 + k) (by omega) (by omega), h (75 + k) (by omega) (by omega), c0]
    exact h2 k k0 k1
  · intro k j k0 k1 j0 j1
    rw [c26] at k1
    have w := h2 k k0 k1
    rw [h (27 + k) (by omega) (by omega)] at j1
    rw [h (83 + 4 * k + j) (by omega) (by omega), c1]
    exact h3 k j k0 k1 j0 j1
  · intro k k0 k1
    rw [c115] at k1
    rw [h (116 + k) (by omega) (by omega), h (124 + k) (by omega) (by omega), h (132 + k) (by omega) (by omega), c26]
    exact h4 k k0 k1
theorem BR.congr {g kt bt st A A' g' kt' bt' st' : Int → Int} (h : SameA 0 143 A A') (b : BV A) (r : BR g kt bt st A) (hg : ∀ i, 0 ≤ i → i < 7 → g' i = g i) (hk : ∀ i, 0 ≤ i → i < 24 → kt' i = kt i) (hb : ∀ i, 0 ≤ i → i < 88 → bt' i = bt i) (hs : ∀ i, 0 ≤ i → i < 24 → st' i = st i) : BR g' kt' bt' st' A' := by
  obtain ⟨b1, b2, b3, b4, b5⟩ := b
  obtain ⟨r1, r2, r3, r4, r5⟩ := r
  unfold SameA at h
  have c0 := h 0 (by omega) (by omega); have c1 := h 1 (by omega) (by omega); have c26 := h 26 (by omega) (by omega); have c115 := h 115 (by omega) (by omega); have c140 := h 140 (by omega) (by omega); have c141 := h 141 (by omega) (by omega); have c142 := h 142 (by omega) (by omega)
  refine ⟨?_, ?_, ?_, ?_, ?_⟩
  · rw [c0, c1, c26, c115, c140, c141, c142, hg 0 (by omega) (by omega), hg 1 (by omega) (by omega), hg 2 (by omega) (by omega), hg 3 (by omega) (by omega), hg 4 (by omega) (by omega), hg 5 (by omega) (by omega), hg 6 (by omega) (by omega)]
    exact r1
  · intro k w k0 k1 w0 w1
    rw [c1] at k1
    rw [hk _ (by omega) (by omega), h _ (by omega) (by omega)]
    exact r2 k w k0 k1 w0 w1
  · intro k w k0 k1 w0 w1
    rw [c26] at k1
    rw [hb _ (by omega) (by omega), h _ (by omega) (by omega)]
    exact r3 k w k0 k1 w0 w1
  · intro k j k0 k1 j0 j1
    rw [c26] at k1
    have w := b3 k k0 k1
    rw [h (27 + k) (by omega) (by omega)] at j1
    rw [hb _ (by omega) (by omega), h _ (by omega) (by omega)]
    exact r4 k j k0 k1 j0 j1
  · intro s s0 s1
    rw [c115] at s1
    rw [hs _ (by omega) (by omega), hs _ (by omega) (by omega), hs _ (by omega) (by omega), h _ (by omega) (by omega), h _ (by omega) (by omega), h _ (by omega) (by omega)]
    exact r5 s s0 s1
theorem WS.congr {g ov rk A A' g' ov' rk' : Int → Int} (h0 : A' 0 = A 0) (hn : A 0 ≤ 32) (h : SameA 143 400 A A') (r : WS g ov rk A) (hg : g' 0 = g 0) (ho : ∀ i, 0 ≤ i → i < 8 → ov' i = ov i) (hk : ∀ i, 0 ≤ i → i < 8 → rk' i = rk i) : WS g' ov' rk' A' := by
  unfold SameA at h
  have c143 := h 143 (by omega) (by omega)
  rcases r with ⟨a, b⟩ | ⟨a, b, c, d, e⟩
  · exact .inl ⟨by rw [hg]; exact a, by rw [c143]; exact b⟩
  · refine .inr ⟨by rw [hg]; exact a, by rw [hg]; exact b, by rw [hg, c143]; exact c, by rw [h0]; exact d, ?_⟩
    intro r r0 r1
    rw [hg] at r1
    obtain ⟨e1, e2, e3⟩ := e r r0 r1
    have cs : ∀ s, 0 ≤ s → s < A 0 → A' (144 + 32 * r + s) = A (144 + 32 * r + s) := fun s s0 s1 => h _ (by omega) (by omega)
    rw [h0, ho r r0 (by omega), hk r r0 (by omega)]
    refine ⟨fun s s0 s1 => by rw [cs s s0 s1]; exact e1 s s0 s1, ?_, ?_⟩
    · rw [e2]
      congr 1
      apply msk_congr
      intro k hk
      rw [cs k (by omega) (by omega)]
    · rcases e3 with ⟨x, y⟩ | ⟨x, y, ⟨s, z1, z2, z3⟩, w⟩ | ⟨x, s, t, y1, y2, y3, y4, y5, y6, y7⟩
      · exact .inl ⟨x, fun s s0 s1 => by rw [cs s s0 s1]; exact y s s0 s1⟩
      · exact .inr (.inl ⟨x, y, ⟨s, z1, z2, by rw [cs s z1 z2]; exact z3⟩, fun s s0 s1 => by rw [cs s s0 s1]; exact w s s0 s1⟩)
      · exact .inr (.inr ⟨x, s, t, y1, y2, y3, y4, by rw [cs s y1 y2]; exact y5, by rw [cs t y3 y4]; exact y6, by rw [cs s y1 y2, cs t y3 y4]; exact y7⟩)
theorem PS.congr {g ov un A A' g' ov' un' : Int → Int} (h0 : A' 0 = A 0) (hn : A 0 ≤ 32) (h : SameA 400 657 A A') (r : PS g ov un A) (hg : g' 0 = g 0) (ho : ∀ i, 0 ≤ i → i < 8 → ov' i = ov i) (hk : ∀ i, 0 ≤ i → i < 8 → un' i = un i) : PS g' ov' un' A' := by
  unfold SameA at h
  have c400 := h 400 (by omega) (by omega)
  rcases r with ⟨a, b⟩ | ⟨a, b, c, d, e⟩
  · exact .inl ⟨by rw [hg]; exact a, by rw [c400]; exact b⟩
  · refine .inr ⟨by rw [hg]; exact a, by rw [hg]; exact b, by rw [hg, c400]; exact c, by rw [h0]; exact d, ?_⟩
    intro r r0 r1
    rw [hg] at r1
    obtain ⟨e1, e2, e3⟩ := e r r0 r1
    have cs : ∀ s, 0 ≤ s → s < A 0 → A' (401 + 32 * r + s) = A (401 + 32 * r + s) := fun s s0 s1 => h _ (by omega) (by omega)
    rw [h0, ho r r0 (by omega), hk r r0 (by omega)]
    refine ⟨fun s s0 s1 => by rw [cs s s0 s1]; exact e1 s s0 s1, ?_, ?_⟩
    · rw [e2]
      congr 1
      apply msk_congr
      intro k hk
      rw [cs k (by omega) (by omega)]
    · rw [e3]
      congr 1
      apply msk_congr
      intro k hk
      rw [cs k (by omega) (by omega)]
theorem HS.congr {w A A' w' : Int → Int} (h : SameA 657 665 A A') (r : HS w A) (hw : ∀ i, 0 ≤ i → i < 8 → w' i = w i) : HS w' A' := by
  intro k k0 k1
  rw [hw k k0 k1, h _ (by omega) (by omega)]
  exact r k k0 k1
theorem sPl_congr {A A' : Int → Int} (h : SameA 0 143 A A') (b : BV A) {k j i : Int} : sPl A' k j i = sPl A k j i := by
  have g := b.1
  unfold SameA at h
  unfold sPl
  rw [h 115 (by omega) (by omega)]
  congr 1
  apply sm_congr
  intro s hs
  rw [h (116 + s) (by omega) (by omega), h (124 + s) (by omega) (by omega), h (132 + s) (by omega) (by omega)]
theorem WV.congr {w : Int} {rows A A' : Int → Int} (h : SameA 0 143 A A') (b : BV A) (r : WV w rows A) : WV w rows A' := by
  refine ⟨r.1, r.2.1, fun k k0 k1 t r' j r0 r1 j0 j1 => ?_⟩
  have g := b.1
  have s := @sPl_congr A A' h b
  unfold SameA at h
  have c0 := h 0 (by omega) (by omega)
  rw [h 26 (by omega) (by omega)] at k1
  have w := b.2.2.1 k k0 k1
  rw [h (51 + k) (by omega) (by omega)] at r1
  rw [h (27 + k) (by omega) (by omega)] at j1
  rw [h (27 + k) (by omega) (by omega), r.2.2 k k0 k1 t r' j r0 r1 j0 j1, c0]
  congr 1
  apply msk_congr
  intro i hi
  unfold sOv
  rw [s, h (35 + k) (by omega) (by omega), h (43 + k) (by omega) (by omega)]
theorem IM.congr {md im : Int} {b kt bt st wo wv wk po pv pu w A A' : Int → Int} (h : SameA 0 665 A A') (r : IM md im b kt bt st wo wv wk po pv pu w A) : IM md im b kt bt st wo wv wk po pv pu w A' := by
  refine ⟨r.1, r.2.1, r.2.2.1, fun e => ?_⟩
  obtain ⟨x1, x2, x3, x4, x5⟩ := r.2.2.2 e
  have g := x1.1
  have s : ∀ lo hi, 0 ≤ lo → hi ≤ 665 → SameA lo hi A A' := fun lo hi l1 l2 i i0 i1 => h i (by omega) (by omega)
  have c0 := h 0 (by omega) (by omega)
  exact ⟨x1.congr (s _ _ (by omega) (by omega)), x2.congr (s _ _ (by omega) (by omega)) x1 (fun _ _ _ => rfl) (fun _ _ _ => rfl) (fun _ _ _ => rfl) (fun _ _ _ => rfl), x3.congr c0 (by omega) (s _ _ (by omega) (by omega)) rfl (fun _ _ _ => rfl) (fun _ _ _ => rfl), x4.congr c0 (by omega) (s _ _ (by omega) (by omega)) rfl (fun _ _ _ => rfl) (fun _ _ _ => rfl), x5.congr (s _ _ (by omega) (by omega)) (fun _ _ _ => rfl)⟩
/-- what the kept answers may rest on -/
def KC1 (K1 : (Int → Int) → (Int → Int) → Prop) : Prop := ∀ A A' M, A' 0 = A 0 → SameA 143 400 A A' → K1 A M → K1 A' M
def KC2 (K2 : (Int → Int) → (Int → Int) → Prop) : Prop := ∀ A A' M, A' 0 = A 0 → SameA 400 657 A A' → K2 A M → K2 A' M
section
variable {K1 K2 : (Int → Int) → (Int → Int) → Prop} {q : Nat × Nat × (Nat → Nat)} {G : Nat → Int → Int} {N : Nat}
theorem op_ways (k1 : KC1 K1) (k2 : KC2 K2) (hI : INV K1 K2 q G) {k w : Int} (h1 : -2147483648 ≤ k) (h2 : k < 2147483648) (h3 : -2147483648 ≤ w) (h4 : w < 2147483648) : OP K1 K2 q G (f_X11_ways N 0 (jI k) (jI w)) (f_X12_ways N 100 (jI k) (jI w)) := by
  have hB := hI.1.1; have hV := hB.1; have hT := hI.1.2.1; have g := hV.1
  by_cases c : 0 ≤ k ∧ k < 8
  · by_cases c1 : -1 ≤ w ∧ w ≤ 255
    · have e := hI.1.2.2.2.2.1 k c.1 c.2
      refine ⟨jI (G 34 k), q, up G 34 k w, up (up G 34 k w) 102 (657 + k) w, ?_, ?_, ?_⟩
      · unfold f_X11_ways f_X3_tell f_X3_isHand
        simp (maxSteps := 2000000) (disch := first | assumption | omega) only [jI0, iAdd_j, iSub_j, iMul_j, iNeg_j, Option.bind_some, jlt_t, jlt_f, jlt, jle_t, jle_f, jle, jeq_t, jeq_f, jeq, ↓reduceIte, o0, o2, o12, hBand, hStake, hKind, hCross, hWeaver, oBand, oKindOf, oKind, oCr, oRing, oWv, oPer, oRows, oAhead, oWhen, oAll, oStep, oRods, oRodAt, oStakeAt, oOff, bI_t, bI_f, X11_refuse, o33, l34, s34]
      · unfold f_X12_ways
        have wt := w100t (q := q) (G := up G 34 k w) hT
        have z : up G 34 k w 102 = G 102 := rfl
        simp (maxSteps := 2000000) (disch := first | assumption | omega) only [jI0, iAdd_j, iSub_j, iMul_j, iNeg_j, Option.bind_some, jlt_t, jlt_f, jlt, jle_t, jle_f, jle, jeq_t, jeq_f, jeq, ↓reduceIte, wt, jlL, X12_within, bI_t, o100, l102, s102, z, e]
      · obtain ⟨⟨t1, t2, t3, t4, t5, t6, t7, t8, t9, t10, t11, t12, t13, t14⟩, i1⟩ := hI
        have S : ∀ lo hi, hi ≤ 657 → SameA lo hi (G 102) (u1 (G 102) (657 + k) w) := fun lo hi h i i0 i1 => u1_ne (by omega)
        have E : ∀ a, a ≠ 34 → a ≠ 102 → up (up G 34 k w) 102 (657 + k) w a = G a := fun a x y => by rw [up_ne y, up_ne x]
        have e34 : up (up G 34 k w) 102 (657 + k) w 34 = u1 (G 34) k w := by rw [up_ne (by decide), up_eq]
        have e102 : up (up G 34 k w) 102 (657 + k) w 102 = u1 (G 102) (657 + k) w := by rw [up_eq, up_ne (by decide)]
        have c0 : u1 (G 102) (657 + k) w 0 = G 102 0 := u1_ne (by omega)
        refine ⟨?_, i1⟩
        unfold INV0 BB BW at *
        rw [e34, e102]
        refine ⟨⟨t1.1.congr (S _ _ (by omega)), t1.2.congr (S _ _ (by omega)) t1.1 (fun _ _ _ => rfl) (fun _ _ _ => rfl) (fun _ _ _ => rfl) (fun _ _ _ => rfl)⟩, t2, t3.congr c0 (by omega) (S _ _ (by omega)) rfl (fun _ _ _ => rfl) (fun _ _ _ => rfl), t4.congr c0 (by omega) (S _ _ (by omega)) rfl (fun _ _ _ => rfl) (fun _ _ _ => rfl), ?_, ?_, ?_, t8, t9, t10, t11.congr (S _ _ (by omega)) t1.1, ⟨t12.1, fun x => k1 _ _ _ c0 (S _ _ (by omega)) (t12.2 x)⟩, ⟨t13.1, fun x => k2 _ _ _ c0 (S _ _ (by omega)) (t13.2 x)⟩, t14⟩
        · intro i i0 i1
          by_cases d : i = k
          · subst d
            rw [u1_eq, u1_eq]
            exact ⟨rfl, c1.1, c1.2⟩
          · rw [u1_ne d, u1_ne (by omega)]
            exact t5 i i0 i1
        · exact t6.congr (fun i i0 i1 => u1_ne (by omega))
        · exact t7.congr (fun i i0 i1 => u1_ne (by omega))
    · refine OP.rf hI (-3) (jI (-3)) ?_ ?_
      · unfold f_X11_ways f_X3_isHand
        by_cases d : w < -1 <;> simp (maxSteps := 2000000) (disch := first | assumption | omega) only [jI0, iAdd_j, iSub_j, iMul_j, iNeg_j, Option.bind_some, jlt_t, jlt_f, jlt, jle_t, jle_f, jle, jeq_t, jeq_f, jeq, ↓reduceIte, o0, o2, o12, hBand, hStake, hKind, hCross, hWeaver, oBand, oKindOf, oKind, oCr, oRing, oWv, oPer, oRows, oAhead, oWhen, oAll, oStep, oRods, oRodAt, oStakeAt, oOff, bI_t, bI_f, X11_refuse, o33]
      · intro G1 hM e eo
        have hV1 := hM.1; have hT1 := hM.2; (try rw [← e] at dm); (try rw [← e] at dr); (try rw [← e] at de); (try rw [← e] at dl); (try rw [← e] at hb); (try rw [← e] at hj); (try rw [← e] at hr); (try rw [← e] at hs); (try rw [← e] at pl); (try rw [← e] at al); (try rw [← e] at g); (try rw [← e] at c); (try rw [← e] at c1); (try rw [← e] at c2); (try rw [← e] at c3); (try rw [← e] at c4); (try rw [← e] at c5); (try rw [← e] at c6); (try rw [← e] at wb); (try rw [← e] at pr); (try rw [← e] at kd); (try rw [← e] at cr); (try rw [← e] at fe); (try rw [← e] at ra); (try rw [← e] at f1); (try rw [← e] at f2); (try rw [← e] at f3); (try rw [← e] at f4); (try rw [← e])
        unfold f_X12_ways
        simp (maxSteps := 2000000) (disch := first | assumption | omega) only [jI0, iAdd_j, iSub_j, iMul_j, iNeg_j, Option.bind_some, jlt_t, jlt_f, jlt, jle_t, jle_f, jle, jeq_t, jeq_f, jeq, ↓reduceIte, o100, w100t, l102, mBand, mStake, mKind, mCross, mCr, mKindOf, mAhead, mWhen, mStep, mRods, mRodAt, mStakeAt, mIndex, mOver, mOverIn, jlL, X12_within, bI_t, bI_f, X12_no]
  · refine OP.rf hI (-2) (jI (-2)) ?_ ?_
    · unfold f_X11_ways f_X3_isHand
      by_cases d : k < 0 <;> simp (maxSteps := 2000000) (disch := first | assumption | omega) only [jI0, iAdd_j, iSub_j, iMul_j, iNeg_j, Option.bind_some, jlt_t, jlt_f, jlt, jle_t, jle_f, jle, jeq_t, jeq_f, jeq, ↓reduceIte, o0, o2, o12, hBand, hStake, hKind, hCross, hWeaver, oBand, oKindOf, oKind, oCr, oRing, oWv, oPer, oRows, oAhead, oWhen, oAll, oStep, oRods, oRodAt, oStakeAt, oOff, bI_t, bI_f, X11_refuse, o33]
    · intro G1 hM e eo
      have hV1 := hM.1; have hT1 := hM.2; (try rw [← e] at dm); (try rw [← e] at dr); (try rw [← e] at de); (try rw [← e] at dl); (try rw [← e] at hb); (try rw [← e] at hj); (try rw [← e] at hr); (try rw [← e] at hs); (try rw [← e] at pl); (try rw [← e] at al); (try rw [← e] at g); (try rw [← e] at c); (try rw [← e] at c1); (try rw [← e] at c2); (try rw [← e] at c3); (try rw [← e] at c4); (try rw [← e] at c5); (try rw [← e] at c6); (try rw [← e] at wb); (try rw [← e] at pr); (try rw [← e] at kd); (try rw [← e] at cr); (try rw [← e] at fe); (try rw [← e] at ra); (try rw [← e] at f1); (try rw [← e] at f2); (try rw [← e] at f3); (try rw [← e] at f4); (try rw [← e])
      unfold f_X12_ways
      simp (maxSteps := 2000000) (disch := first | assumption | omega) only [jI0, iAdd_j, iSub_j, iMul_j, iNeg_j, Option.bind_some, jlt_t, jlt_f, jlt, jle_t, jle_f, jle, jeq_t, jeq_f, jeq, ↓reduceIte, o100, w100t, l102, mBand, mStake, mKind, mCross, mCr, mKindOf, mAhead, mWhen, mStep, mRods, mRodAt, mStakeAt, mIndex, mOver, mOverIn, jlL, X12_within, bI_t, bI_f, X12_no]
end
