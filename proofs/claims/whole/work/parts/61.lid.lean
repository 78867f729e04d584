/-! calls: lid, feed -/
/-- a step of a printed function, what follows unseen -/
theorem bs {α β : Type} {x : Option α} {v : α} {f : α → Option β} {r : Option β} (h : x = some v) (k : f v = r) : x.bind f = r := by subst h; exact k
theorem bs1 {α β : Type} {a : α} {p q : Option β} {r : Option β} (k : q = r) : (if ((jI 1, a) : Int32 × α).1 = 0 then p else q) = r := k
theorem bs0 {α β : Type} {a : α} {p q : Option β} {r : Option β} (k : p = r) : (if ((jI 0, a) : Int32 × α).1 = 0 then p else q) = r := k
section
variable {K1 K2 : (Int → Int) → (Int → Int) → Prop} {q : Nat × Nat × (Nat → Nat)} {G : Nat → Int → Int} {N : Nat}
theorem lidIff {s its play v : Int} (hs : 0 < s) : (its + 1 ≤ v * s / 100 ∧ v * s / 100 ≤ its + play) ↔ ((100 * (its + 1) + s - 1) / s ≤ v ∧ v ≤ (100 * (its + play + 1) - 1) / s) := by
  have a1 := Int.le_ediv_iff_mul_le (a := its + 1) (b := v * s) (show (0 : Int) < 100 by omega)
  have a2 := Int.ediv_lt_iff_lt_mul (a := v * s) (b := its + play + 1) (show (0 : Int) < 100 by omega)
  have a3 := Int.ediv_lt_iff_lt_mul (a := 100 * (its + 1) + s - 1) (b := v + 1) hs
  have a4 := Int.le_ediv_iff_mul_le (a := v) (b := 100 * (its + play + 1) - 1) hs
  rw [Int.add_mul v, Int.one_mul] at a3
  constructor
  · rintro ⟨h1, h2⟩
    have b1 := a1.mp h1
    have b2 := a2.mp (by omega)
    have b3 := a3.mpr (by omega)
    have b4 := a4.mpr (by omega)
    exact ⟨by omega, b4⟩
  · rintro ⟨h1, h2⟩
    have b3 := a3.mp (by omega)
    have b4 := a4.mp h2
    have b1 := a1.mpr (by omega)
    have b2 := a2.mpr (by omega)
    exact ⟨b1, by omega⟩
theorem op_lid (hN : 10000 ≤ N) (hI : INV K1 K2 q G) {k r w p v : Int} (h1 : -2147483648 ≤ k) (h2 : k < 2147483648) (h3 : -2147483648 ≤ r) (h4 : r < 2147483648) (h5 : -2147483648 ≤ w) (h6 : w < 2147483648) (h7 : -2147483648 ≤ p) (h8 : p < 2147483648) (h9 : -2147483648 ≤ v) (h10 : v < 2147483648) : OP K1 K2 q G (f_X11_lid N 0 (jI k) (jI r) (jI w) (jI p) (jI v)) (f_X12_lid N 100 (jI k) (jI r) (jI w) (jI p) (jI v)) := by
  have hB := hI.1.1; have hV := hB.1; have hT := hI.1.2.1; have g := hV.1
  by_cases c : 0 ≤ k ∧ k < G 102 1
  · by_cases c1 : 0 ≤ r ∧ r < G 102 1
    · by_cases c2 : 0 ≤ v ∧ v ≤ 2
      · by_cases c3 : (1 ≤ w ∧ w ≤ 1500) ∧ 1 ≤ p ∧ p ≤ 99
        · have fk := hV.2.1 k c.1 c.2
          have fr := hV.2.1 r c1.1 c1.2
          have m1 := mulB (a := w) (b := 100 - G 102 (14 + r)) (c := 1500) (d := 100) (by omega) (by omega) (by omega) (by omega)
          generalize hits : w * (100 - G 102 (14 + r)) / 100 = its
          have ir : 0 ≤ its ∧ its ≤ 1500 := by omega
          generalize hs : 100 - G 102 (14 + k) = s
          have sr : 50 ≤ s ∧ s ≤ 100 := by omega
          generalize hlo : (100 * (its + 1) + s - 1) / s = lo
          generalize hgr : (100 * (its + p + 1) - 1) / s = gr
          have lr : 1 ≤ lo ∧ lo ≤ 200000 := by
            have e1 := Int.ediv_le_self s (show 0 ≤ 100 * (its + 1) + s - 1 by omega)
            have a := Int.le_ediv_iff_mul_le (a := 1) (b := 100 * (its + 1) + s - 1) (show 0 < s by omega)
            have := a.mpr (by omega)
            omega
          have gr2 : 0 ≤ gr ∧ gr ≤ 200000 := by
            have e1 := Int.ediv_le_self s (show 0 ≤ 100 * (its + p + 1) - 1 by omega)
            have e2 := Int.ediv_nonneg (show 0 ≤ 100 * (its + p + 1) - 1 by omega) (show 0 ≤ s by omega)
            omega
          have IFF : ∀ x : Int, (1 ≤ x * s / 100 - its ∧ x * s / 100 - its ≤ p) ↔ (lo ≤ x ∧ x ≤ gr) := fun x => by
            have := lidIff (s := s) (its := its) (play := p) (v := x) (by omega)
            rw [hlo, hgr] at this
            constructor
            · intro h
              exact this.mp ⟨by omega, by omega⟩
            · intro h
              have := this.mpr h
              omega
          refine OP.ans hI (jI (if min 2000 gr < lo then (if v = 2 then 0 else -1) else if v = 0 then lo else if v = 1 then min 2000 gr else min 2000 gr - lo + 1)) ?_ ?_
          · have d1 := oDries (q := q) (N := N) hB (k := r) c1.1 c1.2
            have d2 := oDries (q := q) (N := N) hB (k := k) c.1 c.2
            rw [hs] at d2
            unfold f_X11_lid
            by_cases e : min 2000 gr < lo
            · rw [if_pos e]
              by_cases v2 : v = 2
              · rw [if_pos v2]
                simp (maxSteps := 2000000) (disch := first | assumption | omega) only [jI0, iAdd_j, iSub_j, iMul_j, iNeg_j, Option.bind_some, jlt_t, jlt_f, jlt, jle_t, jle_f, jle, jeq_t, jeq_f, jeq, ↓reduceIte, o0, o2, o12, hBand, hStake, hKind, hCross, hWeaver, oBand, oKindOf, oKind, oCr, oRing, oWv, oPer, oRows, oAhead, oWhen, oAll, oStep, oRods, oRodAt, oStakeAt, oOff, bI_t, bI_f, X11_refuse, d1, d2, iDiv_j, hits, hlo, hgr, iMin_j]
              · rw [if_neg v2]
                simp (maxSteps := 2000000) (disch := first | assumption | omega) only [jI0, iAdd_j, iSub_j, iMul_j, iNeg_j, Option.bind_some, jlt_t, jlt_f, jlt, jle_t, jle_f, jle, jeq_t, jeq_f, jeq, ↓reduceIte, o0, o2, o12, hBand, hStake, hKind, hCross, hWeaver, oBand, oKindOf, oKind, oCr, oRing, oWv, oPer, oRows, oAhead, oWhen, oAll, oStep, oRods, oRodAt, oStakeAt, oOff, bI_t, bI_f, X11_refuse, d1, d2, iDiv_j, hits, hlo, hgr, iMin_j]
            · rw [if_neg e]
              by_cases v0 : v = 0
              · rw [if_pos v0]
                simp (maxSteps := 2000000) (disch := first | assumption | omega) only [jI0, iAdd_j, iSub_j, iMul_j, iNeg_j, Option.bind_some, jlt_t, jlt_f, jlt, jle_t, jle_f, jle, jeq_t, jeq_f, jeq, ↓reduceIte, o0, o2, o12, hBand, hStake, hKind, hCross, hWeaver, oBand, oKindOf, oKind, oCr, oRing, oWv, oPer, oRows, oAhead, oWhen, oAll, oStep, oRods, oRodAt, oStakeAt, oOff, bI_t, bI_f, X11_refuse, d1, d2, iDiv_j, hits, hlo, hgr, iMin_j]
              · by_cases v1 : v = 1
                · rw [if_neg v0, if_pos v1]
                  simp (maxSteps := 2000000) (disch := first | assumption | omega) only [jI0, iAdd_j, iSub_j, iMul_j, iNeg_j, Option.bind_some, jlt_t, jlt_f, jlt, jle_t, jle_f, jle, jeq_t, jeq_f, jeq, ↓reduceIte, o0, o2, o12, hBand, hStake, hKind, hCross, hWeaver, oBand, oKindOf, oKind, oCr, oRing, oWv, oPer, oRows, oAhead, oWhen, oAll, oStep, oRods, oRodAt, oStakeAt, oOff, bI_t, bI_f, X11_refuse, d1, d2, iDiv_j, hits, hlo, hgr, iMin_j]
                · rw [if_neg v0, if_neg v1]
                  simp (maxSteps := 2000000) (disch := first | assumption | omega) only [jI0, iAdd_j, iSub_j, iMul_j, iNeg_j, Option.bind_some, jlt_t, jlt_f, jlt, jle_t, jle_f, jle, jeq_t, jeq_f, jeq, ↓reduceIte, o0, o2, o12, hBand, hStake, hKind, hCross, hWeaver, oBand, oKindOf, oKind, oCr, oRing, oWv, oPer, oRows, oAhead, oWhen, oAll, oStep, oRods, oRodAt, oStakeAt, oOff, bI_t, bI_f, X11_refuse, d1, d2, iDiv_j, hits, hlo, hgr, iMin_j]
          · have D : ∀ x : Int, 0 ≤ x → x ≤ 2000 → f_X12_dried N 100 (jI k) (jI x) (hp q G) = some (jI (x * s / 100), hp q G) := by
              intro x x0 x1
              have m2 := mulB (a := x) (b := s) (c := 2000) (d := 100) (by omega) (by omega) (by omega) (by omega)
              unfold f_X12_dried
              simp (maxSteps := 2000000) (disch := first | assumption | omega) only [jI0, iAdd_j, iSub_j, iMul_j, iNeg_j, Option.bind_some, jlt_t, jlt_f, jlt, jle_t, jle_f, jle, jeq_t, jeq_f, jeq, ↓reduceIte, o100, w100t, l102, mBand, mStake, mKind, mCross, mCr, mKindOf, mAhead, mWhen, mStep, mRods, mRodAt, mStakeAt, mIndex, mOver, mOverIn, jlL, X12_within, bI_t, bI_f, X12_no, hs, iDiv_j]
            have D2 : f_X12_dried N 100 (jI r) (jI w) (hp q G) = some (jI its, hp q G) := by
              unfold f_X12_dried
              simp (maxSteps := 2000000) (disch := first | assumption | omega) only [jI0, iAdd_j, iSub_j, iMul_j, iNeg_j, Option.bind_some, jlt_t, jlt_f, jlt, jle_t, jle_f, jle, jeq_t, jeq_f, jeq, ↓reduceIte, o100, w100t, l102, mBand, mStake, mKind, mCross, mCr, mKindOf, mAhead, mWhen, mStep, mRods, mRodAt, mStakeAt, mIndex, mOver, mOverIn, jlL, X12_within, bI_t, bI_f, X12_no, iDiv_j, hits]
            have L : L_X12_lid_93 N N 100 (jI k) (jI p) (jI v) (jI its) (jI (-1)) (jI (-1)) (jI 0) (jI 1) (hp q G) = some (jI (if min 2000 gr < lo then (if v = 2 then 0 else -1) else if v = 0 then lo else if v = 1 then min 2000 gr else min 2000 gr - lo + 1), hp q G) := by
              refine loopQ (N := N) (fun n (t : (Int × Int × Int) × Int) => L_X12_lid_93 N n 100 (jI k) (jI p) (jI v) (jI its) (jI t.1.1) (jI t.1.2.1) (jI t.1.2.2) (jI t.2) (hp q G)) (fun i t => t.2 = ((i + 1 : Nat) : Int) ∧ ((min (i : Int) gr < lo ∧ t.1 = (-1, -1, 0)) ∨ (lo ≤ min (i : Int) gr ∧ t.1 = (lo, min (i : Int) gr, min (i : Int) gr - lo + 1)))) 2000 (fun x => x = some (jI (if min 2000 gr < lo then (if v = 2 then 0 else -1) else if v = 0 then lo else if v = 1 then min 2000 gr else min 2000 gr - lo + 1), hp q G)) (by omega) (s := ((-1, -1, 0), 1)) ⟨rfl, .inl ⟨by omega, rfl⟩⟩ ?_ ?_
              · rintro n i ⟨⟨x7, x8, x9⟩, x10⟩ hi ⟨hx, hc⟩
                simp only at hx hc
                subst hx
                have iff := IFF ((i + 1 : Nat) : Int)
                have m2 := mulB (a := ((i + 1 : Nat) : Int)) (b := s) (c := 2000) (d := 100) (by omega) (by omega) (by omega) (by omega)
                have dd := D ((i + 1 : Nat) : Int) (by omega) (by omega)
                generalize hz : ((i + 1 : Nat) : Int) * s / 100 = z at iff dd
                have zr : 0 ≤ z ∧ z ≤ 2000 := by omega
                by_cases y : lo ≤ ((i + 1 : Nat) : Int) ∧ ((i + 1 : Nat) : Int) ≤ gr
                · have y2 := iff.mpr y
                  refine ⟨((lo, min ((i + 1 : Nat) : Int) gr, min ((i + 1 : Nat) : Int) gr - lo + 1), ((i + 1 + 1 : Nat) : Int)), ⟨rfl, .inr ⟨by omega, rfl⟩⟩, ?_⟩
                  show L_X12_lid_93 N (n + 1) 100 (jI k) (jI p) (jI v) (jI its) (jI x7) (jI x8) (jI x9) (jI ((i + 1 : Nat) : Int)) (hp q G) = L_X12_lid_93 N n 100 (jI k) (jI p) (jI v) (jI its) (jI lo) (jI (min ((i + 1 : Nat) : Int) gr)) (jI (min ((i + 1 : Nat) : Int) gr - lo + 1)) (jI ((i + 1 + 1 : Nat) : Int)) (hp q G)
                  rw [L_X12_lid_93]
                  rcases hc with ⟨q1, q2⟩ | ⟨q1, q2⟩
                  · obtain ⟨rfl, rfl, rfl⟩ : x7 = -1 ∧ x8 = -1 ∧ x9 = 0 := by injection q2 with a b; injection b with b c; exact ⟨a, b, c⟩
                    have e1 : lo = ((i + 1 : Nat) : Int) := by omega
                    have e2 : min ((i + 1 : Nat) : Int) gr = ((i + 1 : Nat) : Int) := by omega
                    rw [e2, ← e1]
                    rw [← e1] at dd
                    simp (maxSteps := 2000000) (disch := first | assumption | omega) only [jI0, iAdd_j, iSub_j, iMul_j, iNeg_j, Option.bind_some, jlt_t, jlt_f, jlt, jle_t, jle_f, jle, jeq_t, jeq_f, jeq, ↓reduceIte, o100, w100t, l102, mBand, mStake, mKind, mCross, mCr, mKindOf, mAhead, mWhen, mStep, mRods, mRodAt, mStakeAt, mIndex, mOver, mOverIn, jlL, X12_within, bI_t, bI_f, X12_no, dd]
                    congr 2
                    all_goals omega
                  · obtain ⟨rfl, rfl, rfl⟩ : x7 = lo ∧ x8 = min (i : Int) gr ∧ x9 = min (i : Int) gr - lo + 1 := by injection q2 with a b; injection b with b c; exact ⟨a, b, c⟩
                    have e2 : min ((i + 1 : Nat) : Int) gr = ((i + 1 : Nat) : Int) := by omega
                    rw [e2]
                    simp (maxSteps := 2000000) (disch := first | assumption | omega) only [jI0, iAdd_j, iSub_j, iMul_j, iNeg_j, Option.bind_some, jlt_t, jlt_f, jlt, jle_t, jle_f, jle, jeq_t, jeq_f, jeq, ↓reduceIte, o100, w100t, l102, mBand, mStake, mKind, mCross, mCr, mKindOf, mAhead, mWhen, mStep, mRods, mRodAt, mStakeAt, mIndex, mOver, mOverIn, jlL, X12_within, bI_t, bI_f, X12_no, dd]
                    congr 2
                    all_goals omega
                · have y2 : ¬ (1 ≤ z - its ∧ z - its ≤ p) := fun h => y (iff.mp h)
                  refine ⟨((x7, x8, x9), ((i + 1 + 1 : Nat) : Int)), ⟨rfl, ?_⟩, ?_⟩
                  · rcases hc with ⟨q1, q2⟩ | ⟨q1, q2⟩
                    · exact .inl ⟨by omega, q2⟩
                    · have e2 : min ((i + 1 : Nat) : Int) gr = min (i : Int) gr := by omega
                      rw [e2]
                      exact .inr ⟨q1, q2⟩
                  · show L_X12_lid_93 N (n + 1) 100 (jI k) (jI p) (jI v) (jI its) (jI x7) (jI x8) (jI x9) (jI ((i + 1 : Nat) : Int)) (hp q G) = L_X12_lid_93 N n 100 (jI k) (jI p) (jI v) (jI its) (jI x7) (jI x8) (jI x9) (jI ((i + 1 + 1 : Nat) : Int)) (hp q G)
                    rw [L_X12_lid_93]
                    simp (maxSteps := 2000000) (disch := first | assumption | omega) only [jI0, iAdd_j, iSub_j, iMul_j, iNeg_j, Option.bind_some, jlt_t, jlt_f, jlt, jle_t, jle_f, jle, jeq_t, jeq_f, jeq, ↓reduceIte, o100, w100t, l102, mBand, mStake, mKind, mCross, mCr, mKindOf, mAhead, mWhen, mStep, mRods, mRodAt, mStakeAt, mIndex, mOver, mOverIn, jlL, X12_within, bI_t, bI_f, X12_no, dd]
                    rw [Int.natCast_succ (i + 1)]
              · rintro n ⟨⟨x7, x8, x9⟩, x10⟩ ⟨hx, hc⟩
                simp only at hx hc
                subst hx
                show L_X12_lid_93 N (n + 1) 100 (jI k) (jI p) (jI v) (jI its) (jI x7) (jI x8) (jI x9) (jI ((2000 + 1 : Nat) : Int)) (hp q G) = _
                rw [show ((2000 : Nat) : Int) = 2000 from rfl] at hc
                rw [show ((2000 + 1 : Nat) : Int) = 2001 from rfl]
                rcases hc with ⟨q1, q2⟩ | ⟨q1, q2⟩
                · obtain ⟨rfl, rfl, rfl⟩ : x7 = -1 ∧ x8 = -1 ∧ x9 = 0 := by injection q2 with a b; injection b with b c; exact ⟨a, b, c⟩
                  rw [if_pos q1]
                  by_cases v2 : v = 2
                  · rw [if_pos v2, L_X12_lid_93]; simp (maxSteps := 2000000) (disch := first | assumption | omega) only [jI0, iAdd_j, iSub_j, iMul_j, iNeg_j, Option.bind_some, jlt_t, jlt_f, jlt, jle_t, jle_f, jle, jeq_t, jeq_f, jeq, ↓reduceIte]
                  · rw [if_neg v2, L_X12_lid_93]
                    by_cases v0 : v = 0 <;> simp (maxSteps := 2000000) (disch := first | assumption | omega) only [jI0, iAdd_j, iSub_j, iMul_j, iNeg_j, Option.bind_some, jlt_t, jlt_f, jlt, jle_t, jle_f, jle, jeq_t, jeq_f, jeq, ↓reduceIte]
                · have q3 : ¬ min 2000 gr < lo := by omega
                  rw [if_neg q3]
                  obtain ⟨rfl, rfl, rfl⟩ : x7 = lo ∧ x8 = min 2000 gr ∧ x9 = min 2000 gr - lo + 1 := by injection q2 with a b; injection b with b c; exact ⟨a, b, c⟩
                  by_cases v0 : v = 0
                  · rw [if_pos v0, L_X12_lid_93]; simp (maxSteps := 2000000) (disch := first | assumption | omega) only [jI0, iAdd_j, iSub_j, iMul_j, iNeg_j, Option.bind_some, jlt_t, jlt_f, jlt, jle_t, jle_f, jle, jeq_t, jeq_f, jeq, ↓reduceIte]
                  · by_cases v1 : v = 1
                    · rw [if_neg v0, if_pos v1, L_X12_lid_93]; simp (maxSteps := 2000000) (disch := first | assumption | omega) only [jI0, iAdd_j, iSub_j, iMul_j, iNeg_j, Option.bind_some, jlt_t, jlt_f, jlt, jle_t, jle_f, jle, jeq_t, jeq_f, jeq, ↓reduceIte]
                    · rw [if_neg v0, if_neg v1, L_X12_lid_93]; simp (maxSteps := 2000000) (disch := first | assumption | omega) only [jI0, iAdd_j, iSub_j, iMul_j, iNeg_j, Option.bind_some, jlt_t, jlt_f, jlt, jle_t, jle_f, jle, jeq_t, jeq_f, jeq, ↓reduceIte]
            unfold f_X12_lid
            simp (maxSteps := 2000000) (disch := first | assumption | omega) only [jI0, iAdd_j, iSub_j, iMul_j, iNeg_j, Option.bind_some, jlt_t, jlt_f, jlt, jle_t, jle_f, jle, jeq_t, jeq_f, jeq, ↓reduceIte, o100, w100t, l102, mBand, mStake, mKind, mCross, mCr, mKindOf, mAhead, mWhen, mStep, mRods, mRodAt, mStakeAt, mIndex, mOver, mOverIn, jlL, X12_within, bI_t, bI_f, X12_no, D2, L]
        · refine OP.rf hI (-3) (jI (-3)) ?_ ?_
          · unfold f_X11_lid
            by_cases d1 : w < 1
            · simp (maxSteps := 2000000) (disch := first | assumption | omega) only [jI0, iAdd_j, iSub_j, iMul_j, iNeg_j, Option.bind_some, jlt_t, jlt_f, jlt, jle_t, jle_f, jle, jeq_t, jeq_f, jeq, ↓reduceIte, o0, o2, o12, hBand, hStake, hKind, hCross, hWeaver, oBand, oKindOf, oKind, oCr, oRing, oWv, oPer, oRows, oAhead, oWhen, oAll, oStep, oRods, oRodAt, oStakeAt, oOff, bI_t, bI_f, X11_refuse]
            · by_cases d2 : 1500 < w
              · simp (maxSteps := 2000000) (disch := first | assumption | omega) only [jI0, iAdd_j, iSub_j, iMul_j, iNeg_j, Option.bind_some, jlt_t, jlt_f, jlt, jle_t, jle_f, jle, jeq_t, jeq_f, jeq, ↓reduceIte, o0, o2, o12, hBand, hStake, hKind, hCross, hWeaver, oBand, oKindOf, oKind, oCr, oRing, oWv, oPer, oRows, oAhead, oWhen, oAll, oStep, oRods, oRodAt, oStakeAt, oOff, bI_t, bI_f, X11_refuse]
              · by_cases d3 : p < 1 <;> simp (maxSteps := 2000000) (disch := first | assumption | omega) only [jI0, iAdd_j, iSub_j, iMul_j, iNeg_j, Option.bind_some, jlt_t, jlt_f, jlt, jle_t, jle_f, jle, jeq_t, jeq_f, jeq, ↓reduceIte, o0, o2, o12, hBand, hStake, hKind, hCross, hWeaver, oBand, oKindOf, oKind, oCr, oRing, oWv, oPer, oRows, oAhead, oWhen, oAll, oStep, oRods, oRodAt, oStakeAt, oOff, bI_t, bI_f, X11_refuse]
          · intro G1 hM e eo
            have hV1 := hM.1; have hT1 := hM.2; (try rw [← e] at dm); (try rw [← e] at dr); (try rw [← e] at de); (try rw [← e] at dl); (try rw [← e] at hb); (try rw [← e] at hj); (try rw [← e] at hr); (try rw [← e] at hs); (try rw [← e] at pl); (try rw [← e] at al); (try rw [← e] at g); (try rw [← e] at c); (try rw [← e] at c1); (try rw [← e] at c2); (try rw [← e] at c3); (try rw [← e] at c4); (try rw [← e] at c5); (try rw [← e] at c6); (try rw [← e] at wb); (try rw [← e] at pr); (try rw [← e] at kd); (try rw [← e] at cr); (try rw [← e] at fe); (try rw [← e] at ra); (try rw [← e] at f1); (try rw [← e] at f2); (try rw [← e] at f3); (try rw [← e] at f4); (try rw [← e])
            unfold f_X12_lid
            by_cases d1 : 1 ≤ w ∧ w ≤ 1500 <;> simp (maxSteps := 2000000) (disch := first | assumption | omega) only [jI0, iAdd_j, iSub_j, iMul_j, iNeg_j, Option.bind_some, jlt_t, jlt_f, jlt, jle_t, jle_f, jle, jeq_t, jeq_f, jeq, ↓reduceIte, o100, w100t, l102, mBand, mStake, mKind, mCross, mCr, mKindOf, mAhead, mWhen, mStep, mRods, mRodAt, mStakeAt, mIndex, mOver, mOverIn, jlL, X12_within, bI_t, bI_f, X12_no]
      · refine OP.rf hI (-2) (jI (-2)) ?_ ?_
        · unfold f_X11_lid
          by_cases d : v < 0 <;> simp (maxSteps := 2000000) (disch := first | assumption | omega) only [jI0, iAdd_j, iSub_j, iMul_j, iNeg_j, Option.bind_some, jlt_t, jlt_f, jlt, jle_t, jle_f, jle, jeq_t, jeq_f, jeq, ↓reduceIte, o0, o2, o12, hBand, hStake, hKind, hCross, hWeaver, oBand, oKindOf, oKind, oCr, oRing, oWv, oPer, oRows, oAhead, oWhen, oAll, oStep, oRods, oRodAt, oStakeAt, oOff, bI_t, bI_f, X11_refuse]
        · intro G1 hM e eo
          have hV1 := hM.1; have hT1 := hM.2; (try rw [← e] at dm); (try rw [← e] at dr); (try rw [← e] at de); (try rw [← e] at dl); (try rw [← e] at hb); (try rw [← e] at hj); (try rw [← e] at hr); (try rw [← e] at hs); (try rw [← e] at pl); (try rw [← e] at al); (try rw [← e] at g); (try rw [← e] at c); (try rw [← e] at c1); (try rw [← e] at c2); (try rw [← e] at c3); (try rw [← e] at c4); (try rw [← e] at c5); (try rw [← e] at c6); (try rw [← e] at wb); (try rw [← e] at pr); (try rw [← e] at kd); (try rw [← e] at cr); (try rw [← e] at fe); (try rw [← e] at ra); (try rw [← e] at f1); (try rw [← e] at f2); (try rw [← e] at f3); (try rw [← e] at f4); (try rw [← e])
          unfold f_X12_lid
          simp (maxSteps := 2000000) (disch := first | assumption | omega) only [jI0, iAdd_j, iSub_j, iMul_j, iNeg_j, Option.bind_some, jlt_t, jlt_f, jlt, jle_t, jle_f, jle, jeq_t, jeq_f, jeq, ↓reduceIte, o100, w100t, l102, mBand, mStake, mKind, mCross, mCr, mKindOf, mAhead, mWhen, mStep, mRods, mRodAt, mStakeAt, mIndex, mOver, mOverIn, jlL, X12_within, bI_t, bI_f, X12_no]
    · refine OP.rf hI (-2) (jI (-2)) ?_ ?_
      · unfold f_X11_lid
        refine bs (v := 2) (by simp (maxSteps := 2000000) (disch := first | assumption | omega) only [jI0, iAdd_j, iSub_j, iMul_j, iNeg_j, Option.bind_some, jlt_t, jlt_f, jlt, jle_t, jle_f, jle, jeq_t, jeq_f, jeq, ↓reduceIte, o0]) ?_
        refine bs (v := ()) (by simp (maxSteps := 2000000) (disch := first | assumption | omega) only [jI0, iAdd_j, iSub_j, iMul_j, iNeg_j, Option.bind_some, jlt_t, jlt_f, jlt, jle_t, jle_f, jle, jeq_t, jeq_f, jeq, ↓reduceIte, o2]) ?_
        refine bs (v := (jI 1, hp q G)) (by simp (maxSteps := 2000000) (disch := first | assumption | omega) only [jI0, iAdd_j, iSub_j, iMul_j, iNeg_j, Option.bind_some, jlt_t, jlt_f, jlt, jle_t, jle_f, jle, jeq_t, jeq_f, jeq, ↓reduceIte, hKind, bI_t]) ?_
        refine bs1 ?_
        refine bs (v := 2) (by simp (maxSteps := 2000000) (disch := first | assumption | omega) only [jI0, iAdd_j, iSub_j, iMul_j, iNeg_j, Option.bind_some, jlt_t, jlt_f, jlt, jle_t, jle_f, jle, jeq_t, jeq_f, jeq, ↓reduceIte, o0]) ?_
        refine bs (v := ()) (by simp (maxSteps := 2000000) (disch := first | assumption | omega) only [jI0, iAdd_j, iSub_j, iMul_j, iNeg_j, Option.bind_some, jlt_t, jlt_f, jlt, jle_t, jle_f, jle, jeq_t, jeq_f, jeq, ↓reduceIte, o2]) ?_
        refine bs (v := (jI 0, hp q G)) (by simp (maxSteps := 2000000) (disch := first | assumption | omega) only [jI0, iAdd_j, iSub_j, iMul_j, iNeg_j, Option.bind_some, jlt_t, jlt_f, jlt, jle_t, jle_f, jle, jeq_t, jeq_f, jeq, ↓reduceIte, hKind, bI_f]) ?_
        refine bs0 ?_
        simp (maxSteps := 2000000) (disch := first | assumption | omega) only [jI0, iAdd_j, iSub_j, iMul_j, iNeg_j, Option.bind_some, jlt_t, jlt_f, jlt, jle_t, jle_f, jle, jeq_t, jeq_f, jeq, ↓reduceIte, o0, o2, o12, hBand, hStake, hKind, hCross, hWeaver, oBand, oKindOf, oKind, oCr, oRing, oWv, oPer, oRows, oAhead, oWhen, oAll, oStep, oRods, oRodAt, oStakeAt, oOff, bI_t, bI_f, X11_refuse]
      · intro G1 hM e eo
        have hV1 := hM.1; have hT1 := hM.2; (try rw [← e] at dm); (try rw [← e] at dr); (try rw [← e] at de); (try rw [← e] at dl); (try rw [← e] at hb); (try rw [← e] at hj); (try rw [← e] at hr); (try rw [← e] at hs); (try rw [← e] at pl); (try rw [← e] at al); (try rw [← e] at g); (try rw [← e] at c); (try rw [← e] at c1); (try rw [← e] at c2); (try rw [← e] at c3); (try rw [← e] at c4); (try rw [← e] at c5); (try rw [← e] at c6); (try rw [← e] at wb); (try rw [← e] at pr); (try rw [← e] at kd); (try rw [← e] at cr); (try rw [← e] at fe); (try rw [← e] at ra); (try rw [← e] at f1); (try rw [← e] at f2); (try rw [← e] at f3); (try rw [← e] at f4); (try rw [← e])
        unfold f_X12_lid
        have wt := w100t (q := q) hT1
        refine bs wt ?_
        refine bs (v := ()) (by simp (maxSteps := 2000000) (disch := first | assumption | omega) only [jI0, iAdd_j, iSub_j, iMul_j, iNeg_j, Option.bind_some, jlt_t, jlt_f, jlt, jle_t, jle_f, jle, jeq_t, jeq_f, jeq, ↓reduceIte, o100]) ?_
        refine bs (v := (jI 1, hp q G1)) (by simp (maxSteps := 2000000) (disch := first | assumption | omega) only [jI0, iAdd_j, iSub_j, iMul_j, iNeg_j, Option.bind_some, jlt_t, jlt_f, jlt, jle_t, jle_f, jle, jeq_t, jeq_f, jeq, ↓reduceIte, mKind, bI_t]) ?_
        refine bs1 ?_
        refine bs (v := ()) (by simp (maxSteps := 2000000) (disch := first | assumption | omega) only [jI0, iAdd_j, iSub_j, iMul_j, iNeg_j, Option.bind_some, jlt_t, jlt_f, jlt, jle_t, jle_f, jle, jeq_t, jeq_f, jeq, ↓reduceIte, o100]) ?_
        refine bs (v := (jI 0, hp q G1)) (by simp (maxSteps := 2000000) (disch := first | assumption | omega) only [jI0, iAdd_j, iSub_j, iMul_j, iNeg_j, Option.bind_some, jlt_t, jlt_f, jlt, jle_t, jle_f, jle, jeq_t, jeq_f, jeq, ↓reduceIte, mKind, bI_f]) ?_
        refine bs0 ?_
        simp (maxSteps := 2000000) (disch := first | assumption | omega) only [jI0, iAdd_j, iSub_j, iMul_j, iNeg_j, Option.bind_some, jlt_t, jlt_f, jlt, jle_t, jle_f, jle, jeq_t, jeq_f, jeq, ↓reduceIte, o100, w100t, l102, mBand, mStake, mKind, mCross, mCr, mKindOf, mAhead, mWhen, mStep, mRods, mRodAt, mStakeAt, mIndex, mOver, mOverIn, jlL, X12_within, bI_t, bI_f, X12_no]
  · refine OP.rf hI (-2) (jI (-2)) ?_ ?_
    · unfold f_X11_lid
      refine bs (v := 2) (by simp (maxSteps := 2000000) (disch := first | assumption | omega) only [jI0, iAdd_j, iSub_j, iMul_j, iNeg_j, Option.bind_some, jlt_t, jlt_f, jlt, jle_t, jle_f, jle, jeq_t, jeq_f, jeq, ↓reduceIte, o0]) ?_
      refine bs (v := ()) (by simp (maxSteps := 2000000) (disch := first | assumption | omega) only [jI0, iAdd_j, iSub_j, iMul_j, iNeg_j, Option.bind_some, jlt_t, jlt_f, jlt, jle_t, jle_f, jle, jeq_t, jeq_f, jeq, ↓reduceIte, o2]) ?_
      refine bs (v := (jI 0, hp q G)) (by simp (maxSteps := 2000000) (disch := first | assumption | omega) only [jI0, iAdd_j, iSub_j, iMul_j, iNeg_j, Option.bind_some, jlt_t, jlt_f, jlt, jle_t, jle_f, jle, jeq_t, jeq_f, jeq, ↓reduceIte, hKind, bI_f]) ?_
      refine bs0 ?_
      simp (maxSteps := 2000000) (disch := first | assumption | omega) only [jI0, iAdd_j, iSub_j, iMul_j, iNeg_j, Option.bind_some, jlt_t, jlt_f, jlt, jle_t, jle_f, jle, jeq_t, jeq_f, jeq, ↓reduceIte, o0, o2, o12, hBand, hStake, hKind, hCross, hWeaver, oBand, oKindOf, oKind, oCr, oRing, oWv, oPer, oRows, oAhead, oWhen, oAll, oStep, oRods, oRodAt, oStakeAt, oOff, bI_t, bI_f, X11_refuse]
    · intro G1 hM e eo
      have hV1 := hM.1; have hT1 := hM.2; (try rw [← e] at dm); (try rw [← e] at dr); (try rw [← e] at de); (try rw [← e] at dl); (try rw [← e] at hb); (try rw [← e] at hj); (try rw [← e] at hr); (try rw [← e] at hs); (try rw [← e] at pl); (try rw [← e] at al); (try rw [← e] at g); (try rw [← e] at c); (try rw [← e] at c1); (try rw [← e] at c2); (try rw [← e] at c3); (try rw [← e] at c4); (try rw [← e] at c5); (try rw [← e] at c6); (try rw [← e] at wb); (try rw [← e] at pr); (try rw [← e] at kd); (try rw [← e] at cr); (try rw [← e] at fe); (try rw [← e] at ra); (try rw [← e] at f1); (try rw [← e] at f2); (try rw [← e] at f3); (try rw [← e] at f4); (try rw [← e])
      unfold f_X12_lid
      have wt := w100t (q := q) hT1
      refine bs wt ?_
      refine bs (v := ()) (by simp (maxSteps := 2000000) (disch := first | assumption | omega) only [jI0, iAdd_j, iSub_j, iMul_j, iNeg_j, Option.bind_some, jlt_t, jlt_f, jlt, jle_t, jle_f, jle, jeq_t, jeq_f, jeq, ↓reduceIte, o100]) ?_
      refine bs (v := (jI 0, hp q G1)) (by simp (maxSteps := 2000000) (disch := first | assumption | omega) only [jI0, iAdd_j, iSub_j, iMul_j, iNeg_j, Option.bind_some, jlt_t, jlt_f, jlt, jle_t, jle_f, jle, jeq_t, jeq_f, jeq, ↓reduceIte, mKind, bI_f]) ?_
      refine bs0 ?_
      simp (maxSteps := 2000000) (disch := first | assumption | omega) only [jI0, iAdd_j, iSub_j, iMul_j, iNeg_j, Option.bind_some, jlt_t, jlt_f, jlt, jle_t, jle_f, jle, jeq_t, jeq_f, jeq, ↓reduceIte, o100, w100t, l102, mBand, mStake, mKind, mCross, mCr, mKindOf, mAhead, mWhen, mStep, mRods, mRodAt, mStakeAt, mIndex, mOver, mOverIn, jlL, X12_within, bI_t, bI_f, X12_no]
end
