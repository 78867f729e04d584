/-! call: even, last -/
section
variable {K1 K2 : (Int → Int) → (Int → Int) → Prop} {q : Nat × Nat × (Nat → Nat)} {G : Nat → Int → Int} {N : Nat}
theorem mEvNo (hN : 10000 ≤ N) {r : Nat} (hr : r < 4) (p : RP G r) (g29 : G 100 29 = G (37 + 2 * r) 0) {w : Int} (s8 : G (37 + 2 * r) 0 ≤ 8) (hw : ¬ AW G r 1 99) : ∃ G2, (∀ a, a ≠ 111 → G2 a = G a) ∧ L_X12_even_101 N N 100 (jI r) (jI w) (jI 0) (hp q G) = some (jI (-3), hp q (up G2 101 (rfz (-3)) (G2 101 (rfz (-3)) + 1))) := by
  obtain ⟨p0, p1, p2, p3, p4, p5, p6⟩ := p
  have LL : ∀ (d n : Nat) (k : Int) (G1 : Nat → Int → Int), 0 ≤ k → k + d = G (37 + 2 * r) 0 → d < n → k ≤ 8 → (∀ a, a ≠ 111 → G1 a = G a) → (∃ i, k ≤ i ∧ i < G (37 + 2 * r) 0 ∧ ¬ (1 ≤ G (38 + 2 * r) i ∧ G (38 + 2 * r) i ≤ 99)) → k + d ≤ 8 → ∃ G2, (∀ a, a ≠ 111 → G2 a = G a) ∧ L_X12_even_101 N n 100 (jI r) (jI w) (jI k) (hp q G1) = some (jI (-3), hp q (up G2 101 (rfz (-3)) (G2 101 (rfz (-3)) + 1))) := by
    intro d
    induction d with
    | zero =>
      rintro n k G1 k0 k1 hn k8 t1 ⟨i, i0, i1, i2⟩
      omega
    | succ d ih =>
      rintro n k G1 k0 k1 hn k8 t1 ⟨i, i0, i1, i2⟩ kd
      obtain ⟨n, rfl⟩ : ∃ m, n = m + 1 := ⟨n - 1, by omega⟩
      have v := p6 k k0 (by omega)
      have e29 : G1 100 29 = G (37 + 2 * r) 0 := by rw [t1 _ (by decide), g29]
      have e119 : G1 119 (40 * r + k) = G (38 + 2 * r) k := by rw [t1 _ (by decide), v.1]
      rw [L_X12_even_101]
      by_cases c : 1 ≤ G (38 + 2 * r) k ∧ G (38 + 2 * r) k ≤ 99
      · have di : i ≠ k := by rintro rfl; exact i2 c
        obtain ⟨G2, a1, a2⟩ := ih n (k + 1) (up G1 111 k (G (38 + 2 * r) k)) (by omega) (by omega) (by omega) (by omega) (fun a ha => (up_ne ha).trans (t1 a ha)) ⟨i, by omega, i1, i2⟩ (by omega)
        refine ⟨G2, a1, ?_⟩
        simp (maxSteps := 2000000) (disch := first | assumption | omega) only [jI0, iAdd_j, iSub_j, iMul_j, iNeg_j, Option.bind_some, jlt_t, jlt_f, jlt, jle_t, jle_f, jle, jeq_t, jeq_f, jeq, ↓reduceIte, o100, e29, l119, e119, X12_within, bI_t, jLI, s111, a2]
      · refine ⟨G1, t1, ?_⟩
        simp (maxSteps := 2000000) (disch := first | assumption | omega) only [jI0, iAdd_j, iSub_j, iMul_j, iNeg_j, Option.bind_some, jlt_t, jlt_f, jlt, jle_t, jle_f, jle, jeq_t, jeq_f, jeq, ↓reduceIte, o100, e29, l119, e119, X12_within, bI_f, X12_no]
  obtain ⟨i, i0, i1, i2⟩ : ∃ i, 0 ≤ i ∧ i < G (37 + 2 * r) 0 ∧ ¬ (1 ≤ G (38 + 2 * r) i ∧ G (38 + 2 * r) i ≤ 99) := by
    apply Classical.byContradiction
    intro h
    apply hw
    intro k k0 k1
    apply Classical.byContradiction
    intro h2
    exact h ⟨k, k0, k1, h2⟩
  exact LL (G (37 + 2 * r) 0).toNat N 0 G (by omega) (by omega) (by omega) (by omega) (fun _ _ => rfl) ⟨i, i0, i1, i2⟩ (by omega)
theorem op_even (hN : 10000 ≤ N) (hI : INV K1 K2 q G) {row w : Int} (h1 : -2147483648 ≤ row) (h2 : row < 2147483648) (h3 : -2147483648 ≤ w) (h4 : w < 2147483648) : OP K1 K2 q G (f_X11_even N 0 (jI row) (jI w)) (f_X12_even N 100 (jI row) (jI w)) := by
  have hB := hI.1.1; have hV := hB.1; have hT := hI.1.2.1; have g := hV.1
  by_cases c : 0 ≤ row ∧ row < 4
  · obtain ⟨r, rfl⟩ := Int.eq_ofNat_of_zero_le c.1
    have hr : r < 4 := by omega
    by_cases cw : -1 ≤ w ∧ w ≤ 7
    · rcases hI.rp hr with ⟨m1, m2⟩ | pr
      · refine OP.rf hI (-6) (jI (-6)) ?_ ?_
        · unfold f_X11_even
          simp (maxSteps := 2000000) (disch := first | assumption | omega) only [jI0, iAdd_j, iSub_j, iMul_j, iNeg_j, Option.bind_some, jlt_t, jlt_f, jlt, jle_t, jle_f, jle, jeq_t, jeq_f, jeq, ↓reduceIte, o0, o2, o12, hBand, hStake, hKind, hCross, hWeaver, oBand, oKindOf, oKind, oCr, oRing, oWv, oPer, oRows, oAhead, oWhen, oAll, oStep, oRods, oRodAt, oStakeAt, oOff, bI_t, bI_f, X11_refuse, oIsRow, rA, ro, oMiss]
        · intro G1 hM e eo
          rw [← eo 117 (by decide)] at m2
          have wt := w100t (q := q) hM.2
          unfold f_X12_even
          simp (maxSteps := 2000000) (disch := first | assumption | omega) only [jI0, iAdd_j, iSub_j, iMul_j, iNeg_j, Option.bind_some, jlt_t, jlt_f, jlt, jle_t, jle_f, jle, jeq_t, jeq_f, jeq, ↓reduceIte, wt, jlL, X12_within, bI_t, o100, l117, m2, X12_no]
      · obtain ⟨p1, p2, p3, p4, p5, p6, p7⟩ := id pr
        have cz : ¬ bI (G (37 + 2 * r) 0 = -1) = jI 1 := by rw [bI_1]; omega
        have om := oMiss (q := q) (N := N) (G := G) hr (by omega) (by omega)
        rw [bI_f (by omega)] at om
        have wo := oWithin (q := q) hN hr pr (lo := 1) (hi := 99) (by omega) (by omega)
        have g37 := ro (q := q) (G := G) hr
        have an := iAnd_1 (a := G (37 + 2 * r) 0) p1
        have am0 := Int.emod_nonneg (G (37 + 2 * r) 0) (show (2 : Int) ≠ 0 by omega)
        have am1 := Int.emod_lt_of_pos (G (37 + 2 * r) 0) (show (0 : Int) < 2 by omega)
        have z2 : (jI 2 = jI 0) = False := jeq_f (by omega)
        have pre : ∀ G1 : Nat → Int → Int, G1 100 0 = 0 → G1 117 r = G 117 r → G1 118 r = G 118 r → ∀ R : Option (Int32 × mH), (f_X12_within N (jI (G (37 + 2 * r) 0)).toInt64 (jL 2) (jL 8) (hp q (up G1 100 29 (G (37 + 2 * r) 0)))).bind (fun p13 => if p13.1 = 0 then (rcv p13.2 12 100).bind fun _ => (f_X12_no N 100 (jI (-3)) p13.2).bind fun p14 => some (p14.1, p14.2) else (gI p13.2 12 100 29).bind fun v15 => if (jI 2) = 0 then none else if (iRem v15 (jI 2)) = (jI 1) then (rcv p13.2 12 100).bind fun _ => (f_X12_no N 100 (jI (-3)) p13.2).bind fun p16 => some (p16.1, p16.2) else L_X12_even_101 N N 100 (jI r) (jI w) (jI 0) p13.2) = R → f_X12_even N 100 (jI r) (jI w) (hp q G1) = R := by
          intro G1 e0 e1 e2 R hR
          have wt := w100t (q := q) (G := G1) e0
          have w29 : pV (hp q G1) 12 100 29 (.int (jI (G (37 + 2 * r) 0))) = some (hp q (up G1 100 29 (G (37 + 2 * r) 0))) := by simp (maxSteps := 2000000) (disch := first | assumption | omega) only [jI0, iAdd_j, iSub_j, iMul_j, iNeg_j, Option.bind_some, jlt_t, jlt_f, jlt, jle_t, jle_f, jle, jeq_t, jeq_f, jeq, ↓reduceIte, w100]
          have z29 : up G1 100 29 (G (37 + 2 * r) 0) 100 29 = G (37 + 2 * r) 0 := by rw [up_eq, u1_eq]
          rw [← hR]
          unfold f_X12_even
          refine bs wt ?_
          refine bs (v := (jI 1, hp q G1)) (by simp (maxSteps := 2000000) (disch := first | assumption | omega) only [jI0, iAdd_j, iSub_j, iMul_j, iNeg_j, Option.bind_some, jlt_t, jlt_f, jlt, jle_t, jle_f, jle, jeq_t, jeq_f, jeq, ↓reduceIte, jlL, X12_within, bI_t]) ?_
          refine bs1 ?_
          refine bs (v := (jI 1, hp q G1)) (by simp (maxSteps := 2000000) (disch := first | assumption | omega) only [jI0, iAdd_j, iSub_j, iMul_j, iNeg_j, Option.bind_some, jlt_t, jlt_f, jlt, jle_t, jle_f, jle, jeq_t, jeq_f, jeq, ↓reduceIte, jlL, X12_within, bI_t]) ?_
          refine bs1 ?_
          refine bs (v := 117) (by simp (maxSteps := 2000000) (disch := first | assumption | omega) only [jI0, iAdd_j, iSub_j, iMul_j, iNeg_j, Option.bind_some, jlt_t, jlt_f, jlt, jle_t, jle_f, jle, jeq_t, jeq_f, jeq, ↓reduceIte, o100]) ?_
          refine bs (v := jI (G (37 + 2 * r) 1)) (by rw [← p4, ← e1]; simp (maxSteps := 2000000) (disch := first | assumption | omega) only [jI0, iAdd_j, iSub_j, iMul_j, iNeg_j, Option.bind_some, jlt_t, jlt_f, jlt, jle_t, jle_f, jle, jeq_t, jeq_f, jeq, ↓reduceIte, l117]) ?_
          rw [if_neg (by rw [jeq_f (by omega)]; exact fun x => x)]
          refine bs (v := 118) (by simp (maxSteps := 2000000) (disch := first | assumption | omega) only [jI0, iAdd_j, iSub_j, iMul_j, iNeg_j, Option.bind_some, jlt_t, jlt_f, jlt, jle_t, jle_f, jle, jeq_t, jeq_f, jeq, ↓reduceIte, o100]) ?_
          refine bs (v := jI (G (37 + 2 * r) 0)) (by rw [← p3, ← e2]; simp (maxSteps := 2000000) (disch := first | assumption | omega) only [jI0, iAdd_j, iSub_j, iMul_j, iNeg_j, Option.bind_some, jlt_t, jlt_f, jlt, jle_t, jle_f, jle, jeq_t, jeq_f, jeq, ↓reduceIte, l118]) ?_
          refine bs w29 ?_
          refine bs (v := jI (G (37 + 2 * r) 0)) (by simp (maxSteps := 2000000) (disch := first | assumption | omega) only [jI0, iAdd_j, iSub_j, iMul_j, iNeg_j, Option.bind_some, jlt_t, jlt_f, jlt, jle_t, jle_f, jle, jeq_t, jeq_f, jeq, ↓reduceIte, o100, z29]) ?_
          rfl
        have scu : ∀ (G1 : Nat → Int → Int) (v : Int), SC G1 (up G1 100 29 v) := fun G1 v => SC.of2 (fun a a0 _ => up_ne a0) ⟨by rw [up_eq, u1_ne (by decide)], by rw [up_eq, u1_ne (by decide)], by rw [up_eq, u1_ne (by decide)], by rw [up_eq, u1_ne (by decide)]⟩
        have z29 : ∀ (G1 : Nat → Int → Int) (v : Int), up G1 100 29 v 100 29 = v := fun G1 v => by rw [up_eq, u1_eq]
        by_cases c1 : 2 ≤ G (37 + 2 * r) 0 ∧ G (37 + 2 * r) 0 ≤ 8
        · by_cases c2 : G (37 + 2 * r) 0 % 2 = 0
          · by_cases c3 : AW G r 1 99
            · rw [cI_t c3] at wo
              obtain ⟨n, hn⟩ := Int.eq_ofNat_of_zero_le p1
              obtain ⟨m, hm⟩ : ∃ m, n = 2 * m := ⟨n / 2, by omega⟩
              have aw : ∀ k : Int, 0 ≤ k → k < n → 1 ≤ G (38 + 2 * r) k ∧ G (38 + 2 * r) k ≤ 99 := fun k k0 k1 => c3 k k0 (by omega)
              obtain ⟨G1, ⟨x1, x2, x3, x4⟩, x5⟩ := oRound (q := q) hN hr pr hm (by omega) (by omega) hn aw
              rw [c2] at an
              refine OP.sc hI (jI (if w < n then (if w = -1 then (evA (G (38 + 2 * r)) n m).1 else (evA (G (38 + 2 * r)) n m).2 w) else -1)) ?_ ?_
              · by_cases cn : w < n
                · refine ⟨G1, SC.of (fun a ha => x1 a (by rintro rfl; cases ha) (by rintro rfl; cases ha) (by rintro rfl; cases ha) (by rintro rfl; cases ha)), ?_⟩
                  rw [if_pos cn]
                  unfold f_X11_even J_X11_even_78 f_X2_rodAtPlace
                  rw [hn] at an g37
                  by_cases c5 : w = -1
                  · rw [if_pos c5]
                    subst c5
                    simp (maxSteps := 2000000) (disch := first | assumption | omega) only [jI0, iAdd_j, iSub_j, iMul_j, iNeg_j, Option.bind_some, jlt_t, jlt_f, jlt, jle_t, jle_f, jle, jeq_t, jeq_f, jeq, ↓reduceIte, o0, o2, o12, hBand, hStake, hKind, hCross, hWeaver, oBand, oKindOf, oKind, oCr, oRing, oWv, oPer, oRows, oAhead, oWhen, oAll, oStep, oRods, oRodAt, oStakeAt, oOff, bI_t, bI_f, X11_refuse, oIsRow, rA, g37, om, an, jlL, wo, x5, o78, x2]
                  · rw [if_neg c5]
                    have := x4 w (by omega) cn
                    simp (maxSteps := 2000000) (disch := first | assumption | omega) only [jI0, iAdd_j, iSub_j, iMul_j, iNeg_j, Option.bind_some, jlt_t, jlt_f, jlt, jle_t, jle_f, jle, jeq_t, jeq_f, jeq, ↓reduceIte, o0, o2, o12, hBand, hStake, hKind, hCross, hWeaver, oBand, oKindOf, oKind, oCr, oRing, oWv, oPer, oRows, oAhead, oWhen, oAll, oStep, oRods, oRodAt, oStakeAt, oOff, bI_t, bI_f, X11_refuse, oIsRow, rA, g37, om, an, jlL, wo, x5, o78, x3, l81, this]
                · refine ⟨G, SC.refl, ?_⟩
                  rw [if_neg cn]
                  unfold f_X11_even J_X11_even_78
                  rw [hn] at an g37
                  simp (maxSteps := 2000000) (disch := first | assumption | omega) only [jI0, iAdd_j, iSub_j, iMul_j, iNeg_j, Option.bind_some, jlt_t, jlt_f, jlt, jle_t, jle_f, jle, jeq_t, jeq_f, jeq, ↓reduceIte, o0, o2, o12, hBand, hStake, hKind, hCross, hWeaver, oBand, oKindOf, oKind, oCr, oRing, oWv, oPer, oRows, oAhead, oWhen, oAll, oStep, oRods, oRodAt, oStakeAt, oOff, bI_t, bI_f, X11_refuse, oIsRow, rA, g37, om, an, jlL, wo]
              · intro G2 s2 hM e
                have pp := pr.sc hr s2
                have e8 : G2 (38 + 2 * r) = G (38 + 2 * r) := by
                  have e : ∀ a, (relv a && !(a == 13)) = true → G2 a = G a := fun a h => s2.1 a (by simp at h; exact h.1) (by simp at h; exact h.2)
                  rcases r4 hr with rfl | rfl | rfl | rfl
                  · exact e 38 rfl
                  · exact e 40 rfl
                  · exact e 42 rfl
                  · exact e 44 rfl
                have e117 : G2 117 r = G 117 r := by rw [s2.1 117 rfl (by decide)]
                have e118 : G2 118 r = G 118 r := by rw [s2.1 118 rfl (by decide)]
                have e9 : G2 (37 + 2 * r) 0 = n := by rw [← pp.2.2.1, e118, p3, hn]
                have p3' := pp.ne hr (x := 100) (by omega) (G1 := up G2 100 29 n) (fun a ha => up_ne ha)
                have f8 : up G2 100 29 n (38 + 2 * r) = G (38 + 2 * r) := by rw [up_ne (by omega), e8]
                have f7 : up G2 100 29 n (37 + 2 * r) 0 = n := by rw [up_ne (by omega), e9]
                obtain ⟨G3, ⟨y1, y2⟩, y3⟩ := mEvL (q := q) (G := up G2 100 29 n) hN hr p3' hm (by omega) (by omega) f7 (z29 G2 n) (w := w) cw (by rw [f8]; exact aw)
                rw [f8] at y3
                refine ⟨G3, ?_, pre G2 hM.2 e117 e118 _ ?_⟩
                · refine (scu G2 n).trans (SC.of2 (fun a a0 ha => y1 a a0 (by rintro rfl; cases ha) (by rintro rfl; cases ha) (by rintro rfl; cases ha)) ⟨y2 0 (by decide), y2 6 (by decide), y2 14 (by decide), y2 15 (by decide)⟩)
                · rw [hn] at c1 c2 ⊢
                  have z := z29 G2 n
                  simp (maxSteps := 2000000) (disch := first | assumption | omega) only [jI0, iAdd_j, iSub_j, iMul_j, iNeg_j, Option.bind_some, jlt_t, jlt_f, jlt, jle_t, jle_f, jle, jeq_t, jeq_f, jeq, ↓reduceIte, jlL, X12_within, bI_t, o100, z, z2, iRem_p, c2, y3]
            · rw [cI_f c3] at wo
              rw [c2] at an
              refine OP.rf2 hI (-3) (jI (-3)) ?_ ?_
              · unfold f_X11_even J_X11_even_78
                simp (maxSteps := 2000000) (disch := first | assumption | omega) only [jI0, iAdd_j, iSub_j, iMul_j, iNeg_j, Option.bind_some, jlt_t, jlt_f, jlt, jle_t, jle_f, jle, jeq_t, jeq_f, jeq, ↓reduceIte, o0, o2, o12, hBand, hStake, hKind, hCross, hWeaver, oBand, oKindOf, oKind, oCr, oRing, oWv, oPer, oRows, oAhead, oWhen, oAll, oStep, oRods, oRodAt, oStakeAt, oOff, bI_t, bI_f, X11_refuse, oIsRow, rA, g37, om, an, jlL, wo]
              · intro G1 hM e eo
                have p3' := (pr.eo hr eo).ne hr (x := 100) (by omega) (G1 := up G1 100 29 (G (37 + 2 * r) 0)) (fun a ha => up_ne ha)
                have f7 : up G1 100 29 (G (37 + 2 * r) 0) (37 + 2 * r) = G (37 + 2 * r) := by rw [up_ne (by omega), eo _ (by omega)]
                have f8 : up G1 100 29 (G (37 + 2 * r) 0) (38 + 2 * r) = G (38 + 2 * r) := by rw [up_ne (by omega), eo _ (by omega)]
                obtain ⟨G2, y1, y2⟩ := mEvNo (q := q) (G := up G1 100 29 (G (37 + 2 * r) 0)) hN hr p3' (by rw [f7]; exact z29 _ _) (w := w) (by rw [f7]; exact c1.2) (by unfold AW; rw [f7, f8]; exact c3)
                refine ⟨G2, (scu G1 _).trans (SC.one (c := 111) y1 rfl), pre G1 hM.2 (by rw [eo 117 (by decide)]) (by rw [eo 118 (by decide)]) _ ?_⟩
                have z := z29 G1 (G (37 + 2 * r) 0)
                simp (maxSteps := 2000000) (disch := first | assumption | omega) only [jI0, iAdd_j, iSub_j, iMul_j, iNeg_j, Option.bind_some, jlt_t, jlt_f, jlt, jle_t, jle_f, jle, jeq_t, jeq_f, jeq, ↓reduceIte, jlL, X12_within, bI_t, o100, z, z2, iRem_p, c2, y2]
          · have c2' : G (37 + 2 * r) 0 % 2 = 1 := by omega
            rw [c2'] at an
            refine OP.rf2 hI (-3) (jI (-3)) ?_ ?_
            · unfold f_X11_even J_X11_even_78
              simp (maxSteps := 2000000) (disch := first | assumption | omega) only [jI0, iAdd_j, iSub_j, iMul_j, iNeg_j, Option.bind_some, jlt_t, jlt_f, jlt, jle_t, jle_f, jle, jeq_t, jeq_f, jeq, ↓reduceIte, o0, o2, o12, hBand, hStake, hKind, hCross, hWeaver, oBand, oKindOf, oKind, oCr, oRing, oWv, oPer, oRows, oAhead, oWhen, oAll, oStep, oRods, oRodAt, oStakeAt, oOff, bI_t, bI_f, X11_refuse, oIsRow, rA, g37, om, an]
            · intro G1 hM e eo
              refine ⟨up G1 100 29 (G (37 + 2 * r) 0), scu G1 _, pre G1 hM.2 (by rw [eo 117 (by decide)]) (by rw [eo 118 (by decide)]) _ ?_⟩
              have z := z29 G1 (G (37 + 2 * r) 0)
              simp (maxSteps := 2000000) (disch := first | assumption | omega) only [jI0, iAdd_j, iSub_j, iMul_j, iNeg_j, Option.bind_some, jlt_t, jlt_f, jlt, jle_t, jle_f, jle, jeq_t, jeq_f, jeq, ↓reduceIte, jlL, X12_within, bI_t, o100, z, z2, iRem_p, c2', X12_no]
        · refine OP.rf2 hI (-3) (jI (-3)) ?_ ?_
          · unfold f_X11_even J_X11_even_78
            by_cases d : G (37 + 2 * r) 0 < 2 <;> simp (maxSteps := 2000000) (disch := first | assumption | omega) only [jI0, iAdd_j, iSub_j, iMul_j, iNeg_j, Option.bind_some, jlt_t, jlt_f, jlt, jle_t, jle_f, jle, jeq_t, jeq_f, jeq, ↓reduceIte, o0, o2, o12, hBand, hStake, hKind, hCross, hWeaver, oBand, oKindOf, oKind, oCr, oRing, oWv, oPer, oRows, oAhead, oWhen, oAll, oStep, oRods, oRodAt, oStakeAt, oOff, bI_t, bI_f, X11_refuse, oIsRow, rA, g37, om]
          · intro G1 hM e eo
            refine ⟨up G1 100 29 (G (37 + 2 * r) 0), scu G1 _, pre G1 hM.2 (by rw [eo 117 (by decide)]) (by rw [eo 118 (by decide)]) _ ?_⟩
            simp (maxSteps := 2000000) (disch := first | assumption | omega) only [jI0, iAdd_j, iSub_j, iMul_j, iNeg_j, Option.bind_some, jlt_t, jlt_f, jlt, jle_t, jle_f, jle, jeq_t, jeq_f, jeq, ↓reduceIte, jlL, X12_within, bI_f, o100, X12_no]
    · refine OP.rf hI (-2) (jI (-2)) ?_ ?_
      · unfold f_X11_even
        by_cases d : w < -1 <;> simp (maxSteps := 2000000) (disch := first | assumption | omega) only [jI0, iAdd_j, iSub_j, iMul_j, iNeg_j, Option.bind_some, jlt_t, jlt_f, jlt, jle_t, jle_f, jle, jeq_t, jeq_f, jeq, ↓reduceIte, o0, o2, o12, hBand, hStake, hKind, hCross, hWeaver, oBand, oKindOf, oKind, oCr, oRing, oWv, oPer, oRows, oAhead, oWhen, oAll, oStep, oRods, oRodAt, oStakeAt, oOff, bI_t, bI_f, X11_refuse, oIsRow]
      · intro G1 hM e eo
        have wt := w100t (q := q) hM.2
        unfold f_X12_even
        simp (maxSteps := 2000000) (disch := first | assumption | omega) only [jI0, iAdd_j, iSub_j, iMul_j, iNeg_j, Option.bind_some, jlt_t, jlt_f, jlt, jle_t, jle_f, jle, jeq_t, jeq_f, jeq, ↓reduceIte, wt, jlL, X12_within, bI_t, bI_f, o100, X12_no]
  · refine OP.rf hI (-2) (jI (-2)) ?_ ?_
    · unfold f_X11_even
      simp (maxSteps := 2000000) (disch := first | assumption | omega) only [jI0, iAdd_j, iSub_j, iMul_j, iNeg_j, Option.bind_some, jlt_t, jlt_f, jlt, jle_t, jle_f, jle, jeq_t, jeq_f, jeq, ↓reduceIte, o0, o2, o12, hBand, hStake, hKind, hCross, hWeaver, oBand, oKindOf, oKind, oCr, oRing, oWv, oPer, oRows, oAhead, oWhen, oAll, oStep, oRods, oRodAt, oStakeAt, oOff, bI_t, bI_f, X11_refuse, oIsRow]
    · intro G1 hM e eo
      have wt := w100t (q := q) hM.2
      unfold f_X12_even
      simp (maxSteps := 2000000) (disch := first | assumption | omega) only [jI0, iAdd_j, iSub_j, iMul_j, iNeg_j, Option.bind_some, jlt_t, jlt_f, jlt, jle_t, jle_f, jle, jeq_t, jeq_f, jeq, ↓reduceIte, wt, jlL, X12_within, bI_f, o100, X12_no]
end
