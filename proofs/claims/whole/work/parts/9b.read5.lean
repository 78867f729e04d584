/-! reads, nearest: the whole calls -/
theorem sgo_P {σ : Type} {S : Int} {F : Stk → σ → σ} {P : σ → Prop} (h : ∀ x s, P (F x s)) : ∀ (d : Nat) (x : Stk) (s : σ), P (sgo S F (d + 1) x s)
  | 0, x, s => by
    rw [sgo]
    split
    · exact h x s
    · exact h x s
  | d + 1, x, s => by
    rw [sgo]
    split
    · exact h x s
    · exact sgo_P h d _ _
theorem rdT_e {S R : Int} {ow uw : Int → Int → Bool} (hS : 3 ≤ S ∧ S ≤ 32) (hR : 1 ≤ R ∧ R ≤ 8) : (rdT S R ow uw).1 ≤ 256 := by
  have h : ∀ (k : Int) (x : Stk) (s : Rds), (rdgF S R k ow uw x s).1 ≤ 256 := by
    intro k x s
    have := msA_r S k hS x ow uw R.toNat
    unfold rdgF
    dsimp only
    split <;> omega
  have K : ∀ (k : Int) (s : Rds), s.1 ≤ 256 ∨ R % k = 0 → (rdK S R ow uw k s).1 ≤ 256 := by
    intro k s hs
    unfold rdK
    by_cases c : R % k = 0
    · rw [if_pos c]
      exact sgo_P (P := fun s : Rds => s.1 ≤ 256) (h k) _ _ _
    · rw [if_neg c]
      omega
  unfold rdT
  exact K 4 _ (.inl (K 3 _ (.inl (K 2 _ (.inl (K 1 _ (.inr (Int.emod_one R))))))))
def ezR (s : Rds) : Int := if s.1 = 2147483647 then -1 else s.1
def nzR (z : Int) (s : Rds) : Int := if z = 0 then s.1 else if z = 1 then s.2.1.1 else if z = 2 then xkA s.2.1.2 else if z = 3 then xkB s.2.1.2 else if z = 4 then xkF s.2.1.2 else xkL s.2.1.2
section
variable {K1 K2 : (Int → Int) → (Int → Int) → Prop} {q : Nat × Nat × (Nat → Nat)} {G : Nat → Int → Int} {N : Nat}
theorem mNrT (hN : 10000 ≤ N) {S R d z : Int} {sg : Int → Int → Int} (hdd : d = 0 ∨ d = 1) (hS : 3 ≤ S ∧ S ≤ 32) (hR : 1 ≤ R ∧ R ≤ 8) : RunT q S (fun f (s : Rds) v h => L_X12_nearest_62 N f 100 (jI d) (jI z) (jI (ezR s)) v h) (rdX S R (rdO sg S d) (rdU sg S d)) (fun n G s => SgP G S R sg ∧ (0 ≤ s.1 ∧ s.1 ≤ 2147483647) ∧ (s.1 ≠ 2147483647 → G 108 0 = s.2.1.1 ∧ G 108 1 = xkA s.2.1.2 ∧ G 108 2 = xkB s.2.1.2 ∧ G 108 3 = xkF s.2.1.2 ∧ G 108 4 = xkL s.2.1.2)) := by
  intro k x s G n hk hx hn hw hi
  obtain ⟨i1, i2, i3⟩ := hi
  have ms := mMist (q := q) hN hdd hS hR hk hx hw i1
  have mr := msA_r S k hS x (rdO sg S d) (rdU sg S d) R.toNat
  have s1 := i1.2.1
  have m0 := Int.emod_nonneg R (show k ≠ 0 by omega)
  have m1 := Int.emod_lt_of_pos R (show 0 < k by omega)
  have w1 := hw.2.1
  by_cases c : R % k = 0
  · have eX : rdX S R (rdO sg S d) (rdU sg S d) k x s = rdgF S R k (rdO sg S d) (rdU sg S d) x s := if_pos c
    by_cases c2 : msA S k x (rdO sg S d) (rdU sg S d) R.toNat < s.1
    · obtain ⟨G1, ⟨k1, k2, _⟩, k4⟩ := mKeeps (q := q) hN hk hx hS.2 hw
      have w2 : NowM G1 S k x := by unfold NowM at *; rw [k1 102 (by decide), k1 100 (by decide)]; exact hw
      obtain ⟨G2, ⟨n1, n2, n3⟩, n4⟩ := mNext (N := N) (q := q) hS hk hx w2
      have e1 : (rdX S R (rdO sg S d) (rdU sg S d) k x s).1 = msA S k x (rdO sg S d) (rdU sg S d) R.toNat := by rw [eX]; exact if_pos c2
      have e2 : (rdX S R (rdO sg S d) (rdU sg S d) k x s).2.1 = (k, x) := by rw [eX]; exact if_pos c2
      have ne : ¬ msA S k x (rdO sg S d) (rdU sg S d) R.toNat = 2147483647 := by omega
      have ez : ezR (rdX S R (rdO sg S d) (rdU sg S d) k x s) = msA S k x (rdO sg S d) (rdU sg S d) R.toNat := by unfold ezR; rw [e1, if_neg ne]
      have e108 : G2 108 = G1 108 := n1.1 108 (by decide)
      refine ⟨G2, ⟨(KpF.of8 k1).trans (KpF.ofM n1), ⟨i1.keep (by rw [n1.1 102 (by decide), k1 102 (by decide)]), by rw [e1]; omega, fun _ => ?_⟩, n2, n3⟩, fun f => ?_⟩
      · rw [e2, e108]
        exact k2
      · show L_X12_nearest_62 N (f + 1) 100 (jI d) (jI z) (jI (ezR s)) (jI 1) (hp q G) = L_X12_nearest_62 N f 100 (jI d) (jI z) (jI (ezR (rdX S R (rdO sg S d) (rdU sg S d) k x s))) _ (hp q G2)
        rw [ez, L_X12_nearest_62]
        unfold ezR
        by_cases c3 : s.1 = 2147483647
        · rw [if_pos c3]
          simp (maxSteps := 2000000) (disch := first | assumption | omega) only [jI0, iAdd_j, iSub_j, iMul_j, iNeg_j, Option.bind_some, jlt_t, jlt_f, jlt, jle_t, jle_f, jle, jeq_t, jeq_f, jeq, ↓reduceIte, o100, l102, s1, w1, iRem_p, c, ms, k4, n4]
        · rw [if_neg c3]
          simp (maxSteps := 2000000) (disch := first | assumption | omega) only [jI0, iAdd_j, iSub_j, iMul_j, iNeg_j, Option.bind_some, jlt_t, jlt_f, jlt, jle_t, jle_f, jle, jeq_t, jeq_f, jeq, ↓reduceIte, o100, l102, s1, w1, iRem_p, c, ms, k4, n4]
    · obtain ⟨G2, ⟨n1, n2, n3⟩, n4⟩ := mNext (N := N) (q := q) hS hk hx hw
      have e1 : (rdX S R (rdO sg S d) (rdU sg S d) k x s).1 = s.1 := by rw [eX]; exact if_neg c2
      have e2 : (rdX S R (rdO sg S d) (rdU sg S d) k x s).2.1 = s.2.1 := by rw [eX]; exact if_neg c2
      have e108 : G2 108 = G 108 := n1.1 108 (by decide)
      have c3 : ¬ s.1 = 2147483647 := by omega
      have ez : ezR (rdX S R (rdO sg S d) (rdU sg S d) k x s) = s.1 := by unfold ezR; rw [e1, if_neg c3]
      have ez2 : ezR s = s.1 := if_neg c3
      refine ⟨G2, ⟨KpF.ofM n1, ⟨i1.keep (n1.1 102 (by decide)), by rw [e1]; exact i2, fun h => ?_⟩, n2, n3⟩, fun f => ?_⟩
      · rw [e2, e108]
        exact i3 c3
      · show L_X12_nearest_62 N (f + 1) 100 (jI d) (jI z) (jI (ezR s)) (jI 1) (hp q G) = L_X12_nearest_62 N f 100 (jI d) (jI z) (jI (ezR (rdX S R (rdO sg S d) (rdU sg S d) k x s))) _ (hp q G2)
        rw [ez, ez2, L_X12_nearest_62]
        simp (maxSteps := 2000000) (disch := first | assumption | omega) only [jI0, iAdd_j, iSub_j, iMul_j, iNeg_j, Option.bind_some, jlt_t, jlt_f, jlt, jle_t, jle_f, jle, jeq_t, jeq_f, jeq, ↓reduceIte, o100, l102, s1, w1, iRem_p, c, ms, n4]
  · have eX : rdX S R (rdO sg S d) (rdU sg S d) k x s = s := if_neg c
    obtain ⟨G2, ⟨n1, n2, n3⟩, n4⟩ := mNext (N := N) (q := q) hS hk hx hw
    have e108 : G2 108 = G 108 := n1.1 108 (by decide)
    refine ⟨G2, ⟨KpF.ofM n1, ⟨i1.keep (n1.1 102 (by decide)), by rw [eX]; exact i2, fun h => ?_⟩, n2, n3⟩, fun f => ?_⟩
    · rw [eX] at h ⊢
      rw [e108]
      exact i3 h
    · show L_X12_nearest_62 N (f + 1) 100 (jI d) (jI z) (jI (ezR s)) (jI 1) (hp q G) = L_X12_nearest_62 N f 100 (jI d) (jI z) (jI (ezR (rdX S R (rdO sg S d) (rdU sg S d) k x s))) _ (hp q G2)
      rw [eX, L_X12_nearest_62]
      simp (maxSteps := 2000000) (disch := first | assumption | omega) only [jI0, iAdd_j, iSub_j, iMul_j, iNeg_j, Option.bind_some, jlt_t, jlt_f, jlt, jle_t, jle_f, jle, jeq_t, jeq_f, jeq, ↓reduceIte, o100, l102, s1, w1, iRem_p, c, n4]
theorem mReads (hN : 10000 ≤ N) {S R d z : Int} {sg : Int → Int → Int} (hdd : d = 0 ∨ d = 1) (hz : z = 0 ∨ z = 1) (hS : 3 ≤ S ∧ S ≤ 32) (hR : 1 ≤ R ∧ R ≤ 8) (hs : SgP G S R sg) (hw : NowM G S 1 (1, 1, 0, 0)) : ∃ G' : Nat → Int → Int, KpF G G' ∧ L_X12_reads_60 N N 100 (jI d) (jI z) (jI 0) (jI 1) (hp q G) = some (jI (czR z (rdT S R (rdO sg S d) (rdU sg S d))), hp q G') := by
  obtain ⟨G', n, f, ⟨a1, _⟩, a3⟩ := mRun (q := q) hN hS (mRdT (q := q) hN (sg := sg) hdd hz hS hR) (s := (2147483647, (0, (0, 0, 0, 0)), 0, 0)) hw ⟨hs, Int.le_refl _, Int.le_refl _, Int.le_refl _⟩
  simp only [rdK_X] at a3
  have c0 : czR z ((2147483647, (0, (0, 0, 0, 0)), 0, 0) : Rds) = 0 := by unfold czR; split <;> rfl
  rw [c0] at a3
  refine ⟨G', a1, ?_⟩
  rw [a3]
  show L_X12_reads_60 N (f + 1) 100 (jI d) (jI z) (jI (czR z (rdT S R (rdO sg S d) (rdU sg S d)))) (jI 0) (hp q G') = _
  rw [L_X12_reads_60]
  simp (maxSteps := 2000000) (disch := first | assumption | omega) only [jI0, iAdd_j, iSub_j, iMul_j, iNeg_j, Option.bind_some, jlt_t, jlt_f, jlt, jle_t, jle_f, jle, jeq_t, jeq_f, jeq, ↓reduceIte]
theorem mNear (hN : 10000 ≤ N) {S R d z : Int} {sg : Int → Int → Int} (hdd : d = 0 ∨ d = 1) (hz : 0 ≤ z ∧ z ≤ 5) (hS : 3 ≤ S ∧ S ≤ 32) (hR : 1 ≤ R ∧ R ≤ 8) (hs : SgP G S R sg) (hw : NowM G S 1 (1, 1, 0, 0)) : ∃ G' : Nat → Int → Int, KpF G G' ∧ L_X12_nearest_62 N N 100 (jI d) (jI z) (jI (-1)) (jI 1) (hp q G) = some (jI (nzR z (rdT S R (rdO sg S d) (rdU sg S d))), hp q G') := by
  obtain ⟨G', n, f, ⟨a1, a2⟩, a3⟩ := mRun (q := q) hN hS (mNrT (q := q) hN (z := z) (sg := sg) hdd hS hR) (s := (2147483647, (0, (0, 0, 0, 0)), 0, 0)) hw ⟨hs, by dsimp only; omega, fun h => absurd rfl h⟩
  simp only [rdK_X] at a2 a3
  have c0 : ezR ((2147483647, (0, (0, 0, 0, 0)), 0, 0) : Rds) = -1 := rfl
  rw [c0] at a3
  have a2' : SgP G' S R sg ∧ (0 ≤ (rdT S R (rdO sg S d) (rdU sg S d)).1 ∧ (rdT S R (rdO sg S d) (rdU sg S d)).1 ≤ 2147483647) ∧ ((rdT S R (rdO sg S d) (rdU sg S d)).1 ≠ 2147483647 → G' 108 0 = (rdT S R (rdO sg S d) (rdU sg S d)).2.1.1 ∧ G' 108 1 = xkA (rdT S R (rdO sg S d) (rdU sg S d)).2.1.2 ∧ G' 108 2 = xkB (rdT S R (rdO sg S d) (rdU sg S d)).2.1.2 ∧ G' 108 3 = xkF (rdT S R (rdO sg S d) (rdU sg S d)).2.1.2 ∧ G' 108 4 = xkL (rdT S R (rdO sg S d) (rdU sg S d)).2.1.2) := a2
  have le := rdT_e (ow := rdO sg S d) (uw := rdU sg S d) hS hR
  have a3' : L_X12_nearest_62 N N 100 (jI d) (jI z) (jI (-1)) (jI 1) (hp q G) = L_X12_nearest_62 N (f + 1) 100 (jI d) (jI z) (jI (ezR (rdT S R (rdO sg S d) (rdU sg S d)))) (jI 0) (hp q G') := a3
  generalize rdT S R (rdO sg S d) (rdU sg S d) = s at *
  have ne : ¬ s.1 = 2147483647 := by omega
  obtain ⟨b0, b1, b2, b3, b4⟩ := a2'.2.2 ne
  have ez : ezR s = s.1 := if_neg ne
  refine ⟨G', a1, ?_⟩
  rw [a3', ez, L_X12_nearest_62]
  unfold nzR
  have zz : z = 0 ∨ z = 1 ∨ z = 2 ∨ z = 3 ∨ z = 4 ∨ z = 5 := by omega
  rcases zz with rfl | rfl | rfl | rfl | rfl | rfl
  · simp (maxSteps := 2000000) (disch := first | assumption | omega) only [jI0, iAdd_j, iSub_j, iMul_j, iNeg_j, Option.bind_some, jlt_t, jlt_f, jlt, jle_t, jle_f, jle, jeq_t, jeq_f, jeq, ↓reduceIte]
  · rw [← b0]; simp (maxSteps := 2000000) (disch := first | assumption | omega) only [jI0, iAdd_j, iSub_j, iMul_j, iNeg_j, Option.bind_some, jlt_t, jlt_f, jlt, jle_t, jle_f, jle, jeq_t, jeq_f, jeq, ↓reduceIte, o100, l108]; rfl
  · rw [← b1]; simp (maxSteps := 2000000) (disch := first | assumption | omega) only [jI0, iAdd_j, iSub_j, iMul_j, iNeg_j, Option.bind_some, jlt_t, jlt_f, jlt, jle_t, jle_f, jle, jeq_t, jeq_f, jeq, ↓reduceIte, o100, l108]; rfl
  · rw [← b2]; simp (maxSteps := 2000000) (disch := first | assumption | omega) only [jI0, iAdd_j, iSub_j, iMul_j, iNeg_j, Option.bind_some, jlt_t, jlt_f, jlt, jle_t, jle_f, jle, jeq_t, jeq_f, jeq, ↓reduceIte, o100, l108]; rfl
  · rw [← b3]; simp (maxSteps := 2000000) (disch := first | assumption | omega) only [jI0, iAdd_j, iSub_j, iMul_j, iNeg_j, Option.bind_some, jlt_t, jlt_f, jlt, jle_t, jle_f, jle, jeq_t, jeq_f, jeq, ↓reduceIte, o100, l108]; rfl
  · rw [← b4]; simp (maxSteps := 2000000) (disch := first | assumption | omega) only [jI0, iAdd_j, iSub_j, iMul_j, iNeg_j, Option.bind_some, jlt_t, jlt_f, jlt, jle_t, jle_f, jle, jeq_t, jeq_f, jeq, ↓reduceIte, o100, l108]; rfl
end
