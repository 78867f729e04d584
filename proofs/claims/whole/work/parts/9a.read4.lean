/-! reads, nearest: the model runs over all strokes -/
def rdX (S R : Int) (ow uw : Int → Int → Bool) (k : Int) (x : Stk) (s : Rds) : Rds := if R % k = 0 then rdgF S R k ow uw x s else s
theorem rdK_X {S R k : Int} {ow uw : Int → Int → Bool} {s : Rds} : sgo S (rdX S R ow uw k) ((rmS S (1, 1, 0, 0)).toNat + 1) (1, 1, 0, 0) s = rdK S R ow uw k s := by
  unfold rdK
  by_cases c : R % k = 0
  · have e : rdX S R ow uw k = rdgF S R k ow uw := by
      funext x s
      unfold rdX
      rw [if_pos c]
    rw [if_pos c, e]
  · rw [if_neg c]
    exact sgo_id (fun x => by unfold rdX; rw [if_neg c]) _ _
section
variable {K1 K2 : (Int → Int) → (Int → Int) → Prop} {q : Nat × Nat × (Nat → Nat)} {G : Nat → Int → Int} {N : Nat}
def RunT {σ ρ : Type} (q : Nat × Nat × (Nat → Nat)) (S : Int) (L : Nat → σ → Int32 → mH → ρ) (F : Int → Stk → σ → σ) (I : Nat → (Nat → Int → Int) → σ → Prop) : Prop := ∀ (k : Int) (x : Stk) (s : σ) (G : Nat → Int → Int) (n : Nat), (1 ≤ k ∧ k ≤ 4) → okS S x → n < 4096 → NowM G S k x → I n G s → ∃ G' : Nat → Int → Int, (KpF G G' ∧ I (n + 1) G' (F k x s) ∧ (∀ y, nxS S x = some y → NowM G' S k y) ∧ (nxS S x = none → k < 4 → NowM G' S (k + 1) (1, 1, 0, 0))) ∧ ∀ f : Nat, L (f + 1) s (jI 1) (hp q G) = L f (F k x s) (jI (if nxS S x = none then (if k < 4 then 1 else 0) else 1)) (hp q G')
theorem mRunS {σ ρ : Type} {S k : Int} {L : Nat → σ → Int32 → mH → ρ} {F : Int → Stk → σ → σ} {I : Nat → (Nat → Int → Int) → σ → Prop} (hS : 3 ≤ S ∧ S ≤ 32) (hk : 1 ≤ k ∧ k ≤ 4) (T : RunT q S L F I) : ∀ (d : Nat) (x : Stk) (s : σ) (G : Nat → Int → Int) (n : Nat), rmS S x = d → okS S x → n + d < 4096 → NowM G S k x → I n G s → ∃ G' : Nat → Int → Int, (KpF G G' ∧ I (n + (d + 1)) G' (sgo S (F k) (d + 1) x s) ∧ (k < 4 → NowM G' S (k + 1) (1, 1, 0, 0))) ∧ ∀ f : Nat, L (f + (d + 1)) s (jI 1) (hp q G) = L f (sgo S (F k) (d + 1) x s) (jI (if k < 4 then 1 else 0)) (hp q G') := by
  intro d
  induction d with
  | zero =>
    intro x s G n hr hx hb hw hi
    obtain ⟨G', ⟨a1, a2, a3, a4⟩, a5⟩ := T k x s G n hk hx (by omega) hw hi
    have en : nxS S x = none := by
      cases e : nxS S x with
      | none => rfl
      | some y =>
        have r1 := rmS_n hS.1 hx e
        have r2 := rmS_0 hS.1 (nxS_ok hS.1 hx e)
        omega
    have es : sgo S (F k) (0 + 1) x s = F k x s := by simp only [sgo, en]
    rw [en, if_pos rfl] at a5
    rw [es]
    exact ⟨G', ⟨a1, a2, a4 en⟩, a5⟩
  | succ d ih =>
    intro x s G n hr hx hb hw hi
    obtain ⟨G1, ⟨a1, a2, a3, a4⟩, a5⟩ := T k x s G n hk hx (by omega) hw hi
    cases en : nxS S x with
    | none =>
      have := rmS_e hx en
      omega
    | some z =>
      have r1 := rmS_n hS.1 hx en
      have es : sgo S (F k) (d + 1 + 1) x s = sgo S (F k) (d + 1) z (F k x s) := by
        rw [sgo, en]
      rw [en, if_neg (fun h => by cases h)] at a5
      obtain ⟨G2, ⟨b1, b2, b4⟩, b5⟩ := ih z (F k x s) G1 (n + 1) (by omega) (nxS_ok hS.1 hx en) (by omega) (a3 z en) a2
      rw [es]
      refine ⟨G2, ⟨a1.trans b1, by rw [show n + (d + 1 + 1) = n + 1 + (d + 1) by omega]; exact b2, b4⟩, fun f => ?_⟩
      rw [← b5 f, ← a5 (f + (d + 1))]
      rfl
theorem mRun {σ ρ : Type} {S : Int} {L : Nat → σ → Int32 → mH → ρ} {F : Int → Stk → σ → σ} {I : Nat → (Nat → Int → Int) → σ → Prop} (hN : 10000 ≤ N) (hS : 3 ≤ S ∧ S ≤ 32) (T : RunT q S L F I) {s : σ} (hw : NowM G S 1 (1, 1, 0, 0)) (hi : I 0 G s) : ∃ (G' : Nat → Int → Int) (n f : Nat), (KpF G G' ∧ I n G' (sgo S (F 4) ((rmS S (1, 1, 0, 0)).toNat + 1) (1, 1, 0, 0) (sgo S (F 3) ((rmS S (1, 1, 0, 0)).toNat + 1) (1, 1, 0, 0) (sgo S (F 2) ((rmS S (1, 1, 0, 0)).toNat + 1) (1, 1, 0, 0) (sgo S (F 1) ((rmS S (1, 1, 0, 0)).toNat + 1) (1, 1, 0, 0) s))))) ∧ L N s (jI 1) (hp q G) = L (f + 1) (sgo S (F 4) ((rmS S (1, 1, 0, 0)).toNat + 1) (1, 1, 0, 0) (sgo S (F 3) ((rmS S (1, 1, 0, 0)).toNat + 1) (1, 1, 0, 0) (sgo S (F 2) ((rmS S (1, 1, 0, 0)).toNat + 1) (1, 1, 0, 0) (sgo S (F 1) ((rmS S (1, 1, 0, 0)).toNat + 1) (1, 1, 0, 0) s)))) (jI 0) (hp q G') := by
  have x0 : okS S (1, 1, 0, 0) := by unfold okS; simp only [xkA, xkB, xkF, xkL]; omega
  have r0 := rmS_0 hS.1 x0
  have r1 := rmS_1 hS
  have rD : rmS S (1, 1, 0, 0) = ((rmS S (1, 1, 0, 0)).toNat : Int) := by omega
  generalize hD : (rmS S (1, 1, 0, 0)).toNat = D at *
  obtain ⟨G1, ⟨a1, a2, a4⟩, a5⟩ := mRunS (q := q) hS (k := 1) (by omega) T D (1, 1, 0, 0) s G 0 rD x0 (by omega) hw hi
  obtain ⟨G2, ⟨b1, b2, b4⟩, b5⟩ := mRunS (q := q) hS (k := 2) (by omega) T D (1, 1, 0, 0) _ G1 _ rD x0 (by omega) (a4 (by decide)) a2
  obtain ⟨G3, ⟨c1, c2, c4⟩, c5⟩ := mRunS (q := q) hS (k := 3) (by omega) T D (1, 1, 0, 0) _ G2 _ rD x0 (by omega) (b4 (by decide)) b2
  obtain ⟨G4, ⟨d1, d2, d4⟩, d5⟩ := mRunS (q := q) hS (k := 4) (by omega) T D (1, 1, 0, 0) _ G3 _ rD x0 (by omega) (c4 (by decide)) c2
  refine ⟨G4, _, N - 4 * (D + 1) - 1, ⟨((a1.trans b1).trans c1).trans d1, d2⟩, ?_⟩
  have A := a5 (N - (D + 1))
  have B := b5 (N - 2 * (D + 1))
  have C := c5 (N - 3 * (D + 1))
  have E := d5 (N - 4 * (D + 1))
  rw [show N - (D + 1) + (D + 1) = N by omega] at A
  rw [show N - 2 * (D + 1) + (D + 1) = N - (D + 1) by omega] at B
  rw [show N - 3 * (D + 1) + (D + 1) = N - 2 * (D + 1) by omega] at C
  rw [show N - 4 * (D + 1) + (D + 1) = N - 3 * (D + 1) by omega] at E
  rw [if_pos (by decide)] at A B C
  rw [if_neg (by decide)] at E
  rw [show N - 4 * (D + 1) - 1 + 1 = N - 4 * (D + 1) by omega]
  exact A.trans (B.trans (C.trans E))
theorem SgP.keep {S R : Int} {sg : Int → Int → Int} {G' : Nat → Int → Int} (h : SgP G S R sg) (e : G' 102 = G 102) : SgP G' S R sg := by
  unfold SgP at *
  rw [e]
  exact h
def czR (z : Int) (s : Rds) : Int := if z = 0 then s.2.2.1 else s.2.2.2
theorem mRdT (hN : 10000 ≤ N) {S R d z : Int} {sg : Int → Int → Int} (hdd : d = 0 ∨ d = 1) (hz : z = 0 ∨ z = 1) (hS : 3 ≤ S ∧ S ≤ 32) (hR : 1 ≤ R ∧ R ≤ 8) : RunT q S (fun f (s : Rds) v h => L_X12_reads_60 N f 100 (jI d) (jI z) (jI (czR z s)) v h) (rdX S R (rdO sg S d) (rdU sg S d)) (fun n G s => SgP G S R sg ∧ 0 ≤ s.2.2.2 ∧ s.2.2.2 ≤ s.2.2.1 ∧ s.2.2.1 ≤ n) := by
  intro k x s G n hk hx hn hw hi
  obtain ⟨i1, i2, i3, i4⟩ := hi
  obtain ⟨G', ⟨n1, n2, n3⟩, n4⟩ := mNext (N := N) (q := q) hS hk hx hw
  have ms := mMist (q := q) hN hdd hS hR hk hx hw i1
  have mr := msA_r S k hS x (rdO sg S d) (rdU sg S d) R.toNat
  have kp := i1.keep (n1.1 102 (by decide))
  have xl := hx.2.2.2
  have s1 := i1.2.1
  have m0 := Int.emod_nonneg R (show k ≠ 0 by omega)
  have m1 := Int.emod_lt_of_pos R (show 0 < k by omega)
  obtain ⟨w0, w1, w2, w3, w4, w5⟩ := hw
  refine ⟨G', ⟨KpF.ofM n1, ⟨kp, ?_⟩, n2, n3⟩, fun f => ?_⟩
  · unfold rdX
    by_cases c : R % k = 0
    · rw [if_pos c]
      unfold rdgF
      dsimp only
      split <;> omega
    · rw [if_neg c]
      omega
  · show L_X12_reads_60 N (f + 1) 100 (jI d) (jI z) (jI (czR z s)) (jI 1) (hp q G) = L_X12_reads_60 N f 100 (jI d) (jI z) (jI (czR z (rdX S R (rdO sg S d) (rdU sg S d) k x s))) _ (hp q G')
    rw [L_X12_reads_60]
    unfold rdX
    by_cases c : R % k = 0
    · rw [if_pos c]
      unfold rdgF czR J_X12_reads_93
      by_cases ca : msA S k x (rdO sg S d) (rdU sg S d) R.toNat = 0
      · rw [ca] at ms
        rcases hz with rfl | rfl
        · have e1 : ((0 : Int) = 0) = True := eq_true rfl
          simp (maxSteps := 2000000) (disch := first | assumption | omega) only [jI0, iAdd_j, iSub_j, iMul_j, iNeg_j, Option.bind_some, jlt_t, jlt_f, jlt, jle_t, jle_f, jle, jeq_t, jeq_f, jeq, ↓reduceIte, o100, l102, s1, w1, iRem_p, c, ms, ca, n4, e1]
        · have e1 : ((1 : Int) = 0) = False := eq_false (by decide)
          by_cases cl : xkL x = 1
          · simp (maxSteps := 2000000) (disch := first | assumption | omega) only [jI0, iAdd_j, iSub_j, iMul_j, iNeg_j, Option.bind_some, jlt_t, jlt_f, jlt, jle_t, jle_f, jle, jeq_t, jeq_f, jeq, ↓reduceIte, o100, l102, s1, w1, w5, cl, iRem_p, c, ms, ca, n4, e1]
          · have cl0 : xkL x = 0 := by omega
            simp (maxSteps := 2000000) (disch := first | assumption | omega) only [jI0, iAdd_j, iSub_j, iMul_j, iNeg_j, Option.bind_some, jlt_t, jlt_f, jlt, jle_t, jle_f, jle, jeq_t, jeq_f, jeq, ↓reduceIte, o100, l102, s1, w1, w5, cl0, iRem_p, c, ms, ca, n4, e1, Int.add_zero]
      · have ca' : (msA S k x (rdO sg S d) (rdU sg S d) R.toNat = 0) = False := eq_false ca
        rcases hz with rfl | rfl
        · have e1 : ((0 : Int) = 0) = True := eq_true rfl
          simp (maxSteps := 2000000) (disch := first | assumption | omega) only [jI0, iAdd_j, iSub_j, iMul_j, iNeg_j, Option.bind_some, jlt_t, jlt_f, jlt, jle_t, jle_f, jle, jeq_t, jeq_f, jeq, ↓reduceIte, o100, l102, s1, w1, iRem_p, c, ms, ca', n4, e1]
        · have e1 : ((1 : Int) = 0) = False := eq_false (by decide)
          by_cases cl : xkL x = 1
          · simp (maxSteps := 2000000) (disch := first | assumption | omega) only [jI0, iAdd_j, iSub_j, iMul_j, iNeg_j, Option.bind_some, jlt_t, jlt_f, jlt, jle_t, jle_f, jle, jeq_t, jeq_f, jeq, ↓reduceIte, o100, l102, s1, w1, w5, cl, iRem_p, c, ms, ca', n4, e1]
          · have cl0 : xkL x = 0 := by omega
            simp (maxSteps := 2000000) (disch := first | assumption | omega) only [jI0, iAdd_j, iSub_j, iMul_j, iNeg_j, Option.bind_some, jlt_t, jlt_f, jlt, jle_t, jle_f, jle, jeq_t, jeq_f, jeq, ↓reduceIte, o100, l102, s1, w1, w5, cl0, iRem_p, c, ms, ca', n4, e1]
    · rw [if_neg c]
      simp (maxSteps := 2000000) (disch := first | assumption | omega) only [jI0, iAdd_j, iSub_j, iMul_j, iNeg_j, Option.bind_some, jlt_t, jlt_f, jlt, jle_t, jle_f, jle, jeq_t, jeq_f, jeq, ↓reduceIte, o100, l102, s1, w1, iRem_p, c, n4]
end
