/-! find: the model's answer -/
def MfR (S R : Int) (sg : Int → Int → Int) (M : Int → Int) (s : Int × Int × Stk) : Prop := 0 ≤ s.1 ∧ (s.1 ≠ 0 → (M 0 = s.2.1 ∧ M 1 = xkA s.2.2 ∧ M 2 = xkB s.2.2 ∧ M 3 = xkF s.2.2 ∧ M 4 = xkL s.2.2) ∧ ∀ j : Int, 0 ≤ j → j < 4 → (j < s.2.1 → ∃ v, KQ S sg s.2.1 j R v ∧ M (5 + j) = max 0 v) ∧ (s.2.1 ≤ j → M (5 + j) = -1))
def KpF (G G' : Nat → Int → Int) : Prop := (∀ a, a ≠ 100 → a ≠ 107 → a ≠ 108 → G' a = G a) ∧ ∀ i : Int, (i < 17 ∨ 21 < i) → G' 100 i = G 100 i
theorem KpF.trans {G G1 G2 : Nat → Int → Int} (h : KpF G G1) (h2 : KpF G1 G2) : KpF G G2 := ⟨fun a a1 a2 a3 => by rw [h2.1 a a1 a2 a3, h.1 a a1 a2 a3], fun i hi => by rw [h2.2 i hi, h.2 i hi]⟩
section
variable {K1 K2 : (Int → Int) → (Int → Int) → Prop} {q : Nat × Nat × (Nat → Nat)} {G : Nat → Int → Int} {N : Nat}
theorem SgM.keep {S R : Int} {sg : Int → Int → Int} {G' : Nat → Int → Int} (h : SgM G S R sg) (e : G' 102 = G 102) : SgM G' S R sg := by
  unfold SgM at *
  rw [e]
  exact h
theorem KpF.of7 {G1 : Nat → Int → Int} (h : ∀ a, a ≠ 107 → G1 a = G a) : KpF G G1 := ⟨fun a _ h2 _ => h a h2, fun i _ => by rw [h 100 (by decide)]⟩
theorem KpF.of8 {G1 : Nat → Int → Int} (h : ∀ a, a ≠ 108 → G1 a = G a) : KpF G G1 := ⟨fun a _ _ h2 => h a h2, fun i _ => by rw [h 100 (by decide)]⟩
theorem KpF.ofM {G1 : Nat → Int → Int} (h : KpM G G1) : KpF G G1 := ⟨fun a h2 _ _ => h.1 a h2, h.2⟩
theorem mFd1 (hN : 10000 ≤ N) {S R k : Int} {sg : Int → Int → Int} {x : Stk} {s : Int × Int × Stk} (hS : 3 ≤ S ∧ S ≤ 32) (hR : 1 ≤ R ∧ R ≤ 8) (hk : 1 ≤ k ∧ k ≤ 4) (hx : okS S x) (hs : SgM G S R sg) (hw : NowM G S k x) (hm : MfR S R sg (G 108) s) (hb : s.1 ≤ 100000) : ∃ G' : Nat → Int → Int, (KpF G G' ∧ MfR S R sg (G' 108) (fdF S R k sg x s) ∧ (∀ y, nxS S x = some y → NowM G' S k y) ∧ (nxS S x = none → k < 4 → NowM G' S (k + 1) (1, 1, 0, 0))) ∧ ∀ (f : Nat) (y : Int32), L_X12_find_65 N (f + 1) 100 y (jI s.1) (jI 1) (hp q G) = L_X12_find_65 N f 100 y (jI (fdF S R k sg x s).1) (jI (if nxS S x = none then (if k < 4 then 1 else 0) else 1)) (hp q G') := by
  obtain ⟨G1, ⟨m1, m2⟩, m3⟩ := mMakes (q := q) hN hS hR hk hx hw hs
  have w1 : NowM G1 S k x := by unfold NowM at *; rw [m1 102 (by decide), m1 100 (by decide)]; exact hw
  have h0 := hm.1
  by_cases c : MKa S R k sg x
  · have c2 := cI_t c
    rw [c2] at m3
    have fe := fdF_t (s := s) c
    by_cases z : s.1 = 0
    · obtain ⟨G2, ⟨k1, k2, k3⟩, k4⟩ := mKeeps (q := q) hN hk hx hS.2 w1
      have w2 : NowM G2 S k x := by unfold NowM at *; rw [k1 102 (by decide), k1 100 (by decide)]; exact w1
      obtain ⟨G3, ⟨n1, n2, n3⟩, n4⟩ := mNext (N := N) (q := q) hS hk hx w2
      have e108 : G3 108 = G2 108 := n1.1 108 (by decide)
      refine ⟨G3, ⟨((KpF.of7 m1).trans (KpF.of8 k1)).trans (KpF.ofM n1), ?_, n2, n3⟩, fun f y => ?_⟩
      · rw [fe, if_pos z, e108]
        refine ⟨?_, fun _ => ⟨k2, fun j j0 j1 => ⟨fun jk => ?_, (k3 j j0 j1).2⟩⟩⟩
        · show 0 ≤ s.1 + 1
          omega
        · have kq := m2 c j j0 jk
          have kr := KG.range (P := inW S k j R) (sg := sg) (v := G1 107 j) kq
          exact ⟨G1 107 j, kq, (k3 j j0 j1).1 jk kr.1 kr.2⟩
      · rw [L_X12_find_65, fe, z]
        simp (maxSteps := 2000000) (disch := first | assumption | omega) only [jI0, iAdd_j, iSub_j, iMul_j, iNeg_j, Option.bind_some, jlt_t, jlt_f, jlt, jle_t, jle_f, jle, jeq_t, jeq_f, jeq, ↓reduceIte, o100, m3, k4, n4]
    · obtain ⟨G3, ⟨n1, n2, n3⟩, n4⟩ := mNext (N := N) (q := q) hS hk hx w1
      have e108 : G3 108 = G 108 := by rw [n1.1 108 (by decide), m1 108 (by decide)]
      refine ⟨G3, ⟨(KpF.of7 m1).trans (KpF.ofM n1), ?_, n2, n3⟩, fun f y => ?_⟩
      · rw [fe, if_neg z, e108]
        refine ⟨?_, fun _ => hm.2 z⟩
        show 0 ≤ s.1 + 1
        omega
      · rw [L_X12_find_65, fe]
        simp (maxSteps := 2000000) (disch := first | assumption | omega) only [jI0, iAdd_j, iSub_j, iMul_j, iNeg_j, Option.bind_some, jlt_t, jlt_f, jlt, jle_t, jle_f, jle, jeq_t, jeq_f, jeq, ↓reduceIte, o100, m3, n4]
  · have c2 := cI_f c
    rw [c2] at m3
    have fe := fdF_f (s := s) c
    obtain ⟨G3, ⟨n1, n2, n3⟩, n4⟩ := mNext (N := N) (q := q) hS hk hx w1
    have e108 : G3 108 = G 108 := by rw [n1.1 108 (by decide), m1 108 (by decide)]
    refine ⟨G3, ⟨(KpF.of7 m1).trans (KpF.ofM n1), ?_, n2, n3⟩, fun f y => ?_⟩
    · rw [fe, e108]
      exact hm
    · rw [L_X12_find_65, fe]
      simp (maxSteps := 2000000) (disch := first | assumption | omega) only [jI0, iAdd_j, iSub_j, iMul_j, iNeg_j, Option.bind_some, jlt_t, jlt_f, jlt, jle_t, jle_f, jle, jeq_t, jeq_f, jeq, ↓reduceIte, o100, m3, n4]
theorem mFdS (hN : 10000 ≤ N) {S R k : Int} {sg : Int → Int → Int} (hS : 3 ≤ S ∧ S ≤ 32) (hR : 1 ≤ R ∧ R ≤ 8) (hk : 1 ≤ k ∧ k ≤ 4) : ∀ (d : Nat) (x : Stk) (s : Int × Int × Stk) (G : Nat → Int → Int), rmS S x = d → okS S x → SgM G S R sg → NowM G S k x → MfR S R sg (G 108) s → s.1 ≤ 100000 - d → ∃ G' : Nat → Int → Int, (KpF G G' ∧ MfR S R sg (G' 108) (sgo S (fdF S R k sg) (d + 1) x s) ∧ (sgo S (fdF S R k sg) (d + 1) x s).1 ≤ s.1 + d + 1 ∧ (k < 4 → NowM G' S (k + 1) (1, 1, 0, 0))) ∧ ∀ (f : Nat) (y : Int32), L_X12_find_65 N (f + (d + 1)) 100 y (jI s.1) (jI 1) (hp q G) = L_X12_find_65 N f 100 y (jI (sgo S (fdF S R k sg) (d + 1) x s).1) (jI (if k < 4 then 1 else 0)) (hp q G') := by
  intro d
  induction d with
  | zero =>
    intro x s G hr hx hs hw hm hb
    obtain ⟨G', ⟨a1, a2, a3, a4⟩, a5⟩ := mFd1 (q := q) hN hS hR hk hx hs hw hm (by omega)
    have en : nxS S x = none := by
      cases e : nxS S x with
      | none => rfl
      | some y =>
        have r1 := rmS_n hS.1 hx e
        have r2 := rmS_0 hS.1 (nxS_ok hS.1 hx e)
        omega
    have es : sgo S (fdF S R k sg) (0 + 1) x s = fdF S R k sg x s := by simp only [sgo, en]
    have fl := (fdF_le (S := S) (R := R) (k := k) (sg := sg) (x := x) (s := s)).2
    rw [en, if_pos rfl] at a5
    rw [es]
    exact ⟨G', ⟨a1, a2, by omega, a4 en⟩, a5⟩
  | succ d ih =>
    intro x s G hr hx hs hw hm hb
    obtain ⟨G1, ⟨a1, a2, a3, a4⟩, a5⟩ := mFd1 (q := q) hN hS hR hk hx hs hw hm (by omega)
    cases en : nxS S x with
    | none =>
      have := rmS_e hx en
      omega
    | some z =>
      have r1 := rmS_n hS.1 hx en
      have es : sgo S (fdF S R k sg) (d + 1 + 1) x s = sgo S (fdF S R k sg) (d + 1) z (fdF S R k sg x s) := by
        rw [sgo, en]
      have fl := (fdF_le (S := S) (R := R) (k := k) (sg := sg) (x := x) (s := s)).2
      rw [en, if_neg (fun h => by cases h)] at a5
      obtain ⟨G2, ⟨b1, b2, b3, b4⟩, b5⟩ := ih z (fdF S R k sg x s) G1 (by omega) (nxS_ok hS.1 hx en) (hs.keep (a1.1 102 (by decide) (by decide) (by decide))) (a3 z en) a2 (by omega)
      rw [es]
      refine ⟨G2, ⟨a1.trans b1, b2, by omega, b4⟩, fun f y => ?_⟩
      rw [← b5 f y, ← a5 (f + (d + 1)) y]
      rfl
theorem mFdK (hN : 10000 ≤ N) {S R k : Int} {sg : Int → Int → Int} {s : Int × Int × Stk} (hS : 3 ≤ S ∧ S ≤ 32) (hR : 1 ≤ R ∧ R ≤ 8) (hk : 1 ≤ k ∧ k ≤ 4) (hs : SgM G S R sg) (hw : NowM G S k (1, 1, 0, 0)) (hm : MfR S R sg (G 108) s) (hb : s.1 ≤ 90000) : ∃ G' : Nat → Int → Int, (KpF G G' ∧ MfR S R sg (G' 108) (fdK S R sg k s) ∧ (fdK S R sg k s).1 ≤ s.1 + 1024 ∧ (k < 4 → NowM G' S (k + 1) (1, 1, 0, 0))) ∧ ∀ (f : Nat) (y : Int32), L_X12_find_65 N (f + ((rmS S (1, 1, 0, 0)).toNat + 1)) 100 y (jI s.1) (jI 1) (hp q G) = L_X12_find_65 N f 100 y (jI (fdK S R sg k s).1) (jI (if k < 4 then 1 else 0)) (hp q G') := by
  have x0 : okS S (1, 1, 0, 0) := by unfold okS; simp only [xkA, xkB, xkF, xkL]; omega
  have r0 := rmS_0 hS.1 x0
  have r1 := rmS_1 hS
  obtain ⟨G', ⟨a1, a2, a3, a4⟩, a5⟩ := mFdS (q := q) (sg := sg) hN hS hR hk (rmS S (1, 1, 0, 0)).toNat (1, 1, 0, 0) s G (by omega) x0 hs hw hm (by omega)
  exact ⟨G', ⟨a1, a2, by unfold fdK; omega, a4⟩, a5⟩
theorem mFdA (hN : 10000 ≤ N) {S R : Int} {sg : Int → Int → Int} (hS : 3 ≤ S ∧ S ≤ 32) (hR : 1 ≤ R ∧ R ≤ 8) (hs : SgM G S R sg) (hw : NowM G S 1 (1, 1, 0, 0)) : ∃ G' : Nat → Int → Int, (KpF G G' ∧ MfR S R sg (G' 108) (fdT S R sg) ∧ (fdT S R sg).1 ≤ 4096) ∧ ∃ f : Nat, ∀ y : Int32, L_X12_find_65 N N 100 y (jI 0) (jI 1) (hp q G) = L_X12_find_65 N (f + 1) 100 y (jI (fdT S R sg).1) (jI 0) (hp q G') := by
  have x0 : okS S (1, 1, 0, 0) := by unfold okS; simp only [xkA, xkB, xkF, xkL]; omega
  have r0 := rmS_0 hS.1 x0
  have r1 := rmS_1 hS
  obtain ⟨D, hD⟩ : ∃ D : Nat, D = (rmS S (1, 1, 0, 0)).toNat + 1 := ⟨_, rfl⟩
  obtain ⟨G1, ⟨a1, a2, a3, a4⟩, a5⟩ := mFdK (q := q) (s := (0, 0, (0, 0, 0, 0))) hN hS hR (k := 1) (by omega) hs hw ⟨Int.le_refl _, fun h => absurd rfl h⟩ (by show (0 : Int) ≤ 90000; omega)
  have q1 : fdK S R sg 1 (0, 0, (0, 0, 0, 0)) = fdK S R sg 1 (0, 0, (0, 0, 0, 0)) := rfl
  obtain ⟨G2, ⟨b1, b2, b3, b4⟩, b5⟩ := mFdK (q := q) hN hS hR (k := 2) (by omega) (hs.keep (a1.1 102 (by decide) (by decide) (by decide))) (a4 (by decide)) a2 (by dsimp only at a3; omega)
  obtain ⟨G3, ⟨c1, c2, c3, c4⟩, c5⟩ := mFdK (q := q) hN hS hR (k := 3) (by omega) (hs.keep (((a1.trans b1)).1 102 (by decide) (by decide) (by decide))) (b4 (by decide)) b2 (by dsimp only at a3; omega)
  obtain ⟨G4, ⟨d1, d2, d3, d4⟩, d5⟩ := mFdK (q := q) hN hS hR (k := 4) (by omega) (hs.keep (((a1.trans b1).trans c1).1 102 (by decide) (by decide) (by decide))) (c4 (by decide)) c2 (by dsimp only at a3; omega)
  refine ⟨G4, ⟨((a1.trans b1).trans c1).trans d1, d2, ?_⟩, N - 4 * D - 1, fun y => ?_⟩
  · dsimp only at a3
    unfold fdT
    omega
  · rw [← hD] at a5 b5 c5 d5
    have A := a5 (N - D) y
    have B := b5 (N - 2 * D) y
    have C := c5 (N - 3 * D) y
    have E := d5 (N - 4 * D) y
    rw [show N - D + D = N by omega] at A
    rw [show N - 2 * D + D = N - D by omega] at B
    rw [show N - 3 * D + D = N - 2 * D by omega] at C
    rw [show N - 4 * D + D = N - 3 * D by omega] at E
    rw [if_pos (by decide)] at A B C
    rw [if_neg (by decide)] at E
    rw [show N - 4 * D - 1 + 1 = N - 4 * D by omega]
    exact A.trans (B.trans (C.trans E))
end
