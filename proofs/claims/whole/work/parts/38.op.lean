/-! THE INVARIANT of a run: K1, K2 say what the kept answers of find, and of reads and nearest, are -/
def BW (q : Nat × Nat × (Nat → Nat)) (G : Nat → Int → Int) : Prop := ∃ L r1 r2 : Nat, G 82 14 = r1 ∧ G 82 15 = r2 ∧ r1 ≠ r2 ∧ r1 < 120 + q.1 ∧ r2 < 120 + q.1 ∧ shp q.2.2 r1 = .inl (1, L) ∧ shp q.2.2 r2 = .inl (1, L) ∧ L ≤ 77580 ∧ q.1 ≤ 2 * L ∧ q.2.1 ≤ 700000 + 4 * L + 155160 * (L / 77580) ∧ (r1 = 93 ∨ r1 = 94 ∨ 120 ≤ r1) ∧ (r2 = 93 ∨ r2 = 94 ∨ 120 ≤ r2)
def MV (G : Nat → Int → Int) : Prop := BV (G 102) ∧ G 100 0 = 0
def INV0 (K1 K2 : (Int → Int) → (Int → Int) → Prop) (q : Nat × Nat × (Nat → Nat)) (G : Nat → Int → Int) : Prop :=
  BB G ∧ G 100 0 = 0 ∧ WS (G 17) (G 18) (G 20) (G 102) ∧ PS (G 21) (G 22) (G 23) (G 102) ∧ HS (G 34) (G 102) ∧
  IM (G 46 0) (G 103 0) (G 47) (G 48) (G 49) (G 50) (G 51) (G 52) (G 54) (G 55) (G 56) (G 57) (G 60) (fun k => G 102 (665 + k)) ∧
  IM (G 62 0) (G 103 1) (G 63) (G 64) (G 65) (G 66) (G 67) (G 68) (G 70) (G 71) (G 72) (G 73) (G 76) (fun k => G 102 (1330 + k)) ∧
  (G 0 1 = G 100 6 ∧ TP (G 100 6) (G 1) (G 104)) ∧ (G 10 0 = G 100 14 ∧ G 10 1 = G 100 15) ∧
  (NR 0 (G 37) (G 38) (G 117) (G 118) (G 119) ∧ NR 1 (G 39) (G 40) (G 117) (G 118) (G 119) ∧ NR 2 (G 41) (G 42) (G 117) (G 118) (G 119) ∧ NR 3 (G 43) (G 44) (G 117) (G 118) (G 119)) ∧
  WV (G 12 5) (G 13) (G 102) ∧ ((G 25 7 = 0 ∨ G 25 7 = 1) ∧ (G 25 7 = 1 → K1 (G 102) (G 31))) ∧ ((G 25 8 = 0 ∨ G 25 8 = 1) ∧ (G 25 8 = 1 → K2 (G 102) (G 32))) ∧ BW q G
def INV (K1 K2 : (Int → Int) → (Int → Int) → Prop) (q : Nat × Nat × (Nat → Nat)) (G : Nat → Int → Int) : Prop := INV0 K1 K2 q G ∧ ∀ k, 0 ≤ k → k < 6 → G 98 k = G 101 k
/-- cells of which each number counts -/
def relv (a : Nat) : Bool := [1, 2, 3, 4, 5, 13, 17, 18, 20, 21, 22, 23, 31, 32, 34, 37, 38, 39, 40, 41, 42, 43, 44, 46, 47, 48, 49, 50, 51, 52, 54, 55, 56, 57, 60, 62, 63, 64, 65, 66, 67, 68, 70, 71, 72, 73, 76, 82, 102, 103, 104, 117, 118, 119].contains a
section
variable {K1 K2 : (Int → Int) → (Int → Int) → Prop} {q : Nat × Nat × (Nat → Nat)} {G G2 : Nat → Int → Int} {N : Nat}
theorem INV0.of (h : INV0 K1 K2 q G) (e : ∀ a, relv a = true → G2 a = G a) (p0 : G2 100 0 = 0) (p1 : G2 0 1 = G 0 1) (p2 : G2 100 6 = G 100 6) (p3 : G2 10 0 = G 10 0) (p4 : G2 10 1 = G 10 1) (p5 : G2 100 14 = G 100 14) (p6 : G2 100 15 = G 100 15) (p7 : G2 12 5 = G 12 5) (p8 : G2 25 7 = G 25 7) (p9 : G2 25 8 = G 25 8) : INV0 K1 K2 q G2 := by
  unfold INV0 BB BW at *
  rw [e 1 rfl, e 2 rfl, e 3 rfl, e 4 rfl, e 5 rfl, e 13 rfl, e 17 rfl, e 18 rfl, e 20 rfl, e 21 rfl, e 22 rfl, e 23 rfl, e 31 rfl, e 32 rfl, e 34 rfl, e 37 rfl, e 38 rfl, e 39 rfl, e 40 rfl, e 41 rfl, e 42 rfl, e 43 rfl, e 44 rfl, e 46 rfl, e 47 rfl, e 48 rfl, e 49 rfl, e 50 rfl, e 51 rfl, e 52 rfl, e 54 rfl, e 55 rfl, e 56 rfl, e 57 rfl, e 60 rfl, e 62 rfl, e 63 rfl, e 64 rfl, e 65 rfl, e 66 rfl, e 67 rfl, e 68 rfl, e 70 rfl, e 71 rfl, e 72 rfl, e 73 rfl, e 76 rfl, e 82 rfl, e 102 rfl, e 103 rfl, e 104 rfl, e 117 rfl, e 118 rfl, e 119 rfl, p1, p2, p3, p4, p5, p6, p7, p8, p9]
  exact ⟨h.1, p0, h.2.2⟩
/-- a call: both answer alike, and the invariant holds behind them -/
def OP (K1 K2 : (Int → Int) → (Int → Int) → Prop) (q : Nat × Nat × (Nat → Nat)) (G : Nat → Int → Int) (F1 F2 : mH → Option (Int32 × mH)) : Prop := ∃ r q' G1 G2, F1 (hp q G) = some (r, hp q' G1) ∧ F2 (hp q' G1) = some (r, hp q' G2) ∧ INV K1 K2 q' G2
theorem w100t (h : G 100 0 = 0) : pV (hp q G) 12 100 0 (.int (jI 0)) = some (hp q G) := by
  rw [(w100 q G 0).1]
  congr 2
  funext a j
  by_cases ha : a = 100
  · subst ha
    rw [up_eq]
    by_cases hj : j = 0
    · subst hj; rw [u1_eq, h]
    · rw [u1_ne hj]
  · rw [up_ne ha]
theorem OP.ans {F1 F2 : mH → Option (Int32 × mH)} (hI : INV K1 K2 q G) (r : Int32) (h1 : F1 (hp q G) = some (r, hp q G)) (h2 : F2 (hp q G) = some (r, hp q G)) : OP K1 K2 q G F1 F2 := ⟨r, q, G, G, h1, h2, hI⟩
theorem OP.rf {F1 F2 : mH → Option (Int32 × mH)} (hI : INV K1 K2 q G) (c : Int) (r : Int32) (h1 : F1 (hp q G) = some (r, hp q (up G 98 (rfz c) (G 98 (rfz c) + 1)))) (h2 : ∀ G1, MV G1 → G1 102 = G 102 → (∀ a, a ≠ 98 → G1 a = G a) → F2 (hp q G1) = some (r, hp q (up G1 101 (rfz c) (G1 101 (rfz c) + 1)))) : OP K1 K2 q G F1 F2 := by
  refine ⟨r, q, _, _, h1, h2 _ ⟨?_, ?_⟩ ?_ ?_, ?_, ?_⟩
  · exact hI.1.1.1
  · exact hI.1.2.1
  · rfl
  · intro a ha; exact up_ne ha
  · refine INV0.of hI.1 ?_ hI.1.2.1 rfl rfl rfl rfl rfl rfl rfl rfl rfl
    intro a ha
    rw [up_ne (by rintro rfl; cases ha), up_ne (by rintro rfl; cases ha)]
  · intro k k0 k1
    rw [up_ne (by decide), up_eq, up_eq, up_ne (by decide)]
    have e := hI.2 k k0 k1
    have e2 := hI.2 (rfz c) (rfz_r c).1 (rfz_r c).2
    by_cases hk : k = rfz c
    · subst hk; rw [u1_eq, u1_eq, e]
    · rw [u1_ne hk, u1_ne hk, e]
/-! calls -/
theorem op_lean (hI : INV K1 K2 q G) {b : Int} (h1 : -2147483648 ≤ b) (h2 : b < 2147483648) : OP K1 K2 q G (f_X11_lean N 0 (jI b)) (f_X12_lean N 100 (jI b)) := by
  have hB := hI.1.1
  have hV := hB.1
  have hT := hI.1.2.1
  have g := hV.1
  by_cases c : 0 ≤ b ∧ b < G 102 26
  · refine OP.ans hI (jI (G 102 (75 + b))) ?_ ?_
    · unfold f_X11_lean
      simp (maxSteps := 2000000) (disch := first | assumption | omega) only [jI0, iAdd_j, iSub_j, iMul_j, iNeg_j, Option.bind_some, jlt_t, jlt_f, jlt, jle_t, jle_f, jle, jeq_t, jeq_f, jeq, ↓reduceIte, o0, o2, hBand, oBand, bI_t]
    · unfold f_X12_lean
      simp (maxSteps := 2000000) (disch := first | assumption | omega) only [jI0, iAdd_j, iSub_j, iMul_j, iNeg_j, Option.bind_some, jlt_t, jlt_f, jlt, jle_t, jle_f, jle, jeq_t, jeq_f, jeq, ↓reduceIte, o100, w100t, mBand, l102, bI_t]
  · refine OP.rf hI (-2) (jI (-100)) ?_ ?_
    · unfold f_X11_lean
      simp (maxSteps := 2000000) (disch := first | assumption | omega) only [jI0, iAdd_j, iSub_j, iMul_j, iNeg_j, Option.bind_some, jlt_t, jlt_f, jlt, jle_t, jle_f, jle, jeq_t, jeq_f, jeq, ↓reduceIte, o0, o2, hBand, oBand, bI_f, X11_refuse]
    · intro G1 hM e _
      have hV1 := hM.1
      have hT1 := hM.2
      rw [← e] at c g
      unfold f_X12_lean
      simp (maxSteps := 2000000) (disch := first | assumption | omega) only [jI0, iAdd_j, iSub_j, iMul_j, iNeg_j, Option.bind_some, jlt_t, jlt_f, jlt, jle_t, jle_f, jle, jeq_t, jeq_f, jeq, ↓reduceIte, o100, w100t, mBand, l102, bI_f, X12_no]
end
