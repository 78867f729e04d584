/-! numbers of a row: all within, one of them; call: reach -/
theorem jLI (v : Int) : (jL v).toInt32 = jI v := Int64.toInt32_ofInt
theorem shl1 {n : Nat} (hn : n < 32) : iShl (jI 1) (jI n) = jI ((2 ^ n : Nat) : Int) := by
  apply ib_ext
  intro k hk
  rw [ib_shl _ (by omega) (by omega), ib_1, ib_n, Nat.testBit_two_pow, Int.toNat_natCast]
  by_cases d : k = n
  · subst d; simp [hk]
  · by_cases d2 : k < n
    · simp [d2, hk, show ¬ n = k by omega]
    · simp [hk, show ¬ n = k by omega, show ¬ k - n = 0 by omega]
theorem usrAt {s : Nat} {k : Int} (h0 : 0 ≤ k) (h1 : k < 32) : iAnd (iUsr (jI s) (jI k)) (jI 1) = bI (s.testBit k.toNat = true) := by
  rw [bitAt _ h0 h1, ib_n]
  simp only [show k.toNat < 32 by omega, decide_true, Bool.true_and]
theorem shrAt {s : Nat} {k : Int} (h0 : 0 ≤ k) (h1 : k < 32) : iAnd (iShr (jI s) (jI k)) (jI 1) = bI (s.testBit k.toNat = true) := by
  obtain ⟨n, rfl⟩ := Int.eq_ofNat_of_zero_le h0
  rw [bit1, ib_shr (jI s) (s := n) (by omega) (k := 0) (by omega), ib_n]
  simp only [Nat.add_zero, Int.toNat_natCast, show n < 32 by omega, decide_true, Bool.true_and]
section
variable {K1 K2 : (Int → Int) → (Int → Int) → Prop} {q : Nat × Nat × (Nat → Nat)} {G : Nat → Int → Int} {N : Nat}
def AW (G : Nat → Int → Int) (r : Nat) (lo hi : Int) : Prop := ∀ k, 0 ≤ k → k < G (37 + 2 * r) 0 → lo ≤ G (38 + 2 * r) k ∧ G (38 + 2 * r) k ≤ hi
theorem RP.sc {G1 : Nat → Int → Int} {r : Nat} (hr : r < 4) (p : RP G r) (s : SC G G1) : RP G1 r := by
  have e : ∀ a, (relv a && !(a == 13)) = true → G1 a = G a := fun a h => s.1 a (by simp at h; exact h.1) (by simp at h; exact h.2)
  unfold RP at *
  rcases r4 hr with rfl | rfl | rfl | rfl
  · rw [e 37 rfl, e 38 rfl, e 117 rfl, e 118 rfl, e 119 rfl]; exact p
  · rw [e 39 rfl, e 40 rfl, e 117 rfl, e 118 rfl, e 119 rfl]; exact p
  · rw [e 41 rfl, e 42 rfl, e 117 rfl, e 118 rfl, e 119 rfl]; exact p
  · rw [e 43 rfl, e 44 rfl, e 117 rfl, e 118 rfl, e 119 rfl]; exact p
theorem AW.sc {G1 : Nat → Int → Int} {r : Nat} (hr : r < 4) {lo hi : Int} (s : SC G G1) : AW G1 r lo hi = AW G r lo hi := by
  have e : ∀ a, (relv a && !(a == 13)) = true → G1 a = G a := fun a h => s.1 a (by simp at h; exact h.1) (by simp at h; exact h.2)
  unfold AW
  rcases r4 hr with rfl | rfl | rfl | rfl
  · rw [e 37 rfl, e 38 rfl]
  · rw [e 39 rfl, e 40 rfl]
  · rw [e 41 rfl, e 42 rfl]
  · rw [e 43 rfl, e 44 rfl]
theorem RP.eo {G1 : Nat → Int → Int} {r : Nat} (hr : r < 4) (p : RP G r) (e : ∀ a, a ≠ 98 → G1 a = G a) : RP G1 r := by
  unfold RP at *
  rw [e _ (by omega), e _ (by omega), e _ (by omega), e _ (by omega), e _ (by omega)]
  exact p
theorem AW.eo {G1 : Nat → Int → Int} {r : Nat} (hr : r < 4) {lo hi : Int} (e : ∀ a, a ≠ 98 → G1 a = G a) : AW G1 r lo hi = AW G r lo hi := by
  unfold AW
  rw [e _ (by omega), e _ (by omega)]
theorem oWithin (hN : 10000 ≤ N) {r : Nat} (hr : r < 4) (p : RP G r) {lo hi : Int} (h1 : -2147483648 ≤ lo ∧ lo < 2147483648) (h2 : -2147483648 ≤ hi ∧ hi < 2147483648) : f_X5_allWithin N (37 + 2 * r) (jL lo) (jL hi) (hp q G) = some (jI (cI (AW G r lo hi)), hp q G) := by
  obtain ⟨p0, p1, p2, p3, p4, p5, p6⟩ := p
  have L : ∀ (d n : Nat) (k : Int), 0 ≤ k → k + d = G (37 + 2 * r) 0 → d < n → (∀ i, 0 ≤ i → i < k → lo ≤ G (38 + 2 * r) i ∧ G (38 + 2 * r) i ≤ hi) → L_X5_allWithin_3 N n (37 + 2 * r) (jL lo) (jL hi) (jI k) (hp q G) = some (jI (cI (AW G r lo hi)), hp q G) := by
    intro d
    induction d with
    | zero =>
      intro n k k0 k1 hn hw
      obtain ⟨n, rfl⟩ : ∃ m, n = m + 1 := ⟨n - 1, by omega⟩
      have a : AW G r lo hi := fun i i0 i1 => hw i i0 (by omega)
      rw [L_X5_allWithin_3, cI_t a]
      simp (maxSteps := 2000000) (disch := first | assumption | omega) only [jI0, iAdd_j, iSub_j, iMul_j, iNeg_j, Option.bind_some, jlt_t, jlt_f, jlt, jle_t, jle_f, jle, jeq_t, jeq_f, jeq, ↓reduceIte, ro]
    | succ d ih =>
      intro n k k0 k1 hn hw
      obtain ⟨n, rfl⟩ : ∃ m, n = m + 1 := ⟨n - 1, by omega⟩
      have v := p6 k k0 (by omega)
      have j1 := jL_lt (a := G (38 + 2 * r) k) (b := lo) (by omega) (by omega) (by omega) (by omega)
      have j2 := jL_lt (a := hi) (b := G (38 + 2 * r) k) (by omega) (by omega) (by omega) (by omega)
      rw [L_X5_allWithin_3]
      by_cases c1 : G (38 + 2 * r) k < lo
      · have a : ¬ AW G r lo hi := fun x => by have := x k k0 (by omega); omega
        rw [cI_f a]
        simp (maxSteps := 2000000) (disch := first | assumption | omega) only [jI0, iAdd_j, iSub_j, iMul_j, iNeg_j, Option.bind_some, jlt_t, jlt_f, jlt, jle_t, jle_f, jle, jeq_t, jeq_f, jeq, ↓reduceIte, ro, rl, j1, j2, c1]
      · by_cases c2 : hi < G (38 + 2 * r) k
        · have a : ¬ AW G r lo hi := fun x => by have := x k k0 (by omega); omega
          rw [cI_f a]
          simp (maxSteps := 2000000) (disch := first | assumption | omega) only [jI0, iAdd_j, iSub_j, iMul_j, iNeg_j, Option.bind_some, jlt_t, jlt_f, jlt, jle_t, jle_f, jle, jeq_t, jeq_f, jeq, ↓reduceIte, ro, rl, j1, j2, c1, c2]
        · have := ih n (k + 1) (by omega) (by omega) (by omega) (fun i i0 i1 => by
            by_cases d : i = k
            · subst d; omega
            · exact hw i i0 (by omega))
          simp (maxSteps := 2000000) (disch := first | assumption | omega) only [jI0, iAdd_j, iSub_j, iMul_j, iNeg_j, Option.bind_some, jlt_t, jlt_f, jlt, jle_t, jle_f, jle, jeq_t, jeq_f, jeq, ↓reduceIte, ro, rl, j1, j2, c1, c2, this]
  exact L (G (37 + 2 * r) 0).toNat N 0 (by omega) (by omega) (by omega) (fun i i0 i1 => by omega)
theorem mWithin (hN : 10000 ≤ N) {r : Nat} (hr : r < 4) (p : RP G r) {lo hi : Int} (h1 : -2147483648 ≤ lo ∧ lo < 2147483648) (h2 : -2147483648 ≤ hi ∧ hi < 2147483648) : f_X12_areNumbers N 100 (jI r) (jI lo) (jI hi) (hp q G) = some (jI (cI (AW G r lo hi)), hp q G) := by
  obtain ⟨p0, p1, p2, p3, p4, p5, p6⟩ := p
  have L : ∀ (d n : Nat) (k : Int), 0 ≤ k → k + d = G (37 + 2 * r) 0 → d < n → (∀ i, 0 ≤ i → i < k → lo ≤ G (38 + 2 * r) i ∧ G (38 + 2 * r) i ≤ hi) → L_X12_areNumbers_3 N n 100 (jI r) (jI lo) (jI hi) (jI k) (hp q G) = some (jI (cI (AW G r lo hi)), hp q G) := by
    intro d
    induction d with
    | zero =>
      intro n k k0 k1 hn hw
      obtain ⟨n, rfl⟩ : ∃ m, n = m + 1 := ⟨n - 1, by omega⟩
      have a : AW G r lo hi := fun i i0 i1 => hw i i0 (by omega)
      rw [L_X12_areNumbers_3, cI_t a]
      simp (maxSteps := 2000000) (disch := first | assumption | omega) only [jI0, iAdd_j, iSub_j, iMul_j, iNeg_j, Option.bind_some, jlt_t, jlt_f, jlt, jle_t, jle_f, jle, jeq_t, jeq_f, jeq, ↓reduceIte, o100, l118]
    | succ d ih =>
      intro n k k0 k1 hn hw
      obtain ⟨n, rfl⟩ : ∃ m, n = m + 1 := ⟨n - 1, by omega⟩
      have v := p6 k k0 (by omega)
      have e := v.1
      rw [L_X12_areNumbers_3]
      by_cases c1 : lo ≤ G (38 + 2 * r) k ∧ G (38 + 2 * r) k ≤ hi
      · have := ih n (k + 1) (by omega) (by omega) (by omega) (fun i i0 i1 => by
          by_cases d : i = k
          · subst d; omega
          · exact hw i i0 (by omega))
        simp (maxSteps := 2000000) (disch := first | assumption | omega) only [jI0, iAdd_j, iSub_j, iMul_j, iNeg_j, Option.bind_some, jlt_t, jlt_f, jlt, jle_t, jle_f, jle, jeq_t, jeq_f, jeq, ↓reduceIte, o100, l118, l119, jlL, X12_within, bI_t, this]
      · have a : ¬ AW G r lo hi := fun x => c1 (x k k0 (by omega))
        rw [cI_f a]
        simp (maxSteps := 2000000) (disch := first | assumption | omega) only [jI0, iAdd_j, iSub_j, iMul_j, iNeg_j, Option.bind_some, jlt_t, jlt_f, jlt, jle_t, jle_f, jle, jeq_t, jeq_f, jeq, ↓reduceIte, o100, l118, l119, jlL, X12_within, bI_f]
  exact L (G (37 + 2 * r) 0).toNat N 0 (by omega) (by omega) (by omega) (fun i i0 i1 => by omega)
theorem oInt {r : Nat} (hr : r < 4) (p : RP G r) {k : Int} (h0 : 0 ≤ k) (h1 : k < G (37 + 2 * r) 0) : f_X5_intAt N (37 + 2 * r) (jI k) (hp q G) = some (jI (G (38 + 2 * r) k), hp q G) := by
  obtain ⟨p0, p1, p2, p3, p4, p5, p6⟩ := p
  unfold f_X5_intAt
  simp (maxSteps := 2000000) (disch := first | assumption | omega) only [jI0, iAdd_j, iSub_j, iMul_j, iNeg_j, Option.bind_some, jlt_t, jlt_f, jlt, jle_t, jle_f, jle, jeq_t, jeq_f, jeq, ↓reduceIte, ro, rl, jLI]
/-! reach -/
def rtN (n s : Nat) : Int := sm (fun k => if s.testBit k.toNat = true then 1 else 0) n
def rtS (v : Int → Int) (n s : Nat) : Int := sm (fun k => if s.testBit k.toNat = true then v k else 0) n
def rtO (v : Int → Int) (n : Nat) (ov t : Int) (s : Nat) : Int := rtS v n s - (rtN n s - 1) * ov - t
def rtB (v : Int → Int) (n : Nat) (ov t : Int) : Nat → Nat
  | 0 => 0
  | s + 1 => if 0 ≤ rtO v n ov t (s + 1) ∧ (rtB v n ov t s = 0 ∨ rtN n (s + 1) < rtN n (rtB v n ov t s) ∨ (rtN n (s + 1) = rtN n (rtB v n ov t s) ∧ rtO v n ov t (s + 1) < rtO v n ov t (rtB v n ov t s))) then s + 1 else rtB v n ov t s
theorem rtB_le (v : Int → Int) (n : Nat) (ov t : Int) : ∀ s, rtB v n ov t s ≤ s
  | 0 => Nat.le_refl _
  | s + 1 => by
    have := rtB_le v n ov t s
    unfold rtB
    split <;> omega
theorem rt_r {v : Int → Int} {n : Nat} {ov t : Int} (hn : n ≤ 9) (hv : ∀ k : Nat, k < n → 1 ≤ v k ∧ v k ≤ 999) (ho : 0 ≤ ov ∧ ov ≤ 20) (ht : 1 ≤ t ∧ t ≤ 9999) (s : Nat) : (0 ≤ rtN n s ∧ rtN n s ≤ 9) ∧ (0 ≤ rtS v n s ∧ rtS v n s ≤ 8991) ∧ (-20 ≤ (rtN n s - 1) * ov ∧ (rtN n s - 1) * ov ≤ 180) ∧ -20000 ≤ rtO v n ov t s ∧ rtO v n ov t s ≤ 20000 := by
  have a : 0 ≤ rtN n s ∧ rtN n s ≤ 1 * n := sm_le (fun k hk => by split <;> omega)
  have b : 0 ≤ rtS v n s ∧ rtS v n s ≤ 999 * n := sm_le (fun k hk => by have := hv k hk; split <;> omega)
  have m := mulB (a := rtN n s) (b := ov) (c := 9) (d := 20) (by omega) (by omega) ho.1 ho.2
  have e : (rtN n s - 1) * ov = rtN n s * ov - ov := by rw [Int.sub_mul, Int.one_mul]
  unfold rtO
  rw [e]
  omega
theorem pcB {n s : Nat} (hn : n ≤ 32) (h : s < 2 ^ n) : ((pcn (jI s) 32 : Nat) : Int) = rtN n s := by
  have z : ((pcn (jI s) 32 : Nat) : Int) = sm (fun k => if s.testBit k.toNat = true then 1 else 0) 32 := pcn_sm (f := fun k => s.testBit k.toNat) (fun k hk => by rw [ib_n, Int.toNat_natCast]; simp [hk])
  have e : sm (fun k => if s.testBit k.toNat = true then 1 else 0) (n + (32 - n)) = sm (fun k => if s.testBit k.toNat = true then 1 else 0) n := sm_tail (fun k hk => by
    rw [Int.toNat_natCast, Nat.testBit_lt_two_pow (Nat.lt_of_lt_of_le h (Nat.pow_le_pow_right (by omega) hk))]
    rfl)
  rw [show n + (32 - n) = 32 by omega] at e
  rw [z, e]
  rfl
theorem oCov (hN : 10000 ≤ N) (hB : BB G) {r : Nat} (hr : r < 4) (p : RP G r) {n s : Nat} (hn : G (37 + 2 * r) 0 = n) (n9 : n ≤ 9) (hs : s < 2 ^ n) : f_X11_coveredBy N 0 (37 + 2 * r) (jI s) (hp q G) = some (jI (rtS (G (38 + 2 * r)) n s - (rtN n s - 1) * G 102 140), hp q G) := by
  have o4 := hB.2.1.2.2.2.2.1
  unfold f_X11_coveredBy
  refine (loopE (N := N) (fun m (k : Nat) => L_X11_coveredBy_5 N m 0 (37 + 2 * r) (jI s) (jI (rtS (G (38 + 2 * r)) k s)) (jI k) (hp q G)) (fun k => k) n (r := some (jI (rtS (G (38 + 2 * r)) n s - (rtN n s - 1) * G 102 140), hp q G)) (by omega) ?_ ?_) |> Eq.trans ?_
  · rfl
  · intro m k hk
    show L_X11_coveredBy_5 N (m + 1) 0 (37 + 2 * r) (jI s) (jI (rtS (G (38 + 2 * r)) k s)) (jI k) (hp q G) = L_X11_coveredBy_5 N m 0 (37 + 2 * r) (jI s) (jI (rtS (G (38 + 2 * r)) (k + 1) s)) (jI ((k + 1 : Nat) : Int)) (hp q G)
    have e : rtS (G (38 + 2 * r)) (k + 1) s = rtS (G (38 + 2 * r)) k s + if s.testBit ((k : Int)).toNat = true then G (38 + 2 * r) k else 0 := rfl
    have g := ro (q := q) (G := G) hr
    have i := oInt (q := q) (N := N) hr p (k := (k : Int)) (by omega) (by omega)
    have u := usrAt (s := s) (k := (k : Int)) (by omega) (by omega)
    rw [L_X11_coveredBy_5, e, g.2.1, hn]
    by_cases c : s.testBit ((k : Int)).toNat = true
    · rw [if_pos c]
      rw [bI_t c] at u
      simp (maxSteps := 2000000) (disch := first | assumption | omega) only [jI0, iAdd_j, iSub_j, iMul_j, iNeg_j, Option.bind_some, jlt_t, jlt_f, jlt, jle_t, jle_f, jle, jeq_t, jeq_f, jeq, ↓reduceIte, o0, o2, o12, hBand, hStake, hKind, hCross, hWeaver, oBand, oKindOf, oKind, oCr, oRing, oWv, oPer, oRows, oAhead, oWhen, oAll, oStep, oRods, oRodAt, oStakeAt, oOff, bI_t, bI_f, X11_refuse, u, g, i, Int.natCast_succ]
    · rw [if_neg c]
      rw [bI_f c] at u
      simp (maxSteps := 2000000) (disch := first | assumption | omega) only [jI0, iAdd_j, iSub_j, iMul_j, iNeg_j, Option.bind_some, jlt_t, jlt_f, jlt, jle_t, jle_f, jle, jeq_t, jeq_f, jeq, ↓reduceIte, o0, o2, o12, hBand, hStake, hKind, hCross, hWeaver, oBand, oKindOf, oKind, oCr, oRing, oWv, oPer, oRows, oAhead, oWhen, oAll, oStep, oRods, oRodAt, oStakeAt, oOff, bI_t, bI_f, X11_refuse, u, g, i, Int.natCast_succ, Int.add_zero]
  · intro m
    show L_X11_coveredBy_5 N (m + 1) 0 (37 + 2 * r) (jI s) (jI (rtS (G (38 + 2 * r)) n s)) (jI n) (hp q G) = _
    have g := ro (q := q) (G := G) hr
    have pp := pcB (n := n) (s := s) (by omega) hs
    rw [L_X11_coveredBy_5, g.2.1, hn]
    simp (maxSteps := 2000000) (disch := first | assumption | omega) only [jI0, iAdd_j, iSub_j, iMul_j, iNeg_j, Option.bind_some, jlt_t, jlt_f, jlt, jle_t, jle_f, jle, jeq_t, jeq_f, jeq, ↓reduceIte, o0, o2, o12, hBand, hStake, hKind, hCross, hWeaver, oBand, oKindOf, oKind, oCr, oRing, oWv, oPer, oRows, oAhead, oWhen, oAll, oStep, oRods, oRodAt, oStakeAt, oOff, bI_t, bI_f, X11_refuse, bitCount, pp, o4]
end
