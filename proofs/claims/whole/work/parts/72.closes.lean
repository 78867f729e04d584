/-! call: closes -/
/-- stake s bends to .., and what is taken before it; whether all so far are apart -/
def clT (mv : Int → Int) (m S : Int) (s : Nat) : Int := (s + mv (s % m)) % S
def clU (mv : Int → Int) (m S : Int) : Nat → Int → Bool
  | 0, _ => false
  | s + 1, t => clU mv m S s t || decide (clT mv m S s = t)
def clB (mv : Int → Int) (m S : Int) : Nat → Bool
  | 0 => true
  | s + 1 => clB mv m S s && !clU mv m S s (clT mv m S s)
theorem clB_no {mv : Int → Int} {m S : Int} {s : Nat} (h : clB mv m S s = false) : ∀ d, clB mv m S (s + d) = false
  | 0 => h
  | d + 1 => by
    show (clB mv m S (s + d) && _) = false
    rw [clB_no h d]
    rfl
theorem clT_r {mv : Int → Int} {m S : Int} (hS : 0 < S) (s : Nat) : 0 ≤ clT mv m S s ∧ clT mv m S s < S := ⟨Int.emod_nonneg _ (by omega), Int.emod_lt_of_pos _ hS⟩
theorem clT_e {mv : Int → Int} {m S : Int} {s : Nat} (h0 : 0 ≤ (s : Int) + mv (s % m)) (h1 : (s : Int) + mv (s % m) < 2 * S) : clT mv m S s = if (s : Int) + mv (s % m) < S then (s : Int) + mv (s % m) else (s : Int) + mv (s % m) - S := by
  unfold clT
  by_cases c : (s : Int) + mv (s % m) < S
  · rw [if_pos c, Int.emod_eq_of_lt h0 c]
  · rw [if_neg c, ← Int.sub_emod_right, Int.emod_eq_of_lt (by omega) (by omega)]
theorem clB_c {mv mv2 : Int → Int} {m S : Int} (hm : 0 < m) (h : ∀ k, 0 ≤ k → k < m → mv2 k = mv k) : ∀ s, clB mv2 m S s = clB mv m S s ∧ (∀ t, clU mv2 m S s t = clU mv m S s t) ∧ clT mv2 m S s = clT mv m S s
  | 0 => ⟨rfl, fun _ => rfl, by unfold clT; rw [h _ (Int.emod_nonneg _ (by omega)) (Int.emod_lt_of_pos _ hm)]⟩
  | s + 1 => by
    obtain ⟨a, b, c⟩ := clB_c hm h s
    refine ⟨?_, fun t => ?_, ?_⟩
    · simp only [clB]; rw [a, b, c]
    · simp only [clU]; rw [b, c]
    · unfold clT; rw [h _ (Int.emod_nonneg _ (by omega)) (Int.emod_lt_of_pos _ hm)]
section
variable {K1 K2 : (Int → Int) → (Int → Int) → Prop} {q : Nat × Nat × (Nat → Nat)} {G : Nat → Int → Int} {N : Nat}
theorem ib_any (x : Int32) {t : Int} (h0 : 0 ≤ t) (h1 : t < 32) : (iAnd x (iShl (jI 1) (jI t)) = jI 0) = (ib x t.toNat = false) := by
  obtain ⟨n, rfl⟩ := Int.eq_ofNat_of_zero_le h0
  apply propext
  rw [Int.toNat_natCast]
  constructor
  · intro h
    have := congrArg (fun z => ib z n) h
    simp only [ib_and, ib_0] at this
    rw [ib_shl _ (by omega) (by omega), ib_1, Int.toNat_natCast] at this
    simpa [show n < 32 by omega] using this
  · intro h
    apply ib_ext
    intro k hk
    rw [ib_and, ib_0, ib_shl _ (by omega) (by omega), ib_1, Int.toNat_natCast]
    by_cases c : k = n
    · subst c; rw [h]; rfl
    · by_cases d : k < n
      · simp [d]
      · simp [show ¬ k - n = 0 by omega]
theorem oClosed (hN : 10000 ≤ N) {m S : Int} (hm : 1 ≤ m ∧ m ≤ 40) (hS : 3 ≤ S ∧ S ≤ 32) (hv : ∀ k, 0 ≤ k → k < m → 1 ≤ G 99 k ∧ G 99 k < S) : f_X11_isClosed N 99 (jI m) (jI S) (hp q G) = some (jI (bz (clB (G 99) m S S.toNat)), hp q G) := by
  have L : ∀ (d n s : Nat) (x : Int32), s + d = S.toNat → d < n → clB (G 99) m S s = true → (∀ t : Nat, t < 32 → ib x t = clU (G 99) m S s t) → L_X11_isClosed_8 N n 99 (jI m) (jI S) x (jI ((s : Int) % m)) (jI s) (hp q G) = some (jI (bz (clB (G 99) m S S.toNat)), hp q G) := by
    intro d
    induction d with
    | zero =>
      intro n s x hd hn hc hx
      obtain ⟨n, rfl⟩ : ∃ k, n = k + 1 := ⟨n - 1, by omega⟩
      rw [show S.toNat = s by omega, hc, L_X11_isClosed_8]
      simp (maxSteps := 2000000) (disch := first | assumption | omega) only [jI0, iAdd_j, iSub_j, iMul_j, iNeg_j, Option.bind_some, jlt_t, jlt_f, jlt, jle_t, jle_f, jle, jeq_t, jeq_f, jeq, ↓reduceIte]
      rfl
    | succ d ih =>
      intro n s x hd hn hc hx
      obtain ⟨n, rfl⟩ : ∃ k, n = k + 1 := ⟨n - 1, by omega⟩
      have m0 : 0 ≤ (s : Int) % m := Int.emod_nonneg _ (by omega)
      have m1 : (s : Int) % m < m := Int.emod_lt_of_pos _ (by omega)
      have v := hv _ m0 m1
      have l9 := l99 q G (i := (s : Int) % m) m0 (by omega)
      have te := clT_e (mv := G 99) (m := m) (S := S) (s := s) (by omega) (by omega)
      have tr := clT_r (mv := G 99) (m := m) (S := S) (by omega) s
      have J : J_X11_isClosed_39 N (L_X11_isClosed_8 N n) 99 (jI m) (jI S) x (jI ((s : Int) % m)) (jI s) (jI 1) (jI (clT (G 99) m S s)) (hp q G) = some (jI (bz (clB (G 99) m S S.toNat)), hp q G) := by
        unfold J_X11_isClosed_39
        have ba := ib_any x tr.1 (by omega)
        have xt := hx (clT (G 99) m S s).toNat (by omega)
        rw [show (((clT (G 99) m S s).toNat : Nat) : Int) = clT (G 99) m S s by omega] at xt
        by_cases c : clU (G 99) m S s (clT (G 99) m S s) = true
        · have nb : clB (G 99) m S (s + 1) = false := by
            show (clB (G 99) m S s && !clU (G 99) m S s (clT (G 99) m S s)) = false
            rw [c, hc]; rfl
          have nf := clB_no nb d
          rw [show s + 1 + d = S.toNat by omega] at nf
          rw [nf]
          have b0 : ¬ (iAnd x (iShl (jI 1) (jI (clT (G 99) m S s))) = jI 0) := by rw [ba, xt, c]; exact Bool.noConfusion
          simp only [jI0, b0, ↓reduceIte]
          rfl
        · have c' : clU (G 99) m S s (clT (G 99) m S s) = false := by simpa using c
          have b0 : iAnd x (iShl (jI 1) (jI (clT (G 99) m S s))) = jI 0 := by rw [ba, xt, c']
          have cb : clB (G 99) m S (s + 1) = true := by
            show (clB (G 99) m S s && !clU (G 99) m S s (clT (G 99) m S s)) = true
            rw [c', hc]; rfl
          have hx' : ∀ t : Nat, t < 32 → ib (iOr x (iShl (jI 1) (jI (clT (G 99) m S s)))) t = clU (G 99) m S (s + 1) t := by
            intro t ht
            rw [ib_or, hx t ht, ib_shl _ tr.1 (by omega), ib_1]
            show _ = (clU (G 99) m S s t || decide (clT (G 99) m S s = t))
            congr 1
            by_cases e : clT (G 99) m S s = t
            · simp [e, ht]
            · by_cases e2 : t < (clT (G 99) m S s).toNat
              · simp [e, e2]
              · simp [e, e2, show ¬ t - (clT (G 99) m S s).toNat = 0 by omega]
          have nx := ih n (s + 1) (iOr x (iShl (jI 1) (jI (clT (G 99) m S s)))) (by omega) (by omega) cb hx'
          simp only [jI0, b0, ↓reduceIte]
          by_cases e : (s : Int) % m + 1 < m
          · have em : ((s + 1 : Nat) : Int) % m = (s : Int) % m + 1 := by
              rw [Int.natCast_succ, Int.add_emod, Int.emod_eq_of_lt (show 0 ≤ (1 : Int) by omega) (show (1 : Int) < m by omega), Int.emod_eq_of_lt (by omega) e]
            rw [em, Int.natCast_succ] at nx
            simp (maxSteps := 2000000) (disch := first | assumption | omega) only [jI0, iAdd_j, iSub_j, iMul_j, iNeg_j, Option.bind_some, jlt_t, jlt_f, jlt, jle_t, jle_f, jle, jeq_t, jeq_f, jeq, ↓reduceIte, nx]
          · have em : ((s + 1 : Nat) : Int) % m = 0 := by
              rw [Int.natCast_succ, ← Int.emod_add_emod, show (s : Int) % m + 1 = m by omega, Int.emod_self]
            rw [em, Int.natCast_succ] at nx
            simp (maxSteps := 2000000) (disch := first | assumption | omega) only [jI0, iAdd_j, iSub_j, iMul_j, iNeg_j, Option.bind_some, jlt_t, jlt_f, jlt, jle_t, jle_f, jle, jeq_t, jeq_f, jeq, ↓reduceIte, nx]
      rw [L_X11_isClosed_8]
      by_cases c : (s : Int) + G 99 ((s : Int) % m) < S
      · rw [if_pos c] at te
        rw [te] at J
        simp (maxSteps := 2000000) (disch := first | assumption | omega) only [jI0, iAdd_j, iSub_j, iMul_j, iNeg_j, Option.bind_some, jlt_t, jlt_f, jlt, jle_t, jle_f, jle, jeq_t, jeq_f, jeq, ↓reduceIte, l9]
        exact J
      · rw [if_neg c] at te
        rw [te] at J
        simp (maxSteps := 2000000) (disch := first | assumption | omega) only [jI0, iAdd_j, iSub_j, iMul_j, iNeg_j, Option.bind_some, jlt_t, jlt_f, jlt, jle_t, jle_f, jle, jeq_t, jeq_f, jeq, ↓reduceIte, l9]
        exact J
  have := L S.toNat N 0 (jI 0) (by omega) (by omega) rfl (fun t ht => by rw [ib_0]; rfl)
  unfold f_X11_isClosed
  rw [show ((0 : Nat) : Int) % m = 0 from Int.zero_emod m] at this
  exact this
theorem mClosed (hN : 10000 ≤ N) {m : Int} (hm : 1 ≤ m ∧ m ≤ 40) (hS : 3 ≤ G 102 0 ∧ G 102 0 ≤ 32) (hv : ∀ k, 0 ≤ k → k < m → 1 ≤ G 115 k ∧ G 115 k < G 102 0) : f_X12_closesBy N 100 (jI m) (hp q G) = some (jI (bz (clB (G 115) m (G 102 0) (G 102 0).toNat)), hp q G) := by
  generalize hSS : G 102 0 = S at *
  have L : ∀ (d n s : Nat) (M : Nat), s + d = S.toNat → d < n → clB (G 115) m S s = true → M < 2 ^ 32 → (∀ t : Nat, t < 32 → M.testBit t = clU (G 115) m S s t) → L_X12_closesBy_5 N n 100 (jI m) (jL M) (jI s) (hp q G) = some (jI (bz (clB (G 115) m S S.toNat)), hp q G) := by
    intro d
    induction d with
    | zero =>
      intro n s M hd hn hc hM hx
      obtain ⟨n, rfl⟩ : ∃ k, n = k + 1 := ⟨n - 1, by omega⟩
      have l0 := l102 q G (i := 0) (by decide) (by decide)
      rw [hSS] at l0
      rw [show S.toNat = s by omega, hc, L_X12_closesBy_5]
      simp (maxSteps := 2000000) (disch := first | assumption | omega) only [jI0, iAdd_j, iSub_j, iMul_j, iNeg_j, Option.bind_some, jlt_t, jlt_f, jlt, jle_t, jle_f, jle, jeq_t, jeq_f, jeq, ↓reduceIte, o100, l0]
      rfl
    | succ d ih =>
      intro n s M hd hn hc hM hx
      obtain ⟨n, rfl⟩ : ∃ k, n = k + 1 := ⟨n - 1, by omega⟩
      have l0 := l102 q G (i := 0) (by decide) (by decide)
      rw [hSS] at l0
      have m0 : 0 ≤ (s : Int) % m := Int.emod_nonneg _ (by omega)
      have m1 : (s : Int) % m < m := Int.emod_lt_of_pos _ (by omega)
      have v := hv _ m0 m1
      have l9 := l115 q G (i := (s : Int) % m) m0 (by omega)
      have tr := clT_r (mv := G 115) (m := m) (S := S) (by omega) s
      have te : clT (G 115) m S s = ((s : Int) + G 115 ((s : Int) % m)) % S := rfl
      have hx0 := hx (clT (G 115) m S s).toNat (by omega)
      have tn : (((clT (G 115) m S s).toNat : Nat) : Int) = clT (G 115) m S s := by omega
      have e1 : (1 : Int) = ((1 : Nat) : Int) := rfl
      have lbt := lBit (M := M) (t := (clT (G 115) m S s).toNat) (Nat.lt_trans hM (by decide)) (by omega)
      rw [hx0, tn] at lbt
      have ls := lShl_n 1 (s := (clT (G 115) m S s).toNat) (by omega)
      rw [tn, Nat.one_mul, ← e1] at ls
      have p2 : 2 ^ (clT (G 115) m S s).toNat < 2 ^ 32 := Nat.pow_lt_pow_right (by omega) (by omega)
      rw [L_X12_closesBy_5]
      by_cases c : clU (G 115) m S s (clT (G 115) m S s) = true
      · have nb : clB (G 115) m S (s + 1) = false := by
          show (clB (G 115) m S s && !clU (G 115) m S s (clT (G 115) m S s)) = false
          rw [c, hc]; rfl
        have nf := clB_no nb d
        rw [show s + 1 + d = S.toNat by omega] at nf
        rw [nf]
        rw [c] at lbt
        simp (maxSteps := 2000000) (disch := first | assumption | omega) only [jI0, iAdd_j, iSub_j, iMul_j, iNeg_j, Option.bind_some, jlt_t, jlt_f, jlt, jle_t, jle_f, jle, jeq_t, jeq_f, jeq, ↓reduceIte, o100, l0, iRem_p, l9, ← te, lbt]
        rfl
      · have c' : clU (G 115) m S s (clT (G 115) m S s) = false := by simpa using c
        have cb : clB (G 115) m S (s + 1) = true := by
          show (clB (G 115) m S s && !clU (G 115) m S s (clT (G 115) m S s)) = true
          rw [c', hc]; rfl
        have hx' : ∀ t : Nat, t < 32 → (M ||| 2 ^ (clT (G 115) m S s).toNat).testBit t = clU (G 115) m S (s + 1) t := by
          intro t ht
          rw [Nat.testBit_or, hx t ht, Nat.testBit_two_pow]
          show _ = (clU (G 115) m S s t || decide (clT (G 115) m S s = t))
          congr 1
          apply decide_eq_decide.mpr
          omega
        have nx := ih n (s + 1) (M ||| 2 ^ (clT (G 115) m S s).toNat) (by omega) (by omega) cb (Nat.or_lt_two_pow hM p2) hx'
        rw [c'] at lbt
        rw [Int.natCast_succ] at nx
        simp (maxSteps := 2000000) (disch := first | assumption | omega) only [jI0, iAdd_j, iSub_j, iMul_j, iNeg_j, Option.bind_some, jlt_t, jlt_f, jlt, jle_t, jle_f, jle, jeq_t, jeq_f, jeq, ↓reduceIte, o100, l0, iRem_p, l9, ← te, lbt, ls, lOr_n, nx, Bool.false_eq_true]
  have := L S.toNat N 0 0 (by omega) (by omega) rfl (by decide) (fun t ht => by rw [Nat.zero_testBit]; rfl)
  unfold f_X12_closesBy
  exact this
end
