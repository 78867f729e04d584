/-! one row put in place of another; the call taught -/
def rp (G : Nat → Int → Int) (a : Nat) (f : Int → Int) : Nat → Int → Int := fun b => if b = a then f else G b
theorem rp_eq {G : Nat → Int → Int} {a : Nat} {f : Int → Int} : rp G a f a = f := if_pos rfl
theorem rp_ne {G : Nat → Int → Int} {a b : Nat} {f : Int → Int} (h : b ≠ a) : rp G a f b = G b := if_neg h
theorem up_rp {G : Nat → Int → Int} {a : Nat} {f : Int → Int} {i v : Int} : up (rp G a f) a i v = rp G a (u1 f i v) := by
  funext b
  by_cases h : b = a
  · subst h; rw [up_eq, rp_eq, rp_eq]
  · rw [up_ne h, rp_ne h, rp_ne h]
theorem rp_self {G : Nat → Int → Int} {a : Nat} : rp G a (G a) = G := by
  funext b
  by_cases h : b = a
  · subst h; rw [rp_eq]
  · rw [rp_ne h]
theorem rp_rp {G : Nat → Int → Int} {a : Nat} {f g : Int → Int} : rp (rp G a f) a g = rp G a g := by
  funext b
  by_cases h : b = a
  · subst h; rw [rp_eq, rp_eq]
  · rw [rp_ne h, rp_ne h, rp_ne h]
/-- who may be taught by whom: place p is teacher p / 8, pupil p mod 8 -/
def tok (w : Int → Int) (S p : Nat) : Bool := S.testBit (p / 8) && !S.testBit (p % 8) && !(w ((p % 8 : Nat) : Int) == -1)
def frb (w : Int → Int) (a b : Nat) : Int := ((pcn (iXor (jI (w a)) (jI (w b))) 32 : Nat) : Int)
def scn (w : Int → Int) (S : Nat) : Nat → Int × Int × Int
  | 0 => (-1, -1, 9)
  | p + 1 => if tok w S p = true ∧ frb w (p / 8) (p % 8) < (scn w S p).2.2 then (((p / 8 : Nat) : Int), ((p % 8 : Nat) : Int), frb w (p / 8) (p % 8)) else scn w S p
def sct (w : Int → Int) (S : Nat) (T : Int → Int) : Nat → Int → Int
  | 0 => T
  | p + 1 => if tok w S p = true ∧ frb w (p / 8) (p % 8) < (scn w S p).2.2 then u1 (sct w S T p) ((p % 8 : Nat) : Int) ((p / 8 : Nat) : Int) else sct w S T p
theorem frb_r (w : Int → Int) (a b : Nat) : 0 ≤ frb w a b ∧ frb w a b ≤ 32 := by
  have e := pcn_sm (x := iXor (jI (w a)) (jI (w b))) (f := fun k => ib (iXor (jI (w a)) (jI (w b))) k.toNat) (n := 32) (fun k _ => by rw [Int.toNat_natCast])
  have := sm_le (f := fun k => if ib (iXor (jI (w a)) (jI (w b))) k.toNat = true then 1 else 0) (c := 1) (n := 32) (fun k _ => by split <;> omega)
  unfold frb
  omega
theorem scn_r (w : Int → Int) (S : Nat) : ∀ p, p ≤ 64 → (-1 ≤ (scn w S p).1 ∧ (scn w S p).1 ≤ 7) ∧ (-1 ≤ (scn w S p).2.1 ∧ (scn w S p).2.1 ≤ 7) ∧ 0 ≤ (scn w S p).2.2 ∧ (scn w S p).2.2 ≤ 9
  | 0, _ => by simp only [scn]; omega
  | p + 1, h => by
    have := scn_r w S p (by omega)
    have f := frb_r w (p / 8) (p % 8)
    simp only [scn]
    split
    · rename_i c
      refine ⟨⟨?_, ?_⟩, ⟨?_, ?_⟩, ?_, ?_⟩
      all_goals simp only
      all_goals omega
    · exact this
theorem sct_at (w : Int → Int) (S : Nat) (T : Int → Int) : ∀ p, (scn w S p).2.1 ≠ -1 → sct w S T p (scn w S p).2.1 = (scn w S p).1 ∧ S.testBit (scn w S p).2.1.toNat = false ∧ S.testBit (scn w S p).1.toNat = true ∧ 0 ≤ (scn w S p).1 ∧ 0 ≤ (scn w S p).2.1 ∧ (scn w S p).2.2 = frb w (scn w S p).1.toNat (scn w S p).2.1.toNat ∧ w (scn w S p).2.1 ≠ -1
  | 0, h => absurd rfl h
  | p + 1, h => by
    simp only [scn, sct] at h ⊢
    by_cases c : tok w S p = true ∧ frb w (p / 8) (p % 8) < (scn w S p).2.2
    · simp only [if_pos c] at h ⊢
      have t := c.1
      unfold tok at t
      simp only [Bool.and_eq_true, Bool.not_eq_true', beq_eq_false_iff_ne] at t
      rw [u1_eq, Int.toNat_natCast, Int.toNat_natCast]
      exact ⟨rfl, t.1.2, t.1.1, by omega, by omega, rfl, t.2⟩
    · simp only [if_neg c] at h ⊢
      exact sct_at w S T p h
theorem sct_keep (w : Int → Int) (S : Nat) (T : Int → Int) {k : Nat} (h : S.testBit k = true ∨ w k = -1) : ∀ p, sct w S T p k = T k
  | 0 => rfl
  | p + 1 => by
    simp only [sct]
    split
    · rename_i c
      have t := c.1
      unfold tok at t
      simp only [Bool.and_eq_true, Bool.not_eq_true', beq_eq_false_iff_ne] at t
      rw [u1_ne, sct_keep w S T h p]
      intro e
      have e2 : k = p % 8 := by omega
      rcases h with h | h
      · rw [e2, t.1.2] at h; cases h
      · rw [e2] at h; exact t.2 h
    · exact sct_keep w S T h p
theorem frb_8 {w : Int → Int} {a b : Nat} (ha : 0 ≤ w a ∧ w a ≤ 255) (hb : 0 ≤ w b ∧ w b ≤ 255) : frb w a b = sm (fun k => if ib (iXor (jI (w a)) (jI (w b))) k.toNat = true then 1 else 0) 8 := by
  have e := pcn_sm (x := iXor (jI (w a)) (jI (w b))) (f := fun k => ib (iXor (jI (w a)) (jI (w b))) k.toNat) (n := 32) (fun k _ => by rw [Int.toNat_natCast])
  have z : ∀ v : Int, 0 ≤ v ∧ v ≤ 255 → ∀ k : Nat, 8 ≤ k → ib (jI v) k = false := by
    intro v hv k hk
    obtain ⟨m, rfl⟩ := Int.eq_ofNat_of_zero_le hv.1
    rw [ib_n, Nat.testBit_lt_two_pow (Nat.lt_of_lt_of_le (show m < 2 ^ 8 by omega) (Nat.pow_le_pow_right (by omega) hk)), Bool.and_false]
  have t := sm_tail (f := fun k => if ib (iXor (jI (w a)) (jI (w b))) k.toNat = true then 1 else 0) (n := 8) (d := 24) (fun k hk => by
    rw [Int.toNat_natCast, ib_xor, z _ ha k hk, z _ hb k hk]; rfl)
  unfold frb
  rw [e]
  exact t
theorem frb_le {w : Int → Int} {a b : Nat} (ha : 0 ≤ w a ∧ w a ≤ 255) (hb : 0 ≤ w b ∧ w b ≤ 255) : frb w a b ≤ 8 := by
  rw [frb_8 ha hb]
  have := sm_le (f := fun k => if ib (iXor (jI (w a)) (jI (w b))) k.toNat = true then 1 else 0) (c := 1) (n := 8) (fun k _ => by split <;> omega)
  omega
theorem frb_sym (w : Int → Int) (a b : Nat) : frb w a b = frb w b a := by
  unfold frb
  rw [show iXor (jI (w a)) (jI (w b)) = iXor (jI (w b)) (jI (w a)) from ib_ext (fun k _ => by rw [ib_xor, ib_xor, Bool.xor_comm])]
theorem scn_le (w : Int → Int) (S : Nat) : ∀ p, (scn w S (p + 1)).2.2 ≤ (scn w S p).2.2
  | p => by
    simp only [scn]
    split
    · rename_i c; simp only; omega
    · omega
theorem scn_no {w : Int → Int} {S : Nat} (hw : ∀ k : Nat, k < 8 → -1 ≤ w k ∧ w k ≤ 255) (hS : ∀ k : Nat, k < 8 → S.testBit k = true → w k ≠ -1) : ∀ p, p ≤ 64 → (scn w S p).2.1 = -1 → (scn w S p).2.2 = 9 ∧ ∀ i, i < p → tok w S i = false
  | 0, _, _ => ⟨rfl, fun i hi => by omega⟩
  | p + 1, hp, h => by
    simp only [scn] at h ⊢
    by_cases c : tok w S p = true ∧ frb w (p / 8) (p % 8) < (scn w S p).2.2
    · rw [if_pos c] at h
      simp only at h
      omega
    · rw [if_neg c] at h ⊢
      obtain ⟨a, b⟩ := scn_no hw hS p (by omega) h
      refine ⟨a, fun i hi => ?_⟩
      by_cases d : i = p
      · subst d
        cases t : tok w S i with
        | false => rfl
        | true =>
          refine absurd ⟨t, ?_⟩ c
          unfold tok at t
          simp only [Bool.and_eq_true, Bool.not_eq_true', beq_eq_false_iff_ne] at t
          have w1 := hw (i / 8) (by omega)
          have w2 := hw (i % 8) (by omega)
          have n1 := hS (i / 8) (by omega) t.1.1
          have := frb_le (w := w) (a := i / 8) (b := i % 8) (by omega) ⟨by have := t.2; omega, w2.2⟩
          rw [a]
          omega
      · exact b i (by omega)
/-- hands that stand, who taught them, bits -/
def tnx (w : Int → Int) (s : Nat × (Int → Int) × Int) : Nat × (Int → Int) × Int := (s.1 ||| 2 ^ (scn w s.1 64).2.1.toNat, u1 s.2.1 (scn w s.1 64).2.1 (scn w s.1 64).1, s.2.2 + (scn w s.1 64).2.2)
def tfn (w : Int → Int) : Nat → Nat × (Int → Int) × Int → Nat × (Int → Int) × Int
  | 0, s => s
  | d + 1, s => if (scn w s.1 64).2.1 = -1 then s else tfn w d (tnx w s)
def cnt (S : Nat) : Nat := ((List.range 8).filter (fun k => S.testBit k)).length
theorem cnt_add : ∀ S : Fin 256, ∀ b : Fin 8, S.val.testBit b.val = false → cnt (S.val ||| 2 ^ b.val) = cnt S.val + 1 ∧ S.val ||| 2 ^ b.val < 256 := by decide +kernel
theorem cnt_8 : ∀ S : Fin 256, cnt S.val = 8 → ∀ b : Fin 8, S.val.testBit b.val = true := by decide +kernel
theorem cnt_1 : ∀ b : Fin 8, cnt (2 ^ b.val) = 1 ∧ 2 ^ b.val < 256 := by decide +kernel
theorem cnt_0 : ∀ S : Fin 256, S.val ≠ 0 → ∃ b : Fin 8, S.val.testBit b.val = true := by decide +kernel
/-- all that is known of hands that stand -/
def TS (w : Int → Int) (S : Nat) : Prop := S < 256 ∧ ∀ k : Nat, k < 8 → S.testBit k = true → w k ≠ -1
theorem TS.next {w : Int → Int} {S : Nat} (h : TS w S) (T : Int → Int) (c : (scn w S 64).2.1 ≠ -1) : TS w (S ||| 2 ^ (scn w S 64).2.1.toNat) ∧ cnt (S ||| 2 ^ (scn w S 64).2.1.toNat) = cnt S + 1 := by
  have a := sct_at w S T 64 c
  have r := scn_r w S 64 (by omega)
  have e := cnt_add ⟨S, h.1⟩ ⟨(scn w S 64).2.1.toNat, by omega⟩ a.2.1
  refine ⟨⟨e.2, fun k hk t => ?_⟩, e.1⟩
  rw [Nat.testBit_or, Nat.testBit_two_pow, Bool.or_eq_true, decide_eq_true_eq] at t
  rcases t with t | t
  · exact h.2 k hk t
  · rw [← t, Int.toNat_of_nonneg a.2.2.2.2.1]
    exact a.2.2.2.2.2.2
theorem scn_8 {w : Int → Int} {S : Nat} (h : TS w S) (c : cnt S = 8) : (scn w S 64).2.1 = -1 := by
  have : ∀ p, (scn w S p).2.1 = -1 := by
    intro p
    induction p with
    | zero => rfl
    | succ p ih =>
      simp only [scn]
      rw [if_neg, ih]
      intro t
      have t := t.1
      unfold tok at t
      rw [cnt_8 ⟨S, h.1⟩ c ⟨p % 8, by omega⟩] at t
      simp at t
  exact this 64
theorem tfn_end {w : Int → Int} : ∀ (d : Nat) (s : Nat × (Int → Int) × Int), TS w s.1 → cnt s.1 + d = 8 → TS w (tfn w d s).1 ∧ (scn w (tfn w d s).1 64).2.1 = -1
  | 0, s, h, e => ⟨h, scn_8 h e⟩
  | d + 1, s, h, e => by
    simp only [tfn]
    by_cases c : (scn w s.1 64).2.1 = -1
    · rw [if_pos c]; exact ⟨h, c⟩
    · rw [if_neg c]
      have n := h.next s.2.1 c
      exact tfn_end d (tnx w s) n.1 (by show cnt (s.1 ||| 2 ^ (scn w s.1 64).2.1.toNat) + d = 8; omega)
theorem tfn_has {w : Int → Int} {k : Nat} : ∀ (d : Nat) (s : Nat × (Int → Int) × Int), s.1.testBit k = true → (tfn w d s).1.testBit k = true
  | 0, _, h => h
  | d + 1, s, h => by
    simp only [tfn]
    split
    · exact h
    · refine tfn_has d (tnx w s) ?_
      show (s.1 ||| _).testBit k = true
      rw [Nat.testBit_or, h, Bool.true_or]
theorem tfn_all {w : Int → Int} (hw : ∀ k : Nat, k < 8 → -1 ≤ w k ∧ w k ≤ 255) {d : Nat} {s : Nat × (Int → Int) × Int} (h : TS w s.1) (e : cnt s.1 + d = 8) {a : Nat} (ha : a < 8) (h0 : s.1.testBit a = true) {b : Nat} (hb : b < 8) (wb : w b ≠ -1) : (tfn w d s).1.testBit b = true := by
  obtain ⟨t1, t2⟩ := tfn_end d s h e
  have n := (scn_no hw t1.2 64 (by omega) t2).2 (8 * a + b) (by omega)
  unfold tok at n
  rw [show (8 * a + b) / 8 = a by omega, show (8 * a + b) % 8 = b by omega, tfn_has d s h0] at n
  cases c : (tfn w d s).1.testBit b with
  | true => rfl
  | false =>
    rw [c] at n
    simp [wb] at n
section
variable {K1 K2 : (Int → Int) → (Int → Int) → Prop} {q : Nat × Nat × (Nat → Nat)} {G : Nat → Int → Int} {N : Nat} {w : Int → Int}
theorem oTold (hw : ∀ k, 0 ≤ k → k < 8 → G 34 k = w k ∧ -1 ≤ w k ∧ w k ≤ 255) {k : Int} (h1 : -2147483648 ≤ k) (h2 : k < 2147483648) : f_X3_isTold N 33 (jI k) (hp q G) = some (bI ((0 ≤ k ∧ k < 8) ∧ w k ≠ -1), hp q G) := by
  unfold f_X3_isTold f_X3_isHand
  by_cases c1 : k < 0
  · simp (maxSteps := 2000000) (disch := first | assumption | omega) only [jI0, iAdd_j, iSub_j, iMul_j, iNeg_j, Option.bind_some, jlt_t, jlt_f, jlt, jle_t, jle_f, jle, jeq_t, jeq_f, jeq, ↓reduceIte, o33, bI_f]
  by_cases c2 : k < 8
  · have e := hw k (by omega) c2
    by_cases c3 : w k = -1
    · rw [bI_f (by intro x; exact x.2 c3)]
      rw [c3] at e
      simp (maxSteps := 2000000) (disch := first | assumption | omega) only [jI0, iAdd_j, iSub_j, iMul_j, iNeg_j, Option.bind_some, jlt_t, jlt_f, jlt, jle_t, jle_f, jle, jeq_t, jeq_f, jeq, ↓reduceIte, o33, l34, e.1]
    · rw [bI_t (by refine ⟨by omega, c3⟩)]
      simp (maxSteps := 2000000) (disch := first | assumption | omega) only [jI0, iAdd_j, iSub_j, iMul_j, iNeg_j, Option.bind_some, jlt_t, jlt_f, jlt, jle_t, jle_f, jle, jeq_t, jeq_f, jeq, ↓reduceIte, o33, l34, e.1]
  · simp (maxSteps := 2000000) (disch := first | assumption | omega) only [jI0, iAdd_j, iSub_j, iMul_j, iNeg_j, Option.bind_some, jlt_t, jlt_f, jlt, jle_t, jle_f, jle, jeq_t, jeq_f, jeq, ↓reduceIte, o33, bI_f]
theorem oScIn (hN : 10000 ≤ N) (hw : ∀ k, 0 ≤ k → k < 8 → G 34 k = w k ∧ -1 ≤ w k ∧ w k ≤ 255) {S a : Nat} (ha : a < 8) (T : Int → Int) (k8 : Nat → Int32 → Int32 → Int32 → Int32 → mH → Option (Int32 × mH)) : L_X3_nextTaught_18 N k8 N 33 (jI S) (jI (scn w S (8 * a)).2.1) (jI (scn w S (8 * a)).2.2) (jI a) (jI 0) (hp q (rp G 35 (sct w S T (8 * a)))) = k8 33 (jI S) (jI (scn w S (8 * (a + 1))).2.1) (jI (scn w S (8 * (a + 1))).2.2) (jI ((a + 1 : Nat) : Int)) (hp q (rp G 35 (sct w S T (8 * (a + 1))))) := by
  refine loopE (N := N) (fun n (b : Nat) => L_X3_nextTaught_18 N k8 n 33 (jI S) (jI (scn w S (8 * a + b)).2.1) (jI (scn w S (8 * a + b)).2.2) (jI a) (jI b) (hp q (rp G 35 (sct w S T (8 * a + b))))) (fun b => b) 8 (r := k8 33 (jI S) (jI (scn w S (8 * (a + 1))).2.1) (jI (scn w S (8 * (a + 1))).2.2) (jI ((a + 1 : Nat) : Int)) (hp q (rp G 35 (sct w S T (8 * (a + 1)))))) (by omega) ?_ ?_
  · intro n b hb
    show L_X3_nextTaught_18 N k8 (n + 1) 33 (jI S) (jI (scn w S (8 * a + b)).2.1) (jI (scn w S (8 * a + b)).2.2) (jI a) (jI b) (hp q (rp G 35 (sct w S T (8 * a + b)))) = L_X3_nextTaught_18 N k8 n 33 (jI S) (jI (scn w S (8 * a + b + 1)).2.1) (jI (scn w S (8 * a + b + 1)).2.2) (jI a) (jI ((b + 1 : Nat) : Int)) (hp q (rp G 35 (sct w S T (8 * a + b + 1))))
    have e1 : (8 * a + b) / 8 = a := by omega
    have e2 : (8 * a + b) % 8 = b := by omega
    have r := scn_r w S (8 * a + b) (by omega)
    have fr := frb_r w a b
    have es : scn w S (8 * a + b + 1) = if tok w S (8 * a + b) = true ∧ frb w a b < (scn w S (8 * a + b)).2.2 then ((a : Int), (b : Int), frb w a b) else scn w S (8 * a + b) := by
      simp only [scn]; rw [e1, e2]
    have et : sct w S T (8 * a + b + 1) = if tok w S (8 * a + b) = true ∧ frb w a b < (scn w S (8 * a + b)).2.2 then u1 (sct w S T (8 * a + b)) (b : Int) (a : Int) else sct w S T (8 * a + b) := by
      simp only [sct]; rw [e1, e2]
    have tk : tok w S (8 * a + b) = (S.testBit a && !S.testBit b && !(w (b : Int) == -1)) := by
      unfold tok; rw [e1, e2]
    generalize scn w S (8 * a + b) = s at *
    generalize sct w S T (8 * a + b) = C at *
    have ua := usrAt (s := S) (k := (a : Int)) (by omega) (by omega)
    have ub := usrAt (s := S) (k := (b : Int)) (by omega) (by omega)
    rw [Int.toNat_natCast] at ua ub
    have wa := hw a (by omega) (by omega)
    have wb := hw b (by omega) (by omega)
    have hw2 : ∀ k, 0 ≤ k → k < 8 → rp G 35 C 34 k = w k ∧ -1 ≤ w k ∧ w k ≤ 255 := hw
    have tb := oTold (N := N) (q := q) hw2 (k := (b : Int)) (by omega) (by omega)
    have fe : ((pcn (iXor (jI (w (a : Int))) (jI (w (b : Int)))) 32 : Nat) : Int) = frb w a b := rfl
    rw [L_X3_nextTaught_18]
    unfold J_X3_nextTaught_49
    by_cases ca : S.testBit a = true
    · rw [bI_t ca] at ua
      by_cases cb : S.testBit b = true
      · rw [bI_t cb] at ub
        have nt : ¬ (tok w S (8 * a + b) = true ∧ frb w a b < s.2.2) := by rw [tk, cb]; simp
        rw [if_neg nt] at es et
        rw [es, et]
        simp (maxSteps := 2000000) (disch := first | assumption | omega) only [jI0, iAdd_j, iSub_j, iMul_j, iNeg_j, Option.bind_some, jlt_t, jlt_f, jlt, jle_t, jle_f, jle, jeq_t, jeq_f, jeq, ↓reduceIte, o33, ua, ub, Int.natCast_succ]
      · rw [bI_f cb] at ub
        have cb' : S.testBit b = false := by simpa using cb
        by_cases cw : w b = -1
        · have nt : ¬ (tok w S (8 * a + b) = true ∧ frb w a b < s.2.2) := by rw [tk, cw]; simp
          rw [if_neg nt] at es et
          rw [es, et]
          rw [bI_f (by intro x; exact x.2 cw)] at tb
          simp (maxSteps := 2000000) (disch := first | assumption | omega) only [jI0, iAdd_j, iSub_j, iMul_j, iNeg_j, Option.bind_some, jlt_t, jlt_f, jlt, jle_t, jle_f, jle, jeq_t, jeq_f, jeq, ↓reduceIte, o33, ua, ub, tb, Int.natCast_succ]
        · rw [bI_t (by refine ⟨by omega, cw⟩)] at tb
          have tk' : tok w S (8 * a + b) = true := by rw [tk, ca, cb']; simp [cw]
          by_cases cf : frb w a b < s.2.2
          · have yt : (tok w S (8 * a + b) = true ∧ frb w a b < s.2.2) := ⟨tk', cf⟩
            rw [if_pos yt] at es et
            rw [es, et]
            simp (maxSteps := 2000000) (disch := first | assumption | omega) only [jI0, iAdd_j, iSub_j, iMul_j, iNeg_j, Option.bind_some, jlt_t, jlt_f, jlt, jle_t, jle_f, jle, jeq_t, jeq_f, jeq, ↓reduceIte, o33, ua, ub, tb, l34, rp_ne, wa.1, wb.1, bitCount, fe, s35, up_rp, Int.natCast_succ]
          · have nt : ¬ (tok w S (8 * a + b) = true ∧ frb w a b < s.2.2) := fun x => cf x.2
            rw [if_neg nt] at es et
            rw [es, et]
            simp (maxSteps := 2000000) (disch := first | assumption | omega) only [jI0, iAdd_j, iSub_j, iMul_j, iNeg_j, Option.bind_some, jlt_t, jlt_f, jlt, jle_t, jle_f, jle, jeq_t, jeq_f, jeq, ↓reduceIte, o33, ua, ub, tb, l34, rp_ne, wa.1, wb.1, bitCount, fe, Int.natCast_succ]
    · rw [bI_f ca] at ua
      have nt : ¬ (tok w S (8 * a + b) = true ∧ frb w a b < s.2.2) := by rw [tk]; simp [ca]
      rw [if_neg nt] at es et
      rw [es, et]
      simp (maxSteps := 2000000) (disch := first | assumption | omega) only [jI0, iAdd_j, iSub_j, iMul_j, iNeg_j, Option.bind_some, jlt_t, jlt_f, jlt, jle_t, jle_f, jle, jeq_t, jeq_f, jeq, ↓reduceIte, o33, ua, Int.natCast_succ]
  · intro n
    show L_X3_nextTaught_18 N k8 (n + 1) 33 (jI S) (jI (scn w S (8 * a + 8)).2.1) (jI (scn w S (8 * a + 8)).2.2) (jI a) (jI ((8 : Nat) : Int)) (hp q (rp G 35 (sct w S T (8 * a + 8)))) = _
    rw [L_X3_nextTaught_18, show ((8 : Nat) : Int) = 8 from rfl, show 8 * (a + 1) = 8 * a + 8 by omega]
    simp (maxSteps := 2000000) (disch := first | assumption | omega) only [jI0, iAdd_j, iSub_j, iMul_j, iNeg_j, Option.bind_some, jlt_t, jlt_f, jlt, jle_t, jle_f, jle, jeq_t, jeq_f, jeq, ↓reduceIte, Int.natCast_succ]
theorem oNxT (hN : 10000 ≤ N) (hw : ∀ k, 0 ≤ k → k < 8 → G 34 k = w k ∧ -1 ≤ w k ∧ w k ≤ 255) (S : Nat) (T : Int → Int) : f_X3_nextTaught N 33 (jI S) (hp q (rp G 35 T)) = some (jI (scn w S 64).2.1, hp q (rp G 35 (sct w S T 64))) := by
  unfold f_X3_nextTaught
  refine loopE (N := N) (fun n (a : Nat) => L_X3_nextTaught_8 N n 33 (jI S) (jI (scn w S (8 * a)).2.1) (jI (scn w S (8 * a)).2.2) (jI a) (hp q (rp G 35 (sct w S T (8 * a))))) (fun a => a) 8 (by omega) ?_ ?_
  · intro n a ha
    have := oScIn (q := q) (N := N) hN hw (S := S) ha T (L_X3_nextTaught_8 N n)
    show L_X3_nextTaught_8 N (n + 1) 33 (jI S) (jI (scn w S (8 * a)).2.1) (jI (scn w S (8 * a)).2.2) (jI a) (hp q (rp G 35 (sct w S T (8 * a)))) = L_X3_nextTaught_8 N n 33 (jI S) (jI (scn w S (8 * (a + 1))).2.1) (jI (scn w S (8 * (a + 1))).2.2) (jI ((a + 1 : Nat) : Int)) (hp q (rp G 35 (sct w S T (8 * (a + 1)))))
    rw [← this, L_X3_nextTaught_8]
    simp (maxSteps := 2000000) (disch := first | assumption | omega) only [jI0, iAdd_j, iSub_j, iMul_j, iNeg_j, Option.bind_some, jlt_t, jlt_f, jlt, jle_t, jle_f, jle, jeq_t, jeq_f, jeq, ↓reduceIte]
  · intro n
    show L_X3_nextTaught_8 N (n + 1) 33 (jI S) (jI (scn w S 64).2.1) (jI (scn w S 64).2.2) (jI ((8 : Nat) : Int)) (hp q (rp G 35 (sct w S T 64))) = _
    rw [L_X3_nextTaught_8, show ((8 : Nat) : Int) = 8 from rfl]
    simp (maxSteps := 2000000) (disch := first | assumption | omega) only [jI0, iAdd_j, iSub_j, iMul_j, iNeg_j, Option.bind_some, jlt_t, jlt_f, jlt, jle_t, jle_f, jle, jeq_t, jeq_f, jeq, ↓reduceIte]
/-- the component goes on till all are taught -/
theorem oTeach (hN : 10000 ≤ N) (hw : ∀ k, 0 ≤ k → k < 8 → G 34 k = w k ∧ -1 ≤ w k ∧ w k ≤ 255) : ∀ (d n S : Nat) (C T : Int → Int) (sum : Int), d ≤ 7 → d < n → TS w S → S ≠ 0 → (∀ k : Nat, k < 8 → S.testBit k = true → C k = T k) → ∃ C' : Int → Int, (∀ k : Nat, k < 8 → (tfn w d (S, T, sum)).1.testBit k = true → C' k = (tfn w d (S, T, sum)).2.1 k) ∧ L_X3_teachAll_42 N n 33 (jI S) (jI sum) (jI (8 - (d : Int))) (hp q (rp G 35 C)) = some (jI (tfn w d (S, T, sum)).2.2, hp q (rp G 35 C')) := by
  intro d
  induction d with
  | zero =>
    intro n S C T sum _ hn _ _ ag
    obtain ⟨n, rfl⟩ : ∃ m, n = m + 1 := ⟨n - 1, by omega⟩
    refine ⟨C, ag, ?_⟩
    rw [L_X3_teachAll_42, show (8 : Int) - ((0 : Nat) : Int) = 8 from rfl]
    simp (maxSteps := 2000000) (disch := first | assumption | omega) only [jI0, iAdd_j, iSub_j, iMul_j, iNeg_j, Option.bind_some, jlt_t, jlt_f, jlt, jle_t, jle_f, jle, jeq_t, jeq_f, jeq, ↓reduceIte]
    rfl
  | succ d ih =>
    intro n S C T sum hd hn hS h0 ag
    obtain ⟨n, rfl⟩ : ∃ m, n = m + 1 := ⟨n - 1, by omega⟩
    have nx := oNxT (q := q) hN hw S C
    have r := scn_r w S 64 (by omega)
    have s0 : (jI (S : Int) = jI 0) = False := jeq_f (by have := hS.1; omega)
    rw [L_X3_teachAll_42]
    simp only [tfn]
    by_cases c : (scn w S 64).2.1 = -1
    · rw [if_pos c]
      rw [c] at nx
      refine ⟨sct w S C 64, ?_, ?_⟩
      · intro k hk t
        rw [sct_keep w S C (.inl t) 64]
        exact ag k hk t
      · simp (maxSteps := 2000000) (disch := first | assumption | omega) only [jI0, iAdd_j, iSub_j, iMul_j, iNeg_j, Option.bind_some, jlt_t, jlt_f, jlt, jle_t, jle_f, jle, jeq_t, jeq_f, jeq, ↓reduceIte, o33, s0, nx]
    · rw [if_neg c]
      have at1 := sct_at w S C 64 c
      have nS := hS.next C c
      have ag2 : ∀ k : Nat, k < 8 → (S ||| 2 ^ (scn w S 64).2.1.toNat).testBit k = true → sct w S C 64 k = u1 T (scn w S 64).2.1 (scn w S 64).1 k := by
        intro k hk t
        rw [Nat.testBit_or, Nat.testBit_two_pow, Bool.or_eq_true, decide_eq_true_eq] at t
        by_cases e : (k : Int) = (scn w S 64).2.1
        · rw [e, u1_eq]; exact at1.1
        · rw [u1_ne e]
          rcases t with t | t
          · rw [sct_keep w S C (.inl t) 64]; exact ag k hk t
          · exact absurd (by omega) e
      obtain ⟨C', c1, c2⟩ := ih n (S ||| 2 ^ (scn w S 64).2.1.toNat) (sct w S C 64) (u1 T (scn w S 64).2.1 (scn w S 64).1) (sum + (scn w S 64).2.2) (by omega) (by omega) nS.1 (by
        intro e
        have := congrArg (fun x => x.testBit (scn w S 64).2.1.toNat) e
        simp only [Nat.testBit_or, Nat.testBit_two_pow, Nat.zero_testBit, decide_true, Bool.or_true] at this
        cases this) ag2
      refine ⟨C', c1, ?_⟩
      rw [← show _ = some (jI (tfn w d (tnx w (S, T, sum))).2.2, hp q (rp G 35 C')) from c2]
      have sh := shl1 (n := (scn w S 64).2.1.toNat) (by omega)
      rw [Int.toNat_of_nonneg at1.2.2.2.2.1] at sh
      have io : iOr (jI (S : Int)) (jI ((2 ^ (scn w S 64).2.1.toNat : Nat) : Int)) = jI ((S ||| 2 ^ (scn w S 64).2.1.toNat : Nat) : Int) := by
        apply ib_ext
        intro k hk
        rw [ib_or, ib_n, ib_n, ib_n, Nat.testBit_or]
        simp [hk]
      have wn := (hw (scn w S 64).2.1 at1.2.2.2.2.1 (by omega)).1
      have wt := (hw (scn w S 64).1 at1.2.2.2.1 (by omega)).1
      have fe : ((pcn (iXor (jI (w (scn w S 64).2.1)) (jI (w (scn w S 64).1))) 32 : Nat) : Int) = (scn w S 64).2.2 := by
        rw [at1.2.2.2.2.2.1, frb_sym]
        unfold frb
        rw [Int.toNat_of_nonneg at1.2.2.2.2.1, Int.toNat_of_nonneg at1.2.2.2.1]
      have e8 : (8 : Int) - ((d + 1 : Nat) : Int) + 1 = 8 - (d : Int) := by omega
      have a1 := at1.1
      generalize scn w S 64 = s at *
      generalize sct w S C 64 = C2 at *
      simp (maxSteps := 2000000) (disch := first | assumption | omega) only [jI0, iAdd_j, iSub_j, iMul_j, iNeg_j, Option.bind_some, jlt_t, jlt_f, jlt, jle_t, jle_f, jle, jeq_t, jeq_f, jeq, ↓reduceIte, o33, s0, nx, c, sh, io, l34, l35, rp_ne, rp_eq, a1, wn, wt, bitCount, fe, e8]
end
