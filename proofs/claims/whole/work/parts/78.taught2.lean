/-! call: taught -/
theorem shrB (x : Int32) {k : Int} (h0 : 0 ≤ k) (h1 : k < 32) : iAnd (iShr x (jI k)) (jI 1) = bI (ib x k.toNat = true) := by
  obtain ⟨n, rfl⟩ := Int.eq_ofNat_of_zero_le h0
  rw [bit1, ib_shr x (s := n) (by omega) (k := 0) (by omega), Nat.add_zero, Int.toNat_natCast]
section
variable {K1 K2 : (Int → Int) → (Int → Int) → Prop} {q : Nat × Nat × (Nat → Nat)} {G : Nat → Int → Int} {N : Nat} {w : Int → Int}
theorem mBits (hN : 10000 ≤ N) (x : Int32) {h : mH} : f_X12_bitsOf N x h = some (jI (sm (fun k => if ib x k.toNat = true then 1 else 0) 8), h) := by
  unfold f_X12_bitsOf
  refine loopE (N := N) (fun n (k : Nat) => L_X12_bitsOf_4 N n x (jI (sm (fun k => if ib x k.toNat = true then 1 else 0) k)) (jI k) h) (fun k => k) 8 (by omega) ?_ ?_
  · intro n k hk
    show L_X12_bitsOf_4 N (n + 1) x (jI (sm (fun k => if ib x k.toNat = true then 1 else 0) k)) (jI k) h = L_X12_bitsOf_4 N n x (jI (sm (fun k => if ib x k.toNat = true then 1 else 0) k + if ib x ((k : Int)).toNat = true then 1 else 0)) (jI ((k + 1 : Nat) : Int)) h
    have u := shrB x (k := (k : Int)) (by omega) (by omega)
    rw [L_X12_bitsOf_4]
    by_cases c : ib x ((k : Int)).toNat = true
    · rw [bI_t c] at u
      rw [if_pos c]
      simp (maxSteps := 2000000) (disch := first | assumption | omega) only [jI0, iAdd_j, iSub_j, iMul_j, iNeg_j, Option.bind_some, jlt_t, jlt_f, jlt, jle_t, jle_f, jle, jeq_t, jeq_f, jeq, ↓reduceIte, u, Int.natCast_succ]
    · rw [bI_f c] at u
      rw [if_neg c]
      simp (maxSteps := 2000000) (disch := first | assumption | omega) only [jI0, iAdd_j, iSub_j, iMul_j, iNeg_j, Option.bind_some, jlt_t, jlt_f, jlt, jle_t, jle_f, jle, jeq_t, jeq_f, jeq, ↓reduceIte, u, Int.natCast_succ, Int.add_zero]
  · intro n
    show L_X12_bitsOf_4 N (n + 1) x (jI (sm (fun k => if ib x k.toNat = true then 1 else 0) 8)) (jI ((8 : Nat) : Int)) h = _
    rw [L_X12_bitsOf_4, show ((8 : Nat) : Int) = 8 from rfl]
    simp (maxSteps := 2000000) (disch := first | assumption | omega) only [jI0, iAdd_j, iSub_j, iMul_j, iNeg_j, Option.bind_some, jlt_t, jlt_f, jlt, jle_t, jle_f, jle, jeq_t, jeq_f, jeq, ↓reduceIte]
theorem mScIn (hN : 10000 ≤ N) (hw : ∀ k, 0 ≤ k → k < 8 → G 102 (657 + k) = w k ∧ -1 ≤ w k ∧ w k ≤ 255) {S a : Nat} (hS : TS w S) (ha : a < 8) (sum x3 : Int) (k73 : Nat → Int32 → Int32 → Int32 → Int32 → Int32 → Int32 → mH → Option (Int32 × mH)) : L_X12_teaches_83 N k73 N 100 (jI S) (jI sum) (jI (scn w S (8 * a)).1) (jI (scn w S (8 * a)).2.1) (jI (scn w S (8 * a)).2.2) (jI a) (jI 0) (hp q G) = k73 100 (jI S) (jI sum) (jI (scn w S (8 * (a + 1))).1) (jI (scn w S (8 * (a + 1))).2.1) (jI (scn w S (8 * (a + 1))).2.2) (jI ((a + 1 : Nat) : Int)) (hp q G) := by
  refine loopE (N := N) (fun n (b : Nat) => L_X12_teaches_83 N k73 n 100 (jI S) (jI sum) (jI (scn w S (8 * a + b)).1) (jI (scn w S (8 * a + b)).2.1) (jI (scn w S (8 * a + b)).2.2) (jI a) (jI b) (hp q G)) (fun b => b) 8 (r := k73 100 (jI S) (jI sum) (jI (scn w S (8 * (a + 1))).1) (jI (scn w S (8 * (a + 1))).2.1) (jI (scn w S (8 * (a + 1))).2.2) (jI ((a + 1 : Nat) : Int)) (hp q G)) (by omega) ?_ ?_
  · intro n b hb
    show L_X12_teaches_83 N k73 (n + 1) 100 (jI S) (jI sum) (jI (scn w S (8 * a + b)).1) (jI (scn w S (8 * a + b)).2.1) (jI (scn w S (8 * a + b)).2.2) (jI a) (jI b) (hp q G) = L_X12_teaches_83 N k73 n 100 (jI S) (jI sum) (jI (scn w S (8 * a + b + 1)).1) (jI (scn w S (8 * a + b + 1)).2.1) (jI (scn w S (8 * a + b + 1)).2.2) (jI a) (jI ((b + 1 : Nat) : Int)) (hp q G)
    have e1 : (8 * a + b) / 8 = a := by omega
    have e2 : (8 * a + b) % 8 = b := by omega
    have r := scn_r w S (8 * a + b) (by omega)
    have fr := frb_r w a b
    have es : scn w S (8 * a + b + 1) = if tok w S (8 * a + b) = true ∧ frb w a b < (scn w S (8 * a + b)).2.2 then ((a : Int), (b : Int), frb w a b) else scn w S (8 * a + b) := by
      simp only [scn]; rw [e1, e2]
    have tk : tok w S (8 * a + b) = (S.testBit a && !S.testBit b && !(w (b : Int) == -1)) := by
      unfold tok; rw [e1, e2]
    generalize scn w S (8 * a + b) = s at *
    have ua := shrAt (s := S) (k := (a : Int)) (by omega) (by omega)
    have ub := shrAt (s := S) (k := (b : Int)) (by omega) (by omega)
    rw [Int.toNat_natCast] at ua ub
    have wa := hw a (by omega) (by omega)
    have wb := hw b (by omega) (by omega)
    rw [L_X12_teaches_83]
    by_cases ca : S.testBit a = true
    · rw [bI_t ca] at ua
      by_cases cb : S.testBit b = true
      · rw [bI_t cb] at ub
        have nt : ¬ (tok w S (8 * a + b) = true ∧ frb w a b < s.2.2) := by rw [tk, cb]; simp
        rw [if_neg nt] at es
        rw [es]
        simp (maxSteps := 2000000) (disch := first | assumption | omega) only [jI0, iAdd_j, iSub_j, iMul_j, iNeg_j, Option.bind_some, jlt_t, jlt_f, jlt, jle_t, jle_f, jle, jeq_t, jeq_f, jeq, ↓reduceIte, ua, ub, Int.natCast_succ]
      · rw [bI_f cb] at ub
        have cb' : S.testBit b = false := by simpa using cb
        by_cases cw : w b = -1
        · have nt : ¬ (tok w S (8 * a + b) = true ∧ frb w a b < s.2.2) := by rw [tk, cw]; simp
          rw [if_neg nt] at es
          rw [es]
          simp (maxSteps := 2000000) (disch := first | assumption | omega) only [jI0, iAdd_j, iSub_j, iMul_j, iNeg_j, Option.bind_some, jlt_t, jlt_f, jlt, jle_t, jle_f, jle, jeq_t, jeq_f, jeq, ↓reduceIte, o100, l102, ua, ub, wb.1, cw, Int.natCast_succ]
        · have tk' : tok w S (8 * a + b) = true := by rw [tk, ca, cb']; simp [cw]
          have na := hS.2 a ha ca
          have f8 := frb_8 (w := w) (a := a) (b := b) (by omega) (by omega)
          by_cases cf : frb w a b < s.2.2
          · have yt : (tok w S (8 * a + b) = true ∧ frb w a b < s.2.2) := ⟨tk', cf⟩
            rw [if_pos yt] at es
            rw [es]
            simp (maxSteps := 2000000) (disch := first | assumption | omega) only [jI0, iAdd_j, iSub_j, iMul_j, iNeg_j, Option.bind_some, jlt_t, jlt_f, jlt, jle_t, jle_f, jle, jeq_t, jeq_f, jeq, ↓reduceIte, o100, l102, ua, ub, wa.1, wb.1, mBits, ← f8, Int.natCast_succ]
          · have nt : ¬ (tok w S (8 * a + b) = true ∧ frb w a b < s.2.2) := fun x => cf x.2
            rw [if_neg nt] at es
            rw [es]
            simp (maxSteps := 2000000) (disch := first | assumption | omega) only [jI0, iAdd_j, iSub_j, iMul_j, iNeg_j, Option.bind_some, jlt_t, jlt_f, jlt, jle_t, jle_f, jle, jeq_t, jeq_f, jeq, ↓reduceIte, o100, l102, ua, ub, wa.1, wb.1, mBits, ← f8, Int.natCast_succ]
    · rw [bI_f ca] at ua
      have nt : ¬ (tok w S (8 * a + b) = true ∧ frb w a b < s.2.2) := by rw [tk]; simp [ca]
      rw [if_neg nt] at es
      rw [es]
      simp (maxSteps := 2000000) (disch := first | assumption | omega) only [jI0, iAdd_j, iSub_j, iMul_j, iNeg_j, Option.bind_some, jlt_t, jlt_f, jlt, jle_t, jle_f, jle, jeq_t, jeq_f, jeq, ↓reduceIte, ua, Int.natCast_succ]
  · intro n
    show L_X12_teaches_83 N k73 (n + 1) 100 (jI S) (jI sum) (jI (scn w S (8 * a + 8)).1) (jI (scn w S (8 * a + 8)).2.1) (jI (scn w S (8 * a + 8)).2.2) (jI a) (jI ((8 : Nat) : Int)) (hp q G) = _
    rw [L_X12_teaches_83, show ((8 : Nat) : Int) = 8 from rfl, show 8 * (a + 1) = 8 * a + 8 by omega]
    simp (maxSteps := 2000000) (disch := first | assumption | omega) only [jI0, iAdd_j, iSub_j, iMul_j, iNeg_j, Option.bind_some, jlt_t, jlt_f, jlt, jle_t, jle_f, jle, jeq_t, jeq_f, jeq, ↓reduceIte, Int.natCast_succ]
theorem mScan (hN : 10000 ≤ N) (hw : ∀ k, 0 ≤ k → k < 8 → G 102 (657 + k) = w k ∧ -1 ≤ w k ∧ w k ≤ 255) {S : Nat} (hS : TS w S) (sum : Int) (T : Int → Int) (k56 : Nat → Int32 → Int32 → Int32 → mH → Option (Int32 × mH)) : L_X12_teaches_73 N k56 N 100 (jI S) (jI sum) (jI (-1)) (jI (-1)) (jI 9) (jI 0) (hp q (rp G 116 T)) = if (scn w S 64).1 = -1 then k56 100 (jI S) (jI sum) (jI (-1)) (hp q (rp G 116 T)) else k56 100 (jI ((S ||| 2 ^ (scn w S 64).2.1.toNat : Nat) : Int)) (jI (sum + (scn w S 64).2.2)) (jI (scn w S 64).1) (hp q (rp G 116 (u1 T (scn w S 64).2.1 (scn w S 64).1))) := by
  refine loopE (N := N) (fun n (a : Nat) => L_X12_teaches_73 N k56 n 100 (jI S) (jI sum) (jI (scn w S (8 * a)).1) (jI (scn w S (8 * a)).2.1) (jI (scn w S (8 * a)).2.2) (jI a) (hp q (rp G 116 T))) (fun a => a) 8 (by omega) ?_ ?_
  · intro n a ha
    have hw2 : ∀ k, 0 ≤ k → k < 8 → rp G 116 T 102 (657 + k) = w k ∧ -1 ≤ w k ∧ w k ≤ 255 := hw
    have := mScIn (q := q) (N := N) hN hw2 (S := S) hS ha sum 0 (L_X12_teaches_73 N k56 n)
    show L_X12_teaches_73 N k56 (n + 1) 100 (jI S) (jI sum) (jI (scn w S (8 * a)).1) (jI (scn w S (8 * a)).2.1) (jI (scn w S (8 * a)).2.2) (jI a) (hp q (rp G 116 T)) = L_X12_teaches_73 N k56 n 100 (jI S) (jI sum) (jI (scn w S (8 * (a + 1))).1) (jI (scn w S (8 * (a + 1))).2.1) (jI (scn w S (8 * (a + 1))).2.2) (jI ((a + 1 : Nat) : Int)) (hp q (rp G 116 T))
    rw [← this, L_X12_teaches_73]
    simp (maxSteps := 2000000) (disch := first | assumption | omega) only [jI0, iAdd_j, iSub_j, iMul_j, iNeg_j, Option.bind_some, jlt_t, jlt_f, jlt, jle_t, jle_f, jle, jeq_t, jeq_f, jeq, ↓reduceIte]
  · intro n
    show L_X12_teaches_73 N k56 (n + 1) 100 (jI S) (jI sum) (jI (scn w S 64).1) (jI (scn w S 64).2.1) (jI (scn w S 64).2.2) (jI ((8 : Nat) : Int)) (hp q (rp G 116 T)) = _
    have r := scn_r w S 64 (by omega)
    have at1 := sct_at w S T 64
    rw [L_X12_teaches_73, show ((8 : Nat) : Int) = 8 from rfl]
    by_cases c : (scn w S 64).1 = -1
    · rw [if_pos c, c]
      simp (maxSteps := 2000000) (disch := first | assumption | omega) only [jI0, iAdd_j, iSub_j, iMul_j, iNeg_j, Option.bind_some, jlt_t, jlt_f, jlt, jle_t, jle_f, jle, jeq_t, jeq_f, jeq, ↓reduceIte]
    · rw [if_neg c]
      have c2 : (scn w S 64).2.1 ≠ -1 := by
        intro e
        apply c
        have : ∀ p, (scn w S p).2.1 = -1 → (scn w S p).1 = -1 := by
          intro p
          induction p with
          | zero => intro _; rfl
          | succ p ih =>
            simp only [scn]
            split
            · intro x; simp only at x; omega
            · exact ih
        exact this 64 e
      have a2 := at1 c2
      have sh := shl1 (n := (scn w S 64).2.1.toNat) (by omega)
      rw [Int.toNat_of_nonneg a2.2.2.2.2.1] at sh
      have io : iOr (jI (S : Int)) (jI ((2 ^ (scn w S 64).2.1.toNat : Nat) : Int)) = jI ((S ||| 2 ^ (scn w S 64).2.1.toNat : Nat) : Int) := by
        apply ib_ext
        intro k hk
        rw [ib_or, ib_n, ib_n, ib_n, Nat.testBit_or]
        simp [hk]
      have b1 := a2.2.2.2.1
      have b2 := a2.2.2.2.2.1
      generalize scn w S 64 = s at *
      simp (maxSteps := 2000000) (disch := first | assumption | omega) only [jI0, iAdd_j, iSub_j, iMul_j, iNeg_j, Option.bind_some, jlt_t, jlt_f, jlt, jle_t, jle_f, jle, jeq_t, jeq_f, jeq, ↓reduceIte, o100, s116, up_rp, sh, io]
theorem scn_both {w : Int → Int} {S : Nat} : ∀ p, ((scn w S p).2.1 = -1 ↔ (scn w S p).1 = -1)
  | 0 => by simp [scn]
  | p + 1 => by
    simp only [scn]
    split
    · simp only; omega
    · exact scn_both p
theorem mTeach (hN : 10000 ≤ N) (hw : ∀ k, 0 ≤ k → k < 8 → G 102 (657 + k) = w k ∧ -1 ≤ w k ∧ w k ≤ 255) : ∀ (d n S : Nat) (T : Int → Int) (sum x3 : Int), d ≤ 8 → d + 1 < n → TS w S → cnt S + d = 8 → 0 ≤ x3 → x3 ≤ 7 → L_X12_teaches_56 N n 100 (jI S) (jI sum) (jI x3) (hp q (rp G 116 T)) = some (jI (tfn w d (S, T, sum)).2.2, hp q (rp G 116 (tfn w d (S, T, sum)).2.1)) := by
  have stop : ∀ (n S : Nat) (T : Int → Int) (sum x3 : Int), 1 < n → TS w S → (scn w S 64).2.1 = -1 → 0 ≤ x3 → x3 ≤ 7 → L_X12_teaches_56 N n 100 (jI S) (jI sum) (jI x3) (hp q (rp G 116 T)) = some (jI sum, hp q (rp G 116 T)) := by
    intro n S T sum x3 hn hS c x0 x1
    obtain ⟨n, rfl⟩ : ∃ m, n = m + 1 + 1 := ⟨n - 2, by omega⟩
    have ms := mScan (q := q) hN hw hS sum T (L_X12_teaches_56 N (n + 1))
    rw [if_pos ((scn_both 64).mp c)] at ms
    rw [L_X12_teaches_56]
    simp (maxSteps := 2000000) (disch := first | assumption | omega) only [jI0, iAdd_j, iSub_j, iMul_j, iNeg_j, Option.bind_some, jlt_t, jlt_f, jlt, jle_t, jle_f, jle, jeq_t, jeq_f, jeq, ↓reduceIte, ms]
    rw [L_X12_teaches_56]
    simp (maxSteps := 2000000) (disch := first | assumption | omega) only [jI0, iAdd_j, iSub_j, iMul_j, iNeg_j, Option.bind_some, jlt_t, jlt_f, jlt, jle_t, jle_f, jle, jeq_t, jeq_f, jeq, ↓reduceIte]
  intro d
  induction d with
  | zero =>
    intro n S T sum x3 _ hn hS e x0 x1
    exact stop n S T sum x3 (by omega) hS (scn_8 hS (by omega)) x0 x1
  | succ d ih =>
    intro n S T sum x3 hd hn hS e x0 x1
    simp only [tfn]
    by_cases c : (scn w S 64).2.1 = -1
    · rw [if_pos c]
      exact stop n S T sum x3 (by omega) hS c x0 x1
    · rw [if_neg c]
      obtain ⟨n, rfl⟩ : ∃ m, n = m + 1 := ⟨n - 1, by omega⟩
      have ms := mScan (q := q) hN hw hS sum T (L_X12_teaches_56 N n)
      rw [if_neg (fun x => c ((scn_both 64).mpr x))] at ms
      have r := scn_r w S 64 (by omega)
      have a2 := sct_at w S T 64 c
      have nS := hS.next T c
      have := ih n (S ||| 2 ^ (scn w S 64).2.1.toNat) (u1 T (scn w S 64).2.1 (scn w S 64).1) (sum + (scn w S 64).2.2) (scn w S 64).1 (by omega) (by omega) nS.1 (by omega) a2.2.2.2.1 (by omega)
      rw [L_X12_teaches_56]
      simp (maxSteps := 2000000) (disch := first | assumption | omega) only [jI0, iAdd_j, iSub_j, iMul_j, iNeg_j, Option.bind_some, jlt_t, jlt_f, jlt, jle_t, jle_f, jle, jeq_t, jeq_f, jeq, ↓reduceIte, ms]
      exact this
/-- who stands at first, the rows at first -/
def st0 (w : Int → Int) : Nat → Nat
  | 0 => 0
  | k + 1 => if w (7 - (k : Int)) = -1 then st0 w k else 2 ^ (7 - k)
def ft (f : Int → Int) : Nat → Int → Int
  | 0 => f
  | k + 1 => u1 (ft f k) (7 - (k : Int)) (-1)
theorem ft_8 (f : Int → Int) : ∀ (n : Nat) (k : Int), 7 - (n : Int) < k → k < 8 → ft f n k = -1
  | 0, k, h0, h1 => by omega
  | n + 1, k, h0, h1 => by
    simp only [ft]
    by_cases c : k = 7 - (n : Int)
    · rw [c, u1_eq]
    · rw [u1_ne c]; exact ft_8 f n k (by omega) h1
theorem st0_r (w : Int → Int) : ∀ n, n ≤ 8 → (st0 w n = 0 ∧ ∀ k : Int, 7 - (n : Int) < k → k < 8 → w k = -1) ∨ ∃ b : Nat, b < 8 ∧ st0 w n = 2 ^ b ∧ w b ≠ -1
  | 0, _ => .inl ⟨rfl, fun k h0 h1 => by omega⟩
  | n + 1, h => by
    simp only [st0]
    by_cases c : w (7 - (n : Int)) = -1
    · rw [if_pos c]
      rcases st0_r w n (by omega) with ⟨a, b⟩ | x
      · refine .inl ⟨a, fun k h0 h1 => ?_⟩
        by_cases e : k = 7 - (n : Int)
        · rw [e]; exact c
        · exact b k (by omega) h1
      · exact .inr x
    · rw [if_neg c]
      exact .inr ⟨7 - n, by omega, rfl, by rw [show ((7 - n : Nat) : Int) = 7 - (n : Int) by omega]; exact c⟩
theorem oTeachAll (hN : 10000 ≤ N) (hw : ∀ k, 0 ≤ k → k < 8 → G 34 k = w k ∧ -1 ≤ w k ∧ w k ≤ 255) (T0 : Int → Int) (hT0 : ∀ k : Int, 0 ≤ k → k < 8 → T0 k = -1) : ∃ C' : Int → Int, (∀ k : Nat, k < 8 → (tfn w 7 (st0 w 8, T0, 0)).1.testBit k = true → st0 w 8 ≠ 0 → C' k = (tfn w 7 (st0 w 8, T0, 0)).2.1 k) ∧ f_X3_teachAll N 33 (hp q G) = some (jI (if st0 w 8 = 0 then 0 else (tfn w 7 (st0 w 8, T0, 0)).2.2), hp q (rp G 35 C')) := by
  have L : f_X3_teachAll N 33 (hp q G) = L_X3_teachAll_42 N N 33 (jI (st0 w 8 : Nat)) (jI 0) (jI 1) (hp q (rp G 35 (ft (G 35) 8))) := by
    unfold f_X3_teachAll
    refine (loopE (N := N) (fun n (k : Nat) => L_X3_teachAll_5 N n 33 (jI (st0 w k : Nat)) (jI (7 - (k : Int))) (hp q (rp G 35 (ft (G 35) k)))) (fun k => k) 8 (r := L_X3_teachAll_42 N N 33 (jI (st0 w 8 : Nat)) (jI 0) (jI 1) (hp q (rp G 35 (ft (G 35) 8)))) (by omega) ?_ ?_) |> Eq.trans ?_
    · show L_X3_teachAll_5 N N 33 (jI 0) (jI 7) (hp q G) = L_X3_teachAll_5 N N 33 (jI ((0 : Nat) : Int)) (jI (7 - ((0 : Nat) : Int))) (hp q (rp G 35 (G 35)))
      rw [rp_self]
      rfl
    · intro n k hk
      show L_X3_teachAll_5 N (n + 1) 33 (jI (st0 w k : Nat)) (jI (7 - (k : Int))) (hp q (rp G 35 (ft (G 35) k))) = L_X3_teachAll_5 N n 33 (jI (st0 w (k + 1) : Nat)) (jI (7 - ((k + 1 : Nat) : Int))) (hp q (rp G 35 (u1 (ft (G 35) k) (7 - (k : Int)) (-1))))
      have hw2 : ∀ i, 0 ≤ i → i < 8 → rp G 35 (u1 (ft (G 35) k) (7 - (k : Int)) (-1)) 34 i = w i ∧ -1 ≤ w i ∧ w i ≤ 255 := hw
      have t := oTold (N := N) (q := q) hw2 (k := 7 - (k : Int)) (by omega) (by omega)
      have e8 : (7 : Int) - (k : Int) + -1 = 7 - ((k + 1 : Nat) : Int) := by omega
      rw [L_X3_teachAll_5]
      simp only [st0]
      by_cases c : w (7 - (k : Int)) = -1
      · rw [if_pos c]
        rw [bI_f (by intro x; exact x.2 c)] at t
        simp (maxSteps := 2000000) (disch := first | assumption | omega) only [jI0, iAdd_j, iSub_j, iMul_j, iNeg_j, Option.bind_some, jlt_t, jlt_f, jlt, jle_t, jle_f, jle, jeq_t, jeq_f, jeq, ↓reduceIte, o33, s35, up_rp, t, e8]
      · rw [if_neg c]
        rw [bI_t (by refine ⟨by omega, c⟩)] at t
        have sh := shl1 (n := 7 - k) (by omega)
        rw [show ((7 - k : Nat) : Int) = 7 - (k : Int) by omega] at sh
        simp (maxSteps := 2000000) (disch := first | assumption | omega) only [jI0, iAdd_j, iSub_j, iMul_j, iNeg_j, Option.bind_some, jlt_t, jlt_f, jlt, jle_t, jle_f, jle, jeq_t, jeq_f, jeq, ↓reduceIte, o33, s35, up_rp, t, sh, e8]
    · intro n
      show L_X3_teachAll_5 N (n + 1) 33 (jI (st0 w 8 : Nat)) (jI (7 - ((8 : Nat) : Int))) (hp q (rp G 35 (ft (G 35) 8))) = _
      rw [L_X3_teachAll_5, show (7 : Int) - ((8 : Nat) : Int) = -1 from rfl]
      simp (maxSteps := 2000000) (disch := first | assumption | omega) only [jI0, iAdd_j, iSub_j, iMul_j, iNeg_j, Option.bind_some, jlt_t, jlt_f, jlt, jle_t, jle_f, jle, jeq_t, jeq_f, jeq, ↓reduceIte]
  rw [L]
  rcases st0_r w 8 (by omega) with ⟨a, -⟩ | ⟨b, b1, b2, b3⟩
  · refine ⟨ft (G 35) 8, fun k _ _ h => absurd a h, ?_⟩
    rw [if_pos a, a]
    obtain ⟨n, rfl⟩ : ∃ m, N = m + 1 := ⟨N - 1, by omega⟩
    rw [L_X3_teachAll_42, show ((0 : Nat) : Int) = 0 from rfl]
    simp (maxSteps := 2000000) (disch := first | assumption | omega) only [jI0, iAdd_j, iSub_j, iMul_j, iNeg_j, Option.bind_some, jlt_t, jlt_f, jlt, jle_t, jle_f, jle, jeq_t, jeq_f, jeq, ↓reduceIte]
  · have c1 := cnt_1 ⟨b, b1⟩
    have hS : TS w (2 ^ b) := ⟨c1.2, fun k hk t => by
      rw [Nat.testBit_two_pow, decide_eq_true_eq] at t
      rw [← t]; exact b3⟩
    have z : 2 ^ b ≠ 0 := Nat.ne_of_gt (Nat.two_pow_pos b)
    obtain ⟨C', x1, x2⟩ := oTeach (q := q) hN hw 7 N (2 ^ b) (ft (G 35) 8) T0 0 (by omega) (by omega) hS z (fun k hk _ => by rw [ft_8 (G 35) 8 k (by omega) (by omega), hT0 k (by omega) (by omega)])
    rw [b2, if_neg z]
    exact ⟨C', fun k hk t _ => x1 k hk t, x2⟩
theorem mTeachAll (hN : 10000 ≤ N) (hw : ∀ k, 0 ≤ k → k < 8 → G 102 (657 + k) = w k ∧ -1 ≤ w k ∧ w k ≤ 255) : f_X12_teaches N 100 (hp q G) = some (jI (if st0 w 8 = 0 then 0 else (tfn w 7 (st0 w 8, ft (G 116) 8, 0)).2.2), hp q (rp G 116 (if st0 w 8 = 0 then ft (G 116) 8 else (tfn w 7 (st0 w 8, ft (G 116) 8, 0)).2.1))) := by
  have L : f_X12_teaches N 100 (hp q G) = if st0 w 8 = 0 then L_X12_teaches_56 N N 100 (jI (st0 w 8 : Nat)) (jI 0) (jI (-1)) (hp q (rp G 116 (ft (G 116) 8))) else L_X12_teaches_56 N N 100 (jI (st0 w 8 : Nat)) (jI 0) (jI 0) (hp q (rp G 116 (ft (G 116) 8))) := by
    unfold f_X12_teaches
    refine (loopE (N := N) (fun n (k : Nat) => L_X12_teaches_5 N n 100 (jI (st0 w k : Nat)) (jI (7 - (k : Int))) (hp q (rp G 116 (ft (G 116) k)))) (fun k => k) 8 (r := if st0 w 8 = 0 then L_X12_teaches_56 N N 100 (jI (st0 w 8 : Nat)) (jI 0) (jI (-1)) (hp q (rp G 116 (ft (G 116) 8))) else L_X12_teaches_56 N N 100 (jI (st0 w 8 : Nat)) (jI 0) (jI 0) (hp q (rp G 116 (ft (G 116) 8)))) (by omega) ?_ ?_) |> Eq.trans ?_
    · show L_X12_teaches_5 N N 100 (jI 0) (jI 7) (hp q G) = L_X12_teaches_5 N N 100 (jI ((0 : Nat) : Int)) (jI (7 - ((0 : Nat) : Int))) (hp q (rp G 116 (G 116)))
      rw [rp_self]
      rfl
    · intro n k hk
      show L_X12_teaches_5 N (n + 1) 100 (jI (st0 w k : Nat)) (jI (7 - (k : Int))) (hp q (rp G 116 (ft (G 116) k))) = L_X12_teaches_5 N n 100 (jI (st0 w (k + 1) : Nat)) (jI (7 - ((k + 1 : Nat) : Int))) (hp q (rp G 116 (u1 (ft (G 116) k) (7 - (k : Int)) (-1))))
      have t := hw (7 - (k : Int)) (by omega) (by omega)
      have e8 : (7 : Int) - (k : Int) + -1 = 7 - ((k + 1 : Nat) : Int) := by omega
      rw [L_X12_teaches_5]
      simp only [st0]
      by_cases c : w (7 - (k : Int)) = -1
      · rw [if_pos c]
        simp (maxSteps := 2000000) (disch := first | assumption | omega) only [jI0, iAdd_j, iSub_j, iMul_j, iNeg_j, Option.bind_some, jlt_t, jlt_f, jlt, jle_t, jle_f, jle, jeq_t, jeq_f, jeq, ↓reduceIte, o100, s116, up_rp, l102, rp_ne, t.1, c, e8]
      · rw [if_neg c]
        have sh := shl1 (n := 7 - k) (by omega)
        rw [show ((7 - k : Nat) : Int) = 7 - (k : Int) by omega] at sh
        simp (maxSteps := 2000000) (disch := first | assumption | omega) only [jI0, iAdd_j, iSub_j, iMul_j, iNeg_j, Option.bind_some, jlt_t, jlt_f, jlt, jle_t, jle_f, jle, jeq_t, jeq_f, jeq, ↓reduceIte, o100, s116, up_rp, l102, rp_ne, t.1, sh, e8]
    · intro n
      show L_X12_teaches_5 N (n + 1) 100 (jI (st0 w 8 : Nat)) (jI (7 - ((8 : Nat) : Int))) (hp q (rp G 116 (ft (G 116) 8))) = _
      have r8 : st0 w 8 < 256 := by
        rcases st0_r w 8 (by omega) with ⟨a, -⟩ | ⟨b, b1, b2, b3⟩
        · omega
        · rw [b2]; exact (cnt_1 ⟨b, b1⟩).2
      rw [L_X12_teaches_5, show (7 : Int) - ((8 : Nat) : Int) = -1 from rfl]
      by_cases c : st0 w 8 = 0
      · rw [if_pos c, c, show ((0 : Nat) : Int) = 0 from rfl]
        simp (maxSteps := 2000000) (disch := first | assumption | omega) only [jI0, iAdd_j, iSub_j, iMul_j, iNeg_j, Option.bind_some, jlt_t, jlt_f, jlt, jle_t, jle_f, jle, jeq_t, jeq_f, jeq, ↓reduceIte]
      · rw [if_neg c]
        simp (maxSteps := 2000000) (disch := first | assumption | omega) only [jI0, iAdd_j, iSub_j, iMul_j, iNeg_j, Option.bind_some, jlt_t, jlt_f, jlt, jle_t, jle_f, jle, jeq_t, jeq_f, jeq, ↓reduceIte]
  rw [L]
  rcases st0_r w 8 (by omega) with ⟨a, -⟩ | ⟨b, b1, b2, b3⟩
  · rw [if_pos a, if_pos a, if_pos a, a]
    obtain ⟨n, rfl⟩ : ∃ m, N = m + 1 := ⟨N - 1, by omega⟩
    rw [L_X12_teaches_56]
    simp (maxSteps := 2000000) (disch := first | assumption | omega) only [jI0, iAdd_j, iSub_j, iMul_j, iNeg_j, Option.bind_some, jlt_t, jlt_f, jlt, jle_t, jle_f, jle, jeq_t, jeq_f, jeq, ↓reduceIte]
  · have c1 := cnt_1 ⟨b, b1⟩
    have hS : TS w (2 ^ b) := ⟨c1.2, fun k hk t => by
      rw [Nat.testBit_two_pow, decide_eq_true_eq] at t
      rw [← t]; exact b3⟩
    have z : 2 ^ b ≠ 0 := Nat.ne_of_gt (Nat.two_pow_pos b)
    rw [b2, if_neg z, if_neg z, if_neg z]
    exact mTeach hN hw 7 N (2 ^ b) (ft (G 116) 8) 0 0 (by omega) (by omega) hS (by have := c1.1; simp only at this; omega) (by omega) (by omega)
theorem op_taught (hN : 10000 ≤ N) (hI : INV K1 K2 q G) {k : Int} (h1 : -2147483648 ≤ k) (h2 : k < 2147483648) : OP K1 K2 q G (f_X11_taught N 0 (jI k)) (f_X12_taught N 100 (jI k)) := by
  have hB := hI.1.1; have hV := hB.1; have hT := hI.1.2.1; have g := hV.1
  have hH := hI.1.2.2.2.2.1
  generalize hw' : (fun k => G 102 (657 + k)) = w
  have we : ∀ k, G 102 (657 + k) = w k := fun k => by rw [← hw']
  have hw : ∀ k, 0 ≤ k → k < 8 → G 34 k = w k ∧ -1 ≤ w k ∧ w k ≤ 255 := fun k k0 k1 => by
    have := hH k k0 k1
    rw [we] at this
    exact this
  have go : ∀ (k : Int), (k = -1 ∨ (0 ≤ k ∧ k < 8 ∧ w k ≠ -1)) → OP K1 K2 q G (f_X11_taught N 0 (jI k)) (f_X12_taught N 100 (jI k)) := by
    intro k hk
    obtain ⟨C', c1, c2⟩ := oTeachAll (q := q) hN hw (ft (G 116) 8) (fun k k0 k1 => ft_8 (G 116) 8 k (by omega) k1)
    have hm : ∀ k, 0 ≤ k → k < 8 → rp G 35 C' 102 (657 + k) = w k ∧ -1 ≤ w k ∧ w k ≤ 255 := fun k k0 k1 => ⟨we k, (hw k k0 k1).2⟩
    have m1 := mTeachAll (q := q) (G := rp G 35 C') hN hm
    have e116 : rp G 35 C' 116 = G 116 := rp_ne (by decide)
    rw [e116] at m1
    have wt := w100t (q := q) (G := rp G 35 C') hT
    have fin : INV K1 K2 q (rp (rp G 35 C') 116 (if st0 w 8 = 0 then ft (G 116) 8 else (tfn w 7 (st0 w 8, ft (G 116) 8, 0)).2.1)) := by
      refine hI.sc (SC.of (fun a ha => ?_))
      rw [rp_ne (by rintro rfl; cases ha), rp_ne (by rintro rfl; cases ha)]
    rcases hk with rfl | ⟨k0, k1, k2⟩
    · refine ⟨jI (if st0 w 8 = 0 then 0 else (tfn w 7 (st0 w 8, ft (G 116) 8, 0)).2.2), q, rp G 35 C', _, ?_, ?_, fin⟩
      · unfold f_X11_taught
        simp (maxSteps := 2000000) (disch := first | assumption | omega) only [jI0, iAdd_j, iSub_j, iMul_j, iNeg_j, Option.bind_some, jlt_t, jlt_f, jlt, jle_t, jle_f, jle, jeq_t, jeq_f, jeq, ↓reduceIte, o0, o33, c2]
      · unfold f_X12_taught J_X12_taught_43
        simp (maxSteps := 2000000) (disch := first | assumption | omega) only [jI0, iAdd_j, iSub_j, iMul_j, iNeg_j, Option.bind_some, jlt_t, jlt_f, jlt, jle_t, jle_f, jle, jeq_t, jeq_f, jeq, ↓reduceIte, wt, o100, m1]
    · obtain ⟨i, rfl⟩ := Int.eq_ofNat_of_zero_le k0
      have told := oTold (N := N) (q := q) hw (k := (i : Int)) (by omega) (by omega)
      rw [bI_t (by refine ⟨by omega, k2⟩)] at told
      have z : st0 w 8 ≠ 0 := by
        rcases st0_r w 8 (by omega) with ⟨a, b⟩ | ⟨b, b1, b2, b3⟩
        · exact absurd (b i (by omega) k1) k2
        · rw [b2]; exact Nat.ne_of_gt (Nat.two_pow_pos b)
      obtain ⟨b, b1, b2, b3⟩ : ∃ b : Nat, b < 8 ∧ st0 w 8 = 2 ^ b ∧ w b ≠ -1 := by
        rcases st0_r w 8 (by omega) with ⟨a, -⟩ | x
        · exact absurd a z
        · exact x
      have cb := cnt_1 ⟨b, b1⟩
      have hS : TS w (2 ^ b) := ⟨cb.2, fun k hk t => by
        rw [Nat.testBit_two_pow, decide_eq_true_eq] at t
        rw [← t]; exact b3⟩
      have all := tfn_all (w := w) (d := 7) (s := (st0 w 8, ft (G 116) 8, 0)) (fun k hk => (hw k (by omega) (by omega)).2) (by show TS w (st0 w 8); rw [b2]; exact hS) (by show cnt (st0 w 8) + 7 = 8; rw [b2]; have := cb.1; simp only at this; omega) (a := b) b1 (by show (st0 w 8).testBit b = true; rw [b2, Nat.testBit_two_pow]; simp) (b := i) (by omega) k2
      have same := c1 i (by omega) all z
      rw [if_neg z] at c2 m1 fin
      refine ⟨jI (C' i), q, rp G 35 C', _, ?_, ?_, fin⟩
      · unfold f_X11_taught f_X3_teacherOf f_X3_isHand
        simp (maxSteps := 2000000) (disch := first | assumption | omega) only [jI0, iAdd_j, iSub_j, iMul_j, iNeg_j, Option.bind_some, jlt_t, jlt_f, jlt, jle_t, jle_f, jle, jeq_t, jeq_f, jeq, ↓reduceIte, o0, o33, told, c2, l35, rp_eq]
      · unfold f_X12_taught J_X12_taught_43
        rw [if_neg z] at m1
        have wk : rp G 35 C' 102 (657 + (i : Int)) = w i := we i
        have wr := (hw i (by omega) k1).2
        simp (maxSteps := 2000000) (disch := first | assumption | omega) only [jI0, iAdd_j, iSub_j, iMul_j, iNeg_j, Option.bind_some, jlt_t, jlt_f, jlt, jle_t, jle_f, jle, jeq_t, jeq_f, jeq, ↓reduceIte, wt, o100, jlL, X12_within, bI_t, l102, wk, m1, l116, rp_eq, same]
  by_cases c0 : k = -1
  · exact go k (.inl c0)
  by_cases c : 0 ≤ k ∧ k < 8
  · by_cases c1 : w k = -1
    · have told := oTold (N := N) (q := q) hw (k := k) h1 h2
      rw [bI_f (by intro x; exact x.2 c1)] at told
      refine OP.rf hI (-2) (jI (-2)) ?_ ?_
      · unfold f_X11_taught
        simp (maxSteps := 2000000) (disch := first | assumption | omega) only [jI0, iAdd_j, iSub_j, iMul_j, iNeg_j, Option.bind_some, jlt_t, jlt_f, jlt, jle_t, jle_f, jle, jeq_t, jeq_f, jeq, ↓reduceIte, o0, o2, o12, hBand, hStake, hKind, hCross, hWeaver, oBand, oKindOf, oKind, oCr, oRing, oWv, oPer, oRows, oAhead, oWhen, oAll, oStep, oRods, oRodAt, oStakeAt, oOff, bI_t, bI_f, X11_refuse, o33, told]
      · intro G1 hM e eo
        have wk : G1 102 (657 + k) = w k := by rw [e]; exact we k
        have wt := w100t (q := q) hM.2
        unfold f_X12_taught
        simp (maxSteps := 2000000) (disch := first | assumption | omega) only [jI0, iAdd_j, iSub_j, iMul_j, iNeg_j, Option.bind_some, jlt_t, jlt_f, jlt, jle_t, jle_f, jle, jeq_t, jeq_f, jeq, ↓reduceIte, wt, o100, jlL, X12_within, bI_t, l102, wk, c1, X12_no]
    · exact go k (.inr ⟨c.1, c.2, c1⟩)
  · have told := oTold (N := N) (q := q) hw (k := k) h1 h2
    rw [bI_f (by intro x; exact c x.1)] at told
    refine OP.rf hI (-2) (jI (-2)) ?_ ?_
    · unfold f_X11_taught
      simp (maxSteps := 2000000) (disch := first | assumption | omega) only [jI0, iAdd_j, iSub_j, iMul_j, iNeg_j, Option.bind_some, jlt_t, jlt_f, jlt, jle_t, jle_f, jle, jeq_t, jeq_f, jeq, ↓reduceIte, o0, o2, o12, hBand, hStake, hKind, hCross, hWeaver, oBand, oKindOf, oKind, oCr, oRing, oWv, oPer, oRows, oAhead, oWhen, oAll, oStep, oRods, oRodAt, oStakeAt, oOff, bI_t, bI_f, X11_refuse, o33, told]
    · intro G1 hM e eo
      have wt := w100t (q := q) hM.2
      unfold f_X12_taught
      simp (maxSteps := 2000000) (disch := first | assumption | omega) only [jI0, iAdd_j, iSub_j, iMul_j, iNeg_j, Option.bind_some, jlt_t, jlt_f, jlt, jle_t, jle_f, jle, jeq_t, jeq_f, jeq, ↓reduceIte, wt, o100, jlL, X12_within, bI_f, X12_no]
end
