/-! texts of pictures: the component's side -/
def sgB (ws v : Int) : Bool := if ws = 0 then (v == 111 || v == 117 || v == 63) else (v == 46 || (decide (48 ≤ v) && decide (v ≤ 53)))
theorem sgB_8 {ws v : Int} (h0 : 0 ≤ v) (h1 : v ≤ 255) : sgB ws (i8 v) = sgB ws v := by
  unfold i8
  split
  · rfl
  · have e : ∀ c : Int, 0 ≤ c → c < 128 → (v - 256 == c) = false ∧ (v == c) = false := fun c c0 c1 => ⟨by simp; omega, by simp; omega⟩
    have e1 : decide (48 ≤ v - 256) = false := decide_eq_false (by omega)
    have e2 : decide (v ≤ 53) = false := decide_eq_false (by omega)
    unfold sgB
    rw [(e 111 (by omega) (by omega)).1, (e 111 (by omega) (by omega)).2, (e 117 (by omega) (by omega)).1, (e 117 (by omega) (by omega)).2, (e 63 (by omega) (by omega)).1, (e 63 (by omega) (by omega)).2, (e 46 (by omega) (by omega)).1, (e 46 (by omega) (by omega)).2, e1, e2, Bool.and_false, Bool.false_and]
theorem i8_eq {v c : Int} (h0 : 0 ≤ v) (h1 : v ≤ 255) (h2 : 0 ≤ c) (h3 : c < 128) : (i8 v = c) = (v = c) := by
  unfold i8
  apply propext
  split <;> omega
/-- the first k signs are as a picture's -/
def piBt (ws S : Int) (T : Int → Int) : Nat → Bool
  | 0 => true
  | k + 1 => piBt ws S T k && (if (k : Int) % (S + 1) = S then T k == 59 else sgB ws (T k))
theorem piBt_no {ws S : Int} {T : Int → Int} {k : Nat} (h : piBt ws S T k = false) : ∀ d, piBt ws S T (k + d) = false
  | 0 => h
  | d + 1 => by
    show (piBt ws S T (k + d) && _) = false
    rw [piBt_no h d]
    rfl
theorem piBt_at {ws S : Int} {T : Int → Int} : ∀ {n : Nat}, piBt ws S T n = true → ∀ k : Nat, k < n → (if (k : Int) % (S + 1) = S then T k == 59 else sgB ws (T k)) = true
  | 0, _, k, hk => by omega
  | n + 1, h, k, hk => by
    simp only [piBt, Bool.and_eq_true] at h
    by_cases c : k = n
    · subst c; exact h.2
    · exact piBt_at h.1 k (by omega)
/-- bits of a row, its kind -/
def pOv (ws v : Int) : Bool := if ws = 1 then !(v == 46) else v == 111
def pUn (ws v : Int) : Bool := if ws = 1 then false else v == 117
def pKd (ws : Int) (f : Int → Int) : Nat → Int
  | 0 => -1
  | s + 1 => if ws = 1 then (if f s = 46 then pKd ws f s else if pKd ws f s = -1 ∨ pKd ws f s = f s - 48 then f s - 48 else -2) else -1
theorem pKd_0 (f : Int → Int) : ∀ n, pKd 0 f n = -1
  | 0 => rfl
  | n + 1 => rfl
theorem pKd_r {f : Int → Int} : ∀ {n : Nat}, (∀ k : Nat, k < n → f k = 46 ∨ (48 ≤ f k ∧ f k ≤ 53)) → -2 ≤ pKd 1 f n ∧ pKd 1 f n ≤ 5
  | 0, _ => by simp only [pKd]; omega
  | n + 1, h => by
    have a := pKd_r (n := n) (fun k hk => h k (by omega))
    have b := h n (by omega)
    simp only [pKd, ↓reduceIte]
    split
    · exact a
    · split <;> omega
theorem pKd_w {f : Int → Int} : ∀ {n : Nat}, (∀ k : Nat, k < n → f k = 46 ∨ (48 ≤ f k ∧ f k ≤ 53)) → ((pKd 1 f n = -1 ∧ ∀ s : Int, 0 ≤ s → s < n → f s = 46) ∨ (0 ≤ pKd 1 f n ∧ pKd 1 f n ≤ 5 ∧ (∃ s : Int, 0 ≤ s ∧ s < n ∧ f s = 48 + pKd 1 f n) ∧ ∀ s : Int, 0 ≤ s → s < n → f s = 46 ∨ f s = 48 + pKd 1 f n) ∨ (pKd 1 f n = -2 ∧ ∃ s t : Int, 0 ≤ s ∧ s < n ∧ 0 ≤ t ∧ t < n ∧ f s ≠ 46 ∧ f t ≠ 46 ∧ f s ≠ f t))
  | 0, _ => .inl ⟨rfl, fun s s0 s1 => by omega⟩
  | n + 1, h => by
    have b := h n (by omega)
    have ih := pKd_w (n := n) (fun k hk => h k (by omega))
    simp only [pKd, ↓reduceIte]
    by_cases c : f n = 46
    · rw [if_pos c]
      rcases ih with ⟨x, y⟩ | ⟨x, y, ⟨s, z1, z2, z3⟩, w⟩ | ⟨x, s, t, y1, y2, y3, y4, y5, y6, y7⟩
      · refine .inl ⟨x, fun s s0 s1 => ?_⟩
        by_cases d : s = n
        · rw [d]; exact c
        · exact y s s0 (by omega)
      · refine .inr (.inl ⟨x, y, ⟨s, z1, by omega, z3⟩, fun s s0 s1 => ?_⟩)
        by_cases d : s = n
        · rw [d]; exact .inl c
        · exact w s s0 (by omega)
      · exact .inr (.inr ⟨x, s, t, y1, by omega, y3, by omega, y5, y6, y7⟩)
    · rw [if_neg c]
      rcases ih with ⟨x, y⟩ | ⟨x, y, ⟨s, z1, z2, z3⟩, w⟩ | ⟨x, s, t, y1, y2, y3, y4, y5, y6, y7⟩
      · rw [if_pos (.inl x)]
        refine .inr (.inl ⟨by omega, by omega, ⟨n, by omega, by omega, by omega⟩, fun s s0 s1 => ?_⟩)
        by_cases d : s = n
        · rw [d]; exact .inr (by omega)
        · exact .inl (y s s0 (by omega))
      · by_cases e : pKd 1 f n = f n - 48
        · rw [if_pos (.inr e)]
          refine .inr (.inl ⟨by omega, by omega, ⟨n, by omega, by omega, by omega⟩, fun s s0 s1 => ?_⟩)
          by_cases d : s = n
          · rw [d]; exact .inr (by omega)
          · rcases w s s0 (by omega) with q | q
            · exact .inl q
            · exact .inr (by omega)
        · rw [if_neg (by omega)]
          refine .inr (.inr ⟨rfl, n, s, by omega, by omega, z1, by omega, c, by omega, by omega⟩)
      · rw [if_neg (by omega)]
        exact .inr (.inr ⟨rfl, s, t, y1, by omega, y3, by omega, y5, y6, y7⟩)
/-- rows of a picture object, one of them in work -/
def PiR (G H : Nat → Int → Int) (P : Nat) (r o u k : Int) : Prop := (∀ a, a ≠ P + 1 → a ≠ P + 2 → a ≠ P + 3 → H a = G a) ∧ (H (P + 1) r = o ∧ H (P + 2) r = u ∧ H (P + 3) r = k) ∧ ∀ i, i ≠ r → H (P + 1) i = G (P + 1) i ∧ H (P + 2) i = G (P + 2) i ∧ H (P + 3) i = G (P + 3) i
section
variable {K1 K2 : (Int → Int) → (Int → Int) → Prop} {q : Nat × Nat × (Nat → Nat)} {G : Nat → Int → Int} {N : Nat}
theorem oSign {ws v : Int} (hw : ws = 0 ∨ ws = 1) (h1 : -128 ≤ v) (h2 : v < 256) {h : mH} : f_X6_isSign N (jI v) (jI ws) h = some (bI (sgB ws v = true), h) := by
  unfold f_X6_isSign
  rcases hw with rfl | rfl
  · by_cases c1 : v = 111
    · subst c1; simp (maxSteps := 2000000) (disch := first | assumption | omega) only [jI0, iAdd_j, iSub_j, iMul_j, iNeg_j, Option.bind_some, jlt_t, jlt_f, jlt, jle_t, jle_f, jle, jeq_t, jeq_f, jeq, ↓reduceIte]; rfl
    · by_cases c2 : v = 117
      · subst c2; simp (maxSteps := 2000000) (disch := first | assumption | omega) only [jI0, iAdd_j, iSub_j, iMul_j, iNeg_j, Option.bind_some, jlt_t, jlt_f, jlt, jle_t, jle_f, jle, jeq_t, jeq_f, jeq, ↓reduceIte]; rfl
      · by_cases c3 : v = 63
        · subst c3; simp (maxSteps := 2000000) (disch := first | assumption | omega) only [jI0, iAdd_j, iSub_j, iMul_j, iNeg_j, Option.bind_some, jlt_t, jlt_f, jlt, jle_t, jle_f, jle, jeq_t, jeq_f, jeq, ↓reduceIte]; rfl
        · rw [bI_f (by unfold sgB; simp [c1, c2, c3])]
          simp (maxSteps := 2000000) (disch := first | assumption | omega) only [jI0, iAdd_j, iSub_j, iMul_j, iNeg_j, Option.bind_some, jlt_t, jlt_f, jlt, jle_t, jle_f, jle, jeq_t, jeq_f, jeq, ↓reduceIte]
  · by_cases c1 : v = 46
    · subst c1; simp (maxSteps := 2000000) (disch := first | assumption | omega) only [jI0, iAdd_j, iSub_j, iMul_j, iNeg_j, Option.bind_some, jlt_t, jlt_f, jlt, jle_t, jle_f, jle, jeq_t, jeq_f, jeq, ↓reduceIte]; rfl
    · by_cases c2 : v < 48
      · rw [bI_f (by unfold sgB; simp [c1]; omega)]
        simp (maxSteps := 2000000) (disch := first | assumption | omega) only [jI0, iAdd_j, iSub_j, iMul_j, iNeg_j, Option.bind_some, jlt_t, jlt_f, jlt, jle_t, jle_f, jle, jeq_t, jeq_f, jeq, ↓reduceIte]
      · by_cases c3 : 53 < v
        · rw [bI_f (by unfold sgB; simp [c1]; omega)]
          simp (maxSteps := 2000000) (disch := first | assumption | omega) only [jI0, iAdd_j, iSub_j, iMul_j, iNeg_j, Option.bind_some, jlt_t, jlt_f, jlt, jle_t, jle_f, jle, jeq_t, jeq_f, jeq, ↓reduceIte]
        · rw [bI_t (by unfold sgB; simp [c1]; omega)]
          simp (maxSteps := 2000000) (disch := first | assumption | omega) only [jI0, iAdd_j, iSub_j, iMul_j, iNeg_j, Option.bind_some, jlt_t, jlt_f, jlt, jle_t, jle_f, jle, jeq_t, jeq_f, jeq, ↓reduceIte]
theorem oIsPic (hN : 10000 ≤ N) {ws S : Int} {T : Int → Int} {n : Nat} (hw : ws = 0 ∨ ws = 1) (hS : 3 ≤ S ∧ S ≤ 32) (hn : n ≤ 500) (ht : ∀ k : Int, 0 ≤ k → k < n → 0 ≤ T k ∧ T k ≤ 255 ∧ G 1 k = i8 (T k)) : f_X6_isPicture N 1 (jI n) (jI S) (jI ws) (hp q G) = some (bI ((S + 1 ≤ n ∧ n ≤ 8 * (S + 1) ∧ (n : Int) % (S + 1) = 0) ∧ piBt ws S T n = true), hp q G) := by
  have LL : ∀ (d f k : Nat), k + d = n → d < f → piBt ws S T k = true → L_X6_isPicture_45 N f 1 (jI n) (jI S) (jI ws) (jI ((k : Int) % (S + 1))) (jI k) (hp q G) = some (bI (piBt ws S T n = true), hp q G) := by
    intro d
    induction d with
    | zero =>
      intro f k hk hf hb
      obtain ⟨f, rfl⟩ : ∃ x, f = x + 1 := ⟨f - 1, by omega⟩
      have kn : k = n := by omega
      subst kn
      rw [bI_t hb, L_X6_isPicture_45]
      simp (maxSteps := 2000000) (disch := first | assumption | omega) only [jI0, iAdd_j, iSub_j, iMul_j, iNeg_j, Option.bind_some, jlt_t, jlt_f, jlt, jle_t, jle_f, jle, jeq_t, jeq_f, jeq, ↓reduceIte]
    | succ d ih =>
      intro f k hk hf hb
      obtain ⟨f, rfl⟩ : ∃ x, f = x + 1 := ⟨f - 1, by omega⟩
      have m0 : 0 ≤ (k : Int) % (S + 1) := Int.emod_nonneg _ (by omega)
      have m1 : (k : Int) % (S + 1) < S + 1 := Int.emod_lt_of_pos _ (by omega)
      have t := ht k (by omega) (by omega)
      have r8 := i8_r (v := T k) (by omega) (by omega)
      have nb : ∀ b : Bool, (if (k : Int) % (S + 1) = S then T k == 59 else sgB ws (T k)) = b → J_X6_isPicture_82 N (L_X6_isPicture_45 N f) 1 (jI n) (jI S) (jI ws) (jI ((k : Int) % (S + 1))) (jI k) (bI (b = true)) (hp q G) = some (bI (piBt ws S T n = true), hp q G) := by
        intro b e
        have pe : piBt ws S T (k + 1) = b := by
          show (piBt ws S T k && _) = b
          rw [hb, e, Bool.true_and]
        unfold J_X6_isPicture_82
        cases b with
        | false =>
          have := piBt_no pe d
          rw [show k + 1 + d = n by omega] at this
          rw [bI_f (by decide), this, bI_f (by decide)]
          simp (maxSteps := 2000000) (disch := first | assumption | omega) only [jI0, iAdd_j, iSub_j, iMul_j, iNeg_j, Option.bind_some, jlt_t, jlt_f, jlt, jle_t, jle_f, jle, jeq_t, jeq_f, jeq, ↓reduceIte]
        | true =>
          have nx := ih f (k + 1) (by omega) (by omega) pe
          rw [bI_t rfl]
          by_cases c : (k : Int) % (S + 1) = S
          · have em : ((k + 1 : Nat) : Int) % (S + 1) = 0 := by
              rw [Int.natCast_succ, ← Int.emod_add_emod, c, Int.emod_self]
            rw [em, Int.natCast_succ] at nx
            rw [c]
            simp (maxSteps := 2000000) (disch := first | assumption | omega) only [jI0, iAdd_j, iSub_j, iMul_j, iNeg_j, Option.bind_some, jlt_t, jlt_f, jlt, jle_t, jle_f, jle, jeq_t, jeq_f, jeq, ↓reduceIte, nx]
          · have em : ((k + 1 : Nat) : Int) % (S + 1) = (k : Int) % (S + 1) + 1 := by
              rw [Int.natCast_succ, ← Int.emod_add_emod, Int.emod_eq_of_lt (by omega) (by omega)]
            rw [em, Int.natCast_succ] at nx
            simp (maxSteps := 2000000) (disch := first | assumption | omega) only [jI0, iAdd_j, iSub_j, iMul_j, iNeg_j, Option.bind_some, jlt_t, jlt_f, jlt, jle_t, jle_f, jle, jeq_t, jeq_f, jeq, ↓reduceIte, nx]
      have gt : G 1 k = i8 (T k) := t.2.2
      rw [L_X6_isPicture_45]
      by_cases c : (k : Int) % (S + 1) = S
      · have e59 := i8_eq (v := T k) (c := 59) (by omega) (by omega) (by omega) (by omega)
        by_cases c2 : T k = 59
        · have := nb true (by rw [if_pos c, c2]; rfl)
          rw [bI_t rfl] at this
          rw [c2] at gt
          have i59 : i8 59 = 59 := rfl
          rw [c] at this ⊢
          simp (maxSteps := 2000000) (disch := first | assumption | omega) only [jI0, iAdd_j, iSub_j, iMul_j, iNeg_j, Option.bind_some, jlt_t, jlt_f, jlt, jle_t, jle_f, jle, jeq_t, jeq_f, jeq, ↓reduceIte, l1, gt, i59]
          exact this
        · have := nb false (by rw [if_pos c]; simp [c2])
          rw [bI_f (by decide)] at this
          have n59 : ¬ i8 (T k) = 59 := by rw [e59]; exact c2
          rw [c] at this ⊢
          simp (maxSteps := 2000000) (disch := first | assumption | omega) only [jI0, iAdd_j, iSub_j, iMul_j, iNeg_j, Option.bind_some, jlt_t, jlt_f, jlt, jle_t, jle_f, jle, jeq_t, jeq_f, jeq, ↓reduceIte, l1, gt, n59]
          exact this
      · have sg := oSign (N := N) (h := hp q G) hw (v := i8 (T k)) (by omega) (by omega)
        rw [sgB_8 t.1 t.2.1] at sg
        have := nb (sgB ws (T k)) (by rw [if_neg c])
        simp (maxSteps := 2000000) (disch := first | assumption | omega) only [jI0, iAdd_j, iSub_j, iMul_j, iNeg_j, Option.bind_some, jlt_t, jlt_f, jlt, jle_t, jle_f, jle, jeq_t, jeq_f, jeq, ↓reduceIte, l1, gt, sg]
        exact this
  unfold f_X6_isPicture
  have w2 : iMax (jI 1) (jI (S + 1)) = jI (S + 1) := by rw [iMax_j (by omega) (by omega) (by omega) (by omega), Int.max_eq_right (by omega)]
  have z : (jI (S + 1) = jI 0) = False := jeq_f (by omega)
  by_cases c1 : (n : Int) < S + 1
  · rw [bI_f (by omega)]
    simp (maxSteps := 2000000) (disch := first | assumption | omega) only [jI0, iAdd_j, iSub_j, iMul_j, iNeg_j, Option.bind_some, jlt_t, jlt_f, jlt, jle_t, jle_f, jle, jeq_t, jeq_f, jeq, ↓reduceIte]
  by_cases c2 : 8 * (S + 1) < (n : Int)
  · rw [bI_f (by omega)]
    simp (maxSteps := 2000000) (disch := first | assumption | omega) only [jI0, iAdd_j, iSub_j, iMul_j, iNeg_j, Option.bind_some, jlt_t, jlt_f, jlt, jle_t, jle_f, jle, jeq_t, jeq_f, jeq, ↓reduceIte]
  have m0 : 0 ≤ (n : Int) % (S + 1) := Int.emod_nonneg _ (by omega)
  have m1 : (n : Int) % (S + 1) < S + 1 := Int.emod_lt_of_pos _ (by omega)
  by_cases c3 : (n : Int) % (S + 1) = 0
  · have l := LL n N 0 (by omega) (by omega) rfl
    rw [show ((0 : Nat) : Int) = 0 from rfl, Int.zero_emod] at l
    have e : ((S + 1 ≤ n ∧ n ≤ 8 * (S + 1) ∧ (n : Int) % (S + 1) = 0) ∧ piBt ws S T n = true) = (piBt ws S T n = true) := propext ⟨fun h => h.2, fun h => ⟨⟨by omega, by omega, c3⟩, h⟩⟩
    simp only [e]
    rw [← l]
    simp (maxSteps := 2000000) (disch := first | assumption | omega) only [jI0, iAdd_j, iSub_j, iMul_j, iNeg_j, Option.bind_some, jlt_t, jlt_f, jlt, jle_t, jle_f, jle, jeq_t, jeq_f, jeq, ↓reduceIte, n1, w2, z, iRem_p, c3]
  · rw [bI_f (by omega)]
    simp (maxSteps := 2000000) (disch := first | assumption | omega) only [jI0, iAdd_j, iSub_j, iMul_j, iNeg_j, Option.bind_some, jlt_t, jlt_f, jlt, jle_t, jle_f, jle, jeq_t, jeq_f, jeq, ↓reduceIte, n1, w2, z, iRem_p, c3]
theorem oTkW {P : Nat} (hP : isPi P) {H : Nat → Int → Int} {r s v : Int} {f : Int → Int} (r0 : 0 ≤ r) (r1 : r < 8) {n : Nat} (hs : s = n) (s1 : n < 32) (hv : f n = v) (h46 : v = 46 ∨ (48 ≤ v ∧ v ≤ 53)) (hk : -2 ≤ pKd 1 f n ∧ pKd 1 f n ≤ 5) (hr : PiR G H P r (msk (fun j => pOv 1 (f j)) n) (msk (fun j => pUn 1 (f j)) n) (pKd 1 f n)) : ∃ H', PiR G H' P r (msk (fun j => pOv 1 (f j)) (n + 1)) (msk (fun j => pUn 1 (f j)) (n + 1)) (pKd 1 f (n + 1)) ∧ f_X6_takeWished N P (jI r) (iShl (jI 1) (jI s)) (jI v) (hp q H) = some (hp q H') := by
  subst hs
  obtain ⟨l, a0, a1, a2, a3⟩ := hP
  obtain ⟨x1, ⟨x2, x3, x4⟩, x5⟩ := hr
  have r7 : ∀ H, gR (hp q H) 6 P 1 = some (P + 1) := fun H => hgR (by omega) a0 rfl
  have r9 : ∀ H, gR (hp q H) 6 P 3 = some (P + 3) := fun H => hgR (by omega) a0 rfl
  have l1' : ∀ H : Nat → Int → Int, ldI 0 (hp q H) (P + 1) (jI r) = some (jI (H (P + 1) r)) := fun H => hld (n := 8) (by omega) a1 (.inl rfl) (by omega) r0 (by omega)
  have l3' : ∀ H : Nat → Int → Int, ldI 0 (hp q H) (P + 3) (jI r) = some (jI (H (P + 3) r)) := fun H => hld (n := 8) (by omega) a3 (.inl rfl) (by omega) r0 (by omega)
  have s1' : ∀ (H : Nat → Int → Int) (v : Int), stI 0 (hp q H) (P + 1) (jI r) (jI v) = some (hp q (up H (P + 1) r v)) := fun H v => hst (n := 8) (by omega) a1 (.inl rfl) (by omega) r0 (by omega) rfl
  have s3' : ∀ (H : Nat → Int → Int) (v : Int), stI 0 (hp q H) (P + 3) (jI r) (jI v) = some (hp q (up H (P + 3) r v)) := fun H v => hst (n := 8) (by omega) a3 (.inl rfl) (by omega) r0 (by omega) rfl
  have eU : msk (fun j => pUn 1 (f j)) (n + 1) = msk (fun j => pUn 1 (f j)) n := by
    simp [msk, pUn]
  have eK : pKd 1 f (n + 1) = if v = 46 then pKd 1 f n else if pKd 1 f n = -1 ∨ pKd 1 f n = v - 48 then v - 48 else -2 := by simp only [pKd, ↓reduceIte]; rw [hv]
  rw [eU, eK]
  have mn := msk_next (fun j => pOv 1 (f j)) (n := n) s1
  unfold f_X6_takeWished
  by_cases c : v = 46
  · have eO : msk (fun j => pOv 1 (f j)) (n + 1) = msk (fun j => pOv 1 (f j)) n := by
      simp [msk, pOv, hv, c]
    rw [if_pos c, eO]
    refine ⟨H, ⟨x1, ⟨x2, x3, x4⟩, x5⟩, ?_⟩
    subst c
    simp (maxSteps := 2000000) (disch := first | assumption | omega) only [jI0, iAdd_j, iSub_j, iMul_j, iNeg_j, Option.bind_some, jlt_t, jlt_f, jlt, jle_t, jle_f, jle, jeq_t, jeq_f, jeq, ↓reduceIte]
  · have mo := mn.1 (by simp [pOv, hv, c])
    rw [if_neg c]
    refine ⟨up (up H (P + 1) r (msk (fun j => pOv 1 (f j)) (n + 1) : Nat)) (P + 3) r (if pKd 1 f n = -1 ∨ pKd 1 f n = v - 48 then v - 48 else -2), ⟨?_, ⟨?_, ?_, ?_⟩, ?_⟩, ?_⟩
    · intro a h1 h2 h3
      rw [up_ne h3, up_ne h1]
      exact x1 a h1 h2 h3
    · rw [up_ne (by omega), up_eq, u1_eq]
    · rw [up_ne (by omega), up_ne (by omega)]; exact x3
    · rw [up_eq, u1_eq]
    · intro i hi
      rw [up_ne (show P + 1 ≠ P + 3 by omega), up_eq, u1_ne hi, up_ne (show P + 2 ≠ P + 3 by omega), up_ne (show P + 2 ≠ P + 1 by omega), up_eq, u1_ne hi, up_ne (show P + 3 ≠ P + 1 by omega)]
      exact x5 i hi
    · have z3 : ∀ w, up H (P + 1) r w (P + 3) r = pKd 1 f n := fun w => by rw [up_ne (by omega)]; exact x4
      by_cases d1 : pKd 1 f n = -1
      · rw [show (if pKd 1 f n = -1 ∨ pKd 1 f n = v - 48 then v - 48 else (-2 : Int)) = v - 48 from if_pos (.inl d1)]
        rw [d1] at z3
        simp (maxSteps := 2000000) (disch := first | assumption | omega) only [jI0, iAdd_j, iSub_j, iMul_j, iNeg_j, Option.bind_some, jlt_t, jlt_f, jlt, jle_t, jle_f, jle, jeq_t, jeq_f, jeq, ↓reduceIte, r7, r9, l1', l3', x2, mo, s1', s3', z3]
      · by_cases d2 : pKd 1 f n = v - 48
        · rw [show (if pKd 1 f n = -1 ∨ pKd 1 f n = v - 48 then v - 48 else (-2 : Int)) = v - 48 from if_pos (.inr d2)]
          rw [d2] at z3
          simp (maxSteps := 2000000) (disch := first | assumption | omega) only [jI0, iAdd_j, iSub_j, iMul_j, iNeg_j, Option.bind_some, jlt_t, jlt_f, jlt, jle_t, jle_f, jle, jeq_t, jeq_f, jeq, ↓reduceIte, r7, r9, l1', l3', x2, mo, s1', s3', z3]
        · rw [show (if pKd 1 f n = -1 ∨ pKd 1 f n = v - 48 then v - 48 else (-2 : Int)) = -2 from if_neg (by omega)]
          simp (maxSteps := 2000000) (disch := first | assumption | omega) only [jI0, iAdd_j, iSub_j, iMul_j, iNeg_j, Option.bind_some, jlt_t, jlt_f, jlt, jle_t, jle_f, jle, jeq_t, jeq_f, jeq, ↓reduceIte, r7, r9, l1', l3', x2, mo, s1', s3', z3]
theorem oTkP {P : Nat} (hP : isPi P) {H : Nat → Int → Int} {r s v : Int} {f : Int → Int} (r0 : 0 ≤ r) (r1 : r < 8) {n : Nat} (hs : s = n) (s1 : n < 32) (hv : f n = v) (h46 : -128 ≤ v ∧ v < 256) (hr : PiR G H P r (msk (fun j => pOv 0 (f j)) n) (msk (fun j => pUn 0 (f j)) n) (pKd 0 f n)) : ∃ H', PiR G H' P r (msk (fun j => pOv 0 (f j)) (n + 1)) (msk (fun j => pUn 0 (f j)) (n + 1)) (pKd 0 f (n + 1)) ∧ f_X6_takePrinted N P (jI r) (iShl (jI 1) (jI s)) (jI v) (hp q H) = some (hp q H') := by
  subst hs
  obtain ⟨l, a0, a1, a2, a3⟩ := hP
  obtain ⟨x1, ⟨x2, x3, x4⟩, x5⟩ := hr
  have r7 : ∀ H, gR (hp q H) 6 P 1 = some (P + 1) := fun H => hgR (by omega) a0 rfl
  have r8 : ∀ H, gR (hp q H) 6 P 2 = some (P + 2) := fun H => hgR (by omega) a0 rfl
  have l1' : ∀ H : Nat → Int → Int, ldI 0 (hp q H) (P + 1) (jI r) = some (jI (H (P + 1) r)) := fun H => hld (n := 8) (by omega) a1 (.inl rfl) (by omega) r0 (by omega)
  have l2' : ∀ H : Nat → Int → Int, ldI 0 (hp q H) (P + 2) (jI r) = some (jI (H (P + 2) r)) := fun H => hld (n := 8) (by omega) a2 (.inl rfl) (by omega) r0 (by omega)
  have s1' : ∀ (H : Nat → Int → Int) (v : Int), stI 0 (hp q H) (P + 1) (jI r) (jI v) = some (hp q (up H (P + 1) r v)) := fun H v => hst (n := 8) (by omega) a1 (.inl rfl) (by omega) r0 (by omega) rfl
  have s2' : ∀ (H : Nat → Int → Int) (v : Int), stI 0 (hp q H) (P + 2) (jI r) (jI v) = some (hp q (up H (P + 2) r v)) := fun H v => hst (n := 8) (by omega) a2 (.inl rfl) (by omega) r0 (by omega) rfl
  rw [pKd_0] at x4 ⊢
  have mo := msk_next (fun j => pOv 0 (f j)) (n := n) s1
  have mu := msk_next (fun j => pUn 0 (f j)) (n := n) s1
  have o0 : ¬ v = 111 → msk (fun j => pOv 0 (f j)) (n + 1) = msk (fun j => pOv 0 (f j)) n := fun c => by simp [msk, pOv, hv, c]
  have u0 : ¬ v = 117 → msk (fun j => pUn 0 (f j)) (n + 1) = msk (fun j => pUn 0 (f j)) n := fun c => by simp [msk, pUn, hv, c]
  unfold f_X6_takePrinted
  by_cases c : v = 111
  · have mo' := mo.1 (by simp [pOv, hv, c])
    rw [u0 (by omega)]
    refine ⟨up H (P + 1) r (msk (fun j => pOv 0 (f j)) (n + 1) : Nat), ⟨?_, ⟨?_, ?_, ?_⟩, ?_⟩, ?_⟩
    · intro a h1 h2 h3
      rw [up_ne h1]
      exact x1 a h1 h2 h3
    · rw [up_eq, u1_eq]
    · rw [up_ne (by omega)]; exact x3
    · rw [up_ne (by omega)]; exact x4
    · intro i hi
      rw [up_eq, u1_ne hi, up_ne (show P + 2 ≠ P + 1 by omega), up_ne (show P + 3 ≠ P + 1 by omega)]
      exact x5 i hi
    · subst c
      simp (maxSteps := 2000000) (disch := first | assumption | omega) only [jI0, iAdd_j, iSub_j, iMul_j, iNeg_j, Option.bind_some, jlt_t, jlt_f, jlt, jle_t, jle_f, jle, jeq_t, jeq_f, jeq, ↓reduceIte, r7, l1', x2, mo', s1']
  · rw [o0 c]
    by_cases c2 : v = 117
    · have mu' := mu.1 (by simp [pUn, hv, c2])
      refine ⟨up H (P + 2) r (msk (fun j => pUn 0 (f j)) (n + 1) : Nat), ⟨?_, ⟨?_, ?_, ?_⟩, ?_⟩, ?_⟩
      · intro a h1 h2 h3
        rw [up_ne h2]
        exact x1 a h1 h2 h3
      · rw [up_ne (by omega)]; exact x2
      · rw [up_eq, u1_eq]
      · rw [up_ne (by omega)]; exact x4
      · intro i hi
        rw [up_eq, u1_ne hi, up_ne (show P + 1 ≠ P + 2 by omega), up_ne (show P + 3 ≠ P + 2 by omega)]
        exact x5 i hi
      · subst c2
        simp (maxSteps := 2000000) (disch := first | assumption | omega) only [jI0, iAdd_j, iSub_j, iMul_j, iNeg_j, Option.bind_some, jlt_t, jlt_f, jlt, jle_t, jle_f, jle, jeq_t, jeq_f, jeq, ↓reduceIte, r8, l2', x3, mu', s2']
    · rw [u0 c2]
      refine ⟨H, ⟨x1, ⟨x2, x3, x4⟩, x5⟩, ?_⟩
      simp (maxSteps := 2000000) (disch := first | assumption | omega) only [jI0, iAdd_j, iSub_j, iMul_j, iNeg_j, Option.bind_some, jlt_t, jlt_f, jlt, jle_t, jle_f, jle, jeq_t, jeq_f, jeq, ↓reduceIte]
end
