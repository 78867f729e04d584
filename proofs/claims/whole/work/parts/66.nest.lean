/-! call: nest -/
section
variable {K1 K2 : (Int → Int) → (Int → Int) → Prop} {q : Nat × Nat × (Nat → Nat)} {G : Nat → Int → Int} {N : Nat}
theorem RP.ne {G1 : Nat → Int → Int} {r x : Nat} (hr : r < 4) (p : RP G r) (hx : 44 < x ∧ x < 117) (e : ∀ a, a ≠ x → G1 a = G a) : RP G1 r := by
  unfold RP at *
  rw [e _ (by omega), e _ (by omega), e _ (by omega), e _ (by omega), e _ (by omega)]
  exact p
/-- the least of those from T on, -1 for none; one behind the other -/
def nm (v : Int → Int) (T : Int) : Nat → Int
  | 0 => -1
  | k + 1 => if v k < T then nm v T k else if nm v T k = -1 then v k else if v k < nm v T k then v k else nm v T k
theorem nm_s {v : Int → Int} {T : Int} : ∀ {k : Nat}, (∀ j : Nat, j < k → 1 ≤ v j) → (nm v T k = -1 ∧ ∀ j : Nat, j < k → v j < T) ∨ (T ≤ nm v T k ∧ (∃ j : Nat, j < k ∧ v j = nm v T k) ∧ ∀ j : Nat, j < k → T ≤ v j → nm v T k ≤ v j)
  | 0, _ => .inl ⟨rfl, fun j hj => by omega⟩
  | k + 1, h => by
    have ih := nm_s (v := v) (T := T) (k := k) (fun j hj => h j (by omega))
    have hk := h k (by omega)
    simp only [nm]
    by_cases c : v k < T
    · rw [if_pos c]
      rcases ih with ⟨a, b⟩ | ⟨a, ⟨j, b1, b2⟩, d⟩
      · refine .inl ⟨a, fun j hj => ?_⟩
        by_cases e : j = k
        · subst e; exact c
        · exact b j (by omega)
      · refine .inr ⟨a, ⟨j, by omega, b2⟩, fun i hi ht => ?_⟩
        by_cases e : i = k
        · subst e; omega
        · exact d i (by omega) ht
    · rw [if_neg c]
      rcases ih with ⟨a, b⟩ | ⟨a, ⟨j, b1, b2⟩, d⟩
      · rw [if_pos a]
        refine .inr ⟨by omega, ⟨k, by omega, rfl⟩, fun i hi ht => ?_⟩
        by_cases e : i = k
        · subst e; omega
        · have := b i (by omega); omega
      · have hj := h j (by omega)
        rw [if_neg (by omega)]
        by_cases e : v k < nm v T k
        · rw [if_pos e]
          refine .inr ⟨by omega, ⟨k, by omega, rfl⟩, fun i hi ht => ?_⟩
          by_cases e2 : i = k
          · subst e2; omega
          · have := d i (by omega) ht; omega
        · rw [if_neg e]
          refine .inr ⟨a, ⟨j, by omega, b2⟩, fun i hi ht => ?_⟩
          by_cases e2 : i = k
          · subst e2; omega
          · exact d i (by omega) ht
theorem nm_is {v : Int → Int} {T x : Int} {k : Nat} (h : ∀ j : Nat, j < k → 1 ≤ v j) (h1 : T ≤ x) (h2 : ∃ j : Nat, j < k ∧ v j = x) (h3 : ∀ j : Nat, j < k → T ≤ v j → x ≤ v j) : nm v T k = x := by
  obtain ⟨j, j1, j2⟩ := h2
  rcases nm_s (T := T) h with ⟨a, b⟩ | ⟨a, ⟨i, b1, b2⟩, d⟩
  · have := b j j1; omega
  · have := d j j1 (by omega)
    have := h3 i b1 (by omega)
    omega
theorem nm_no {v : Int → Int} {T : Int} {k : Nat} (h : ∀ j : Nat, j < k → 1 ≤ v j) (h1 : ∀ j : Nat, j < k → v j < T) : nm v T k = -1 := by
  rcases nm_s (T := T) h with ⟨a, b⟩ | ⟨a, ⟨i, b1, b2⟩, d⟩
  · exact a
  · have := h1 i b1; omega
def nL (v : Int → Int) (n : Nat) (p : Int) : Nat → Int
  | 0 => -9999
  | c + 1 => nm v (nL v n p c + p) n
theorem insr (r : Nat) (x2 : Int32) (K : Nat → Nat → Int32 → Int32 → mH → Option (Int32 × mH)) {k w : Int} (hw : -2147483648 ≤ w ∧ w < 2147483648) : ∀ (at' : Nat) (n : Nat) (G1 : Nat → Int → Int), at' < n → at' < 40 → (∀ i : Int, 0 ≤ i → i < at' → -2147483648 ≤ G1 99 i ∧ G1 99 i < 2147483648) → ∃ (e : Int) (G2 : Nat → Int → Int), 0 ≤ e ∧ e ≤ at' ∧ (∀ a, a ≠ 99 → G2 a = G1 a) ∧ (∀ i, G2 99 i = if i < e then G1 99 i else if i = e then w else if i ≤ at' then G1 99 (i - 1) else G1 99 i) ∧ (∀ i, e ≤ i → i < at' → w < G1 99 i) ∧ (0 < e → G1 99 (e - 1) ≤ w) ∧ L_X11_mostNested_20 N K n 0 r x2 (jI k) (jI w) (jI at') (hp q G1) = K 0 r x2 (jI (k + 1)) (hp q G2) := by
  intro at'
  induction at' with
  | zero =>
    intro n G1 hn h40 hG
    obtain ⟨n, rfl⟩ : ∃ m, n = m + 1 := ⟨n - 1, by omega⟩
    refine ⟨0, up G1 99 0 w, by omega, by omega, fun a ha => up_ne ha, ?_, ?_, ?_, ?_⟩
    · intro i
      rw [up_eq]
      by_cases d : i = 0
      · rw [d, u1_eq, if_neg (by omega), if_pos rfl]
      · rw [u1_ne d, if_neg d]
        by_cases d1 : i < 0
        · rw [if_pos d1]
        · rw [if_neg d1, if_neg (by omega)]
    · intro i h0 h1; omega
    · intro h0; omega
    · rw [L_X11_mostNested_20]
      simp (maxSteps := 2000000) (disch := first | assumption | omega) only [jI0, iAdd_j, iSub_j, iMul_j, iNeg_j, Option.bind_some, jlt_t, jlt_f, jlt, jle_t, jle_f, jle, jeq_t, jeq_f, jeq, ↓reduceIte, o0, s99]
      rfl
  | succ at' ih =>
    intro n G1 hn h40 hG
    obtain ⟨n, rfl⟩ : ∃ m, n = m + 1 := ⟨n - 1, by omega⟩
    have ga := hG at' (by omega) (by omega)
    have e1 : ((at' + 1 : Nat) : Int) - 1 = at' := by omega
    have e2 : ((at' + 1 : Nat) : Int) + -1 = at' := by omega
    by_cases c : w < G1 99 at'
    · have hG' : ∀ i : Int, 0 ≤ i → i < at' → -2147483648 ≤ up G1 99 ((at' + 1 : Nat) : Int) (G1 99 at') 99 i ∧ up G1 99 ((at' + 1 : Nat) : Int) (G1 99 at') 99 i < 2147483648 := by
        intro i i0 i1
        rw [up_eq, u1_ne (by omega)]
        exact hG i i0 (by omega)
      obtain ⟨e, G2, t0, t1, t2, t3, t4, t5, t6⟩ := ih n (up G1 99 ((at' + 1 : Nat) : Int) (G1 99 at')) (by omega) (by omega) hG'
      have g0 : ∀ i : Int, i < at' + 1 → up G1 99 ((at' + 1 : Nat) : Int) (G1 99 at') 99 i = G1 99 i := fun i hi => by rw [up_eq, u1_ne (by omega)]
      refine ⟨e, G2, t0, by omega, fun a ha => (t2 a ha).trans (up_ne ha), ?_, ?_, ?_, ?_⟩
      · intro i
        rw [t3 i]
        by_cases d : i < e
        · rw [if_pos d, if_pos d, g0 i (by omega)]
        · rw [if_neg d, if_neg d]
          by_cases d1 : i = e
          · rw [if_pos d1, if_pos d1]
          · rw [if_neg d1, if_neg d1]
            by_cases d2 : i ≤ at'
            · rw [if_pos d2, if_pos (by omega), g0 _ (by omega)]
            · rw [if_neg d2, up_eq]
              by_cases d3 : i = ((at' + 1 : Nat) : Int)
              · rw [d3, u1_eq, if_pos (by omega), e1]
              · rw [u1_ne d3, if_neg (by omega)]
      · intro i i0 i1
        by_cases d : i = at'
        · rw [d]; exact c
        · have := t4 i i0 (by omega)
          rw [g0 i (by omega)] at this
          exact this
      · intro he
        have := t5 he
        rw [g0 _ (by omega)] at this
        exact this
      · rw [L_X11_mostNested_20]
        simp (maxSteps := 2000000) (disch := first | assumption | omega) only [jI0, iAdd_j, iSub_j, iMul_j, iNeg_j, Option.bind_some, jlt_t, jlt_f, jlt, jle_t, jle_f, jle, jeq_t, jeq_f, jeq, ↓reduceIte, o0, l99, s99, e1, e2]
        exact t6
    · refine ⟨((at' + 1 : Nat) : Int), up G1 99 ((at' + 1 : Nat) : Int) w, by omega, by omega, fun a ha => up_ne ha, ?_, ?_, ?_, ?_⟩
      · intro i
        rw [up_eq]
        by_cases d : i = ((at' + 1 : Nat) : Int)
        · rw [d, u1_eq, if_neg (by omega), if_pos rfl]
        · rw [u1_ne d]
          by_cases d1 : i < ((at' + 1 : Nat) : Int)
          · rw [if_pos d1]
          · rw [if_neg d1, if_neg d, if_neg (by omega)]
      · intro i i0 i1; omega
      · intro _; rw [e1]; omega
      · rw [L_X11_mostNested_20]
        simp (maxSteps := 2000000) (disch := first | assumption | omega) only [jI0, iAdd_j, iSub_j, iMul_j, iNeg_j, Option.bind_some, jlt_t, jlt_f, jlt, jle_t, jle_f, jle, jeq_t, jeq_f, jeq, ↓reduceIte, o0, l99, s99, e1, e2]
/-- sorted, and the same values -/
def NS (s v : Int → Int) (k : Int) : Prop := (∀ i j : Int, 0 ≤ i → i ≤ j → j < k → s i ≤ s j) ∧ (∀ i : Int, 0 ≤ i → i < k → ∃ j : Int, 0 ≤ j ∧ j < k ∧ s i = v j) ∧ (∀ j : Int, 0 ≤ j → j < k → ∃ i : Int, 0 ≤ i ∧ i < k ∧ s i = v j)
theorem NS.ins {s s2 v : Int → Int} {k e : Int} (h : NS s v k) (h0 : 0 ≤ e) (h1 : e ≤ k) (h2 : ∀ i, s2 i = if i < e then s i else if i = e then v k else if i ≤ k then s (i - 1) else s i) (h3 : ∀ i, e ≤ i → i < k → v k < s i) (h4 : 0 < e → s (e - 1) ≤ v k) : NS s2 v (k + 1) := by
  obtain ⟨a1, a2, a3⟩ := h
  refine ⟨?_, ?_, ?_⟩
  · intro i j i0 ij jk
    rw [h2 i, h2 j]
    by_cases c1 : i < e
    · rw [if_pos c1]
      by_cases c2 : j < e
      · rw [if_pos c2]; exact a1 i j i0 ij (by omega)
      · rw [if_neg c2]
        by_cases c3 : j = e
        · rw [if_pos c3]
          have := a1 i (e - 1) i0 (by omega) (by omega)
          have := h4 (by omega)
          omega
        · rw [if_neg c3, if_pos (by omega)]
          exact a1 i (j - 1) i0 (by omega) (by omega)
    · rw [if_neg c1, if_neg (show ¬ j < e by omega)]
      by_cases c2 : i = e
      · rw [if_pos c2]
        by_cases c3 : j = e
        · rw [if_pos c3]; omega
        · rw [if_neg c3, if_pos (by omega)]
          have := h3 (j - 1) (by omega) (by omega)
          omega
      · rw [if_neg c2, if_neg (show ¬ j = e by omega), if_pos (by omega), if_pos (by omega)]
        exact a1 (i - 1) (j - 1) (by omega) (by omega) (by omega)
  · intro i i0 i1
    rw [h2 i]
    by_cases c1 : i < e
    · rw [if_pos c1]
      obtain ⟨j, j0, j1, j2⟩ := a2 i i0 (by omega)
      exact ⟨j, j0, by omega, j2⟩
    · rw [if_neg c1]
      by_cases c2 : i = e
      · rw [if_pos c2]
        exact ⟨k, by omega, by omega, rfl⟩
      · rw [if_neg c2, if_pos (by omega)]
        obtain ⟨j, j0, j1, j2⟩ := a2 (i - 1) (by omega) (by omega)
        exact ⟨j, j0, by omega, j2⟩
  · intro j j0 j1
    by_cases c : j = k
    · refine ⟨e, h0, by omega, ?_⟩
      rw [h2 e, if_neg (by omega), if_pos rfl, c]
    · obtain ⟨i, i0, i1, i2⟩ := a3 j j0 (by omega)
      by_cases c1 : i < e
      · exact ⟨i, i0, by omega, by rw [h2 i, if_pos c1]; exact i2⟩
      · refine ⟨i + 1, by omega, by omega, ?_⟩
        rw [h2, if_neg (by omega), if_neg (by omega), if_pos (by omega), show i + 1 - 1 = i by omega]
        exact i2
theorem oSort (hN : 10000 ≤ N) {r : Nat} (hr : r < 4) (p : RP G r) {n : Nat} (x2 : Int32) (hn : G (37 + 2 * r) 0 = n) (hv : ∀ k : Int, 0 ≤ k → k < n → 1 ≤ G (38 + 2 * r) k ∧ G (38 + 2 * r) k ≤ 9999) : ∃ G1, ((∀ a, a ≠ 99 → G1 a = G a) ∧ NS (G1 99) (G (38 + 2 * r)) n) ∧ L_X11_mostNested_2 N N 0 (37 + 2 * r) x2 (jI 0) (hp q G) = L_X11_mostNested_84 N N 0 (37 + 2 * r) x2 (jI 0) (jI 0) (jI 0) (hp q G1) := by
  have n40 : n ≤ 40 := by have := p.2.1; omega
  refine loopG (N := N) (fun m (t : Int × (Nat → Int → Int)) => L_X11_mostNested_2 N m 0 (37 + 2 * r) x2 (jI t.1) (hp q t.2)) (fun k t => t.1 = k ∧ (∀ a, a ≠ 99 → t.2 a = G a) ∧ NS (t.2 99) (G (38 + 2 * r)) k) n (by omega) (s := (0, G)) ⟨rfl, fun _ _ => rfl, ⟨fun i j h0 h1 h2 => by omega, fun i h0 h1 => by omega, fun i h0 h1 => by omega⟩⟩ ?_ ?_
  · rintro m k ⟨i, G1⟩ hk ⟨rfl, t1, t2⟩
    simp only at t1 t2
    have p1 := p.ne hr (x := 99) (by omega) t1
    have e7 : G1 (37 + 2 * r) 0 = n := by rw [t1 _ (by omega), hn]
    have e8 : G1 (38 + 2 * r) = G (38 + 2 * r) := t1 _ (by omega)
    have vk := hv k (by omega) (by omega)
    obtain ⟨e, G2, u0, u1', u2, u3, u4, u5, u6⟩ := insr (q := q) (N := N) (37 + 2 * r) x2 (L_X11_mostNested_2 N m) (k := k) (w := G (38 + 2 * r) k) (by omega) k N G1 (by omega) (by omega) (fun i i0 i1 => by
      obtain ⟨j, j0, j1, j2⟩ := t2.2.1 i i0 i1
      have := hv j j0 (by omega)
      omega)
    have g37 := ro (q := q) (G := G1) hr
    have oi := oInt (q := q) (N := N) hr p1 (k := (k : Int)) (by omega) (by omega)
    rw [e8] at oi
    refine ⟨(((k + 1 : Nat) : Int), G2), ⟨rfl, fun a ha => (u2 a ha).trans (t1 a ha), ?_⟩, ?_⟩
    · rw [Int.natCast_succ]
      exact t2.ins u0 u1' u3 u4 u5
    · show L_X11_mostNested_2 N (m + 1) 0 (37 + 2 * r) x2 (jI (k : Int)) (hp q G1) = L_X11_mostNested_2 N m 0 (37 + 2 * r) x2 (jI ((k + 1 : Nat) : Int)) (hp q G2)
      rw [L_X11_mostNested_2]
      simp (maxSteps := 2000000) (disch := first | assumption | omega) only [jI0, iAdd_j, iSub_j, iMul_j, iNeg_j, Option.bind_some, jlt_t, jlt_f, jlt, jle_t, jle_f, jle, jeq_t, jeq_f, jeq, ↓reduceIte, g37, e7, oi, u6, Int.natCast_succ]
  · rintro m ⟨i, G1⟩ ⟨rfl, t1, t2⟩
    simp only at t1 t2
    have e7 : G1 (37 + 2 * r) 0 = n := by rw [t1 _ (by omega), hn]
    have g37 := ro (q := q) (G := G1) hr
    refine ⟨G1, ⟨t1, t2⟩, ?_⟩
    show L_X11_mostNested_2 N (m + 1) 0 (37 + 2 * r) x2 (jI (n : Int)) (hp q G1) = _
    rw [L_X11_mostNested_2]
    simp (maxSteps := 2000000) (disch := first | assumption | omega) only [jI0, iAdd_j, iSub_j, iMul_j, iNeg_j, Option.bind_some, jlt_t, jlt_f, jlt, jle_t, jle_f, jle, jeq_t, jeq_f, jeq, ↓reduceIte, g37, e7]
end
