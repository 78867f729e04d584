/-! bowl: rows of leans, what they cost, the best of them -/
/-- the least of f where P holds, none: -1 -/
def lbst (P : Int → Bool) (f : Int → Int) : Nat → Int
  | 0 => -1
  | k + 1 => if P k = true then (if lbst P f k = -1 then f k else if f k < lbst P f k then f k else lbst P f k) else lbst P f k
theorem lbst_c {P : Int → Bool} {f : Int → Int} (hf : ∀ l, P l = true → 0 ≤ f l) : ∀ k : Nat, (lbst P f k = -1 ∧ ∀ l : Int, 0 ≤ l → l < k → P l = false) ∨ (0 ≤ lbst P f k ∧ (∃ l : Int, 0 ≤ l ∧ l < k ∧ P l = true ∧ lbst P f k = f l) ∧ ∀ l : Int, 0 ≤ l → l < k → P l = true → lbst P f k ≤ f l)
  | 0 => .inl ⟨rfl, fun l l0 l1 => absurd l1 (by omega)⟩
  | k + 1 => by
    have ih := lbst_c hf k
    rw [lbst]
    by_cases c : P k = true
    · rw [if_pos c]
      have fk := hf k c
      rcases ih with ⟨h1, h2⟩ | ⟨h1, ⟨l, l0, l1, l2, l3⟩, h3⟩
      · rw [if_pos h1]
        refine .inr ⟨fk, ⟨k, by omega, by omega, c, rfl⟩, fun l l0 l1 hl => ?_⟩
        by_cases e : l = k
        · rw [e]; exact Int.le_refl _
        · rw [h2 l l0 (by omega)] at hl
          cases hl
      · have nn : ¬ lbst P f k = -1 := by omega
        rw [if_neg nn]
        by_cases c2 : f k < lbst P f k
        · rw [if_pos c2]
          refine .inr ⟨fk, ⟨k, by omega, by omega, c, rfl⟩, fun x x0 x1 hx => ?_⟩
          by_cases e : x = k
          · rw [e]; exact Int.le_refl _
          · have := h3 x x0 (by omega) hx
            omega
        · rw [if_neg c2]
          refine .inr ⟨h1, ⟨l, l0, by omega, l2, l3⟩, fun x x0 x1 hx => ?_⟩
          by_cases e : x = k
          · rw [e]; omega
          · exact h3 x x0 (by omega) hx
    · rw [if_neg c]
      rcases ih with ⟨h1, h2⟩ | ⟨h1, ⟨l, l0, l1, l2, l3⟩, h3⟩
      · refine .inl ⟨h1, fun l l0 l1 => ?_⟩
        by_cases e : l = k
        · rw [e]; simpa using c
        · exact h2 l l0 (by omega)
      · refine .inr ⟨h1, ⟨l, l0, by omega, l2, l3⟩, fun x x0 x1 hx => ?_⟩
        by_cases e : x = k
        · rw [e] at hx; exact absurd hx c
        · exact h3 x x0 (by omega) hx
/-- the first l from l on where P holds -/
def fstl (P : Int → Bool) : Nat → Int → Int
  | 0, l => l
  | k + 1, l => if P l = true then l else fstl P k (l + 1)
theorem fstl_c {P : Int → Bool} : ∀ (k : Nat) (l : Int), (∃ x, l ≤ x ∧ x < l + k ∧ P x = true) → (l ≤ fstl P k l ∧ fstl P k l < l + k ∧ P (fstl P k l) = true ∧ ∀ x, l ≤ x → x < fstl P k l → P x = false)
  | 0, l, h => by
    obtain ⟨x, x0, x1, x2⟩ := h
    exact absurd x1 (by omega)
  | k + 1, l, h => by
    rw [fstl]
    by_cases c : P l = true
    · rw [if_pos c]
      exact ⟨Int.le_refl _, by omega, c, fun x x0 x1 => absurd x1 (by omega)⟩
    · rw [if_neg c]
      obtain ⟨x, x0, x1, x2⟩ := h
      have ne : x ≠ l := by
        rintro rfl
        exact c x2
      obtain ⟨a1, a2, a3, a4⟩ := fstl_c k (l + 1) ⟨x, by omega, by omega, x2⟩
      refine ⟨by omega, by omega, a3, fun y y0 y1 => ?_⟩
      by_cases e : y = l
      · rw [e]; simpa using c
      · exact a4 y (by omega) y1
section
variable (ro wi : Int → Int) (W d : Int)
/-- the width behind a band -/
def wB (w l b : Int) : Int := max 1 (w + (l - 9) * ro b)
def off (x b : Int) : Int := ((x - wi b).natAbs : Int)
def adm (b a l : Int) : Bool := decide (b = 0 ∨ (l - a ≤ d ∧ a - l ≤ d))
/-- what k bands from b on cost at least, behind lean a and width w -/
def sc : Nat → Int → Int → Int → Int
  | 0, _, _, _ => 0
  | k + 1, b, a, w => lbst (adm d b a) (fun l => off wi (wB ro w l b) b + sc k (b + 1) l (wB ro w l b)) 19
def wA (s : Int → Int) : Nat → Int
  | 0 => W
  | b + 1 => wB ro (wA s b) (s b) b
def pc (s : Int → Int) : Nat → Int
  | 0 => 0
  | b + 1 => pc s b + off wi (wA ro W s (b + 1)) b
/-- the lean ahead of a band -/
def ah (s : Int → Int) : Nat → Int
  | 0 => 0
  | b + 1 => s b
def fe (s : Int → Int) (n : Nat) : Prop := ∀ j : Nat, j < n → (0 ≤ s j ∧ s j ≤ 18) ∧ adm d j (ah s j) (s j) = true
theorem off_0 (x b : Int) : 0 ≤ off wi x b := Int.natCast_nonneg _
theorem sc_0 : ∀ (k : Nat) (b a w : Int), 0 ≤ d → 0 ≤ a → a ≤ 18 → 0 ≤ sc ro wi d k b a w
  | 0, _, _, _, _, _, _ => Int.le_refl _
  | k + 1, b, a, w, h, a0, a1 => by
    rw [sc]
    have h0 : ∀ l, adm d b a l = true → 0 ≤ off wi (wB ro w l b) b + max 0 (sc ro wi d k (b + 1) l (wB ro w l b)) := fun l _ => by
      have := off_0 wi (wB ro w l b) b
      omega
    have e : ∀ m : Nat, m ≤ 19 → lbst (adm d b a) (fun l => off wi (wB ro w l b) b + sc ro wi d k (b + 1) l (wB ro w l b)) m = lbst (adm d b a) (fun l => off wi (wB ro w l b) b + max 0 (sc ro wi d k (b + 1) l (wB ro w l b))) m := by
      intro m
      induction m with
      | zero => intro _; rfl
      | succ m ih =>
        intro hm
        have x := sc_0 k (b + 1) m (wB ro w m b) h (by omega) (by omega)
        have y : max 0 (sc ro wi d k (b + 1) m (wB ro w m b)) = sc ro wi d k (b + 1) m (wB ro w m b) := by omega
        rw [lbst, lbst, ih (by omega), y]
    rw [e 19 (by omega)]
    rcases lbst_c h0 19 with ⟨h1, h2⟩ | ⟨h1, _⟩
    · have := h2 a a0 (by omega)
      unfold adm at this
      have := of_decide_eq_false this
      omega
    · exact h1
theorem sc_c {k : Nat} {b a w : Int} (h : 0 ≤ d) (a0 : 0 ≤ a) (a1 : a ≤ 18) : (∃ l : Int, 0 ≤ l ∧ l < 19 ∧ adm d b a l = true ∧ sc ro wi d (k + 1) b a w = off wi (wB ro w l b) b + sc ro wi d k (b + 1) l (wB ro w l b)) ∧ ∀ l : Int, 0 ≤ l → l < 19 → adm d b a l = true → sc ro wi d (k + 1) b a w ≤ off wi (wB ro w l b) b + sc ro wi d k (b + 1) l (wB ro w l b) := by
  have h0 : ∀ l, (adm d b a l && decide (0 ≤ l ∧ l < 19)) = true → 0 ≤ off wi (wB ro w l b) b + sc ro wi d k (b + 1) l (wB ro w l b) := fun l hl => by
    simp only [Bool.and_eq_true, decide_eq_true_eq] at hl
    have := off_0 wi (wB ro w l b) b
    have := sc_0 ro wi d k (b + 1) l (wB ro w l b) h (by omega) (by omega)
    omega
  have e : ∀ m : Nat, m ≤ 19 → lbst (adm d b a) (fun l => off wi (wB ro w l b) b + sc ro wi d k (b + 1) l (wB ro w l b)) m = lbst (fun l => adm d b a l && decide (0 ≤ l ∧ l < 19)) (fun l => off wi (wB ro w l b) b + sc ro wi d k (b + 1) l (wB ro w l b)) m := by
    intro m
    induction m with
    | zero => intro _; rfl
    | succ m ih =>
      intro hm
      have y : decide (0 ≤ (m : Int) ∧ (m : Int) < 19) = true := decide_eq_true (by omega)
      rw [lbst, lbst, ih (by omega), y, Bool.and_true]
  rw [sc, e 19 (by omega)]
  rcases lbst_c h0 19 with ⟨h1, h2⟩ | ⟨h1, ⟨l, l0, l1, l2, l3⟩, h3⟩
  · have := h2 a a0 (by omega)
    have z : adm d b a a = true := decide_eq_true (by omega)
    rw [z, Bool.true_and] at this
    have := of_decide_eq_false this
    omega
  · simp only [Bool.and_eq_true, decide_eq_true_eq] at l2
    refine ⟨⟨l, l0, l1, l2.1, l3⟩, fun x x0 x1 hx => h3 x x0 x1 ?_⟩
    simp only [Bool.and_eq_true, decide_eq_true_eq]
    exact ⟨hx, x0, x1⟩
theorem fe_ah {s : Int → Int} {n b : Nat} (h : fe d s n) (hb : b ≤ n) : 0 ≤ ah s b ∧ ah s b ≤ 18 := by
  cases b with
  | zero => exact ⟨Int.le_refl _, by show (0 : Int) ≤ 18; omega⟩
  | succ b => exact (h b (by omega)).1
theorem sc_le {s : Int → Int} {n : Nat} (hd : 0 ≤ d) (h : fe d s n) : ∀ (k b : Nat), b + k = n → sc ro wi d k b (ah s b) (wA ro W s b) ≤ pc ro wi W s n - pc ro wi W s b := by
  intro k
  induction k with
  | zero =>
    intro b hb
    have e : b = n := by omega
    rw [e, sc]
    omega
  | succ k ih =>
    intro b hb
    have a := fe_ah d h (show b ≤ n by omega)
    have f := h b (by omega)
    have x := (sc_c ro wi d (k := k) (b := b) (w := wA ro W s b) hd a.1 a.2).2 (s b) f.1.1 (by omega) f.2
    have y := ih (b + 1) (by omega)
    have z : pc ro wi W s (b + 1) = pc ro wi W s b + off wi (wA ro W s (b + 1)) b := rfl
    have z1 : wA ro W s (b + 1) = wB ro (wA ro W s b) (s b) b := rfl
    have z2 : ah s (b + 1) = s b := rfl
    rw [z, z1, z2, Int.natCast_succ] at y
    omega
/-- the first of the best, band by band -/
def pick (n b : Nat) (a w : Int) : Int := fstl (fun l => adm d b a l && decide (off wi (wB ro w l b) b + sc ro wi d (n - b - 1) (b + 1) l (wB ro w l b) = sc ro wi d (n - b) b a w)) 19 0
def gs (n : Nat) : Nat → Int × Int
  | 0 => (0, W)
  | b + 1 => (pick ro wi d n b (gs n b).1 (gs n b).2, wB ro (gs n b).2 (pick ro wi d n b (gs n b).1 (gs n b).2) b)
def gr (n : Nat) (b : Int) : Int := (gs ro wi W d n (b.toNat + 1)).1
theorem gr_b {n b : Nat} : gr ro wi W d n b = pick ro wi d n b (gs ro wi W d n b).1 (gs ro wi W d n b).2 := rfl
theorem gr_s {n : Nat} : ∀ b : Nat, ah (gr ro wi W d n) b = (gs ro wi W d n b).1 ∧ wA ro W (gr ro wi W d n) b = (gs ro wi W d n b).2
  | 0 => ⟨rfl, rfl⟩
  | b + 1 => by
    refine ⟨rfl, ?_⟩
    rw [wA, (gr_s b).2, gr_b]
    rfl
theorem pick_c {n b : Nat} {a w : Int} (hd : 0 ≤ d) (hb : b < n) (a0 : 0 ≤ a) (a1 : a ≤ 18) : (0 ≤ pick ro wi d n b a w ∧ pick ro wi d n b a w ≤ 18) ∧ adm d b a (pick ro wi d n b a w) = true ∧ off wi (wB ro w (pick ro wi d n b a w) b) b + sc ro wi d (n - b - 1) (b + 1) (pick ro wi d n b a w) (wB ro w (pick ro wi d n b a w) b) = sc ro wi d (n - b) b a w ∧ ∀ x : Int, 0 ≤ x → adm d b a x = true → off wi (wB ro w x b) b + sc ro wi d (n - b - 1) (b + 1) x (wB ro w x b) = sc ro wi d (n - b) b a w → pick ro wi d n b a w ≤ x := by
  obtain ⟨⟨l, l0, l1, l2, l3⟩, _⟩ := sc_c ro wi d (k := n - b - 1) (b := b) (w := w) hd a0 a1
  rw [show n - b - 1 + 1 = n - b by omega] at l3
  obtain ⟨h1, h2, h3, h4⟩ := fstl_c (P := fun l => adm d b a l && decide (off wi (wB ro w l b) b + sc ro wi d (n - b - 1) (b + 1) l (wB ro w l b) = sc ro wi d (n - b) b a w)) 19 0 ⟨l, l0, by omega, by
    simp only [Bool.and_eq_true, decide_eq_true_eq]
    exact ⟨l2, l3.symm⟩⟩
  simp only [Bool.and_eq_true, decide_eq_true_eq] at h3
  have e : pick ro wi d n b a w = fstl (fun l => adm d b a l && decide (off wi (wB ro w l b) b + sc ro wi d (n - b - 1) (b + 1) l (wB ro w l b) = sc ro wi d (n - b) b a w)) 19 0 := rfl
  rw [e]
  refine ⟨⟨h1, by omega⟩, h3.1, h3.2, fun x x0 x1 x2 => ?_⟩
  by_cases c : x < fstl (fun l => adm d b a l && decide (off wi (wB ro w l b) b + sc ro wi d (n - b - 1) (b + 1) l (wB ro w l b) = sc ro wi d (n - b) b a w)) 19 0
  · have := h4 x x0 c
    rw [x1, Bool.true_and] at this
    exact absurd x2 (of_decide_eq_false this)
  · omega
theorem gr_fe {n : Nat} (hd : 0 ≤ d) : ∀ m : Nat, m ≤ n → fe d (gr ro wi W d n) m
  | 0, _ => fun j hj => absurd hj (by omega)
  | m + 1, hm => by
    have ih := gr_fe (n := n) hd m (by omega)
    intro j hj
    by_cases c : j = m
    · have a := fe_ah d ih (Nat.le_refl m)
      rw [(gr_s ro wi W d m).1] at a
      have p := pick_c ro wi d (w := (gs ro wi W d n m).2) hd (show m < n by omega) a.1 a.2
      rw [c, (gr_s ro wi W d m).1, gr_b]
      exact ⟨p.1, p.2.1⟩
    · exact ih j (by omega)
theorem gr_pc {n : Nat} (hd : 0 ≤ d) : ∀ (k b : Nat), b + k = n → pc ro wi W (gr ro wi W d n) n - pc ro wi W (gr ro wi W d n) b = sc ro wi d k b (ah (gr ro wi W d n) b) (wA ro W (gr ro wi W d n) b) := by
  intro k
  induction k with
  | zero =>
    intro b hb
    have e : b = n := by omega
    rw [e, sc]
    omega
  | succ k ih =>
    intro b hb
    have y := ih (b + 1) (by omega)
    have a := fe_ah d (gr_fe ro wi W d hd n (Nat.le_refl n)) (show b ≤ n by omega)
    have p := (pick_c ro wi d (a := (gs ro wi W d n b).1) (w := (gs ro wi W d n b).2) hd (show b < n by omega) (by rw [← (gr_s ro wi W d b).1]; exact a.1) (by rw [← (gr_s ro wi W d b).1]; exact a.2)).2.2.1
    rw [← gr_b, ← (gr_s ro wi W d b).1, ← (gr_s ro wi W d b).2, show n - b - 1 = k by omega, show n - b = k + 1 by omega] at p
    have z : pc ro wi W (gr ro wi W d n) (b + 1) = pc ro wi W (gr ro wi W d n) b + off wi (wA ro W (gr ro wi W d n) (b + 1)) b := rfl
    have z1 : wA ro W (gr ro wi W d n) (b + 1) = wB ro (wA ro W (gr ro wi W d n) b) (gr ro wi W d n b) b := rfl
    have z2 : ah (gr ro wi W d n) (b + 1) = gr ro wi W d n b := rfl
    rw [z, z1, z2, Int.natCast_succ] at y
    omega
theorem agree {s t : Int → Int} : ∀ b : Nat, (∀ j : Nat, j < b → s j = t j) → ah s b = ah t b ∧ wA ro W s b = wA ro W t b ∧ pc ro wi W s b = pc ro wi W t b
  | 0, _ => ⟨rfl, rfl, rfl⟩
  | b + 1, h => by
    obtain ⟨i1, i2, i3⟩ := agree b (fun j hj => h j (by omega))
    have e := h b (by omega)
    refine ⟨e, ?_, ?_⟩
    · rw [wA, wA, i2, e]
    · rw [pc, pc, wA, wA, i2, i3, e]
theorem gr_le {s : Int → Int} {n : Nat} (hd : 0 ≤ d) (h : fe d s n) : pc ro wi W (gr ro wi W d n) n ≤ pc ro wi W s n := by
  have x := sc_le ro wi W d hd h n 0 (by omega)
  have y := gr_pc ro wi W d (n := n) hd n 0 (by omega)
  have z : pc ro wi W s 0 = 0 := rfl
  have z1 : pc ro wi W (gr ro wi W d n) 0 = 0 := rfl
  have z2 : ah s 0 = ah (gr ro wi W d n) 0 := rfl
  have z3 : wA ro W s 0 = wA ro W (gr ro wi W d n) 0 := rfl
  rw [z2, z3] at x
  omega
theorem gr_lex {s : Int → Int} {n : Nat} (hd : 0 ≤ d) (h : fe d s n) (he : pc ro wi W s n = pc ro wi W (gr ro wi W d n) n) {b : Nat} (hb : b < n) (ha : ∀ j : Nat, j < b → s j = gr ro wi W d n j) : gr ro wi W d n b ≤ s b := by
  obtain ⟨i1, i2, i3⟩ := agree ro wi W b ha
  have f := h b hb
  have a := fe_ah d h (show b ≤ n by omega)
  have x := sc_le ro wi W d hd h (n - b - 1) (b + 1) (by omega)
  have y := gr_pc ro wi W d (n := n) hd (n - b) b (by omega)
  have z : pc ro wi W s (b + 1) = pc ro wi W s b + off wi (wA ro W s (b + 1)) b := rfl
  have z1 : wA ro W s (b + 1) = wB ro (wA ro W s b) (s b) b := rfl
  have z2 : ah s (b + 1) = s b := rfl
  rw [z, z1, z2, Int.natCast_succ] at x
  have w := (sc_c ro wi d (k := n - b - 1) (b := b) (w := wA ro W s b) hd a.1 a.2).2 (s b) f.1.1 (by omega) f.2
  rw [show n - b - 1 + 1 = n - b by omega] at w
  rw [← i1, ← i2] at y
  have a' := a
  rw [i1, (gr_s ro wi W d b).1] at a'
  have p := (pick_c ro wi d (w := (gs ro wi W d n b).2) hd hb a'.1 a'.2).2.2.2 (s b) f.1.1
  rw [← gr_b, ← (gr_s ro wi W d b).1, ← (gr_s ro wi W d b).2, ← i1, ← i2] at p
  exact p f.2 (by omega)
/-! one number for cost and leans -/
def dgt (s : Int → Int) (b j : Int) : Int := if j < b then s j else 0
def cd (s : Int → Int) (b : Int) : Int := dgt s b 0 * 34359738368 + dgt s b 1 * 1073741824 + dgt s b 2 * 33554432 + dgt s b 3 * 1048576 + dgt s b 4 * 32768 + dgt s b 5 * 1024 + dgt s b 6 * 32 + dgt s b 7
def en (s : Int → Int) (b : Nat) : Int := pc ro wi W s b * 1099511627776 + cd s b
theorem dgt_r {s : Int → Int} {n : Nat} (h : fe d s n) {j : Int} (j0 : 0 ≤ j) : 0 ≤ dgt s n j ∧ dgt s n j ≤ 18 := by
  unfold dgt
  split
  · obtain ⟨i, rfl⟩ := Int.eq_ofNat_of_zero_le j0
    exact (h i (by omega)).1
  · omega
theorem cd_r {s : Int → Int} {n : Nat} (h : fe d s n) : 0 ≤ cd s n ∧ cd s n < 1099511627776 := by
  have h0 := dgt_r d h (j := 0) (by omega)
  have h1 := dgt_r d h (j := 1) (by omega)
  have h2 := dgt_r d h (j := 2) (by omega)
  have h3 := dgt_r d h (j := 3) (by omega)
  have h4 := dgt_r d h (j := 4) (by omega)
  have h5 := dgt_r d h (j := 5) (by omega)
  have h6 := dgt_r d h (j := 6) (by omega)
  have h7 := dgt_r d h (j := 7) (by omega)
  unfold cd
  omega
theorem dgt_lt {s : Int → Int} {n j : Int} (h : j < n) : dgt s n j = s j := if_pos h
theorem dgt_ge {s : Int → Int} {n j : Int} (h : ¬ j < n) : dgt s n j = 0 := if_neg h
theorem en_le {s : Int → Int} {n : Nat} (hd : 0 ≤ d) (hn : n ≤ 8) (h : fe d s n) : en ro wi W (gr ro wi W d n) n ≤ en ro wi W s n := by
  have g := gr_fe ro wi W d hd n (Nat.le_refl n)
  have l := gr_le ro wi W d hd h
  have c1 := cd_r d g
  have c2 := cd_r d h
  unfold en
  by_cases e : pc ro wi W s n = pc ro wi W (gr ro wi W d n) n
  · have A : ∀ m : Nat, m ≤ n → (∀ j : Nat, j < m → s j = gr ro wi W d n j) ∨ ∃ b : Nat, b < m ∧ (∀ j : Nat, j < b → s j = gr ro wi W d n j) ∧ gr ro wi W d n b < s b := by
      intro m
      induction m with
      | zero => intro _; exact .inl (fun j hj => absurd hj (by omega))
      | succ m ih =>
        intro hm
        rcases ih (by omega) with a | ⟨b, b1, b2, b3⟩
        · have x := gr_lex ro wi W d hd h e (show m < n by omega) a
          by_cases c : s m = gr ro wi W d n m
          · refine .inl (fun j hj => ?_)
            by_cases cj : j = m
            · rw [cj]; exact c
            · exact a j (by omega)
          · exact .inr ⟨m, by omega, a, by omega⟩
        · exact .inr ⟨b, by omega, b2, b3⟩
    have same : ∀ (b : Nat) (i : Int), (∀ j : Nat, j < b → s j = gr ro wi W d n j) → 0 ≤ i → i < b → dgt s n i = dgt (gr ro wi W d n) n i := fun b i hb i0 i1 => by
      obtain ⟨k, rfl⟩ := Int.eq_ofNat_of_zero_le i0
      unfold dgt
      rw [hb k (by omega)]
    rw [e]
    refine Int.add_le_add_left ?_ _
    have s1 := dgt_r d h (j := 1) (by omega)
    have s2 := dgt_r d h (j := 2) (by omega)
    have s3 := dgt_r d h (j := 3) (by omega)
    have s4 := dgt_r d h (j := 4) (by omega)
    have s5 := dgt_r d h (j := 5) (by omega)
    have s6 := dgt_r d h (j := 6) (by omega)
    have s7 := dgt_r d h (j := 7) (by omega)
    have t1 := dgt_r d g (j := 1) (by omega)
    have t2 := dgt_r d g (j := 2) (by omega)
    have t3 := dgt_r d g (j := 3) (by omega)
    have t4 := dgt_r d g (j := 4) (by omega)
    have t5 := dgt_r d g (j := 5) (by omega)
    have t6 := dgt_r d g (j := 6) (by omega)
    have t7 := dgt_r d g (j := 7) (by omega)
    unfold cd
    rcases A n (Nat.le_refl n) with a | ⟨b, b1, b2, b3⟩
    · have q : ∀ i : Int, 0 ≤ i → dgt s n i = dgt (gr ro wi W d n) n i := fun i i0 => by
        by_cases c : i < n
        · exact same n i a i0 c
        · rw [dgt_ge c, dgt_ge c]
      rw [q 0 (by omega), q 1 (by omega), q 2 (by omega), q 3 (by omega), q 4 (by omega), q 5 (by omega), q 6 (by omega), q 7 (by omega)]
      exact Int.le_refl _
    · have e1 : dgt s n b = s b := dgt_lt (by omega)
      have e2 : dgt (gr ro wi W d n) n b = gr ro wi W d n b := dgt_lt (by omega)
      have sm := fun (i : Int) (i0 : 0 ≤ i) (i1 : i < b) => same b i b2 i0 i1
      have b8 : b = 0 ∨ b = 1 ∨ b = 2 ∨ b = 3 ∨ b = 4 ∨ b = 5 ∨ b = 6 ∨ b = 7 := by omega
      rw [← e1, ← e2] at b3
      rcases b8 with x | x | x | x | x | x | x | x
      · rw [x] at b3
        simp only [Int.ofNat_zero, Int.natCast_zero, Int.cast_ofNat_Int] at b3
        omega
      · have m0 := sm 0 (by omega) (by omega)
        rw [x, show ((1 : Nat) : Int) = 1 from rfl] at b3
        omega
      · have m0 := sm 0 (by omega) (by omega)
        have m1 := sm 1 (by omega) (by omega)
        rw [x, show ((2 : Nat) : Int) = 2 from rfl] at b3
        omega
      · have m0 := sm 0 (by omega) (by omega)
        have m1 := sm 1 (by omega) (by omega)
        have m2 := sm 2 (by omega) (by omega)
        rw [x, show ((3 : Nat) : Int) = 3 from rfl] at b3
        omega
      · have m0 := sm 0 (by omega) (by omega)
        have m1 := sm 1 (by omega) (by omega)
        have m2 := sm 2 (by omega) (by omega)
        have m3 := sm 3 (by omega) (by omega)
        rw [x, show ((4 : Nat) : Int) = 4 from rfl] at b3
        omega
      · have m0 := sm 0 (by omega) (by omega)
        have m1 := sm 1 (by omega) (by omega)
        have m2 := sm 2 (by omega) (by omega)
        have m3 := sm 3 (by omega) (by omega)
        have m4 := sm 4 (by omega) (by omega)
        rw [x, show ((5 : Nat) : Int) = 5 from rfl] at b3
        omega
      · have m0 := sm 0 (by omega) (by omega)
        have m1 := sm 1 (by omega) (by omega)
        have m2 := sm 2 (by omega) (by omega)
        have m3 := sm 3 (by omega) (by omega)
        have m4 := sm 4 (by omega) (by omega)
        have m5 := sm 5 (by omega) (by omega)
        rw [x, show ((6 : Nat) : Int) = 6 from rfl] at b3
        omega
      · have m0 := sm 0 (by omega) (by omega)
        have m1 := sm 1 (by omega) (by omega)
        have m2 := sm 2 (by omega) (by omega)
        have m3 := sm 3 (by omega) (by omega)
        have m4 := sm 4 (by omega) (by omega)
        have m5 := sm 5 (by omega) (by omega)
        have m6 := sm 6 (by omega) (by omega)
        rw [x, show ((7 : Nat) : Int) = 7 from rfl] at b3
        omega
  · omega
end
