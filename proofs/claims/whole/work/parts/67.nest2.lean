/-! call: nest -/
section
variable {K1 K2 : (Int → Int) → (Int → Int) → Prop} {q : Nat × Nat × (Nat → Nat)} {G : Nat → Int → Int} {N : Nat}
/-- what is answered -/
def nsA (v : Int → Int) (n : Nat) (p : Int) (c : Nat) : Prop := c ≤ n ∧ (if p = 0 then c = n else nL v n p (c + 1) = -1 ∧ ∀ i : Nat, 1 ≤ i → i ≤ c → nL v n p i ≠ -1)
theorem oNest (hN : 10000 ≤ N) {r : Nat} (hr : r < 4) {n : Nat} {p : Int} {v : Int → Int} (n40 : n ≤ 40) (hn : G (37 + 2 * r) 0 = n) (hv : ∀ k : Int, 0 ≤ k → k < n → 1 ≤ v k ∧ v k ≤ 9999) (hs : NS (G 99) v n) (hp' : 0 ≤ p ∧ p ≤ 999) : ∃ c : Nat, nsA v n p c ∧ L_X11_mostNested_84 N N 0 (37 + 2 * r) (jI p) (jI 0) (jI 0) (jI 0) (hp q G) = some (jI c, hp q G) := by
  obtain ⟨s1, s2, s3⟩ := hs
  have v1 : ∀ j : Nat, j < n → 1 ≤ v j := fun j hj => (hv j (by omega) (by omega)).1
  have sr : ∀ i : Int, 0 ≤ i → i < n → 1 ≤ G 99 i ∧ G 99 i ≤ 9999 := fun i i0 i1 => by
    obtain ⟨j, j0, j1, j2⟩ := s2 i i0 i1
    have := hv j j0 j1
    omega
  have g37 := ro (q := q) (G := G) hr
  refine loopG (N := N) (fun m (t : Nat × Int × Int) => L_X11_mostNested_84 N m 0 (37 + 2 * r) (jI p) (jI t.1) (jI t.2.1) (jI t.2.2) (hp q G)) (fun k t => t.2.2 = k ∧ t.1 ≤ k ∧ (t.1 = 0 → k = 0) ∧ (0 < t.1 → 1 ≤ t.2.1 ∧ t.2.1 ≤ 9999 ∧ (∀ j : Int, (k : Int) ≤ j → j < n → t.2.1 ≤ G 99 j) ∧ (if p = 0 then t.1 = k else t.2.1 = nL v n p t.1 ∧ (∀ j : Int, 0 ≤ j → j < k → G 99 j < t.2.1 + p) ∧ ∀ i : Nat, 1 ≤ i → i ≤ t.1 → nL v n p i ≠ -1))) n (by omega) (s := (0, 0, 0)) ⟨rfl, by omega, fun _ => rfl, fun h => by omega⟩ ?_ ?_
  · rintro m k ⟨c, l, i⟩ hk ⟨rfl, t1, t2, t3⟩
    simp only at t1 t2 t3
    have sk := sr k (by omega) (by omega)
    have l9 := l99 q G (i := (k : Int)) (by omega) (by omega)
    by_cases c0 : c = 0
    · have k0 := t2 c0
      subst c0
      subst k0
      refine ⟨(1, G 99 0, ((0 + 1 : Nat) : Int)), ⟨rfl, by omega, fun x => by omega, fun _ => ⟨sk.1, sk.2, fun j j0 j1 => s1 0 j (by omega) (by omega) j1, ?_⟩⟩, ?_⟩
      · have e : G 99 0 = nL v n p 1 := by
          refine (nm_is v1 ?_ ?_ ?_).symm
          · show -9999 + p ≤ _
            have : G 99 0 = G 99 ((0 : Nat) : Int) := rfl
            omega
          · obtain ⟨j, j0, j1, j2⟩ := s2 0 (by omega) (by omega)
            obtain ⟨j, rfl⟩ := Int.eq_ofNat_of_zero_le j0
            exact ⟨j, by omega, j2.symm⟩
          · intro j hj _
            obtain ⟨i, i0, i1, i2⟩ := s3 j (by omega) (by omega)
            rw [← i2]
            exact s1 0 i (by omega) i0 i1
        by_cases pz : p = 0
        · rw [if_pos pz]
        · rw [if_neg pz]
          refine ⟨e, fun j j0 j1 => ?_, fun i i0 i1 => ?_⟩
          · have : j = 0 := by omega
            subst this
            show G 99 0 < G 99 0 + p
            omega
          · have : i = 1 := by omega
            subst this
            rw [← e]
            have : G 99 0 = G 99 ((0 : Nat) : Int) := rfl
            omega
      · show L_X11_mostNested_84 N (m + 1) 0 (37 + 2 * r) (jI p) (jI ((0 : Nat) : Int)) (jI l) (jI ((0 : Nat) : Int)) (hp q G) = L_X11_mostNested_84 N m 0 (37 + 2 * r) (jI p) (jI ((1 : Nat) : Int)) (jI (G 99 0)) (jI ((0 + 1 : Nat) : Int)) (hp q G)
        rw [L_X11_mostNested_84]
        simp (maxSteps := 2000000) (disch := first | assumption | omega) only [jI0, iAdd_j, iSub_j, iMul_j, iNeg_j, Option.bind_some, jlt_t, jlt_f, jlt, jle_t, jle_f, jle, jeq_t, jeq_f, jeq, ↓reduceIte, o0, g37, hn, l9]
        rfl
    · obtain ⟨u1', u2, u3, u4⟩ := t3 (by omega)
      have lk := u3 k (by omega) (by omega)
      by_cases d : G 99 k - l < p
      · have pz : p ≠ 0 := by omega
        rw [if_neg pz] at u4
        refine ⟨(c, l, ((k + 1 : Nat) : Int)), ⟨rfl, by omega, fun x => by omega, fun _ => ⟨u1', u2, fun j j0 j1 => u3 j (by omega) j1, ?_⟩⟩, ?_⟩
        · rw [if_neg pz]
          refine ⟨u4.1, fun j j0 j1 => ?_, u4.2.2⟩
          by_cases e : j = k
          · subst e; show G 99 _ < l + p; omega
          · exact u4.2.1 j j0 (by omega)
        · show L_X11_mostNested_84 N (m + 1) 0 (37 + 2 * r) (jI p) (jI (c : Int)) (jI l) (jI (k : Int)) (hp q G) = L_X11_mostNested_84 N m 0 (37 + 2 * r) (jI p) (jI (c : Int)) (jI l) (jI ((k + 1 : Nat) : Int)) (hp q G)
          rw [L_X11_mostNested_84]
          simp (maxSteps := 2000000) (disch := first | assumption | omega) only [jI0, iAdd_j, iSub_j, iMul_j, iNeg_j, Option.bind_some, jlt_t, jlt_f, jlt, jle_t, jle_f, jle, jeq_t, jeq_f, jeq, ↓reduceIte, o0, g37, hn, l9, Int.natCast_succ]
      · refine ⟨(c + 1, G 99 k, ((k + 1 : Nat) : Int)), ⟨rfl, by omega, fun x => by omega, fun _ => ⟨sk.1, sk.2, fun j j0 j1 => s1 k j (by omega) (by omega) j1, ?_⟩⟩, ?_⟩
        · by_cases pz : p = 0
          · rw [if_pos pz] at u4 ⊢
            show c + 1 = k + 1
            omega
          · rw [if_neg pz] at u4 ⊢
            obtain ⟨x1, x2, x3⟩ := u4
            have e : G 99 k = nL v n p (c + 1) := by
              refine (nm_is v1 ?_ ?_ ?_).symm
              · rw [← x1]; omega
              · obtain ⟨j, j0, j1, j2⟩ := s2 k (by omega) (by omega)
                obtain ⟨j, rfl⟩ := Int.eq_ofNat_of_zero_le j0
                exact ⟨j, by omega, j2.symm⟩
              · intro j hj hl
                rw [← x1] at hl
                obtain ⟨i, i0, i1, i2⟩ := s3 j (by omega) (by omega)
                rw [← i2] at hl ⊢
                refine s1 k i (by omega) ?_ i1
                apply Int.le_of_not_gt
                intro y
                have := x2 i i0 y
                omega
            refine ⟨e, fun j j0 j1 => ?_, fun i i0 i1 => ?_⟩
            · show G 99 j < G 99 k + p
              have := s1 j k j0 (by omega) (by omega)
              omega
            · by_cases y : i = c + 1
              · rw [y, ← e]; omega
              · exact x3 i i0 (by omega)
        · show L_X11_mostNested_84 N (m + 1) 0 (37 + 2 * r) (jI p) (jI (c : Int)) (jI l) (jI (k : Int)) (hp q G) = L_X11_mostNested_84 N m 0 (37 + 2 * r) (jI p) (jI ((c + 1 : Nat) : Int)) (jI (G 99 k)) (jI ((k + 1 : Nat) : Int)) (hp q G)
          rw [L_X11_mostNested_84]
          simp (maxSteps := 2000000) (disch := first | assumption | omega) only [jI0, iAdd_j, iSub_j, iMul_j, iNeg_j, Option.bind_some, jlt_t, jlt_f, jlt, jle_t, jle_f, jle, jeq_t, jeq_f, jeq, ↓reduceIte, o0, g37, hn, l9, Int.natCast_succ]
  · rintro m ⟨c, l, i⟩ ⟨rfl, t1, t2, t3⟩
    simp only at t1 t2 t3
    refine ⟨c, ⟨t1, ?_⟩, ?_⟩
    · by_cases c0 : c = 0
      · have k0 := t2 c0
        subst c0
        subst k0
        by_cases pz : p = 0
        · rw [if_pos pz]
        · rw [if_neg pz]
          exact ⟨rfl, fun i i0 i1 => by omega⟩
      · obtain ⟨u1', u2, u3, u4⟩ := t3 (by omega)
        by_cases pz : p = 0
        · rw [if_pos pz] at u4 ⊢
          exact u4
        · rw [if_neg pz] at u4 ⊢
          obtain ⟨x1, x2, x3⟩ := u4
          refine ⟨nm_no v1 ?_, x3⟩
          intro j hj
          rw [← x1]
          obtain ⟨i, i0, i1, i2⟩ := s3 j (by omega) (by omega)
          rw [← i2]
          exact x2 i i0 i1
    · show L_X11_mostNested_84 N (m + 1) 0 (37 + 2 * r) (jI p) (jI (c : Int)) (jI l) (jI (n : Int)) (hp q G) = _
      rw [L_X11_mostNested_84]
      simp (maxSteps := 2000000) (disch := first | assumption | omega) only [jI0, iAdd_j, iSub_j, iMul_j, iNeg_j, Option.bind_some, jlt_t, jlt_f, jlt, jle_t, jle_f, jle, jeq_t, jeq_f, jeq, ↓reduceIte, o0, g37, hn]
theorem mNm {r : Nat} (hr : r < 4) (p : RP G r) {n : Nat} {pl l : Int} {x3 : Int32} (hn : G (37 + 2 * r) 0 = n) (hv : ∀ k : Nat, k < n → 1 ≤ G (38 + 2 * r) k ∧ G (38 + 2 * r) k ≤ 9999) (hl : -9999 ≤ l ∧ l ≤ 9999) (hp' : 0 ≤ pl ∧ pl ≤ 999) (K : Nat → Int32 → Int32 → Int32 → Int64 → Int32 → mH → Option (Int32 × mH)) (m : Nat) : L_X12_nest_106 N K (m + n) 100 (jI r) (jI pl) x3 (jL l) (jL (-1)) (jI 0) (hp q G) = L_X12_nest_106 N K m 100 (jI r) (jI pl) x3 (jL l) (jL (nm (G (38 + 2 * r)) (l + pl) n)) (jI n) (hp q G) := by
  obtain ⟨p0, p1, p2, p3, p4, p5, p6⟩ := p
  refine loop (fun m (k : Nat) => L_X12_nest_106 N K m 100 (jI r) (jI pl) x3 (jL l) (jL (nm (G (38 + 2 * r)) (l + pl) k)) (jI k) (hp q G)) (fun k => k) n ?_ n 0 m (by omega)
  intro m k hk
  show L_X12_nest_106 N K (m + 1) 100 (jI r) (jI pl) x3 (jL l) (jL (nm (G (38 + 2 * r)) (l + pl) k)) (jI k) (hp q G) = L_X12_nest_106 N K m 100 (jI r) (jI pl) x3 (jL l) (jL (nm (G (38 + 2 * r)) (l + pl) (k + 1))) (jI ((k + 1 : Nat) : Int)) (hp q G)
  have vk := hv k hk
  have vv := (p6 k (by omega) (by omega)).1
  have e : nm (G (38 + 2 * r)) (l + pl) (k + 1) = if G (38 + 2 * r) k < l + pl then nm (G (38 + 2 * r)) (l + pl) k else if nm (G (38 + 2 * r)) (l + pl) k = -1 then G (38 + 2 * r) k else if G (38 + 2 * r) k < nm (G (38 + 2 * r)) (l + pl) k then G (38 + 2 * r) k else nm (G (38 + 2 * r)) (l + pl) k := rfl
  have nr : -1 ≤ nm (G (38 + 2 * r)) (l + pl) k ∧ nm (G (38 + 2 * r)) (l + pl) k ≤ 9999 := by
    rcases nm_s (v := G (38 + 2 * r)) (T := l + pl) (k := k) (fun j hj => (hv j (by omega)).1) with ⟨a, b⟩ | ⟨a, ⟨i, b1, b2⟩, d⟩
    · omega
    · have := hv i (by omega); omega
  have j1 := jL_lt (a := G (38 + 2 * r) k) (b := l + pl) (by omega) (by omega) (by omega) (by omega)
  have j2 := jL_eq (a := nm (G (38 + 2 * r)) (l + pl) k) (b := -1) (by omega) (by omega) (by omega) (by omega)
  have j3 := jL_lt (a := G (38 + 2 * r) k) (b := nm (G (38 + 2 * r)) (l + pl) k) (by omega) (by omega) (by omega) (by omega)
  rw [L_X12_nest_106, e]
  by_cases c1 : G (38 + 2 * r) k < l + pl
  · rw [if_pos c1]
    simp (maxSteps := 2000000) (disch := first | assumption | omega) only [jI0, iAdd_j, iSub_j, iMul_j, iNeg_j, Option.bind_some, jlt_t, jlt_f, jlt, jle_t, jle_f, jle, jeq_t, jeq_f, jeq, ↓reduceIte, o100, l118, p2, hn, l119, vv, jlL, lAdd_j, j1, c1, Int.natCast_succ]
  · rw [if_neg c1]
    by_cases c2 : nm (G (38 + 2 * r)) (l + pl) k = -1
    · rw [if_pos c2]
      simp (maxSteps := 2000000) (disch := first | assumption | omega) only [jI0, iAdd_j, iSub_j, iMul_j, iNeg_j, Option.bind_some, jlt_t, jlt_f, jlt, jle_t, jle_f, jle, jeq_t, jeq_f, jeq, ↓reduceIte, o100, l118, p2, hn, l119, vv, jlL, lAdd_j, j1, j2, c1, c2, Int.natCast_succ]
    · rw [if_neg c2]
      by_cases c3 : G (38 + 2 * r) k < nm (G (38 + 2 * r)) (l + pl) k
      · rw [if_pos c3]
        simp (maxSteps := 2000000) (disch := first | assumption | omega) only [jI0, iAdd_j, iSub_j, iMul_j, iNeg_j, Option.bind_some, jlt_t, jlt_f, jlt, jle_t, jle_f, jle, jeq_t, jeq_f, jeq, ↓reduceIte, o100, l118, p2, hn, l119, vv, jlL, lAdd_j, j1, j2, j3, c1, c2, c3, Int.natCast_succ]
      · rw [if_neg c3]
        simp (maxSteps := 2000000) (disch := first | assumption | omega) only [jI0, iAdd_j, iSub_j, iMul_j, iNeg_j, Option.bind_some, jlt_t, jlt_f, jlt, jle_t, jle_f, jle, jeq_t, jeq_f, jeq, ↓reduceIte, o100, l118, p2, hn, l119, vv, jlL, lAdd_j, j1, j2, j3, c1, c2, c3, Int.natCast_succ]
theorem mNest (hN : 10000 ≤ N) {r : Nat} (hr : r < 4) (p : RP G r) {n c : Nat} {pl : Int} (hn : G (37 + 2 * r) 0 = n) (hv : ∀ k : Nat, k < n → 1 ≤ G (38 + 2 * r) k ∧ G (38 + 2 * r) k ≤ 9999) (hp' : 1 ≤ pl ∧ pl ≤ 999) (hc : nsA (G (38 + 2 * r)) n pl c) : L_X12_nest_93 N N 100 (jI r) (jI pl) (jI 0) (jL (-9999)) (jI 1) (hp q G) = some (jI c, hp q G) := by
  have n40 : n ≤ 40 := by have := p.2.1; omega
  obtain ⟨cn, hc⟩ := hc
  rw [if_neg (by omega)] at hc
  obtain ⟨h1, h2⟩ := hc
  have lr : ∀ k : Nat, k ≤ c → -9999 ≤ nL (G (38 + 2 * r)) n pl k ∧ nL (G (38 + 2 * r)) n pl k ≤ 9999 := by
    intro k hk
    cases k with
    | zero => exact ⟨Int.le_refl _, by show (-9999 : Int) ≤ 9999; decide⟩
    | succ k =>
      show -9999 ≤ nm _ _ n ∧ nm _ _ n ≤ 9999
      rcases nm_s (v := G (38 + 2 * r)) (T := nL (G (38 + 2 * r)) n pl k + pl) (k := n) (fun j hj => (hv j (by omega)).1) with ⟨a, b⟩ | ⟨a, ⟨i, b1, b2⟩, d⟩
      · omega
      · have := hv i (by omega); omega
  obtain ⟨M, hM⟩ : ∃ M, N = (M + 1) + n := ⟨N - 1 - n, by omega⟩
  have ec : c + 1 < N := by omega
  have step : ∀ m k, k ≤ c → L_X12_nest_93 N (m + 1) 100 (jI r) (jI pl) (jI k) (jL (nL (G (38 + 2 * r)) n pl k)) (jI 1) (hp q G) = L_X12_nest_93 N m 100 (jI r) (jI pl) (jI (k + (if k = c then 0 else 1))) (jL (nL (G (38 + 2 * r)) n pl (k + 1))) (jI (if k = c then 0 else 1)) (hp q G) := by
    intro m k hk
    have mn := mNm (N := N) (q := q) hr p (pl := pl) (x3 := jI k) (l := nL (G (38 + 2 * r)) n pl k) hn hv (lr k hk) (by omega) (L_X12_nest_93 N m) (M + 1)
    have eN : L_X12_nest_106 N (L_X12_nest_93 N m) N = L_X12_nest_106 N (L_X12_nest_93 N m) ((M + 1) + n) := congrArg _ hM
    have l8 := (l118 q G (i := (r : Int)) (by omega) (by omega))
    rw [p.2.2.1, hn] at l8
    have ln : nm (G (38 + 2 * r)) (nL (G (38 + 2 * r)) n pl k + pl) n = nL (G (38 + 2 * r)) n pl (k + 1) := rfl
    rw [L_X12_nest_93, eN]
    simp only [jI0, jeq_f (show (1 : Int) ≠ 0 ∧ -2147483648 ≤ (1 : Int) ∧ (1 : Int) < 2147483648 ∧ -2147483648 ≤ (0 : Int) ∧ (0 : Int) < 2147483648 by omega), ↓reduceIte]
    rw [mn, L_X12_nest_106, ln]
    unfold J_X12_nest_183
    by_cases d : k = c
    · rw [if_pos d, d, h1]
      simp (maxSteps := 2000000) (disch := first | assumption | omega) only [jI0, iAdd_j, iSub_j, iMul_j, iNeg_j, Option.bind_some, jlt_t, jlt_f, jlt, jle_t, jle_f, jle, jeq_t, jeq_f, jeq, ↓reduceIte, o100, l8]
    · have hk1 := h2 (k + 1) (by omega) (by omega)
      have r1 := lr (k + 1) (by omega)
      have j2 := jL_eq (a := nL (G (38 + 2 * r)) n pl (k + 1)) (b := -1) (by omega) (by omega) (by omega) (by omega)
      rw [if_neg d]
      simp (maxSteps := 2000000) (disch := first | assumption | omega) only [jI0, iAdd_j, iSub_j, iMul_j, iNeg_j, Option.bind_some, jlt_t, jlt_f, jlt, jle_t, jle_f, jle, jeq_t, jeq_f, jeq, ↓reduceIte, o100, l8, j2, hk1]
  refine (loopE (N := N) (fun m (k : Nat) => L_X12_nest_93 N m 100 (jI r) (jI pl) (jI ((if k ≤ c then k else c : Nat) : Int)) (jL (nL (G (38 + 2 * r)) n pl k)) (jI (if k ≤ c then 1 else 0)) (hp q G)) (fun k => k) (c + 1) (r := some (jI c, hp q G)) (by omega) ?_ ?_) |> Eq.trans ?_
  · show _ = L_X12_nest_93 N N 100 (jI r) (jI pl) (jI ((if 0 ≤ c then 0 else c : Nat) : Int)) (jL (nL (G (38 + 2 * r)) n pl 0)) (jI (if 0 ≤ c then 1 else 0)) (hp q G)
    rw [if_pos (Nat.zero_le c), if_pos (Nat.zero_le c)]
    rfl
  · intro m k hk
    show L_X12_nest_93 N (m + 1) 100 (jI r) (jI pl) (jI ((if k ≤ c then k else c : Nat) : Int)) (jL (nL (G (38 + 2 * r)) n pl k)) (jI (if k ≤ c then 1 else 0)) (hp q G) = L_X12_nest_93 N m 100 (jI r) (jI pl) (jI ((if k + 1 ≤ c then k + 1 else c : Nat) : Int)) (jL (nL (G (38 + 2 * r)) n pl (k + 1))) (jI (if k + 1 ≤ c then 1 else 0)) (hp q G)
    rw [if_pos (show k ≤ c by omega), if_pos (show k ≤ c by omega), step m k (by omega)]
    by_cases d : k = c
    · rw [if_pos d, if_neg (show ¬ k + 1 ≤ c by omega), if_neg (show ¬ k + 1 ≤ c by omega), d, Int.add_zero]
    · rw [if_neg d, if_pos (show k + 1 ≤ c by omega), if_pos (show k + 1 ≤ c by omega)]
      rfl
  · intro m
    show L_X12_nest_93 N (m + 1) 100 (jI r) (jI pl) (jI ((if c + 1 ≤ c then c + 1 else c : Nat) : Int)) (jL (nL (G (38 + 2 * r)) n pl (c + 1))) (jI (if c + 1 ≤ c then 1 else 0)) (hp q G) = _
    rw [if_neg (by omega), if_neg (by omega), L_X12_nest_93]
    simp (maxSteps := 2000000) (disch := first | assumption | omega) only [jI0, iAdd_j, iSub_j, iMul_j, iNeg_j, Option.bind_some, jlt_t, jlt_f, jlt, jle_t, jle_f, jle, jeq_t, jeq_f, jeq, ↓reduceIte]
theorem op_nest (hN : 10000 ≤ N) (hI : INV K1 K2 q G) {row p : Int} (h1 : -2147483648 ≤ row) (h2 : row < 2147483648) (h3 : -2147483648 ≤ p) (h4 : p < 2147483648) : OP K1 K2 q G (f_X11_nest N 0 (jI row) (jI p)) (f_X12_nest N 100 (jI row) (jI p)) := by
  have hB := hI.1.1; have hV := hB.1; have hT := hI.1.2.1; have g := hV.1
  by_cases c : 0 ≤ row ∧ row < 4
  · obtain ⟨r, rfl⟩ := Int.eq_ofNat_of_zero_le c.1
    have hr : r < 4 := by omega
    rcases hI.rp hr with ⟨m1, m2⟩ | pr
    · refine OP.rf hI (-6) (jI (-6)) ?_ ?_
      · unfold f_X11_nest
        simp (maxSteps := 2000000) (disch := first | assumption | omega) only [jI0, iAdd_j, iSub_j, iMul_j, iNeg_j, Option.bind_some, jlt_t, jlt_f, jlt, jle_t, jle_f, jle, jeq_t, jeq_f, jeq, ↓reduceIte, o0, o2, o12, hBand, hStake, hKind, hCross, hWeaver, oBand, oKindOf, oKind, oCr, oRing, oWv, oPer, oRows, oAhead, oWhen, oAll, oStep, oRods, oRodAt, oStakeAt, oOff, bI_t, bI_f, X11_refuse, oIsRow, rA, ro, oMiss]
      · intro G1 hM e eo
        rw [← eo 117 (by decide)] at m2
        have hV1 := hM.1; have hT1 := hM.2; (try rw [← e] at dm); (try rw [← e] at dr); (try rw [← e] at de); (try rw [← e] at dl); (try rw [← e] at hb); (try rw [← e] at hj); (try rw [← e] at hr); (try rw [← e] at hs); (try rw [← e] at pl); (try rw [← e] at al); (try rw [← e] at g); (try rw [← e] at c); (try rw [← e] at c1); (try rw [← e] at c2); (try rw [← e] at c3); (try rw [← e] at c4); (try rw [← e] at c5); (try rw [← e] at c6); (try rw [← e] at wb); (try rw [← e] at pr); (try rw [← e] at kd); (try rw [← e] at cr); (try rw [← e] at fe); (try rw [← e] at ra); (try rw [← e] at f1); (try rw [← e] at f2); (try rw [← e] at f3); (try rw [← e] at f4); (try rw [← e])
        unfold f_X12_nest
        simp (maxSteps := 2000000) (disch := first | assumption | omega) only [jI0, iAdd_j, iSub_j, iMul_j, iNeg_j, Option.bind_some, jlt_t, jlt_f, jlt, jle_t, jle_f, jle, jeq_t, jeq_f, jeq, ↓reduceIte, o100, w100t, l102, mBand, mStake, mKind, mCross, mCr, mKindOf, mAhead, mWhen, mStep, mRods, mRodAt, mStakeAt, mIndex, mOver, mOverIn, jlL, X12_within, bI_t, bI_f, X12_no, l117]
    · obtain ⟨p1, p2, p3, p4, p5, p6, p7⟩ := id pr
      have cz : ¬ bI (G (37 + 2 * r) 0 = -1) = jI 1 := by rw [bI_1]; omega
      have wo := oWithin (q := q) hN hr pr (lo := 1) (hi := 9999) (by omega) (by omega)
      by_cases c2 : AW G r 1 9999 ∧ 0 ≤ p ∧ p ≤ 999
      · obtain ⟨c5, c6, c7⟩ := c2
        rw [cI_t c5] at wo
        obtain ⟨n, hn⟩ := Int.eq_ofNat_of_zero_le p1
        have hv : ∀ k : Int, 0 ≤ k → k < n → 1 ≤ G (38 + 2 * r) k ∧ G (38 + 2 * r) k ≤ 9999 := fun k k0 k1 => c5 k k0 (by omega)
        obtain ⟨G1, ⟨t1, t2⟩, e1⟩ := oSort (q := q) hN hr pr (jI p) hn hv
        obtain ⟨a, a1, a2⟩ := oNest (q := q) (G := G1) hN hr (p := p) (v := G (38 + 2 * r)) (n := n) (by omega) (by rw [t1 _ (by omega), hn]) hv t2 ⟨c6, c7⟩
        refine OP.sc hI (jI a) ⟨G1, SC.one (c := 99) t1 rfl, ?_⟩ ?_
        · unfold f_X11_nest f_X11_mostNested
          rw [← e1] at a2
          simp (maxSteps := 2000000) (disch := first | assumption | omega) only [jI0, iAdd_j, iSub_j, iMul_j, iNeg_j, Option.bind_some, jlt_t, jlt_f, jlt, jle_t, jle_f, jle, jeq_t, jeq_f, jeq, ↓reduceIte, o0, o2, o12, hBand, hStake, hKind, hCross, hWeaver, oBand, oKindOf, oKind, oCr, oRing, oWv, oPer, oRows, oAhead, oWhen, oAll, oStep, oRods, oRodAt, oStakeAt, oOff, bI_t, bI_f, X11_refuse, oIsRow, rA, ro, oMiss, wo, a2]
        · intro G2 s2 hM e
          have pp := pr.sc hr s2
          have ww := mWithin (q := q) hN hr pp (lo := 1) (hi := 9999) (by omega) (by omega)
          rw [AW.sc hr s2, cI_t c5] at ww
          have e7 : G2 117 r = G (37 + 2 * r) 1 := by rw [s2.1 117 rfl (by decide), p4]
          have e8 : G2 118 r = n := by rw [s2.1 118 rfl (by decide), p3, hn]
          have hT1 := hM.2
          refine ⟨G2, SC.refl, ?_⟩
          unfold f_X12_nest
          by_cases d : p = 0
          · have := a1.2
            rw [if_pos d] at this
            simp (maxSteps := 2000000) (disch := first | assumption | omega) only [jI0, iAdd_j, iSub_j, iMul_j, iNeg_j, Option.bind_some, jlt_t, jlt_f, jlt, jle_t, jle_f, jle, jeq_t, jeq_f, jeq, ↓reduceIte, o100, w100t, l102, mBand, mStake, mKind, mCross, mCr, mKindOf, mAhead, mWhen, mStep, mRods, mRodAt, mStakeAt, mIndex, mOver, mOverIn, jlL, X12_within, bI_t, bI_f, X12_no, l117, l118, e7, e8, ww, this]
          · have e9 : G2 (37 + 2 * r) 0 = n := by rw [← pp.2.2.1, e8]
            have ev : ∀ k : Int, 0 ≤ k → k < n → G2 (38 + 2 * r) k = G (38 + 2 * r) k := fun k k0 k1 => by
              rw [← (pp.2.2.2.2.2.2 k k0 (by omega)).1, s2.1 119 rfl (by decide)]
              exact (p7 k k0 (by omega)).1
            have nme : ∀ (T : Int) (k : Nat), k ≤ n → nm (G2 (38 + 2 * r)) T k = nm (G (38 + 2 * r)) T k := by
              intro T k
              induction k with
              | zero => intro _; rfl
              | succ k ih => intro hk; simp only [nm]; rw [ih (by omega), ev k (by omega) (by omega)]
            have nle : ∀ k : Nat, nL (G2 (38 + 2 * r)) n p k = nL (G (38 + 2 * r)) n p k := by
              intro k
              induction k with
              | zero => rfl
              | succ k ih => show nm _ _ n = nm _ _ n; rw [ih, nme _ _ (Nat.le_refl n)]
            have a3 : nsA (G2 (38 + 2 * r)) n p a := by
              unfold nsA at a1 ⊢
              simp only [nle]
              exact a1
            have mn := mNest (q := q) hN hr pp (n := n) (c := a) (pl := p) e9 (fun k hk => by rw [ev k (by omega) (by omega)]; exact hv k (by omega) (by omega)) ⟨by omega, c7⟩ a3
            simp (maxSteps := 2000000) (disch := first | assumption | omega) only [jI0, iAdd_j, iSub_j, iMul_j, iNeg_j, Option.bind_some, jlt_t, jlt_f, jlt, jle_t, jle_f, jle, jeq_t, jeq_f, jeq, ↓reduceIte, o100, w100t, l102, mBand, mStake, mKind, mCross, mCr, mKindOf, mAhead, mWhen, mStep, mRods, mRodAt, mStakeAt, mIndex, mOver, mOverIn, jlL, X12_within, bI_t, bI_f, X12_no, l117, l118, e7, e8, ww, mn]
      · refine OP.rf hI (-3) (jI (-3)) ?_ ?_
        · unfold f_X11_nest
          by_cases d3 : AW G r 1 9999
          · rw [cI_t d3] at wo
            by_cases d4 : p < 0
            · simp (maxSteps := 2000000) (disch := first | assumption | omega) only [jI0, iAdd_j, iSub_j, iMul_j, iNeg_j, Option.bind_some, jlt_t, jlt_f, jlt, jle_t, jle_f, jle, jeq_t, jeq_f, jeq, ↓reduceIte, o0, o2, o12, hBand, hStake, hKind, hCross, hWeaver, oBand, oKindOf, oKind, oCr, oRing, oWv, oPer, oRows, oAhead, oWhen, oAll, oStep, oRods, oRodAt, oStakeAt, oOff, bI_t, bI_f, X11_refuse, oIsRow, rA, ro, oMiss, wo]
            · have d5 : 999 < p := by
                apply Int.lt_of_not_ge
                intro x
                exact c2 ⟨d3, by omega, by omega⟩
              simp (maxSteps := 2000000) (disch := first | assumption | omega) only [jI0, iAdd_j, iSub_j, iMul_j, iNeg_j, Option.bind_some, jlt_t, jlt_f, jlt, jle_t, jle_f, jle, jeq_t, jeq_f, jeq, ↓reduceIte, o0, o2, o12, hBand, hStake, hKind, hCross, hWeaver, oBand, oKindOf, oKind, oCr, oRing, oWv, oPer, oRows, oAhead, oWhen, oAll, oStep, oRods, oRodAt, oStakeAt, oOff, bI_t, bI_f, X11_refuse, oIsRow, rA, ro, oMiss, wo]
          · rw [cI_f d3] at wo
            simp (maxSteps := 2000000) (disch := first | assumption | omega) only [jI0, iAdd_j, iSub_j, iMul_j, iNeg_j, Option.bind_some, jlt_t, jlt_f, jlt, jle_t, jle_f, jle, jeq_t, jeq_f, jeq, ↓reduceIte, o0, o2, o12, hBand, hStake, hKind, hCross, hWeaver, oBand, oKindOf, oKind, oCr, oRing, oWv, oPer, oRows, oAhead, oWhen, oAll, oStep, oRods, oRodAt, oStakeAt, oOff, bI_t, bI_f, X11_refuse, oIsRow, rA, ro, oMiss, wo]
        · intro G1 hM e eo
          have pp := pr.eo hr eo
          have ww := mWithin (q := q) hN hr pp (lo := 1) (hi := 9999) (by omega) (by omega)
          rw [AW.eo hr eo] at ww
          rw [← eo 117 (by decide)] at p4
          have hV1 := hM.1; have hT1 := hM.2; (try rw [← e] at dm); (try rw [← e] at dr); (try rw [← e] at de); (try rw [← e] at dl); (try rw [← e] at hb); (try rw [← e] at hj); (try rw [← e] at hr); (try rw [← e] at hs); (try rw [← e] at pl); (try rw [← e] at al); (try rw [← e] at g); (try rw [← e] at c); (try rw [← e] at c1); (try rw [← e] at c2); (try rw [← e] at c3); (try rw [← e] at c4); (try rw [← e] at c5); (try rw [← e] at c6); (try rw [← e] at wb); (try rw [← e] at pr); (try rw [← e] at kd); (try rw [← e] at cr); (try rw [← e] at fe); (try rw [← e] at ra); (try rw [← e] at f1); (try rw [← e] at f2); (try rw [← e] at f3); (try rw [← e] at f4); (try rw [← e])
          unfold f_X12_nest
          by_cases d3 : AW G r 1 9999
          · rw [cI_t d3] at ww
            have d5 : ¬ (0 ≤ p ∧ p ≤ 999) := fun x => c2 ⟨d3, x⟩
            simp (maxSteps := 2000000) (disch := first | assumption | omega) only [jI0, iAdd_j, iSub_j, iMul_j, iNeg_j, Option.bind_some, jlt_t, jlt_f, jlt, jle_t, jle_f, jle, jeq_t, jeq_f, jeq, ↓reduceIte, o100, w100t, l102, mBand, mStake, mKind, mCross, mCr, mKindOf, mAhead, mWhen, mStep, mRods, mRodAt, mStakeAt, mIndex, mOver, mOverIn, jlL, X12_within, bI_t, bI_f, X12_no, l117, p4, ww]
          · rw [cI_f d3] at ww
            simp (maxSteps := 2000000) (disch := first | assumption | omega) only [jI0, iAdd_j, iSub_j, iMul_j, iNeg_j, Option.bind_some, jlt_t, jlt_f, jlt, jle_t, jle_f, jle, jeq_t, jeq_f, jeq, ↓reduceIte, o100, w100t, l102, mBand, mStake, mKind, mCross, mCr, mKindOf, mAhead, mWhen, mStep, mRods, mRodAt, mStakeAt, mIndex, mOver, mOverIn, jlL, X12_within, bI_t, bI_f, X12_no, l117, p4, ww]
  · refine OP.rf hI (-2) (jI (-2)) ?_ ?_
    · unfold f_X11_nest
      simp (maxSteps := 2000000) (disch := first | assumption | omega) only [jI0, iAdd_j, iSub_j, iMul_j, iNeg_j, Option.bind_some, jlt_t, jlt_f, jlt, jle_t, jle_f, jle, jeq_t, jeq_f, jeq, ↓reduceIte, o0, o2, o12, hBand, hStake, hKind, hCross, hWeaver, oBand, oKindOf, oKind, oCr, oRing, oWv, oPer, oRows, oAhead, oWhen, oAll, oStep, oRods, oRodAt, oStakeAt, oOff, bI_t, bI_f, X11_refuse, oIsRow]
    · intro G1 hM e eo
      have hV1 := hM.1; have hT1 := hM.2; (try rw [← e] at dm); (try rw [← e] at dr); (try rw [← e] at de); (try rw [← e] at dl); (try rw [← e] at hb); (try rw [← e] at hj); (try rw [← e] at hr); (try rw [← e] at hs); (try rw [← e] at pl); (try rw [← e] at al); (try rw [← e] at g); (try rw [← e] at c); (try rw [← e] at c1); (try rw [← e] at c2); (try rw [← e] at c3); (try rw [← e] at c4); (try rw [← e] at c5); (try rw [← e] at c6); (try rw [← e] at wb); (try rw [← e] at pr); (try rw [← e] at kd); (try rw [← e] at cr); (try rw [← e] at fe); (try rw [← e] at ra); (try rw [← e] at f1); (try rw [← e] at f2); (try rw [← e] at f3); (try rw [← e] at f4); (try rw [← e])
      unfold f_X12_nest
      simp (maxSteps := 2000000) (disch := first | assumption | omega) only [jI0, iAdd_j, iSub_j, iMul_j, iNeg_j, Option.bind_some, jlt_t, jlt_f, jlt, jle_t, jle_f, jle, jeq_t, jeq_f, jeq, ↓reduceIte, o100, w100t, l102, mBand, mStake, mKind, mCross, mCr, mKindOf, mAhead, mWhen, mStep, mRods, mRodAt, mStakeAt, mIndex, mOver, mOverIn, jlL, X12_within, bI_t, bI_f, X12_no]
end
