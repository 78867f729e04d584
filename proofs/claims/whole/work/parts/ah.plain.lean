/-! CONSTRUCTORS: the model's loops over its numbers -/
def iplF (f : Nat → Int32) : Nat → Int32 := fun k => if k < 143 then (if k = 140 then jI 2 else if k = 141 then jI 100 else jI 0) else f k
def ihdF (f : Nat → Int32) : Nat → Int32 := fun k => if 657 ≤ k ∧ k < 665 then jI (-1) else f k
section
variable {h : mH} {es : List mE} {s N : Nat}
theorem iset_same {i : Nat} {e : mE} (he : es[i]? = some e) : es.set i e = es := by
  apply List.ext_getElem?
  intro j
  by_cases c : j = i
  · rw [c, List.getElem?_set_self (List.getElem?_eq_some_iff.mp he).1, he]
  · rw [List.getElem?_set_ne (Ne.symm c)]
theorem plain_ad {i n : Nat} {f : Nat → Int32} (hN : 10000 ≤ N) (he : es[i]? = some (.inl (0, n, .inl f))) (hn : 143 ≤ n) (h2 : n < 2147483648) : f_X12_plain N (h.1 + i) (adB h es s) = some (adB h (es.set i (.inl (0, n, .inl (iplF f)))) s) := by
  have hl : i < es.length := (List.getElem?_eq_some_iff.mp he).1
  have LL : ∀ (k m x : Nat) (es' : List mE), x + k = 143 → k < m → es' = es.set i (.inl (0, n, .inl (fun k => if k < x then (if k = 140 then jI 2 else if k = 141 then jI 100 else jI 0) else f k))) → L_X12_plain_2 N m (h.1 + i) (jI (x : Int)) (adB h es' s) = some (adB h (es.set i (.inl (0, n, .inl (iplF f)))) s) := by
    intro k
    induction k with
    | zero =>
      intro m x es' hx hm hes
      obtain ⟨m, rfl⟩ : ∃ y, m = y + 1 := ⟨m - 1, by omega⟩
      have e : x = 143 := by omega
      have c : ¬ (x : Int) < 143 := by omega
      rw [L_X12_plain_2, hes]
      simp (maxSteps := 2000000) (disch := first | assumption | omega) only [jI0, iAdd_j, iSub_j, iMul_j, iNeg_j, Option.bind_some, jlt_t, jlt_f, jlt, jle_t, jle_f, jle, jeq_t, jeq_f, jeq, ↓reduceIte, c]
      rw [e]
      rfl
    | succ k ih =>
      intro m x es' hx hm hes
      obtain ⟨m, rfl⟩ : ∃ y, m = y + 1 := ⟨m - 1, by omega⟩
      have c : (x : Int) < 143 := by omega
      have hx' : es'[i]? = some (.inl (0, n, .inl (fun k => if k < x then (if k = 140 then jI 2 else if k = 141 then jI 100 else jI 0) else f k))) := by
        rw [hes, List.getElem?_set_self hl]
      have st := fun v => stI_ad (h := h) (s := s) (x := (x : Int)) (v := v) hx' (by omega) (by omega) (by omega)
      have fe : ∀ v, v = (if x = 140 then jI 2 else if x = 141 then jI 100 else jI 0) → upd (fun k => if k < x then (if k = 140 then jI 2 else if k = 141 then jI 100 else jI 0) else f k) ((x : Int)).toNat (narB 0 v) = fun k => if k < x + 1 then (if k = 140 then jI 2 else if k = 141 then jI 100 else jI 0) else f k := by
        intro v hv
        funext k
        unfold upd
        rw [Int.toNat_natCast]
        by_cases ck : k = x
        · rw [if_pos ck, if_pos (by omega), ck]
          exact hv
        · rw [if_neg ck]
          show (if k < x then (if k = 140 then jI 2 else if k = 141 then jI 100 else jI 0) else f k) = _
          by_cases ck2 : k < x
          · rw [if_pos ck2, if_pos (show k < x + 1 by omega)]
          · rw [if_neg ck2, if_neg (show ¬ k < x + 1 by omega)]
      have z := ih m (x + 1) (es'.set i (.inl (0, n, .inl (fun k => if k < x + 1 then (if k = 140 then jI 2 else if k = 141 then jI 100 else jI 0) else f k)))) (by omega) (by omega) (by rw [hes, List.set_set])
      rw [Int.natCast_succ] at z
      rw [L_X12_plain_2]
      by_cases c1 : x = 140
      · have s1 := st (jI 2)
        rw [fe (jI 2) (by rw [if_pos c1])] at s1
        have c1' : (x : Int) = 140 := by omega
        rw [c1'] at s1 z ⊢
        simp (maxSteps := 2000000) (disch := first | assumption | omega) only [jI0, iAdd_j, iSub_j, iMul_j, iNeg_j, Option.bind_some, jlt_t, jlt_f, jlt, jle_t, jle_f, jle, jeq_t, jeq_f, jeq, ↓reduceIte, s1, z]
      · have c1' : ¬ (x : Int) = 140 := by omega
        by_cases c2 : x = 141
        · have s1 := st (jI 100)
          rw [fe (jI 100) (by rw [if_neg c1, if_pos c2])] at s1
          have c2' : (x : Int) = 141 := by omega
          rw [c2'] at s1 z ⊢
          simp (maxSteps := 2000000) (disch := first | assumption | omega) only [jI0, iAdd_j, iSub_j, iMul_j, iNeg_j, Option.bind_some, jlt_t, jlt_f, jlt, jle_t, jle_f, jle, jeq_t, jeq_f, jeq, ↓reduceIte, s1, z]
        · have c2' : ¬ (x : Int) = 141 := by omega
          have s1 := st (jI 0)
          rw [fe (jI 0) (by rw [if_neg c1, if_neg c2])] at s1
          simp (maxSteps := 2000000) (disch := first | assumption | omega) only [jI0, iAdd_j, iSub_j, iMul_j, iNeg_j, Option.bind_some, jlt_t, jlt_f, jlt, jle_t, jle_f, jle, jeq_t, jeq_f, jeq, ↓reduceIte, c, c1', c2', s1, z]
  have e0 : es = es.set i (.inl (0, n, .inl (fun k => if k < 0 then (if k = 140 then jI 2 else if k = 141 then jI 100 else jI 0) else f k))) := by
    have : (fun k => if k < 0 then (if k = 140 then jI 2 else if k = 141 then jI 100 else jI 0) else f k) = f := by
      funext k
      rw [if_neg (Nat.not_lt_zero k)]
    rw [this, iset_same he]
  unfold f_X12_plain
  exact LL 143 N 0 es (by omega) (by omega) e0
theorem h203_ad {j n : Nat} {vs : List Value} {r : List mE} {f : Nat → Int32} (hN : 10000 ≤ N) (hk : vs[2]? = some (.ref (h.1 + (j + 1)))) (he : r[j]? = some (.inl (0, n, .inl f))) (hn : 665 ≤ n) (h2 : n < 2147483648) : L_X12_init_203 N N h.1 (jI 0) (adB h (.inr (12, vs) :: r) s) = some (adB h (.inr (12, vs) :: r.set j (.inl (0, n, .inl (ihdF f)))) s) := by
  have hl : j < r.length := (List.getElem?_eq_some_iff.mp he).1
  have LL : ∀ (k m x : Nat) (r' : List mE), x + k = 8 → k < m → r' = r.set j (.inl (0, n, .inl (fun k => if 657 ≤ k ∧ k < 657 + x then jI (-1) else f k))) → L_X12_init_203 N m h.1 (jI (x : Int)) (adB h (.inr (12, vs) :: r') s) = some (adB h (.inr (12, vs) :: r.set j (.inl (0, n, .inl (ihdF f)))) s) := by
    intro k
    induction k with
    | zero =>
      intro m x r' hx hm hes
      obtain ⟨m, rfl⟩ : ∃ y, m = y + 1 := ⟨m - 1, by omega⟩
      have e : x = 8 := by omega
      have c : ¬ (x : Int) < 8 := by omega
      rw [L_X12_init_203, hes]
      simp (maxSteps := 2000000) (disch := first | assumption | omega) only [jI0, iAdd_j, iSub_j, iMul_j, iNeg_j, Option.bind_some, jlt_t, jlt_f, jlt, jle_t, jle_f, jle, jeq_t, jeq_f, jeq, ↓reduceIte, c]
      rw [e]
      rfl
    | succ k ih =>
      intro m x r' hx hm hes
      obtain ⟨m, rfl⟩ : ∃ y, m = y + 1 := ⟨m - 1, by omega⟩
      have c : (x : Int) < 8 := by omega
      have hx' : ((.inr (12, vs) : mE) :: r')[j + 1]? = some (.inl (0, n, .inl (fun k => if 657 ≤ k ∧ k < 657 + x then jI (-1) else f k))) := by
        rw [List.getElem?_cons_succ, hes, List.getElem?_set_self hl]
      have st := stI_ad (h := h) (s := s) (x := 657 + (x : Int)) (v := jI (-1)) hx' (by omega) (by omega) (by omega)
      have fe : upd (fun k => if 657 ≤ k ∧ k < 657 + x then jI (-1) else f k) (657 + (x : Int)).toNat (narB 0 (jI (-1))) = fun k => if 657 ≤ k ∧ k < 657 + (x + 1) then jI (-1) else f k := by
        funext k
        unfold upd
        rw [show (657 + (x : Int)).toNat = 657 + x by omega]
        by_cases ck : k = 657 + x
        · rw [if_pos ck, if_pos (by omega)]
          rfl
        · rw [if_neg ck]
          show (if 657 ≤ k ∧ k < 657 + x then jI (-1) else f k) = _
          by_cases ck2 : 657 ≤ k ∧ k < 657 + x
          · rw [if_pos ck2, if_pos (show 657 ≤ k ∧ k < 657 + (x + 1) by omega)]
          · rw [if_neg ck2, if_neg (show ¬ (657 ≤ k ∧ k < 657 + (x + 1)) by omega)]
      rw [fe, List.set_cons_succ] at st
      have z := ih m (x + 1) (r'.set j (.inl (0, n, .inl (fun k => if 657 ≤ k ∧ k < 657 + (x + 1) then jI (-1) else f k)))) (by omega) (by omega) (by rw [hes, List.set_set])
      rw [Int.natCast_succ] at z
      have g2 : gR (adB h (.inr (12, vs) :: r') s) 12 h.1 2 = some (h.1 + (j + 1)) := gR0_ad hk
      rw [L_X12_init_203]
      simp (maxSteps := 2000000) (disch := first | assumption | omega) only [jI0, iAdd_j, iSub_j, iMul_j, iNeg_j, Option.bind_some, jlt_t, jlt_f, jlt, jle_t, jle_f, jle, jeq_t, jeq_f, jeq, ↓reduceIte, c, g2, st, z]
  have e0 : r = r.set j (.inl (0, n, .inl (fun k => if 657 ≤ k ∧ k < 657 + 0 then jI (-1) else f k))) := by
    have : (fun k => if 657 ≤ k ∧ k < 657 + 0 then jI (-1) else f k) = f := by
      funext k
      rw [if_neg (by omega)]
    rw [this, iset_same he]
  exact LL 8 N 0 r (by omega) (by omega) e0
end
