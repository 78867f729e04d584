/-! CONSTRUCTORS: a heap, and cells added behind it -/
def adB (h : mH) (es : List mE) (s : Nat) : mH := (h.1 + es.length, h.2.1 + s, fun a => if h.1 ≤ a ∧ a < h.1 + es.length then es.getD (a - h.1) (.inl (0, 0, zrA 0)) else h.2.2 a)
section
variable {h : mH} {es fs : List mE} {s t : Nat}
theorem ad_at {i : Nat} (hi : i < es.length) : (adB h es s).2.2 (h.1 + i) = es.getD i (.inl (0, 0, zrA 0)) := by
  show (if h.1 ≤ h.1 + i ∧ h.1 + i < h.1 + es.length then es.getD (h.1 + i - h.1) (.inl (0, 0, zrA 0)) else h.2.2 (h.1 + i)) = _
  rw [if_pos ⟨by omega, by omega⟩, show h.1 + i - h.1 = i by omega]
theorem ad_cell {i : Nat} {e : mE} (hi : es[i]? = some e) : cell (adB h es s) (h.1 + i) = some e := by
  have hl : i < es.length := (List.getElem?_eq_some_iff.mp hi).1
  show (if h.1 + i < h.1 + es.length then some ((adB h es s).2.2 (h.1 + i)) else none) = _
  rw [if_pos (show h.1 + i < h.1 + es.length by omega), ad_at hl, List.getD_eq_getElem?_getD, hi, Option.getD_some]
theorem mP_ad {n : Nat} {e : mE} : mP (adB h es s) n e = adB h (es ++ [e]) (s + n) := by
  have l : (es ++ [e]).length = es.length + 1 := by rw [List.length_append]; rfl
  have f : ∀ a, (if a = h.1 + es.length then e else (adB h es s).2.2 a) = (adB h (es ++ [e]) (s + n)).2.2 a := by
    intro a
    show (if a = h.1 + es.length then e else if h.1 ≤ a ∧ a < h.1 + es.length then es.getD (a - h.1) (.inl (0, 0, zrA 0)) else h.2.2 a) = if h.1 ≤ a ∧ a < h.1 + (es ++ [e]).length then (es ++ [e]).getD (a - h.1) (.inl (0, 0, zrA 0)) else h.2.2 a
    rw [l]
    by_cases c : a = h.1 + es.length
    · rw [if_pos c, if_pos ⟨by omega, by omega⟩, c, show h.1 + es.length - h.1 = es.length by omega, List.getD_eq_getElem?_getD, List.getElem?_append_right (Nat.le_refl _), Nat.sub_self]
      rfl
    · rw [if_neg c]
      by_cases c2 : h.1 ≤ a ∧ a < h.1 + es.length
      · rw [if_pos c2, if_pos ⟨by omega, by omega⟩, List.getD_eq_getElem?_getD, List.getD_eq_getElem?_getD, List.getElem?_append_left (by omega)]
      · rw [if_neg c2, if_neg (by omega)]
  have e1 : mP (adB h es s) n e = (h.1 + es.length + 1, h.2.1 + s + n, fun a => if a = h.1 + es.length then e else (adB h es s).2.2 a) := rfl
  have e2 : adB h (es ++ [e]) (s + n) = (h.1 + (es ++ [e]).length, h.2.1 + (s + n), (adB h (es ++ [e]) (s + n)).2.2) := rfl
  rw [e1, e2, l, funext f, Nat.add_assoc, Nat.add_assoc]
theorem ad_ad : adB (adB h es s) fs t = adB h (es ++ fs) (s + t) := by
  have l : (es ++ fs).length = es.length + fs.length := List.length_append
  have f : ∀ a, (adB (adB h es s) fs t).2.2 a = (adB h (es ++ fs) (s + t)).2.2 a := by
    intro a
    show (if h.1 + es.length ≤ a ∧ a < h.1 + es.length + fs.length then fs.getD (a - (h.1 + es.length)) (.inl (0, 0, zrA 0)) else if h.1 ≤ a ∧ a < h.1 + es.length then es.getD (a - h.1) (.inl (0, 0, zrA 0)) else h.2.2 a) = if h.1 ≤ a ∧ a < h.1 + (es ++ fs).length then (es ++ fs).getD (a - h.1) (.inl (0, 0, zrA 0)) else h.2.2 a
    rw [l]
    by_cases c : h.1 + es.length ≤ a ∧ a < h.1 + es.length + fs.length
    · rw [if_pos c, if_pos ⟨by omega, by omega⟩, List.getD_eq_getElem?_getD, List.getD_eq_getElem?_getD, List.getElem?_append_right (by omega), show a - h.1 - es.length = a - (h.1 + es.length) by omega]
    · rw [if_neg c]
      by_cases c2 : h.1 ≤ a ∧ a < h.1 + es.length
      · rw [if_pos c2, if_pos ⟨by omega, by omega⟩, List.getD_eq_getElem?_getD, List.getD_eq_getElem?_getD, List.getElem?_append_left (by omega)]
      · rw [if_neg c2, if_neg (by omega)]
  have e1 : adB (adB h es s) fs t = (h.1 + es.length + fs.length, h.2.1 + s + t, (adB (adB h es s) fs t).2.2) := rfl
  have e2 : adB h (es ++ fs) (s + t) = (h.1 + (es ++ fs).length, h.2.1 + (s + t), (adB h (es ++ fs) (s + t)).2.2) := rfl
  rw [e1, e2, l, show (adB (adB h es s) fs t).2.2 = (adB h (es ++ fs) (s + t)).2.2 from funext f, Nat.add_assoc, Nat.add_assoc]
theorem mS_ad {i : Nat} {e : mE} (hi : i < es.length) : mS (adB h es s) (h.1 + i) e = adB h (es.set i e) s := by
  have l : (es.set i e).length = es.length := List.length_set
  have f : ∀ a, (if a = h.1 + i then e else (adB h es s).2.2 a) = (adB h (es.set i e) s).2.2 a := by
    intro a
    show (if a = h.1 + i then e else if h.1 ≤ a ∧ a < h.1 + es.length then es.getD (a - h.1) (.inl (0, 0, zrA 0)) else h.2.2 a) = if h.1 ≤ a ∧ a < h.1 + (es.set i e).length then (es.set i e).getD (a - h.1) (.inl (0, 0, zrA 0)) else h.2.2 a
    rw [l]
    by_cases c : a = h.1 + i
    · rw [if_pos c, if_pos ⟨by omega, by omega⟩, c, show h.1 + i - h.1 = i by omega, List.getD_eq_getElem?_getD, List.getElem?_set_self hi, Option.getD_some]
    · rw [if_neg c]
      by_cases c2 : h.1 ≤ a ∧ a < h.1 + es.length
      · rw [if_pos c2, if_pos c2, List.getD_eq_getElem?_getD, List.getD_eq_getElem?_getD, List.getElem?_set_ne (by omega)]
      · rw [if_neg c2, if_neg c2]
  have e1 : mS (adB h es s) (h.1 + i) e = (h.1 + es.length, h.2.1 + s, fun a => if a = h.1 + i then e else (adB h es s).2.2 a) := rfl
  have e2 : adB h (es.set i e) s = (h.1 + (es.set i e).length, h.2.1 + s, (adB h (es.set i e) s).2.2) := rfl
  rw [e1, e2, l, funext f]
theorem nwO_h {ci : Nat} : nwO h ci = adB h [.inr (ci, dfl ci)] (clN ci).2.2 := by
  have e0 : adB h [] 0 = h := by
    have f : ∀ a, (adB h [] 0).2.2 a = h.2.2 a := fun a => by
      show (if h.1 ≤ a ∧ a < h.1 + 0 then ([] : List mE).getD (a - h.1) (.inl (0, 0, zrA 0)) else h.2.2 a) = _
      rw [if_neg (by omega)]
    have e : adB h [] 0 = (h.1 + 0, h.2.1 + 0, (adB h [] 0).2.2) := rfl
    rw [e, funext f, Nat.add_zero, Nat.add_zero]
  unfold nwO
  have := mP_ad (h := h) (es := []) (s := 0) (n := (clN ci).2.2) (e := .inr (ci, dfl ci))
  rw [e0, Nat.zero_add] at this
  exact this
theorem nwO_ad {ci : Nat} : nwO (adB h es s) ci = adB h (es ++ [.inr (ci, dfl ci)]) (s + (clN ci).2.2) := mP_ad
theorem nwA_ad {k : Nat} {w : Int} (hw : 0 ≤ w ∧ w ≤ 1000000) : nwA (adB h es s) k (jI w) = some (adB h (es ++ [.inl (k, w.toNat, zrA k)]) (s + w.toNat)) := by
  have b1 : ¬ jI w < 0 := by rw [jI0, jI_lt (by omega) (by omega) (by omega) (by omega)]; omega
  unfold nwA
  rw [jI_nat hw.1 (by omega), if_pos ⟨b1, by omega⟩, mP_ad]
theorem pV_ad {i ci k : Nat} {vs : List Value} {v : Value} (he : es[i]? = some (.inr (ci, vs))) (hk : k < vs.length) : pV (adB h es s) ci (h.1 + i) k v = some (adB h (es.set i (.inr (ci, vs.set k v))) s) := by
  unfold pV
  rw [ad_cell he]
  have c : (Nat.beq ci ci && Nat.blt k vs.length) = true := by
    rw [Nat.beq_refl, Bool.true_and]
    exact Nat.blt_eq.mpr hk
  show (bif Nat.beq ci ci && Nat.blt k vs.length then some (mS (adB h es s) (h.1 + i) (.inr (ci, vs.set k v))) else none) = _
  rw [c, mS_ad (List.getElem?_eq_some_iff.mp he).1]
  rfl
theorem pV0_ad {ci k : Nat} {vs : List Value} {v : Value} {r : List mE} (hk : Nat.blt k vs.length = true) : pV (adB h (.inr (ci, vs) :: r) s) ci h.1 k v = some (adB h (.inr (ci, vs.set k v) :: r) s) := pV_ad (i := 0) rfl (Nat.blt_eq.mp hk)
theorem gR_ad {i ci k r : Nat} {vs : List Value} (he : es[i]? = some (.inr (ci, vs))) (hk : vs[k]? = some (.ref r)) : gR (adB h es s) ci (h.1 + i) k = some r := by
  unfold gR gV
  rw [ad_cell he]
  show (match (bif Nat.beq ci ci then vs[k]? else none) with
    | some (.ref x) => some x
    | _ => none) = _
  rw [Nat.beq_refl, hk]
  rfl
theorem gR0_ad {ci k x : Nat} {vs : List Value} {r : List mE} (hk : vs[k]? = some (.ref x)) : gR (adB h (.inr (ci, vs) :: r) s) ci h.1 k = some x := gR_ad (i := 0) rfl hk
theorem stI_ad {i k n : Nat} {f : Nat → Int32} {x : Int} {v : Int32} (he : es[i]? = some (.inl (k, n, .inl f))) (h0 : 0 ≤ x) (h1 : x < n) (h2 : n < 2147483648) : stI k (adB h es s) (h.1 + i) (jI x) v = some (adB h (es.set i (.inl (k, n, .inl (upd f x.toNat (narB k v))))) s) := by
  rw [stI_c (n := n) (f := f) (ad_cell he) h0 h1 (by omega), mS_ad (List.getElem?_eq_some_iff.mp he).1]
theorem stR_ad {i j k ci n c : Nat} {f : Nat → Option Nat} {vs : List Value} {x : Int} (he : es[i]? = some (.inl (k, n, .inr (.inr (.inr (.inr f)))))) (hv : es[j]? = some (.inr (c, vs))) (hc : c = ci) (h0 : 0 ≤ x) (h1 : x < n) (h2 : n < 2147483648) : stR k ci (adB h es s) (h.1 + i) (jI x) (h.1 + j) = some (adB h (es.set i (.inl (k, n, .inr (.inr (.inr (.inr (va_up f x.toNat (some (h.1 + j)))))))) ) s) := by
  have b1 : ¬ (jI x < 0 ∨ n ≤ (jI x).toNatClampNeg) := by
    rw [jI0, jI_lt (by omega) (by omega) (by omega) (by omega), jI_nat h0 (by omega)]
    omega
  unfold stR
  rw [ad_cell he, ad_cell hv]
  show (if k = k ∧ c = ci ∧ ¬ (jI x < 0 ∨ n ≤ (jI x).toNatClampNeg) then some (mS (adB h es s) (h.1 + i) (.inl (k, n, .inr (.inr (.inr (.inr (va_up f (jI x).toNatClampNeg (some (h.1 + j))))))))) else none) = _
  rw [if_pos ⟨rfl, hc, b1⟩, jI_nat h0 (by omega), mS_ad (List.getElem?_eq_some_iff.mp he).1]
theorem lnA_ad {i k n : Nat} {g : (Nat → Int32) ⊕ (Nat → Int64) ⊕ (Nat → UInt32) ⊕ (Nat → UInt64) ⊕ (Nat → Option Nat)} (he : es[i]? = some (.inl (k, n, g))) (hk : k < 6) : lnA (adB h es s) (h.1 + i) = some (jI n) := lnA_c (t := k) (n := n) (g := g) (ad_cell he) hk
/-- a row filled as a whole -/
theorem fill_ad {N i n : Nat} {f : Nat → Int32} {v : Int} (hN : 10000 ≤ N) (he : es[i]? = some (.inl (0, n, .inl f))) (hn : n < 9000) : f_J7_fill_53178 N (h.1 + i) (jI v) (adB h es s) = some (adB h (es.set i (.inl (0, n, .inl (fun k => if k < n then jI v else f k)))) s) := by
  have hl : i < es.length := (List.getElem?_eq_some_iff.mp he).1
  have LL : ∀ (k m : Nat) (x : Nat) (es' : List mE), x + k = n → k < m → es' = es.set i (.inl (0, n, .inl (fun k => if k < x then jI v else f k))) → L_J7_fill_53178_5 N m (h.1 + i) (jI v) (jI (x : Int)) (jI (n : Int)) (adB h es' s) = some (adB h (es.set i (.inl (0, n, .inl (fun k => if k < n then jI v else f k)))) s) := by
    intro k
    induction k with
    | zero =>
      intro m x es' hx hm hes
      obtain ⟨m, rfl⟩ : ∃ y, m = y + 1 := ⟨m - 1, by omega⟩
      have e : x = n := by omega
      have c : ¬ (x : Int) < n := by omega
      rw [L_J7_fill_53178_5, hes]
      simp (maxSteps := 2000000) (disch := first | assumption | omega) only [jI0, iAdd_j, iSub_j, iMul_j, iNeg_j, Option.bind_some, jlt_t, jlt_f, jlt, jle_t, jle_f, jle, jeq_t, jeq_f, jeq, ↓reduceIte, c]
      rw [e]
    | succ k ih =>
      intro m x es' hx hm hes
      obtain ⟨m, rfl⟩ : ∃ y, m = y + 1 := ⟨m - 1, by omega⟩
      have c : (x : Int) < n := by omega
      have hx' : es'[i]? = some (.inl (0, n, .inl (fun k => if k < x then jI v else f k))) := by
        rw [hes, List.getElem?_set_self hl]
      have st := stI_ad (h := h) (s := s) (x := (x : Int)) (v := jI v) hx' (by omega) (by omega) (by omega)
      have fe : upd (fun k => if k < x then jI v else f k) ((x : Int)).toNat (narB 0 (jI v)) = fun k => if k < x + 1 then jI v else f k := by
        funext k
        unfold upd
        rw [Int.toNat_natCast]
        by_cases ck : k = x
        · rw [if_pos ck, if_pos (by omega)]
          rfl
        · rw [if_neg ck]
          show (if k < x then jI v else f k) = _
          by_cases ck2 : k < x
          · rw [if_pos ck2, if_pos (by omega)]
          · rw [if_neg ck2, if_neg (by omega)]
      have z := ih m (x + 1) (es'.set i (.inl (0, n, .inl (fun k => if k < x + 1 then jI v else f k)))) (by omega) (by omega) (by rw [hes, List.set_set])
      rw [fe] at st
      rw [Int.natCast_succ] at z
      rw [L_J7_fill_53178_5]
      simp (maxSteps := 2000000) (disch := first | assumption | omega) only [jI0, iAdd_j, iSub_j, iMul_j, iNeg_j, Option.bind_some, jlt_t, jlt_f, jlt, jle_t, jle_f, jle, jeq_t, jeq_f, jeq, ↓reduceIte, c, st, z]
  have ln := lnA_ad (h := h) (s := s) he (by omega)
  have e0 : es = es.set i (.inl (0, n, .inl (fun k => if k < 0 then jI v else f k))) := by
    apply List.ext_getElem?
    intro j
    by_cases cj : j = i
    · rw [cj, List.getElem?_set_self hl, he]
      have : (fun k => if k < 0 then jI v else f k) = f := by
        funext k
        rw [if_neg (by omega)]
      rw [this]
    · rw [List.getElem?_set_ne (Ne.symm cj)]
  have z := LL n N 0 es (by omega) (by omega) e0
  rw [show ((0 : Nat) : Int) = 0 from rfl] at z
  unfold f_J7_fill_53178
  simp (maxSteps := 2000000) (disch := first | assumption | omega) only [jI0, iAdd_j, iSub_j, iMul_j, iNeg_j, Option.bind_some, jlt_t, jlt_f, jlt, jle_t, jle_f, jle, jeq_t, jeq_f, jeq, ↓reduceIte, ln, z]
/-- a reference to what came behind e' :: r' -/
theorem pVr_ad {ci k m s' : Nat} {vs : List Value} {r r' : List mE} {e' : mE} (hk : Nat.blt k vs.length = true) (hm : r'.length = m) : pV (adB h (.inr (ci, vs) :: r) s) ci h.1 k (.ref (adB h (e' :: r') s').1) = some (adB h (.inr (ci, vs.set k (.ref (h.1 + (m + 1)))) :: r) s) := by
  rw [show (adB h (e' :: r') s').1 = h.1 + (m + 1) by rw [← hm]; rfl]
  exact pV0_ad hk
theorem nxt {m s : Nat} {e : mE} {r : List mE} (hm : r.length = m) : (adB h (e :: r) s).1 = h.1 + (m + 1) := by rw [← hm]; rfl
theorem stR_q0 {k ci n m m' s s' s'' : Nat} {x x' x'' : mE} {P Q tl : List mE} {f : Nat → Option Nat} {vs : List Value} {i : Int} (hP : P.length = m') (hm : ((P ++ [(.inl (k, n, .inr (.inr (.inr (.inr f)))) : mE)]) ++ Q).length = m) (h0 : 0 ≤ i) (h1 : i < n) (h2 : n < 2147483648) : stR k ci (adB h (x :: ((P ++ [.inl (k, n, .inr (.inr (.inr (.inr f))))]) ++ (Q ++ (.inr (ci, vs) :: tl)))) s) (adB h (x' :: P) s').1 (jI i) (adB h (x'' :: ((P ++ [.inl (k, n, .inr (.inr (.inr (.inr f))))]) ++ Q)) s'').1 = some (adB h (x :: ((P ++ [.inl (k, n, .inr (.inr (.inr (.inr (va_up f i.toNat (some (h.1 + (m + 1))))))))]) ++ (Q ++ (.inr (ci, vs) :: tl)))) s) := by
  rw [nxt hP, nxt hm]
  have g1 : (x :: ((P ++ [(.inl (k, n, .inr (.inr (.inr (.inr f)))) : mE)]) ++ (Q ++ (.inr (ci, vs) :: tl))))[m' + 1]? = some (.inl (k, n, .inr (.inr (.inr (.inr f))))) := by
    rw [List.getElem?_cons_succ, List.append_assoc, List.getElem?_append_right (by omega), show m' - P.length = 0 by omega]
    rfl
  have g2 : (x :: ((P ++ [(.inl (k, n, .inr (.inr (.inr (.inr f)))) : mE)]) ++ (Q ++ (.inr (ci, vs) :: tl))))[m + 1]? = some (.inr (ci, vs)) := by
    rw [List.getElem?_cons_succ, ← List.append_assoc, List.getElem?_append_right (by omega), show m - ((P ++ [(.inl (k, n, .inr (.inr (.inr (.inr f)))) : mE)]) ++ Q).length = 0 by omega]
    rfl
  rw [stR_ad g1 g2 rfl h0 h1 h2]
  have e : ∀ y : mE, (x :: ((P ++ [(.inl (k, n, .inr (.inr (.inr (.inr f)))) : mE)]) ++ (Q ++ (.inr (ci, vs) :: tl)))).set (m' + 1) y = x :: ((P ++ [y]) ++ (Q ++ (.inr (ci, vs) :: tl))) := fun y => by
    rw [List.set_cons_succ, List.append_assoc, List.append_assoc, List.set_append_right _ _ (by omega), show m' - P.length = 0 by omega]
    rfl
  rw [e]
theorem stR_q {k ci n m m1 m' s s' s'' : Nat} {x x' x'' : mE} {P Q Q' tl : List mE} {f f' : Nat → Option Nat} {vs : List Value} {i : Int} (hP : P.length = m') (hm : ((P ++ [(.inl (k, n, .inr (.inr (.inr (.inr f)))) : mE)]) ++ Q).length = m) (hQ : Q' = Q ++ (.inr (ci, vs) :: tl)) (hm1 : m + 1 = m1) (hf : va_up f i.toNat (some (h.1 + m1)) = f') (h0 : 0 ≤ i) (h1 : i < n) (h2 : n < 2147483648) : stR k ci (adB h (x :: ((P ++ [.inl (k, n, .inr (.inr (.inr (.inr f))))]) ++ Q')) s) (adB h (x' :: P) s').1 (jI i) (adB h (x'' :: ((P ++ [.inl (k, n, .inr (.inr (.inr (.inr f))))]) ++ Q)) s'').1 = some (adB h (x :: ((P ++ [.inl (k, n, .inr (.inr (.inr (.inr f'))))]) ++ Q')) s) := by
  rw [hQ, stR_q0 hP hm h0 h1 h2, hm1, hf]
theorem gRn_ad {ci cj k x : Nat} {vs : List Value} {r : List mE} (hk : vs[k]? = some (.ref x)) : gR (nwO (adB h (.inr (ci, vs) :: r) s) cj) ci h.1 k = some x := by
  rw [nwO_ad]
  exact gR0_ad hk
end
