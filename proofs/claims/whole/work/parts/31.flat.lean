/-! FLAT MEMORY: behind the constructors the cells' shapes never change: the heap is a table of whole numbers, by cell and place.
Kinds of a field: 0 int, 1 long, 2 a reference that moves, r + 3 a reference to cell r for good. Cells from 120 on are rows of longs (their lengths: sz). -/
def fv (k : Nat) (v : Int) : Value := match k with
  | 0 => .int (jI v)
  | 1 => .long (jL v)
  | 2 => .ref v.toNat
  | r + 3 => .ref r
def flds (g : Int → Int) : Int → List Nat → List Value
  | _, [] => []
  | i, k :: ks => fv k (g i) :: flds g (i + 1) ks
def SH : List ((Nat × Nat) ⊕ (Nat × List Nat)) := [.inr (11, [4, 0, 5, 9, 13, 15, 20, 24, 28, 36, 39, 48, 81, 85, 98, 101, 102]), .inl (2, 500), .inr (0, [0, 0, 0, 0, 0, 0, 0, 6, 7, 8]), .inl (0, 24), .inl (0, 88), .inl (0, 24), .inr (0, [0, 0, 0, 0, 0, 0, 0, 10, 11, 12]), .inl (0, 24), .inl (0, 88), .inl (0, 24), .inr (8, [0, 0, 2, 0, 0, 0, 0, 0]), .inl (2, 0), .inr (10, [5, 16, 17, 18, 19, 0]), .inl (0, 1280), .inl (0, 4), .inl (0, 4), .inl (0, 6), .inr (6, [0, 21, 22, 23]), .inl (0, 8), .inl (0, 8), .inl (0, 8), .inr (6, [0, 25, 26, 27]), .inl (0, 8), .inl (0, 8), .inl (0, 8), .inr (9, [29, 30, 31, 32, 33, 34, 35, 0, 0, 0, 0]), .inl (0, 8), .inl (0, 8), .inl (0, 8), .inl (0, 8), .inl (0, 5), .inl (0, 10), .inl (0, 16), .inr (3, [37, 38]), .inl (0, 8), .inl (0, 8), .inl (4, 4), .inr (5, [0, 0, 41]), .inl (1, 40), .inr (5, [0, 0, 43]), .inl (1, 40), .inr (5, [0, 0, 45]), .inl (1, 40), .inr (5, [0, 0, 47]), .inl (1, 40), .inl (5, 2), .inr (4, [0, 50, 54, 58, 62]), .inr (0, [0, 0, 0, 0, 0, 0, 0, 51, 52, 53]), .inl (0, 24), .inl (0, 88), .inl (0, 24), .inr (6, [0, 55, 56, 57]), .inl (0, 8), .inl (0, 8), .inl (0, 8), .inr (6, [0, 59, 60, 61]), .inl (0, 8), .inl (0, 8), .inl (0, 8), .inr (3, [63, 64]), .inl (0, 8), .inl (0, 8), .inr (4, [0, 66, 70, 74, 78]), .inr (0, [0, 0, 0, 0, 0, 0, 0, 67, 68, 69]), .inl (0, 24), .inl (0, 88), .inl (0, 24), .inr (6, [0, 71, 72, 73]), .inl (0, 8), .inl (0, 8), .inl (0, 8), .inr (6, [0, 75, 76, 77]), .inl (0, 8), .inl (0, 8), .inl (0, 8), .inr (3, [79, 80]), .inl (0, 8), .inl (0, 8), .inr (2, [0, 0, 0, 82, 83, 84]), .inl (0, 8), .inl (0, 8), .inl (0, 8), .inr (1, [0, 0, 0, 0, 86, 87, 88, 89, 90, 91, 92, 93, 94, 95, 2, 2, 1]), .inl (0, 8), .inl (0, 8), .inl (0, 8), .inl (0, 8), .inl (0, 8), .inl (0, 8), .inl (0, 19), .inl (0, 19), .inl (0, 19), .inl (0, 19), .inl (1, 0), .inl (1, 0), .inr (7, [99, 100]), .inl (0, 9), .inl (0, 40), .inl (0, 6), .inl (0, 40), .inr (12, [0, 104, 105, 106, 107, 108, 0, 0, 0, 0, 0, 0, 0, 0, 0, 0, 109, 0, 0, 0, 0, 0, 110, 111, 112, 113, 114, 115, 116, 0, 0, 117, 118, 119, 120, 121, 122]), .inl (0, 6), .inl (0, 1995), .inl (3, 2), .inl (0, 500), .inl (0, 143), .inl (0, 4), .inl (0, 4), .inl (0, 9), .inl (0, 9), .inl (1, 40), .inl (0, 8), .inl (0, 8), .inl (0, 8), .inl (0, 608000), .inl (0, 40), .inl (0, 8), .inl (0, 4), .inl (0, 4), .inl (1, 160)]
def shp (sz : Nat → Nat) (a : Nat) : (Nat × Nat) ⊕ (Nat × List Nat) := SH.getD a (.inl (1, sz a))
def arr (t : Nat) (g : Int → Int) : (Nat → Int32) ⊕ (Nat → Int64) ⊕ (Nat → UInt32) ⊕ (Nat → UInt64) ⊕ (Nat → Option Nat) := match t with
  | 1 => .inr (.inl (fun k => jL (g k)))
  | 4 => .inr (.inr (.inr (.inr (fun k => match k with
    | 0 => some 37
    | 1 => some 39
    | 2 => some 41
    | 3 => some 43
    | _ => none))))
  | 5 => .inr (.inr (.inr (.inr (fun k => match k with
    | 0 => some 46
    | 1 => some 62
    | _ => none))))
  | _ => .inl (fun k => jI (g k))
def cof (e : (Nat × Nat) ⊕ (Nat × List Nat)) (g : Int → Int) : mE := match e with
  | .inl (t, n) => .inl (t, n, arr t g)
  | .inr (ci, ks) => .inr (ci, flds g 0 ks)
def u1 (g : Int → Int) (i v : Int) : Int → Int := fun j => if j = i then v else g j
def up (G : Nat → Int → Int) (a : Nat) (i v : Int) : Nat → Int → Int := fun b => if b = a then u1 (G a) i v else G b
def hp (q : Nat × Nat × (Nat → Nat)) (G : Nat → Int → Int) : mH := (120 + q.1, q.2.1, fun a => cof (shp q.2.2 a) (G a))
theorem u1_eq {g : Int → Int} {i v : Int} : u1 g i v i = v := if_pos rfl
theorem u1_ne {g : Int → Int} {i v j : Int} (h : j ≠ i) : u1 g i v j = g j := if_neg h
theorem up_eq {G : Nat → Int → Int} {a : Nat} {i v : Int} : up G a i v a = u1 (G a) i v := if_pos rfl
theorem up_ne {G : Nat → Int → Int} {a b : Nat} {i v : Int} (h : b ≠ a) : up G a i v b = G b := if_neg h
theorem cell_hp {q : Nat × Nat × (Nat → Nat)} {G : Nat → Int → Int} {a : Nat} (h : a < 120 + q.1) : cell (hp q G) a = some (cof (shp q.2.2 a) (G a)) := if_pos h
theorem mS_hp {q : Nat × Nat × (Nat → Nat)} {G : Nat → Int → Int} {a : Nat} {g : Int → Int} : mS (hp q G) a (cof (shp q.2.2 a) g) = hp q (fun b => if b = a then g else G b) := by
  unfold mS hp
  congr 2
  funext b
  by_cases h : b = a
  · subst h; simp
  · simp [h]
theorem mS_up {q : Nat × Nat × (Nat → Nat)} {G : Nat → Int → Int} {a : Nat} {i v : Int} : mS (hp q G) a (cof (shp q.2.2 a) (u1 (G a) i v)) = hp q (up G a i v) := mS_hp
theorem flds_len (g : Int → Int) : ∀ (ks : List Nat) (i : Int), (flds g i ks).length = ks.length
  | [], _ => rfl
  | _ :: ks, i => congrArg (· + 1) (flds_len g ks (i + 1))
theorem flds_get (g : Int → Int) : ∀ (ks : List Nat) (i : Int) (k : Nat), (flds g i ks)[k]? = (ks[k]?).map (fun t => fv t (g (i + k)))
  | [], _, _ => rfl
  | t :: ks, i, 0 => by simp [flds]
  | t :: ks, i, k + 1 => by
    simp only [flds, List.getElem?_cons_succ]
    rw [flds_get g ks (i + 1) k]
    rw [show i + 1 + (k : Int) = i + ((k + 1 : Nat) : Int) by omega]
theorem flds_set (g : Int → Int) (ks : List Nat) (k t : Nat) (v : Int) (ht : ks[k]? = some t) (h2 : t < 3) : (flds g 0 ks).set k (fv t v) = flds (u1 g k v) 0 ks := by
  apply List.ext_getElem?
  intro j
  have hk : k < ks.length := (List.getElem?_eq_some_iff.mp ht).1
  by_cases hj : j = k
  · subst hj
    rw [List.getElem?_set_self (by rw [flds_len]; exact hk), flds_get, ht]
    simp [u1]
  · rw [List.getElem?_set_ne (Ne.symm hj), flds_get, flds_get]
    have : (0 : Int) + (j : Int) ≠ (k : Int) := by omega
    simp only [u1_ne this]
section
variable {q : Nat × Nat × (Nat → Nat)} {G : Nat → Int → Int}
theorem hgI {ci a k : Nat} {ks : List Nat} (ha : a < 120) (hs : ∀ sz, shp sz a = .inr (ci, ks)) (hk : ks[k]? = some 0) : gI (hp q G) ci a k = some (jI (G a k)) := by
  refine gI_c (fs := flds (G a) 0 ks) (by rw [cell_hp (by omega), hs]; rfl) ?_
  rw [flds_get, hk]; simp [fv]
theorem hgL {ci a k : Nat} {ks : List Nat} (ha : a < 120) (hs : ∀ sz, shp sz a = .inr (ci, ks)) (hk : ks[k]? = some 1) : gL (hp q G) ci a k = some (jL (G a k)) := by
  refine gL_c (fs := flds (G a) 0 ks) (by rw [cell_hp (by omega), hs]; rfl) ?_
  rw [flds_get, hk]; simp [fv]
theorem hgM {ci a k : Nat} {ks : List Nat} (ha : a < 120) (hs : ∀ sz, shp sz a = .inr (ci, ks)) (hk : ks[k]? = some 2) : gR (hp q G) ci a k = some (G a k).toNat := by
  refine gR_c (fs := flds (G a) 0 ks) (by rw [cell_hp (by omega), hs]; rfl) ?_
  rw [flds_get, hk]; simp [fv]
theorem hgR {ci a k r : Nat} {ks : List Nat} (ha : a < 120) (hs : ∀ sz, shp sz a = .inr (ci, ks)) (hk : ks[k]? = some (r + 3)) : gR (hp q G) ci a k = some r := by
  refine gR_c (fs := flds (G a) 0 ks) (by rw [cell_hp (by omega), hs]; rfl) ?_
  rw [flds_get, hk]; simp [fv]
theorem hrc {ci a : Nat} {ks : List Nat} (ha : a < 120) (hs : ∀ sz, shp sz a = .inr (ci, ks)) : rcv (hp q G) ci a = some () :=
  rcv_c (fs := flds (G a) 0 ks) (by rw [cell_hp (by omega), hs]; rfl)
theorem hpI {ci a k : Nat} {ks : List Nat} {v : Int} (ha : a < 120) (hs : ∀ sz, shp sz a = .inr (ci, ks)) (hk : ks[k]? = some 0) : pV (hp q G) ci a k (.int (jI v)) = some (hp q (up G a k v)) := by
  rw [pV_c (fs := flds (G a) 0 ks) (by rw [cell_hp (by omega), hs]; rfl) (by rw [flds_len]; exact (List.getElem?_eq_some_iff.mp hk).1)]
  rw [show Value.int (jI v) = fv 0 v from rfl, flds_set (G a) ks k 0 v hk (by omega)]
  rw [← mS_up, hs]; rfl
theorem hpL {ci a k : Nat} {ks : List Nat} {v : Int} (ha : a < 120) (hs : ∀ sz, shp sz a = .inr (ci, ks)) (hk : ks[k]? = some 1) : pV (hp q G) ci a k (.long (jL v)) = some (hp q (up G a k v)) := by
  rw [pV_c (fs := flds (G a) 0 ks) (by rw [cell_hp (by omega), hs]; rfl) (by rw [flds_len]; exact (List.getElem?_eq_some_iff.mp hk).1)]
  rw [show Value.long (jL v) = fv 1 v from rfl, flds_set (G a) ks k 1 v hk (by omega)]
  rw [← mS_up, hs]; rfl
theorem hpM {ci a k r : Nat} {ks : List Nat} (ha : a < 120) (hs : ∀ sz, shp sz a = .inr (ci, ks)) (hk : ks[k]? = some 2) : pV (hp q G) ci a k (.ref r) = some (hp q (up G a k r)) := by
  rw [pV_c (fs := flds (G a) 0 ks) (by rw [cell_hp (by omega), hs]; rfl) (by rw [flds_len]; exact (List.getElem?_eq_some_iff.mp hk).1)]
  rw [show Value.ref r = fv 2 (r : Int) by simp [fv], flds_set (G a) ks k 2 r hk (by omega)]
  rw [← mS_up, hs]; rfl
theorem cof_l {t n : Nat} {g : Int → Int} : cof (.inl (t, n)) g = .inl (t, n, arr t g) := rfl
theorem updJ {g : Int → Int} {i v : Int} (h0 : 0 ≤ i) : upd (fun k : Nat => jI (g k)) i.toNat (jI v) = fun k : Nat => jI (u1 g i v k) := by
  funext k
  unfold upd u1
  by_cases hk : k = i.toNat
  · have : (k : Int) = i := by omega
    rw [if_pos hk, if_pos this]
  · have : ¬ (k : Int) = i := by omega
    rw [if_neg hk, if_neg this]
theorem updK {g : Int → Int} {i v : Int} (h0 : 0 ≤ i) : vp_updL (fun k : Nat => jL (g k)) i.toNat (jL v) = fun k : Nat => jL (u1 g i v k) := by
  funext k
  unfold vp_updL u1
  by_cases hk : k = i.toNat
  · have : (k : Int) = i := by omega
    rw [if_pos hk, if_pos this]
  · have : ¬ (k : Int) = i := by omega
    rw [if_neg hk, if_neg this]
theorem arI {t : Nat} {g : Int → Int} (ht : t = 0 ∨ t = 2 ∨ t = 3) : arr t g = .inl (fun k => jI (g k)) := by
  rcases ht with rfl | rfl | rfl <;> rfl
theorem hld {t a n : Nat} {i : Int} (ha : a < 120) (hs : ∀ sz, shp sz a = .inl (t, n)) (ht : t = 0 ∨ t = 2 ∨ t = 3) (hn : n < 2147483648) (h0 : 0 ≤ i) (h1 : i < n) : ldI t (hp q G) a (jI i) = some (jI (G a i)) := by
  rw [ldI_c (n := n) (f := fun k => jI (G a k)) (by rw [cell_hp (by omega), hs]; rw [cof_l, arI ht]) h0 h1 (by omega)]
  simp only [Int.toNat_of_nonneg h0]
theorem hst {t a n : Nat} {i v : Int} (ha : a < 120) (hs : ∀ sz, shp sz a = .inl (t, n)) (ht : t = 0 ∨ t = 2 ∨ t = 3) (hn : n < 2147483648) (h0 : 0 ≤ i) (h1 : i < n) {x : Int32} (hx : narB t x = jI v) : stI t (hp q G) a (jI i) x = some (hp q (up G a i v)) := by
  rw [stI_c (n := n) (f := fun k => jI (G a k)) (by rw [cell_hp (by omega), hs]; rw [cof_l, arI ht]) h0 h1 (by omega)]
  rw [hx, ← mS_up, hs, cof_l, arI ht, updJ h0]
theorem hlL {a n : Nat} {i : Int} (ha : a < 120 + q.1) (hs : shp q.2.2 a = .inl (1, n)) (h0 : 0 ≤ i) (h1 : i < n) (h2 : i < 2147483648) : ldL (hp q G) a (jI i) = some (jL (G a i)) := by
  rw [ldL_c (n := n) (f := fun k => jL (G a k)) (by rw [cell_hp ha, hs]; rfl) h0 h1 h2]
  simp only [Int.toNat_of_nonneg h0]
theorem hsL {a n : Nat} {i v : Int} (ha : a < 120 + q.1) (hs : shp q.2.2 a = .inl (1, n)) (h0 : 0 ≤ i) (h1 : i < n) (h2 : i < 2147483648) : stL (hp q G) a (jI i) (jL v) = some (hp q (up G a i v)) := by
  rw [stL_c (n := n) (f := fun k => jL (G a k)) (by rw [cell_hp ha, hs]; rfl) h0 h1 h2]
  rw [updK h0, ← mS_up, hs]
  rfl
theorem hln {t a n : Nat} (ha : a < 120 + q.1) (hs : shp q.2.2 a = .inl (t, n)) (ht : t < 6) : lnA (hp q G) a = some (jI n) := by
  refine lnA_c (t := t) (n := n) (g := arr t (G a)) ?_ ht
  rw [cell_hp ha, hs]; rfl
def cp (G : Nat → Int → Int) (a0 : Nat) (sp : Int) (a : Nat) (dp n : Int) : Nat → Int → Int := fun b => if b = a then (fun j => if dp ≤ j ∧ j < dp + n then G a0 (sp + (j - dp)) else G a j) else G b
theorem cp_eq {a0 a : Nat} {sp dp n : Int} : cp G a0 sp a dp n a = fun j => if dp ≤ j ∧ j < dp + n then G a0 (sp + (j - dp)) else G a j := if_pos rfl
theorem cp_ne {a0 a b : Nat} {sp dp n : Int} (h : b ≠ a) : cp G a0 sp a dp n b = G b := if_neg h
theorem hcp {a0 a n0 n1 : Nat} {sp dp n : Int} (ha0 : a0 < 120) (ha : a < 120) (hs0 : ∀ sz, shp sz a0 = .inl (0, n0)) (hs : ∀ sz, shp sz a = .inl (0, n1)) (hn0 : n0 < 2147483648) (hn1 : n1 < 2147483648) (h1 : 0 ≤ sp) (h2 : 0 ≤ dp) (h3 : 0 ≤ n) (h4 : sp + n ≤ n0) (h5 : dp + n ≤ n1) : cpI (hp q G) a0 (jI sp) a (jI dp) (jI n) = some (hp q (cp G a0 sp a dp n)) := by
  unfold cpI
  have c0 : cell (hp q G) a0 = some (.inl (0, n0, .inl (fun k => jI (G a0 k)))) := by rw [cell_hp (by omega), hs0]; rfl
  have c1 : cell (hp q G) a = some (.inl (0, n1, .inl (fun k => jI (G a k)))) := by rw [cell_hp (by omega), hs]; rfl
  rw [c0, c1]
  have b1 : ¬ jI sp < 0 := by rw [jI0, jI_lt (by omega) (by omega) (by omega) (by omega)]; omega
  have b2 : ¬ jI dp < 0 := by rw [jI0, jI_lt (by omega) (by omega) (by omega) (by omega)]; omega
  have b3 : ¬ jI n < 0 := by rw [jI0, jI_lt (by omega) (by omega) (by omega) (by omega)]; omega
  simp only [jI_nat h1 (by omega), jI_nat h2 (by omega), jI_nat h3 (by omega)]
  rw [if_pos ⟨trivial, trivial, b1, b2, b3, by omega, by omega⟩]
  congr 1
  have e : (Sum.inl (0, n1, Sum.inl (va_cpy (fun k : Nat => jI (G a0 k)) (fun k : Nat => jI (G a k)) sp.toNat dp.toNat n.toNat)) : mE) = cof (shp q.2.2 a) (cp G a0 sp a dp n a) := by
    rw [hs, cof_l, arI (.inl rfl)]
    suffices e2 : va_cpy (fun k : Nat => jI (G a0 k)) (fun k : Nat => jI (G a k)) sp.toNat dp.toNat n.toNat = fun k : Nat => jI (cp G a0 sp a dp n a k) by rw [e2]
    funext k
    unfold va_cpy
    rw [cp_eq]
    by_cases hk : dp.toNat ≤ k ∧ k < dp.toNat + n.toNat
    · rw [if_pos hk]
      show jI (G a0 ((sp.toNat + (k - dp.toNat) : Nat) : Int)) = jI (if dp ≤ (k : Int) ∧ (k : Int) < dp + n then G a0 (sp + ((k : Int) - dp)) else G a k)
      rw [if_pos ⟨by omega, by omega⟩]
      congr 2
      omega
    · rw [if_neg hk]
      show jI (G a k) = jI (if dp ≤ (k : Int) ∧ (k : Int) < dp + n then G a0 (sp + ((k : Int) - dp)) else G a k)
      rw [if_neg (fun hh => hk ⟨by omega, by omega⟩)]
  rw [e, mS_hp]
  congr 1
  funext b
  unfold cp
  by_cases hb : b = a
  · subst hb; simp
  · simp [hb]
end
section
variable (q : Nat × Nat × (Nat → Nat)) (G : Nat → Int → Int)
theorem o0 : rcv (hp q G) 11 0 = some () ∧ gR (hp q G) 11 0 0 = some 1 ∧ gI (hp q G) 11 0 1 = some (jI (G 0 1)) ∧ gR (hp q G) 11 0 2 = some 2 ∧ gR (hp q G) 11 0 3 = some 6 ∧ gR (hp q G) 11 0 4 = some 10 ∧ gR (hp q G) 11 0 5 = some 12 ∧ gR (hp q G) 11 0 6 = some 17 ∧ gR (hp q G) 11 0 7 = some 21 ∧ gR (hp q G) 11 0 8 = some 25 ∧ gR (hp q G) 11 0 9 = some 33 ∧ gR (hp q G) 11 0 10 = some 36 ∧ gR (hp q G) 11 0 11 = some 45 ∧ gR (hp q G) 11 0 12 = some 78 ∧ gR (hp q G) 11 0 13 = some 82 ∧ gR (hp q G) 11 0 14 = some 95 ∧ gR (hp q G) 11 0 15 = some 98 ∧ gR (hp q G) 11 0 16 = some 99 := ⟨hrc (by decide) (fun _ => rfl), hgR (by decide) (fun _ => rfl) rfl, hgI (by decide) (fun _ => rfl) rfl, hgR (by decide) (fun _ => rfl) rfl, hgR (by decide) (fun _ => rfl) rfl, hgR (by decide) (fun _ => rfl) rfl, hgR (by decide) (fun _ => rfl) rfl, hgR (by decide) (fun _ => rfl) rfl, hgR (by decide) (fun _ => rfl) rfl, hgR (by decide) (fun _ => rfl) rfl, hgR (by decide) (fun _ => rfl) rfl, hgR (by decide) (fun _ => rfl) rfl, hgR (by decide) (fun _ => rfl) rfl, hgR (by decide) (fun _ => rfl) rfl, hgR (by decide) (fun _ => rfl) rfl, hgR (by decide) (fun _ => rfl) rfl, hgR (by decide) (fun _ => rfl) rfl, hgR (by decide) (fun _ => rfl) rfl⟩
theorem w0 (v : Int) : pV (hp q G) 11 0 1 (.int (jI v)) = some (hp q (up G 0 1 v)) := hpI (by decide) (fun _ => rfl) rfl
theorem l1 {i : Int} (h0 : 0 ≤ i) (h1 : i < 500) : ldI 2 (hp q G) 1 (jI i) = some (jI (G 1 i)) := hld (n := 500) (by decide) (fun _ => rfl) (.inr (.inl rfl)) (by decide) h0 h1
theorem s1 {i : Int} {v : Int} {x : Int32} (hx : narB 2 x = jI v) (h0 : 0 ≤ i) (h1 : i < 500) : stI 2 (hp q G) 1 (jI i) x = some (hp q (up G 1 i v)) := hst (n := 500) (by decide) (fun _ => rfl) (.inr (.inl rfl)) (by decide) h0 h1 hx
theorem n1 : lnA (hp q G) 1 = some (jI 500) := hln (t := 2) (n := 500) (by omega) rfl (by decide)
theorem o2 : rcv (hp q G) 0 2 = some () ∧ gI (hp q G) 0 2 0 = some (jI (G 2 0)) ∧ gI (hp q G) 0 2 1 = some (jI (G 2 1)) ∧ gI (hp q G) 0 2 2 = some (jI (G 2 2)) ∧ gI (hp q G) 0 2 3 = some (jI (G 2 3)) ∧ gI (hp q G) 0 2 4 = some (jI (G 2 4)) ∧ gI (hp q G) 0 2 5 = some (jI (G 2 5)) ∧ gI (hp q G) 0 2 6 = some (jI (G 2 6)) ∧ gR (hp q G) 0 2 7 = some 3 ∧ gR (hp q G) 0 2 8 = some 4 ∧ gR (hp q G) 0 2 9 = some 5 := ⟨hrc (by decide) (fun _ => rfl), hgI (by decide) (fun _ => rfl) rfl, hgI (by decide) (fun _ => rfl) rfl, hgI (by decide) (fun _ => rfl) rfl, hgI (by decide) (fun _ => rfl) rfl, hgI (by decide) (fun _ => rfl) rfl, hgI (by decide) (fun _ => rfl) rfl, hgI (by decide) (fun _ => rfl) rfl, hgR (by decide) (fun _ => rfl) rfl, hgR (by decide) (fun _ => rfl) rfl, hgR (by decide) (fun _ => rfl) rfl⟩
theorem w2 (v : Int) : pV (hp q G) 0 2 0 (.int (jI v)) = some (hp q (up G 2 0 v)) ∧ pV (hp q G) 0 2 1 (.int (jI v)) = some (hp q (up G 2 1 v)) ∧ pV (hp q G) 0 2 2 (.int (jI v)) = some (hp q (up G 2 2 v)) ∧ pV (hp q G) 0 2 3 (.int (jI v)) = some (hp q (up G 2 3 v)) ∧ pV (hp q G) 0 2 4 (.int (jI v)) = some (hp q (up G 2 4 v)) ∧ pV (hp q G) 0 2 5 (.int (jI v)) = some (hp q (up G 2 5 v)) ∧ pV (hp q G) 0 2 6 (.int (jI v)) = some (hp q (up G 2 6 v)) := ⟨hpI (by decide) (fun _ => rfl) rfl, hpI (by decide) (fun _ => rfl) rfl, hpI (by decide) (fun _ => rfl) rfl, hpI (by decide) (fun _ => rfl) rfl, hpI (by decide) (fun _ => rfl) rfl, hpI (by decide) (fun _ => rfl) rfl, hpI (by decide) (fun _ => rfl) rfl⟩
theorem l3 {i : Int} (h0 : 0 ≤ i) (h1 : i < 24) : ldI 0 (hp q G) 3 (jI i) = some (jI (G 3 i)) := hld (n := 24) (by decide) (fun _ => rfl) (.inl rfl) (by decide) h0 h1
theorem s3 {i : Int} (v : Int) (h0 : 0 ≤ i) (h1 : i < 24) : stI 0 (hp q G) 3 (jI i) (jI v) = some (hp q (up G 3 i v)) := hst (n := 24) (by decide) (fun _ => rfl) (.inl rfl) (by decide) h0 h1 rfl
theorem n3 : lnA (hp q G) 3 = some (jI 24) := hln (t := 0) (n := 24) (by omega) rfl (by decide)
theorem l4 {i : Int} (h0 : 0 ≤ i) (h1 : i < 88) : ldI 0 (hp q G) 4 (jI i) = some (jI (G 4 i)) := hld (n := 88) (by decide) (fun _ => rfl) (.inl rfl) (by decide) h0 h1
theorem s4 {i : Int} (v : Int) (h0 : 0 ≤ i) (h1 : i < 88) : stI 0 (hp q G) 4 (jI i) (jI v) = some (hp q (up G 4 i v)) := hst (n := 88) (by decide) (fun _ => rfl) (.inl rfl) (by decide) h0 h1 rfl
theorem n4 : lnA (hp q G) 4 = some (jI 88) := hln (t := 0) (n := 88) (by omega) rfl (by decide)
theorem l5 {i : Int} (h0 : 0 ≤ i) (h1 : i < 24) : ldI 0 (hp q G) 5 (jI i) = some (jI (G 5 i)) := hld (n := 24) (by decide) (fun _ => rfl) (.inl rfl) (by decide) h0 h1
theorem s5 {i : Int} (v : Int) (h0 : 0 ≤ i) (h1 : i < 24) : stI 0 (hp q G) 5 (jI i) (jI v) = some (hp q (up G 5 i v)) := hst (n := 24) (by decide) (fun _ => rfl) (.inl rfl) (by decide) h0 h1 rfl
theorem n5 : lnA (hp q G) 5 = some (jI 24) := hln (t := 0) (n := 24) (by omega) rfl (by decide)
theorem o6 : rcv (hp q G) 0 6 = some () ∧ gI (hp q G) 0 6 0 = some (jI (G 6 0)) ∧ gI (hp q G) 0 6 1 = some (jI (G 6 1)) ∧ gI (hp q G) 0 6 2 = some (jI (G 6 2)) ∧ gI (hp q G) 0 6 3 = some (jI (G 6 3)) ∧ gI (hp q G) 0 6 4 = some (jI (G 6 4)) ∧ gI (hp q G) 0 6 5 = some (jI (G 6 5)) ∧ gI (hp q G) 0 6 6 = some (jI (G 6 6)) ∧ gR (hp q G) 0 6 7 = some 7 ∧ gR (hp q G) 0 6 8 = some 8 ∧ gR (hp q G) 0 6 9 = some 9 := ⟨hrc (by decide) (fun _ => rfl), hgI (by decide) (fun _ => rfl) rfl, hgI (by decide) (fun _ => rfl) rfl, hgI (by decide) (fun _ => rfl) rfl, hgI (by decide) (fun _ => rfl) rfl, hgI (by decide) (fun _ => rfl) rfl, hgI (by decide) (fun _ => rfl) rfl, hgI (by decide) (fun _ => rfl) rfl, hgR (by decide) (fun _ => rfl) rfl, hgR (by decide) (fun _ => rfl) rfl, hgR (by decide) (fun _ => rfl) rfl⟩
theorem w6 (v : Int) : pV (hp q G) 0 6 0 (.int (jI v)) = some (hp q (up G 6 0 v)) ∧ pV (hp q G) 0 6 1 (.int (jI v)) = some (hp q (up G 6 1 v)) ∧ pV (hp q G) 0 6 2 (.int (jI v)) = some (hp q (up G 6 2 v)) ∧ pV (hp q G) 0 6 3 (.int (jI v)) = some (hp q (up G 6 3 v)) ∧ pV (hp q G) 0 6 4 (.int (jI v)) = some (hp q (up G 6 4 v)) ∧ pV (hp q G) 0 6 5 (.int (jI v)) = some (hp q (up G 6 5 v)) ∧ pV (hp q G) 0 6 6 (.int (jI v)) = some (hp q (up G 6 6 v)) := ⟨hpI (by decide) (fun _ => rfl) rfl, hpI (by decide) (fun _ => rfl) rfl, hpI (by decide) (fun _ => rfl) rfl, hpI (by decide) (fun _ => rfl) rfl, hpI (by decide) (fun _ => rfl) rfl, hpI (by decide) (fun _ => rfl) rfl, hpI (by decide) (fun _ => rfl) rfl⟩
theorem l7 {i : Int} (h0 : 0 ≤ i) (h1 : i < 24) : ldI 0 (hp q G) 7 (jI i) = some (jI (G 7 i)) := hld (n := 24) (by decide) (fun _ => rfl) (.inl rfl) (by decide) h0 h1
theorem s7 {i : Int} (v : Int) (h0 : 0 ≤ i) (h1 : i < 24) : stI 0 (hp q G) 7 (jI i) (jI v) = some (hp q (up G 7 i v)) := hst (n := 24) (by decide) (fun _ => rfl) (.inl rfl) (by decide) h0 h1 rfl
theorem n7 : lnA (hp q G) 7 = some (jI 24) := hln (t := 0) (n := 24) (by omega) rfl (by decide)
theorem l8 {i : Int} (h0 : 0 ≤ i) (h1 : i < 88) : ldI 0 (hp q G) 8 (jI i) = some (jI (G 8 i)) := hld (n := 88) (by decide) (fun _ => rfl) (.inl rfl) (by decide) h0 h1
theorem s8 {i : Int} (v : Int) (h0 : 0 ≤ i) (h1 : i < 88) : stI 0 (hp q G) 8 (jI i) (jI v) = some (hp q (up G 8 i v)) := hst (n := 88) (by decide) (fun _ => rfl) (.inl rfl) (by decide) h0 h1 rfl
theorem n8 : lnA (hp q G) 8 = some (jI 88) := hln (t := 0) (n := 88) (by omega) rfl (by decide)
theorem l9 {i : Int} (h0 : 0 ≤ i) (h1 : i < 24) : ldI 0 (hp q G) 9 (jI i) = some (jI (G 9 i)) := hld (n := 24) (by decide) (fun _ => rfl) (.inl rfl) (by decide) h0 h1
theorem s9 {i : Int} (v : Int) (h0 : 0 ≤ i) (h1 : i < 24) : stI 0 (hp q G) 9 (jI i) (jI v) = some (hp q (up G 9 i v)) := hst (n := 24) (by decide) (fun _ => rfl) (.inl rfl) (by decide) h0 h1 rfl
theorem n9 : lnA (hp q G) 9 = some (jI 24) := hln (t := 0) (n := 24) (by omega) rfl (by decide)
theorem o10 : rcv (hp q G) 8 10 = some () ∧ gI (hp q G) 8 10 0 = some (jI (G 10 0)) ∧ gI (hp q G) 8 10 1 = some (jI (G 10 1)) ∧ gR (hp q G) 8 10 2 = some (G 10 2).toNat ∧ gI (hp q G) 8 10 3 = some (jI (G 10 3)) ∧ gI (hp q G) 8 10 4 = some (jI (G 10 4)) ∧ gI (hp q G) 8 10 5 = some (jI (G 10 5)) ∧ gI (hp q G) 8 10 6 = some (jI (G 10 6)) ∧ gI (hp q G) 8 10 7 = some (jI (G 10 7)) := ⟨hrc (by decide) (fun _ => rfl), hgI (by decide) (fun _ => rfl) rfl, hgI (by decide) (fun _ => rfl) rfl, hgM (by decide) (fun _ => rfl) rfl, hgI (by decide) (fun _ => rfl) rfl, hgI (by decide) (fun _ => rfl) rfl, hgI (by decide) (fun _ => rfl) rfl, hgI (by decide) (fun _ => rfl) rfl, hgI (by decide) (fun _ => rfl) rfl⟩
theorem w10 (v : Int) : pV (hp q G) 8 10 0 (.int (jI v)) = some (hp q (up G 10 0 v)) ∧ pV (hp q G) 8 10 1 (.int (jI v)) = some (hp q (up G 10 1 v)) ∧ pV (hp q G) 8 10 3 (.int (jI v)) = some (hp q (up G 10 3 v)) ∧ pV (hp q G) 8 10 4 (.int (jI v)) = some (hp q (up G 10 4 v)) ∧ pV (hp q G) 8 10 5 (.int (jI v)) = some (hp q (up G 10 5 v)) ∧ pV (hp q G) 8 10 6 (.int (jI v)) = some (hp q (up G 10 6 v)) ∧ pV (hp q G) 8 10 7 (.int (jI v)) = some (hp q (up G 10 7 v)) := ⟨hpI (by decide) (fun _ => rfl) rfl, hpI (by decide) (fun _ => rfl) rfl, hpI (by decide) (fun _ => rfl) rfl, hpI (by decide) (fun _ => rfl) rfl, hpI (by decide) (fun _ => rfl) rfl, hpI (by decide) (fun _ => rfl) rfl, hpI (by decide) (fun _ => rfl) rfl⟩
theorem v10_2 (r : Nat) : pV (hp q G) 8 10 2 (.ref r) = some (hp q (up G 10 2 r)) := hpM (by decide) (fun _ => rfl) rfl
theorem l11 {i : Int} (h0 : 0 ≤ i) (h1 : i < 0) : ldI 2 (hp q G) 11 (jI i) = some (jI (G 11 i)) := hld (n := 0) (by decide) (fun _ => rfl) (.inr (.inl rfl)) (by decide) h0 h1
theorem s11 {i : Int} {v : Int} {x : Int32} (hx : narB 2 x = jI v) (h0 : 0 ≤ i) (h1 : i < 0) : stI 2 (hp q G) 11 (jI i) x = some (hp q (up G 11 i v)) := hst (n := 0) (by decide) (fun _ => rfl) (.inr (.inl rfl)) (by decide) h0 h1 hx
theorem n11 : lnA (hp q G) 11 = some (jI 0) := hln (t := 2) (n := 0) (by omega) rfl (by decide)
theorem o12 : rcv (hp q G) 10 12 = some () ∧ gR (hp q G) 10 12 0 = some 2 ∧ gR (hp q G) 10 12 1 = some 13 ∧ gR (hp q G) 10 12 2 = some 14 ∧ gR (hp q G) 10 12 3 = some 15 ∧ gR (hp q G) 10 12 4 = some 16 ∧ gI (hp q G) 10 12 5 = some (jI (G 12 5)) := ⟨hrc (by decide) (fun _ => rfl), hgR (by decide) (fun _ => rfl) rfl, hgR (by decide) (fun _ => rfl) rfl, hgR (by decide) (fun _ => rfl) rfl, hgR (by decide) (fun _ => rfl) rfl, hgR (by decide) (fun _ => rfl) rfl, hgI (by decide) (fun _ => rfl) rfl⟩
theorem w12 (v : Int) : pV (hp q G) 10 12 5 (.int (jI v)) = some (hp q (up G 12 5 v)) := hpI (by decide) (fun _ => rfl) rfl
theorem l13 {i : Int} (h0 : 0 ≤ i) (h1 : i < 1280) : ldI 0 (hp q G) 13 (jI i) = some (jI (G 13 i)) := hld (n := 1280) (by decide) (fun _ => rfl) (.inl rfl) (by decide) h0 h1
theorem s13 {i : Int} (v : Int) (h0 : 0 ≤ i) (h1 : i < 1280) : stI 0 (hp q G) 13 (jI i) (jI v) = some (hp q (up G 13 i v)) := hst (n := 1280) (by decide) (fun _ => rfl) (.inl rfl) (by decide) h0 h1 rfl
theorem n13 : lnA (hp q G) 13 = some (jI 1280) := hln (t := 0) (n := 1280) (by omega) rfl (by decide)
theorem l14 {i : Int} (h0 : 0 ≤ i) (h1 : i < 4) : ldI 0 (hp q G) 14 (jI i) = some (jI (G 14 i)) := hld (n := 4) (by decide) (fun _ => rfl) (.inl rfl) (by decide) h0 h1
theorem s14 {i : Int} (v : Int) (h0 : 0 ≤ i) (h1 : i < 4) : stI 0 (hp q G) 14 (jI i) (jI v) = some (hp q (up G 14 i v)) := hst (n := 4) (by decide) (fun _ => rfl) (.inl rfl) (by decide) h0 h1 rfl
theorem n14 : lnA (hp q G) 14 = some (jI 4) := hln (t := 0) (n := 4) (by omega) rfl (by decide)
theorem l15 {i : Int} (h0 : 0 ≤ i) (h1 : i < 4) : ldI 0 (hp q G) 15 (jI i) = some (jI (G 15 i)) := hld (n := 4) (by decide) (fun _ => rfl) (.inl rfl) (by decide) h0 h1
theorem s15 {i : Int} (v : Int) (h0 : 0 ≤ i) (h1 : i < 4) : stI 0 (hp q G) 15 (jI i) (jI v) = some (hp q (up G 15 i v)) := hst (n := 4) (by decide) (fun _ => rfl) (.inl rfl) (by decide) h0 h1 rfl
theorem n15 : lnA (hp q G) 15 = some (jI 4) := hln (t := 0) (n := 4) (by omega) rfl (by decide)
theorem l16 {i : Int} (h0 : 0 ≤ i) (h1 : i < 6) : ldI 0 (hp q G) 16 (jI i) = some (jI (G 16 i)) := hld (n := 6) (by decide) (fun _ => rfl) (.inl rfl) (by decide) h0 h1
theorem s16 {i : Int} (v : Int) (h0 : 0 ≤ i) (h1 : i < 6) : stI 0 (hp q G) 16 (jI i) (jI v) = some (hp q (up G 16 i v)) := hst (n := 6) (by decide) (fun _ => rfl) (.inl rfl) (by decide) h0 h1 rfl
theorem n16 : lnA (hp q G) 16 = some (jI 6) := hln (t := 0) (n := 6) (by omega) rfl (by decide)
theorem o17 : rcv (hp q G) 6 17 = some () ∧ gI (hp q G) 6 17 0 = some (jI (G 17 0)) ∧ gR (hp q G) 6 17 1 = some 18 ∧ gR (hp q G) 6 17 2 = some 19 ∧ gR (hp q G) 6 17 3 = some 20 := ⟨hrc (by decide) (fun _ => rfl), hgI (by decide) (fun _ => rfl) rfl, hgR (by decide) (fun _ => rfl) rfl, hgR (by decide) (fun _ => rfl) rfl, hgR (by decide) (fun _ => rfl) rfl⟩
theorem w17 (v : Int) : pV (hp q G) 6 17 0 (.int (jI v)) = some (hp q (up G 17 0 v)) := hpI (by decide) (fun _ => rfl) rfl
theorem l18 {i : Int} (h0 : 0 ≤ i) (h1 : i < 8) : ldI 0 (hp q G) 18 (jI i) = some (jI (G 18 i)) := hld (n := 8) (by decide) (fun _ => rfl) (.inl rfl) (by decide) h0 h1
theorem s18 {i : Int} (v : Int) (h0 : 0 ≤ i) (h1 : i < 8) : stI 0 (hp q G) 18 (jI i) (jI v) = some (hp q (up G 18 i v)) := hst (n := 8) (by decide) (fun _ => rfl) (.inl rfl) (by decide) h0 h1 rfl
theorem n18 : lnA (hp q G) 18 = some (jI 8) := hln (t := 0) (n := 8) (by omega) rfl (by decide)
theorem l19 {i : Int} (h0 : 0 ≤ i) (h1 : i < 8) : ldI 0 (hp q G) 19 (jI i) = some (jI (G 19 i)) := hld (n := 8) (by decide) (fun _ => rfl) (.inl rfl) (by decide) h0 h1
theorem s19 {i : Int} (v : Int) (h0 : 0 ≤ i) (h1 : i < 8) : stI 0 (hp q G) 19 (jI i) (jI v) = some (hp q (up G 19 i v)) := hst (n := 8) (by decide) (fun _ => rfl) (.inl rfl) (by decide) h0 h1 rfl
theorem n19 : lnA (hp q G) 19 = some (jI 8) := hln (t := 0) (n := 8) (by omega) rfl (by decide)
theorem l20 {i : Int} (h0 : 0 ≤ i) (h1 : i < 8) : ldI 0 (hp q G) 20 (jI i) = some (jI (G 20 i)) := hld (n := 8) (by decide) (fun _ => rfl) (.inl rfl) (by decide) h0 h1
theorem s20 {i : Int} (v : Int) (h0 : 0 ≤ i) (h1 : i < 8) : stI 0 (hp q G) 20 (jI i) (jI v) = some (hp q (up G 20 i v)) := hst (n := 8) (by decide) (fun _ => rfl) (.inl rfl) (by decide) h0 h1 rfl
theorem n20 : lnA (hp q G) 20 = some (jI 8) := hln (t := 0) (n := 8) (by omega) rfl (by decide)
theorem o21 : rcv (hp q G) 6 21 = some () ∧ gI (hp q G) 6 21 0 = some (jI (G 21 0)) ∧ gR (hp q G) 6 21 1 = some 22 ∧ gR (hp q G) 6 21 2 = some 23 ∧ gR (hp q G) 6 21 3 = some 24 := ⟨hrc (by decide) (fun _ => rfl), hgI (by decide) (fun _ => rfl) rfl, hgR (by decide) (fun _ => rfl) rfl, hgR (by decide) (fun _ => rfl) rfl, hgR (by decide) (fun _ => rfl) rfl⟩
theorem w21 (v : Int) : pV (hp q G) 6 21 0 (.int (jI v)) = some (hp q (up G 21 0 v)) := hpI (by decide) (fun _ => rfl) rfl
theorem l22 {i : Int} (h0 : 0 ≤ i) (h1 : i < 8) : ldI 0 (hp q G) 22 (jI i) = some (jI (G 22 i)) := hld (n := 8) (by decide) (fun _ => rfl) (.inl rfl) (by decide) h0 h1
theorem s22 {i : Int} (v : Int) (h0 : 0 ≤ i) (h1 : i < 8) : stI 0 (hp q G) 22 (jI i) (jI v) = some (hp q (up G 22 i v)) := hst (n := 8) (by decide) (fun _ => rfl) (.inl rfl) (by decide) h0 h1 rfl
theorem n22 : lnA (hp q G) 22 = some (jI 8) := hln (t := 0) (n := 8) (by omega) rfl (by decide)
theorem l23 {i : Int} (h0 : 0 ≤ i) (h1 : i < 8) : ldI 0 (hp q G) 23 (jI i) = some (jI (G 23 i)) := hld (n := 8) (by decide) (fun _ => rfl) (.inl rfl) (by decide) h0 h1
theorem s23 {i : Int} (v : Int) (h0 : 0 ≤ i) (h1 : i < 8) : stI 0 (hp q G) 23 (jI i) (jI v) = some (hp q (up G 23 i v)) := hst (n := 8) (by decide) (fun _ => rfl) (.inl rfl) (by decide) h0 h1 rfl
theorem n23 : lnA (hp q G) 23 = some (jI 8) := hln (t := 0) (n := 8) (by omega) rfl (by decide)
theorem l24 {i : Int} (h0 : 0 ≤ i) (h1 : i < 8) : ldI 0 (hp q G) 24 (jI i) = some (jI (G 24 i)) := hld (n := 8) (by decide) (fun _ => rfl) (.inl rfl) (by decide) h0 h1
theorem s24 {i : Int} (v : Int) (h0 : 0 ≤ i) (h1 : i < 8) : stI 0 (hp q G) 24 (jI i) (jI v) = some (hp q (up G 24 i v)) := hst (n := 8) (by decide) (fun _ => rfl) (.inl rfl) (by decide) h0 h1 rfl
theorem n24 : lnA (hp q G) 24 = some (jI 8) := hln (t := 0) (n := 8) (by omega) rfl (by decide)
theorem o25 : rcv (hp q G) 9 25 = some () ∧ gR (hp q G) 9 25 0 = some 26 ∧ gR (hp q G) 9 25 1 = some 27 ∧ gR (hp q G) 9 25 2 = some 28 ∧ gR (hp q G) 9 25 3 = some 29 ∧ gR (hp q G) 9 25 4 = some 30 ∧ gR (hp q G) 9 25 5 = some 31 ∧ gR (hp q G) 9 25 6 = some 32 ∧ gI (hp q G) 9 25 7 = some (jI (G 25 7)) ∧ gI (hp q G) 9 25 8 = some (jI (G 25 8)) ∧ gI (hp q G) 9 25 9 = some (jI (G 25 9)) ∧ gI (hp q G) 9 25 10 = some (jI (G 25 10)) := ⟨hrc (by decide) (fun _ => rfl), hgR (by decide) (fun _ => rfl) rfl, hgR (by decide) (fun _ => rfl) rfl, hgR (by decide) (fun _ => rfl) rfl, hgR (by decide) (fun _ => rfl) rfl, hgR (by decide) (fun _ => rfl) rfl, hgR (by decide) (fun _ => rfl) rfl, hgR (by decide) (fun _ => rfl) rfl, hgI (by decide) (fun _ => rfl) rfl, hgI (by decide) (fun _ => rfl) rfl, hgI (by decide) (fun _ => rfl) rfl, hgI (by decide) (fun _ => rfl) rfl⟩
theorem w25 (v : Int) : pV (hp q G) 9 25 7 (.int (jI v)) = some (hp q (up G 25 7 v)) ∧ pV (hp q G) 9 25 8 (.int (jI v)) = some (hp q (up G 25 8 v)) ∧ pV (hp q G) 9 25 9 (.int (jI v)) = some (hp q (up G 25 9 v)) ∧ pV (hp q G) 9 25 10 (.int (jI v)) = some (hp q (up G 25 10 v)) := ⟨hpI (by decide) (fun _ => rfl) rfl, hpI (by decide) (fun _ => rfl) rfl, hpI (by decide) (fun _ => rfl) rfl, hpI (by decide) (fun _ => rfl) rfl⟩
theorem l26 {i : Int} (h0 : 0 ≤ i) (h1 : i < 8) : ldI 0 (hp q G) 26 (jI i) = some (jI (G 26 i)) := hld (n := 8) (by decide) (fun _ => rfl) (.inl rfl) (by decide) h0 h1
theorem s26 {i : Int} (v : Int) (h0 : 0 ≤ i) (h1 : i < 8) : stI 0 (hp q G) 26 (jI i) (jI v) = some (hp q (up G 26 i v)) := hst (n := 8) (by decide) (fun _ => rfl) (.inl rfl) (by decide) h0 h1 rfl
theorem n26 : lnA (hp q G) 26 = some (jI 8) := hln (t := 0) (n := 8) (by omega) rfl (by decide)
theorem l27 {i : Int} (h0 : 0 ≤ i) (h1 : i < 8) : ldI 0 (hp q G) 27 (jI i) = some (jI (G 27 i)) := hld (n := 8) (by decide) (fun _ => rfl) (.inl rfl) (by decide) h0 h1
theorem s27 {i : Int} (v : Int) (h0 : 0 ≤ i) (h1 : i < 8) : stI 0 (hp q G) 27 (jI i) (jI v) = some (hp q (up G 27 i v)) := hst (n := 8) (by decide) (fun _ => rfl) (.inl rfl) (by decide) h0 h1 rfl
theorem n27 : lnA (hp q G) 27 = some (jI 8) := hln (t := 0) (n := 8) (by omega) rfl (by decide)
theorem l28 {i : Int} (h0 : 0 ≤ i) (h1 : i < 8) : ldI 0 (hp q G) 28 (jI i) = some (jI (G 28 i)) := hld (n := 8) (by decide) (fun _ => rfl) (.inl rfl) (by decide) h0 h1
theorem s28 {i : Int} (v : Int) (h0 : 0 ≤ i) (h1 : i < 8) : stI 0 (hp q G) 28 (jI i) (jI v) = some (hp q (up G 28 i v)) := hst (n := 8) (by decide) (fun _ => rfl) (.inl rfl) (by decide) h0 h1 rfl
theorem n28 : lnA (hp q G) 28 = some (jI 8) := hln (t := 0) (n := 8) (by omega) rfl (by decide)
theorem l29 {i : Int} (h0 : 0 ≤ i) (h1 : i < 8) : ldI 0 (hp q G) 29 (jI i) = some (jI (G 29 i)) := hld (n := 8) (by decide) (fun _ => rfl) (.inl rfl) (by decide) h0 h1
theorem s29 {i : Int} (v : Int) (h0 : 0 ≤ i) (h1 : i < 8) : stI 0 (hp q G) 29 (jI i) (jI v) = some (hp q (up G 29 i v)) := hst (n := 8) (by decide) (fun _ => rfl) (.inl rfl) (by decide) h0 h1 rfl
theorem n29 : lnA (hp q G) 29 = some (jI 8) := hln (t := 0) (n := 8) (by omega) rfl (by decide)
theorem l30 {i : Int} (h0 : 0 ≤ i) (h1 : i < 5) : ldI 0 (hp q G) 30 (jI i) = some (jI (G 30 i)) := hld (n := 5) (by decide) (fun _ => rfl) (.inl rfl) (by decide) h0 h1
theorem s30 {i : Int} (v : Int) (h0 : 0 ≤ i) (h1 : i < 5) : stI 0 (hp q G) 30 (jI i) (jI v) = some (hp q (up G 30 i v)) := hst (n := 5) (by decide) (fun _ => rfl) (.inl rfl) (by decide) h0 h1 rfl
theorem n30 : lnA (hp q G) 30 = some (jI 5) := hln (t := 0) (n := 5) (by omega) rfl (by decide)
theorem l31 {i : Int} (h0 : 0 ≤ i) (h1 : i < 10) : ldI 0 (hp q G) 31 (jI i) = some (jI (G 31 i)) := hld (n := 10) (by decide) (fun _ => rfl) (.inl rfl) (by decide) h0 h1
theorem s31 {i : Int} (v : Int) (h0 : 0 ≤ i) (h1 : i < 10) : stI 0 (hp q G) 31 (jI i) (jI v) = some (hp q (up G 31 i v)) := hst (n := 10) (by decide) (fun _ => rfl) (.inl rfl) (by decide) h0 h1 rfl
theorem n31 : lnA (hp q G) 31 = some (jI 10) := hln (t := 0) (n := 10) (by omega) rfl (by decide)
theorem l32 {i : Int} (h0 : 0 ≤ i) (h1 : i < 16) : ldI 0 (hp q G) 32 (jI i) = some (jI (G 32 i)) := hld (n := 16) (by decide) (fun _ => rfl) (.inl rfl) (by decide) h0 h1
theorem s32 {i : Int} (v : Int) (h0 : 0 ≤ i) (h1 : i < 16) : stI 0 (hp q G) 32 (jI i) (jI v) = some (hp q (up G 32 i v)) := hst (n := 16) (by decide) (fun _ => rfl) (.inl rfl) (by decide) h0 h1 rfl
theorem n32 : lnA (hp q G) 32 = some (jI 16) := hln (t := 0) (n := 16) (by omega) rfl (by decide)
theorem o33 : rcv (hp q G) 3 33 = some () ∧ gR (hp q G) 3 33 0 = some 34 ∧ gR (hp q G) 3 33 1 = some 35 := ⟨hrc (by decide) (fun _ => rfl), hgR (by decide) (fun _ => rfl) rfl, hgR (by decide) (fun _ => rfl) rfl⟩
theorem l34 {i : Int} (h0 : 0 ≤ i) (h1 : i < 8) : ldI 0 (hp q G) 34 (jI i) = some (jI (G 34 i)) := hld (n := 8) (by decide) (fun _ => rfl) (.inl rfl) (by decide) h0 h1
theorem s34 {i : Int} (v : Int) (h0 : 0 ≤ i) (h1 : i < 8) : stI 0 (hp q G) 34 (jI i) (jI v) = some (hp q (up G 34 i v)) := hst (n := 8) (by decide) (fun _ => rfl) (.inl rfl) (by decide) h0 h1 rfl
theorem n34 : lnA (hp q G) 34 = some (jI 8) := hln (t := 0) (n := 8) (by omega) rfl (by decide)
theorem l35 {i : Int} (h0 : 0 ≤ i) (h1 : i < 8) : ldI 0 (hp q G) 35 (jI i) = some (jI (G 35 i)) := hld (n := 8) (by decide) (fun _ => rfl) (.inl rfl) (by decide) h0 h1
theorem s35 {i : Int} (v : Int) (h0 : 0 ≤ i) (h1 : i < 8) : stI 0 (hp q G) 35 (jI i) (jI v) = some (hp q (up G 35 i v)) := hst (n := 8) (by decide) (fun _ => rfl) (.inl rfl) (by decide) h0 h1 rfl
theorem n35 : lnA (hp q G) 35 = some (jI 8) := hln (t := 0) (n := 8) (by omega) rfl (by decide)
theorem n36 : lnA (hp q G) 36 = some (jI 4) := hln (t := 4) (n := 4) (by omega) rfl (by decide)
theorem o37 : rcv (hp q G) 5 37 = some () ∧ gI (hp q G) 5 37 0 = some (jI (G 37 0)) ∧ gI (hp q G) 5 37 1 = some (jI (G 37 1)) ∧ gR (hp q G) 5 37 2 = some 38 := ⟨hrc (by decide) (fun _ => rfl), hgI (by decide) (fun _ => rfl) rfl, hgI (by decide) (fun _ => rfl) rfl, hgR (by decide) (fun _ => rfl) rfl⟩
theorem w37 (v : Int) : pV (hp q G) 5 37 0 (.int (jI v)) = some (hp q (up G 37 0 v)) ∧ pV (hp q G) 5 37 1 (.int (jI v)) = some (hp q (up G 37 1 v)) := ⟨hpI (by decide) (fun _ => rfl) rfl, hpI (by decide) (fun _ => rfl) rfl⟩
theorem l38 {i : Int} (h0 : 0 ≤ i) (h1 : i < 40) : ldL (hp q G) 38 (jI i) = some (jL (G 38 i)) := hlL (n := 40) (by omega) rfl h0 h1 (by omega)
theorem s38 {i : Int} (v : Int) (h0 : 0 ≤ i) (h1 : i < 40) : stL (hp q G) 38 (jI i) (jL v) = some (hp q (up G 38 i v)) := hsL (n := 40) (by omega) rfl h0 h1 (by omega)
theorem n38 : lnA (hp q G) 38 = some (jI 40) := hln (t := 1) (n := 40) (by omega) rfl (by decide)
theorem o39 : rcv (hp q G) 5 39 = some () ∧ gI (hp q G) 5 39 0 = some (jI (G 39 0)) ∧ gI (hp q G) 5 39 1 = some (jI (G 39 1)) ∧ gR (hp q G) 5 39 2 = some 40 := ⟨hrc (by decide) (fun _ => rfl), hgI (by decide) (fun _ => rfl) rfl, hgI (by decide) (fun _ => rfl) rfl, hgR (by decide) (fun _ => rfl) rfl⟩
theorem w39 (v : Int) : pV (hp q G) 5 39 0 (.int (jI v)) = some (hp q (up G 39 0 v)) ∧ pV (hp q G) 5 39 1 (.int (jI v)) = some (hp q (up G 39 1 v)) := ⟨hpI (by decide) (fun _ => rfl) rfl, hpI (by decide) (fun _ => rfl) rfl⟩
theorem l40 {i : Int} (h0 : 0 ≤ i) (h1 : i < 40) : ldL (hp q G) 40 (jI i) = some (jL (G 40 i)) := hlL (n := 40) (by omega) rfl h0 h1 (by omega)
theorem s40 {i : Int} (v : Int) (h0 : 0 ≤ i) (h1 : i < 40) : stL (hp q G) 40 (jI i) (jL v) = some (hp q (up G 40 i v)) := hsL (n := 40) (by omega) rfl h0 h1 (by omega)
theorem n40 : lnA (hp q G) 40 = some (jI 40) := hln (t := 1) (n := 40) (by omega) rfl (by decide)
theorem o41 : rcv (hp q G) 5 41 = some () ∧ gI (hp q G) 5 41 0 = some (jI (G 41 0)) ∧ gI (hp q G) 5 41 1 = some (jI (G 41 1)) ∧ gR (hp q G) 5 41 2 = some 42 := ⟨hrc (by decide) (fun _ => rfl), hgI (by decide) (fun _ => rfl) rfl, hgI (by decide) (fun _ => rfl) rfl, hgR (by decide) (fun _ => rfl) rfl⟩
theorem w41 (v : Int) : pV (hp q G) 5 41 0 (.int (jI v)) = some (hp q (up G 41 0 v)) ∧ pV (hp q G) 5 41 1 (.int (jI v)) = some (hp q (up G 41 1 v)) := ⟨hpI (by decide) (fun _ => rfl) rfl, hpI (by decide) (fun _ => rfl) rfl⟩
theorem l42 {i : Int} (h0 : 0 ≤ i) (h1 : i < 40) : ldL (hp q G) 42 (jI i) = some (jL (G 42 i)) := hlL (n := 40) (by omega) rfl h0 h1 (by omega)
theorem s42 {i : Int} (v : Int) (h0 : 0 ≤ i) (h1 : i < 40) : stL (hp q G) 42 (jI i) (jL v) = some (hp q (up G 42 i v)) := hsL (n := 40) (by omega) rfl h0 h1 (by omega)
theorem n42 : lnA (hp q G) 42 = some (jI 40) := hln (t := 1) (n := 40) (by omega) rfl (by decide)
theorem o43 : rcv (hp q G) 5 43 = some () ∧ gI (hp q G) 5 43 0 = some (jI (G 43 0)) ∧ gI (hp q G) 5 43 1 = some (jI (G 43 1)) ∧ gR (hp q G) 5 43 2 = some 44 := ⟨hrc (by decide) (fun _ => rfl), hgI (by decide) (fun _ => rfl) rfl, hgI (by decide) (fun _ => rfl) rfl, hgR (by decide) (fun _ => rfl) rfl⟩
theorem w43 (v : Int) : pV (hp q G) 5 43 0 (.int (jI v)) = some (hp q (up G 43 0 v)) ∧ pV (hp q G) 5 43 1 (.int (jI v)) = some (hp q (up G 43 1 v)) := ⟨hpI (by decide) (fun _ => rfl) rfl, hpI (by decide) (fun _ => rfl) rfl⟩
theorem l44 {i : Int} (h0 : 0 ≤ i) (h1 : i < 40) : ldL (hp q G) 44 (jI i) = some (jL (G 44 i)) := hlL (n := 40) (by omega) rfl h0 h1 (by omega)
theorem s44 {i : Int} (v : Int) (h0 : 0 ≤ i) (h1 : i < 40) : stL (hp q G) 44 (jI i) (jL v) = some (hp q (up G 44 i v)) := hsL (n := 40) (by omega) rfl h0 h1 (by omega)
theorem n44 : lnA (hp q G) 44 = some (jI 40) := hln (t := 1) (n := 40) (by omega) rfl (by decide)
theorem n45 : lnA (hp q G) 45 = some (jI 2) := hln (t := 5) (n := 2) (by omega) rfl (by decide)
theorem o46 : rcv (hp q G) 4 46 = some () ∧ gI (hp q G) 4 46 0 = some (jI (G 46 0)) ∧ gR (hp q G) 4 46 1 = some 47 ∧ gR (hp q G) 4 46 2 = some 51 ∧ gR (hp q G) 4 46 3 = some 55 ∧ gR (hp q G) 4 46 4 = some 59 := ⟨hrc (by decide) (fun _ => rfl), hgI (by decide) (fun _ => rfl) rfl, hgR (by decide) (fun _ => rfl) rfl, hgR (by decide) (fun _ => rfl) rfl, hgR (by decide) (fun _ => rfl) rfl, hgR (by decide) (fun _ => rfl) rfl⟩
theorem w46 (v : Int) : pV (hp q G) 4 46 0 (.int (jI v)) = some (hp q (up G 46 0 v)) := hpI (by decide) (fun _ => rfl) rfl
theorem o47 : rcv (hp q G) 0 47 = some () ∧ gI (hp q G) 0 47 0 = some (jI (G 47 0)) ∧ gI (hp q G) 0 47 1 = some (jI (G 47 1)) ∧ gI (hp q G) 0 47 2 = some (jI (G 47 2)) ∧ gI (hp q G) 0 47 3 = some (jI (G 47 3)) ∧ gI (hp q G) 0 47 4 = some (jI (G 47 4)) ∧ gI (hp q G) 0 47 5 = some (jI (G 47 5)) ∧ gI (hp q G) 0 47 6 = some (jI (G 47 6)) ∧ gR (hp q G) 0 47 7 = some 48 ∧ gR (hp q G) 0 47 8 = some 49 ∧ gR (hp q G) 0 47 9 = some 50 := ⟨hrc (by decide) (fun _ => rfl), hgI (by decide) (fun _ => rfl) rfl, hgI (by decide) (fun _ => rfl) rfl, hgI (by decide) (fun _ => rfl) rfl, hgI (by decide) (fun _ => rfl) rfl, hgI (by decide) (fun _ => rfl) rfl, hgI (by decide) (fun _ => rfl) rfl, hgI (by decide) (fun _ => rfl) rfl, hgR (by decide) (fun _ => rfl) rfl, hgR (by decide) (fun _ => rfl) rfl, hgR (by decide) (fun _ => rfl) rfl⟩
theorem w47 (v : Int) : pV (hp q G) 0 47 0 (.int (jI v)) = some (hp q (up G 47 0 v)) ∧ pV (hp q G) 0 47 1 (.int (jI v)) = some (hp q (up G 47 1 v)) ∧ pV (hp q G) 0 47 2 (.int (jI v)) = some (hp q (up G 47 2 v)) ∧ pV (hp q G) 0 47 3 (.int (jI v)) = some (hp q (up G 47 3 v)) ∧ pV (hp q G) 0 47 4 (.int (jI v)) = some (hp q (up G 47 4 v)) ∧ pV (hp q G) 0 47 5 (.int (jI v)) = some (hp q (up G 47 5 v)) ∧ pV (hp q G) 0 47 6 (.int (jI v)) = some (hp q (up G 47 6 v)) := ⟨hpI (by decide) (fun _ => rfl) rfl, hpI (by decide) (fun _ => rfl) rfl, hpI (by decide) (fun _ => rfl) rfl, hpI (by decide) (fun _ => rfl) rfl, hpI (by decide) (fun _ => rfl) rfl, hpI (by decide) (fun _ => rfl) rfl, hpI (by decide) (fun _ => rfl) rfl⟩
theorem l48 {i : Int} (h0 : 0 ≤ i) (h1 : i < 24) : ldI 0 (hp q G) 48 (jI i) = some (jI (G 48 i)) := hld (n := 24) (by decide) (fun _ => rfl) (.inl rfl) (by decide) h0 h1
theorem s48 {i : Int} (v : Int) (h0 : 0 ≤ i) (h1 : i < 24) : stI 0 (hp q G) 48 (jI i) (jI v) = some (hp q (up G 48 i v)) := hst (n := 24) (by decide) (fun _ => rfl) (.inl rfl) (by decide) h0 h1 rfl
theorem n48 : lnA (hp q G) 48 = some (jI 24) := hln (t := 0) (n := 24) (by omega) rfl (by decide)
theorem l49 {i : Int} (h0 : 0 ≤ i) (h1 : i < 88) : ldI 0 (hp q G) 49 (jI i) = some (jI (G 49 i)) := hld (n := 88) (by decide) (fun _ => rfl) (.inl rfl) (by decide) h0 h1
theorem s49 {i : Int} (v : Int) (h0 : 0 ≤ i) (h1 : i < 88) : stI 0 (hp q G) 49 (jI i) (jI v) = some (hp q (up G 49 i v)) := hst (n := 88) (by decide) (fun _ => rfl) (.inl rfl) (by decide) h0 h1 rfl
theorem n49 : lnA (hp q G) 49 = some (jI 88) := hln (t := 0) (n := 88) (by omega) rfl (by decide)
theorem l50 {i : Int} (h0 : 0 ≤ i) (h1 : i < 24) : ldI 0 (hp q G) 50 (jI i) = some (jI (G 50 i)) := hld (n := 24) (by decide) (fun _ => rfl) (.inl rfl) (by decide) h0 h1
theorem s50 {i : Int} (v : Int) (h0 : 0 ≤ i) (h1 : i < 24) : stI 0 (hp q G) 50 (jI i) (jI v) = some (hp q (up G 50 i v)) := hst (n := 24) (by decide) (fun _ => rfl) (.inl rfl) (by decide) h0 h1 rfl
theorem n50 : lnA (hp q G) 50 = some (jI 24) := hln (t := 0) (n := 24) (by omega) rfl (by decide)
theorem o51 : rcv (hp q G) 6 51 = some () ∧ gI (hp q G) 6 51 0 = some (jI (G 51 0)) ∧ gR (hp q G) 6 51 1 = some 52 ∧ gR (hp q G) 6 51 2 = some 53 ∧ gR (hp q G) 6 51 3 = some 54 := ⟨hrc (by decide) (fun _ => rfl), hgI (by decide) (fun _ => rfl) rfl, hgR (by decide) (fun _ => rfl) rfl, hgR (by decide) (fun _ => rfl) rfl, hgR (by decide) (fun _ => rfl) rfl⟩
theorem w51 (v : Int) : pV (hp q G) 6 51 0 (.int (jI v)) = some (hp q (up G 51 0 v)) := hpI (by decide) (fun _ => rfl) rfl
theorem l52 {i : Int} (h0 : 0 ≤ i) (h1 : i < 8) : ldI 0 (hp q G) 52 (jI i) = some (jI (G 52 i)) := hld (n := 8) (by decide) (fun _ => rfl) (.inl rfl) (by decide) h0 h1
theorem s52 {i : Int} (v : Int) (h0 : 0 ≤ i) (h1 : i < 8) : stI 0 (hp q G) 52 (jI i) (jI v) = some (hp q (up G 52 i v)) := hst (n := 8) (by decide) (fun _ => rfl) (.inl rfl) (by decide) h0 h1 rfl
theorem n52 : lnA (hp q G) 52 = some (jI 8) := hln (t := 0) (n := 8) (by omega) rfl (by decide)
theorem l53 {i : Int} (h0 : 0 ≤ i) (h1 : i < 8) : ldI 0 (hp q G) 53 (jI i) = some (jI (G 53 i)) := hld (n := 8) (by decide) (fun _ => rfl) (.inl rfl) (by decide) h0 h1
theorem s53 {i : Int} (v : Int) (h0 : 0 ≤ i) (h1 : i < 8) : stI 0 (hp q G) 53 (jI i) (jI v) = some (hp q (up G 53 i v)) := hst (n := 8) (by decide) (fun _ => rfl) (.inl rfl) (by decide) h0 h1 rfl
theorem n53 : lnA (hp q G) 53 = some (jI 8) := hln (t := 0) (n := 8) (by omega) rfl (by decide)
theorem l54 {i : Int} (h0 : 0 ≤ i) (h1 : i < 8) : ldI 0 (hp q G) 54 (jI i) = some (jI (G 54 i)) := hld (n := 8) (by decide) (fun _ => rfl) (.inl rfl) (by decide) h0 h1
theorem s54 {i : Int} (v : Int) (h0 : 0 ≤ i) (h1 : i < 8) : stI 0 (hp q G) 54 (jI i) (jI v) = some (hp q (up G 54 i v)) := hst (n := 8) (by decide) (fun _ => rfl) (.inl rfl) (by decide) h0 h1 rfl
theorem n54 : lnA (hp q G) 54 = some (jI 8) := hln (t := 0) (n := 8) (by omega) rfl (by decide)
theorem o55 : rcv (hp q G) 6 55 = some () ∧ gI (hp q G) 6 55 0 = some (jI (G 55 0)) ∧ gR (hp q G) 6 55 1 = some 56 ∧ gR (hp q G) 6 55 2 = some 57 ∧ gR (hp q G) 6 55 3 = some 58 := ⟨hrc (by decide) (fun _ => rfl), hgI (by decide) (fun _ => rfl) rfl, hgR (by decide) (fun _ => rfl) rfl, hgR (by decide) (fun _ => rfl) rfl, hgR (by decide) (fun _ => rfl) rfl⟩
theorem w55 (v : Int) : pV (hp q G) 6 55 0 (.int (jI v)) = some (hp q (up G 55 0 v)) := hpI (by decide) (fun _ => rfl) rfl
theorem l56 {i : Int} (h0 : 0 ≤ i) (h1 : i < 8) : ldI 0 (hp q G) 56 (jI i) = some (jI (G 56 i)) := hld (n := 8) (by decide) (fun _ => rfl) (.inl rfl) (by decide) h0 h1
theorem s56 {i : Int} (v : Int) (h0 : 0 ≤ i) (h1 : i < 8) : stI 0 (hp q G) 56 (jI i) (jI v) = some (hp q (up G 56 i v)) := hst (n := 8) (by decide) (fun _ => rfl) (.inl rfl) (by decide) h0 h1 rfl
theorem n56 : lnA (hp q G) 56 = some (jI 8) := hln (t := 0) (n := 8) (by omega) rfl (by decide)
theorem l57 {i : Int} (h0 : 0 ≤ i) (h1 : i < 8) : ldI 0 (hp q G) 57 (jI i) = some (jI (G 57 i)) := hld (n := 8) (by decide) (fun _ => rfl) (.inl rfl) (by decide) h0 h1
theorem s57 {i : Int} (v : Int) (h0 : 0 ≤ i) (h1 : i < 8) : stI 0 (hp q G) 57 (jI i) (jI v) = some (hp q (up G 57 i v)) := hst (n := 8) (by decide) (fun _ => rfl) (.inl rfl) (by decide) h0 h1 rfl
theorem n57 : lnA (hp q G) 57 = some (jI 8) := hln (t := 0) (n := 8) (by omega) rfl (by decide)
theorem l58 {i : Int} (h0 : 0 ≤ i) (h1 : i < 8) : ldI 0 (hp q G) 58 (jI i) = some (jI (G 58 i)) := hld (n := 8) (by decide) (fun _ => rfl) (.inl rfl) (by decide) h0 h1
theorem s58 {i : Int} (v : Int) (h0 : 0 ≤ i) (h1 : i < 8) : stI 0 (hp q G) 58 (jI i) (jI v) = some (hp q (up G 58 i v)) := hst (n := 8) (by decide) (fun _ => rfl) (.inl rfl) (by decide) h0 h1 rfl
theorem n58 : lnA (hp q G) 58 = some (jI 8) := hln (t := 0) (n := 8) (by omega) rfl (by decide)
theorem o59 : rcv (hp q G) 3 59 = some () ∧ gR (hp q G) 3 59 0 = some 60 ∧ gR (hp q G) 3 59 1 = some 61 := ⟨hrc (by decide) (fun _ => rfl), hgR (by decide) (fun _ => rfl) rfl, hgR (by decide) (fun _ => rfl) rfl⟩
theorem l60 {i : Int} (h0 : 0 ≤ i) (h1 : i < 8) : ldI 0 (hp q G) 60 (jI i) = some (jI (G 60 i)) := hld (n := 8) (by decide) (fun _ => rfl) (.inl rfl) (by decide) h0 h1
theorem s60 {i : Int} (v : Int) (h0 : 0 ≤ i) (h1 : i < 8) : stI 0 (hp q G) 60 (jI i) (jI v) = some (hp q (up G 60 i v)) := hst (n := 8) (by decide) (fun _ => rfl) (.inl rfl) (by decide) h0 h1 rfl
theorem n60 : lnA (hp q G) 60 = some (jI 8) := hln (t := 0) (n := 8) (by omega) rfl (by decide)
theorem l61 {i : Int} (h0 : 0 ≤ i) (h1 : i < 8) : ldI 0 (hp q G) 61 (jI i) = some (jI (G 61 i)) := hld (n := 8) (by decide) (fun _ => rfl) (.inl rfl) (by decide) h0 h1
theorem s61 {i : Int} (v : Int) (h0 : 0 ≤ i) (h1 : i < 8) : stI 0 (hp q G) 61 (jI i) (jI v) = some (hp q (up G 61 i v)) := hst (n := 8) (by decide) (fun _ => rfl) (.inl rfl) (by decide) h0 h1 rfl
theorem n61 : lnA (hp q G) 61 = some (jI 8) := hln (t := 0) (n := 8) (by omega) rfl (by decide)
theorem o62 : rcv (hp q G) 4 62 = some () ∧ gI (hp q G) 4 62 0 = some (jI (G 62 0)) ∧ gR (hp q G) 4 62 1 = some 63 ∧ gR (hp q G) 4 62 2 = some 67 ∧ gR (hp q G) 4 62 3 = some 71 ∧ gR (hp q G) 4 62 4 = some 75 := ⟨hrc (by decide) (fun _ => rfl), hgI (by decide) (fun _ => rfl) rfl, hgR (by decide) (fun _ => rfl) rfl, hgR (by decide) (fun _ => rfl) rfl, hgR (by decide) (fun _ => rfl) rfl, hgR (by decide) (fun _ => rfl) rfl⟩
theorem w62 (v : Int) : pV (hp q G) 4 62 0 (.int (jI v)) = some (hp q (up G 62 0 v)) := hpI (by decide) (fun _ => rfl) rfl
theorem o63 : rcv (hp q G) 0 63 = some () ∧ gI (hp q G) 0 63 0 = some (jI (G 63 0)) ∧ gI (hp q G) 0 63 1 = some (jI (G 63 1)) ∧ gI (hp q G) 0 63 2 = some (jI (G 63 2)) ∧ gI (hp q G) 0 63 3 = some (jI (G 63 3)) ∧ gI (hp q G) 0 63 4 = some (jI (G 63 4)) ∧ gI (hp q G) 0 63 5 = some (jI (G 63 5)) ∧ gI (hp q G) 0 63 6 = some (jI (G 63 6)) ∧ gR (hp q G) 0 63 7 = some 64 ∧ gR (hp q G) 0 63 8 = some 65 ∧ gR (hp q G) 0 63 9 = some 66 := ⟨hrc (by decide) (fun _ => rfl), hgI (by decide) (fun _ => rfl) rfl, hgI (by decide) (fun _ => rfl) rfl, hgI (by decide) (fun _ => rfl) rfl, hgI (by decide) (fun _ => rfl) rfl, hgI (by decide) (fun _ => rfl) rfl, hgI (by decide) (fun _ => rfl) rfl, hgI (by decide) (fun _ => rfl) rfl, hgR (by decide) (fun _ => rfl) rfl, hgR (by decide) (fun _ => rfl) rfl, hgR (by decide) (fun _ => rfl) rfl⟩
theorem w63 (v : Int) : pV (hp q G) 0 63 0 (.int (jI v)) = some (hp q (up G 63 0 v)) ∧ pV (hp q G) 0 63 1 (.int (jI v)) = some (hp q (up G 63 1 v)) ∧ pV (hp q G) 0 63 2 (.int (jI v)) = some (hp q (up G 63 2 v)) ∧ pV (hp q G) 0 63 3 (.int (jI v)) = some (hp q (up G 63 3 v)) ∧ pV (hp q G) 0 63 4 (.int (jI v)) = some (hp q (up G 63 4 v)) ∧ pV (hp q G) 0 63 5 (.int (jI v)) = some (hp q (up G 63 5 v)) ∧ pV (hp q G) 0 63 6 (.int (jI v)) = some (hp q (up G 63 6 v)) := ⟨hpI (by decide) (fun _ => rfl) rfl, hpI (by decide) (fun _ => rfl) rfl, hpI (by decide) (fun _ => rfl) rfl, hpI (by decide) (fun _ => rfl) rfl, hpI (by decide) (fun _ => rfl) rfl, hpI (by decide) (fun _ => rfl) rfl, hpI (by decide) (fun _ => rfl) rfl⟩
theorem l64 {i : Int} (h0 : 0 ≤ i) (h1 : i < 24) : ldI 0 (hp q G) 64 (jI i) = some (jI (G 64 i)) := hld (n := 24) (by decide) (fun _ => rfl) (.inl rfl) (by decide) h0 h1
theorem s64 {i : Int} (v : Int) (h0 : 0 ≤ i) (h1 : i < 24) : stI 0 (hp q G) 64 (jI i) (jI v) = some (hp q (up G 64 i v)) := hst (n := 24) (by decide) (fun _ => rfl) (.inl rfl) (by decide) h0 h1 rfl
theorem n64 : lnA (hp q G) 64 = some (jI 24) := hln (t := 0) (n := 24) (by omega) rfl (by decide)
theorem l65 {i : Int} (h0 : 0 ≤ i) (h1 : i < 88) : ldI 0 (hp q G) 65 (jI i) = some (jI (G 65 i)) := hld (n := 88) (by decide) (fun _ => rfl) (.inl rfl) (by decide) h0 h1
theorem s65 {i : Int} (v : Int) (h0 : 0 ≤ i) (h1 : i < 88) : stI 0 (hp q G) 65 (jI i) (jI v) = some (hp q (up G 65 i v)) := hst (n := 88) (by decide) (fun _ => rfl) (.inl rfl) (by decide) h0 h1 rfl
theorem n65 : lnA (hp q G) 65 = some (jI 88) := hln (t := 0) (n := 88) (by omega) rfl (by decide)
theorem l66 {i : Int} (h0 : 0 ≤ i) (h1 : i < 24) : ldI 0 (hp q G) 66 (jI i) = some (jI (G 66 i)) := hld (n := 24) (by decide) (fun _ => rfl) (.inl rfl) (by decide) h0 h1
theorem s66 {i : Int} (v : Int) (h0 : 0 ≤ i) (h1 : i < 24) : stI 0 (hp q G) 66 (jI i) (jI v) = some (hp q (up G 66 i v)) := hst (n := 24) (by decide) (fun _ => rfl) (.inl rfl) (by decide) h0 h1 rfl
theorem n66 : lnA (hp q G) 66 = some (jI 24) := hln (t := 0) (n := 24) (by omega) rfl (by decide)
theorem o67 : rcv (hp q G) 6 67 = some () ∧ gI (hp q G) 6 67 0 = some (jI (G 67 0)) ∧ gR (hp q G) 6 67 1 = some 68 ∧ gR (hp q G) 6 67 2 = some 69 ∧ gR (hp q G) 6 67 3 = some 70 := ⟨hrc (by decide) (fun _ => rfl), hgI (by decide) (fun _ => rfl) rfl, hgR (by decide) (fun _ => rfl) rfl, hgR (by decide) (fun _ => rfl) rfl, hgR (by decide) (fun _ => rfl) rfl⟩
theorem w67 (v : Int) : pV (hp q G) 6 67 0 (.int (jI v)) = some (hp q (up G 67 0 v)) := hpI (by decide) (fun _ => rfl) rfl
theorem l68 {i : Int} (h0 : 0 ≤ i) (h1 : i < 8) : ldI 0 (hp q G) 68 (jI i) = some (jI (G 68 i)) := hld (n := 8) (by decide) (fun _ => rfl) (.inl rfl) (by decide) h0 h1
theorem s68 {i : Int} (v : Int) (h0 : 0 ≤ i) (h1 : i < 8) : stI 0 (hp q G) 68 (jI i) (jI v) = some (hp q (up G 68 i v)) := hst (n := 8) (by decide) (fun _ => rfl) (.inl rfl) (by decide) h0 h1 rfl
theorem n68 : lnA (hp q G) 68 = some (jI 8) := hln (t := 0) (n := 8) (by omega) rfl (by decide)
theorem l69 {i : Int} (h0 : 0 ≤ i) (h1 : i < 8) : ldI 0 (hp q G) 69 (jI i) = some (jI (G 69 i)) := hld (n := 8) (by decide) (fun _ => rfl) (.inl rfl) (by decide) h0 h1
theorem s69 {i : Int} (v : Int) (h0 : 0 ≤ i) (h1 : i < 8) : stI 0 (hp q G) 69 (jI i) (jI v) = some (hp q (up G 69 i v)) := hst (n := 8) (by decide) (fun _ => rfl) (.inl rfl) (by decide) h0 h1 rfl
theorem n69 : lnA (hp q G) 69 = some (jI 8) := hln (t := 0) (n := 8) (by omega) rfl (by decide)
theorem l70 {i : Int} (h0 : 0 ≤ i) (h1 : i < 8) : ldI 0 (hp q G) 70 (jI i) = some (jI (G 70 i)) := hld (n := 8) (by decide) (fun _ => rfl) (.inl rfl) (by decide) h0 h1
theorem s70 {i : Int} (v : Int) (h0 : 0 ≤ i) (h1 : i < 8) : stI 0 (hp q G) 70 (jI i) (jI v) = some (hp q (up G 70 i v)) := hst (n := 8) (by decide) (fun _ => rfl) (.inl rfl) (by decide) h0 h1 rfl
theorem n70 : lnA (hp q G) 70 = some (jI 8) := hln (t := 0) (n := 8) (by omega) rfl (by decide)
theorem o71 : rcv (hp q G) 6 71 = some () ∧ gI (hp q G) 6 71 0 = some (jI (G 71 0)) ∧ gR (hp q G) 6 71 1 = some 72 ∧ gR (hp q G) 6 71 2 = some 73 ∧ gR (hp q G) 6 71 3 = some 74 := ⟨hrc (by decide) (fun _ => rfl), hgI (by decide) (fun _ => rfl) rfl, hgR (by decide) (fun _ => rfl) rfl, hgR (by decide) (fun _ => rfl) rfl, hgR (by decide) (fun _ => rfl) rfl⟩
theorem w71 (v : Int) : pV (hp q G) 6 71 0 (.int (jI v)) = some (hp q (up G 71 0 v)) := hpI (by decide) (fun _ => rfl) rfl
theorem l72 {i : Int} (h0 : 0 ≤ i) (h1 : i < 8) : ldI 0 (hp q G) 72 (jI i) = some (jI (G 72 i)) := hld (n := 8) (by decide) (fun _ => rfl) (.inl rfl) (by decide) h0 h1
theorem s72 {i : Int} (v : Int) (h0 : 0 ≤ i) (h1 : i < 8) : stI 0 (hp q G) 72 (jI i) (jI v) = some (hp q (up G 72 i v)) := hst (n := 8) (by decide) (fun _ => rfl) (.inl rfl) (by decide) h0 h1 rfl
theorem n72 : lnA (hp q G) 72 = some (jI 8) := hln (t := 0) (n := 8) (by omega) rfl (by decide)
theorem l73 {i : Int} (h0 : 0 ≤ i) (h1 : i < 8) : ldI 0 (hp q G) 73 (jI i) = some (jI (G 73 i)) := hld (n := 8) (by decide) (fun _ => rfl) (.inl rfl) (by decide) h0 h1
theorem s73 {i : Int} (v : Int) (h0 : 0 ≤ i) (h1 : i < 8) : stI 0 (hp q G) 73 (jI i) (jI v) = some (hp q (up G 73 i v)) := hst (n := 8) (by decide) (fun _ => rfl) (.inl rfl) (by decide) h0 h1 rfl
theorem n73 : lnA (hp q G) 73 = some (jI 8) := hln (t := 0) (n := 8) (by omega) rfl (by decide)
theorem l74 {i : Int} (h0 : 0 ≤ i) (h1 : i < 8) : ldI 0 (hp q G) 74 (jI i) = some (jI (G 74 i)) := hld (n := 8) (by decide) (fun _ => rfl) (.inl rfl) (by decide) h0 h1
theorem s74 {i : Int} (v : Int) (h0 : 0 ≤ i) (h1 : i < 8) : stI 0 (hp q G) 74 (jI i) (jI v) = some (hp q (up G 74 i v)) := hst (n := 8) (by decide) (fun _ => rfl) (.inl rfl) (by decide) h0 h1 rfl
theorem n74 : lnA (hp q G) 74 = some (jI 8) := hln (t := 0) (n := 8) (by omega) rfl (by decide)
theorem o75 : rcv (hp q G) 3 75 = some () ∧ gR (hp q G) 3 75 0 = some 76 ∧ gR (hp q G) 3 75 1 = some 77 := ⟨hrc (by decide) (fun _ => rfl), hgR (by decide) (fun _ => rfl) rfl, hgR (by decide) (fun _ => rfl) rfl⟩
theorem l76 {i : Int} (h0 : 0 ≤ i) (h1 : i < 8) : ldI 0 (hp q G) 76 (jI i) = some (jI (G 76 i)) := hld (n := 8) (by decide) (fun _ => rfl) (.inl rfl) (by decide) h0 h1
theorem s76 {i : Int} (v : Int) (h0 : 0 ≤ i) (h1 : i < 8) : stI 0 (hp q G) 76 (jI i) (jI v) = some (hp q (up G 76 i v)) := hst (n := 8) (by decide) (fun _ => rfl) (.inl rfl) (by decide) h0 h1 rfl
theorem n76 : lnA (hp q G) 76 = some (jI 8) := hln (t := 0) (n := 8) (by omega) rfl (by decide)
theorem l77 {i : Int} (h0 : 0 ≤ i) (h1 : i < 8) : ldI 0 (hp q G) 77 (jI i) = some (jI (G 77 i)) := hld (n := 8) (by decide) (fun _ => rfl) (.inl rfl) (by decide) h0 h1
theorem s77 {i : Int} (v : Int) (h0 : 0 ≤ i) (h1 : i < 8) : stI 0 (hp q G) 77 (jI i) (jI v) = some (hp q (up G 77 i v)) := hst (n := 8) (by decide) (fun _ => rfl) (.inl rfl) (by decide) h0 h1 rfl
theorem n77 : lnA (hp q G) 77 = some (jI 8) := hln (t := 0) (n := 8) (by omega) rfl (by decide)
theorem o78 : rcv (hp q G) 2 78 = some () ∧ gI (hp q G) 2 78 0 = some (jI (G 78 0)) ∧ gI (hp q G) 2 78 1 = some (jI (G 78 1)) ∧ gI (hp q G) 2 78 2 = some (jI (G 78 2)) ∧ gR (hp q G) 2 78 3 = some 79 ∧ gR (hp q G) 2 78 4 = some 80 ∧ gR (hp q G) 2 78 5 = some 81 := ⟨hrc (by decide) (fun _ => rfl), hgI (by decide) (fun _ => rfl) rfl, hgI (by decide) (fun _ => rfl) rfl, hgI (by decide) (fun _ => rfl) rfl, hgR (by decide) (fun _ => rfl) rfl, hgR (by decide) (fun _ => rfl) rfl, hgR (by decide) (fun _ => rfl) rfl⟩
theorem w78 (v : Int) : pV (hp q G) 2 78 0 (.int (jI v)) = some (hp q (up G 78 0 v)) ∧ pV (hp q G) 2 78 1 (.int (jI v)) = some (hp q (up G 78 1 v)) ∧ pV (hp q G) 2 78 2 (.int (jI v)) = some (hp q (up G 78 2 v)) := ⟨hpI (by decide) (fun _ => rfl) rfl, hpI (by decide) (fun _ => rfl) rfl, hpI (by decide) (fun _ => rfl) rfl⟩
theorem l79 {i : Int} (h0 : 0 ≤ i) (h1 : i < 8) : ldI 0 (hp q G) 79 (jI i) = some (jI (G 79 i)) := hld (n := 8) (by decide) (fun _ => rfl) (.inl rfl) (by decide) h0 h1
theorem s79 {i : Int} (v : Int) (h0 : 0 ≤ i) (h1 : i < 8) : stI 0 (hp q G) 79 (jI i) (jI v) = some (hp q (up G 79 i v)) := hst (n := 8) (by decide) (fun _ => rfl) (.inl rfl) (by decide) h0 h1 rfl
theorem n79 : lnA (hp q G) 79 = some (jI 8) := hln (t := 0) (n := 8) (by omega) rfl (by decide)
theorem l80 {i : Int} (h0 : 0 ≤ i) (h1 : i < 8) : ldI 0 (hp q G) 80 (jI i) = some (jI (G 80 i)) := hld (n := 8) (by decide) (fun _ => rfl) (.inl rfl) (by decide) h0 h1
theorem s80 {i : Int} (v : Int) (h0 : 0 ≤ i) (h1 : i < 8) : stI 0 (hp q G) 80 (jI i) (jI v) = some (hp q (up G 80 i v)) := hst (n := 8) (by decide) (fun _ => rfl) (.inl rfl) (by decide) h0 h1 rfl
theorem n80 : lnA (hp q G) 80 = some (jI 8) := hln (t := 0) (n := 8) (by omega) rfl (by decide)
theorem l81 {i : Int} (h0 : 0 ≤ i) (h1 : i < 8) : ldI 0 (hp q G) 81 (jI i) = some (jI (G 81 i)) := hld (n := 8) (by decide) (fun _ => rfl) (.inl rfl) (by decide) h0 h1
theorem s81 {i : Int} (v : Int) (h0 : 0 ≤ i) (h1 : i < 8) : stI 0 (hp q G) 81 (jI i) (jI v) = some (hp q (up G 81 i v)) := hst (n := 8) (by decide) (fun _ => rfl) (.inl rfl) (by decide) h0 h1 rfl
theorem n81 : lnA (hp q G) 81 = some (jI 8) := hln (t := 0) (n := 8) (by omega) rfl (by decide)
theorem o82 : rcv (hp q G) 1 82 = some () ∧ gI (hp q G) 1 82 0 = some (jI (G 82 0)) ∧ gI (hp q G) 1 82 1 = some (jI (G 82 1)) ∧ gI (hp q G) 1 82 2 = some (jI (G 82 2)) ∧ gI (hp q G) 1 82 3 = some (jI (G 82 3)) ∧ gR (hp q G) 1 82 4 = some 83 ∧ gR (hp q G) 1 82 5 = some 84 ∧ gR (hp q G) 1 82 6 = some 85 ∧ gR (hp q G) 1 82 7 = some 86 ∧ gR (hp q G) 1 82 8 = some 87 ∧ gR (hp q G) 1 82 9 = some 88 ∧ gR (hp q G) 1 82 10 = some 89 ∧ gR (hp q G) 1 82 11 = some 90 ∧ gR (hp q G) 1 82 12 = some 91 ∧ gR (hp q G) 1 82 13 = some 92 ∧ gR (hp q G) 1 82 14 = some (G 82 14).toNat ∧ gR (hp q G) 1 82 15 = some (G 82 15).toNat ∧ gL (hp q G) 1 82 16 = some (jL (G 82 16)) := ⟨hrc (by decide) (fun _ => rfl), hgI (by decide) (fun _ => rfl) rfl, hgI (by decide) (fun _ => rfl) rfl, hgI (by decide) (fun _ => rfl) rfl, hgI (by decide) (fun _ => rfl) rfl, hgR (by decide) (fun _ => rfl) rfl, hgR (by decide) (fun _ => rfl) rfl, hgR (by decide) (fun _ => rfl) rfl, hgR (by decide) (fun _ => rfl) rfl, hgR (by decide) (fun _ => rfl) rfl, hgR (by decide) (fun _ => rfl) rfl, hgR (by decide) (fun _ => rfl) rfl, hgR (by decide) (fun _ => rfl) rfl, hgR (by decide) (fun _ => rfl) rfl, hgR (by decide) (fun _ => rfl) rfl, hgM (by decide) (fun _ => rfl) rfl, hgM (by decide) (fun _ => rfl) rfl, hgL (by decide) (fun _ => rfl) rfl⟩
theorem w82 (v : Int) : pV (hp q G) 1 82 0 (.int (jI v)) = some (hp q (up G 82 0 v)) ∧ pV (hp q G) 1 82 1 (.int (jI v)) = some (hp q (up G 82 1 v)) ∧ pV (hp q G) 1 82 2 (.int (jI v)) = some (hp q (up G 82 2 v)) ∧ pV (hp q G) 1 82 3 (.int (jI v)) = some (hp q (up G 82 3 v)) ∧ pV (hp q G) 1 82 16 (.long (jL v)) = some (hp q (up G 82 16 v)) := ⟨hpI (by decide) (fun _ => rfl) rfl, hpI (by decide) (fun _ => rfl) rfl, hpI (by decide) (fun _ => rfl) rfl, hpI (by decide) (fun _ => rfl) rfl, hpL (by decide) (fun _ => rfl) rfl⟩
theorem v82_14 (r : Nat) : pV (hp q G) 1 82 14 (.ref r) = some (hp q (up G 82 14 r)) := hpM (by decide) (fun _ => rfl) rfl
theorem v82_15 (r : Nat) : pV (hp q G) 1 82 15 (.ref r) = some (hp q (up G 82 15 r)) := hpM (by decide) (fun _ => rfl) rfl
theorem l83 {i : Int} (h0 : 0 ≤ i) (h1 : i < 8) : ldI 0 (hp q G) 83 (jI i) = some (jI (G 83 i)) := hld (n := 8) (by decide) (fun _ => rfl) (.inl rfl) (by decide) h0 h1
theorem s83 {i : Int} (v : Int) (h0 : 0 ≤ i) (h1 : i < 8) : stI 0 (hp q G) 83 (jI i) (jI v) = some (hp q (up G 83 i v)) := hst (n := 8) (by decide) (fun _ => rfl) (.inl rfl) (by decide) h0 h1 rfl
theorem n83 : lnA (hp q G) 83 = some (jI 8) := hln (t := 0) (n := 8) (by omega) rfl (by decide)
theorem l84 {i : Int} (h0 : 0 ≤ i) (h1 : i < 8) : ldI 0 (hp q G) 84 (jI i) = some (jI (G 84 i)) := hld (n := 8) (by decide) (fun _ => rfl) (.inl rfl) (by decide) h0 h1
theorem s84 {i : Int} (v : Int) (h0 : 0 ≤ i) (h1 : i < 8) : stI 0 (hp q G) 84 (jI i) (jI v) = some (hp q (up G 84 i v)) := hst (n := 8) (by decide) (fun _ => rfl) (.inl rfl) (by decide) h0 h1 rfl
theorem n84 : lnA (hp q G) 84 = some (jI 8) := hln (t := 0) (n := 8) (by omega) rfl (by decide)
theorem l85 {i : Int} (h0 : 0 ≤ i) (h1 : i < 8) : ldI 0 (hp q G) 85 (jI i) = some (jI (G 85 i)) := hld (n := 8) (by decide) (fun _ => rfl) (.inl rfl) (by decide) h0 h1
theorem s85 {i : Int} (v : Int) (h0 : 0 ≤ i) (h1 : i < 8) : stI 0 (hp q G) 85 (jI i) (jI v) = some (hp q (up G 85 i v)) := hst (n := 8) (by decide) (fun _ => rfl) (.inl rfl) (by decide) h0 h1 rfl
theorem n85 : lnA (hp q G) 85 = some (jI 8) := hln (t := 0) (n := 8) (by omega) rfl (by decide)
theorem l86 {i : Int} (h0 : 0 ≤ i) (h1 : i < 8) : ldI 0 (hp q G) 86 (jI i) = some (jI (G 86 i)) := hld (n := 8) (by decide) (fun _ => rfl) (.inl rfl) (by decide) h0 h1
theorem s86 {i : Int} (v : Int) (h0 : 0 ≤ i) (h1 : i < 8) : stI 0 (hp q G) 86 (jI i) (jI v) = some (hp q (up G 86 i v)) := hst (n := 8) (by decide) (fun _ => rfl) (.inl rfl) (by decide) h0 h1 rfl
theorem n86 : lnA (hp q G) 86 = some (jI 8) := hln (t := 0) (n := 8) (by omega) rfl (by decide)
theorem l87 {i : Int} (h0 : 0 ≤ i) (h1 : i < 8) : ldI 0 (hp q G) 87 (jI i) = some (jI (G 87 i)) := hld (n := 8) (by decide) (fun _ => rfl) (.inl rfl) (by decide) h0 h1
theorem s87 {i : Int} (v : Int) (h0 : 0 ≤ i) (h1 : i < 8) : stI 0 (hp q G) 87 (jI i) (jI v) = some (hp q (up G 87 i v)) := hst (n := 8) (by decide) (fun _ => rfl) (.inl rfl) (by decide) h0 h1 rfl
theorem n87 : lnA (hp q G) 87 = some (jI 8) := hln (t := 0) (n := 8) (by omega) rfl (by decide)
theorem l88 {i : Int} (h0 : 0 ≤ i) (h1 : i < 8) : ldI 0 (hp q G) 88 (jI i) = some (jI (G 88 i)) := hld (n := 8) (by decide) (fun _ => rfl) (.inl rfl) (by decide) h0 h1
theorem s88 {i : Int} (v : Int) (h0 : 0 ≤ i) (h1 : i < 8) : stI 0 (hp q G) 88 (jI i) (jI v) = some (hp q (up G 88 i v)) := hst (n := 8) (by decide) (fun _ => rfl) (.inl rfl) (by decide) h0 h1 rfl
theorem n88 : lnA (hp q G) 88 = some (jI 8) := hln (t := 0) (n := 8) (by omega) rfl (by decide)
theorem l89 {i : Int} (h0 : 0 ≤ i) (h1 : i < 19) : ldI 0 (hp q G) 89 (jI i) = some (jI (G 89 i)) := hld (n := 19) (by decide) (fun _ => rfl) (.inl rfl) (by decide) h0 h1
theorem s89 {i : Int} (v : Int) (h0 : 0 ≤ i) (h1 : i < 19) : stI 0 (hp q G) 89 (jI i) (jI v) = some (hp q (up G 89 i v)) := hst (n := 19) (by decide) (fun _ => rfl) (.inl rfl) (by decide) h0 h1 rfl
theorem n89 : lnA (hp q G) 89 = some (jI 19) := hln (t := 0) (n := 19) (by omega) rfl (by decide)
theorem l90 {i : Int} (h0 : 0 ≤ i) (h1 : i < 19) : ldI 0 (hp q G) 90 (jI i) = some (jI (G 90 i)) := hld (n := 19) (by decide) (fun _ => rfl) (.inl rfl) (by decide) h0 h1
theorem s90 {i : Int} (v : Int) (h0 : 0 ≤ i) (h1 : i < 19) : stI 0 (hp q G) 90 (jI i) (jI v) = some (hp q (up G 90 i v)) := hst (n := 19) (by decide) (fun _ => rfl) (.inl rfl) (by decide) h0 h1 rfl
theorem n90 : lnA (hp q G) 90 = some (jI 19) := hln (t := 0) (n := 19) (by omega) rfl (by decide)
theorem l91 {i : Int} (h0 : 0 ≤ i) (h1 : i < 19) : ldI 0 (hp q G) 91 (jI i) = some (jI (G 91 i)) := hld (n := 19) (by decide) (fun _ => rfl) (.inl rfl) (by decide) h0 h1
theorem s91 {i : Int} (v : Int) (h0 : 0 ≤ i) (h1 : i < 19) : stI 0 (hp q G) 91 (jI i) (jI v) = some (hp q (up G 91 i v)) := hst (n := 19) (by decide) (fun _ => rfl) (.inl rfl) (by decide) h0 h1 rfl
theorem n91 : lnA (hp q G) 91 = some (jI 19) := hln (t := 0) (n := 19) (by omega) rfl (by decide)
theorem l92 {i : Int} (h0 : 0 ≤ i) (h1 : i < 19) : ldI 0 (hp q G) 92 (jI i) = some (jI (G 92 i)) := hld (n := 19) (by decide) (fun _ => rfl) (.inl rfl) (by decide) h0 h1
theorem s92 {i : Int} (v : Int) (h0 : 0 ≤ i) (h1 : i < 19) : stI 0 (hp q G) 92 (jI i) (jI v) = some (hp q (up G 92 i v)) := hst (n := 19) (by decide) (fun _ => rfl) (.inl rfl) (by decide) h0 h1 rfl
theorem n92 : lnA (hp q G) 92 = some (jI 19) := hln (t := 0) (n := 19) (by omega) rfl (by decide)
theorem l93 {i : Int} (h0 : 0 ≤ i) (h1 : i < 0) : ldL (hp q G) 93 (jI i) = some (jL (G 93 i)) := hlL (n := 0) (by omega) rfl h0 h1 (by omega)
theorem s93 {i : Int} (v : Int) (h0 : 0 ≤ i) (h1 : i < 0) : stL (hp q G) 93 (jI i) (jL v) = some (hp q (up G 93 i v)) := hsL (n := 0) (by omega) rfl h0 h1 (by omega)
theorem n93 : lnA (hp q G) 93 = some (jI 0) := hln (t := 1) (n := 0) (by omega) rfl (by decide)
theorem l94 {i : Int} (h0 : 0 ≤ i) (h1 : i < 0) : ldL (hp q G) 94 (jI i) = some (jL (G 94 i)) := hlL (n := 0) (by omega) rfl h0 h1 (by omega)
theorem s94 {i : Int} (v : Int) (h0 : 0 ≤ i) (h1 : i < 0) : stL (hp q G) 94 (jI i) (jL v) = some (hp q (up G 94 i v)) := hsL (n := 0) (by omega) rfl h0 h1 (by omega)
theorem n94 : lnA (hp q G) 94 = some (jI 0) := hln (t := 1) (n := 0) (by omega) rfl (by decide)
theorem o95 : rcv (hp q G) 7 95 = some () ∧ gR (hp q G) 7 95 0 = some 96 ∧ gR (hp q G) 7 95 1 = some 97 := ⟨hrc (by decide) (fun _ => rfl), hgR (by decide) (fun _ => rfl) rfl, hgR (by decide) (fun _ => rfl) rfl⟩
theorem l96 {i : Int} (h0 : 0 ≤ i) (h1 : i < 9) : ldI 0 (hp q G) 96 (jI i) = some (jI (G 96 i)) := hld (n := 9) (by decide) (fun _ => rfl) (.inl rfl) (by decide) h0 h1
theorem s96 {i : Int} (v : Int) (h0 : 0 ≤ i) (h1 : i < 9) : stI 0 (hp q G) 96 (jI i) (jI v) = some (hp q (up G 96 i v)) := hst (n := 9) (by decide) (fun _ => rfl) (.inl rfl) (by decide) h0 h1 rfl
theorem n96 : lnA (hp q G) 96 = some (jI 9) := hln (t := 0) (n := 9) (by omega) rfl (by decide)
theorem l97 {i : Int} (h0 : 0 ≤ i) (h1 : i < 40) : ldI 0 (hp q G) 97 (jI i) = some (jI (G 97 i)) := hld (n := 40) (by decide) (fun _ => rfl) (.inl rfl) (by decide) h0 h1
theorem s97 {i : Int} (v : Int) (h0 : 0 ≤ i) (h1 : i < 40) : stI 0 (hp q G) 97 (jI i) (jI v) = some (hp q (up G 97 i v)) := hst (n := 40) (by decide) (fun _ => rfl) (.inl rfl) (by decide) h0 h1 rfl
theorem n97 : lnA (hp q G) 97 = some (jI 40) := hln (t := 0) (n := 40) (by omega) rfl (by decide)
theorem l98 {i : Int} (h0 : 0 ≤ i) (h1 : i < 6) : ldI 0 (hp q G) 98 (jI i) = some (jI (G 98 i)) := hld (n := 6) (by decide) (fun _ => rfl) (.inl rfl) (by decide) h0 h1
theorem s98 {i : Int} (v : Int) (h0 : 0 ≤ i) (h1 : i < 6) : stI 0 (hp q G) 98 (jI i) (jI v) = some (hp q (up G 98 i v)) := hst (n := 6) (by decide) (fun _ => rfl) (.inl rfl) (by decide) h0 h1 rfl
theorem n98 : lnA (hp q G) 98 = some (jI 6) := hln (t := 0) (n := 6) (by omega) rfl (by decide)
theorem l99 {i : Int} (h0 : 0 ≤ i) (h1 : i < 40) : ldI 0 (hp q G) 99 (jI i) = some (jI (G 99 i)) := hld (n := 40) (by decide) (fun _ => rfl) (.inl rfl) (by decide) h0 h1
theorem s99 {i : Int} (v : Int) (h0 : 0 ≤ i) (h1 : i < 40) : stI 0 (hp q G) 99 (jI i) (jI v) = some (hp q (up G 99 i v)) := hst (n := 40) (by decide) (fun _ => rfl) (.inl rfl) (by decide) h0 h1 rfl
theorem n99 : lnA (hp q G) 99 = some (jI 40) := hln (t := 0) (n := 40) (by omega) rfl (by decide)
theorem o100 : rcv (hp q G) 12 100 = some () ∧ gI (hp q G) 12 100 0 = some (jI (G 100 0)) ∧ gR (hp q G) 12 100 1 = some 101 ∧ gR (hp q G) 12 100 2 = some 102 ∧ gR (hp q G) 12 100 3 = some 103 ∧ gR (hp q G) 12 100 4 = some 104 ∧ gR (hp q G) 12 100 5 = some 105 ∧ gI (hp q G) 12 100 6 = some (jI (G 100 6)) ∧ gI (hp q G) 12 100 7 = some (jI (G 100 7)) ∧ gI (hp q G) 12 100 8 = some (jI (G 100 8)) ∧ gI (hp q G) 12 100 9 = some (jI (G 100 9)) ∧ gI (hp q G) 12 100 10 = some (jI (G 100 10)) ∧ gI (hp q G) 12 100 11 = some (jI (G 100 11)) ∧ gI (hp q G) 12 100 12 = some (jI (G 100 12)) ∧ gI (hp q G) 12 100 13 = some (jI (G 100 13)) ∧ gI (hp q G) 12 100 14 = some (jI (G 100 14)) ∧ gI (hp q G) 12 100 15 = some (jI (G 100 15)) ∧ gR (hp q G) 12 100 16 = some 106 ∧ gI (hp q G) 12 100 17 = some (jI (G 100 17)) ∧ gI (hp q G) 12 100 18 = some (jI (G 100 18)) ∧ gI (hp q G) 12 100 19 = some (jI (G 100 19)) ∧ gI (hp q G) 12 100 20 = some (jI (G 100 20)) ∧ gI (hp q G) 12 100 21 = some (jI (G 100 21)) ∧ gR (hp q G) 12 100 22 = some 107 ∧ gR (hp q G) 12 100 23 = some 108 ∧ gR (hp q G) 12 100 24 = some 109 ∧ gR (hp q G) 12 100 25 = some 110 ∧ gR (hp q G) 12 100 26 = some 111 ∧ gR (hp q G) 12 100 27 = some 112 ∧ gR (hp q G) 12 100 28 = some 113 ∧ gI (hp q G) 12 100 29 = some (jI (G 100 29)) ∧ gI (hp q G) 12 100 30 = some (jI (G 100 30)) ∧ gR (hp q G) 12 100 31 = some 114 ∧ gR (hp q G) 12 100 32 = some 115 ∧ gR (hp q G) 12 100 33 = some 116 ∧ gR (hp q G) 12 100 34 = some 117 ∧ gR (hp q G) 12 100 35 = some 118 ∧ gR (hp q G) 12 100 36 = some 119 := ⟨hrc (by decide) (fun _ => rfl), hgI (by decide) (fun _ => rfl) rfl, hgR (by decide) (fun _ => rfl) rfl, hgR (by decide) (fun _ => rfl) rfl, hgR (by decide) (fun _ => rfl) rfl, hgR (by decide) (fun _ => rfl) rfl, hgR (by decide) (fun _ => rfl) rfl, hgI (by decide) (fun _ => rfl) rfl, hgI (by decide) (fun _ => rfl) rfl, hgI (by decide) (fun _ => rfl) rfl, hgI (by decide) (fun _ => rfl) rfl, hgI (by decide) (fun _ => rfl) rfl, hgI (by decide) (fun _ => rfl) rfl, hgI (by decide) (fun _ => rfl) rfl, hgI (by decide) (fun _ => rfl) rfl, hgI (by decide) (fun _ => rfl) rfl, hgI (by decide) (fun _ => rfl) rfl, hgR (by decide) (fun _ => rfl) rfl, hgI (by decide) (fun _ => rfl) rfl, hgI (by decide) (fun _ => rfl) rfl, hgI (by decide) (fun _ => rfl) rfl, hgI (by decide) (fun _ => rfl) rfl, hgI (by decide) (fun _ => rfl) rfl, hgR (by decide) (fun _ => rfl) rfl, hgR (by decide) (fun _ => rfl) rfl, hgR (by decide) (fun _ => rfl) rfl, hgR (by decide) (fun _ => rfl) rfl, hgR (by decide) (fun _ => rfl) rfl, hgR (by decide) (fun _ => rfl) rfl, hgR (by decide) (fun _ => rfl) rfl, hgI (by decide) (fun _ => rfl) rfl, hgI (by decide) (fun _ => rfl) rfl, hgR (by decide) (fun _ => rfl) rfl, hgR (by decide) (fun _ => rfl) rfl, hgR (by decide) (fun _ => rfl) rfl, hgR (by decide) (fun _ => rfl) rfl, hgR (by decide) (fun _ => rfl) rfl, hgR (by decide) (fun _ => rfl) rfl⟩
theorem w100 (v : Int) : pV (hp q G) 12 100 0 (.int (jI v)) = some (hp q (up G 100 0 v)) ∧ pV (hp q G) 12 100 6 (.int (jI v)) = some (hp q (up G 100 6 v)) ∧ pV (hp q G) 12 100 7 (.int (jI v)) = some (hp q (up G 100 7 v)) ∧ pV (hp q G) 12 100 8 (.int (jI v)) = some (hp q (up G 100 8 v)) ∧ pV (hp q G) 12 100 9 (.int (jI v)) = some (hp q (up G 100 9 v)) ∧ pV (hp q G) 12 100 10 (.int (jI v)) = some (hp q (up G 100 10 v)) ∧ pV (hp q G) 12 100 11 (.int (jI v)) = some (hp q (up G 100 11 v)) ∧ pV (hp q G) 12 100 12 (.int (jI v)) = some (hp q (up G 100 12 v)) ∧ pV (hp q G) 12 100 13 (.int (jI v)) = some (hp q (up G 100 13 v)) ∧ pV (hp q G) 12 100 14 (.int (jI v)) = some (hp q (up G 100 14 v)) ∧ pV (hp q G) 12 100 15 (.int (jI v)) = some (hp q (up G 100 15 v)) ∧ pV (hp q G) 12 100 17 (.int (jI v)) = some (hp q (up G 100 17 v)) ∧ pV (hp q G) 12 100 18 (.int (jI v)) = some (hp q (up G 100 18 v)) ∧ pV (hp q G) 12 100 19 (.int (jI v)) = some (hp q (up G 100 19 v)) ∧ pV (hp q G) 12 100 20 (.int (jI v)) = some (hp q (up G 100 20 v)) ∧ pV (hp q G) 12 100 21 (.int (jI v)) = some (hp q (up G 100 21 v)) ∧ pV (hp q G) 12 100 29 (.int (jI v)) = some (hp q (up G 100 29 v)) ∧ pV (hp q G) 12 100 30 (.int (jI v)) = some (hp q (up G 100 30 v)) := ⟨hpI (by decide) (fun _ => rfl) rfl, hpI (by decide) (fun _ => rfl) rfl, hpI (by decide) (fun _ => rfl) rfl, hpI (by decide) (fun _ => rfl) rfl, hpI (by decide) (fun _ => rfl) rfl, hpI (by decide) (fun _ => rfl) rfl, hpI (by decide) (fun _ => rfl) rfl, hpI (by decide) (fun _ => rfl) rfl, hpI (by decide) (fun _ => rfl) rfl, hpI (by decide) (fun _ => rfl) rfl, hpI (by decide) (fun _ => rfl) rfl, hpI (by decide) (fun _ => rfl) rfl, hpI (by decide) (fun _ => rfl) rfl, hpI (by decide) (fun _ => rfl) rfl, hpI (by decide) (fun _ => rfl) rfl, hpI (by decide) (fun _ => rfl) rfl, hpI (by decide) (fun _ => rfl) rfl, hpI (by decide) (fun _ => rfl) rfl⟩
theorem l101 {i : Int} (h0 : 0 ≤ i) (h1 : i < 6) : ldI 0 (hp q G) 101 (jI i) = some (jI (G 101 i)) := hld (n := 6) (by decide) (fun _ => rfl) (.inl rfl) (by decide) h0 h1
theorem s101 {i : Int} (v : Int) (h0 : 0 ≤ i) (h1 : i < 6) : stI 0 (hp q G) 101 (jI i) (jI v) = some (hp q (up G 101 i v)) := hst (n := 6) (by decide) (fun _ => rfl) (.inl rfl) (by decide) h0 h1 rfl
theorem n101 : lnA (hp q G) 101 = some (jI 6) := hln (t := 0) (n := 6) (by omega) rfl (by decide)
theorem l102 {i : Int} (h0 : 0 ≤ i) (h1 : i < 1995) : ldI 0 (hp q G) 102 (jI i) = some (jI (G 102 i)) := hld (n := 1995) (by decide) (fun _ => rfl) (.inl rfl) (by decide) h0 h1
theorem s102 {i : Int} (v : Int) (h0 : 0 ≤ i) (h1 : i < 1995) : stI 0 (hp q G) 102 (jI i) (jI v) = some (hp q (up G 102 i v)) := hst (n := 1995) (by decide) (fun _ => rfl) (.inl rfl) (by decide) h0 h1 rfl
theorem n102 : lnA (hp q G) 102 = some (jI 1995) := hln (t := 0) (n := 1995) (by omega) rfl (by decide)
theorem l103 {i : Int} (h0 : 0 ≤ i) (h1 : i < 2) : ldI 3 (hp q G) 103 (jI i) = some (jI (G 103 i)) := hld (n := 2) (by decide) (fun _ => rfl) (.inr (.inr rfl)) (by decide) h0 h1
theorem s103 {i : Int} {v : Int} {x : Int32} (hx : narB 3 x = jI v) (h0 : 0 ≤ i) (h1 : i < 2) : stI 3 (hp q G) 103 (jI i) x = some (hp q (up G 103 i v)) := hst (n := 2) (by decide) (fun _ => rfl) (.inr (.inr rfl)) (by decide) h0 h1 hx
theorem n103 : lnA (hp q G) 103 = some (jI 2) := hln (t := 3) (n := 2) (by omega) rfl (by decide)
theorem l104 {i : Int} (h0 : 0 ≤ i) (h1 : i < 500) : ldI 0 (hp q G) 104 (jI i) = some (jI (G 104 i)) := hld (n := 500) (by decide) (fun _ => rfl) (.inl rfl) (by decide) h0 h1
theorem s104 {i : Int} (v : Int) (h0 : 0 ≤ i) (h1 : i < 500) : stI 0 (hp q G) 104 (jI i) (jI v) = some (hp q (up G 104 i v)) := hst (n := 500) (by decide) (fun _ => rfl) (.inl rfl) (by decide) h0 h1 rfl
theorem n104 : lnA (hp q G) 104 = some (jI 500) := hln (t := 0) (n := 500) (by omega) rfl (by decide)
theorem l105 {i : Int} (h0 : 0 ≤ i) (h1 : i < 143) : ldI 0 (hp q G) 105 (jI i) = some (jI (G 105 i)) := hld (n := 143) (by decide) (fun _ => rfl) (.inl rfl) (by decide) h0 h1
theorem s105 {i : Int} (v : Int) (h0 : 0 ≤ i) (h1 : i < 143) : stI 0 (hp q G) 105 (jI i) (jI v) = some (hp q (up G 105 i v)) := hst (n := 143) (by decide) (fun _ => rfl) (.inl rfl) (by decide) h0 h1 rfl
theorem n105 : lnA (hp q G) 105 = some (jI 143) := hln (t := 0) (n := 143) (by omega) rfl (by decide)
theorem l106 {i : Int} (h0 : 0 ≤ i) (h1 : i < 4) : ldI 0 (hp q G) 106 (jI i) = some (jI (G 106 i)) := hld (n := 4) (by decide) (fun _ => rfl) (.inl rfl) (by decide) h0 h1
theorem s106 {i : Int} (v : Int) (h0 : 0 ≤ i) (h1 : i < 4) : stI 0 (hp q G) 106 (jI i) (jI v) = some (hp q (up G 106 i v)) := hst (n := 4) (by decide) (fun _ => rfl) (.inl rfl) (by decide) h0 h1 rfl
theorem n106 : lnA (hp q G) 106 = some (jI 4) := hln (t := 0) (n := 4) (by omega) rfl (by decide)
theorem l107 {i : Int} (h0 : 0 ≤ i) (h1 : i < 4) : ldI 0 (hp q G) 107 (jI i) = some (jI (G 107 i)) := hld (n := 4) (by decide) (fun _ => rfl) (.inl rfl) (by decide) h0 h1
theorem s107 {i : Int} (v : Int) (h0 : 0 ≤ i) (h1 : i < 4) : stI 0 (hp q G) 107 (jI i) (jI v) = some (hp q (up G 107 i v)) := hst (n := 4) (by decide) (fun _ => rfl) (.inl rfl) (by decide) h0 h1 rfl
theorem n107 : lnA (hp q G) 107 = some (jI 4) := hln (t := 0) (n := 4) (by omega) rfl (by decide)
theorem l108 {i : Int} (h0 : 0 ≤ i) (h1 : i < 9) : ldI 0 (hp q G) 108 (jI i) = some (jI (G 108 i)) := hld (n := 9) (by decide) (fun _ => rfl) (.inl rfl) (by decide) h0 h1
theorem s108 {i : Int} (v : Int) (h0 : 0 ≤ i) (h1 : i < 9) : stI 0 (hp q G) 108 (jI i) (jI v) = some (hp q (up G 108 i v)) := hst (n := 9) (by decide) (fun _ => rfl) (.inl rfl) (by decide) h0 h1 rfl
theorem n108 : lnA (hp q G) 108 = some (jI 9) := hln (t := 0) (n := 9) (by omega) rfl (by decide)
theorem l109 {i : Int} (h0 : 0 ≤ i) (h1 : i < 9) : ldI 0 (hp q G) 109 (jI i) = some (jI (G 109 i)) := hld (n := 9) (by decide) (fun _ => rfl) (.inl rfl) (by decide) h0 h1
theorem s109 {i : Int} (v : Int) (h0 : 0 ≤ i) (h1 : i < 9) : stI 0 (hp q G) 109 (jI i) (jI v) = some (hp q (up G 109 i v)) := hst (n := 9) (by decide) (fun _ => rfl) (.inl rfl) (by decide) h0 h1 rfl
theorem n109 : lnA (hp q G) 109 = some (jI 9) := hln (t := 0) (n := 9) (by omega) rfl (by decide)
theorem l110 {i : Int} (h0 : 0 ≤ i) (h1 : i < 40) : ldL (hp q G) 110 (jI i) = some (jL (G 110 i)) := hlL (n := 40) (by omega) rfl h0 h1 (by omega)
theorem s110 {i : Int} (v : Int) (h0 : 0 ≤ i) (h1 : i < 40) : stL (hp q G) 110 (jI i) (jL v) = some (hp q (up G 110 i v)) := hsL (n := 40) (by omega) rfl h0 h1 (by omega)
theorem n110 : lnA (hp q G) 110 = some (jI 40) := hln (t := 1) (n := 40) (by omega) rfl (by decide)
theorem l111 {i : Int} (h0 : 0 ≤ i) (h1 : i < 8) : ldI 0 (hp q G) 111 (jI i) = some (jI (G 111 i)) := hld (n := 8) (by decide) (fun _ => rfl) (.inl rfl) (by decide) h0 h1
theorem s111 {i : Int} (v : Int) (h0 : 0 ≤ i) (h1 : i < 8) : stI 0 (hp q G) 111 (jI i) (jI v) = some (hp q (up G 111 i v)) := hst (n := 8) (by decide) (fun _ => rfl) (.inl rfl) (by decide) h0 h1 rfl
theorem n111 : lnA (hp q G) 111 = some (jI 8) := hln (t := 0) (n := 8) (by omega) rfl (by decide)
theorem l112 {i : Int} (h0 : 0 ≤ i) (h1 : i < 8) : ldI 0 (hp q G) 112 (jI i) = some (jI (G 112 i)) := hld (n := 8) (by decide) (fun _ => rfl) (.inl rfl) (by decide) h0 h1
theorem s112 {i : Int} (v : Int) (h0 : 0 ≤ i) (h1 : i < 8) : stI 0 (hp q G) 112 (jI i) (jI v) = some (hp q (up G 112 i v)) := hst (n := 8) (by decide) (fun _ => rfl) (.inl rfl) (by decide) h0 h1 rfl
theorem n112 : lnA (hp q G) 112 = some (jI 8) := hln (t := 0) (n := 8) (by omega) rfl (by decide)
theorem l113 {i : Int} (h0 : 0 ≤ i) (h1 : i < 8) : ldI 0 (hp q G) 113 (jI i) = some (jI (G 113 i)) := hld (n := 8) (by decide) (fun _ => rfl) (.inl rfl) (by decide) h0 h1
theorem s113 {i : Int} (v : Int) (h0 : 0 ≤ i) (h1 : i < 8) : stI 0 (hp q G) 113 (jI i) (jI v) = some (hp q (up G 113 i v)) := hst (n := 8) (by decide) (fun _ => rfl) (.inl rfl) (by decide) h0 h1 rfl
theorem n113 : lnA (hp q G) 113 = some (jI 8) := hln (t := 0) (n := 8) (by omega) rfl (by decide)
theorem l114 {i : Int} (h0 : 0 ≤ i) (h1 : i < 608000) : ldI 0 (hp q G) 114 (jI i) = some (jI (G 114 i)) := hld (n := 608000) (by decide) (fun _ => rfl) (.inl rfl) (by decide) h0 h1
theorem s114 {i : Int} (v : Int) (h0 : 0 ≤ i) (h1 : i < 608000) : stI 0 (hp q G) 114 (jI i) (jI v) = some (hp q (up G 114 i v)) := hst (n := 608000) (by decide) (fun _ => rfl) (.inl rfl) (by decide) h0 h1 rfl
theorem n114 : lnA (hp q G) 114 = some (jI 608000) := hln (t := 0) (n := 608000) (by omega) rfl (by decide)
theorem l115 {i : Int} (h0 : 0 ≤ i) (h1 : i < 40) : ldI 0 (hp q G) 115 (jI i) = some (jI (G 115 i)) := hld (n := 40) (by decide) (fun _ => rfl) (.inl rfl) (by decide) h0 h1
theorem s115 {i : Int} (v : Int) (h0 : 0 ≤ i) (h1 : i < 40) : stI 0 (hp q G) 115 (jI i) (jI v) = some (hp q (up G 115 i v)) := hst (n := 40) (by decide) (fun _ => rfl) (.inl rfl) (by decide) h0 h1 rfl
theorem n115 : lnA (hp q G) 115 = some (jI 40) := hln (t := 0) (n := 40) (by omega) rfl (by decide)
theorem l116 {i : Int} (h0 : 0 ≤ i) (h1 : i < 8) : ldI 0 (hp q G) 116 (jI i) = some (jI (G 116 i)) := hld (n := 8) (by decide) (fun _ => rfl) (.inl rfl) (by decide) h0 h1
theorem s116 {i : Int} (v : Int) (h0 : 0 ≤ i) (h1 : i < 8) : stI 0 (hp q G) 116 (jI i) (jI v) = some (hp q (up G 116 i v)) := hst (n := 8) (by decide) (fun _ => rfl) (.inl rfl) (by decide) h0 h1 rfl
theorem n116 : lnA (hp q G) 116 = some (jI 8) := hln (t := 0) (n := 8) (by omega) rfl (by decide)
theorem l117 {i : Int} (h0 : 0 ≤ i) (h1 : i < 4) : ldI 0 (hp q G) 117 (jI i) = some (jI (G 117 i)) := hld (n := 4) (by decide) (fun _ => rfl) (.inl rfl) (by decide) h0 h1
theorem s117 {i : Int} (v : Int) (h0 : 0 ≤ i) (h1 : i < 4) : stI 0 (hp q G) 117 (jI i) (jI v) = some (hp q (up G 117 i v)) := hst (n := 4) (by decide) (fun _ => rfl) (.inl rfl) (by decide) h0 h1 rfl
theorem n117 : lnA (hp q G) 117 = some (jI 4) := hln (t := 0) (n := 4) (by omega) rfl (by decide)
theorem l118 {i : Int} (h0 : 0 ≤ i) (h1 : i < 4) : ldI 0 (hp q G) 118 (jI i) = some (jI (G 118 i)) := hld (n := 4) (by decide) (fun _ => rfl) (.inl rfl) (by decide) h0 h1
theorem s118 {i : Int} (v : Int) (h0 : 0 ≤ i) (h1 : i < 4) : stI 0 (hp q G) 118 (jI i) (jI v) = some (hp q (up G 118 i v)) := hst (n := 4) (by decide) (fun _ => rfl) (.inl rfl) (by decide) h0 h1 rfl
theorem n118 : lnA (hp q G) 118 = some (jI 4) := hln (t := 0) (n := 4) (by omega) rfl (by decide)
theorem l119 {i : Int} (h0 : 0 ≤ i) (h1 : i < 160) : ldL (hp q G) 119 (jI i) = some (jL (G 119 i)) := hlL (n := 160) (by omega) rfl h0 h1 (by omega)
theorem s119 {i : Int} (v : Int) (h0 : 0 ≤ i) (h1 : i < 160) : stL (hp q G) 119 (jI i) (jL v) = some (hp q (up G 119 i v)) := hsL (n := 160) (by omega) rfl h0 h1 (by omega)
theorem n119 : lnA (hp q G) 119 = some (jI 160) := hln (t := 1) (n := 160) (by omega) rfl (by decide)
end
