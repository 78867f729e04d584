/-! CONSTRUCTORS: what the objects of each class lay down (printed by wip/whole/gen_init.py) -/
def BX0 (a : Nat) : List mE := [.inr (0, [.int 0, .int 0, .int 0, .int 0, .int (jI 2), .int (jI 100), .int 0, .ref (a + 1), .ref (a + 2), .ref (a + 3)]), .inl (0, 24, zrA 0), .inl (0, 88, zrA 0), .inl (0, 24, zrA 0)]
theorem bh_X0 {N : Nat} {h : mH} : f_X0_init N h.1 (nwO h 0) = some (adB h (BX0 h.1) 146) := by
  have e0 : nwO h 0 = adB h [.inr (0, [.int 0, .int 0, .int 0, .int 0, .int 0, .int 0, .int 0, .null, .null, .null])] 10 := nwO_h
  unfold f_X0_init
  rw [e0]
  refine bs (v := adB h [.inr (0, [.int 0, .int 0, .int 0, .int 0, .int 0, .int 0, .int 0, .null, .null, .null]), .inl (0, 24, zrA 0)] 34) (nwA_ad (by decide)) ?_
  refine bs (v := adB h [.inr (0, [.int 0, .int 0, .int 0, .int 0, .int 0, .int 0, .int 0, .ref (h.1 + 1), .null, .null]), .inl (0, 24, zrA 0)] 34) (pV0_ad rfl) ?_
  refine bs (v := adB h [.inr (0, [.int 0, .int 0, .int 0, .int 0, .int 0, .int 0, .int 0, .ref (h.1 + 1), .null, .null]), .inl (0, 24, zrA 0), .inl (0, 88, zrA 0)] 122) (nwA_ad (by decide)) ?_
  refine bs (v := adB h [.inr (0, [.int 0, .int 0, .int 0, .int 0, .int 0, .int 0, .int 0, .ref (h.1 + 1), .ref (h.1 + 2), .null]), .inl (0, 24, zrA 0), .inl (0, 88, zrA 0)] 122) (pV0_ad rfl) ?_
  refine bs (v := adB h [.inr (0, [.int 0, .int 0, .int 0, .int 0, .int 0, .int 0, .int 0, .ref (h.1 + 1), .ref (h.1 + 2), .null]), .inl (0, 24, zrA 0), .inl (0, 88, zrA 0), .inl (0, 24, zrA 0)] 146) (nwA_ad (by decide)) ?_
  refine bs (v := adB h [.inr (0, [.int 0, .int 0, .int 0, .int 0, .int 0, .int 0, .int 0, .ref (h.1 + 1), .ref (h.1 + 2), .ref (h.1 + 3)]), .inl (0, 24, zrA 0), .inl (0, 88, zrA 0), .inl (0, 24, zrA 0)] 146) (pV0_ad rfl) ?_
  refine bs (v := adB h [.inr (0, [.int 0, .int 0, .int 0, .int 0, .int (jI 2), .int 0, .int 0, .ref (h.1 + 1), .ref (h.1 + 2), .ref (h.1 + 3)]), .inl (0, 24, zrA 0), .inl (0, 88, zrA 0), .inl (0, 24, zrA 0)] 146) (pV0_ad rfl) ?_
  refine bs (v := adB h [.inr (0, [.int 0, .int 0, .int 0, .int 0, .int (jI 2), .int (jI 100), .int 0, .ref (h.1 + 1), .ref (h.1 + 2), .ref (h.1 + 3)]), .inl (0, 24, zrA 0), .inl (0, 88, zrA 0), .inl (0, 24, zrA 0)] 146) (pV0_ad rfl) ?_
  rfl
theorem bl_X0 {a : Nat} : (BX0 a).length = 4 := rfl
theorem b_X0 {N m s : Nat} {h : mH} {e : mE} {r : List mE} (hm : r.length = m) : f_X0_init N (adB h (e :: r) s).1 (nwO (adB h (e :: r) s) 0) = some (adB h (e :: (r ++ BX0 (h.1 + (m + 1)))) (s + 146)) := by
  rw [bh_X0, ad_ad, nxt hm]
  rfl
def BX6 (a : Nat) : List mE := [.inr (6, [.int 0, .ref (a + 1), .ref (a + 2), .ref (a + 3)]), .inl (0, 8, zrA 0), .inl (0, 8, zrA 0), .inl (0, 8, zrA 0)]
theorem bh_X6 {N : Nat} {h : mH} : f_X6_init N h.1 (nwO h 6) = some (adB h (BX6 h.1) 28) := by
  have e0 : nwO h 6 = adB h [.inr (6, [.int 0, .null, .null, .null])] 4 := nwO_h
  unfold f_X6_init
  rw [e0]
  refine bs (v := adB h [.inr (6, [.int 0, .null, .null, .null]), .inl (0, 8, zrA 0)] 12) (nwA_ad (by decide)) ?_
  refine bs (v := adB h [.inr (6, [.int 0, .ref (h.1 + 1), .null, .null]), .inl (0, 8, zrA 0)] 12) (pV0_ad rfl) ?_
  refine bs (v := adB h [.inr (6, [.int 0, .ref (h.1 + 1), .null, .null]), .inl (0, 8, zrA 0), .inl (0, 8, zrA 0)] 20) (nwA_ad (by decide)) ?_
  refine bs (v := adB h [.inr (6, [.int 0, .ref (h.1 + 1), .ref (h.1 + 2), .null]), .inl (0, 8, zrA 0), .inl (0, 8, zrA 0)] 20) (pV0_ad rfl) ?_
  refine bs (v := adB h [.inr (6, [.int 0, .ref (h.1 + 1), .ref (h.1 + 2), .null]), .inl (0, 8, zrA 0), .inl (0, 8, zrA 0), .inl (0, 8, zrA 0)] 28) (nwA_ad (by decide)) ?_
  refine bs (v := adB h [.inr (6, [.int 0, .ref (h.1 + 1), .ref (h.1 + 2), .ref (h.1 + 3)]), .inl (0, 8, zrA 0), .inl (0, 8, zrA 0), .inl (0, 8, zrA 0)] 28) (pV0_ad rfl) ?_
  rfl
theorem bl_X6 {a : Nat} : (BX6 a).length = 4 := rfl
theorem b_X6 {N m s : Nat} {h : mH} {e : mE} {r : List mE} (hm : r.length = m) : f_X6_init N (adB h (e :: r) s).1 (nwO (adB h (e :: r) s) 6) = some (adB h (e :: (r ++ BX6 (h.1 + (m + 1)))) (s + 28)) := by
  rw [bh_X6, ad_ad, nxt hm]
  rfl
def BX3 (a : Nat) : List mE := [.inr (3, [.ref (a + 1), .ref (a + 2)]), .inl (0, 8, .inl (fun k => if k < 8 then jI (-1) else 0)), .inl (0, 8, .inl (fun k => if k < 8 then jI (-1) else 0))]
theorem bh_X3 {N : Nat} {h : mH} (hN : 10000 ≤ N) : f_X3_init N h.1 (nwO h 3) = some (adB h (BX3 h.1) 18) := by
  have e0 : nwO h 3 = adB h [.inr (3, [.null, .null])] 2 := nwO_h
  unfold f_X3_init
  rw [e0]
  refine bs (v := adB h [.inr (3, [.null, .null]), .inl (0, 8, zrA 0)] 10) (nwA_ad (by decide)) ?_
  refine bs (v := adB h [.inr (3, [.ref (h.1 + 1), .null]), .inl (0, 8, zrA 0)] 10) (pV0_ad rfl) ?_
  refine bs (v := adB h [.inr (3, [.ref (h.1 + 1), .null]), .inl (0, 8, zrA 0), .inl (0, 8, zrA 0)] 18) (nwA_ad (by decide)) ?_
  refine bs (v := adB h [.inr (3, [.ref (h.1 + 1), .ref (h.1 + 2)]), .inl (0, 8, zrA 0), .inl (0, 8, zrA 0)] 18) (pV0_ad rfl) ?_
  refine bs (v := h.1 + 1) (gR0_ad rfl) ?_
  refine bs (v := adB h [.inr (3, [.ref (h.1 + 1), .ref (h.1 + 2)]), .inl (0, 8, .inl (fun k => if k < 8 then jI (-1) else 0)), .inl (0, 8, zrA 0)] 18) (fill_ad (i := 1) (n := 8) (f := fun _ => 0) hN rfl (by decide)) ?_
  refine bs (v := h.1 + 2) (gR0_ad rfl) ?_
  refine bs (v := adB h [.inr (3, [.ref (h.1 + 1), .ref (h.1 + 2)]), .inl (0, 8, .inl (fun k => if k < 8 then jI (-1) else 0)), .inl (0, 8, .inl (fun k => if k < 8 then jI (-1) else 0))] 18) (fill_ad (i := 2) (n := 8) (f := fun _ => 0) hN rfl (by decide)) ?_
  rfl
theorem bl_X3 {a : Nat} : (BX3 a).length = 3 := rfl
theorem b_X3 {N m s : Nat} {h : mH} {e : mE} {r : List mE} (hN : 10000 ≤ N) (hm : r.length = m) : f_X3_init N (adB h (e :: r) s).1 (nwO (adB h (e :: r) s) 3) = some (adB h (e :: (r ++ BX3 (h.1 + (m + 1)))) (s + 18)) := by
  rw [bh_X3 hN, ad_ad, nxt hm]
  rfl
def BX5 (a : Nat) : List mE := [.inr (5, [.int (jI (-1)), .int 0, .ref (a + 1)]), .inl (1, 40, zrA 1)]
theorem bh_X5 {N : Nat} {h : mH} : f_X5_init N h.1 (nwO h 5) = some (adB h (BX5 h.1) 43) := by
  have e0 : nwO h 5 = adB h [.inr (5, [.int 0, .int 0, .null])] 3 := nwO_h
  unfold f_X5_init
  rw [e0]
  refine bs (v := adB h [.inr (5, [.int 0, .int 0, .null]), .inl (1, 40, zrA 1)] 43) (nwA_ad (by decide)) ?_
  refine bs (v := adB h [.inr (5, [.int 0, .int 0, .ref (h.1 + 1)]), .inl (1, 40, zrA 1)] 43) (pV0_ad rfl) ?_
  refine bs (v := adB h [.inr (5, [.int (jI (-1)), .int 0, .ref (h.1 + 1)]), .inl (1, 40, zrA 1)] 43) (pV0_ad rfl) ?_
  rfl
theorem bl_X5 {a : Nat} : (BX5 a).length = 2 := rfl
theorem b_X5 {N m s : Nat} {h : mH} {e : mE} {r : List mE} (hm : r.length = m) : f_X5_init N (adB h (e :: r) s).1 (nwO (adB h (e :: r) s) 5) = some (adB h (e :: (r ++ BX5 (h.1 + (m + 1)))) (s + 43)) := by
  rw [bh_X5, ad_ad, nxt hm]
  rfl
theorem bq_X5 {N m m1 s s1 : Nat} {h : mH} {e : mE} {P Q Q' : List mE} (hm : (P ++ Q).length = m) (hm1 : m + 1 = m1) (hs : s + 43 = s1) (hQ : Q ++ BX5 (h.1 + m1) = Q') : f_X5_init N (adB h (e :: (P ++ Q)) s).1 (nwO (adB h (e :: (P ++ Q)) s) 5) = some (adB h (e :: (P ++ Q')) s1) := by
  rw [b_X5 hm, List.append_assoc, hm1, hs, hQ]
def BX2 (a : Nat) : List mE := [.inr (2, [.int 0, .int 0, .int 0, .ref (a + 1), .ref (a + 2), .ref (a + 3)]), .inl (0, 8, zrA 0), .inl (0, 8, zrA 0), .inl (0, 8, zrA 0)]
theorem bh_X2 {N : Nat} {h : mH} : f_X2_init N h.1 (nwO h 2) = some (adB h (BX2 h.1) 30) := by
  have e0 : nwO h 2 = adB h [.inr (2, [.int 0, .int 0, .int 0, .null, .null, .null])] 6 := nwO_h
  unfold f_X2_init
  rw [e0]
  refine bs (v := adB h [.inr (2, [.int 0, .int 0, .int 0, .null, .null, .null]), .inl (0, 8, zrA 0)] 14) (nwA_ad (by decide)) ?_
  refine bs (v := adB h [.inr (2, [.int 0, .int 0, .int 0, .ref (h.1 + 1), .null, .null]), .inl (0, 8, zrA 0)] 14) (pV0_ad rfl) ?_
  refine bs (v := adB h [.inr (2, [.int 0, .int 0, .int 0, .ref (h.1 + 1), .null, .null]), .inl (0, 8, zrA 0), .inl (0, 8, zrA 0)] 22) (nwA_ad (by decide)) ?_
  refine bs (v := adB h [.inr (2, [.int 0, .int 0, .int 0, .ref (h.1 + 1), .ref (h.1 + 2), .null]), .inl (0, 8, zrA 0), .inl (0, 8, zrA 0)] 22) (pV0_ad rfl) ?_
  refine bs (v := adB h [.inr (2, [.int 0, .int 0, .int 0, .ref (h.1 + 1), .ref (h.1 + 2), .null]), .inl (0, 8, zrA 0), .inl (0, 8, zrA 0), .inl (0, 8, zrA 0)] 30) (nwA_ad (by decide)) ?_
  refine bs (v := adB h [.inr (2, [.int 0, .int 0, .int 0, .ref (h.1 + 1), .ref (h.1 + 2), .ref (h.1 + 3)]), .inl (0, 8, zrA 0), .inl (0, 8, zrA 0), .inl (0, 8, zrA 0)] 30) (pV0_ad rfl) ?_
  rfl
theorem bl_X2 {a : Nat} : (BX2 a).length = 4 := rfl
theorem b_X2 {N m s : Nat} {h : mH} {e : mE} {r : List mE} (hm : r.length = m) : f_X2_init N (adB h (e :: r) s).1 (nwO (adB h (e :: r) s) 2) = some (adB h (e :: (r ++ BX2 (h.1 + (m + 1)))) (s + 30)) := by
  rw [bh_X2, ad_ad, nxt hm]
  rfl
def BX7 (a : Nat) : List mE := [.inr (7, [.ref (a + 1), .ref (a + 2)]), .inl (0, 9, zrA 0), .inl (0, 40, zrA 0)]
theorem bh_X7 {N : Nat} {h : mH} : f_X7_init N h.1 (nwO h 7) = some (adB h (BX7 h.1) 51) := by
  have e0 : nwO h 7 = adB h [.inr (7, [.null, .null])] 2 := nwO_h
  unfold f_X7_init
  rw [e0]
  refine bs (v := adB h [.inr (7, [.null, .null]), .inl (0, 9, zrA 0)] 11) (nwA_ad (by decide)) ?_
  refine bs (v := adB h [.inr (7, [.ref (h.1 + 1), .null]), .inl (0, 9, zrA 0)] 11) (pV0_ad rfl) ?_
  refine bs (v := adB h [.inr (7, [.ref (h.1 + 1), .null]), .inl (0, 9, zrA 0), .inl (0, 40, zrA 0)] 51) (nwA_ad (by decide)) ?_
  refine bs (v := adB h [.inr (7, [.ref (h.1 + 1), .ref (h.1 + 2)]), .inl (0, 9, zrA 0), .inl (0, 40, zrA 0)] 51) (pV0_ad rfl) ?_
  rfl
theorem bl_X7 {a : Nat} : (BX7 a).length = 3 := rfl
theorem b_X7 {N m s : Nat} {h : mH} {e : mE} {r : List mE} (hm : r.length = m) : f_X7_init N (adB h (e :: r) s).1 (nwO (adB h (e :: r) s) 7) = some (adB h (e :: (r ++ BX7 (h.1 + (m + 1)))) (s + 51)) := by
  rw [bh_X7, ad_ad, nxt hm]
  rfl
def BX8 (a : Nat) : List mE := [.inr (8, [.int 0, .int (jI (-1)), .ref (a + 1), .int 0, .int 0, .int 0, .int 0, .int 0]), .inl (2, 0, zrA 2)]
theorem bh_X8 {N : Nat} {h : mH} : f_X8_init N h.1 (nwO h 8) = some (adB h (BX8 h.1) 8) := by
  have e0 : nwO h 8 = adB h [.inr (8, [.int 0, .int 0, .null, .int 0, .int 0, .int 0, .int 0, .int 0])] 8 := nwO_h
  unfold f_X8_init
  rw [e0]
  refine bs (v := adB h [.inr (8, [.int 0, .int (jI (-1)), .null, .int 0, .int 0, .int 0, .int 0, .int 0])] 8) (pV0_ad rfl) ?_
  refine bs (v := adB h [.inr (8, [.int 0, .int (jI (-1)), .null, .int 0, .int 0, .int 0, .int 0, .int 0]), .inl (2, 0, zrA 2)] 8) (nwA_ad (by decide)) ?_
  refine bs (v := adB h [.inr (8, [.int 0, .int (jI (-1)), .ref (h.1 + 1), .int 0, .int 0, .int 0, .int 0, .int 0]), .inl (2, 0, zrA 2)] 8) (pV0_ad rfl) ?_
  rfl
theorem bl_X8 {a : Nat} : (BX8 a).length = 2 := rfl
theorem b_X8 {N m s : Nat} {h : mH} {e : mE} {r : List mE} (hm : r.length = m) : f_X8_init N (adB h (e :: r) s).1 (nwO (adB h (e :: r) s) 8) = some (adB h (e :: (r ++ BX8 (h.1 + (m + 1)))) (s + 8)) := by
  rw [bh_X8, ad_ad, nxt hm]
  rfl
def BX9 (a : Nat) : List mE := [.inr (9, [.ref (a + 1), .ref (a + 2), .ref (a + 3), .ref (a + 4), .ref (a + 5), .ref (a + 6), .ref (a + 7), .int 0, .int 0, .int 0, .int 0]), .inl (0, 8, zrA 0), .inl (0, 8, zrA 0), .inl (0, 8, zrA 0), .inl (0, 8, zrA 0), .inl (0, 5, zrA 0), .inl (0, 10, zrA 0), .inl (0, 16, zrA 0)]
theorem bh_X9 {N : Nat} {h : mH} : f_X9_init N h.1 (nwO h 9) = some (adB h (BX9 h.1) 74) := by
  have e0 : nwO h 9 = adB h [.inr (9, [.null, .null, .null, .null, .null, .null, .null, .int 0, .int 0, .int 0, .int 0])] 11 := nwO_h
  unfold f_X9_init
  rw [e0]
  refine bs (v := adB h [.inr (9, [.null, .null, .null, .null, .null, .null, .null, .int 0, .int 0, .int 0, .int 0]), .inl (0, 8, zrA 0)] 19) (nwA_ad (by decide)) ?_
  refine bs (v := adB h [.inr (9, [.ref (h.1 + 1), .null, .null, .null, .null, .null, .null, .int 0, .int 0, .int 0, .int 0]), .inl (0, 8, zrA 0)] 19) (pV0_ad rfl) ?_
  refine bs (v := adB h [.inr (9, [.ref (h.1 + 1), .null, .null, .null, .null, .null, .null, .int 0, .int 0, .int 0, .int 0]), .inl (0, 8, zrA 0), .inl (0, 8, zrA 0)] 27) (nwA_ad (by decide)) ?_
  refine bs (v := adB h [.inr (9, [.ref (h.1 + 1), .ref (h.1 + 2), .null, .null, .null, .null, .null, .int 0, .int 0, .int 0, .int 0]), .inl (0, 8, zrA 0), .inl (0, 8, zrA 0)] 27) (pV0_ad rfl) ?_
  refine bs (v := adB h [.inr (9, [.ref (h.1 + 1), .ref (h.1 + 2), .null, .null, .null, .null, .null, .int 0, .int 0, .int 0, .int 0]), .inl (0, 8, zrA 0), .inl (0, 8, zrA 0), .inl (0, 8, zrA 0)] 35) (nwA_ad (by decide)) ?_
  refine bs (v := adB h [.inr (9, [.ref (h.1 + 1), .ref (h.1 + 2), .ref (h.1 + 3), .null, .null, .null, .null, .int 0, .int 0, .int 0, .int 0]), .inl (0, 8, zrA 0), .inl (0, 8, zrA 0), .inl (0, 8, zrA 0)] 35) (pV0_ad rfl) ?_
  refine bs (v := adB h [.inr (9, [.ref (h.1 + 1), .ref (h.1 + 2), .ref (h.1 + 3), .null, .null, .null, .null, .int 0, .int 0, .int 0, .int 0]), .inl (0, 8, zrA 0), .inl (0, 8, zrA 0), .inl (0, 8, zrA 0), .inl (0, 8, zrA 0)] 43) (nwA_ad (by decide)) ?_
  refine bs (v := adB h [.inr (9, [.ref (h.1 + 1), .ref (h.1 + 2), .ref (h.1 + 3), .ref (h.1 + 4), .null, .null, .null, .int 0, .int 0, .int 0, .int 0]), .inl (0, 8, zrA 0), .inl (0, 8, zrA 0), .inl (0, 8, zrA 0), .inl (0, 8, zrA 0)] 43) (pV0_ad rfl) ?_
  refine bs (v := adB h [.inr (9, [.ref (h.1 + 1), .ref (h.1 + 2), .ref (h.1 + 3), .ref (h.1 + 4), .null, .null, .null, .int 0, .int 0, .int 0, .int 0]), .inl (0, 8, zrA 0), .inl (0, 8, zrA 0), .inl (0, 8, zrA 0), .inl (0, 8, zrA 0), .inl (0, 5, zrA 0)] 48) (nwA_ad (by decide)) ?_
  refine bs (v := adB h [.inr (9, [.ref (h.1 + 1), .ref (h.1 + 2), .ref (h.1 + 3), .ref (h.1 + 4), .ref (h.1 + 5), .null, .null, .int 0, .int 0, .int 0, .int 0]), .inl (0, 8, zrA 0), .inl (0, 8, zrA 0), .inl (0, 8, zrA 0), .inl (0, 8, zrA 0), .inl (0, 5, zrA 0)] 48) (pV0_ad rfl) ?_
  refine bs (v := adB h [.inr (9, [.ref (h.1 + 1), .ref (h.1 + 2), .ref (h.1 + 3), .ref (h.1 + 4), .ref (h.1 + 5), .null, .null, .int 0, .int 0, .int 0, .int 0]), .inl (0, 8, zrA 0), .inl (0, 8, zrA 0), .inl (0, 8, zrA 0), .inl (0, 8, zrA 0), .inl (0, 5, zrA 0), .inl (0, 10, zrA 0)] 58) (nwA_ad (by decide)) ?_
  refine bs (v := adB h [.inr (9, [.ref (h.1 + 1), .ref (h.1 + 2), .ref (h.1 + 3), .ref (h.1 + 4), .ref (h.1 + 5), .ref (h.1 + 6), .null, .int 0, .int 0, .int 0, .int 0]), .inl (0, 8, zrA 0), .inl (0, 8, zrA 0), .inl (0, 8, zrA 0), .inl (0, 8, zrA 0), .inl (0, 5, zrA 0), .inl (0, 10, zrA 0)] 58) (pV0_ad rfl) ?_
  refine bs (v := adB h [.inr (9, [.ref (h.1 + 1), .ref (h.1 + 2), .ref (h.1 + 3), .ref (h.1 + 4), .ref (h.1 + 5), .ref (h.1 + 6), .null, .int 0, .int 0, .int 0, .int 0]), .inl (0, 8, zrA 0), .inl (0, 8, zrA 0), .inl (0, 8, zrA 0), .inl (0, 8, zrA 0), .inl (0, 5, zrA 0), .inl (0, 10, zrA 0), .inl (0, 16, zrA 0)] 74) (nwA_ad (by decide)) ?_
  refine bs (v := adB h [.inr (9, [.ref (h.1 + 1), .ref (h.1 + 2), .ref (h.1 + 3), .ref (h.1 + 4), .ref (h.1 + 5), .ref (h.1 + 6), .ref (h.1 + 7), .int 0, .int 0, .int 0, .int 0]), .inl (0, 8, zrA 0), .inl (0, 8, zrA 0), .inl (0, 8, zrA 0), .inl (0, 8, zrA 0), .inl (0, 5, zrA 0), .inl (0, 10, zrA 0), .inl (0, 16, zrA 0)] 74) (pV0_ad rfl) ?_
  rfl
theorem bl_X9 {a : Nat} : (BX9 a).length = 8 := rfl
theorem b_X9 {N m s : Nat} {h : mH} {e : mE} {r : List mE} (hm : r.length = m) : f_X9_init N (adB h (e :: r) s).1 (nwO (adB h (e :: r) s) 9) = some (adB h (e :: (r ++ BX9 (h.1 + (m + 1)))) (s + 74)) := by
  rw [bh_X9, ad_ad, nxt hm]
  rfl
def BX10 (a x : Nat) : List mE := [.inr (10, [.ref x, .ref (a + 1), .ref (a + 2), .ref (a + 3), .ref (a + 4), .int 0]), .inl (0, 1280, zrA 0), .inl (0, 4, zrA 0), .inl (0, 4, zrA 0), .inl (0, 6, zrA 0)]
theorem bh_X10 {N : Nat} {h : mH} {x : Nat} : f_X10_init N h.1 x (nwO h 10) = some (adB h (BX10 h.1 x) 1300) := by
  have e0 : nwO h 10 = adB h [.inr (10, [.null, .null, .null, .null, .null, .int 0])] 6 := nwO_h
  unfold f_X10_init
  rw [e0]
  refine bs (v := adB h [.inr (10, [.null, .null, .null, .null, .null, .int 0]), .inl (0, 1280, zrA 0)] 1286) (nwA_ad (by decide)) ?_
  refine bs (v := adB h [.inr (10, [.null, .ref (h.1 + 1), .null, .null, .null, .int 0]), .inl (0, 1280, zrA 0)] 1286) (pV0_ad rfl) ?_
  refine bs (v := adB h [.inr (10, [.null, .ref (h.1 + 1), .null, .null, .null, .int 0]), .inl (0, 1280, zrA 0), .inl (0, 4, zrA 0)] 1290) (nwA_ad (by decide)) ?_
  refine bs (v := adB h [.inr (10, [.null, .ref (h.1 + 1), .ref (h.1 + 2), .null, .null, .int 0]), .inl (0, 1280, zrA 0), .inl (0, 4, zrA 0)] 1290) (pV0_ad rfl) ?_
  refine bs (v := adB h [.inr (10, [.null, .ref (h.1 + 1), .ref (h.1 + 2), .null, .null, .int 0]), .inl (0, 1280, zrA 0), .inl (0, 4, zrA 0), .inl (0, 4, zrA 0)] 1294) (nwA_ad (by decide)) ?_
  refine bs (v := adB h [.inr (10, [.null, .ref (h.1 + 1), .ref (h.1 + 2), .ref (h.1 + 3), .null, .int 0]), .inl (0, 1280, zrA 0), .inl (0, 4, zrA 0), .inl (0, 4, zrA 0)] 1294) (pV0_ad rfl) ?_
  refine bs (v := adB h [.inr (10, [.null, .ref (h.1 + 1), .ref (h.1 + 2), .ref (h.1 + 3), .null, .int 0]), .inl (0, 1280, zrA 0), .inl (0, 4, zrA 0), .inl (0, 4, zrA 0), .inl (0, 6, zrA 0)] 1300) (nwA_ad (by decide)) ?_
  refine bs (v := adB h [.inr (10, [.null, .ref (h.1 + 1), .ref (h.1 + 2), .ref (h.1 + 3), .ref (h.1 + 4), .int 0]), .inl (0, 1280, zrA 0), .inl (0, 4, zrA 0), .inl (0, 4, zrA 0), .inl (0, 6, zrA 0)] 1300) (pV0_ad rfl) ?_
  refine bs (v := adB h [.inr (10, [.ref x, .ref (h.1 + 1), .ref (h.1 + 2), .ref (h.1 + 3), .ref (h.1 + 4), .int 0]), .inl (0, 1280, zrA 0), .inl (0, 4, zrA 0), .inl (0, 4, zrA 0), .inl (0, 6, zrA 0)] 1300) (pV0_ad rfl) ?_
  rfl
theorem bl_X10 {a x : Nat} : (BX10 a x).length = 5 := rfl
theorem b_X10 {N m s : Nat} {h : mH} {e : mE} {r : List mE} {x : Nat} (hm : r.length = m) : f_X10_init N (adB h (e :: r) s).1 x (nwO (adB h (e :: r) s) 10) = some (adB h (e :: (r ++ BX10 (h.1 + (m + 1)) x)) (s + 1300)) := by
  rw [bh_X10, ad_ad, nxt hm]
  rfl
def BX1 (a : Nat) : List mE := [.inr (1, [.int 0, .int 0, .int 0, .int 0, .ref (a + 1), .ref (a + 2), .ref (a + 3), .ref (a + 4), .ref (a + 5), .ref (a + 6), .ref (a + 7), .ref (a + 8), .ref (a + 9), .ref (a + 10), .ref (a + 11), .ref (a + 12), .long 0]), .inl (0, 8, zrA 0), .inl (0, 8, zrA 0), .inl (0, 8, zrA 0), .inl (0, 8, zrA 0), .inl (0, 8, zrA 0), .inl (0, 8, zrA 0), .inl (0, 19, zrA 0), .inl (0, 19, zrA 0), .inl (0, 19, zrA 0), .inl (0, 19, zrA 0), .inl (1, 0, zrA 1), .inl (1, 0, zrA 1)]
theorem bh_X1 {N : Nat} {h : mH} : f_X1_init N h.1 (nwO h 1) = some (adB h (BX1 h.1) 141) := by
  have e0 : nwO h 1 = adB h [.inr (1, [.int 0, .int 0, .int 0, .int 0, .null, .null, .null, .null, .null, .null, .null, .null, .null, .null, .null, .null, .long 0])] 17 := nwO_h
  unfold f_X1_init
  rw [e0]
  refine bs (v := adB h [.inr (1, [.int 0, .int 0, .int 0, .int 0, .null, .null, .null, .null, .null, .null, .null, .null, .null, .null, .null, .null, .long 0]), .inl (0, 8, zrA 0)] 25) (nwA_ad (by decide)) ?_
  refine bs (v := adB h [.inr (1, [.int 0, .int 0, .int 0, .int 0, .ref (h.1 + 1), .null, .null, .null, .null, .null, .null, .null, .null, .null, .null, .null, .long 0]), .inl (0, 8, zrA 0)] 25) (pV0_ad rfl) ?_
  refine bs (v := adB h [.inr (1, [.int 0, .int 0, .int 0, .int 0, .ref (h.1 + 1), .null, .null, .null, .null, .null, .null, .null, .null, .null, .null, .null, .long 0]), .inl (0, 8, zrA 0), .inl (0, 8, zrA 0)] 33) (nwA_ad (by decide)) ?_
  refine bs (v := adB h [.inr (1, [.int 0, .int 0, .int 0, .int 0, .ref (h.1 + 1), .ref (h.1 + 2), .null, .null, .null, .null, .null, .null, .null, .null, .null, .null, .long 0]), .inl (0, 8, zrA 0), .inl (0, 8, zrA 0)] 33) (pV0_ad rfl) ?_
  refine bs (v := adB h [.inr (1, [.int 0, .int 0, .int 0, .int 0, .ref (h.1 + 1), .ref (h.1 + 2), .null, .null, .null, .null, .null, .null, .null, .null, .null, .null, .long 0]), .inl (0, 8, zrA 0), .inl (0, 8, zrA 0), .inl (0, 8, zrA 0)] 41) (nwA_ad (by decide)) ?_
  refine bs (v := adB h [.inr (1, [.int 0, .int 0, .int 0, .int 0, .ref (h.1 + 1), .ref (h.1 + 2), .ref (h.1 + 3), .null, .null, .null, .null, .null, .null, .null, .null, .null, .long 0]), .inl (0, 8, zrA 0), .inl (0, 8, zrA 0), .inl (0, 8, zrA 0)] 41) (pV0_ad rfl) ?_
  refine bs (v := adB h [.inr (1, [.int 0, .int 0, .int 0, .int 0, .ref (h.1 + 1), .ref (h.1 + 2), .ref (h.1 + 3), .null, .null, .null, .null, .null, .null, .null, .null, .null, .long 0]), .inl (0, 8, zrA 0), .inl (0, 8, zrA 0), .inl (0, 8, zrA 0), .inl (0, 8, zrA 0)] 49) (nwA_ad (by decide)) ?_
  refine bs (v := adB h [.inr (1, [.int 0, .int 0, .int 0, .int 0, .ref (h.1 + 1), .ref (h.1 + 2), .ref (h.1 + 3), .ref (h.1 + 4), .null, .null, .null, .null, .null, .null, .null, .null, .long 0]), .inl (0, 8, zrA 0), .inl (0, 8, zrA 0), .inl (0, 8, zrA 0), .inl (0, 8, zrA 0)] 49) (pV0_ad rfl) ?_
  refine bs (v := adB h [.inr (1, [.int 0, .int 0, .int 0, .int 0, .ref (h.1 + 1), .ref (h.1 + 2), .ref (h.1 + 3), .ref (h.1 + 4), .null, .null, .null, .null, .null, .null, .null, .null, .long 0]), .inl (0, 8, zrA 0), .inl (0, 8, zrA 0), .inl (0, 8, zrA 0), .inl (0, 8, zrA 0), .inl (0, 8, zrA 0)] 57) (nwA_ad (by decide)) ?_
  refine bs (v := adB h [.inr (1, [.int 0, .int 0, .int 0, .int 0, .ref (h.1 + 1), .ref (h.1 + 2), .ref (h.1 + 3), .ref (h.1 + 4), .ref (h.1 + 5), .null, .null, .null, .null, .null, .null, .null, .long 0]), .inl (0, 8, zrA 0), .inl (0, 8, zrA 0), .inl (0, 8, zrA 0), .inl (0, 8, zrA 0), .inl (0, 8, zrA 0)] 57) (pV0_ad rfl) ?_
  refine bs (v := adB h [.inr (1, [.int 0, .int 0, .int 0, .int 0, .ref (h.1 + 1), .ref (h.1 + 2), .ref (h.1 + 3), .ref (h.1 + 4), .ref (h.1 + 5), .null, .null, .null, .null, .null, .null, .null, .long 0]), .inl (0, 8, zrA 0), .inl (0, 8, zrA 0), .inl (0, 8, zrA 0), .inl (0, 8, zrA 0), .inl (0, 8, zrA 0), .inl (0, 8, zrA 0)] 65) (nwA_ad (by decide)) ?_
  refine bs (v := adB h [.inr (1, [.int 0, .int 0, .int 0, .int 0, .ref (h.1 + 1), .ref (h.1 + 2), .ref (h.1 + 3), .ref (h.1 + 4), .ref (h.1 + 5), .ref (h.1 + 6), .null, .null, .null, .null, .null, .null, .long 0]), .inl (0, 8, zrA 0), .inl (0, 8, zrA 0), .inl (0, 8, zrA 0), .inl (0, 8, zrA 0), .inl (0, 8, zrA 0), .inl (0, 8, zrA 0)] 65) (pV0_ad rfl) ?_
  refine bs (v := adB h [.inr (1, [.int 0, .int 0, .int 0, .int 0, .ref (h.1 + 1), .ref (h.1 + 2), .ref (h.1 + 3), .ref (h.1 + 4), .ref (h.1 + 5), .ref (h.1 + 6), .null, .null, .null, .null, .null, .null, .long 0]), .inl (0, 8, zrA 0), .inl (0, 8, zrA 0), .inl (0, 8, zrA 0), .inl (0, 8, zrA 0), .inl (0, 8, zrA 0), .inl (0, 8, zrA 0), .inl (0, 19, zrA 0)] 84) (nwA_ad (by decide)) ?_
  refine bs (v := adB h [.inr (1, [.int 0, .int 0, .int 0, .int 0, .ref (h.1 + 1), .ref (h.1 + 2), .ref (h.1 + 3), .ref (h.1 + 4), .ref (h.1 + 5), .ref (h.1 + 6), .ref (h.1 + 7), .null, .null, .null, .null, .null, .long 0]), .inl (0, 8, zrA 0), .inl (0, 8, zrA 0), .inl (0, 8, zrA 0), .inl (0, 8, zrA 0), .inl (0, 8, zrA 0), .inl (0, 8, zrA 0), .inl (0, 19, zrA 0)] 84) (pV0_ad rfl) ?_
  refine bs (v := adB h [.inr (1, [.int 0, .int 0, .int 0, .int 0, .ref (h.1 + 1), .ref (h.1 + 2), .ref (h.1 + 3), .ref (h.1 + 4), .ref (h.1 + 5), .ref (h.1 + 6), .ref (h.1 + 7), .null, .null, .null, .null, .null, .long 0]), .inl (0, 8, zrA 0), .inl (0, 8, zrA 0), .inl (0, 8, zrA 0), .inl (0, 8, zrA 0), .inl (0, 8, zrA 0), .inl (0, 8, zrA 0), .inl (0, 19, zrA 0), .inl (0, 19, zrA 0)] 103) (nwA_ad (by decide)) ?_
  refine bs (v := adB h [.inr (1, [.int 0, .int 0, .int 0, .int 0, .ref (h.1 + 1), .ref (h.1 + 2), .ref (h.1 + 3), .ref (h.1 + 4), .ref (h.1 + 5), .ref (h.1 + 6), .ref (h.1 + 7), .ref (h.1 + 8), .null, .null, .null, .null, .long 0]), .inl (0, 8, zrA 0), .inl (0, 8, zrA 0), .inl (0, 8, zrA 0), .inl (0, 8, zrA 0), .inl (0, 8, zrA 0), .inl (0, 8, zrA 0), .inl (0, 19, zrA 0), .inl (0, 19, zrA 0)] 103) (pV0_ad rfl) ?_
  refine bs (v := adB h [.inr (1, [.int 0, .int 0, .int 0, .int 0, .ref (h.1 + 1), .ref (h.1 + 2), .ref (h.1 + 3), .ref (h.1 + 4), .ref (h.1 + 5), .ref (h.1 + 6), .ref (h.1 + 7), .ref (h.1 + 8), .null, .null, .null, .null, .long 0]), .inl (0, 8, zrA 0), .inl (0, 8, zrA 0), .inl (0, 8, zrA 0), .inl (0, 8, zrA 0), .inl (0, 8, zrA 0), .inl (0, 8, zrA 0), .inl (0, 19, zrA 0), .inl (0, 19, zrA 0), .inl (0, 19, zrA 0)] 122) (nwA_ad (by decide)) ?_
  refine bs (v := adB h [.inr (1, [.int 0, .int 0, .int 0, .int 0, .ref (h.1 + 1), .ref (h.1 + 2), .ref (h.1 + 3), .ref (h.1 + 4), .ref (h.1 + 5), .ref (h.1 + 6), .ref (h.1 + 7), .ref (h.1 + 8), .ref (h.1 + 9), .null, .null, .null, .long 0]), .inl (0, 8, zrA 0), .inl (0, 8, zrA 0), .inl (0, 8, zrA 0), .inl (0, 8, zrA 0), .inl (0, 8, zrA 0), .inl (0, 8, zrA 0), .inl (0, 19, zrA 0), .inl (0, 19, zrA 0), .inl (0, 19, zrA 0)] 122) (pV0_ad rfl) ?_
  refine bs (v := adB h [.inr (1, [.int 0, .int 0, .int 0, .int 0, .ref (h.1 + 1), .ref (h.1 + 2), .ref (h.1 + 3), .ref (h.1 + 4), .ref (h.1 + 5), .ref (h.1 + 6), .ref (h.1 + 7), .ref (h.1 + 8), .ref (h.1 + 9), .null, .null, .null, .long 0]), .inl (0, 8, zrA 0), .inl (0, 8, zrA 0), .inl (0, 8, zrA 0), .inl (0, 8, zrA 0), .inl (0, 8, zrA 0), .inl (0, 8, zrA 0), .inl (0, 19, zrA 0), .inl (0, 19, zrA 0), .inl (0, 19, zrA 0), .inl (0, 19, zrA 0)] 141) (nwA_ad (by decide)) ?_
  refine bs (v := adB h [.inr (1, [.int 0, .int 0, .int 0, .int 0, .ref (h.1 + 1), .ref (h.1 + 2), .ref (h.1 + 3), .ref (h.1 + 4), .ref (h.1 + 5), .ref (h.1 + 6), .ref (h.1 + 7), .ref (h.1 + 8), .ref (h.1 + 9), .ref (h.1 + 10), .null, .null, .long 0]), .inl (0, 8, zrA 0), .inl (0, 8, zrA 0), .inl (0, 8, zrA 0), .inl (0, 8, zrA 0), .inl (0, 8, zrA 0), .inl (0, 8, zrA 0), .inl (0, 19, zrA 0), .inl (0, 19, zrA 0), .inl (0, 19, zrA 0), .inl (0, 19, zrA 0)] 141) (pV0_ad rfl) ?_
  refine bs (v := adB h [.inr (1, [.int 0, .int 0, .int 0, .int 0, .ref (h.1 + 1), .ref (h.1 + 2), .ref (h.1 + 3), .ref (h.1 + 4), .ref (h.1 + 5), .ref (h.1 + 6), .ref (h.1 + 7), .ref (h.1 + 8), .ref (h.1 + 9), .ref (h.1 + 10), .null, .null, .long 0]), .inl (0, 8, zrA 0), .inl (0, 8, zrA 0), .inl (0, 8, zrA 0), .inl (0, 8, zrA 0), .inl (0, 8, zrA 0), .inl (0, 8, zrA 0), .inl (0, 19, zrA 0), .inl (0, 19, zrA 0), .inl (0, 19, zrA 0), .inl (0, 19, zrA 0), .inl (1, 0, zrA 1)] 141) (nwA_ad (by decide)) ?_
  refine bs (v := adB h [.inr (1, [.int 0, .int 0, .int 0, .int 0, .ref (h.1 + 1), .ref (h.1 + 2), .ref (h.1 + 3), .ref (h.1 + 4), .ref (h.1 + 5), .ref (h.1 + 6), .ref (h.1 + 7), .ref (h.1 + 8), .ref (h.1 + 9), .ref (h.1 + 10), .ref (h.1 + 11), .null, .long 0]), .inl (0, 8, zrA 0), .inl (0, 8, zrA 0), .inl (0, 8, zrA 0), .inl (0, 8, zrA 0), .inl (0, 8, zrA 0), .inl (0, 8, zrA 0), .inl (0, 19, zrA 0), .inl (0, 19, zrA 0), .inl (0, 19, zrA 0), .inl (0, 19, zrA 0), .inl (1, 0, zrA 1)] 141) (pV0_ad rfl) ?_
  refine bs (v := adB h [.inr (1, [.int 0, .int 0, .int 0, .int 0, .ref (h.1 + 1), .ref (h.1 + 2), .ref (h.1 + 3), .ref (h.1 + 4), .ref (h.1 + 5), .ref (h.1 + 6), .ref (h.1 + 7), .ref (h.1 + 8), .ref (h.1 + 9), .ref (h.1 + 10), .ref (h.1 + 11), .null, .long 0]), .inl (0, 8, zrA 0), .inl (0, 8, zrA 0), .inl (0, 8, zrA 0), .inl (0, 8, zrA 0), .inl (0, 8, zrA 0), .inl (0, 8, zrA 0), .inl (0, 19, zrA 0), .inl (0, 19, zrA 0), .inl (0, 19, zrA 0), .inl (0, 19, zrA 0), .inl (1, 0, zrA 1), .inl (1, 0, zrA 1)] 141) (nwA_ad (by decide)) ?_
  refine bs (v := adB h [.inr (1, [.int 0, .int 0, .int 0, .int 0, .ref (h.1 + 1), .ref (h.1 + 2), .ref (h.1 + 3), .ref (h.1 + 4), .ref (h.1 + 5), .ref (h.1 + 6), .ref (h.1 + 7), .ref (h.1 + 8), .ref (h.1 + 9), .ref (h.1 + 10), .ref (h.1 + 11), .ref (h.1 + 12), .long 0]), .inl (0, 8, zrA 0), .inl (0, 8, zrA 0), .inl (0, 8, zrA 0), .inl (0, 8, zrA 0), .inl (0, 8, zrA 0), .inl (0, 8, zrA 0), .inl (0, 19, zrA 0), .inl (0, 19, zrA 0), .inl (0, 19, zrA 0), .inl (0, 19, zrA 0), .inl (1, 0, zrA 1), .inl (1, 0, zrA 1)] 141) (pV0_ad rfl) ?_
  rfl
theorem bl_X1 {a : Nat} : (BX1 a).length = 13 := rfl
theorem b_X1 {N m s : Nat} {h : mH} {e : mE} {r : List mE} (hm : r.length = m) : f_X1_init N (adB h (e :: r) s).1 (nwO (adB h (e :: r) s) 1) = some (adB h (e :: (r ++ BX1 (h.1 + (m + 1)))) (s + 141)) := by
  rw [bh_X1, ad_ad, nxt hm]
  rfl
def R4_0 (a : Nat) : List mE := []
theorem R4_0_len {a : Nat} : (R4_0 a).length = 0 := rfl
def R4_1 (a : Nat) : List mE := R4_0 a ++ BX0 (a + 1)
theorem R4_1_len {a : Nat} : (R4_1 a).length = 4 := by
  rw [R4_1, List.length_append, R4_0_len]; rfl
def R4_2 (a : Nat) : List mE := R4_1 a ++ BX6 (a + 5)
theorem R4_2_len {a : Nat} : (R4_2 a).length = 8 := by
  rw [R4_2, List.length_append, R4_1_len]; rfl
def R4_3 (a : Nat) : List mE := R4_2 a ++ BX6 (a + 9)
theorem R4_3_len {a : Nat} : (R4_3 a).length = 12 := by
  rw [R4_3, List.length_append, R4_2_len]; rfl
def R4_4 (a : Nat) : List mE := R4_3 a ++ BX3 (a + 13)
theorem R4_4_len {a : Nat} : (R4_4 a).length = 15 := by
  rw [R4_4, List.length_append, R4_3_len]; rfl
def EX4 (a : Nat) : List mE := .inr (4, [.int 0, .ref (a + 1), .ref (a + 5), .ref (a + 9), .ref (a + 13)]) :: R4_4 a
theorem bh_X4 {N : Nat} {h : mH} (hN : 10000 ≤ N) : f_X4_init N h.1 (nwO h 4) = some (adB h (EX4 h.1) 225) := by
  have e0 : nwO h 4 = adB h (.inr (4, [.int 0, .null, .null, .null, .null]) :: R4_0 h.1) 5 := nwO_h
  unfold f_X4_init
  rw [e0]
  refine bs (v := adB h (.inr (4, [.int 0, .null, .null, .null, .null]) :: R4_1 h.1) 151) (b_X0 R4_0_len) ?_
  refine bs (v := adB h (.inr (4, [.int 0, .ref (h.1 + 1), .null, .null, .null]) :: R4_1 h.1) 151) (pVr_ad rfl R4_0_len) ?_
  refine bs (v := adB h (.inr (4, [.int 0, .ref (h.1 + 1), .null, .null, .null]) :: R4_2 h.1) 179) (b_X6 R4_1_len) ?_
  refine bs (v := adB h (.inr (4, [.int 0, .ref (h.1 + 1), .ref (h.1 + 5), .null, .null]) :: R4_2 h.1) 179) (pVr_ad rfl R4_1_len) ?_
  refine bs (v := adB h (.inr (4, [.int 0, .ref (h.1 + 1), .ref (h.1 + 5), .null, .null]) :: R4_3 h.1) 207) (b_X6 R4_2_len) ?_
  refine bs (v := adB h (.inr (4, [.int 0, .ref (h.1 + 1), .ref (h.1 + 5), .ref (h.1 + 9), .null]) :: R4_3 h.1) 207) (pVr_ad rfl R4_2_len) ?_
  refine bs (v := adB h (.inr (4, [.int 0, .ref (h.1 + 1), .ref (h.1 + 5), .ref (h.1 + 9), .null]) :: R4_4 h.1) 225) (b_X3 hN R4_3_len) ?_
  refine bs (v := adB h (.inr (4, [.int 0, .ref (h.1 + 1), .ref (h.1 + 5), .ref (h.1 + 9), .ref (h.1 + 13)]) :: R4_4 h.1) 225) (pVr_ad rfl R4_3_len) ?_
  rfl
def BX4 (a : Nat) : List mE := EX4 a
theorem bl_X4 {a : Nat} : (BX4 a).length = 16 := rfl
theorem b_X4 {N m s : Nat} {h : mH} {e : mE} {r : List mE} (hN : 10000 ≤ N) (hm : r.length = m) : f_X4_init N (adB h (e :: r) s).1 (nwO (adB h (e :: r) s) 4) = some (adB h (e :: (r ++ BX4 (h.1 + (m + 1)))) (s + 225)) := by
  rw [bh_X4 hN, ad_ad, nxt hm]
  rfl
theorem bq_X4 {N m m1 s s1 : Nat} {h : mH} {e : mE} {P Q Q' : List mE} (hN : 10000 ≤ N) (hm : (P ++ Q).length = m) (hm1 : m + 1 = m1) (hs : s + 225 = s1) (hQ : Q ++ BX4 (h.1 + m1) = Q') : f_X4_init N (adB h (e :: (P ++ Q)) s).1 (nwO (adB h (e :: (P ++ Q)) s) 4) = some (adB h (e :: (P ++ Q')) s1) := by
  rw [b_X4 hN hm, List.append_assoc, hm1, hs, hQ]
