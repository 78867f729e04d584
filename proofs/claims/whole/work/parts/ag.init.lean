/-! CONSTRUCTORS: the component (printed by wip/whole/gen_init.py) -/
def R11_0 (a : Nat) : List mE := []
theorem R11_0_len {a : Nat} : (R11_0 a).length = 0 := rfl
def R11_1 (a : Nat) : List mE := R11_0 a ++ [.inl (2, 500, zrA 2)]
theorem R11_1_len {a : Nat} : (R11_1 a).length = 1 := by
  rw [R11_1, List.length_append, R11_0_len]; rfl
def R11_2 (a : Nat) : List mE := R11_1 a ++ BX0 (a + 2)
theorem R11_2_len {a : Nat} : (R11_2 a).length = 5 := by
  rw [R11_2, List.length_append, R11_1_len]; rfl
def R11_3 (a : Nat) : List mE := R11_2 a ++ BX0 (a + 6)
theorem R11_3_len {a : Nat} : (R11_3 a).length = 9 := by
  rw [R11_3, List.length_append, R11_2_len]; rfl
def R11_4 (a : Nat) : List mE := R11_3 a ++ BX8 (a + 10)
theorem R11_4_len {a : Nat} : (R11_4 a).length = 11 := by
  rw [R11_4, List.length_append, R11_3_len]; rfl
def R11_5 (a : Nat) : List mE := R11_4 a ++ BX10 (a + 12) (a + 2)
theorem R11_5_len {a : Nat} : (R11_5 a).length = 16 := by
  rw [R11_5, List.length_append, R11_4_len]; rfl
def R11_6 (a : Nat) : List mE := R11_5 a ++ BX6 (a + 17)
theorem R11_6_len {a : Nat} : (R11_6 a).length = 20 := by
  rw [R11_6, List.length_append, R11_5_len]; rfl
def R11_7 (a : Nat) : List mE := R11_6 a ++ BX6 (a + 21)
theorem R11_7_len {a : Nat} : (R11_7 a).length = 24 := by
  rw [R11_7, List.length_append, R11_6_len]; rfl
def R11_8 (a : Nat) : List mE := R11_7 a ++ BX9 (a + 25)
theorem R11_8_len {a : Nat} : (R11_8 a).length = 32 := by
  rw [R11_8, List.length_append, R11_7_len]; rfl
def R11_9 (a : Nat) : List mE := R11_8 a ++ BX3 (a + 33)
theorem R11_9_len {a : Nat} : (R11_9 a).length = 35 := by
  rw [R11_9, List.length_append, R11_8_len]; rfl
def AF11_36_0 (a : Nat) : Nat → Option Nat := fun _ => none
def AQ11_36_0 (a : Nat) : List mE := []
theorem AQ11_36_0_len {a : Nat} : (AQ11_36_0 a).length = 0 := rfl
def AQ11_36_1 (a : Nat) : List mE := AQ11_36_0 a ++ BX5 (a + 37)
theorem AQ11_36_1_len {a : Nat} : (AQ11_36_1 a).length = 2 := by
  rw [AQ11_36_1, List.length_append, AQ11_36_0_len]; rfl
def AF11_36_1 (a : Nat) : Nat → Option Nat := va_up (AF11_36_0 a) 0 (some (a + 37))
def AQ11_36_2 (a : Nat) : List mE := AQ11_36_1 a ++ BX5 (a + 39)
theorem AQ11_36_2_len {a : Nat} : (AQ11_36_2 a).length = 4 := by
  rw [AQ11_36_2, List.length_append, AQ11_36_1_len]; rfl
def AF11_36_2 (a : Nat) : Nat → Option Nat := va_up (AF11_36_1 a) 1 (some (a + 39))
def AQ11_36_3 (a : Nat) : List mE := AQ11_36_2 a ++ BX5 (a + 41)
theorem AQ11_36_3_len {a : Nat} : (AQ11_36_3 a).length = 6 := by
  rw [AQ11_36_3, List.length_append, AQ11_36_2_len]; rfl
def AF11_36_3 (a : Nat) : Nat → Option Nat := va_up (AF11_36_2 a) 2 (some (a + 41))
def AQ11_36_4 (a : Nat) : List mE := AQ11_36_3 a ++ BX5 (a + 43)
theorem AQ11_36_4_len {a : Nat} : (AQ11_36_4 a).length = 8 := by
  rw [AQ11_36_4, List.length_append, AQ11_36_3_len]; rfl
def AF11_36_4 (a : Nat) : Nat → Option Nat := va_up (AF11_36_3 a) 3 (some (a + 43))
def R11_10 (a : Nat) : List mE := (R11_9 a ++ [.inl (4, 4, .inr (.inr (.inr (.inr (AF11_36_4 a)))))]) ++ AQ11_36_4 a
theorem R11_10_len {a : Nat} : (R11_10 a).length = 44 := by
  rw [R11_10, List.length_append, List.length_append, R11_9_len, AQ11_36_4_len]; rfl
def AF11_45_0 (a : Nat) : Nat → Option Nat := fun _ => none
def AQ11_45_0 (a : Nat) : List mE := []
theorem AQ11_45_0_len {a : Nat} : (AQ11_45_0 a).length = 0 := rfl
def AQ11_45_1 (a : Nat) : List mE := AQ11_45_0 a ++ BX4 (a + 46)
theorem AQ11_45_1_len {a : Nat} : (AQ11_45_1 a).length = 16 := by
  rw [AQ11_45_1, List.length_append, AQ11_45_0_len]; rfl
def AF11_45_1 (a : Nat) : Nat → Option Nat := va_up (AF11_45_0 a) 0 (some (a + 46))
def AQ11_45_2 (a : Nat) : List mE := AQ11_45_1 a ++ BX4 (a + 62)
theorem AQ11_45_2_len {a : Nat} : (AQ11_45_2 a).length = 32 := by
  rw [AQ11_45_2, List.length_append, AQ11_45_1_len]; rfl
def AF11_45_2 (a : Nat) : Nat → Option Nat := va_up (AF11_45_1 a) 1 (some (a + 62))
def R11_11 (a : Nat) : List mE := (R11_10 a ++ [.inl (5, 2, .inr (.inr (.inr (.inr (AF11_45_2 a)))))]) ++ AQ11_45_2 a
theorem R11_11_len {a : Nat} : (R11_11 a).length = 77 := by
  rw [R11_11, List.length_append, List.length_append, R11_10_len, AQ11_45_2_len]; rfl
def R11_12 (a : Nat) : List mE := R11_11 a ++ BX2 (a + 78)
theorem R11_12_len {a : Nat} : (R11_12 a).length = 81 := by
  rw [R11_12, List.length_append, R11_11_len]; rfl
def R11_13 (a : Nat) : List mE := R11_12 a ++ BX1 (a + 82)
theorem R11_13_len {a : Nat} : (R11_13 a).length = 94 := by
  rw [R11_13, List.length_append, R11_12_len]; rfl
def R11_14 (a : Nat) : List mE := R11_13 a ++ BX7 (a + 95)
theorem R11_14_len {a : Nat} : (R11_14 a).length = 97 := by
  rw [R11_14, List.length_append, R11_13_len]; rfl
def R11_15 (a : Nat) : List mE := R11_14 a ++ [.inl (0, 6, zrA 0)]
theorem R11_15_len {a : Nat} : (R11_15 a).length = 98 := by
  rw [R11_15, List.length_append, R11_14_len]; rfl
def R11_16 (a : Nat) : List mE := R11_15 a ++ [.inl (0, 40, zrA 0)]
theorem R11_16_len {a : Nat} : (R11_16 a).length = 99 := by
  rw [R11_16, List.length_append, R11_15_len]; rfl
def EX11 (a : Nat) : List mE := .inr (11, [.ref (a + 1), .int 0, .ref (a + 2), .ref (a + 6), .ref (a + 10), .ref (a + 12), .ref (a + 17), .ref (a + 21), .ref (a + 25), .ref (a + 33), .ref (a + 36), .ref (a + 45), .ref (a + 78), .ref (a + 82), .ref (a + 95), .ref (a + 98), .ref (a + 99)]) :: R11_16 a
theorem bh_X11 {N : Nat} {h : mH} (hN : 10000 ≤ N) : f_X11_init N h.1 (nwO h 11) = some (adB h (EX11 h.1) 3161) := by
  have e0 : nwO h 11 = adB h (.inr (11, [.null, .int 0, .null, .null, .null, .null, .null, .null, .null, .null, .null, .null, .null, .null, .null, .null, .null]) :: R11_0 h.1) 17 := nwO_h
  unfold f_X11_init
  rw [e0]
  refine bs (v := adB h (.inr (11, [.null, .int 0, .null, .null, .null, .null, .null, .null, .null, .null, .null, .null, .null, .null, .null, .null, .null]) :: R11_1 h.1) 517) (nwA_ad (by decide)) ?_
  refine bs (v := adB h (.inr (11, [.ref (h.1 + 1), .int 0, .null, .null, .null, .null, .null, .null, .null, .null, .null, .null, .null, .null, .null, .null, .null]) :: R11_1 h.1) 517) (pVr_ad rfl R11_0_len) ?_
  refine bs (v := adB h (.inr (11, [.ref (h.1 + 1), .int 0, .null, .null, .null, .null, .null, .null, .null, .null, .null, .null, .null, .null, .null, .null, .null]) :: R11_2 h.1) 663) (b_X0 R11_1_len) ?_
  refine bs (v := adB h (.inr (11, [.ref (h.1 + 1), .int 0, .ref (h.1 + 2), .null, .null, .null, .null, .null, .null, .null, .null, .null, .null, .null, .null, .null, .null]) :: R11_2 h.1) 663) (pVr_ad rfl R11_1_len) ?_
  refine bs (v := adB h (.inr (11, [.ref (h.1 + 1), .int 0, .ref (h.1 + 2), .null, .null, .null, .null, .null, .null, .null, .null, .null, .null, .null, .null, .null, .null]) :: R11_3 h.1) 809) (b_X0 R11_2_len) ?_
  refine bs (v := adB h (.inr (11, [.ref (h.1 + 1), .int 0, .ref (h.1 + 2), .ref (h.1 + 6), .null, .null, .null, .null, .null, .null, .null, .null, .null, .null, .null, .null, .null]) :: R11_3 h.1) 809) (pVr_ad rfl R11_2_len) ?_
  refine bs (v := adB h (.inr (11, [.ref (h.1 + 1), .int 0, .ref (h.1 + 2), .ref (h.1 + 6), .null, .null, .null, .null, .null, .null, .null, .null, .null, .null, .null, .null, .null]) :: R11_4 h.1) 817) (b_X8 R11_3_len) ?_
  refine bs (v := adB h (.inr (11, [.ref (h.1 + 1), .int 0, .ref (h.1 + 2), .ref (h.1 + 6), .ref (h.1 + 10), .null, .null, .null, .null, .null, .null, .null, .null, .null, .null, .null, .null]) :: R11_4 h.1) 817) (pVr_ad rfl R11_3_len) ?_
  refine bs (v := h.1 + 2) (gRn_ad rfl) ?_
  refine bs (v := adB h (.inr (11, [.ref (h.1 + 1), .int 0, .ref (h.1 + 2), .ref (h.1 + 6), .ref (h.1 + 10), .null, .null, .null, .null, .null, .null, .null, .null, .null, .null, .null, .null]) :: R11_5 h.1) 2117) (b_X10 R11_4_len) ?_
  refine bs (v := adB h (.inr (11, [.ref (h.1 + 1), .int 0, .ref (h.1 + 2), .ref (h.1 + 6), .ref (h.1 + 10), .ref (h.1 + 12), .null, .null, .null, .null, .null, .null, .null, .null, .null, .null, .null]) :: R11_5 h.1) 2117) (pVr_ad rfl R11_4_len) ?_
  refine bs (v := adB h (.inr (11, [.ref (h.1 + 1), .int 0, .ref (h.1 + 2), .ref (h.1 + 6), .ref (h.1 + 10), .ref (h.1 + 12), .null, .null, .null, .null, .null, .null, .null, .null, .null, .null, .null]) :: R11_6 h.1) 2145) (b_X6 R11_5_len) ?_
  refine bs (v := adB h (.inr (11, [.ref (h.1 + 1), .int 0, .ref (h.1 + 2), .ref (h.1 + 6), .ref (h.1 + 10), .ref (h.1 + 12), .ref (h.1 + 17), .null, .null, .null, .null, .null, .null, .null, .null, .null, .null]) :: R11_6 h.1) 2145) (pVr_ad rfl R11_5_len) ?_
  refine bs (v := adB h (.inr (11, [.ref (h.1 + 1), .int 0, .ref (h.1 + 2), .ref (h.1 + 6), .ref (h.1 + 10), .ref (h.1 + 12), .ref (h.1 + 17), .null, .null, .null, .null, .null, .null, .null, .null, .null, .null]) :: R11_7 h.1) 2173) (b_X6 R11_6_len) ?_
  refine bs (v := adB h (.inr (11, [.ref (h.1 + 1), .int 0, .ref (h.1 + 2), .ref (h.1 + 6), .ref (h.1 + 10), .ref (h.1 + 12), .ref (h.1 + 17), .ref (h.1 + 21), .null, .null, .null, .null, .null, .null, .null, .null, .null]) :: R11_7 h.1) 2173) (pVr_ad rfl R11_6_len) ?_
  refine bs (v := adB h (.inr (11, [.ref (h.1 + 1), .int 0, .ref (h.1 + 2), .ref (h.1 + 6), .ref (h.1 + 10), .ref (h.1 + 12), .ref (h.1 + 17), .ref (h.1 + 21), .null, .null, .null, .null, .null, .null, .null, .null, .null]) :: R11_8 h.1) 2247) (b_X9 R11_7_len) ?_
  refine bs (v := adB h (.inr (11, [.ref (h.1 + 1), .int 0, .ref (h.1 + 2), .ref (h.1 + 6), .ref (h.1 + 10), .ref (h.1 + 12), .ref (h.1 + 17), .ref (h.1 + 21), .ref (h.1 + 25), .null, .null, .null, .null, .null, .null, .null, .null]) :: R11_8 h.1) 2247) (pVr_ad rfl R11_7_len) ?_
  refine bs (v := adB h (.inr (11, [.ref (h.1 + 1), .int 0, .ref (h.1 + 2), .ref (h.1 + 6), .ref (h.1 + 10), .ref (h.1 + 12), .ref (h.1 + 17), .ref (h.1 + 21), .ref (h.1 + 25), .null, .null, .null, .null, .null, .null, .null, .null]) :: R11_9 h.1) 2265) (b_X3 hN R11_8_len) ?_
  refine bs (v := adB h (.inr (11, [.ref (h.1 + 1), .int 0, .ref (h.1 + 2), .ref (h.1 + 6), .ref (h.1 + 10), .ref (h.1 + 12), .ref (h.1 + 17), .ref (h.1 + 21), .ref (h.1 + 25), .ref (h.1 + 33), .null, .null, .null, .null, .null, .null, .null]) :: R11_9 h.1) 2265) (pVr_ad rfl R11_8_len) ?_
  refine bs (v := adB h (.inr (11, [.ref (h.1 + 1), .int 0, .ref (h.1 + 2), .ref (h.1 + 6), .ref (h.1 + 10), .ref (h.1 + 12), .ref (h.1 + 17), .ref (h.1 + 21), .ref (h.1 + 25), .ref (h.1 + 33), .null, .null, .null, .null, .null, .null, .null]) :: ((R11_9 h.1 ++ [.inl (4, 4, .inr (.inr (.inr (.inr (AF11_36_0 h.1)))))]) ++ AQ11_36_0 h.1)) 2269) ((nwA_ad (by decide)).trans (by rw [AQ11_36_0, List.append_nil]; rfl)) ?_
  have st := bq_X5 (N := N) (h := h) (e := .inr (11, [.ref (h.1 + 1), .int 0, .ref (h.1 + 2), .ref (h.1 + 6), .ref (h.1 + 10), .ref (h.1 + 12), .ref (h.1 + 17), .ref (h.1 + 21), .ref (h.1 + 25), .ref (h.1 + 33), .null, .null, .null, .null, .null, .null, .null])) (P := R11_9 h.1 ++ [.inl (4, 4, .inr (.inr (.inr (.inr (AF11_36_0 h.1)))))]) (Q := AQ11_36_0 h.1) (Q' := AQ11_36_1 h.1) (m := 36) (s := 2269) (by rw [List.length_append, List.length_append, R11_9_len, AQ11_36_0_len]; rfl) rfl rfl rfl
  refine bs st ?_
  clear st
  have st := stR_q (h := h) (k := 4) (ci := 5) (x := .inr (11, [.ref (h.1 + 1), .int 0, .ref (h.1 + 2), .ref (h.1 + 6), .ref (h.1 + 10), .ref (h.1 + 12), .ref (h.1 + 17), .ref (h.1 + 21), .ref (h.1 + 25), .ref (h.1 + 33), .null, .null, .null, .null, .null, .null, .null])) (x' := .inr (11, [.ref (h.1 + 1), .int 0, .ref (h.1 + 2), .ref (h.1 + 6), .ref (h.1 + 10), .ref (h.1 + 12), .ref (h.1 + 17), .ref (h.1 + 21), .ref (h.1 + 25), .ref (h.1 + 33), .null, .null, .null, .null, .null, .null, .null])) (x'' := .inr (11, [.ref (h.1 + 1), .int 0, .ref (h.1 + 2), .ref (h.1 + 6), .ref (h.1 + 10), .ref (h.1 + 12), .ref (h.1 + 17), .ref (h.1 + 21), .ref (h.1 + 25), .ref (h.1 + 33), .null, .null, .null, .null, .null, .null, .null])) (s := 2312) (s' := 2265) (s'' := 2269) (P := R11_9 h.1) (Q := AQ11_36_0 h.1) (Q' := AQ11_36_1 h.1) (f := AF11_36_0 h.1) (f' := AF11_36_1 h.1) (m := 36) (m' := 35) (i := 0) (n := 4) R11_9_len (by rw [List.length_append, List.length_append, R11_9_len, AQ11_36_0_len]; rfl) rfl rfl rfl (by decide) (by decide) (by decide)
  refine bs st ?_
  clear st
  have st := bq_X5 (N := N) (h := h) (e := .inr (11, [.ref (h.1 + 1), .int 0, .ref (h.1 + 2), .ref (h.1 + 6), .ref (h.1 + 10), .ref (h.1 + 12), .ref (h.1 + 17), .ref (h.1 + 21), .ref (h.1 + 25), .ref (h.1 + 33), .null, .null, .null, .null, .null, .null, .null])) (P := R11_9 h.1 ++ [.inl (4, 4, .inr (.inr (.inr (.inr (AF11_36_1 h.1)))))]) (Q := AQ11_36_1 h.1) (Q' := AQ11_36_2 h.1) (m := 38) (s := 2312) (by rw [List.length_append, List.length_append, R11_9_len, AQ11_36_1_len]; rfl) rfl rfl rfl
  refine bs st ?_
  clear st
  have st := stR_q (h := h) (k := 4) (ci := 5) (x := .inr (11, [.ref (h.1 + 1), .int 0, .ref (h.1 + 2), .ref (h.1 + 6), .ref (h.1 + 10), .ref (h.1 + 12), .ref (h.1 + 17), .ref (h.1 + 21), .ref (h.1 + 25), .ref (h.1 + 33), .null, .null, .null, .null, .null, .null, .null])) (x' := .inr (11, [.ref (h.1 + 1), .int 0, .ref (h.1 + 2), .ref (h.1 + 6), .ref (h.1 + 10), .ref (h.1 + 12), .ref (h.1 + 17), .ref (h.1 + 21), .ref (h.1 + 25), .ref (h.1 + 33), .null, .null, .null, .null, .null, .null, .null])) (x'' := .inr (11, [.ref (h.1 + 1), .int 0, .ref (h.1 + 2), .ref (h.1 + 6), .ref (h.1 + 10), .ref (h.1 + 12), .ref (h.1 + 17), .ref (h.1 + 21), .ref (h.1 + 25), .ref (h.1 + 33), .null, .null, .null, .null, .null, .null, .null])) (s := 2355) (s' := 2265) (s'' := 2312) (P := R11_9 h.1) (Q := AQ11_36_1 h.1) (Q' := AQ11_36_2 h.1) (f := AF11_36_1 h.1) (f' := AF11_36_2 h.1) (m := 38) (m' := 35) (i := 1) (n := 4) R11_9_len (by rw [List.length_append, List.length_append, R11_9_len, AQ11_36_1_len]; rfl) rfl rfl rfl (by decide) (by decide) (by decide)
  refine bs st ?_
  clear st
  have st := bq_X5 (N := N) (h := h) (e := .inr (11, [.ref (h.1 + 1), .int 0, .ref (h.1 + 2), .ref (h.1 + 6), .ref (h.1 + 10), .ref (h.1 + 12), .ref (h.1 + 17), .ref (h.1 + 21), .ref (h.1 + 25), .ref (h.1 + 33), .null, .null, .null, .null, .null, .null, .null])) (P := R11_9 h.1 ++ [.inl (4, 4, .inr (.inr (.inr (.inr (AF11_36_2 h.1)))))]) (Q := AQ11_36_2 h.1) (Q' := AQ11_36_3 h.1) (m := 40) (s := 2355) (by rw [List.length_append, List.length_append, R11_9_len, AQ11_36_2_len]; rfl) rfl rfl rfl
  refine bs st ?_
  clear st
  have st := stR_q (h := h) (k := 4) (ci := 5) (x := .inr (11, [.ref (h.1 + 1), .int 0, .ref (h.1 + 2), .ref (h.1 + 6), .ref (h.1 + 10), .ref (h.1 + 12), .ref (h.1 + 17), .ref (h.1 + 21), .ref (h.1 + 25), .ref (h.1 + 33), .null, .null, .null, .null, .null, .null, .null])) (x' := .inr (11, [.ref (h.1 + 1), .int 0, .ref (h.1 + 2), .ref (h.1 + 6), .ref (h.1 + 10), .ref (h.1 + 12), .ref (h.1 + 17), .ref (h.1 + 21), .ref (h.1 + 25), .ref (h.1 + 33), .null, .null, .null, .null, .null, .null, .null])) (x'' := .inr (11, [.ref (h.1 + 1), .int 0, .ref (h.1 + 2), .ref (h.1 + 6), .ref (h.1 + 10), .ref (h.1 + 12), .ref (h.1 + 17), .ref (h.1 + 21), .ref (h.1 + 25), .ref (h.1 + 33), .null, .null, .null, .null, .null, .null, .null])) (s := 2398) (s' := 2265) (s'' := 2355) (P := R11_9 h.1) (Q := AQ11_36_2 h.1) (Q' := AQ11_36_3 h.1) (f := AF11_36_2 h.1) (f' := AF11_36_3 h.1) (m := 40) (m' := 35) (i := 2) (n := 4) R11_9_len (by rw [List.length_append, List.length_append, R11_9_len, AQ11_36_2_len]; rfl) rfl rfl rfl (by decide) (by decide) (by decide)
  refine bs st ?_
  clear st
  have st := bq_X5 (N := N) (h := h) (e := .inr (11, [.ref (h.1 + 1), .int 0, .ref (h.1 + 2), .ref (h.1 + 6), .ref (h.1 + 10), .ref (h.1 + 12), .ref (h.1 + 17), .ref (h.1 + 21), .ref (h.1 + 25), .ref (h.1 + 33), .null, .null, .null, .null, .null, .null, .null])) (P := R11_9 h.1 ++ [.inl (4, 4, .inr (.inr (.inr (.inr (AF11_36_3 h.1)))))]) (Q := AQ11_36_3 h.1) (Q' := AQ11_36_4 h.1) (m := 42) (s := 2398) (by rw [List.length_append, List.length_append, R11_9_len, AQ11_36_3_len]; rfl) rfl rfl rfl
  refine bs st ?_
  clear st
  have st := stR_q (h := h) (k := 4) (ci := 5) (x := .inr (11, [.ref (h.1 + 1), .int 0, .ref (h.1 + 2), .ref (h.1 + 6), .ref (h.1 + 10), .ref (h.1 + 12), .ref (h.1 + 17), .ref (h.1 + 21), .ref (h.1 + 25), .ref (h.1 + 33), .null, .null, .null, .null, .null, .null, .null])) (x' := .inr (11, [.ref (h.1 + 1), .int 0, .ref (h.1 + 2), .ref (h.1 + 6), .ref (h.1 + 10), .ref (h.1 + 12), .ref (h.1 + 17), .ref (h.1 + 21), .ref (h.1 + 25), .ref (h.1 + 33), .null, .null, .null, .null, .null, .null, .null])) (x'' := .inr (11, [.ref (h.1 + 1), .int 0, .ref (h.1 + 2), .ref (h.1 + 6), .ref (h.1 + 10), .ref (h.1 + 12), .ref (h.1 + 17), .ref (h.1 + 21), .ref (h.1 + 25), .ref (h.1 + 33), .null, .null, .null, .null, .null, .null, .null])) (s := 2441) (s' := 2265) (s'' := 2398) (P := R11_9 h.1) (Q := AQ11_36_3 h.1) (Q' := AQ11_36_4 h.1) (f := AF11_36_3 h.1) (f' := AF11_36_4 h.1) (m := 42) (m' := 35) (i := 3) (n := 4) R11_9_len (by rw [List.length_append, List.length_append, R11_9_len, AQ11_36_3_len]; rfl) rfl rfl rfl (by decide) (by decide) (by decide)
  refine bs st ?_
  clear st
  refine bs (v := adB h (.inr (11, [.ref (h.1 + 1), .int 0, .ref (h.1 + 2), .ref (h.1 + 6), .ref (h.1 + 10), .ref (h.1 + 12), .ref (h.1 + 17), .ref (h.1 + 21), .ref (h.1 + 25), .ref (h.1 + 33), .ref (h.1 + 36), .null, .null, .null, .null, .null, .null]) :: ((R11_9 h.1 ++ [.inl (4, 4, .inr (.inr (.inr (.inr (AF11_36_4 h.1)))))]) ++ AQ11_36_4 h.1)) 2441) (pVr_ad rfl R11_9_len) ?_
  refine bs (v := adB h (.inr (11, [.ref (h.1 + 1), .int 0, .ref (h.1 + 2), .ref (h.1 + 6), .ref (h.1 + 10), .ref (h.1 + 12), .ref (h.1 + 17), .ref (h.1 + 21), .ref (h.1 + 25), .ref (h.1 + 33), .ref (h.1 + 36), .null, .null, .null, .null, .null, .null]) :: ((R11_10 h.1 ++ [.inl (5, 2, .inr (.inr (.inr (.inr (AF11_45_0 h.1)))))]) ++ AQ11_45_0 h.1)) 2443) ((nwA_ad (by decide)).trans (by rw [AQ11_45_0, List.append_nil]; rfl)) ?_
  have st := bq_X4 (N := N) (h := h) (e := .inr (11, [.ref (h.1 + 1), .int 0, .ref (h.1 + 2), .ref (h.1 + 6), .ref (h.1 + 10), .ref (h.1 + 12), .ref (h.1 + 17), .ref (h.1 + 21), .ref (h.1 + 25), .ref (h.1 + 33), .ref (h.1 + 36), .null, .null, .null, .null, .null, .null])) (P := R11_10 h.1 ++ [.inl (5, 2, .inr (.inr (.inr (.inr (AF11_45_0 h.1)))))]) (Q := AQ11_45_0 h.1) (Q' := AQ11_45_1 h.1) (m := 45) (s := 2443) hN (by rw [List.length_append, List.length_append, R11_10_len, AQ11_45_0_len]; rfl) rfl rfl rfl
  refine bs st ?_
  clear st
  have st := stR_q (h := h) (k := 5) (ci := 4) (x := .inr (11, [.ref (h.1 + 1), .int 0, .ref (h.1 + 2), .ref (h.1 + 6), .ref (h.1 + 10), .ref (h.1 + 12), .ref (h.1 + 17), .ref (h.1 + 21), .ref (h.1 + 25), .ref (h.1 + 33), .ref (h.1 + 36), .null, .null, .null, .null, .null, .null])) (x' := .inr (11, [.ref (h.1 + 1), .int 0, .ref (h.1 + 2), .ref (h.1 + 6), .ref (h.1 + 10), .ref (h.1 + 12), .ref (h.1 + 17), .ref (h.1 + 21), .ref (h.1 + 25), .ref (h.1 + 33), .ref (h.1 + 36), .null, .null, .null, .null, .null, .null])) (x'' := .inr (11, [.ref (h.1 + 1), .int 0, .ref (h.1 + 2), .ref (h.1 + 6), .ref (h.1 + 10), .ref (h.1 + 12), .ref (h.1 + 17), .ref (h.1 + 21), .ref (h.1 + 25), .ref (h.1 + 33), .ref (h.1 + 36), .null, .null, .null, .null, .null, .null])) (s := 2668) (s' := 2441) (s'' := 2443) (P := R11_10 h.1) (Q := AQ11_45_0 h.1) (Q' := AQ11_45_1 h.1) (f := AF11_45_0 h.1) (f' := AF11_45_1 h.1) (m := 45) (m' := 44) (i := 0) (n := 2) R11_10_len (by rw [List.length_append, List.length_append, R11_10_len, AQ11_45_0_len]; rfl) rfl rfl rfl (by decide) (by decide) (by decide)
  refine bs st ?_
  clear st
  have st := bq_X4 (N := N) (h := h) (e := .inr (11, [.ref (h.1 + 1), .int 0, .ref (h.1 + 2), .ref (h.1 + 6), .ref (h.1 + 10), .ref (h.1 + 12), .ref (h.1 + 17), .ref (h.1 + 21), .ref (h.1 + 25), .ref (h.1 + 33), .ref (h.1 + 36), .null, .null, .null, .null, .null, .null])) (P := R11_10 h.1 ++ [.inl (5, 2, .inr (.inr (.inr (.inr (AF11_45_1 h.1)))))]) (Q := AQ11_45_1 h.1) (Q' := AQ11_45_2 h.1) (m := 61) (s := 2668) hN (by rw [List.length_append, List.length_append, R11_10_len, AQ11_45_1_len]; rfl) rfl rfl rfl
  refine bs st ?_
  clear st
  have st := stR_q (h := h) (k := 5) (ci := 4) (x := .inr (11, [.ref (h.1 + 1), .int 0, .ref (h.1 + 2), .ref (h.1 + 6), .ref (h.1 + 10), .ref (h.1 + 12), .ref (h.1 + 17), .ref (h.1 + 21), .ref (h.1 + 25), .ref (h.1 + 33), .ref (h.1 + 36), .null, .null, .null, .null, .null, .null])) (x' := .inr (11, [.ref (h.1 + 1), .int 0, .ref (h.1 + 2), .ref (h.1 + 6), .ref (h.1 + 10), .ref (h.1 + 12), .ref (h.1 + 17), .ref (h.1 + 21), .ref (h.1 + 25), .ref (h.1 + 33), .ref (h.1 + 36), .null, .null, .null, .null, .null, .null])) (x'' := .inr (11, [.ref (h.1 + 1), .int 0, .ref (h.1 + 2), .ref (h.1 + 6), .ref (h.1 + 10), .ref (h.1 + 12), .ref (h.1 + 17), .ref (h.1 + 21), .ref (h.1 + 25), .ref (h.1 + 33), .ref (h.1 + 36), .null, .null, .null, .null, .null, .null])) (s := 2893) (s' := 2441) (s'' := 2668) (P := R11_10 h.1) (Q := AQ11_45_1 h.1) (Q' := AQ11_45_2 h.1) (f := AF11_45_1 h.1) (f' := AF11_45_2 h.1) (m := 61) (m' := 44) (i := 1) (n := 2) R11_10_len (by rw [List.length_append, List.length_append, R11_10_len, AQ11_45_1_len]; rfl) rfl rfl rfl (by decide) (by decide) (by decide)
  refine bs st ?_
  clear st
  refine bs (v := adB h (.inr (11, [.ref (h.1 + 1), .int 0, .ref (h.1 + 2), .ref (h.1 + 6), .ref (h.1 + 10), .ref (h.1 + 12), .ref (h.1 + 17), .ref (h.1 + 21), .ref (h.1 + 25), .ref (h.1 + 33), .ref (h.1 + 36), .ref (h.1 + 45), .null, .null, .null, .null, .null]) :: ((R11_10 h.1 ++ [.inl (5, 2, .inr (.inr (.inr (.inr (AF11_45_2 h.1)))))]) ++ AQ11_45_2 h.1)) 2893) (pVr_ad rfl R11_10_len) ?_
  refine bs (v := adB h (.inr (11, [.ref (h.1 + 1), .int 0, .ref (h.1 + 2), .ref (h.1 + 6), .ref (h.1 + 10), .ref (h.1 + 12), .ref (h.1 + 17), .ref (h.1 + 21), .ref (h.1 + 25), .ref (h.1 + 33), .ref (h.1 + 36), .ref (h.1 + 45), .null, .null, .null, .null, .null]) :: R11_12 h.1) 2923) (b_X2 R11_11_len) ?_
  refine bs (v := adB h (.inr (11, [.ref (h.1 + 1), .int 0, .ref (h.1 + 2), .ref (h.1 + 6), .ref (h.1 + 10), .ref (h.1 + 12), .ref (h.1 + 17), .ref (h.1 + 21), .ref (h.1 + 25), .ref (h.1 + 33), .ref (h.1 + 36), .ref (h.1 + 45), .ref (h.1 + 78), .null, .null, .null, .null]) :: R11_12 h.1) 2923) (pVr_ad rfl R11_11_len) ?_
  refine bs (v := adB h (.inr (11, [.ref (h.1 + 1), .int 0, .ref (h.1 + 2), .ref (h.1 + 6), .ref (h.1 + 10), .ref (h.1 + 12), .ref (h.1 + 17), .ref (h.1 + 21), .ref (h.1 + 25), .ref (h.1 + 33), .ref (h.1 + 36), .ref (h.1 + 45), .ref (h.1 + 78), .null, .null, .null, .null]) :: R11_13 h.1) 3064) (b_X1 R11_12_len) ?_
  refine bs (v := adB h (.inr (11, [.ref (h.1 + 1), .int 0, .ref (h.1 + 2), .ref (h.1 + 6), .ref (h.1 + 10), .ref (h.1 + 12), .ref (h.1 + 17), .ref (h.1 + 21), .ref (h.1 + 25), .ref (h.1 + 33), .ref (h.1 + 36), .ref (h.1 + 45), .ref (h.1 + 78), .ref (h.1 + 82), .null, .null, .null]) :: R11_13 h.1) 3064) (pVr_ad rfl R11_12_len) ?_
  refine bs (v := adB h (.inr (11, [.ref (h.1 + 1), .int 0, .ref (h.1 + 2), .ref (h.1 + 6), .ref (h.1 + 10), .ref (h.1 + 12), .ref (h.1 + 17), .ref (h.1 + 21), .ref (h.1 + 25), .ref (h.1 + 33), .ref (h.1 + 36), .ref (h.1 + 45), .ref (h.1 + 78), .ref (h.1 + 82), .null, .null, .null]) :: R11_14 h.1) 3115) (b_X7 R11_13_len) ?_
  refine bs (v := adB h (.inr (11, [.ref (h.1 + 1), .int 0, .ref (h.1 + 2), .ref (h.1 + 6), .ref (h.1 + 10), .ref (h.1 + 12), .ref (h.1 + 17), .ref (h.1 + 21), .ref (h.1 + 25), .ref (h.1 + 33), .ref (h.1 + 36), .ref (h.1 + 45), .ref (h.1 + 78), .ref (h.1 + 82), .ref (h.1 + 95), .null, .null]) :: R11_14 h.1) 3115) (pVr_ad rfl R11_13_len) ?_
  refine bs (v := adB h (.inr (11, [.ref (h.1 + 1), .int 0, .ref (h.1 + 2), .ref (h.1 + 6), .ref (h.1 + 10), .ref (h.1 + 12), .ref (h.1 + 17), .ref (h.1 + 21), .ref (h.1 + 25), .ref (h.1 + 33), .ref (h.1 + 36), .ref (h.1 + 45), .ref (h.1 + 78), .ref (h.1 + 82), .ref (h.1 + 95), .null, .null]) :: R11_15 h.1) 3121) (nwA_ad (by decide)) ?_
  refine bs (v := adB h (.inr (11, [.ref (h.1 + 1), .int 0, .ref (h.1 + 2), .ref (h.1 + 6), .ref (h.1 + 10), .ref (h.1 + 12), .ref (h.1 + 17), .ref (h.1 + 21), .ref (h.1 + 25), .ref (h.1 + 33), .ref (h.1 + 36), .ref (h.1 + 45), .ref (h.1 + 78), .ref (h.1 + 82), .ref (h.1 + 95), .ref (h.1 + 98), .null]) :: R11_15 h.1) 3121) (pVr_ad rfl R11_14_len) ?_
  refine bs (v := adB h (.inr (11, [.ref (h.1 + 1), .int 0, .ref (h.1 + 2), .ref (h.1 + 6), .ref (h.1 + 10), .ref (h.1 + 12), .ref (h.1 + 17), .ref (h.1 + 21), .ref (h.1 + 25), .ref (h.1 + 33), .ref (h.1 + 36), .ref (h.1 + 45), .ref (h.1 + 78), .ref (h.1 + 82), .ref (h.1 + 95), .ref (h.1 + 98), .null]) :: R11_16 h.1) 3161) (nwA_ad (by decide)) ?_
  refine bs (v := adB h (.inr (11, [.ref (h.1 + 1), .int 0, .ref (h.1 + 2), .ref (h.1 + 6), .ref (h.1 + 10), .ref (h.1 + 12), .ref (h.1 + 17), .ref (h.1 + 21), .ref (h.1 + 25), .ref (h.1 + 33), .ref (h.1 + 36), .ref (h.1 + 45), .ref (h.1 + 78), .ref (h.1 + 82), .ref (h.1 + 95), .ref (h.1 + 98), .ref (h.1 + 99)]) :: R11_16 h.1) 3161) (pVr_ad rfl R11_15_len) ?_
  rfl
