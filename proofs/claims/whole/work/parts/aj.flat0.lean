/-! CONSTRUCTORS: the heap behind both, flat -/
def ESX : List mE := [.inr (11, [.ref 1, .int 0, .ref 2, .ref 6, .ref 10, .ref 12, .ref 17, .ref 21, .ref 25, .ref 33, .ref 36, .ref 45, .ref 78, .ref 82, .ref 95, .ref 98, .ref 99]), .inl (2, 500, zrA 2), .inr (0, [.int 0, .int 0, .int 0, .int 0, .int (jI (2)), .int (jI (100)), .int 0, .ref 3, .ref 4, .ref 5]), .inl (0, 24, zrA 0), .inl (0, 88, zrA 0), .inl (0, 24, zrA 0), .inr (0, [.int 0, .int 0, .int 0, .int 0, .int (jI (2)), .int (jI (100)), .int 0, .ref 7, .ref 8, .ref 9]), .inl (0, 24, zrA 0), .inl (0, 88, zrA 0), .inl (0, 24, zrA 0), .inr (8, [.int 0, .int (jI (-1)), .ref 11, .int 0, .int 0, .int 0, .int 0, .int 0]), .inl (2, 0, zrA 2), .inr (10, [.ref 2, .ref 13, .ref 14, .ref 15, .ref 16, .int 0]), .inl (0, 1280, zrA 0), .inl (0, 4, zrA 0), .inl (0, 4, zrA 0), .inl (0, 6, zrA 0), .inr (6, [.int 0, .ref 18, .ref 19, .ref 20]), .inl (0, 8, zrA 0), .inl (0, 8, zrA 0), .inl (0, 8, zrA 0), .inr (6, [.int 0, .ref 22, .ref 23, .ref 24]), .inl (0, 8, zrA 0), .inl (0, 8, zrA 0), .inl (0, 8, zrA 0), .inr (9, [.ref 26, .ref 27, .ref 28, .ref 29, .ref 30, .ref 31, .ref 32, .int 0, .int 0, .int 0, .int 0]), .inl (0, 8, zrA 0), .inl (0, 8, zrA 0), .inl (0, 8, zrA 0), .inl (0, 8, zrA 0), .inl (0, 5, zrA 0), .inl (0, 10, zrA 0), .inl (0, 16, zrA 0), .inr (3, [.ref 34, .ref 35]), .inl (0, 8, .inl (fun k => if k < 8 then jI (-1) else 0)), .inl (0, 8, .inl (fun k => if k < 8 then jI (-1) else 0)), .inl (4, 4, .inr (.inr (.inr (.inr (AF11_36_4 0))))), .inr (5, [.int (jI (-1)), .int 0, .ref 38]), .inl (1, 40, zrA 1), .inr (5, [.int (jI (-1)), .int 0, .ref 40]), .inl (1, 40, zrA 1), .inr (5, [.int (jI (-1)), .int 0, .ref 42]), .inl (1, 40, zrA 1), .inr (5, [.int (jI (-1)), .int 0, .ref 44]), .inl (1, 40, zrA 1), .inl (5, 2, .inr (.inr (.inr (.inr (AF11_45_2 0))))), .inr (4, [.int 0, .ref 47, .ref 51, .ref 55, .ref 59]), .inr (0, [.int 0, .int 0, .int 0, .int 0, .int (jI (2)), .int (jI (100)), .int 0, .ref 48, .ref 49, .ref 50]), .inl (0, 24, zrA 0), .inl (0, 88, zrA 0), .inl (0, 24, zrA 0), .inr (6, [.int 0, .ref 52, .ref 53, .ref 54]), .inl (0, 8, zrA 0), .inl (0, 8, zrA 0), .inl (0, 8, zrA 0), .inr (6, [.int 0, .ref 56, .ref 57, .ref 58]), .inl (0, 8, zrA 0), .inl (0, 8, zrA 0), .inl (0, 8, zrA 0), .inr (3, [.ref 60, .ref 61]), .inl (0, 8, .inl (fun k => if k < 8 then jI (-1) else 0)), .inl (0, 8, .inl (fun k => if k < 8 then jI (-1) else 0)), .inr (4, [.int 0, .ref 63, .ref 67, .ref 71, .ref 75]), .inr (0, [.int 0, .int 0, .int 0, .int 0, .int (jI (2)), .int (jI (100)), .int 0, .ref 64, .ref 65, .ref 66]), .inl (0, 24, zrA 0), .inl (0, 88, zrA 0), .inl (0, 24, zrA 0), .inr (6, [.int 0, .ref 68, .ref 69, .ref 70]), .inl (0, 8, zrA 0), .inl (0, 8, zrA 0), .inl (0, 8, zrA 0), .inr (6, [.int 0, .ref 72, .ref 73, .ref 74]), .inl (0, 8, zrA 0), .inl (0, 8, zrA 0), .inl (0, 8, zrA 0), .inr (3, [.ref 76, .ref 77]), .inl (0, 8, .inl (fun k => if k < 8 then jI (-1) else 0)), .inl (0, 8, .inl (fun k => if k < 8 then jI (-1) else 0)), .inr (2, [.int 0, .int 0, .int 0, .ref 79, .ref 80, .ref 81]), .inl (0, 8, zrA 0), .inl (0, 8, zrA 0), .inl (0, 8, zrA 0), .inr (1, [.int 0, .int 0, .int 0, .int 0, .ref 83, .ref 84, .ref 85, .ref 86, .ref 87, .ref 88, .ref 89, .ref 90, .ref 91, .ref 92, .ref 93, .ref 94, .long 0]), .inl (0, 8, zrA 0), .inl (0, 8, zrA 0), .inl (0, 8, zrA 0), .inl (0, 8, zrA 0), .inl (0, 8, zrA 0), .inl (0, 8, zrA 0), .inl (0, 19, zrA 0), .inl (0, 19, zrA 0), .inl (0, 19, zrA 0), .inl (0, 19, zrA 0), .inl (1, 0, zrA 1), .inl (1, 0, zrA 1), .inr (7, [.ref 96, .ref 97]), .inl (0, 9, zrA 0), .inl (0, 40, zrA 0), .inl (0, 6, zrA 0), .inl (0, 40, zrA 0), .inr (12, [.int 0, .ref 101, .ref 102, .ref 103, .ref 104, .ref 105, .int 0, .int 0, .int 0, .int 0, .int 0, .int 0, .int 0, .int 0, .int 0, .int (jI (-1)), .ref 106, .int 0, .int 0, .int 0, .int 0, .int 0, .ref 107, .ref 108, .ref 109, .ref 110, .ref 111, .ref 112, .ref 113, .int 0, .int 0, .ref 114, .ref 115, .ref 116, .ref 117, .ref 118, .ref 119]), .inl (0, 6, zrA 0), .inl (0, 1995, .inl AF12_2_4), .inl (3, 2, zrA 3), .inl (0, 500, zrA 0), .inl (0, 143, zrA 0), .inl (0, 4, zrA 0), .inl (0, 4, zrA 0), .inl (0, 9, zrA 0), .inl (0, 9, zrA 0), .inl (1, 40, zrA 1), .inl (0, 8, zrA 0), .inl (0, 8, zrA 0), .inl (0, 8, zrA 0), .inl (0, 608000, zrA 0), .inl (0, 40, zrA 0), .inl (0, 8, zrA 0), .inl (0, 4, .inl AF12_17_4), .inl (0, 4, zrA 0), .inl (1, 160, zrA 1)]
theorem ESX_eq : EX11 0 ++ EX12 100 = ESX := rfl
theorem ESX_len : ESX.length = 120 := rfl
/-- all numbers behind the constructors -/
def G0 : Nat → Int → Int := fun a =>
  if a = 2 ∨ a = 6 ∨ a = 47 ∨ a = 63 then (fun i => if i = 4 then 2 else if i = 5 then 100 else 0)
  else if a = 10 then (fun i => if i = 1 then -1 else if i = 2 then 11 else 0)
  else if a = 34 ∨ a = 35 ∨ a = 60 ∨ a = 61 ∨ a = 76 ∨ a = 77 then (fun i => if i < 8 then -1 else 0)
  else if a = 37 ∨ a = 39 ∨ a = 41 ∨ a = 43 then (fun i => if i = 0 then -1 else 0)
  else if a = 82 then (fun i => if i = 14 then 93 else if i = 15 then 94 else 0)
  else if a = 100 then (fun i => if i = 15 then -1 else 0)
  else if a = 102 then (fun i => if 657 ≤ i ∧ i < 665 then -1 else if i = 400 then -1 else if i = 143 then -1 else if i < 143 then (if i = 140 then 2 else if i = 141 then 100 else 0) else 0)
  else if a = 117 then (fun i => if i < 4 then -1 else 0)
  else (fun _ => 0)
def q0 : Nat × Nat × (Nat → Nat) := (0, 614150, fun _ => 0)
theorem fx8 : (fun k : Nat => if k < 8 then jI (-1) else (0 : Int32)) = fun k : Nat => jI (if (k : Int) < 8 then -1 else 0) := by
  funext k
  by_cases c : k < 8
  · rw [if_pos c, if_pos (show (k : Int) < 8 by omega)]
  · rw [if_neg c, if_neg (show ¬ (k : Int) < 8 by omega)]
    rfl
theorem fx117 : AF12_17_4 = fun k : Nat => jI (if (k : Int) < 4 then -1 else 0) := by
  funext k
  unfold AF12_17_4 AF12_17_3 AF12_17_2 AF12_17_1 upd
  by_cases c3 : k = 3
  · rw [if_pos c3, if_pos (show (k : Int) < 4 by omega)]
  · rw [if_neg c3]
    by_cases c2 : k = 2
    · rw [if_pos c2, if_pos (show (k : Int) < 4 by omega)]
    · rw [if_neg c2]
      by_cases c1 : k = 1
      · rw [if_pos c1, if_pos (show (k : Int) < 4 by omega)]
      · rw [if_neg c1]
        by_cases c0 : k = 0
        · rw [if_pos c0, if_pos (show (k : Int) < 4 by omega)]
        · rw [if_neg c0, if_neg (show ¬ (k : Int) < 4 by omega)]
          rfl
theorem fx102 : AF12_2_4 = fun k : Nat => jI (if 657 ≤ (k : Int) ∧ (k : Int) < 665 then -1 else if (k : Int) = 400 then -1 else if (k : Int) = 143 then -1 else if (k : Int) < 143 then (if (k : Int) = 140 then 2 else if (k : Int) = 141 then 100 else 0) else 0) := by
  funext k
  unfold AF12_2_4 AF12_2_3 AF12_2_2 AF12_2_1 ihdF iplF upd
  by_cases a : 657 ≤ k ∧ k < 665
  · rw [if_pos a, if_pos (show 657 ≤ (k : Int) ∧ (k : Int) < 665 by omega)]
  · rw [if_neg a, if_neg (show ¬ (657 ≤ (k : Int) ∧ (k : Int) < 665) by omega)]
    by_cases b : k = 400
    · rw [if_pos b, if_pos (show (k : Int) = 400 by omega)]
    · rw [if_neg b, if_neg (show ¬ (k : Int) = 400 by omega)]
      by_cases c : k = 143
      · rw [if_pos c, if_pos (show (k : Int) = 143 by omega)]
      · rw [if_neg c, if_neg (show ¬ (k : Int) = 143 by omega)]
        show (if k < 143 then (if k = 140 then jI 2 else if k = 141 then jI 100 else jI 0) else (0 : Int32)) = _
        by_cases d : k < 143
        · rw [if_pos d, if_pos (show (k : Int) < 143 by omega)]
          by_cases e : k = 140
          · rw [if_pos e, if_pos (show (k : Int) = 140 by omega)]
          · rw [if_neg e, if_neg (show ¬ (k : Int) = 140 by omega)]
            by_cases f : k = 141
            · rw [if_pos f, if_pos (show (k : Int) = 141 by omega)]
            · rw [if_neg f, if_neg (show ¬ (k : Int) = 141 by omega)]
        · rw [if_neg d, if_neg (show ¬ (k : Int) < 143 by omega)]
          rfl
theorem fx36 : AF11_36_4 0 = fun k : Nat => match k with
    | 0 => some 37
    | 1 => some 39
    | 2 => some 41
    | 3 => some 43
    | _ => none := by
  funext k
  match k with
  | 0 => rfl
  | 1 => rfl
  | 2 => rfl
  | 3 => rfl
  | k + 4 =>
    show AF11_36_4 0 (k + 4) = none
    unfold AF11_36_4 AF11_36_3 AF11_36_2 AF11_36_1 AF11_36_0 va_up
    rw [if_neg (by omega), if_neg (by omega), if_neg (by omega), if_neg (by omega)]
theorem fx45 : AF11_45_2 0 = fun k : Nat => match k with
    | 0 => some 46
    | 1 => some 62
    | _ => none := by
  funext k
  match k with
  | 0 => rfl
  | 1 => rfl
  | k + 2 =>
    show AF11_45_2 0 (k + 2) = none
    unfold AF11_45_2 AF11_45_1 AF11_45_0 va_up
    rw [if_neg (by omega), if_neg (by omega)]
def eqC (a : Nat) : Prop := ESX.getD a (.inl (0, 0, zrA 0)) = cof (shp (fun _ => 0) a) (G0 a)
theorem eqC_0 : eqC 0 := rfl
theorem eqC_1 : eqC 1 := rfl
theorem eqC_2 : eqC 2 := rfl
theorem eqC_3 : eqC 3 := rfl
theorem eqC_4 : eqC 4 := rfl
theorem eqC_5 : eqC 5 := rfl
theorem eqC_6 : eqC 6 := rfl
theorem eqC_7 : eqC 7 := rfl
theorem eqC_8 : eqC 8 := rfl
theorem eqC_9 : eqC 9 := rfl
theorem eqC_10 : eqC 10 := rfl
theorem eqC_11 : eqC 11 := rfl
theorem eqC_12 : eqC 12 := rfl
theorem eqC_13 : eqC 13 := rfl
theorem eqC_14 : eqC 14 := rfl
theorem eqC_15 : eqC 15 := rfl
theorem eqC_16 : eqC 16 := rfl
theorem eqC_17 : eqC 17 := rfl
theorem eqC_18 : eqC 18 := rfl
theorem eqC_19 : eqC 19 := rfl
theorem eqC_20 : eqC 20 := rfl
theorem eqC_21 : eqC 21 := rfl
theorem eqC_22 : eqC 22 := rfl
theorem eqC_23 : eqC 23 := rfl
theorem eqC_24 : eqC 24 := rfl
theorem eqC_25 : eqC 25 := rfl
theorem eqC_26 : eqC 26 := rfl
theorem eqC_27 : eqC 27 := rfl
theorem eqC_28 : eqC 28 := rfl
theorem eqC_29 : eqC 29 := rfl
theorem eqC_30 : eqC 30 := rfl
theorem eqC_31 : eqC 31 := rfl
theorem eqC_32 : eqC 32 := rfl
theorem eqC_33 : eqC 33 := rfl
theorem eqC_34 : eqC 34 := by
  show (.inl (0, 8, .inl (fun k : Nat => if k < 8 then jI (-1) else (0 : Int32))) : mE) = _
  rw [fx8]
  rfl
theorem eqC_35 : eqC 35 := by
  show (.inl (0, 8, .inl (fun k : Nat => if k < 8 then jI (-1) else (0 : Int32))) : mE) = _
  rw [fx8]
  rfl
theorem eqC_36 : eqC 36 := by
  show (.inl (4, 4, .inr (.inr (.inr (.inr (AF11_36_4 0))))) : mE) = _
  rw [fx36]
  rfl
theorem eqC_37 : eqC 37 := rfl
theorem eqC_38 : eqC 38 := rfl
theorem eqC_39 : eqC 39 := rfl
theorem eqC_40 : eqC 40 := rfl
theorem eqC_41 : eqC 41 := rfl
theorem eqC_42 : eqC 42 := rfl
theorem eqC_43 : eqC 43 := rfl
theorem eqC_44 : eqC 44 := rfl
theorem eqC_45 : eqC 45 := by
  show (.inl (5, 2, .inr (.inr (.inr (.inr (AF11_45_2 0))))) : mE) = _
  rw [fx45]
  rfl
theorem eqC_46 : eqC 46 := rfl
theorem eqC_47 : eqC 47 := rfl
theorem eqC_48 : eqC 48 := rfl
theorem eqC_49 : eqC 49 := rfl
theorem eqC_50 : eqC 50 := rfl
theorem eqC_51 : eqC 51 := rfl
theorem eqC_52 : eqC 52 := rfl
theorem eqC_53 : eqC 53 := rfl
theorem eqC_54 : eqC 54 := rfl
theorem eqC_55 : eqC 55 := rfl
theorem eqC_56 : eqC 56 := rfl
theorem eqC_57 : eqC 57 := rfl
theorem eqC_58 : eqC 58 := rfl
theorem eqC_59 : eqC 59 := rfl
theorem eqC_60 : eqC 60 := by
  show (.inl (0, 8, .inl (fun k : Nat => if k < 8 then jI (-1) else (0 : Int32))) : mE) = _
  rw [fx8]
  rfl
theorem eqC_61 : eqC 61 := by
  show (.inl (0, 8, .inl (fun k : Nat => if k < 8 then jI (-1) else (0 : Int32))) : mE) = _
  rw [fx8]
  rfl
theorem eqC_62 : eqC 62 := rfl
theorem eqC_63 : eqC 63 := rfl
theorem eqC_64 : eqC 64 := rfl
theorem eqC_65 : eqC 65 := rfl
theorem eqC_66 : eqC 66 := rfl
theorem eqC_67 : eqC 67 := rfl
theorem eqC_68 : eqC 68 := rfl
theorem eqC_69 : eqC 69 := rfl
theorem eqC_70 : eqC 70 := rfl
theorem eqC_71 : eqC 71 := rfl
theorem eqC_72 : eqC 72 := rfl
theorem eqC_73 : eqC 73 := rfl
theorem eqC_74 : eqC 74 := rfl
theorem eqC_75 : eqC 75 := rfl
theorem eqC_76 : eqC 76 := by
  show (.inl (0, 8, .inl (fun k : Nat => if k < 8 then jI (-1) else (0 : Int32))) : mE) = _
  rw [fx8]
  rfl
theorem eqC_77 : eqC 77 := by
  show (.inl (0, 8, .inl (fun k : Nat => if k < 8 then jI (-1) else (0 : Int32))) : mE) = _
  rw [fx8]
  rfl
theorem eqC_78 : eqC 78 := rfl
theorem eqC_79 : eqC 79 := rfl
theorem eqC_80 : eqC 80 := rfl
theorem eqC_81 : eqC 81 := rfl
theorem eqC_82 : eqC 82 := rfl
theorem eqC_83 : eqC 83 := rfl
theorem eqC_84 : eqC 84 := rfl
theorem eqC_85 : eqC 85 := rfl
theorem eqC_86 : eqC 86 := rfl
theorem eqC_87 : eqC 87 := rfl
theorem eqC_88 : eqC 88 := rfl
theorem eqC_89 : eqC 89 := rfl
theorem eqC_90 : eqC 90 := rfl
theorem eqC_91 : eqC 91 := rfl
theorem eqC_92 : eqC 92 := rfl
theorem eqC_93 : eqC 93 := rfl
theorem eqC_94 : eqC 94 := rfl
theorem eqC_95 : eqC 95 := rfl
theorem eqC_96 : eqC 96 := rfl
theorem eqC_97 : eqC 97 := rfl
theorem eqC_98 : eqC 98 := rfl
theorem eqC_99 : eqC 99 := rfl
theorem eqC_100 : eqC 100 := rfl
theorem eqC_101 : eqC 101 := rfl
theorem eqC_102 : eqC 102 := by
  show (.inl (0, 1995, .inl AF12_2_4) : mE) = _
  rw [fx102]
  rfl
theorem eqC_103 : eqC 103 := rfl
theorem eqC_104 : eqC 104 := rfl
theorem eqC_105 : eqC 105 := rfl
theorem eqC_106 : eqC 106 := rfl
theorem eqC_107 : eqC 107 := rfl
theorem eqC_108 : eqC 108 := rfl
theorem eqC_109 : eqC 109 := rfl
theorem eqC_110 : eqC 110 := rfl
theorem eqC_111 : eqC 111 := rfl
theorem eqC_112 : eqC 112 := rfl
theorem eqC_113 : eqC 113 := rfl
theorem eqC_114 : eqC 114 := rfl
theorem eqC_115 : eqC 115 := rfl
theorem eqC_116 : eqC 116 := rfl
theorem eqC_117 : eqC 117 := by
  show (.inl (0, 4, .inl AF12_17_4) : mE) = _
  rw [fx117]
  rfl
theorem eqC_118 : eqC 118 := rfl
theorem eqC_119 : eqC 119 := rfl
theorem eqC_b0 : ∀ i, i < 10 → eqC (i + 0) := by
  intro i h
  match i, h with
  | 0, _ => exact eqC_0
  | 1, _ => exact eqC_1
  | 2, _ => exact eqC_2
  | 3, _ => exact eqC_3
  | 4, _ => exact eqC_4
  | 5, _ => exact eqC_5
  | 6, _ => exact eqC_6
  | 7, _ => exact eqC_7
  | 8, _ => exact eqC_8
  | 9, _ => exact eqC_9
  | i + 10, h => exact absurd h (by omega)
theorem eqC_b1 : ∀ i, i < 10 → eqC (i + 10) := by
  intro i h
  match i, h with
  | 0, _ => exact eqC_10
  | 1, _ => exact eqC_11
  | 2, _ => exact eqC_12
  | 3, _ => exact eqC_13
  | 4, _ => exact eqC_14
  | 5, _ => exact eqC_15
  | 6, _ => exact eqC_16
  | 7, _ => exact eqC_17
  | 8, _ => exact eqC_18
  | 9, _ => exact eqC_19
  | i + 10, h => exact absurd h (by omega)
theorem eqC_b2 : ∀ i, i < 10 → eqC (i + 20) := by
  intro i h
  match i, h with
  | 0, _ => exact eqC_20
  | 1, _ => exact eqC_21
  | 2, _ => exact eqC_22
  | 3, _ => exact eqC_23
  | 4, _ => exact eqC_24
  | 5, _ => exact eqC_25
  | 6, _ => exact eqC_26
  | 7, _ => exact eqC_27
  | 8, _ => exact eqC_28
  | 9, _ => exact eqC_29
  | i + 10, h => exact absurd h (by omega)
theorem eqC_b3 : ∀ i, i < 10 → eqC (i + 30) := by
  intro i h
  match i, h with
  | 0, _ => exact eqC_30
  | 1, _ => exact eqC_31
  | 2, _ => exact eqC_32
  | 3, _ => exact eqC_33
  | 4, _ => exact eqC_34
  | 5, _ => exact eqC_35
  | 6, _ => exact eqC_36
  | 7, _ => exact eqC_37
  | 8, _ => exact eqC_38
  | 9, _ => exact eqC_39
  | i + 10, h => exact absurd h (by omega)
theorem eqC_b4 : ∀ i, i < 10 → eqC (i + 40) := by
  intro i h
  match i, h with
  | 0, _ => exact eqC_40
  | 1, _ => exact eqC_41
  | 2, _ => exact eqC_42
  | 3, _ => exact eqC_43
  | 4, _ => exact eqC_44
  | 5, _ => exact eqC_45
  | 6, _ => exact eqC_46
  | 7, _ => exact eqC_47
  | 8, _ => exact eqC_48
  | 9, _ => exact eqC_49
  | i + 10, h => exact absurd h (by omega)
theorem eqC_b5 : ∀ i, i < 10 → eqC (i + 50) := by
  intro i h
  match i, h with
  | 0, _ => exact eqC_50
  | 1, _ => exact eqC_51
  | 2, _ => exact eqC_52
  | 3, _ => exact eqC_53
  | 4, _ => exact eqC_54
  | 5, _ => exact eqC_55
  | 6, _ => exact eqC_56
  | 7, _ => exact eqC_57
  | 8, _ => exact eqC_58
  | 9, _ => exact eqC_59
  | i + 10, h => exact absurd h (by omega)
theorem eqC_b6 : ∀ i, i < 10 → eqC (i + 60) := by
  intro i h
  match i, h with
  | 0, _ => exact eqC_60
  | 1, _ => exact eqC_61
  | 2, _ => exact eqC_62
  | 3, _ => exact eqC_63
  | 4, _ => exact eqC_64
  | 5, _ => exact eqC_65
  | 6, _ => exact eqC_66
  | 7, _ => exact eqC_67
  | 8, _ => exact eqC_68
  | 9, _ => exact eqC_69
  | i + 10, h => exact absurd h (by omega)
theorem eqC_b7 : ∀ i, i < 10 → eqC (i + 70) := by
  intro i h
  match i, h with
  | 0, _ => exact eqC_70
  | 1, _ => exact eqC_71
  | 2, _ => exact eqC_72
  | 3, _ => exact eqC_73
  | 4, _ => exact eqC_74
  | 5, _ => exact eqC_75
  | 6, _ => exact eqC_76
  | 7, _ => exact eqC_77
  | 8, _ => exact eqC_78
  | 9, _ => exact eqC_79
  | i + 10, h => exact absurd h (by omega)
theorem eqC_b8 : ∀ i, i < 10 → eqC (i + 80) := by
  intro i h
  match i, h with
  | 0, _ => exact eqC_80
  | 1, _ => exact eqC_81
  | 2, _ => exact eqC_82
  | 3, _ => exact eqC_83
  | 4, _ => exact eqC_84
  | 5, _ => exact eqC_85
  | 6, _ => exact eqC_86
  | 7, _ => exact eqC_87
  | 8, _ => exact eqC_88
  | 9, _ => exact eqC_89
  | i + 10, h => exact absurd h (by omega)
theorem eqC_b9 : ∀ i, i < 10 → eqC (i + 90) := by
  intro i h
  match i, h with
  | 0, _ => exact eqC_90
  | 1, _ => exact eqC_91
  | 2, _ => exact eqC_92
  | 3, _ => exact eqC_93
  | 4, _ => exact eqC_94
  | 5, _ => exact eqC_95
  | 6, _ => exact eqC_96
  | 7, _ => exact eqC_97
  | 8, _ => exact eqC_98
  | 9, _ => exact eqC_99
  | i + 10, h => exact absurd h (by omega)
theorem eqC_b10 : ∀ i, i < 10 → eqC (i + 100) := by
  intro i h
  match i, h with
  | 0, _ => exact eqC_100
  | 1, _ => exact eqC_101
  | 2, _ => exact eqC_102
  | 3, _ => exact eqC_103
  | 4, _ => exact eqC_104
  | 5, _ => exact eqC_105
  | 6, _ => exact eqC_106
  | 7, _ => exact eqC_107
  | 8, _ => exact eqC_108
  | 9, _ => exact eqC_109
  | i + 10, h => exact absurd h (by omega)
theorem eqC_b11 : ∀ i, i < 10 → eqC (i + 110) := by
  intro i h
  match i, h with
  | 0, _ => exact eqC_110
  | 1, _ => exact eqC_111
  | 2, _ => exact eqC_112
  | 3, _ => exact eqC_113
  | 4, _ => exact eqC_114
  | 5, _ => exact eqC_115
  | 6, _ => exact eqC_116
  | 7, _ => exact eqC_117
  | 8, _ => exact eqC_118
  | 9, _ => exact eqC_119
  | i + 10, h => exact absurd h (by omega)
theorem eqC_all : ∀ a, a < 120 → eqC a := by
  intro a h
  by_cases c0 : a < 10
  · have := eqC_b0 (a - 0) (by omega)
    rw [show a - 0 + 0 = a by omega] at this
    exact this
  by_cases c1 : a < 20
  · have := eqC_b1 (a - 10) (by omega)
    rw [show a - 10 + 10 = a by omega] at this
    exact this
  by_cases c2 : a < 30
  · have := eqC_b2 (a - 20) (by omega)
    rw [show a - 20 + 20 = a by omega] at this
    exact this
  by_cases c3 : a < 40
  · have := eqC_b3 (a - 30) (by omega)
    rw [show a - 30 + 30 = a by omega] at this
    exact this
  by_cases c4 : a < 50
  · have := eqC_b4 (a - 40) (by omega)
    rw [show a - 40 + 40 = a by omega] at this
    exact this
  by_cases c5 : a < 60
  · have := eqC_b5 (a - 50) (by omega)
    rw [show a - 50 + 50 = a by omega] at this
    exact this
  by_cases c6 : a < 70
  · have := eqC_b6 (a - 60) (by omega)
    rw [show a - 60 + 60 = a by omega] at this
    exact this
  by_cases c7 : a < 80
  · have := eqC_b7 (a - 70) (by omega)
    rw [show a - 70 + 70 = a by omega] at this
    exact this
  by_cases c8 : a < 90
  · have := eqC_b8 (a - 80) (by omega)
    rw [show a - 80 + 80 = a by omega] at this
    exact this
  by_cases c9 : a < 100
  · have := eqC_b9 (a - 90) (by omega)
    rw [show a - 90 + 90 = a by omega] at this
    exact this
  by_cases c10 : a < 110
  · have := eqC_b10 (a - 100) (by omega)
    rw [show a - 100 + 100 = a by omega] at this
    exact this
  have := eqC_b11 (a - 110) (by omega)
  rw [show a - 110 + 110 = a by omega] at this
  exact this
/-- the heap at the beginning: nothing yet -/
def h00 : mH := (0, 0, fun a => cof (shp (fun _ => 0) a) (G0 a))
theorem ad_out {h : mH} {es : List mE} {s a : Nat} (c : ¬ (h.1 ≤ a ∧ a < h.1 + es.length)) : (adB h es s).2.2 a = h.2.2 a := if_neg c
theorem ad_eq {h : mH} {es : List mE} {s : Nat} : adB h es s = (h.1 + es.length, h.2.1 + s, (adB h es s).2.2) := rfl
theorem h00_1 : h00.1 = 0 := rfl
theorem h00_2 : h00.2.1 = 0 := rfl
theorem h00_3 {a : Nat} : h00.2.2 a = cof (shp (fun _ => 0) a) (G0 a) := rfl
theorem hp_q0 : hp q0 G0 = (120, 614150, fun a => cof (shp (fun _ => 0) a) (G0 a)) := rfl
theorem h00_all : adB h00 ESX 614150 = hp q0 G0 := by
  have f : ∀ a, (adB h00 ESX 614150).2.2 a = cof (shp (fun _ => 0) a) (G0 a) := fun a => by
    by_cases c : a < 120
    · have := ad_at (h := h00) (es := ESX) (s := 614150) (i := a) (by rw [ESX_len]; exact c)
      rw [h00_1, Nat.zero_add] at this
      rw [this]
      exact eqC_all a c
    · rw [ad_out (by rw [ESX_len, h00_1]; omega)]
      exact h00_3
  rw [ad_eq, ESX_len, h00_1, h00_2, show (adB h00 ESX 614150).2.2 = _ from funext f, hp_q0]
theorem EX11_len {a : Nat} : (EX11 a).length = 100 := by
  unfold EX11
  rw [List.length_cons, R11_16_len]
theorem init_all {N : Nat} (hN : 10000 ≤ N) : ∃ h2 : mH, f_X11_init N h00.1 (nwO h00 11) = some h2 ∧ h2.1 = 100 ∧ f_X12_init N h2.1 (nwO h2 12) = some (hp q0 G0) := by
  have e2 : (adB h00 (EX11 h00.1) 3161).1 = 100 := by
    rw [ad_eq]
    show h00.1 + (EX11 h00.1).length = 100
    rw [EX11_len, h00_1]
  refine ⟨adB h00 (EX11 h00.1) 3161, bh_X11 hN, e2, ?_⟩
  rw [bh_X12 hN, ad_ad, e2, ← h00_all, h00_1, ESX_eq]
