/-! THE LAW: all turns (printed by wip/whole/gen_law.py) -/
section
variable {q : Nat × Nat × (Nat → Nat)} {G : Nat → Int → Int} {N : Nat} {X : Nat × (Nat → Int32)}
theorem iff_s {P : Prop} [Decidable P] {α : Type} {a b r : α} (h1 : P → a = r) (h2 : ¬ P → b = r) : (if P then a else b) = r := by
  split
  · rename_i h; exact h1 h
  · rename_i h; exact h2 h
theorem ite_ex {P : Prop} [Decidable P] {α β : Type} {a b : α} {R : β → α → Prop} (h1 : ∃ y, R y a) (h2 : ∃ y, R y b) : ∃ y, R y (if P then a else b) := by
  split
  · exact h1
  · exact h2
/-- one turn -/
def turnR (k : Nat → Nat → Int32 → mH → Option (Int32 × mH)) (x : Int) (y : (Nat × Nat × (Nat → Nat)) × (Nat → Int → Int)) (v : Option (Int32 × mH)) : Prop := INV K1w K2w y.1 y.2 ∧ v = k 0 100 (jI (x + 6)) (hp y.1 y.2)
theorem turnR_of {k : Nat → Nat → Int32 → mH → Option (Int32 × mH)} {x : Int} {v : Option (Int32 × mH)} (h : ∃ (q' : Nat × Nat × (Nat → Nat)) (G' : Nat → Int → Int), INV K1w K2w q' G' ∧ v = k 0 100 (jI (x + 6)) (hp q' G')) : ∃ y, turnR k x y v := by
  obtain ⟨q', G', h1, h2⟩ := h
  exact ⟨(q', G'), h1, h2⟩
theorem law_turn (hN : 100000 ≤ N) (hI : INV K1w K2w q G) {f : Nat} {x : Int} (hX : five X x) (hx : ¬ (iSub (Int32.ofNat X.1) (jI 6)) < jI x) : ∃ y, turnR (L_law_18 X N f) x y (L_law_18 X N (f + 1) 0 100 (jI x) (hp q G)) := by
  obtain ⟨c0, r0, e0⟩ := hX 0 (by omega) (by omega)
  rw [Int.add_zero] at e0
  rw [L_law_18, if_neg hx, e0, Option.bind_some]
  refine ite_ex (turnR_of (law_272 hN hI hX)) ?_
  refine ite_ex (turnR_of (law_335 hN hI hX)) ?_
  refine ite_ex (turnR_of (law_358 hN hI hX)) ?_
  refine ite_ex (turnR_of (law_381 hN hI hX)) ?_
  refine ite_ex (turnR_of (law_414 hN hI hX)) ?_
  refine ite_ex (turnR_of (law_447 hN hI hX)) ?_
  refine ite_ex (turnR_of (law_470 hN hI hX)) ?_
  refine ite_ex (turnR_of (law_523 hN hI hX)) ?_
  refine ite_ex (turnR_of (law_592 hN hI hX)) ?_
  refine ite_ex (turnR_of (law_625 hN hI hX)) ?_
  refine ite_ex (turnR_of (law_658 hN hI hX)) ?_
  refine ite_ex (turnR_of (law_711 hN hI hX)) ?_
  refine ite_ex (turnR_of (law_774 hN hI hX)) ?_
  refine ite_ex (turnR_of (law_787 hN hI hX)) ?_
  refine ite_ex (turnR_of (law_856 hN hI hX)) ?_
  refine ite_ex (turnR_of (law_899 hN hI hX)) ?_
  refine ite_ex (turnR_of (law_922 hN hI hX)) ?_
  refine ite_ex (turnR_of (law_945 hN hI hX)) ?_
  refine ite_ex (turnR_of (law_988 hN hI hX)) ?_
  refine ite_ex (turnR_of (law_1011 hN hI hX)) ?_
  refine ite_ex (turnR_of (law_1070 hN hI hX)) ?_
  refine ite_ex (turnR_of (law_1103 hN hI hX)) ?_
  refine ite_ex (turnR_of (law_1156 hN hI hX)) ?_
  refine ite_ex (turnR_of (law_1179 hN hI hX)) ?_
  refine ite_ex (turnR_of (law_1202 hN hI hX)) ?_
  refine ite_ex (turnR_of (law_1225 hN hI hX)) ?_
  refine ite_ex (turnR_of (law_1258 hN hI hX)) ?_
  refine ite_ex (turnR_of (law_1291 hN hI hX)) ?_
  refine ite_ex (turnR_of (law_1314 hN hI hX)) ?_
  refine ite_ex (turnR_of (law_1337 hN hI hX)) ?_
  refine ite_ex (turnR_of (law_1350 hN hI hX)) ?_
  refine ite_ex (turnR_of (law_1373 hN hI hX)) ?_
  refine ite_ex (turnR_of (law_1422 hN hI hX)) ?_
  refine ite_ex (turnR_of (law_1455 hN hI hX)) ?_
  refine ite_ex (turnR_of (law_1498 hN hI hX)) ?_
  refine ite_ex (turnR_of (law_1531 hN hI hX)) ?_
  refine ite_ex (turnR_of (law_1574 hN hI hX)) ?_
  refine ite_ex (turnR_of (law_1607 hN hI hX)) ?_
  refine ite_ex (turnR_of (law_1656 hN hI hX)) ?_
  refine ite_ex (turnR_of (law_1669 hN hI hX)) ?_
  refine ite_ex (turnR_of (law_1692 hN hI hX)) ?_
  refine ite_ex (turnR_of (law_1715 hN hI hX)) ?_
  refine ite_ex (turnR_of (law_1738 hN hI hX)) ?_
  refine ite_ex (turnR_of (law_1781 hN hI hX)) ?_
  refine ite_ex (turnR_of (law_1814 hN hI hX)) ?_
  refine ite_ex (turnR_of (law_1837 hN hI hX)) ?_
  refine ite_ex (turnR_of (law_1880 hN hI hX)) ?_
  refine ite_ex (turnR_of (law_1913 hN hI hX)) ?_
  refine ite_ex (turnR_of (law_1936 hN hI hX)) ?_
  refine ite_ex (turnR_of (law_1999 hN hI hX)) ?_
  refine ite_ex (turnR_of (law_2042 hN hI hX)) ?_
  refine ite_ex (turnR_of (law_2116 hN hI hX)) ?_
  refine ite_ex (turnR_of (law_2169 hN hI hX)) ?_
  refine ite_ex (turnR_of (law_2192 hN hI hX)) ?_
  refine ite_ex (turnR_of (law_2215 hN hI hX)) ?_
  refine ite_ex (turnR_of (law_2238 hN hI hX)) ?_
  refine ⟨(q, G), hI, ?_⟩
  unfold J_law_2261
  rw [iAdd_j]
theorem ofN (n : Nat) : Int32.ofNat n = jI (n : Int) := by
  unfold jI
  rw [Int32.ofInt_eq_ofNat]
theorem five_of {x : Int} (h0 : 0 ≤ x) (h1 : x + 6 ≤ X.1) (h2 : X.1 ≤ 3072) : five X x := by
  intro j j0 j1
  refine ⟨(X.2 (x + j).toNat).toInt, i32_r _, ?_⟩
  have n1 : (jI (x + j)).toNatClampNeg = (x + j).toNat := jI_nat (by omega) (by omega)
  have b : ¬ (jI (x + j) < 0 ∨ X.1 ≤ (jI (x + j)).toNatClampNeg) := by
    rw [n1, jI0, jI_lt (by omega) (by omega) (by omega) (by omega)]
    omega
  unfold xld
  rw [if_pos b, n1]
  congr 1
  exact (Int32.ofInt_toInt _).symm
theorem law_loop (hN : 100000 ≤ N) (hL : X.1 ≤ 3072) : ∀ (d f : Nat) (x : Int) (q : Nat × Nat × (Nat → Nat)) (G : Nat → Int → Int), (X.1 : Int) - x ≤ d → d < f → 0 ≤ x → x ≤ 4000 → INV K1w K2w q G → ∃ (q' : Nat × Nat × (Nat → Nat)) (G' : Nat → Int → Int), INV K1w K2w q' G' ∧ L_law_18 X N f 0 100 (jI x) (hp q G) = some (jI 1, hp q' G') := by
  intro d
  induction d with
  | zero =>
    intro f x q G h1 h2 h3 h4 hI
    obtain ⟨f, rfl⟩ : ∃ y, f = y + 1 := ⟨f - 1, by omega⟩
    have c : (iSub (Int32.ofNat X.1) (jI 6)) < jI x := by
      rw [ofN, iSub_j, jI_lt (by omega) (by omega) (by omega) (by omega)]
      omega
    refine ⟨q, G, hI, ?_⟩
    rw [L_law_18, if_pos c]
  | succ d ih =>
    intro f x q G h1 h2 h3 h4 hI
    obtain ⟨f, rfl⟩ : ∃ y, f = y + 1 := ⟨f - 1, by omega⟩
    by_cases c : (X.1 : Int) - 6 < x
    · have c' : (iSub (Int32.ofNat X.1) (jI 6)) < jI x := by
        rw [ofN, iSub_j, jI_lt (by omega) (by omega) (by omega) (by omega)]
        exact c
      refine ⟨q, G, hI, ?_⟩
      rw [L_law_18, if_pos c']
    · have c' : ¬ (iSub (Int32.ofNat X.1) (jI 6)) < jI x := by
        rw [ofN, iSub_j, jI_lt (by omega) (by omega) (by omega) (by omega)]
        exact c
      obtain ⟨y, y1, y2⟩ := law_turn (f := f) hN hI (five_of h3 (by omega) hL) c'
      obtain ⟨q', G', z1, z2⟩ := ih f (x + 6) y.1 y.2 (by omega) (by omega) (by omega) (by omega) y1
      exact ⟨q', G', z1, y2.trans z2⟩
/-- THE LAW, from nothing to its answer -/
theorem law_all (hN : 100000 ≤ N) (hL : X.1 ≤ 3072) : ∃ (q' : Nat × Nat × (Nat → Nat)) (G' : Nat → Int → Int), INV K1w K2w q' G' ∧ f_law X N h00 = some (jI 1, hp q' G') := by
  obtain ⟨h2, a1, a2, a3⟩ := init_all (N := N) (by omega)
  obtain ⟨q', G', z1, z2⟩ := law_loop (X := X) hN hL 3072 N 0 q0 G0 (by omega) (by omega) (by omega) (by omega) INV_0
  refine ⟨q', G', z1, ?_⟩
  unfold f_law
  refine bs a1 ?_
  refine bs a3 ?_
  rw [a2]
  exact z2
end
