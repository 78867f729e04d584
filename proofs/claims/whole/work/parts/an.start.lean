/-! THE START: what the claim's premises say, as the small machine wants it -/
section
def zF : List Cond := flatC (Jvm.Cond.and given_1 narrow_1)
theorem z_F {A : Array Value} {s : State} (h : (Jvm.Cond.and given_1 narrow_1).before A s = true) {i : Nat} {c : Cond} (e : zF[i]? = some c) : c.before A s = true := flat_of_before _ h c (List.mem_of_getElem? e)
theorem z_T {i : Nat} {c : Cond} (e : tables_1[i]? = some c) : c ∈ lw_tbl := List.mem_append_right _ (List.mem_of_getElem? e)
def zt (i : Nat) : Term := Term.string (sjAll.getD i ("", 0, "")).1 (sjAll.getD i ("", 0, "")).2.1
def zv (i : Nat) : Term := .field (zt i) "java/lang/String" "value" "[B"
/-- where the words of a String constant begin; where its table's word is -/
def zb (i : Nat) : Nat := [35, 45, 53, 64, 78, 91, 104, 120, 137, 155, 172, 190, 209, 228, 247, 269, 295, 319].getD i 0
def zr (i : Nat) : Nat := [483, 548, 553, 554, 555, 556, 561, 562, 563, 564, 565, 570, 575, 576, 577, 591, 592, 1592].getD i 0
theorem z_ex : ∀ i, i < 18 → zF[zb i]? = some (.exactly (zt i) "java/lang/String") := by decide +kernel
theorem z_co : ∀ i, i < 18 → zF[zb i + 1]? = some (.eq (.field (zt i) "java/lang/String" "coder" "B") (.int 0)) := by decide +kernel
theorem z_ar : ∀ i, i < 18 → zF[zb i + 2]? = some (.arrayOf (zv i) .byte) := by decide +kernel
theorem z_le : ∀ i, i < 18 → zF[zb i + 3]? = some (.eq (.length (zv i)) (.int (Int32.ofNat (sjLen.getD i 0)))) := by decide +kernel
theorem z_el : ∀ i, i < 18 → ∀ j, j < sjLen.getD i 0 → zF[zb i + 4 + j]? = some (.eq (.elem (zv i) (.int (Int32.ofNat j))) (.int ((sjByt.getD i []).getD j 0))) := by decide +kernel
theorem z_ne : ∀ i, i < 18 → ∀ j, j < i → zF[zb i + 4 + sjLen.getD i 0 + j]? = some (.not (.eq (zt j) (zt i))) := by decide +kernel
theorem z_ln : ∀ i, i < 18 → sjLen.getD i 0 < 2 ^ 31 := by decide +kernel
theorem z_sr : ∀ i, i < 18 → tables_1[zr i]? = some (.stringRef (sjAll.getD i ("", 0, "")).1 (sjAll.getD i ("", 0, "")).2.1 (sjAll.getD i ("", 0, "")).2.2) := by decide +kernel
end
section
variable {A : Array Value} {s : State}
theorem z_words (hts : ∀ w ∈ lw_tbl, w.before A s = true) : ∀ w ∈ WT, w.before A s = true := fun w h => hts w (List.mem_filter.mp h).1
theorem z_cls (hts : ∀ w ∈ lw_tbl, w.before A s = true) : ∃ (dC : Nat → ClassId) (dI : Nat → Nat → Nat), ∀ (k : Nat) (q : vw_C), classes[k]? = some q → u_Kn s q.1 q.2.1 q.2.2 (dC k) (dI k) := by
  have hw := z_words hts
  have h0 : ∀ k : Nat, ∃ x : ClassId × (Nat → Nat), ∀ q : vw_C, classes[k]? = some q → u_Kn s q.1 q.2.1 q.2.2 x.1 x.2 := by
    intro k
    cases e : classes[k]? with
    | none => exact ⟨((0 : Nat), fun _ => 0), fun q h => by cases h⟩
    | some q =>
      obtain ⟨⟨h1, -, -, h4, -, -⟩, -⟩ := clsOf e
      obtain ⟨cC, iS, h⟩ := u_known hw h1 (hw _ h4)
      exact ⟨(cC, iS), fun q' h' => by cases h'; exact h⟩
  obtain ⟨f, hf⟩ := Classical.axiomOfChoice h0
  exact ⟨fun k => (f k).1, fun k => (f k).2, hf⟩
theorem z_pri {ty : FieldType} (h : (Cond.arrayClass ty).before A s = true) : ∃ cA : ClassId, ArrOfT s cA ty ∧ s.vm.findClass ("[" ++ ty.toString) = some cA := by
  obtain ⟨cA, kA, comp, h1, h2, h3⟩ := Cond.arrayClass_spec h
  exact ⟨cA, fun N z => ⟨(fun k h => by cases h), kA, h2, comp, h3⟩, h1⟩
theorem z_obj {C : String} (h : (Cond.arrayOver (.object C)).before A s = true) : ∃ cA : ClassId, ArrOfT s cA (.object C) ∧ va_RA s cA (.object C) := by
  obtain ⟨comp, cA, kA, h1, h2, h3, h4, h5⟩ := Cond.arrayOver_spec h
  exact ⟨cA, fun N z => ⟨(fun k h => by cases h), kA, h3, comp, h4⟩, kA, comp, h3, h4, h1, h5⟩
theorem z_ao5 (hts : ∀ w ∈ lw_tbl, w.before A s = true) : (Cond.arrayOver (.object RX5)).before A s = true := hts _ (z_T (i := 228) (by decide +kernel))
theorem z_ao4 (hts : ∀ w ∈ lw_tbl, w.before A s = true) : (Cond.arrayOver (.object RX4)).before A s = true := hts _ (z_T (i := 249) (by decide +kernel))
theorem z_arrs (hts : ∀ w ∈ lw_tbl, w.before A s = true) : ∃ dT : Nat → ClassId, ∀ (k : Nat) (q : ClassId × FieldType), (mT dT)[k]? = some q → ArrOfT s q.1 q.2 ∧ va_RA s q.1 q.2 := by
  have hw := z_words hts
  obtain ⟨c0, a0, b0⟩ := z_pri (hw _ cA_int)
  obtain ⟨c1, a1, b1⟩ := z_pri (hw _ cA_long)
  obtain ⟨c2, a2, b2⟩ := z_pri (hw _ cA_byte)
  obtain ⟨c3, a3, b3⟩ := z_pri (hw _ cA_bool)
  obtain ⟨c4, a4, b4⟩ := z_obj (z_ao5 hts)
  obtain ⟨c5, a5, b5⟩ := z_obj (z_ao4 hts)
  refine ⟨fun k => if k = 0 then c0 else if k = 1 then c1 else if k = 2 then c2 else if k = 3 then c3 else if k = 4 then c4 else c5, fun k q h => ?_⟩
  match k, h with
  | 0, h => cases h; exact ⟨a0, b0⟩
  | 1, h => cases h; exact ⟨a1, b1⟩
  | 2, h => cases h; exact ⟨a2, b2⟩
  | 3, h => cases h; exact ⟨a3, b3⟩
  | 4, h => cases h; exact ⟨a4, b4⟩
  | 5, h => cases h; exact ⟨a5, b5⟩
  | k + 6, h => cases h
theorem z_str (hts : ∀ w ∈ lw_tbl, w.before A s = true) (hg : (Jvm.Cond.and given_1 narrow_1).before A s = true) (hA : ∀ a : Nat, a < s.heap.size → ¬ s.heap.size ≤ a) :
    ∃ adK adV : Nat → Nat, vk_S 18 sjLen sjByt adK adV (fun q => s.heap.size ≤ q) s s.heap ∧ ∀ (i : Nat) (q : String × Nat × String), sjAll[i]? = some q → vk_R q.1 q.2.1 q.2.2 (adK i) s := by
  obtain ⟨adK, adV, h1, h2⟩ := vk_Sof (args := A) (s := s) (N := 18) (tm := zt) (len := sjLen) (byt := sjByt) (A := fun q => s.heap.size ≤ q) z_ln (fun i hi => z_F hg (z_ex i hi)) (fun i hi => z_F hg (z_co i hi)) (fun i hi => z_F hg (z_ar i hi)) (fun i hi => z_F hg (z_le i hi)) (fun i hi j hj => z_F hg (z_el i hi j hj)) (fun i j hi hj hij => by
    rcases Nat.lt_or_ge i j with h | h
    · exact Or.inl (z_F hg (z_ne j hj i h))
    · exact Or.inr (z_F hg (z_ne i hi j (by omega)))) hA
  refine ⟨adK, adV, h1, fun i q hq => ?_⟩
  have hi : i < 18 := (List.getElem?_eq_some_iff.mp hq).1
  have e : sjAll.getD i ("", 0, "") = q := by rw [List.getD_eq_getElem?_getD, hq]; rfl
  have h3 := hts _ (z_T (z_sr i hi))
  have h4 := h2 i hi
  unfold zt at h4
  rw [e] at h3 h4
  exact vk_R.of h3 h4
theorem z_sta (hts : ∀ w ∈ lw_tbl, w.before A s = true) (hg : (Jvm.Cond.and given_1 narrow_1).before A s = true) (hA : ∀ a : Nat, a < s.heap.size → ¬ s.heap.size ≤ a) :
    ∃ o : Option Nat, va_Z "java/lang/String" "COMPACT_STRINGS" "Z" (.int 1) (fun q => s.heap.size ≤ q) s s.heap ∧ va_Z "jdk/internal/util/Preconditions" "SIOOBE_FORMATTER" "Ljava/util/function/BiFunction;" (va_rf o) (fun q => s.heap.size ≤ q) s s.heap := by
  obtain ⟨v, hv, hr⟩ := Cond.isRef_spec (z_F hg (i := 5) (c := .isRef (.static "jdk/internal/util/Preconditions" "SIOOBE_FORMATTER" "Ljava/util/function/BiFunction;")) (by decide +kernel))
  have h2 : ∃ o : Option Nat, v = va_rf o := by
    cases v with
    | null => exact ⟨none, rfl⟩
    | ref a => exact ⟨some a, rfl⟩
    | _ => cases hr
  obtain ⟨o, rfl⟩ := h2
  exact ⟨o, va_Zof (hts _ (z_T (i := 497) (by decide +kernel))) (hts _ (z_T (i := 16) (by decide +kernel))) (va_eqt (z_F hg (i := 4) (by decide +kernel))) hA, va_Zof (hts _ (z_T (i := 513) (by decide +kernel))) (hts _ (z_T (i := 18) (by decide +kernel))) hv hA⟩
def zn (i : Nat) : Nat := [149, 173, 251, 258, 283, 309, 367, 840, 843, 914, 956, 976, 981, 1131, 1198, 1320].getD i 0
theorem z_ns : ∀ i, i < 16 → tables_1[zn i]? = (nestW[i]?).map (fun q => Cond.methodLinkNest q.1 q.2.1 q.2.2 "NoKnot") := by decide +kernel
theorem z_nest (hts : ∀ w ∈ lw_tbl, w.before A s = true) : ∀ q ∈ nestW, va_Nw (.methodLinkNest q.1 q.2.1 q.2.2 "NoKnot") s := by
  intro q hq
  obtain ⟨i, hi, e⟩ := List.getElem_of_mem hq
  have h1 := z_ns i hi
  rw [List.getElem?_eq_getElem hi, e] at h1
  exact hts _ (z_T h1)
/-- what every method may use holds at the start -/
theorem z_ok {b L : Nat} {xs : Nat → Int32} (hts : ∀ w ∈ lw_tbl, w.before A s = true) (hg : (Jvm.Cond.and given_1 narrow_1).before A s = true) (hX : va_X b L xs s s.heap) (hb : b < s.heap.size) :
    ∃ E : mG, E.1 = s.heap.size ∧ E.2.2.2.2.2 = (b, L, xs) ∧ mOK E s := by
  have hA : ∀ a : Nat, a < s.heap.size → ¬ s.heap.size ≤ a := fun a h => Nat.not_le.mpr h
  obtain ⟨dC, dI, h1⟩ := z_cls hts
  obtain ⟨dT, h2⟩ := z_arrs hts
  obtain ⟨adK, adV, h3, h4⟩ := z_str hts hg hA
  obtain ⟨o, h5, h6⟩ := z_sta hts hg hA
  exact ⟨(s.heap.size, (dC, dI), dT, adK, (adV, o), b, L, xs), rfl, rfl, ⟨h1, h2⟩, h3, h4, ⟨h5, h6⟩, hX, hb, Nat.le_refl _, z_nest hts, va_AO.of (z_ao5 hts), va_AO.of (z_ao4 hts)⟩
end
