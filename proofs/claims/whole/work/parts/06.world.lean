/-! A SMALL MACHINE over the kit's rows. Its heap: how many cells, how many slots, the cells by number from 0 on (cell k lies at address z + k).
An array's cell: its kind (0 int, 1 long, 2 byte, 3 boolean, 4 Numbers, 5 Image), length and contents; an object's: its class's number, its fields.
Values: a reference is a cell's number; .float u is String constant u; .retAddr 0 is the script, 1 what SIOOBE_FORMATTER holds, n + 2 the bytes of String constant n. -/
abbrev mE : Type := (Nat × vp_A) ⊕ (Nat × List Value)
abbrev mH : Type := Nat × Nat × (Nat → mE)
/-- z; the classes' numbers and slots; the array classes' numbers; String constants' addresses, their bytes' addresses (and what Preconditions.SIOOBE_FORMATTER holds); the script: address, length, ints -/
abbrev mG : Type := Nat × va_G × (Nat → ClassId) × (Nat → Nat) × ((Nat → Nat) × Option Nat) × Nat × Nat × (Nat → Int32)
abbrev mL : Type := List (Nat × Value)
def mv (E : mG) : Value → Value
  | .ref k => .ref (E.1 + k)
  | .float u => .ref (E.2.2.2.1 u.toNat)
  | .retAddr 0 => .ref E.2.2.2.2.2.1
  | .retAddr 1 => va_rf E.2.2.2.2.1.2
  | .retAddr (n + 2) => .ref (E.2.2.2.2.1.1 n)
  | v => v
theorem mv_cat (E : mG) (v : Value) : (mv E v).category = v.category := by
  cases v with
  | retAddr n =>
    match n with
    | 0 => rfl
    | 1 => show (va_rf E.2.2.2.2.1.2).category = 1; cases E.2.2.2.2.1.2 <;> rfl
    | n + 2 => rfl
  | _ => rfl
def mq (E : mG) (q : Nat × Value) : Nat × Value := (q.1, mv E q.2)
def mA (E : mG) : vp_A → vp_A
  | (n, .inr (.inr (.inr (.inr f)))) => (n, .inr (.inr (.inr (.inr (fun j => (f j).map (fun k => E.1 + k))))))
  | x => x
theorem mA_fst (E : mG) (x : vp_A) : (mA E x).1 = x.1 := by
  obtain ⟨n, f | f | f | f | f⟩ := x <;> rfl
def mX (E : mG) : mE → va_E
  | .inl (t, a) => .inl (E.2.2.1 t, mA E a)
  | .inr (ci, fs) => .inr (ci, fs.map (mv E))
def mW (E : mG) (h : mH) : va_W := (List.range h.1).map (fun k => (E.1 + k, mX E (h.2.2 k)))
def mS (h : mH) (k : Nat) (e : mE) : mH := (h.1, h.2.1, fun j => if j = k then e else h.2.2 j)
def mP (h : mH) (n : Nat) (e : mE) : mH := (h.1 + 1, h.2.1 + n, fun j => if j = h.1 then e else h.2.2 j)
theorem mW_at {E : mG} {h : mH} {k : Nat} (hk : k < h.1) : (mW E h)[k]? = some (E.1 + k, mX E (h.2.2 k)) := by
  simp [mW, List.getElem?_map, List.getElem?_range, hk]
theorem mW_lt {E : mG} {h : mH} {k : Nat} {q : Nat × va_E} (hq : (mW E h)[k]? = some q) : k < h.1 ∧ q = (E.1 + k, mX E (h.2.2 k)) := by
  have hl : k < (mW E h).length := (List.getElem?_eq_some_iff.mp hq).1
  have hk : k < h.1 := by simpa [mW] using hl
  rw [mW_at hk] at hq
  exact ⟨hk, (Option.some.inj hq).symm⟩
theorem mW_len (E : mG) (h : mH) : (mW E h).length = h.1 := by simp [mW]
theorem mW_set {E : mG} {h : mH} {k : Nat} {e : mE} (hk : k < h.1) : (mW E h).set k (E.1 + k, mX E e) = mW E (mS h k e) := by
  apply List.ext_getElem?
  intro j
  by_cases hj : j < h.1
  · have e2 : (mW E (mS h k e))[j]? = some (E.1 + j, mX E ((mS h k e).2.2 j)) := mW_at (h := mS h k e) hj
    rw [e2]
    by_cases hjk : j = k
    · subst hjk
      rw [List.getElem?_set_self (by rw [mW_len]; exact hk)]
      simp [mS]
    · rw [List.getElem?_set_ne (Ne.symm hjk), mW_at hj]
      simp [mS, hjk]
  · rw [List.getElem?_eq_none (by rw [List.length_set, mW_len]; omega), List.getElem?_eq_none (by rw [mW_len]; show h.1 ≤ j; omega)]
theorem mW_push {E : mG} {h : mH} {n : Nat} {e : mE} : mW E h ++ [(E.1 + h.1, mX E e)] = mW E (mP h n e) := by
  unfold mW
  rw [show (mP h n e).1 = h.1 + 1 from rfl, List.range_succ, List.map_append]
  congr 1
  · apply List.map_congr_left
    intro k hk
    have hk' : k < h.1 := List.mem_range.mp hk
    have hne : k ≠ h.1 := Nat.ne_of_lt hk'
    simp [mP, hne]
  · simp [mP]
/-- the heap holds the cells, and nothing lies behind them -/
def mR (E : mG) (h : mH) (H : Heap) : Prop := va_P E.2.1 classes (mW E h) H ∧ H.size = E.1 + h.1
theorem mD (E : mG) (h : mH) : va_D (fun q => E.1 ≤ q) (mW E h) := by
  refine ⟨fun i j p q hi hj hpq => ?_, fun k q hk => ?_⟩
  · obtain ⟨-, rfl⟩ := mW_lt hi
    obtain ⟨-, rfl⟩ := mW_lt hj
    have : E.1 + i = E.1 + j := hpq
    omega
  · obtain ⟨-, rfl⟩ := mW_lt hk
    exact Nat.le_add_right _ _
def mT (d : Nat → ClassId) : List (ClassId × FieldType) := [(d 0, .int), (d 1, .long), (d 2, .byte), (d 3, .boolean), (d 4, .object RX5), (d 5, .object RX4)]
/-- the String constants: class, entry, text, by number -/
def sjAll : List (String × Nat × String) := [("NoKnot$Reader", 55, "stakes"), ("NoKnot$Reader", 64, "rod"), ("NoKnot$Reader", 107, "thick"), ("NoKnot$Reader", 109, "shrinks"), ("NoKnot$Reader", 111, "price"), ("NoKnot$Reader", 69, "band"), ("NoKnot$Reader", 119, "before"), ("NoKnot$Reader", 121, "behind"), ("NoKnot$Reader", 123, "rounds"), ("NoKnot$Reader", 125, "from"), ("NoKnot$Reader", 127, "with"), ("NoKnot$Reader", 136, "left"), ("NoKnot$Reader", 138, "out"), ("NoKnot$Reader", 140, "in"), ("NoKnot$Reader", 74, "slip"), ("NoKnot$Reader", 79, "overlap"), ("NoKnot$Reader", 90, "wide"), ("NoKnotModel", 91, " stakes rod thick shrinks price band before behind rounds from with left out in slip overlap wide ")]
def sjLen : List Nat := sjAll.map (fun q => q.2.2.toList.length)
def sjByt : List (List Int32) := sjAll.map (fun q => q.2.2.toList.map (fun c => Int32.ofNat c.toNat))
/-- the start's facts that every method may use -/
def mOK (E : mG) (U : State) : Prop := va_K E.2.1 classes (mT E.2.2.1) U ∧ vk_S 18 sjLen sjByt E.2.2.2.1 E.2.2.2.2.1.1 (fun q => E.1 ≤ q) U U.heap ∧ (∀ (i : Nat) (q : String × Nat × String), sjAll[i]? = some q → vk_R q.1 q.2.1 q.2.2 (E.2.2.2.1 i) U) ∧ (va_Z "java/lang/String" "COMPACT_STRINGS" "Z" (.int 1) (fun q => E.1 ≤ q) U U.heap ∧ va_Z "jdk/internal/util/Preconditions" "SIOOBE_FORMATTER" "Ljava/util/function/BiFunction;" (va_rf E.2.2.2.2.1.2) (fun q => E.1 ≤ q) U U.heap) ∧ va_X E.2.2.2.2.2.1 E.2.2.2.2.2.2.1 E.2.2.2.2.2.2.2 U U.heap ∧ E.2.2.2.2.2.1 < E.1 ∧ E.1 ≤ U.heap.size ∧ (∀ q ∈ nestW, va_Nw (.methodLinkNest q.1 q.2.1 q.2.2 "NoKnot") U) ∧ va_AO RX5 U ∧ va_AO RX4 U
def mws (y : mM) : List Cond := .code y.1 y.2.1 y.2.2.1 y.2.2.2 :: WT
theorem mws_good {y : mM} (h : Cond.code y.1 y.2.1 y.2.2.1 y.2.2.2 ∈ WT) : GoodIn WT (mws y) := by
  intro w hw
  have hm : w ∈ WT := by
    rcases List.mem_cons.mp hw with rfl | h2
    · exact h
    · exact h2
  exact ⟨hm, good_of_word (List.mem_filter.mp hm).2⟩
theorem mOK_blind {E : mG} {U : State} {g : JFrame} {mk : MethodId} {a : Array Value} (h : mOK E U) : mOK E (U.calling g mk a) := by
  obtain ⟨h1, h2, h3, h4, h5, h6, h7, h8⟩ := h
  exact ⟨va_K.moved (u := U) (U := U.calling g mk a) (Vm.Alike.refl U.vm) h1, vk_S.moved (u := U) (U := U.calling g mk a) (Vm.Alike.refl U.vm) h2, fun i q hq => (h3 i q hq).same rfl, h4, h5, h6, h7, fun q hq => (h8.1 q hq).same rfl rfl, va_AO.moved (u := U) (U := U.calling g mk a) (Vm.Alike.refl U.vm) h8.2.1, va_AO.moved (u := U) (U := U.calling g mk a) (Vm.Alike.refl U.vm) h8.2.2⟩
