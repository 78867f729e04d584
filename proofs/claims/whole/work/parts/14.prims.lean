/-! rows: Math, Object's constructor, arraycopy, arrays of objects, the script -/
theorem pw_max1 : Cond.static Lib.Math.max.name ∈ WT := WT_of (List.mem_of_getElem? (i := 802) (by decide +kernel)) rfl
theorem pw_max2 : Cond.code Lib.Math.max.name Lib.Math.max.code 2 (some .int) ∈ WT := WT_of (List.mem_of_getElem? (i := 803) (by decide +kernel)) rfl
theorem pw_min1 : Cond.static Lib.Math.min.name ∈ WT := WT_of (List.mem_of_getElem? (i := 570) (by decide +kernel)) rfl
theorem pw_min2 : Cond.code Lib.Math.min.name Lib.Math.min.code 2 (some .int) ∈ WT := WT_of (List.mem_of_getElem? (i := 571) (by decide +kernel)) rfl
theorem pw_abs1 : Cond.static Lib.Math.abs.name ∈ WT := WT_of (List.mem_of_getElem? (i := 1273) (by decide +kernel)) rfl
theorem pw_abs2 : Cond.code Lib.Math.abs.name Lib.Math.abs.code 1 (some .int) ∈ WT := WT_of (List.mem_of_getElem? (i := 1274) (by decide +kernel)) rfl
theorem pw_lmn1 : Cond.static Lib.MathLoose.min_long.x ∈ WT := WT_of (List.mem_of_getElem? (i := 1395) (by decide +kernel)) rfl
theorem pw_lmn2 : Cond.code Lib.MathLoose.min_long.x Lib.MathLoose.min_long.code 4 (some .long) ∈ WT := WT_of (List.mem_of_getElem? (i := 1396) (by decide +kernel)) rfl
theorem pw_math : Cond.initialized "java/lang/Math" ∈ WT := WT_of (List.mem_of_getElem? (i := 130) (by decide +kernel)) rfl
theorem pw_sys : Cond.initialized "java/lang/System" ∈ WT := WT_of (List.mem_of_getElem? (i := 135) (by decide +kernel)) rfl
theorem pw_ob1 : Cond.instanceMethod Lib.objectInit ∈ WT := WT_of (List.mem_of_getElem? (i := 143) (by decide +kernel)) rfl
theorem pw_ob2 : Cond.code Lib.objectInit ⟨#[0xb1]⟩ 1 none ∈ WT := WT_of (List.mem_of_getElem? (i := 144) (by decide +kernel)) rfl
theorem pw_ac1 : Cond.static arraycopyName ∈ WT := WT_of (List.mem_of_getElem? (i := 717) (by decide +kernel)) rfl
theorem pw_ac2 : Cond.native arraycopyName ∈ WT := WT_of (List.mem_of_getElem? (i := 718) (by decide +kernel)) rfl
def lMin (x y : Int64) : Int64 := if y < x then y else x
section
variable {X : Nat × (Nat → Int32)} {y : mM} {d pc : Nat} {ls : mL} {st : List Value} {h : mH} {r : Option Value} {h' : mH}
theorem r_max {o idx : Nat} {a b : Int32} (hd : dcd y pc (.invokestatic idx) 3) (ho : oN o = y.1.cls) (hl : (o, idx, 6) ∈ PL) (h1 : 1 ≤ d) (hw : (st.map fun v => v.category).sum ≤ 8) (k : MW X y d (pc + 3) ls (.int (iMax a b) :: st) h r h') : MW X y d pc ls (.int b :: .int a :: st) h r h' :=
  MW.st k (fun {p l e R s m args below meth c H locs cells slots lsA E Q} C hR hS hlv hc hs kk => va_mmax (own := oN o) C.1 C.2.1 (C.2.2.1.trans hlv.1.symm) (by rw [ho]; exact C.2.2.2.1) (C.2.2.2.2.1 _ (PL_ok _ hl)) (C.2.2.2.2.1 _ pw_max1) (C.2.2.2.2.1 _ pw_math) (C.2.2.2.2.1 _ pw_max2) (Nat.le_trans h1 C.2.2.2.2.2.2.2.2.2.2.1) (by rw [cat_map]; have := C.2.2.2.2.2.2.2.2.2.2.2; omega) hc hs hd (kk _ hlv))
theorem r_min {o idx : Nat} {a b : Int32} (hd : dcd y pc (.invokestatic idx) 3) (ho : oN o = y.1.cls) (hl : (o, idx, 7) ∈ PL) (h1 : 1 ≤ d) (hw : (st.map fun v => v.category).sum ≤ 8) (k : MW X y d (pc + 3) ls (.int (iMin a b) :: st) h r h') : MW X y d pc ls (.int b :: .int a :: st) h r h' :=
  MW.st k (fun {p l e R s m args below meth c H locs cells slots lsA E Q} C hR hS hlv hc hs kk => va_mmin (own := oN o) C.1 C.2.1 (C.2.2.1.trans hlv.1.symm) (by rw [ho]; exact C.2.2.2.1) (C.2.2.2.2.1 _ (PL_ok _ hl)) (C.2.2.2.2.1 _ pw_min1) (C.2.2.2.2.1 _ pw_math) (C.2.2.2.2.1 _ pw_min2) (Nat.le_trans h1 C.2.2.2.2.2.2.2.2.2.2.1) (by rw [cat_map]; have := C.2.2.2.2.2.2.2.2.2.2.2; omega) hc hs hd (kk _ hlv))
theorem r_abs {o idx : Nat} {a : Int32} (hd : dcd y pc (.invokestatic idx) 3) (ho : oN o = y.1.cls) (hl : (o, idx, 8) ∈ PL) (h1 : 1 ≤ d) (hw : (st.map fun v => v.category).sum ≤ 8) (k : MW X y d (pc + 3) ls (.int (iAbs a) :: st) h r h') : MW X y d pc ls (.int a :: st) h r h' :=
  MW.st k (fun {p l e R s m args below meth c H locs cells slots lsA E Q} C hR hS hlv hc hs kk => va_mabs (own := oN o) C.1 C.2.1 (C.2.2.1.trans hlv.1.symm) (by rw [ho]; exact C.2.2.2.1) (C.2.2.2.2.1 _ (PL_ok _ hl)) (C.2.2.2.2.1 _ pw_abs1) (C.2.2.2.2.1 _ pw_math) (C.2.2.2.2.1 _ pw_abs2) (Nat.le_trans h1 C.2.2.2.2.2.2.2.2.2.2.1) (by rw [cat_map]; have := C.2.2.2.2.2.2.2.2.2.2.2; omega) hc hs hd (kk _ hlv))
theorem r_lmin {o idx : Nat} {a b : Int64} (hd : dcd y pc (.invokestatic idx) 3) (ho : oN o = y.1.cls) (hl : (o, idx, 9) ∈ PL) (h1 : 1 ≤ d) (hw : (st.map fun v => v.category).sum ≤ 8) (k : MW X y d (pc + 3) ls (.long (lMin a b) :: st) h r h') : MW X y d pc ls (.long b :: .long a :: st) h r h' :=
  MW.st k (fun {p l e R s m args below meth c H locs cells slots lsA E Q} C hR hS hlv hc hs kk => va_mmin_long (own := oN o) C.1 C.2.1 (C.2.2.1.trans hlv.1.symm) (by rw [ho]; exact C.2.2.2.1) (C.2.2.2.2.1 _ (PL_ok _ hl)) (C.2.2.2.2.1 _ pw_lmn1) (C.2.2.2.2.1 _ pw_math) (C.2.2.2.2.1 _ pw_lmn2) (Nat.le_trans h1 C.2.2.2.2.2.2.2.2.2.2.1) (by rw [cat_map]; have := C.2.2.2.2.2.2.2.2.2.2.2; omega) hc hs hd (kk _ hlv))
theorem r_objI {o idx a : Nat} (hd : dcd y pc (.invokespecial idx) 3) (ho : oN o = y.1.cls) (hl : (o, idx, 5) ∈ PL) (h1 : 1 ≤ d) (hw : (st.map fun v => v.category).sum ≤ 8) (k : MW X y d (pc + 3) ls st h r h') : MW X y d pc ls (.ref a :: st) h r h' :=
  MW.st k (fun {p l e R s m args below meth c H locs cells slots lsA E Q} C hR hS hlv hc hs kk => W.objInit (own := oN o) C.1 C.2.1 (by rw [ho]; exact C.2.2.2.1) (C.2.2.2.2.1 _ (PL_ok _ hl)) (C.2.2.2.2.1 _ pw_ob1) (C.2.2.2.2.1 _ pw_ob2) rfl (hlv.1.trans C.2.2.1.symm) rfl hd (Nat.le_trans h1 C.2.2.2.2.2.2.2.2.2.2.1) (by show 2 * 0 + _ + 12 ≤ _; rw [cat_map]; have := C.2.2.2.2.2.2.2.2.2.2.2; omega) (kk _ hlv))
theorem r_sld {i : Int32} (hd : dcd y pc .iaload 1) (hin : ¬ (i < 0 ∨ X.1 ≤ i.toNatClampNeg)) (k : MW X y d (pc + 1) ls (.int (X.2 i.toNatClampNeg) :: st) h r h') : MW X y d pc ls (.int i :: .retAddr 0 :: st) h r h' :=
  MW.st k (fun {p l e R s m args below meth c H locs cells slots lsA E Q} C hR hS hl _ _ kk => by
    have hok := C.2.2.2.2.2.2.2.2.1
    have hX := C.2.2.2.2.2.2.2.2.2.1
    subst hX
    exact va_sld (xs := E.2.2.2.2.2.2.2) C.1 C.2.1 hok.2.2.2.2.1 (Nat.lt_of_lt_of_le hok.2.2.2.2.2.1 hok.2.2.2.2.2.2.1) (Nat.not_le.mpr hok.2.2.2.2.2.1) hS hin hd (kk _ hl))
theorem r_slen (hd : dcd y pc .arraylength 1) (k : MW X y d (pc + 1) ls (.int (Int32.ofNat X.1) :: st) h r h') : MW X y d pc ls (.retAddr 0 :: st) h r h' :=
  MW.st k (fun {p l e R s m args below meth c H locs cells slots lsA E Q} C hR hS hl _ _ kk => by
    have hok := C.2.2.2.2.2.2.2.2.1
    have hX := C.2.2.2.2.2.2.2.2.2.1
    subst hX
    exact va_slen (xs := E.2.2.2.2.2.2.2) C.1 C.2.1 hok.2.2.2.2.1 (Nat.lt_of_lt_of_le hok.2.2.2.2.2.1 hok.2.2.2.2.2.2.1) (Nat.not_le.mpr hok.2.2.2.2.2.1) hS hd (kk _ hl))
theorem stR_s {t ci a v : Nat} {i : Int32} {h1 : mH} (e : stR t ci h a i v = some h1) : ∃ n f fs, cell h a = some (.inl (t, n, .inr (.inr (.inr (.inr f))))) ∧ cell h v = some (.inr (ci, fs)) ∧ vp_in i n ∧ h1 = mS h a (.inl (t, n, .inr (.inr (.inr (.inr (va_up f i.toNatClampNeg (some v))))))) := by
  unfold stR at e
  split at e
  · rename_i t' n f c fs hc1 hc2
    split at e
    · rename_i hq
      obtain ⟨rfl, rfl, hin⟩ := hq
      exact ⟨n, f, fs, hc1, hc2, hin, (Option.some.inj e).symm⟩
    · cases e
  · cases e
theorem r_aast {t ci a v : Nat} {i : Int32} {h1 : mH} (hd : dcd y pc .aastore 1) (hc : classes[ci]? = some (clN ci)) (ht : ∀ dd : Nat → ClassId, (mT dd)[t]? = some (dd t, .object (clN ci).1)) (hv : stR t ci h a i v = some h1) (k : MW X y d (pc + 1) ls st h1 r h') : MW X y d pc ls (.ref v :: .int i :: .ref a :: st) h r h' := by
  obtain ⟨n, f, fs, hc1, hc2, hin, rfl⟩ := stR_s hv
  refine MW.hp k rfl rfl (fun {p l e R s m args below meth c H locs cells slots lsA E Q} C hR hS hl kk => ?_)
  obtain ⟨ha, hcl, hat, he⟩ := mR_at hR hc1
  have hK := C.2.2.2.2.2.2.2.2.1.1
  have hlt : i.toNatClampNeg < n := Nat.not_le.mp fun q => hin (Or.inr q)
  have h0 : ¬ i < 0 := fun q => hin (Or.inl q)
  obtain ⟨r', hr', cellV, g1, g2, g3, -⟩ := (mR_at hR hc2).2.2.1
  have hcls := (hK.1 ci _ hc).2
  obtain ⟨kA, comp, k1, k2, k3, -⟩ := (hK.2 t _ (ht E.2.2.1)).2
  have hcomp : comp = E.2.1.1 ci := Option.some.inj (k3.symm.trans hcls.1)
  subst hcomp
  obtain ⟨kC, hkC, -⟩ := hcls.2
  refine W.aast C.1 C.2.1 hat (fun q h => by cases h) (fun h => by cases h) k1 k2 rfl hkC ⟨h0, by show _ < (arrV _ _ _).slots.size; rw [arrV_size]; exact hlt⟩ g1 (fun q h => by rw [g3] at h; cases h) (by rw [g2]; exact hkC) (by rw [g2]; exact va_assign hcls) rfl rfl hd fun H1 e z oq => ?_
  refine kk H1 _ (mR_set hR ha ?_ z oq) (hS.put z oq (Nat.le_add_right _ _))
  show H1[E.1 + a]? = some (vp_cell _ _)
  rw [e]
  show some ((vp_cell (E.2.2.1 t) (n, .inr (.inr (.inr (.inr (fun j => (f j).map (fun k => E.1 + k))))))).setSlot i.toNatClampNeg (.ref (E.1 + v))) = some (vp_cell (E.2.2.1 t) (n, .inr (.inr (.inr (.inr (fun j => (va_up f i.toNatClampNeg (some v) j).map (fun k => E.1 + k)))))))
  rw [vp_cell_q, vp_cell_q, arrV_store]
  congr 2
  funext q
  by_cases hq : q = i.toNatClampNeg
  · subst hq
    simp [updV, va_up, va_rf]
  · simp [updV, va_up, hq]
theorem cpI_s {a0 a : Nat} {sp dp n : Int32} {h1 : mH} (e : cpI h a0 sp a dp n = some h1) : ∃ n0 f n1 g, cell h a0 = some (.inl (0, n0, .inl f)) ∧ cell h a = some (.inl (0, n1, .inl g)) ∧ ¬ sp < 0 ∧ ¬ dp < 0 ∧ ¬ n < 0 ∧ sp.toNatClampNeg + n.toNatClampNeg ≤ n0 ∧ dp.toNatClampNeg + n.toNatClampNeg ≤ n1 ∧ h1 = mS h a (.inl (0, n1, .inl (va_cpy f g sp.toNatClampNeg dp.toNatClampNeg n.toNatClampNeg))) := by
  unfold cpI at e
  split at e
  · rename_i t0 n0 f t1 n1 g hc1 hc2
    split at e
    · rename_i hq
      obtain ⟨rfl, rfl, q1, q2, q3, q4, q5⟩ := hq
      exact ⟨n0, f, n1, g, hc1, hc2, q1, q2, q3, q4, q5, (Option.some.inj e).symm⟩
    · cases e
  · cases e
theorem r_cpy {o idx a0 a : Nat} {sp dp n : Int32} {h1 : mH} (hd : dcd y pc (.invokestatic idx) 3) (ho : oN o = y.1.cls) (hlk : (o, idx, 10) ∈ PL) (hd1 : 1 ≤ d) (hw : (st.map fun v => v.category).sum ≤ 8) (hv : cpI h a0 sp a dp n = some h1) (k : MW X y d (pc + 3) ls st h1 r h') : MW X y d pc ls (.int n :: .int dp :: .ref a :: .int sp :: .ref a0 :: st) h r h' := by
  obtain ⟨n0, f, n1, g, hc0, hc1, p1, p2, p3, p4, p5, rfl⟩ := cpI_s hv
  refine MW.hp k rfl rfl (fun {p l e R s m args below meth c H locs cells slots lsA E Q} C hR hS hl kk => ?_)
  have hown : s.vm.findClass (oN o) = some m.cls := by rw [ho]; exact C.2.2.2.1
  have hts := C.2.2.2.2.1
  have hK := C.2.2.2.2.2.2.2.2.1.1
  obtain ⟨ha0, -, hat0, -⟩ := mR_at hR hc0
  obtain ⟨ha1, -, hat1, -⟩ := mR_at hR hc1
  have nn : ∀ z : Int32, ¬ z < 0 → z.toInt = (z.toNatClampNeg : Int) := by
    intro z hz
    have hz0 : (0 : Int) ≤ z.toInt := by
      have := Int32.not_lt.mp hz
      simpa using Int32.le_iff_toInt_le.mp this
    show z.toInt = ((z.toInt.toNat : Nat) : Int)
    omega
  intro T hT X0
  have hq0 : H[E.1 + a0]? = some (vp_cell (E.2.2.1 0) (n0, .inl f)) := hat0
  have hq1 : H[E.1 + a]? = some (vp_cell (E.2.2.1 0) (n1, .inl g)) := hat1
  obtain ⟨-, k0, hk0, cm0, hkk0⟩ := (hK.2 0 _ rfl).1 n0 (fun j => .int (f j))
  obtain ⟨-, k1, hk1, cm1, hkk1⟩ := (hK.2 0 _ rfl).1 n1 (fun j => .int (g j))
  obtain ⟨vm', X', step⟩ := X0.arraycopy C.1 hown (hts _ (PL_ok _ hlk)) (hts _ pw_ac2) (hts _ pw_ac1) (hts _ pw_sys) (src := E.1 + a0) (dst := E.1 + a) (cs := vp_cell (E.2.2.1 0) (n0, .inl f)) (cd := vp_cell (E.2.2.1 0) (n1, .inl g)) (srcPos := sp) (destPos := dp) (n := n) (by rw [hT]; exact hq0) (by rw [hT]; exact hq1)
    (fun _ h => by cases h) (fun _ h => by cases h) (fun h => by cases h) (fun h => by cases h) hk0 hk1 hkk0 hkk1 (by simp [refKind]) p1 p2 p3
    (by rw [nn sp p1, nn n p3]; show ¬ _ > ((arrV (E.2.2.1 0) n0 (fun j => .int (f j))).slots.size : Int); rw [arrV_size]; omega)
    (by rw [nn dp p2, nn n p3]; show ¬ _ > ((arrV (E.2.2.1 0) n1 (fun j => .int (g j))).slots.size : Int); rw [arrV_size]; omega)
    (fun vm₁ _ i hi => by
      have e : (vp_cell (E.2.2.1 0) (n0, .inl f)).slots.getD (sp.toNatClampNeg + i) .null = .int (f (sp.toNatClampNeg + i)) := by
        show (arrV (E.2.2.1 0) n0 (fun j => .int (f j))).slots.getD _ _ = _
        rw [Array.getD_eq_getD_getElem?, arrV_read _ _ (by omega)]
        rfl
      refine ⟨?_, ?_⟩
      · rw [e]
        rfl
      · rw [e]
        exact trivial)
    (g := F0 m pc lsA (.int n :: .int dp :: .ref (E.1 + a) :: .int sp :: .ref (E.1 + a0) :: st.map (mv E))) rfl (by rw [C.2.2.1]; exact hl.1) (rest := st.map (mv E)) rfl (by rw [C.2.1]; exact hd) (Nat.le_trans hd1 C.2.2.2.2.2.2.2.2.2.2.1) (by show 2 * 0 + _ + (nativeFrameWords "java/lang/System" "arraycopy" 5 + 11) ≤ _; rw [cat_map]; have := C.2.2.2.2.2.2.2.2.2.2.2; have e9 : nativeFrameWords "java/lang/System" "arraycopy" 5 + 11 ≤ 56 := (by decide +kernel); omega)
  have e1 : copied (vp_cell (E.2.2.1 0) (n0, .inl f)) (vp_cell (E.2.2.1 0) (n1, .inl g)) sp dp n = vp_cell (E.2.2.1 0) (n1, .inl (va_cpy f g sp.toNatClampNeg dp.toNatClampNeg n.toNatClampNeg)) := va_copied (fun z => .int z) (E.2.2.1 0) (E.2.2.1 0) f g p4
  rw [e1] at X' step
  have hlt : E.1 + a < H.size := (Array.getElem?_eq_some_iff.mp hq1).1
  have hheap : ((T.setVm vm').setCell (E.1 + a) (vp_cell (E.2.2.1 0) (n1, .inl (va_cpy f g sp.toNatClampNeg dp.toNatClampNeg n.toNatClampNeg)))).heap = H.setIfInBounds (E.1 + a) (vp_cell (E.2.2.1 0) (n1, .inl (va_cpy f g sp.toNatClampNeg dp.toNatClampNeg n.toNatClampNeg))) := by rw [← hT]; rfl
  have oq : ∀ q : Nat, q ≠ E.1 + a → (H.setIfInBounds (E.1 + a) (vp_cell (E.2.2.1 0) (n1, .inl (va_cpy f g sp.toNatClampNeg dp.toNatClampNeg n.toNatClampNeg))))[q]? = H[q]? := fun q hq => by simp [Array.getElem?_setIfInBounds, Ne.symm hq]
  obtain ⟨t, a1, b1⟩ := kk _ _ (mR_set (e := .inl (0, n1, .inl (va_cpy f g sp.toNatClampNeg dp.toNatClampNeg n.toNatClampNeg))) hR ha1 (show (H.setIfInBounds (E.1 + a) _)[E.1 + a]? = some _ by simp [Array.getElem?_setIfInBounds, hlt]; rfl) (by simp) oq) ⟨by simp; exact hS.1, fun q g1 g2 => by
      rw [oq q (fun e => g2 (by rw [e]; exact Nat.le_add_right _ _))]
      exact hS.2.1 q g1 g2, fun q hq => by
      rcases List.mem_append.mp hq with h | h
      · exact hS.2.2 q h
      · obtain ⟨z, -, hz⟩ := List.mem_map.mp h
        rw [← hz]
        exact Nat.le_add_right _ _⟩ _ hheap X'
  exact ⟨t, step t a1, b1⟩
end
