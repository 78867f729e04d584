/-! rows: new cells, returns, calls -/
theorem dfl_fl : ∀ ci, ci < 13 → ∀ k, k < (clN ci).2.2 → cty ci k ≠ .float := by decide +kernel
theorem cls_lt {ci : Nat} {q : vw_C} (h : classes[ci]? = some q) : ci < 13 := (List.getElem?_eq_some_iff.mp h).1
theorem mv_dfl (E : mG) {t : FieldType} (h : t ≠ .float) : mv E (defaultValue t) = defaultValue t := by
  cases t <;> first | rfl | exact absurd rfl h
theorem mOK_call {E : mG} {s U : State} {H : Heap} {locs : List Loc} (h : mOK E s) (hS : va_S (fun q => E.1 ≤ q) s.heap H locs) (hU : U.heap = H) (hW : s.WarmedH U.vm) : mOK E U := by
  obtain ⟨h1, h2, h3, h4, h5, h6, h7, h8⟩ := h
  refine ⟨va_K.moved hW.alike h1, ?_, fun i q hq => (h3 i q hq).warm hW, ?_, ?_, h6, ?_, fun q hq => (h8.1 q hq).warmM hW, va_AO.moved hW.alike h8.2.1, va_AO.moved hW.alike h8.2.2⟩
  · rw [hU]
    exact (vk_S.moved hW.alike h2).kept hS.2.1
  · rw [hU]
    exact ⟨(va_Z.moved hW.alike h4.1).kept hS.2.1, (va_Z.moved hW.alike h4.2).kept hS.2.1⟩
  · rw [hU]
    exact (va_X.moved hW.alike h5).kept (hS.2.1 _ (Nat.lt_of_lt_of_le h6 h7) (Nat.not_le.mpr h6))
  · rw [hU]
    exact Nat.le_trans h7 hS.1
def vl (v : Option Value) (st : List Value) : List Value := match v with
  | some x => x :: st
  | none => st
section
variable {X : Nat × (Nat → Int32)} {y : mM} {d pc : Nat} {ls : mL} {st : List Value} {h : mH} {r : Option Value} {h' : mH}
theorem r_new {o idx ci : Nat} (hd : dcd y pc (.new idx) 3) (ho : oN o = y.1.cls) (hk : (o, idx, ci) ∈ KL) (hc : classes[ci]? = some (clN ci)) (k : MW X y d (pc + 3) ls (.ref h.1 :: st) (nwO h ci) r h') : MW X y d pc ls st h r h' := by
  have k1 : h.1 + 1 ≤ h'.1 := k.1.1
  have k2 : h.2.1 + (clN ci).2.2 ≤ h'.2.1 := k.1.2
  refine ⟨⟨by omega, by omega⟩, fun p l e R s m args below meth c H locs cells slots lsA E C hR hS hl q1 q2 => ?_⟩
  obtain ⟨⟨c1, c2, c3, c4, c5, c6⟩, -⟩ := clsOf hc
  have hown : s.vm.findClass (oN o) = some m.cls := by rw [ho]; exact C.2.2.2.1
  have hts := C.2.2.2.2.1
  have hKn := C.2.2.2.2.2.2.2.2.1.1.1 ci _ hc
  refine W.newcK C.1 C.2.1 hown (hts _ (KL_ok _ hk)) (hts _ c4) (hts _ c5) rfl hd (by omega) (by omega) hKn.2.1 hR.2 fun H1 kC hkC e1 z1 o1 => ?_
  refine k.2 p l e R s m args below meth c H1 locs (cells + 1) (slots + (clN ci).2.2) lsA E C (mR_push hR ?_ (by rw [z1, hR.2]) (fun q hq => o1 q (by rw [hR.2] at hq; exact hq))) ⟨Nat.le_trans hS.1 (by rw [hR.2]; omega), fun x h1 h2 => (o1 x (by rw [← hR.2]; exact Nat.lt_of_lt_of_le h1 hS.1)).trans (hS.2.1 x h1 h2), hS.2.2⟩ hl ?_ ?_
  · refine ⟨_, hc, (u_born (cty ci) hts c1 hKn hkC e1 c2).to (fun j hj => ?_)⟩
    have hj2 : j < (clN ci).2.2 := hj
    show defaultValue (cty ci j) = vp_V ((dfl ci).map (mv E)) j
    unfold vp_V dfl
    rw [List.getD_eq_getElem?_getD, List.getElem?_map, List.getElem?_map, List.getElem?_range hj2]
    exact (mv_dfl E (dfl_fl ci (cls_lt hc) j hj2)).symm
  · show cells + 1 + (h'.1 - (h.1 + 1)) ≤ R.cells
    omega
  · show slots + (clN ci).2.2 + (h'.2.1 - (h.2.1 + (clN ci).2.2)) ≤ R.slots
    omega
theorem r_newa {at_ : ArrayType} {t : Nat} {ty : FieldType} {n : Int32} {h1 : mH} (hd : dcd y pc (.newarray at_) 2) (hty : newarray.typeOf at_ = ty) (hw : Cond.arrayClass ty ∈ WT) (ht : ∀ dd : Nat → ClassId, (mT dd)[t]? = some (dd t, ty)) (hno : ∀ C, ty ≠ .object C) (hcb : componentBytes ty ≤ 8) (hz : ∀ (E : mG) (cA : ClassId) (N : Nat), vp_cell cA (mA E (N, zrA t)) = arrV cA N (fun _ => defaultValue ty))
    (hv : nwA h t n = some h1) (k : MW X y d (pc + 2) ls (.ref h.1 :: st) h1 r h') : MW X y d pc ls (.int n :: st) h r h' := by
  unfold nwA at hv
  split at hv
  · rename_i hq
    cases hv
    have k1 : h.1 + 1 ≤ h'.1 := k.1.1
    have k2 : h.2.1 + n.toNatClampNeg ≤ h'.2.1 := k.1.2
    refine ⟨⟨by omega, by omega⟩, fun p l e R s m args below meth c H locs cells slots lsA E C hR hS hl q1 q2 => ?_⟩
    have hts := C.2.2.2.2.1
    have hK := (C.2.2.2.2.2.2.2.2.1.1.2 t _ (ht E.2.2.1))
    subst hty
    refine va_newaK C.1 C.2.1 (hts _ hw) rfl hd rfl hq.1 rfl (Nat.le_trans (Nat.mul_le_mul hq.2 hcb) (by decide)) (by omega) (by omega) hR.2 fun H1 cA e1 z1 o1 hAr hNm => ?_
    have hcA : cA = E.2.2.1 t := by
      have h2 := hK.2
      unfold va_RA at h2
      cases hb : newarray.typeOf at_ <;> rw [hb] at h2 hNm <;> first | exact absurd hb (hno _) | exact Option.some.inj (hNm.symm.trans h2)
    subst hcA
    refine k.2 p l e R s m args below meth c H1 locs (cells + 1) (slots + n.toNatClampNeg) lsA E C (mR_push hR ?_ (by rw [z1, hR.2]) (fun q hq => o1 q (by rw [hR.2] at hq; exact hq))) ⟨Nat.le_trans hS.1 (by rw [hR.2]; omega), fun x h1 h2 => (o1 x (by rw [← hR.2]; exact Nat.lt_of_lt_of_le h1 hS.1)).trans (hS.2.1 x h1 h2), hS.2.2⟩ hl ?_ ?_
    · show H1[E.1 + h.1]? = some (vp_cell (E.2.2.1 t) (mA E (n.toNatClampNeg, zrA t)))
      rw [hz E]
      exact e1
    · show cells + 1 + (h'.1 - (h.1 + 1)) ≤ R.cells
      omega
    · show slots + n.toNatClampNeg + (h'.2.1 - (h.2.1 + n.toNatClampNeg)) ≤ R.slots
      omega
  · cases hv
theorem r_newq {o idx ci t : Nat} {n : Int32} {h1 : mH} (hd : dcd y pc (.anewarray idx) 3) (ho : oN o = y.1.cls) (hk : (o, idx, ci) ∈ KL) (ht : ∀ dd : Nat → ClassId, (mT dd)[t]? = some (dd t, .object (clN ci).1)) (hw : ∀ (E : mG) (s : State), mOK E s → va_AO (clN ci).1 s) (hz : zrA t = .inr (.inr (.inr (.inr (fun _ => none)))))
    (hv : nwA h t n = some h1) (k : MW X y d (pc + 3) ls (.ref h.1 :: st) h1 r h') : MW X y d pc ls (.int n :: st) h r h' := by
  unfold nwA at hv
  split at hv
  · rename_i hq
    cases hv
    have k1 : h.1 + 1 ≤ h'.1 := k.1.1
    have k2 : h.2.1 + n.toNatClampNeg ≤ h'.2.1 := k.1.2
    refine ⟨⟨by omega, by omega⟩, fun p l e R s m args below meth c H locs cells slots lsA E C hR hS hl q1 q2 => ?_⟩
    have hown : s.vm.findClass (oN o) = some m.cls := by rw [ho]; exact C.2.2.2.1
    have hts := C.2.2.2.2.1
    have hK := (C.2.2.2.2.2.2.2.2.1.1.2 t _ (ht E.2.2.1))
    refine W.anew C.1 C.2.1 hown (hts _ (KL_ok _ hk)) (va_AO.use (hw E s C.2.2.2.2.2.2.2.2.1)) rfl hd rfl hq.1 (Nat.le_trans (Nat.mul_le_mul_right 4 hq.2) (by decide)) (by omega) (by omega) fun cA kA comp f1 f2 f3 f4 => ?_
    generalize hH1 : H.push ({ cls := cA, slots := Array.replicate n.toNatClampNeg .null, vm := .none } : Cell) = H1
    have z1 : H1.size = H.size + 1 := by rw [← hH1, Array.size_push]
    have e1 : H1[H.size]? = some (arrV cA n.toNatClampNeg (fun _ => .null)) := by rw [← hH1, Array.getElem?_push_size, ← arrV_new]
    have o1 : ∀ q : Nat, q < H.size → H1[q]? = H[q]? := fun q hq => by rw [← hH1, Array.getElem?_push, if_neg (Nat.ne_of_lt hq)]
    have hcA : cA = E.2.2.1 t := by
      obtain ⟨kA2, comp2, -, -, -, g4⟩ := hK.2
      exact Option.some.inj (f1.symm.trans g4)
    subst hcA
    have k3 := k.2 p l e R s m args below meth c H1 locs (cells + 1) (slots + n.toNatClampNeg) lsA E C (mR_push hR (by
      show H1[E.1 + h.1]? = some (vp_cell (E.2.2.1 t) (mA E (n.toNatClampNeg, zrA t)))
      rw [hz, ← hR.2, e1]
      rfl) z1 o1) ⟨Nat.le_trans hS.1 (by omega), fun x h1 h2 => (o1 x (Nat.lt_of_lt_of_le h1 hS.1)).trans (hS.2.1 x h1 h2), hS.2.2⟩ hl (by show cells + 1 + (h'.1 - (h.1 + 1)) ≤ R.cells; omega) (by show slots + n.toNatClampNeg + (h'.2.1 - (h.2.1 + n.toNatClampNeg)) ≤ R.slots; omega)
    rw [List.map_cons, show mv E (.ref h.1) = .ref H.size by rw [hR.2]; rfl] at k3
    exact k3
  · cases hv
/-! returns -/
theorem mQ_end {E : mG} {v : Option Value} {s : State} {H : Heap} {locs : List Loc} {args : Array Value} (hR : mR E h H) (hS : va_S (fun q => E.1 ≤ q) s.heap H locs) : ∀ t : State, t.heap = H → s.WarmedH t.vm → mQ E v h args s (.returned (v.map (mv E))) t := fun t ht _ => ⟨rfl, by rw [ht]; exact hR, by rw [ht]; exact hS.1, fun q h1 h2 => by rw [ht]; exact hS.2.1 q h1 h2⟩
theorem r_iret {x : Int32} (hd : dcd y pc .ireturn 1) (hr : y.2.2.2 = some .int) : MW X y d pc ls [.int x] h (some (.int x)) h :=
  ⟨⟨Nat.le_refl _, Nat.le_refl _⟩, fun p l e R s m args below meth c H locs cells slots lsA E C hR hS hl q1 q2 => W.widen (by omega) (by omega) (W.iret C.1 C.2.1 (C.2.2.2.2.2.1.trans hr) (mQ_end (v := some (.int x)) hR hS) hS.2.2 hd C.2.2.2.2.2.2.1)⟩
theorem r_zret {x : Int32} (hd : dcd y pc .ireturn 1) (hr : y.2.2.2 = some .boolean) (hx : x &&& 1 = x) : MW X y d pc ls [.int x] h (some (.int x)) h :=
  ⟨⟨Nat.le_refl _, Nat.le_refl _⟩, fun p l e R s m args below meth c H locs cells slots lsA E C hR hS hl q1 q2 => W.widen (by omega) (by omega) (W.zret C.1 C.2.1 (C.2.2.2.2.2.1.trans hr) (by show Value.int (x &&& 1) = _; rw [hx]) (mQ_end (v := some (.int x)) hR hS) hS.2.2 hd C.2.2.2.2.2.2.1)⟩
theorem r_lret {x : Int64} (hd : dcd y pc .lreturn 1) (hr : y.2.2.2 = some .long) : MW X y d pc ls [.long x] h (some (.long x)) h :=
  ⟨⟨Nat.le_refl _, Nat.le_refl _⟩, fun p l e R s m args below meth c H locs cells slots lsA E C hR hS hl q1 q2 => W.widen (by omega) (by omega) (W.lret C.1 C.2.1 (C.2.2.2.2.2.1.trans hr) (mQ_end (v := some (.long x)) hR hS) hS.2.2 hd C.2.2.2.2.2.2.1)⟩
theorem r_vret (hd : dcd y pc .return_ 1) (hr : y.2.2.2 = none) : MW X y d pc ls [] h none h :=
  ⟨⟨Nat.le_refl _, Nat.le_refl _⟩, fun p l e R s m args below meth c H locs cells slots lsA E C hR hS hl q1 q2 => W.widen (by omega) (by omega) (W.vret C.1 C.2.1 (C.2.2.2.2.2.1.trans hr) (mQ_end (v := none) hR hS) hS.2.2 hd C.2.2.2.2.2.2.1)⟩
end
