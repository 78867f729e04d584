/-! rows: fields, arrays, new cells -/
theorem mW_new {E : mG} {h : mH} {a ci : Nat} {fs : List Value} (hc : cell h a = some (.inr (ci, fs))) {H : Heap} (hR : mR E h H) : (mW E h)[a]? = some (E.1 + a, .inr (ci, fs.map (mv E))) := (mR_at hR hc).2.2.2
theorem mT_at (d : Nat → ClassId) {t : Nat} (ht : t < 6) : ∃ ty, (mT d)[t]? = some (d t, ty) := by
  match t, ht with
  | 0, _ => exact ⟨_, rfl⟩
  | 1, _ => exact ⟨_, rfl⟩
  | 2, _ => exact ⟨_, rfl⟩
  | 3, _ => exact ⟨_, rfl⟩
  | 4, _ => exact ⟨_, rfl⟩
  | 5, _ => exact ⟨_, rfl⟩
section
variable {X : Nat × (Nat → Int32)} {y : mM} {d pc : Nat} {ls : mL} {st : List Value} {h : mH} {r : Option Value} {h' : mH}
theorem r_get {o idx ci kf a : Nat} {v : Value} (hd : dcd y pc (.getfield idx) 3) (ho : oN o = y.1.cls) (hf : (o, idx, ci, kf) ∈ FL) (hc : classes[ci]? = some (clN ci)) (hk : kf < (clN ci).2.2) (hv : gV h ci a kf = some v) (k : MW X y d (pc + 3) ls (v :: st) h r h') : MW X y d pc ls (.ref a :: st) h r h' :=
  MW.st k (fun {p l e R s m args below meth c H locs cells slots lsA E Q} C hR hS hl _ _ kk => by
    obtain ⟨fs, hcell, hfs⟩ := gV_s hv
    obtain ⟨⟨c1, c2, c3, c4, c5, c6⟩, -⟩ := clsOf hc
    have hw := C.2.2.2.2.1 _ (FL_ok _ hf)
    exact va_get (own := oN o) (ref := (clN ci).1) (C := (clN ci).1) (T := (clN ci).2.1) (N := (clN ci).2.2) (ci := ci) (index := idx) (Ts := WT) C.1 C.2.1 C.2.2.2.2.1 c1 (by rw [ho]; exact C.2.2.2.1) C.2.2.2.2.2.2.2.2.1.1 hR.1 a (mW_new hcell hR) hc kf hk hw (by rw [c6 kf hk]; exact fun x hx => hx) (v := mv E v) (by rw [List.getElem?_map, hfs]; rfl) hd (kk _ hl))
theorem r_put {o idx ci kf a : Nat} {v : Value} {h1 : mH} (hd : dcd y pc (.putfield idx) 3) (ho : oN o = y.1.cls) (hf : (o, idx, ci, kf) ∈ FL) (hc : classes[ci]? = some (clN ci)) (hk : kf < (clN ci).2.2) (hfin : ((clN ci).2.1 kf).2.2.2 = true → y.1.name = "<init>" ∧ (clN ci).1 = oN o)
    (hfit : ∀ E : mG, narrow (cty ci kf) (mv E v) = mv E v ∧ fits (cty ci kf) (mv E v) = true) (hp : pV h ci a kf v = some h1) (k : MW X y d (pc + 3) ls st h1 r h') : MW X y d pc ls (v :: .ref a :: st) h r h' := by
  obtain ⟨fs, hcell, hlen, rfl⟩ := pV_s hp
  obtain ⟨⟨c1, c2, c3, c4, c5, c6⟩, -⟩ := clsOf hc
  refine MW.hp k rfl rfl (fun {p l e R s m args below meth c H locs cells slots lsA E Q} C hR hS hl kk => ?_)
  have hown : s.vm.findClass (oN o) = some m.cls := by rw [ho]; exact C.2.2.2.1
  have hts := C.2.2.2.2.1
  have hK := C.2.2.2.2.2.2.2.2.1.1
  have hw := hts _ (FL_ok _ hf)
  obtain ⟨ha, hcl, hat, he⟩ := mR_at hR hcell
  have hap := va_apart (own := oN o) hts c1 (cty ci) c2 c3 hK hc
  obtain ⟨rr, g1, cel, q1, q2, q3, q4⟩ := hR.1 a _ he
  have hr : rr = clN ci := Option.some.inj (g1.symm.trans hc)
  subst hr
  obtain ⟨hSl, hfc, kC, hkC, hkind⟩ := hK.1 ci _ hc
  obtain ⟨cf, kfl, fi, f, hi, hsl⟩ := hSl kf hk
  have hst := (u_facts hfc hkC (u_lays hts c1 hk) hi).1
  have hd1 := c2 kf hk
  obtain ⟨hn, hft⟩ := hfit E
  have hsame : ∀ x, s.fieldFound? ((clN ci).2.1 kf).1 ((clN ci).2.1 kf).2.1 ((clN ci).2.1 kf).2.2.1 = some x → s.fieldFound? (clN ci).1 ((clN ci).2.1 kf).2.1 ((clN ci).2.1 kf).2.2.1 = some x := by
    rw [c6 kf hk]; exact fun x hx => hx
  have fin : ∀ (H1 : Heap), H1[E.1 + a]? = some (cel.setSlot f.slot (mv E v)) → H1.size = H.size → (∀ q, q ≠ E.1 + a → H1[q]? = H[q]?) → W p l e R s m args below meth c H1 (locs ++ [⟨E.1 + a, f.slot⟩]) cells slots Q (F0 m (pc + 3) lsA (st.map (mv E))) := by
    intro H1 e1 e2 e3
    rw [hsl] at e1
    refine kk H1 _ (mR_set hR ha ?_ e2 e3) (hS.put e2 e3 (Nat.le_add_right _ _))
    refine ⟨_, hc, ?_⟩
    have hmap : (fs.set kf v).map (mv E) = (fs.map (mv E)).set kf (mv E v) := by rw [List.map_set]
    show t_OB (E.1 + a) (E.2.1.1 ci) (clN ci).2.2 (E.2.1.2 ci) H1 (vp_V ((fs.set kf v).map (mv E)))
    rw [hmap]
    exact t_OB.to (V := updV (vp_V (fs.map (mv E))) kf (mv E v)) ⟨_, e1, q2, q3, t_set q4 hap hk (mv E v)⟩ (fun j _ => vp_updV_set (by rw [List.length_map]; exact hlen) (mv E v) j)
  cases hfb : ((clN ci).2.1 kf).2.2.2 with
  | false =>
    have hlay := hts _ (c1 _ (u_in_lay hk))
    unfold u_lay at hlay
    rw [if_neg (by rw [hfb]; decide)] at hlay
    have h6 := u_store hfc hkC hkind hlay hi hd1 hn hft
    exact W.putK C.1 C.2.1 (f := f) ⟨hown, hw, ⟨_, _, _, hsame _ hi⟩, hst⟩ (by rw [q2]; exact h6) q1 q3 (by rw [hsl]; exact k2_hasslot (q4 kf hk)) rfl rfl hd fin
  | true =>
    obtain ⟨hin1, hin2⟩ := hfin hfb
    have h6 := u_fits hfc hkC hkind (u_lays hts c1 hk) hi hd1 hn hft
    have hlay := hts _ (c1 _ (u_in_lay hk))
    unfold u_lay at hlay
    rw [if_pos hfb] at hlay
    have hcf : m.cls = cf := by
      obtain ⟨_, _, c', _, _, _, -, -, hf', -, -, -, hown2, -⟩ := Cond.laysFinal_spec hlay
      have e1 : c' = cf := by have := hi.symm.trans hf'; simp at this; exact this.1.symm
      rw [c6 kf hk, hin2] at hown2
      rw [← e1]; exact Option.some.inj (hown.symm.trans hown2)
    exact W.putFinK C.1 C.2.1 hown hw (hsame _ hi) hst hcf (by rw [C.2.2.2.2.2.2.2.1]; exact hin1) (by rw [q2]; exact h6) q1 q3 (by rw [hsl]; exact k2_hasslot (q4 kf hk)) rfl rfl hd fin
theorem r_alen {a : Nat} {n : Int32} (hd : dcd y pc .arraylength 1) (hv : lnA h a = some n) (k : MW X y d (pc + 1) ls (.int n :: st) h r h') : MW X y d pc ls (.ref a :: st) h r h' :=
  MW.st k (fun {p l e R s m args below meth c H locs cells slots lsA E Q} C hR hS hl _ _ kk => by
    unfold lnA at hv
    split at hv
    · rename_i t' x hc
      cases hb : Nat.blt t' 6
      · rw [hb] at hv; cases hv
      · rw [hb] at hv
        have ht : t' < 6 := Nat.lt_of_succ_le (by simpa [Nat.blt] using hb)
        obtain ⟨ty, hty⟩ := mT_at E.2.2.1 ht
        exact va_alen C.1 C.2.1 C.2.2.2.2.2.2.2.2.1.1 hR.1 a t' (mR_at hR hc).2.2.2 hty (v := n) (by rw [mA_fst]; exact Option.some.inj hv) hd (kk _ hl)
    · cases hv)
theorem r_iald {a : Nat} {i x : Int32} (hd : dcd y pc .iaload 1) (hv : ldI 0 h a i = some x) (k : MW X y d (pc + 1) ls (.int x :: st) h r h') : MW X y d pc ls (.int i :: .ref a :: st) h r h' :=
  MW.st k (fun {p l e R s m args below meth c H locs cells slots lsA E Q} C hR hS hl _ _ kk => by
    unfold ldI at hv
    split at hv
    · rename_i t' n f hc
      split at hv
      · rename_i hq
        obtain ⟨rfl, hin⟩ := hq
        cases hv
        exact va_iald C.1 C.2.1 C.2.2.2.2.2.2.2.2.1.1 hR.1 a 0 (mR_at hR hc).2.2.2 rfl hin hd (kk _ hl)
      · cases hv
    · cases hv)
theorem r_bald {a : Nat} {i x : Int32} (hd : dcd y pc .baload 1) (hv : ldI 2 h a i = some x) (k : MW X y d (pc + 1) ls (.int x :: st) h r h') : MW X y d pc ls (.int i :: .ref a :: st) h r h' :=
  MW.st k (fun {p l e R s m args below meth c H locs cells slots lsA E Q} C hR hS hl _ _ kk => by
    unfold ldI at hv
    split at hv
    · rename_i t' n f hc
      split at hv
      · rename_i hq
        obtain ⟨rfl, hin⟩ := hq
        cases hv
        exact va_bald C.1 C.2.1 C.2.2.2.2.2.2.2.2.1.1 hR.1 a 2 (mR_at hR hc).2.2.2 rfl hin hd (kk _ hl)
      · cases hv
    · cases hv)
theorem r_zald {a : Nat} {i x : Int32} (hd : dcd y pc .baload 1) (hv : ldI 3 h a i = some x) (k : MW X y d (pc + 1) ls (.int x :: st) h r h') : MW X y d pc ls (.int i :: .ref a :: st) h r h' :=
  MW.st k (fun {p l e R s m args below meth c H locs cells slots lsA E Q} C hR hS hl _ _ kk => by
    unfold ldI at hv
    split at hv
    · rename_i t' n f hc
      split at hv
      · rename_i hq
        obtain ⟨rfl, hin⟩ := hq
        cases hv
        exact va_zald C.1 C.2.1 C.2.2.2.2.2.2.2.2.1.1 hR.1 a 3 (mR_at hR hc).2.2.2 rfl hin hd (kk _ hl)
      · cases hv
    · cases hv)
theorem r_lald {a : Nat} {i : Int32} {x : Int64} (hd : dcd y pc .laload 1) (hv : ldL h a i = some x) (k : MW X y d (pc + 1) ls (.long x :: st) h r h') : MW X y d pc ls (.int i :: .ref a :: st) h r h' :=
  MW.st k (fun {p l e R s m args below meth c H locs cells slots lsA E Q} C hR hS hl _ _ kk => by
    unfold ldL at hv
    split at hv
    · rename_i t' n f hc
      split at hv
      · rename_i hq
        obtain ⟨rfl, hin⟩ := hq
        cases hv
        exact va_lald C.1 C.2.1 C.2.2.2.2.2.2.2.2.1.1 hR.1 a 1 (mR_at hR hc).2.2.2 rfl hin hd (kk _ hl)
      · cases hv
    · cases hv)
theorem r_aald {t a b : Nat} {i : Int32} (ht : t = 4 ∨ t = 5) (hd : dcd y pc .aaload 1) (hv : ldR t h a i = some b) (k : MW X y d (pc + 1) ls (.ref b :: st) h r h') : MW X y d pc ls (.int i :: .ref a :: st) h r h' :=
  MW.st k (fun {p l e R s m args below meth c H locs cells slots lsA E Q} C hR hS hl _ _ kk => by
    unfold ldR at hv
    split at hv
    · rename_i t' n f hc
      split at hv
      · rename_i hq
        obtain ⟨rfl, hin⟩ := hq
        have k1 := kk _ hl
        have e1 : Value.ref (E.1 + b) = va_rf ((f i.toNatClampNeg).map (fun k => E.1 + k)) := by rw [hv]; rfl
        rw [List.map_cons, show mv E (.ref b) = .ref (E.1 + b) from rfl, e1] at k1
        rcases ht with rfl | rfl
        · exact va_aldq (f := fun j => (f j).map (fun k => E.1 + k)) C.1 C.2.1 C.2.2.2.2.2.2.2.2.1.1 hR.1 a 4 (mR_at hR hc).2.2.2 rfl hin hd k1
        · exact va_aldq (f := fun j => (f j).map (fun k => E.1 + k)) C.1 C.2.1 C.2.2.2.2.2.2.2.2.1.1 hR.1 a 5 (mR_at hR hc).2.2.2 rfl hin hd k1
      · cases hv
    · cases hv)
theorem stI_s {t a : Nat} {i x : Int32} {h1 : mH} (e : stI t h a i x = some h1) : ∃ n f, cell h a = some (.inl (t, n, .inl f)) ∧ vp_in i n ∧ h1 = mS h a (.inl (t, n, .inl (upd f i.toNatClampNeg (narB t x)))) := by
  unfold stI at e
  split at e
  · rename_i t' n f hc
    split at e
    · rename_i hq
      obtain ⟨rfl, hin⟩ := hq
      exact ⟨n, f, hc, hin, (Option.some.inj e).symm⟩
    · cases e
  · cases e
theorem r_iast {a : Nat} {i x : Int32} {h1 : mH} (hd : dcd y pc .iastore 1) (hv : stI 0 h a i x = some h1) (k : MW X y d (pc + 1) ls st h1 r h') : MW X y d pc ls (.int x :: .int i :: .ref a :: st) h r h' := by
  obtain ⟨n, f, hc, hin, rfl⟩ := stI_s hv
  refine MW.hp k rfl rfl (fun {p l e R s m args below meth c H locs cells slots lsA E Q} C hR hS hl kk => ?_)
  obtain ⟨ha, hcl, hat, he⟩ := mR_at hR hc
  refine W.iast C.1 C.2.1 hat ((C.2.2.2.2.2.2.2.2.1.1.2 0 _ rfl).1 n (fun j => .int (f j))) (fun q => by cases q) (by show ¬ (i < 0 ∨ (arrV _ _ _).slots.size ≤ _); rw [arrV_size]; exact hin) rfl rfl hd fun H1 e z oq => ?_
  refine kk H1 _ (mR_set hR ha ?_ z oq) (hS.put z oq (Nat.le_add_right _ _))
  show H1[E.1 + a]? = some (vp_cell _ _)
  rw [e]
  show some ((vp_cell (E.2.2.1 0) (n, .inl f)).setSlot i.toNatClampNeg (.int x)) = some (vp_cell (E.2.2.1 0) (n, .inl (upd f i.toNatClampNeg (narB 0 x))))
  rw [vp_cell_i, vp_cell_i, arrV_store]
  congr 2
  funext q
  by_cases hq : q = i.toNatClampNeg
  · subst hq
    simp [updV, upd, narB]
  · simp [updV, upd, hq]
theorem r_bast {a : Nat} {i x : Int32} {h1 : mH} (hd : dcd y pc .bastore 1) (hv : stI 2 h a i x = some h1) (k : MW X y d (pc + 1) ls st h1 r h') : MW X y d pc ls (.int x :: .int i :: .ref a :: st) h r h' := by
  obtain ⟨n, f, hc, hin, rfl⟩ := stI_s hv
  refine MW.hp k rfl rfl (fun {p l e R s m args below meth c H locs cells slots lsA E Q} C hR hS hl kk => ?_)
  obtain ⟨ha, hcl, hat, he⟩ := mR_at hR hc
  refine W.bast C.1 C.2.1 hat ((C.2.2.2.2.2.2.2.2.1.1.2 2 _ rfl).1 n (fun j => .int (f j))) (fun q => by cases q) (by show ¬ (i < 0 ∨ (arrV _ _ _).slots.size ≤ _); rw [arrV_size]; exact hin) rfl rfl hd fun H1 e z oq => ?_
  refine kk H1 _ (mR_set hR ha ?_ z oq) (hS.put z oq (Nat.le_add_right _ _))
  show H1[E.1 + a]? = some (vp_cell _ _)
  rw [e]
  show some ((vp_cell (E.2.2.1 2) (n, .inl f)).setSlot i.toNatClampNeg (narrow .byte (.int x))) = some (vp_cell (E.2.2.1 2) (n, .inl (upd f i.toNatClampNeg (narB 2 x))))
  rw [vp_cell_i, vp_cell_i, arrV_store]
  congr 2
  funext q
  by_cases hq : q = i.toNatClampNeg
  · subst hq
    simp [updV, upd, narB, narrow]
  · simp [updV, upd, hq]
theorem r_zast {a : Nat} {i x : Int32} {h1 : mH} (hd : dcd y pc .bastore 1) (hv : stI 3 h a i x = some h1) (k : MW X y d (pc + 1) ls st h1 r h') : MW X y d pc ls (.int x :: .int i :: .ref a :: st) h r h' := by
  obtain ⟨n, f, hc, hin, rfl⟩ := stI_s hv
  refine MW.hp k rfl rfl (fun {p l e R s m args below meth c H locs cells slots lsA E Q} C hR hS hl kk => ?_)
  obtain ⟨ha, hcl, hat, he⟩ := mR_at hR hc
  refine W.zast C.1 C.2.1 hat ((C.2.2.2.2.2.2.2.2.1.1.2 3 _ rfl).1 n (fun j => .int (f j))) (fun q => by cases q) (by show ¬ (i < 0 ∨ (arrV _ _ _).slots.size ≤ _); rw [arrV_size]; exact hin) rfl rfl hd fun H1 e z oq => ?_
  refine kk H1 _ (mR_set hR ha ?_ z oq) (hS.put z oq (Nat.le_add_right _ _))
  show H1[E.1 + a]? = some (vp_cell _ _)
  rw [e]
  show some ((vp_cell (E.2.2.1 3) (n, .inl f)).setSlot i.toNatClampNeg (narrow .boolean (.int x))) = some (vp_cell (E.2.2.1 3) (n, .inl (upd f i.toNatClampNeg (narB 3 x))))
  rw [vp_cell_i, vp_cell_i, arrV_store]
  congr 2
  funext q
  by_cases hq : q = i.toNatClampNeg
  · subst hq
    simp [updV, upd, narB, narrow]
  · simp [updV, upd, hq]
theorem r_last {a : Nat} {i : Int32} {x : Int64} {h1 : mH} (hd : dcd y pc .lastore 1) (hv : stL h a i x = some h1) (k : MW X y d (pc + 1) ls st h1 r h') : MW X y d pc ls (.long x :: .int i :: .ref a :: st) h r h' := by
  unfold stL at hv
  split at hv
  · rename_i t' n f hc
    split at hv
    · rename_i hq
      obtain ⟨rfl, hin⟩ := hq
      cases hv
      refine MW.hp k rfl rfl (fun {p l e R s m args below meth c H locs cells slots lsA E Q} C hR hS hl kk => ?_)
      obtain ⟨ha, hcl, hat, he⟩ := mR_at hR hc
      refine W.last C.1 C.2.1 hat ((C.2.2.2.2.2.2.2.2.1.1.2 1 _ rfl).1 n (fun j => .long (f j))) (fun q => by cases q) (by show ¬ (i < 0 ∨ (arrV _ _ _).slots.size ≤ _); rw [arrV_size]; exact hin) rfl rfl hd fun H1 e z oq => ?_
      refine kk H1 _ (mR_set hR ha ?_ z oq) (hS.put z oq (Nat.le_add_right _ _))
      show H1[E.1 + a]? = some (vp_cell _ _)
      rw [e]
      show some ((vp_cell (E.2.2.1 1) (n, .inr (.inl f))).setSlot i.toNatClampNeg (.long x)) = some (vp_cell (E.2.2.1 1) (n, .inr (.inl (vp_updL f i.toNatClampNeg x))))
      rw [vp_cell_l, vp_cell_l, arrV_store]
      congr 2
      funext q
      by_cases hq : q = i.toNatClampNeg
      · subst hq
        simp [updV, vp_updL]
      · simp [updV, vp_updL, hq]
    · cases hv
  · cases hv
end
