/-! rows: calls of methods by their contracts; the JDK's own by the kit's rows -/
section
variable {X : Nat × (Nat → Int32)} {y : mM} {d pc : Nat} {ls : mL} {st : List Value} {h : mH} {r : Option Value} {h' : mH}
theorem cat_map (E : mG) (st : List Value) : ((st.map (mv E)).map fun v => v.category).sum = (st.map fun v => v.category).sum := by
  rw [List.map_map]
  congr 1
  apply List.map_congr_left
  intro v _
  exact mv_cat E v
theorem blind (E : mG) (h : mH) (a : List Value) : FrameBlind (va_Pc (a.map (mv E)) (fun U => mOK E U ∧ mR E h U.heap)) := fun _ U g mk q => ⟨q.1, mOK_blind q.2.1, q.2.2⟩
/-- what a call's run gives -/
theorem m_back {yc : mM} {d' : Nat} {a : List Value} {v : Option Value} {h1 : mH} {st0 : List Value} (hM : MM yc d' a h v h1) (k : MW X y d (pc + 3) ls (vl v st) h1 r h')
    (f : ∀ {p : Program} {l : Launch} {e : Env} {R : Room} {s : State} {m : MethodId} {args : Array Value} {below : List Frame} {meth : Method} {c : Code} {H : Heap} {locs : List Loc} {cells slots : Nat} {lsA : Array Slot} {E : mG},
      MC y E X d p R s m args meth c → mR E h H → va_S (fun q => E.1 ≤ q) s.heap H locs → lv_has lsA y.2.2.1 (ls.map (mq E)) → cells + (h1.1 - h.1) ≤ R.cells ∧ slots + (h1.2.1 - h.2.1) ≤ R.slots → Met l yc.1 (mws yc) (mRm d' h h1) (va_Pc (a.map (mv E)) (fun U => mOK E U ∧ mR E h U.heap)) (mQ E v h1) (h1.1 - h.1) (h1.2.1 - h.2.1) (fun q => E.1 ≤ q) →
      va_Run p l e R s m args below meth c H locs cells slots (h1.1 - h.1) (h1.2.1 - h.2.1) (F0 m pc lsA (st0.map (mv E))) (st.map (mv E)) (mQ E v h1 (a.map (mv E)).toArray) (fun q => E.1 ≤ q)) : MW X y d pc ls st0 h r h' := by
  have m1 := hM.1
  have m2 := k.1
  refine ⟨⟨by omega, by omega⟩, fun p l e R s m args below meth c H locs cells slots lsA E C hR hS hl q1 q2 => ?_⟩
  intro T hT X0
  obtain ⟨v0, st₀, t, T', L, h0, X', hL, e1, e2, ⟨hv, hR1, hF⟩, stp⟩ := f C hR hS hl ⟨by omega, by omega⟩ (hM.2 l E) T hT X0
  cases hv
  obtain ⟨t2, a1, b1⟩ := k.2 p l e R s m args below meth c T'.heap (locs ++ L) (cells + (h1.1 - h.1)) (slots + (h1.2.1 - h.2.1)) lsA E C (by rw [e1]; exact hR1) ⟨by rw [e1]; exact Nat.le_trans hS.1 (by rw [← h0]; exact hF.1), fun q g1 g2 => by
      rw [e1, hF.2 q (by rw [h0]; exact Nat.lt_of_lt_of_le g1 hS.1) g2, h0]
      exact hS.2.1 q g1 g2, fun q hq => by
      rcases List.mem_append.mp hq with hq | hq
      · exact hS.2.2 q hq
      · exact hL q hq⟩ hl (by omega) (by omega) T' rfl X'
  refine ⟨t2, stp t2 ?_, b1⟩
  have es : (v.map (mv E)).toList ++ st.map (mv E) = (vl v st).map (mv E) := by cases v <;> rfl
  show Steps p.tables e below (T'.setTop { F0 m pc lsA (st0.map (mv E)) with pc := pc + 3, stack := (v.map (mv E)).toList ++ st.map (mv E) }) t2
  rw [es]
  exact a1
theorem rm_ok {d' : Nat} {R : Room} {yc : mM} {h1 : mH} (hdd : d' < d) (hm : yc.2.2.1 ≤ 45) (g1 : d ≤ R.frames) (g2 : 64 * d + 64 ≤ R.locals) : (mRm d' h h1).frames + 1 ≤ R.frames ∧ 8 + (yc.2.2.1 + 11) + (mRm d' h h1).locals ≤ R.locals := by
  refine ⟨?_, ?_⟩
  · show d' + 1 ≤ R.frames
    omega
  · show 8 + (yc.2.2.1 + 11) + (64 * d' + 64) ≤ R.locals
    omega
theorem r_callV {o idx j ci n a d' : Nat} {yc : mM} {as : List Value} {v : Option Value} {h1 : mH} (hd : dcd y pc (.invokevirtual idx) 3) (ho : oN o = y.1.cls) (hl : (o, idx, j) ∈ ML) (hj : MT[j]? = some (yc, 0, ci, n)) (hc : classes[ci]? = some (clN ci)) (hn : as.length = n) (hml : yc.2.2.1 ≤ 45) (hw : (st.map fun v => v.category).sum ≤ 8) (hdd : d' < d)
    (hrc : rcv h ci a = some ()) (hM : MM yc d' (.ref a :: as) h v h1) (k : MW X y d (pc + 3) ls (vl v st) h1 r h') : MW X y d pc ls (as.reverse ++ .ref a :: st) h r h' := by
  obtain ⟨f1, f2, f3, f4, f5, f6, f7, f8, f9⟩ := mFx hj
  have hcell : ∃ fs, cell h a = some (.inr (ci, fs)) := by
    unfold rcv at hrc
    split at hrc
    · rename_i c fs hcl
      cases hb : Nat.beq c ci
      · rw [hb] at hrc; cases hrc
      · have := Nat.eq_of_beq_eq_true hb
        subst this
        exact ⟨fs, hcl⟩
    · cases hrc
  obtain ⟨fs, hcell⟩ := hcell
  refine m_back hM k (fun {p l e R s m args below meth c H locs cells slots lsA E} C hR hS hlv hf hMet => ?_)
  have hown : s.vm.findClass (oN o) = some m.cls := by rw [ho]; exact C.2.2.2.1
  have hts := C.2.2.2.2.1
  have hrcv := va_recv C.2.2.2.2.2.2.2.2.1.1 hR.1 hc (mR_at hR hcell).2.2.2
  have hlk := hts _ (ML_ok _ hl)
  have e3 : mlC (o, idx, j) = .methodLink (oN o) idx yc.1 := by show Cond.methodLink (oN o) idx (mN j) = _; rw [f3]
  rw [e3] at hlk
  exact va_runV (b := E.1 + a) (As := as.map (mv E)) (rest := st.map (mv E)) (C := (clN ci).1) (own := oN o) (index := idx) (bytes := yc.2.1) (maxL := yc.2.2.1) (ret := yc.2.2.2) (n := n) (Ts := WT) (nL := y.2.2.1) (cc := y.2.1) ⟨C.1, C.2.1, C.2.2.1, hown, hts⟩ hMet
    ⟨callB_of n hts (mws_good f1) rfl rfl rfl (hts _ f2) hlk f5 (rm_ok hdd hml C.2.2.2.2.2.2.2.2.2.2.1 C.2.2.2.2.2.2.2.2.2.2.2), hts _ (f7 (Or.inl rfl)), by rw [(f8 rfl).2]; exact hts _ (f8 rfl).1⟩
    ⟨blind E h _, hrcv, fun U hU hW => ⟨rfl, mOK_call C.2.2.2.2.2.2.2.2.1 hS hU hW, by rw [hU]; exact hR⟩⟩ rfl (by rw [List.length_map]; exact hn) hlv.1
    (by show (as.reverse ++ .ref a :: st).map (mv E) = _; rw [List.map_append, List.map_reverse]; rfl) (lv_room (by rw [cat_map]; exact hw)) hd hf
theorem r_callS {o idx j n ci d' : Nat} {yc : mM} {as : List Value} {v : Option Value} {h1 : mH} (hd : dcd y pc (.invokestatic idx) 3) (ho : oN o = y.1.cls) (hl : (o, idx, j) ∈ ML) (hj : MT[j]? = some (yc, 1, ci, n)) (hn : as.length = n) (hml : yc.2.2.1 ≤ 45) (hw : (st.map fun v => v.category).sum ≤ 8) (hdd : d' < d)
    (hM : MM yc d' as h v h1) (k : MW X y d (pc + 3) ls (vl v st) h1 r h') : MW X y d pc ls (as.reverse ++ st) h r h' := by
  obtain ⟨f1, f2, f3, f4, f5, f6, f7, f8, f9⟩ := mFx hj
  refine m_back hM k (fun {p l e R s m args below meth c H locs cells slots lsA E} C hR hS hlv hf hMet => ?_)
  have hown : s.vm.findClass (oN o) = some m.cls := by rw [ho]; exact C.2.2.2.1
  have hts := C.2.2.2.2.1
  have hlk := hts _ (ML_ok _ hl)
  have e3 : mlC (o, idx, j) = .methodLink (oN o) idx yc.1 := by show Cond.methodLink (oN o) idx (mN j) = _; rw [f3]
  rw [e3] at hlk
  exact va_runS (As := as.map (mv E)) (rest := st.map (mv E)) (own := oN o) (index := idx) (bytes := yc.2.1) (maxL := yc.2.2.1) (ret := yc.2.2.2) (n := n) (Ts := WT) (nL := y.2.2.1) (cc := y.2.1) ⟨C.1, C.2.1, C.2.2.1, hown, hts⟩ hMet
    ⟨callB_of n hts (mws_good f1) rfl rfl rfl (hts _ f2) hlk f5 (rm_ok hdd hml C.2.2.2.2.2.2.2.2.2.2.1 C.2.2.2.2.2.2.2.2.2.2.2), hts _ (f6 rfl)⟩
    ⟨blind E h _, fun U hU hW => ⟨rfl, mOK_call C.2.2.2.2.2.2.2.2.1 hS hU hW, by rw [hU]; exact hR⟩⟩ rfl (by rw [List.length_map]; exact hn) hlv.1
    (by show (as.reverse ++ st).map (mv E) = _; rw [List.map_append, List.map_reverse]) (lv_room (by rw [cat_map]; exact hw)) hd hf
theorem r_callI {o idx j n ci a d' : Nat} {yc : mM} {as : List Value} {h1 : mH} (hd : dcd y pc (.invokespecial idx) 3) (ho : oN o = y.1.cls) (hl : (o, idx, j) ∈ ML) (hj : MT[j]? = some (yc, 2, ci, n)) (hrn : yc.2.2.2 = none) (hn : as.length = n) (hml : yc.2.2.1 ≤ 45) (hw : (st.map fun v => v.category).sum ≤ 8) (hdd : d' < d)
    (hM : MM yc d' (.ref a :: as) h none h1) (k : MW X y d (pc + 3) ls st h1 r h') : MW X y d pc ls (as.reverse ++ .ref a :: st) h r h' := by
  obtain ⟨f1, f2, f3, f4, f5, f6, f7, f8, f9⟩ := mFx hj
  refine m_back (v := none) hM k (fun {p l e R s m args below meth c H locs cells slots lsA E} C hR hS hlv hf hMet => ?_)
  have hown : s.vm.findClass (oN o) = some m.cls := by rw [ho]; exact C.2.2.2.1
  have hts := C.2.2.2.2.1
  have hlk := hts _ (ML_ok _ hl)
  have e3 : mlC (o, idx, j) = .methodLink (oN o) idx yc.1 := by show Cond.methodLink (oN o) idx (mN j) = _; rw [f3]
  rw [e3] at hlk
  exact va_runI (b := E.1 + a) (As := as.map (mv E)) (rest := st.map (mv E)) (own := oN o) (index := idx) (bytes := yc.2.1) (maxL := yc.2.2.1) (n := n) (Ts := WT) (nL := y.2.2.1) (cc := y.2.1) ⟨C.1, C.2.1, C.2.2.1, hown, hts⟩ hMet
    ⟨callB_of n hts (mws_good f1) (by rw [← hrn]; rfl) rfl rfl (hts _ f2) hlk f5 (rm_ok hdd hml C.2.2.2.2.2.2.2.2.2.2.1 C.2.2.2.2.2.2.2.2.2.2.2), f9 rfl, hts _ (f7 (Or.inr rfl))⟩
    ⟨blind E h _, fun U hU hW => ⟨rfl, mOK_call C.2.2.2.2.2.2.2.2.1 hS hU hW, by rw [hU]; exact hR⟩⟩ rfl (by rw [List.length_map]; exact hn) hlv.1
    (by show (as.reverse ++ .ref a :: st).map (mv E) = _; rw [List.map_append, List.map_reverse]; rfl) (lv_room (by rw [cat_map]; exact hw)) hd hf
theorem NL_at {pl o idx j : Nat} (h : NL[pl]? = some (o, idx, j)) : (oN o, idx, mN j) ∈ nestW := by
  rw [← NL_eq]
  exact List.mem_map.mpr ⟨_, List.mem_of_getElem? h, rfl⟩
theorem r_callSN {o idx j n ci pl d' : Nat} {yc : mM} {as : List Value} {v : Option Value} {h1 : mH} (hd : dcd y pc (.invokestatic idx) 3) (ho : oN o = y.1.cls) (hl : NL[pl]? = some (o, idx, j)) (hj : MT[j]? = some (yc, 1, ci, n)) (hn : as.length = n) (hml : yc.2.2.1 ≤ 45) (hw : (st.map fun v => v.category).sum ≤ 8) (hdd : d' < d)
    (hM : MM yc d' as h v h1) (k : MW X y d (pc + 3) ls (vl v st) h1 r h') : MW X y d pc ls (as.reverse ++ st) h r h' := by
  obtain ⟨f1, f2, f3, f4, f5, f6, f7, f8, f9⟩ := mFx hj
  refine m_back hM k (fun {p l e R s m args below meth c H locs cells slots lsA E} C hR hS hlv hf hMet => ?_)
  have hown : s.vm.findClass (oN o) = some m.cls := by rw [ho]; exact C.2.2.2.1
  have hts := C.2.2.2.2.1
  have hlk := C.2.2.2.2.2.2.2.2.1.2.2.2.2.2.2.2.1 _ (NL_at hl)
  rw [f3] at hlk
  exact va_runSN (host := "NoKnot") (As := as.map (mv E)) (rest := st.map (mv E)) (own := oN o) (index := idx) (bytes := yc.2.1) (maxL := yc.2.2.1) (ret := yc.2.2.2) (n := n) (Ts := WT) (nL := y.2.2.1) (cc := y.2.1) ⟨C.1, C.2.1, C.2.2.1, hown, hts⟩ hMet
    ⟨va_cnB n hts (mws_good f1) rfl rfl rfl hlk (hts _ f2) f5 (rm_ok hdd hml C.2.2.2.2.2.2.2.2.2.2.1 C.2.2.2.2.2.2.2.2.2.2.2), hts _ (f6 rfl), trivial⟩
    ⟨blind E h _, fun U hU hW => ⟨rfl, mOK_call C.2.2.2.2.2.2.2.2.1 hS hU hW, by rw [hU]; exact hR⟩⟩ rfl (by rw [List.length_map]; exact hn) hlv.1
    (by show (as.reverse ++ st).map (mv E) = _; rw [List.map_append, List.map_reverse]) (lv_room (by rw [cat_map]; exact hw)) hd hf
theorem r_callIN {o idx j n ci pl a d' : Nat} {yc : mM} {as : List Value} {h1 : mH} (hd : dcd y pc (.invokespecial idx) 3) (ho : oN o = y.1.cls) (hl : NL[pl]? = some (o, idx, j)) (hj : MT[j]? = some (yc, 2, ci, n)) (hrn : yc.2.2.2 = none) (hn : as.length = n) (hml : yc.2.2.1 ≤ 45) (hw : (st.map fun v => v.category).sum ≤ 8) (hdd : d' < d)
    (hM : MM yc d' (.ref a :: as) h none h1) (k : MW X y d (pc + 3) ls st h1 r h') : MW X y d pc ls (as.reverse ++ .ref a :: st) h r h' := by
  obtain ⟨f1, f2, f3, f4, f5, f6, f7, f8, f9⟩ := mFx hj
  refine m_back (v := none) hM k (fun {p l e R s m args below meth c H locs cells slots lsA E} C hR hS hlv hf hMet => ?_)
  have hown : s.vm.findClass (oN o) = some m.cls := by rw [ho]; exact C.2.2.2.1
  have hts := C.2.2.2.2.1
  have hlk := C.2.2.2.2.2.2.2.2.1.2.2.2.2.2.2.2.1 _ (NL_at hl)
  rw [f3] at hlk
  exact va_runIN (host := "NoKnot") (b := E.1 + a) (As := as.map (mv E)) (rest := st.map (mv E)) (own := oN o) (index := idx) (bytes := yc.2.1) (maxL := yc.2.2.1) (n := n) (Ts := WT) (nL := y.2.2.1) (cc := y.2.1) ⟨C.1, C.2.1, C.2.2.1, hown, hts⟩ hMet
    ⟨va_cnB n hts (mws_good f1) (by rw [← hrn]; rfl) rfl rfl hlk (hts _ f2) f5 (rm_ok hdd hml C.2.2.2.2.2.2.2.2.2.2.1 C.2.2.2.2.2.2.2.2.2.2.2), f9 rfl, hts _ (f7 (Or.inr rfl))⟩
    ⟨blind E h _, fun U hU hW => ⟨rfl, mOK_call C.2.2.2.2.2.2.2.2.1 hS hU hW, by rw [hU]; exact hR⟩⟩ rfl (by rw [List.length_map]; exact hn) hlv.1
    (by show (as.reverse ++ .ref a :: st).map (mv E) = _; rw [List.map_append, List.map_reverse]; rfl) (lv_room (by rw [cat_map]; exact hw)) hd hf
end
