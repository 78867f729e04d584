/-! String constants: length() and charAt() by contract -/
def ys_len : mM := (yJ0_length_8abf5, cJ0_length_8abf5, 1, (some .int))
theorem ys_len_c : Cond.code ys_len.1 ys_len.2.1 ys_len.2.2.1 ys_len.2.2.2 ∈ WT := WT_of (tt_3 (List.mem_of_getElem? (i := 11) rfl)) rfl
theorem ys_len_i : Cond.initialized ys_len.1.cls ∈ WT := WT_of (List.mem_of_getElem? (i := 131) (by decide +kernel)) rfl
theorem ys_len_n : ys_len.1.cls ≠ "java/lang/invoke/MethodHandle" ∧ ys_len.1.cls ≠ "java/lang/invoke/VarHandle" ∧ (parseMethodDescriptor ys_len.1.desc).map (fun d => d.parameters.length) = some 0 := by decide +kernel
theorem ys_len_p : plainFor ys_len.1 = true := by decide +kernel
theorem ys_len_v : Cond.instanceMethod ys_len.1 ∈ WT ∧ Cond.selects "java/lang/String" ys_len.1 ys_len.1 ∈ WT := ⟨WT_of (List.mem_of_getElem? (i := 604) (by decide +kernel)) rfl, WT_of (List.mem_of_getElem? (i := 605) (by decide +kernel)) rfl⟩
def ys_chr : mM := (yJ0_charAt_5068e, cJ0_charAt_5068e, 2, (some .char))
theorem ys_chr_c : Cond.code ys_chr.1 ys_chr.2.1 ys_chr.2.2.1 ys_chr.2.2.2 ∈ WT := WT_of (tt_3 (List.mem_of_getElem? (i := 21) rfl)) rfl
theorem ys_chr_i : Cond.initialized ys_chr.1.cls ∈ WT := WT_of (List.mem_of_getElem? (i := 131) (by decide +kernel)) rfl
theorem ys_chr_n : ys_chr.1.cls ≠ "java/lang/invoke/MethodHandle" ∧ ys_chr.1.cls ≠ "java/lang/invoke/VarHandle" ∧ (parseMethodDescriptor ys_chr.1.desc).map (fun d => d.parameters.length) = some 1 := by decide +kernel
theorem ys_chr_p : plainFor ys_chr.1 = true := by decide +kernel
theorem ys_chr_v : Cond.instanceMethod ys_chr.1 ∈ WT ∧ Cond.selects "java/lang/String" ys_chr.1 ys_chr.1 ∈ WT := ⟨WT_of (List.mem_of_getElem? (i := 614) (by decide +kernel)) rfl, WT_of (List.mem_of_getElem? (i := 615) (by decide +kernel)) rfl⟩
def ys_cod : mM := (yJ0_coder_7d493, cJ0_coder_7d493, 1, (some .byte))
theorem ys_cod_c : Cond.code ys_cod.1 ys_cod.2.1 ys_cod.2.2.1 ys_cod.2.2.2 ∈ WT := WT_of (tt_3 (List.mem_of_getElem? (i := 15) rfl)) rfl
theorem ys_cod_i : Cond.initialized ys_cod.1.cls ∈ WT := WT_of (List.mem_of_getElem? (i := 131) (by decide +kernel)) rfl
theorem ys_cod_n : ys_cod.1.cls ≠ "java/lang/invoke/MethodHandle" ∧ ys_cod.1.cls ≠ "java/lang/invoke/VarHandle" ∧ (parseMethodDescriptor ys_cod.1.desc).map (fun d => d.parameters.length) = some 0 := by decide +kernel
theorem ys_cod_p : plainFor ys_cod.1 = true := by decide +kernel
theorem ys_cod_v : Cond.instanceMethod ys_cod.1 ∈ WT ∧ Cond.selects "java/lang/String" ys_cod.1 ys_cod.1 ∈ WT := ⟨WT_of (List.mem_of_getElem? (i := 608) (by decide +kernel)) rfl, WT_of (List.mem_of_getElem? (i := 609) (by decide +kernel)) rfl⟩
def ys_lat : mM := (yJ0_isLatin1_aae02, cJ0_isLatin1_aae02, 1, (some .boolean))
theorem ys_lat_c : Cond.code ys_lat.1 ys_lat.2.1 ys_lat.2.2.1 ys_lat.2.2.2 ∈ WT := WT_of (tt_3 (List.mem_of_getElem? (i := 25) rfl)) rfl
theorem ys_lat_i : Cond.initialized ys_lat.1.cls ∈ WT := WT_of (List.mem_of_getElem? (i := 131) (by decide +kernel)) rfl
theorem ys_lat_n : ys_lat.1.cls ≠ "java/lang/invoke/MethodHandle" ∧ ys_lat.1.cls ≠ "java/lang/invoke/VarHandle" ∧ (parseMethodDescriptor ys_lat.1.desc).map (fun d => d.parameters.length) = some 0 := by decide +kernel
theorem ys_lat_p : plainFor ys_lat.1 = true := by decide +kernel
theorem ys_lat_v : Cond.instanceMethod ys_lat.1 ∈ WT ∧ Cond.selects "java/lang/String" ys_lat.1 ys_lat.1 ∈ WT := ⟨WT_of (List.mem_of_getElem? (i := 618) (by decide +kernel)) rfl, WT_of (List.mem_of_getElem? (i := 619) (by decide +kernel)) rfl⟩
def ys_chk : mM := (yJ0_checkIndex_df160, cJ0_checkIndex_df160, 2, none)
theorem ys_chk_c : Cond.code ys_chk.1 ys_chk.2.1 ys_chk.2.2.1 ys_chk.2.2.2 ∈ WT := WT_of (tt_3 (List.mem_of_getElem? (i := 31) rfl)) rfl
theorem ys_chk_i : Cond.initialized ys_chk.1.cls ∈ WT := WT_of (List.mem_of_getElem? (i := 131) (by decide +kernel)) rfl
theorem ys_chk_n : ys_chk.1.cls ≠ "java/lang/invoke/MethodHandle" ∧ ys_chk.1.cls ≠ "java/lang/invoke/VarHandle" ∧ (parseMethodDescriptor ys_chk.1.desc).map (fun d => d.parameters.length) = some 2 := by decide +kernel
theorem ys_chk_p : plainFor ys_chk.1 = true := by decide +kernel
theorem ys_chk_v : Cond.static ys_chk.1 ∈ WT := WT_of (List.mem_of_getElem? (i := 625) (by decide +kernel)) rfl
def ys_lch : mM := (yJ1_charAt_3b067, cJ1_charAt_3b067, 2, (some .char))
theorem ys_lch_c : Cond.code ys_lch.1 ys_lch.2.1 ys_lch.2.2.1 ys_lch.2.2.2 ∈ WT := WT_of (tt_3 (List.mem_of_getElem? (i := 28) rfl)) rfl
theorem ys_lch_i : Cond.initialized ys_lch.1.cls ∈ WT := WT_of (List.mem_of_getElem? (i := 132) (by decide +kernel)) rfl
theorem ys_lch_n : ys_lch.1.cls ≠ "java/lang/invoke/MethodHandle" ∧ ys_lch.1.cls ≠ "java/lang/invoke/VarHandle" ∧ (parseMethodDescriptor ys_lch.1.desc).map (fun d => d.parameters.length) = some 2 := by decide +kernel
theorem ys_lch_p : plainFor ys_lch.1 = true := by decide +kernel
theorem ys_lch_v : Cond.static ys_lch.1 ∈ WT := WT_of (List.mem_of_getElem? (i := 622) (by decide +kernel)) rfl
def ys_pre : mM := (yJ3_checkIndex_8e157, cJ3_checkIndex_8e157, 3, (some .int))
theorem ys_pre_c : Cond.code ys_pre.1 ys_pre.2.1 ys_pre.2.2.1 ys_pre.2.2.2 ∈ WT := WT_of (tt_3 (List.mem_of_getElem? (i := 36) rfl)) rfl
theorem ys_pre_i : Cond.initialized ys_pre.1.cls ∈ WT := WT_of (List.mem_of_getElem? (i := 133) (by decide +kernel)) rfl
theorem ys_pre_n : ys_pre.1.cls ≠ "java/lang/invoke/MethodHandle" ∧ ys_pre.1.cls ≠ "java/lang/invoke/VarHandle" ∧ (parseMethodDescriptor ys_pre.1.desc).map (fun d => d.parameters.length) = some 3 := by decide +kernel
theorem ys_pre_p : plainFor ys_pre.1 = true := by decide +kernel
theorem ys_pre_v : Cond.static ys_pre.1 ∈ WT := WT_of (List.mem_of_getElem? (i := 630) (by decide +kernel)) rfl
theorem sl_cod : Cond.methodLink "java/lang/String" 335 ys_cod.1 ∈ WT := WT_of (List.mem_of_getElem? (i := 607) (by decide +kernel)) rfl
theorem sl_lat : Cond.methodLink "java/lang/String" 492 ys_lat.1 ∈ WT := WT_of (List.mem_of_getElem? (i := 617) (by decide +kernel)) rfl
theorem sl_lch : Cond.methodLink "java/lang/String" 495 ys_lch.1 ∈ WT := WT_of (List.mem_of_getElem? (i := 621) (by decide +kernel)) rfl
theorem sl_chk : Cond.methodLink "java/lang/StringLatin1" 9 ys_chk.1 ∈ WT := WT_of (List.mem_of_getElem? (i := 624) (by decide +kernel)) rfl
theorem sl_pre : Cond.methodLink "java/lang/String" 1059 ys_pre.1 ∈ WT := WT_of (List.mem_of_getElem? (i := 629) (by decide +kernel)) rfl
theorem sf_val : Cond.fieldLink "java/lang/String" 9 "java/lang/String" "value" "[B" ∈ WT := WT_of (List.mem_of_getElem? (i := 2170) (by decide +kernel)) rfl
theorem sf_cod : Cond.fieldLink "java/lang/String" 15 "java/lang/String" "coder" "B" ∈ WT := WT_of (List.mem_of_getElem? (i := 2171) (by decide +kernel)) rfl
theorem sf_com : Cond.fieldLink "java/lang/String" 38 "java/lang/String" "COMPACT_STRINGS" "Z" ∈ WT := WT_of (List.mem_of_getElem? (i := 611) (by decide +kernel)) rfl
theorem sf_sio : Cond.fieldLink "java/lang/String" 1053 "jdk/internal/util/Preconditions" "SIOOBE_FORMATTER" "Ljava/util/function/BiFunction;" ∈ WT := WT_of (List.mem_of_getElem? (i := 627) (by decide +kernel)) rfl
theorem ds_len_0 : dcd ys_len 0 (.aload_n 0) 1 := by decide +kernel
theorem ds_len_1 : dcd ys_len 1 (.getfield 9) 3 := by decide +kernel
theorem ds_len_4 : dcd ys_len 4 (.arraylength) 1 := by decide +kernel
theorem ds_len_5 : dcd ys_len 5 (.aload_n 0) 1 := by decide +kernel
theorem ds_len_6 : dcd ys_len 6 (.invokevirtual 335) 3 := by decide +kernel
theorem ds_len_9 : dcd ys_len 9 (.ishr) 1 := by decide +kernel
theorem ds_len_10 : dcd ys_len 10 (.ireturn) 1 := by decide +kernel
theorem ds_chr_0 : dcd ys_chr 0 (.aload_n 0) 1 := by decide +kernel
theorem ds_chr_1 : dcd ys_chr 1 (.invokevirtual 492) 3 := by decide +kernel
theorem ds_chr_4 : dcd ys_chr 4 (.ifCond .eq 12) 3 := by decide +kernel
theorem ds_chr_7 : dcd ys_chr 7 (.aload_n 0) 1 := by decide +kernel
theorem ds_chr_8 : dcd ys_chr 8 (.getfield 9) 3 := by decide +kernel
theorem ds_chr_11 : dcd ys_chr 11 (.iload_n 1) 1 := by decide +kernel
theorem ds_chr_12 : dcd ys_chr 12 (.invokestatic 495) 3 := by decide +kernel
theorem ds_chr_15 : dcd ys_chr 15 (.ireturn) 1 := by decide +kernel
theorem ds_cod_0 : dcd ys_cod 0 (.getstatic 38) 3 := by decide +kernel
theorem ds_cod_3 : dcd ys_cod 3 (.ifCond .eq 10) 3 := by decide +kernel
theorem ds_cod_6 : dcd ys_cod 6 (.aload_n 0) 1 := by decide +kernel
theorem ds_cod_7 : dcd ys_cod 7 (.getfield 15) 3 := by decide +kernel
theorem ds_cod_10 : dcd ys_cod 10 (.goto 4) 3 := by decide +kernel
theorem ds_cod_14 : dcd ys_cod 14 (.ireturn) 1 := by decide +kernel
theorem ds_lat_0 : dcd ys_lat 0 (.getstatic 38) 3 := by decide +kernel
theorem ds_lat_3 : dcd ys_lat 3 (.ifCond .eq 14) 3 := by decide +kernel
theorem ds_lat_6 : dcd ys_lat 6 (.aload_n 0) 1 := by decide +kernel
theorem ds_lat_7 : dcd ys_lat 7 (.getfield 15) 3 := by decide +kernel
theorem ds_lat_10 : dcd ys_lat 10 (.ifCond .ne 7) 3 := by decide +kernel
theorem ds_lat_13 : dcd ys_lat 13 (.iconst 1) 1 := by decide +kernel
theorem ds_lat_14 : dcd ys_lat 14 (.goto 4) 3 := by decide +kernel
theorem ds_lat_18 : dcd ys_lat 18 (.ireturn) 1 := by decide +kernel
theorem ds_chk_0 : dcd ys_chk 0 (.iload_n 0) 1 := by decide +kernel
theorem ds_chk_1 : dcd ys_chk 1 (.iload_n 1) 1 := by decide +kernel
theorem ds_chk_2 : dcd ys_chk 2 (.getstatic 1053) 3 := by decide +kernel
theorem ds_chk_5 : dcd ys_chk 5 (.invokestatic 1059) 3 := by decide +kernel
theorem ds_chk_8 : dcd ys_chk 8 (.pop) 1 := by decide +kernel
theorem ds_chk_9 : dcd ys_chk 9 (.return_) 1 := by decide +kernel
theorem ds_lch_0 : dcd ys_lch 0 (.iload_n 1) 1 := by decide +kernel
theorem ds_lch_1 : dcd ys_lch 1 (.aload_n 0) 1 := by decide +kernel
theorem ds_lch_2 : dcd ys_lch 2 (.arraylength) 1 := by decide +kernel
theorem ds_lch_3 : dcd ys_lch 3 (.invokestatic 9) 3 := by decide +kernel
theorem ds_lch_6 : dcd ys_lch 6 (.aload_n 0) 1 := by decide +kernel
theorem ds_lch_7 : dcd ys_lch 7 (.iload_n 1) 1 := by decide +kernel
theorem ds_lch_8 : dcd ys_lch 8 (.baload) 1 := by decide +kernel
theorem ds_lch_9 : dcd ys_lch 9 (.sipush 255) 3 := by decide +kernel
theorem ds_lch_12 : dcd ys_lch 12 (.iand) 1 := by decide +kernel
theorem ds_lch_13 : dcd ys_lch 13 (.i2c) 1 := by decide +kernel
theorem ds_lch_14 : dcd ys_lch 14 (.ireturn) 1 := by decide +kernel
theorem ds_pre_0 : dcd ys_pre 0 (.iload_n 0) 1 := by decide +kernel
theorem ds_pre_1 : dcd ys_pre 1 (.ifCond .lt 8) 3 := by decide +kernel
theorem ds_pre_4 : dcd ys_pre 4 (.iload_n 0) 1 := by decide +kernel
theorem ds_pre_5 : dcd ys_pre 5 (.iload_n 1) 1 := by decide +kernel
theorem ds_pre_6 : dcd ys_pre 6 (.if_icmp .lt 10) 3 := by decide +kernel
theorem ds_pre_16 : dcd ys_pre 16 (.iload_n 0) 1 := by decide +kernel
theorem ds_pre_17 : dcd ys_pre 17 (.ireturn) 1 := by decide +kernel
section
variable {X : Nat × (Nat → Int32)} {y : mM} {d pc : Nat} {ls : mL} {st : List Value} {h : mH} {r : Option Value} {h' : mH}
theorem r_callSx {idx n d' : Nat} {yc : mM} {as : List Value} {v : Option Value} {h1 : mH} (hd : dcd y pc (.invokestatic idx) 3) (hl : Cond.methodLink y.1.cls idx yc.1 ∈ WT) (f1 : Cond.code yc.1 yc.2.1 yc.2.2.1 yc.2.2.2 ∈ WT) (f2 : Cond.initialized yc.1.cls ∈ WT) (f5 : yc.1.cls ≠ "java/lang/invoke/MethodHandle" ∧ yc.1.cls ≠ "java/lang/invoke/VarHandle" ∧ (parseMethodDescriptor yc.1.desc).map (fun d => d.parameters.length) = some n) (f6 : Cond.static yc.1 ∈ WT) (hn : as.length = n) (hml : yc.2.2.1 ≤ 45) (hw : (st.map fun v => v.category).sum ≤ 8) (hdd : d' < d)
    (hM : MM yc d' as h v h1) (k : MW X y d (pc + 3) ls (vl v st) h1 r h') : MW X y d pc ls (as.reverse ++ st) h r h' := by
  refine m_back hM k (fun {p l e R s m args below meth c H locs cells slots lsA E} C hR hS hlv hf hMet => ?_)
  have hts := C.2.2.2.2.1
  exact va_runS (As := as.map (mv E)) (rest := st.map (mv E)) (own := y.1.cls) (index := idx) (bytes := yc.2.1) (maxL := yc.2.2.1) (ret := yc.2.2.2) (n := n) (Ts := WT) (nL := y.2.2.1) (cc := y.2.1) ⟨C.1, C.2.1, C.2.2.1, C.2.2.2.1, hts⟩ hMet
    ⟨callB_of n hts (mws_good f1) rfl rfl rfl (hts _ f2) (hts _ hl) f5 (rm_ok hdd hml C.2.2.2.2.2.2.2.2.2.2.1 C.2.2.2.2.2.2.2.2.2.2.2), hts _ f6⟩
    ⟨blind E h _, fun U hU hW => ⟨rfl, mOK_call C.2.2.2.2.2.2.2.2.1 hS hU hW, by rw [hU]; exact hR⟩⟩ rfl (by rw [List.length_map]; exact hn) hlv.1
    (by show (as.reverse ++ st).map (mv E) = _; rw [List.map_append, List.map_reverse]) (lv_room (by rw [cat_map]; exact hw)) hd hf
theorem r_callVx {idx n d' : Nat} {u : UInt32} {yc : mM} {as : List Value} {v : Option Value} {h1 : mH} (hu : u.toNat < 18) (hd : dcd y pc (.invokevirtual idx) 3) (hl : Cond.methodLink y.1.cls idx yc.1 ∈ WT) (f1 : Cond.code yc.1 yc.2.1 yc.2.2.1 yc.2.2.2 ∈ WT) (f2 : Cond.initialized yc.1.cls ∈ WT) (f5 : yc.1.cls ≠ "java/lang/invoke/MethodHandle" ∧ yc.1.cls ≠ "java/lang/invoke/VarHandle" ∧ (parseMethodDescriptor yc.1.desc).map (fun d => d.parameters.length) = some n) (f6 : Cond.instanceMethod yc.1 ∈ WT ∧ Cond.selects "java/lang/String" yc.1 yc.1 ∈ WT) (hn : as.length = n) (hml : yc.2.2.1 ≤ 45) (hw : (st.map fun v => v.category).sum ≤ 8) (hdd : d' < d)
    (hM : MM yc d' (.float u :: as) h v h1) (k : MW X y d (pc + 3) ls (vl v st) h1 r h') : MW X y d pc ls (as.reverse ++ .float u :: st) h r h' := by
  refine m_back hM k (fun {p l e R s m args below meth c H locs cells slots lsA E} C hR hS hlv hf hMet => ?_)
  have hts := C.2.2.2.2.1
  exact va_runV (b := E.2.2.2.1 u.toNat) (As := as.map (mv E)) (rest := st.map (mv E)) (C := "java/lang/String") (own := y.1.cls) (index := idx) (bytes := yc.2.1) (maxL := yc.2.2.1) (ret := yc.2.2.2) (n := n) (Ts := WT) (nL := y.2.2.1) (cc := y.2.1) ⟨C.1, C.2.1, C.2.2.1, C.2.2.2.1, hts⟩ hMet
    ⟨callB_of n hts (mws_good f1) rfl rfl rfl (hts _ f2) (hts _ hl) f5 (rm_ok hdd hml C.2.2.2.2.2.2.2.2.2.2.1 C.2.2.2.2.2.2.2.2.2.2.2), hts _ f6.1, hts _ f6.2⟩
    ⟨blind E h _, vk_recv C.2.2.2.2.2.2.2.2.1.2.1 hu hS, fun U hU hW => ⟨rfl, mOK_call C.2.2.2.2.2.2.2.2.1 hS hU hW, by rw [hU]; exact hR⟩⟩ rfl (by rw [List.length_map]; exact hn) hlv.1
    (by show (as.reverse ++ .float u :: st).map (mv E) = _; rw [List.map_append, List.map_reverse]; rfl) (lv_room (by rw [cat_map]; exact hw)) hd hf
theorem r_sval {u : UInt32} (hu : u.toNat < 18) (hy : y.1.cls = "java/lang/String") (hd : dcd y pc (.getfield 9) 3) (k : MW X y d (pc + 3) ls (.retAddr (u.toNat + 2) :: st) h r h') : MW X y d pc ls (.float u :: st) h r h' :=
  MW.st k (fun {p l e R s m args below meth c H locs cells slots lsA E Q} C hR hS hl _ _ kk => vk_getf (own := "java/lang/String") C.1 C.2.1 (C.2.2.2.2.2.2.2.2.1.2.1.1 u.toNat hu).2.2.1 hS (by rw [← hy]; exact C.2.2.2.1) (C.2.2.2.2.1 _ sf_val) (fun x hx => hx) hd (kk _ hl))
theorem r_scod {u : UInt32} (hu : u.toNat < 18) (hy : y.1.cls = "java/lang/String") (hd : dcd y pc (.getfield 15) 3) (k : MW X y d (pc + 3) ls (.int 0 :: st) h r h') : MW X y d pc ls (.float u :: st) h r h' :=
  MW.st k (fun {p l e R s m args below meth c H locs cells slots lsA E Q} C hR hS hl _ _ kk => vk_getf (own := "java/lang/String") C.1 C.2.1 (C.2.2.2.2.2.2.2.2.1.2.1.1 u.toNat hu).2.1 hS (by rw [← hy]; exact C.2.2.2.1) (C.2.2.2.2.1 _ sf_cod) (fun x hx => hx) hd (kk _ hl))
theorem r_scom (hy : y.1.cls = "java/lang/String") (hd : dcd y pc (.getstatic 38) 3) (k : MW X y d (pc + 3) ls (.int 1 :: st) h r h') : MW X y d pc ls st h r h' :=
  MW.st k (fun {p l e R s m args below meth c H locs cells slots lsA E Q} C hR hS hl _ _ kk => va_gets (own := "java/lang/String") C.1 C.2.1 C.2.2.2.2.2.2.2.2.1.2.2.2.1.1 hS (by rw [← hy]; exact C.2.2.2.1) (C.2.2.2.2.1 _ sf_com) (fun x hx => hx) hd (kk _ hl))
theorem r_ssio (hy : y.1.cls = "java/lang/String") (hd : dcd y pc (.getstatic 1053) 3) (k : MW X y d (pc + 3) ls (.retAddr 1 :: st) h r h') : MW X y d pc ls st h r h' :=
  MW.st k (fun {p l e R s m args below meth c H locs cells slots lsA E Q} C hR hS hl _ _ kk => va_gets (own := "java/lang/String") C.1 C.2.1 C.2.2.2.2.2.2.2.2.1.2.2.2.1.2 hS (by rw [← hy]; exact C.2.2.2.1) (C.2.2.2.2.1 _ sf_sio) (fun x hx => hx) hd (kk _ hl))
theorem r_slenA {i : Nat} (hi : i < 18) (hd : dcd y pc .arraylength 1) (k : MW X y d (pc + 1) ls (.int (Int32.ofNat (sjLen.getD i 0)) :: st) h r h') : MW X y d pc ls (.retAddr (i + 2) :: st) h r h' :=
  MW.st k (fun {p l e R s m args below meth c H locs cells slots lsA E Q} C hR hS hl _ _ kk => va_tlen C.1 C.2.1 (C.2.2.2.2.2.2.2.2.1.2.1.1 i hi).2.2.2 hS rfl hd (kk _ hl))
theorem r_sbald {i : Nat} {x : Int32} (hi : i < 18) (hd : dcd y pc .baload 1) (hin : vp_in x (sjLen.getD i 0)) (k : MW X y d (pc + 1) ls (.int ((sjByt.getD i []).getD x.toNatClampNeg 0) :: st) h r h') : MW X y d pc ls (.int x :: .retAddr (i + 2) :: st) h r h' :=
  MW.st k (fun {p l e R s m args below meth c H locs cells slots lsA E Q} C hR hS hl _ _ kk => va_tb C.1 C.2.1 (C.2.2.2.2.2.2.2.2.1.2.1.1 i hi).2.2.2 hS hin rfl hd (kk _ hl))
theorem r_i2c {a : Int32} (hd : dcd y pc .i2c 1) (k : MW X y d (pc + 1) ls (.int (a.toUInt32 % 65536).toInt32 :: st) h r h') : MW X y d pc ls (.int a :: st) h r h' :=
  MW.st k (fun C _ _ hl _ _ kk => lv_i2c C.1 C.2.1 hd rfl (kk _ hl))
theorem r_nret {ty : FieldType} {x : Int32} (hd : dcd y pc .ireturn 1) (hr : y.2.2.2 = some ty) (hx : narrow ty (.int x) = .int x) : MW X y d pc ls [.int x] h (some (.int x)) h :=
  ⟨⟨Nat.le_refl _, Nat.le_refl _⟩, fun p l e R s m args below meth c H locs cells slots lsA E C hR hS hl q1 q2 => W.widen (by omega) (by omega) (W.zret C.1 C.2.1 (C.2.2.2.2.2.1.trans hr) hx (mQ_end (v := some (.int x)) hR hS) hS.2.2 hd C.2.2.2.2.2.2.1)⟩
end
theorem gd_el {l : List Int32} {n : Nat} (h : n < l.length) : l.getD n 0 = l[n] := by simp [List.getD, h]
theorem c_cod {u : UInt32} (hu : u.toNat < 18) (h : mH) : MM ys_cod 0 [.float u] h (some (.int 0)) h := by
  refine MM.of ys_cod_p (Nat.le_of_ble_eq_true rfl) (fun X => ?_)
  refine r_scom rfl ds_cod_0 ?_
  refine r_if_eq (t := 13) ds_cod_3 (by decide) (fun q => absurd q (by decide)) (fun _ => ?_)
  refine r_aload_n (v := .float u) ds_cod_6 rfl rfl rfl ?_
  refine r_scod hu rfl ds_cod_7 ?_
  refine r_goto (t := 14) ds_cod_10 (by decide) ?_
  exact r_nret ds_cod_14 rfl (by decide)
theorem c_lat {u : UInt32} (hu : u.toNat < 18) (h : mH) : MM ys_lat 0 [.float u] h (some (.int 1)) h := by
  refine MM.of ys_lat_p (Nat.le_of_ble_eq_true rfl) (fun X => ?_)
  refine r_scom rfl ds_lat_0 ?_
  refine r_if_eq (t := 17) ds_lat_3 (by decide) (fun q => absurd q (by decide)) (fun _ => ?_)
  refine r_aload_n (v := .float u) ds_lat_6 rfl rfl rfl ?_
  refine r_scod hu rfl ds_lat_7 ?_
  refine r_if_ne (t := 17) ds_lat_10 (by decide) (fun _ => ?_) (fun q => absurd rfl q)
  refine r_iconst ds_lat_13 ?_
  refine r_goto (t := 18) ds_lat_14 (by decide) ?_
  exact r_nret ds_lat_18 rfl (by decide)
theorem c_pre {a b : Int32} (h1 : ¬ a < 0) (h2 : a < b) (h : mH) : MM ys_pre 0 [.int a, .int b, .retAddr 1] h (some (.int a)) h := by
  refine MM.of ys_pre_p (Nat.le_of_ble_eq_true rfl) (fun X => ?_)
  refine r_iload_n (x := a) ds_pre_0 rfl rfl ?_
  refine r_if_lt (t := 9) ds_pre_1 (by decide) (fun q => absurd q h1) (fun _ => ?_)
  refine r_iload_n (x := a) ds_pre_4 rfl rfl ?_
  refine r_iload_n (x := b) ds_pre_5 rfl rfl ?_
  refine r_icmp_lt (t := 16) ds_pre_6 (by decide) (fun _ => ?_) (fun q => absurd h2 q)
  refine r_iload_n (x := a) ds_pre_16 rfl rfl ?_
  exact r_iret ds_pre_17 rfl
theorem c_chk {a b : Int32} (h1 : ¬ a < 0) (h2 : a < b) (h : mH) : MM ys_chk 1 [.int a, .int b] h none h := by
  refine MM.of ys_chk_p (Nat.le_of_ble_eq_true rfl) (fun X => ?_)
  refine r_iload_n (x := a) ds_chk_0 rfl rfl ?_
  refine r_iload_n (x := b) ds_chk_1 rfl rfl ?_
  refine r_ssio rfl ds_chk_2 ?_
  refine r_callSx (as := [.int a, .int b, .retAddr 1]) (st := []) ds_chk_5 sl_pre ys_pre_c ys_pre_i ys_pre_n ys_pre_v rfl (by decide) (by decide) (by decide) (c_pre h1 h2 h) ?_
  refine r_pop ds_chk_8 rfl ?_
  exact r_vret ds_chk_9 rfl
theorem sb_small : ∀ i, i < 18 → ∀ b ∈ sjByt.getD i [], b &&& 255 = b ∧ ((b &&& 255).toUInt32 % 65536).toInt32 = b ∧ narrow .char (.int b) = .int b := by decide +kernel
theorem sj_len : ∀ i, i < 18 → sjLen.getD i 0 = (sjByt.getD i []).length ∧ sjLen.getD i 0 < 256 := by decide +kernel
theorem c_lch {i : Nat} {a : Int32} (hi : i < 18) (hin : vp_in a (sjLen.getD i 0)) (h : mH) : MM ys_lch 2 [.retAddr (i + 2), .int a] h (some (.int ((sjByt.getD i []).getD a.toNatClampNeg 0))) h := by
  obtain ⟨l1, l2⟩ := sj_len i hi
  have hlt : a.toNatClampNeg < sjLen.getD i 0 := Nat.not_le.mp fun q => hin (Or.inr q)
  have h0 : ¬ a < 0 := fun q => hin (Or.inl q)
  have hb : (sjByt.getD i []).getD a.toNatClampNeg 0 ∈ sjByt.getD i [] := by
    have hl2 : a.toNatClampNeg < (sjByt.getD i []).length := by omega
    have e : (sjByt.getD i []).getD a.toNatClampNeg 0 = (sjByt.getD i [])[a.toNatClampNeg] := gd_el hl2
    rw [e]
    exact List.getElem_mem _
  obtain ⟨b1, b2, b3⟩ := sb_small i hi _ hb
  have h2 : a < Int32.ofNat (sjLen.getD i 0) := by
    obtain ⟨j, hj, rfl⟩ := vp_in_of hin (by omega)
    exact nI_lt hj (by omega)
  refine MM.of ys_lch_p (Nat.le_of_ble_eq_true rfl) (fun X => ?_)
  refine r_iload_n (x := a) ds_lch_0 rfl rfl ?_
  refine r_aload_n (v := .retAddr (i + 2)) ds_lch_1 rfl rfl rfl ?_
  refine r_slenA hi ds_lch_2 ?_
  refine r_callSx (as := [.int a, .int (Int32.ofNat (sjLen.getD i 0))]) (st := []) ds_lch_3 sl_chk ys_chk_c ys_chk_i ys_chk_n ys_chk_v rfl (by decide) (by decide) (by decide) (c_chk h0 h2 h) ?_
  refine r_aload_n (v := .retAddr (i + 2)) ds_lch_6 rfl rfl rfl ?_
  refine r_iload_n (x := a) ds_lch_7 rfl rfl ?_
  refine r_sbald hi ds_lch_8 hin ?_
  refine r_sipush ds_lch_9 (by decide) ?_
  refine r_iand ds_lch_12 ?_
  refine r_i2c ds_lch_13 ?_
  rw [show jI 255 = 255 from by decide, show iAnd ((sjByt.getD i []).getD a.toNatClampNeg 0) 255 = (sjByt.getD i []).getD a.toNatClampNeg 0 &&& 255 from rfl, b2]
  exact r_nret ds_lch_14 rfl b3
def sLen (u : UInt32) : Int32 := Int32.ofNat (sjLen.getD u.toNat 0)
def sChr (u : UInt32) (k : Int32) : Option Int32 := if u.toNat < 18 ∧ ¬ (k < 0 ∨ sjLen.getD u.toNat 0 ≤ k.toNatClampNeg) then some ((sjByt.getD u.toNat []).getD k.toNatClampNeg 0) else none
theorem c_len {u : UInt32} (hu : u.toNat < 18) (h : mH) : MM ys_len 1 [.float u] h (some (.int (sLen u))) h := by
  obtain ⟨l1, l2⟩ := sj_len u.toNat hu
  refine MM.of ys_len_p (Nat.le_of_ble_eq_true rfl) (fun X => ?_)
  refine r_aload_n (v := .float u) ds_len_0 rfl rfl rfl ?_
  refine r_sval hu rfl ds_len_1 ?_
  refine r_slenA hu ds_len_4 ?_
  refine r_aload_n (v := .float u) ds_len_5 rfl rfl rfl ?_
  refine r_callVx (as := []) (st := [.int (Int32.ofNat (sjLen.getD u.toNat 0))]) hu ds_len_6 sl_cod ys_cod_c ys_cod_i ys_cod_n ys_cod_v rfl (by decide) (Nat.le_of_ble_eq_true rfl) (by decide) (c_cod hu h) ?_
  refine r_ishr ds_len_9 ?_
  rw [show iShr (Int32.ofNat (sjLen.getD u.toNat 0)) 0 = Int32.ofNat (sjLen.getD u.toNat 0) from sc_shr0 (n := sjLen.getD u.toNat 0) (by omega)]
  exact r_iret ds_len_10 rfl
theorem c_chr {u : UInt32} {a x : Int32} (hx : sChr u a = some x) (h : mH) : MM ys_chr 3 [.float u, .int a] h (some (.int x)) h := by
  unfold sChr at hx
  split at hx
  · rename_i hq
    obtain ⟨hu, hin⟩ := hq
    cases hx
    have hlt : a.toNatClampNeg < sjLen.getD u.toNat 0 := Nat.not_le.mp fun q => hin (Or.inr q)
    obtain ⟨l1, l2⟩ := sj_len u.toNat hu
    have hb : (sjByt.getD u.toNat []).getD a.toNatClampNeg 0 ∈ sjByt.getD u.toNat [] := by
      have hl2 : a.toNatClampNeg < (sjByt.getD u.toNat []).length := by omega
      have e : (sjByt.getD u.toNat []).getD a.toNatClampNeg 0 = (sjByt.getD u.toNat [])[a.toNatClampNeg] := gd_el hl2
      rw [e]
      exact List.getElem_mem _
    obtain ⟨b1, b2, b3⟩ := sb_small u.toNat hu _ hb
    refine MM.of ys_chr_p (Nat.le_of_ble_eq_true rfl) (fun X => ?_)
    refine r_aload_n (v := .float u) ds_chr_0 rfl rfl rfl ?_
    refine r_callVx (as := []) (st := []) hu ds_chr_1 sl_lat ys_lat_c ys_lat_i ys_lat_n ys_lat_v rfl (by decide) (by decide) (by decide) (c_lat hu h) ?_
    refine r_if_eq (t := 16) ds_chr_4 (by decide) (fun q => absurd q (by decide)) (fun _ => ?_)
    refine r_aload_n (v := .float u) ds_chr_7 rfl rfl rfl ?_
    refine r_sval hu rfl ds_chr_8 ?_
    refine r_iload_n (x := a) ds_chr_11 rfl rfl ?_
    refine r_callSx (as := [.retAddr (u.toNat + 2), .int a]) (st := []) ds_chr_12 sl_lch ys_lch_c ys_lch_i ys_lch_n ys_lch_v rfl (by decide) (by decide) (by decide) (c_lch hu hin h) ?_
    exact r_nret ds_chr_15 rfl b3
  · cases hx
