/-! rows: numbers, stacks -/
section
variable {X : Nat × (Nat → Int32)} {y : mM} {d pc : Nat} {ls : mL} {st : List Value} {h : mH} {r : Option Value} {h' : mH}
theorem r_iadd {a b : Int32} (hd : dcd y pc .iadd 1) (k : MW X y d (pc + 1) ls (.int (iAdd a b) :: st) h r h') : MW X y d pc ls (.int b :: .int a :: st) h r h' :=
  MW.st k (fun C _ _ hl _ _ kk => lv_iadd C.1 C.2.1 hd (kk _ hl))
theorem r_isub {a b : Int32} (hd : dcd y pc .isub 1) (k : MW X y d (pc + 1) ls (.int (iSub a b) :: st) h r h') : MW X y d pc ls (.int b :: .int a :: st) h r h' :=
  MW.st k (fun C _ _ hl _ _ kk => lv_isub C.1 C.2.1 hd (kk _ hl))
theorem r_imul {a b : Int32} (hd : dcd y pc .imul 1) (k : MW X y d (pc + 1) ls (.int (iMul a b) :: st) h r h') : MW X y d pc ls (.int b :: .int a :: st) h r h' :=
  MW.st k (fun C _ _ hl _ _ kk => lv_imul C.1 C.2.1 hd (kk _ hl))
theorem r_iand {a b : Int32} (hd : dcd y pc .iand 1) (k : MW X y d (pc + 1) ls (.int (iAnd a b) :: st) h r h') : MW X y d pc ls (.int b :: .int a :: st) h r h' :=
  MW.st k (fun C _ _ hl _ _ kk => lv_iand C.1 C.2.1 hd (kk _ hl))
theorem r_ior {a b : Int32} (hd : dcd y pc .ior 1) (k : MW X y d (pc + 1) ls (.int (iOr a b) :: st) h r h') : MW X y d pc ls (.int b :: .int a :: st) h r h' :=
  MW.st k (fun C _ _ hl _ _ kk => lv_ior C.1 C.2.1 hd (kk _ hl))
theorem r_ixor {a b : Int32} (hd : dcd y pc .ixor 1) (k : MW X y d (pc + 1) ls (.int (iXor a b) :: st) h r h') : MW X y d pc ls (.int b :: .int a :: st) h r h' :=
  MW.st k (fun C _ _ hl _ _ kk => lv_ixor C.1 C.2.1 hd (kk _ hl))
theorem r_ishl {a b : Int32} (hd : dcd y pc .ishl 1) (k : MW X y d (pc + 1) ls (.int (iShl a b) :: st) h r h') : MW X y d pc ls (.int b :: .int a :: st) h r h' :=
  MW.st k (fun C _ _ hl _ _ kk => lv_ishl C.1 C.2.1 hd (kk _ hl))
theorem r_ishr {a b : Int32} (hd : dcd y pc .ishr 1) (k : MW X y d (pc + 1) ls (.int (iShr a b) :: st) h r h') : MW X y d pc ls (.int b :: .int a :: st) h r h' :=
  MW.st k (fun C _ _ hl _ _ kk => lv_ishr C.1 C.2.1 hd (kk _ hl))
theorem r_iushr {a b : Int32} (hd : dcd y pc .iushr 1) (k : MW X y d (pc + 1) ls (.int (iUsr a b) :: st) h r h') : MW X y d pc ls (.int b :: .int a :: st) h r h' :=
  MW.st k (fun C _ _ hl _ _ kk => lv_iushr (v := iUsr a b) C.1 C.2.1 hd rfl (kk _ hl))
theorem r_idiv {a b : Int32} (hd : dcd y pc .idiv 1) (hne : ¬ b = 0) (k : MW X y d (pc + 1) ls (.int (iDiv a b) :: st) h r h') : MW X y d pc ls (.int b :: .int a :: st) h r h' :=
  MW.st k (fun C _ _ hl _ _ kk => lv_idiv C.1 C.2.1 hd hne (kk _ hl))
theorem r_irem {a b : Int32} (hd : dcd y pc .irem 1) (hne : ¬ b = 0) (k : MW X y d (pc + 1) ls (.int (iRem a b) :: st) h r h') : MW X y d pc ls (.int b :: .int a :: st) h r h' :=
  MW.st k (fun C _ _ hl _ _ kk => lv_irem C.1 C.2.1 hd hne (kk _ hl))
theorem r_ineg {a : Int32} (hd : dcd y pc .ineg 1) (k : MW X y d (pc + 1) ls (.int (iNeg a) :: st) h r h') : MW X y d pc ls (.int a :: st) h r h' :=
  MW.st k (fun C _ _ hl _ _ kk => lv_ineg C.1 C.2.1 hd (kk _ hl))
theorem r_ladd {a b : Int64} (hd : dcd y pc .ladd 1) (k : MW X y d (pc + 1) ls (.long (lAdd a b) :: st) h r h') : MW X y d pc ls (.long b :: .long a :: st) h r h' :=
  MW.st k (fun C _ _ hl _ _ kk => lv_ladd C.1 C.2.1 hd (kk _ hl))
theorem r_lsub {a b : Int64} (hd : dcd y pc .lsub 1) (k : MW X y d (pc + 1) ls (.long (lSub a b) :: st) h r h') : MW X y d pc ls (.long b :: .long a :: st) h r h' :=
  MW.st k (fun C _ _ hl _ _ kk => lv_lsub C.1 C.2.1 hd (kk _ hl))
theorem r_lmul {a b : Int64} (hd : dcd y pc .lmul 1) (k : MW X y d (pc + 1) ls (.long (lMul a b) :: st) h r h') : MW X y d pc ls (.long b :: .long a :: st) h r h' :=
  MW.st k (fun C _ _ hl _ _ kk => lv_lmul C.1 C.2.1 hd (kk _ hl))
theorem r_land {a b : Int64} (hd : dcd y pc .land 1) (k : MW X y d (pc + 1) ls (.long (lAnd a b) :: st) h r h') : MW X y d pc ls (.long b :: .long a :: st) h r h' :=
  MW.st k (fun C _ _ hl _ _ kk => lv_land C.1 C.2.1 hd (kk _ hl))
theorem r_lor {a b : Int64} (hd : dcd y pc .lor 1) (k : MW X y d (pc + 1) ls (.long (lOr a b) :: st) h r h') : MW X y d pc ls (.long b :: .long a :: st) h r h' :=
  MW.st k (fun C _ _ hl _ _ kk => lv_lor C.1 C.2.1 hd (kk _ hl))
theorem r_lshl {a : Int64} {b : Int32} (hd : dcd y pc .lshl 1) (k : MW X y d (pc + 1) ls (.long (lShl a b) :: st) h r h') : MW X y d pc ls (.int b :: .long a :: st) h r h' :=
  MW.st k (fun C _ _ hl _ _ kk => lv_lshl (v := lShl a b) C.1 C.2.1 hd rfl (kk _ hl))
theorem r_lshr {a : Int64} {b : Int32} (hd : dcd y pc .lshr 1) (k : MW X y d (pc + 1) ls (.long (lShr a b) :: st) h r h') : MW X y d pc ls (.int b :: .long a :: st) h r h' :=
  MW.st k (fun C _ _ hl _ _ kk => lv_lshr (v := lShr a b) C.1 C.2.1 hd rfl (kk _ hl))
theorem r_lushr {a : Int64} {b : Int32} (hd : dcd y pc .lushr 1) (k : MW X y d (pc + 1) ls (.long (lUsr a b) :: st) h r h') : MW X y d pc ls (.int b :: .long a :: st) h r h' :=
  MW.st k (fun C _ _ hl _ _ kk => lv_lushr (v := lUsr a b) C.1 C.2.1 hd rfl (kk _ hl))
theorem r_i2l {a : Int32} (hd : dcd y pc .i2l 1) (k : MW X y d (pc + 1) ls (.long a.toInt64 :: st) h r h') : MW X y d pc ls (.int a :: st) h r h' :=
  MW.st k (fun C _ _ hl _ _ kk => lv_i2l (v := a.toInt64) C.1 C.2.1 hd rfl (kk _ hl))
theorem r_l2i {a : Int64} (hd : dcd y pc .l2i 1) (k : MW X y d (pc + 1) ls (.int a.toInt32 :: st) h r h') : MW X y d pc ls (.long a :: st) h r h' :=
  MW.st k (fun C _ _ hl _ _ kk => lv_l2i (v := a.toInt32) C.1 C.2.1 hd rfl (kk _ hl))
theorem r_i2b {a : Int32} (hd : dcd y pc .i2b 1) (k : MW X y d (pc + 1) ls (.int (iByt a) :: st) h r h') : MW X y d pc ls (.int a :: st) h r h' :=
  MW.st k (fun C _ _ hl _ _ kk => lv_i2b (v := iByt a) C.1 C.2.1 hd rfl (kk _ hl))
theorem r_i2s {a : Int32} (hd : dcd y pc .i2s 1) (k : MW X y d (pc + 1) ls (.int (iSho a) :: st) h r h') : MW X y d pc ls (.int a :: st) h r h' :=
  MW.st k (fun C _ _ hl _ _ kk => lv_i2s (v := iSho a) C.1 C.2.1 hd rfl (kk _ hl))
theorem r_dup {v : Value} (hd : dcd y pc .dup 1) (hv : v.category = 1) (k : MW X y d (pc + 1) ls (v :: v :: st) h r h') : MW X y d pc ls (v :: st) h r h' :=
  MW.st k (fun {p l e R s m args below meth c H locs cells slots lsA E Q} C _ _ hl _ _ kk => lv_dup C.1 C.2.1 hd ((mv_cat E v).trans hv) (kk _ hl))
theorem r_pop {v : Value} (hd : dcd y pc .pop 1) (hv : v.category = 1) (k : MW X y d (pc + 1) ls st h r h') : MW X y d pc ls (v :: st) h r h' :=
  MW.st k (fun {p l e R s m args below meth c H locs cells slots lsA E Q} C _ _ hl _ _ kk => lv_pop C.1 C.2.1 hd ((mv_cat E v).trans hv) (kk _ hl))
theorem r_dup2 {v u : Value} (hd : dcd y pc .dup2 1) (hv : v.category = 1) (hu : u.category = 1) (k : MW X y d (pc + 1) ls (v :: u :: v :: u :: st) h r h') : MW X y d pc ls (v :: u :: st) h r h' :=
  MW.st k (fun {p l e R s m args below meth c H locs cells slots lsA E Q} C _ _ hl _ _ kk => lv_dup2_11 C.1 C.2.1 hd ((mv_cat E v).trans hv) ((mv_cat E u).trans hu) (kk _ hl))
theorem r_pop2 {a : Int64} (hd : dcd y pc .pop2 1) (k : MW X y d (pc + 1) ls st h r h') : MW X y d pc ls (.long a :: st) h r h' :=
  MW.st k (fun C _ _ hl _ _ kk => lv_pop2_2 C.1 C.2.1 hd rfl (kk _ hl))
theorem r_goto {off : Int} {t : Nat} (hd : dcd y pc (.goto off) 3) (ht : (pc : Int) + off = (t : Int)) (k : MW X y d t ls st h r h') : MW X y d pc ls st h r h' :=
  MW.st k (fun C _ _ hl _ _ kk => lv_goto C.1 C.2.1 hd ht (kk _ hl))
theorem MW.br {X : Nat × (Nat → Int32)} {y : mM} {d pc p1 p2 : Nat} {ls : mL} {st st' : List Value} {h : mH} {r : Option Value} {h' : mH} {c : Prop} [Decidable c] (k1 : c → MW X y d p1 ls st' h r h') (k2 : ¬ c → MW X y d p2 ls st' h r h')
    (f : ∀ {p : Program} {l : Launch} {e : Env} {R : Room} {s : State} {m : MethodId} {args : Array Value} {below : List Frame} {meth : Method} {cd : Code} {H : Heap} {locs : List Loc} {cells slots : Nat} {lsA : Array Slot} {E : mG} {Q : State → Prop},
      MC y E X d p R s m args meth cd → (c → W p l e R s m args below meth cd H locs cells slots Q (F0 m p1 lsA (st'.map (mv E)))) → (¬ c → W p l e R s m args below meth cd H locs cells slots Q (F0 m p2 lsA (st'.map (mv E)))) →
      W p l e R s m args below meth cd H locs cells slots Q (F0 m pc lsA (st.map (mv E)))) : MW X y d pc ls st h r h' := by
  refine ⟨?_, fun p l e R s m args below meth cd H locs cells slots lsA E C hR hS hl q1 q2 => f C (fun hc => (k1 hc).2 p l e R s m args below meth cd H locs cells slots lsA E C hR hS hl q1 q2) (fun hc => (k2 hc).2 p l e R s m args below meth cd H locs cells slots lsA E C hR hS hl q1 q2)⟩
  by_cases hc : c
  · exact (k1 hc).1
  · exact (k2 hc).1
theorem r_icmp_eq {a b : Int32} {off : Int} {t : Nat} (hd : dcd y pc (.if_icmp .eq off) 3) (ht : (pc : Int) + off = (t : Int)) (k1 : a = b → MW X y d (t) ls st h r h') (k2 : ¬ a = b → MW X y d (pc + 3) ls st h r h') : MW X y d pc ls (.int b :: .int a :: st) h r h' :=
  MW.br k1 k2 (fun C a1 a2 => lv_icmp_eq C.1 C.2.1 hd ht a1 a2)
theorem r_icmp_ne {a b : Int32} {off : Int} {t : Nat} (hd : dcd y pc (.if_icmp .ne off) 3) (ht : (pc : Int) + off = (t : Int)) (k1 : a = b → MW X y d (pc + 3) ls st h r h') (k2 : ¬ a = b → MW X y d (t) ls st h r h') : MW X y d pc ls (.int b :: .int a :: st) h r h' :=
  MW.br k1 k2 (fun C a1 a2 => lv_icmp_ne C.1 C.2.1 hd ht a2 a1)
theorem r_icmp_lt {a b : Int32} {off : Int} {t : Nat} (hd : dcd y pc (.if_icmp .lt off) 3) (ht : (pc : Int) + off = (t : Int)) (k1 : a < b → MW X y d (t) ls st h r h') (k2 : ¬ a < b → MW X y d (pc + 3) ls st h r h') : MW X y d pc ls (.int b :: .int a :: st) h r h' :=
  MW.br k1 k2 (fun C a1 a2 => lv_icmp_lt C.1 C.2.1 hd ht a1 a2)
theorem r_icmp_ge {a b : Int32} {off : Int} {t : Nat} (hd : dcd y pc (.if_icmp .ge off) 3) (ht : (pc : Int) + off = (t : Int)) (k1 : a < b → MW X y d (pc + 3) ls st h r h') (k2 : ¬ a < b → MW X y d (t) ls st h r h') : MW X y d pc ls (.int b :: .int a :: st) h r h' :=
  MW.br k1 k2 (fun C a1 a2 => lv_icmp_ge C.1 C.2.1 hd ht (fun q => a2 (Int32.not_lt.mpr q)) (fun q => a1 (Int32.not_le.mp q)))
theorem r_icmp_gt {a b : Int32} {off : Int} {t : Nat} (hd : dcd y pc (.if_icmp .gt off) 3) (ht : (pc : Int) + off = (t : Int)) (k1 : b < a → MW X y d (t) ls st h r h') (k2 : ¬ b < a → MW X y d (pc + 3) ls st h r h') : MW X y d pc ls (.int b :: .int a :: st) h r h' :=
  MW.br k1 k2 (fun C a1 a2 => lv_icmp_gt C.1 C.2.1 hd ht a1 a2)
theorem r_icmp_le {a b : Int32} {off : Int} {t : Nat} (hd : dcd y pc (.if_icmp .le off) 3) (ht : (pc : Int) + off = (t : Int)) (k1 : b < a → MW X y d (pc + 3) ls st h r h') (k2 : ¬ b < a → MW X y d (t) ls st h r h') : MW X y d pc ls (.int b :: .int a :: st) h r h' :=
  MW.br k1 k2 (fun C a1 a2 => lv_icmp_le C.1 C.2.1 hd ht (fun q => a2 (Int32.not_lt.mpr q)) (fun q => a1 (Int32.not_le.mp q)))
theorem r_if_eq {a : Int32} {off : Int} {t : Nat} (hd : dcd y pc (.ifCond .eq off) 3) (ht : (pc : Int) + off = (t : Int)) (k1 : a = 0 → MW X y d (t) ls st h r h') (k2 : ¬ a = 0 → MW X y d (pc + 3) ls st h r h') : MW X y d pc ls (.int a :: st) h r h' :=
  MW.br k1 k2 (fun C a1 a2 => lv_if_eq C.1 C.2.1 hd ht a1 a2)
theorem r_if_ne {a : Int32} {off : Int} {t : Nat} (hd : dcd y pc (.ifCond .ne off) 3) (ht : (pc : Int) + off = (t : Int)) (k1 : a = 0 → MW X y d (pc + 3) ls st h r h') (k2 : ¬ a = 0 → MW X y d (t) ls st h r h') : MW X y d pc ls (.int a :: st) h r h' :=
  MW.br k1 k2 (fun C a1 a2 => lv_if_ne C.1 C.2.1 hd ht a2 a1)
theorem r_if_lt {a : Int32} {off : Int} {t : Nat} (hd : dcd y pc (.ifCond .lt off) 3) (ht : (pc : Int) + off = (t : Int)) (k1 : a < 0 → MW X y d (t) ls st h r h') (k2 : ¬ a < 0 → MW X y d (pc + 3) ls st h r h') : MW X y d pc ls (.int a :: st) h r h' :=
  MW.br k1 k2 (fun C a1 a2 => lv_if_lt C.1 C.2.1 hd ht a1 a2)
theorem r_if_ge {a : Int32} {off : Int} {t : Nat} (hd : dcd y pc (.ifCond .ge off) 3) (ht : (pc : Int) + off = (t : Int)) (k1 : a < 0 → MW X y d (pc + 3) ls st h r h') (k2 : ¬ a < 0 → MW X y d (t) ls st h r h') : MW X y d pc ls (.int a :: st) h r h' :=
  MW.br k1 k2 (fun C a1 a2 => lv_if_ge C.1 C.2.1 hd ht (fun q => a2 (Int32.not_lt.mpr q)) (fun q => a1 (Int32.not_le.mp q)))
theorem r_if_gt {a : Int32} {off : Int} {t : Nat} (hd : dcd y pc (.ifCond .gt off) 3) (ht : (pc : Int) + off = (t : Int)) (k1 : 0 < a → MW X y d (t) ls st h r h') (k2 : ¬ 0 < a → MW X y d (pc + 3) ls st h r h') : MW X y d pc ls (.int a :: st) h r h' :=
  MW.br k1 k2 (fun C a1 a2 => lv_if_gt C.1 C.2.1 hd ht a1 a2)
theorem r_if_le {a : Int32} {off : Int} {t : Nat} (hd : dcd y pc (.ifCond .le off) 3) (ht : (pc : Int) + off = (t : Int)) (k1 : 0 < a → MW X y d (pc + 3) ls st h r h') (k2 : ¬ 0 < a → MW X y d (t) ls st h r h') : MW X y d pc ls (.int a :: st) h r h' :=
  MW.br k1 k2 (fun C a1 a2 => lv_if_le C.1 C.2.1 hd ht (fun q => a2 (Int32.not_lt.mpr q)) (fun q => a1 (Int32.not_le.mp q)))
theorem r_lcmp {a b : Int64} (hd : dcd y pc .lcmp 1) (k : MW X y d (pc + 1) ls (.int (lg_cmp a b) :: st) h r h') : MW X y d pc ls (.long b :: .long a :: st) h r h' :=
  MW.st k (fun C _ _ hl _ _ kk => W.lcmp C.1 C.2.1 hd (kk _ hl))
end
