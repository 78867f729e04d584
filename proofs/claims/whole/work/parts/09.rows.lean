/-! a row an instruction, over the small machine -/
theorem mR_set {E : mG} {h : mH} {H H1 : Heap} {k : Nat} {e : mE} (hR : mR E h H) (hk : k < h.1) (he : va_at E.2.1 classes (E.1 + k, mX E e) H1) (z : H1.size = H.size) (oq : ∀ q : Nat, q ≠ E.1 + k → H1[q]? = H[q]?) : mR E (mS h k e) H1 :=
  ⟨by rw [← mW_set hk]; exact hR.1.set (mD E h) (mW_at hk) he oq, by rw [z]; exact hR.2⟩
theorem mR_push {E : mG} {h : mH} {H H1 : Heap} {n : Nat} {e : mE} (hR : mR E h H) (he : va_at E.2.1 classes (E.1 + h.1, mX E e) H1) (z : H1.size = H.size + 1) (oq : ∀ q : Nat, q < H.size → H1[q]? = H[q]?) : mR E (mP h n e) H1 := by
  refine ⟨?_, by rw [z, hR.2]; rfl⟩
  rw [← mW_push]
  refine va_P.app (hR.1.kept fun k x hx => oq x.1 ((hR.1 k x hx).lt)) (fun k x hx => ?_)
  have hz : k < 1 := (List.getElem?_eq_some_iff.mp hx).1
  rw [show k = 0 by omega] at hx
  cases hx
  exact he
theorem mR_at {E : mG} {h : mH} {H : Heap} {a : Nat} {e : mE} (hR : mR E h H) (hc : cell h a = some e) : a < h.1 ∧ h.2.2 a = e ∧ va_at E.2.1 classes (E.1 + a, mX E e) H ∧ (mW E h)[a]? = some (E.1 + a, mX E e) := by
  unfold cell at hc
  by_cases ha : a < h.1
  · rw [if_pos ha] at hc
    cases hc
    exact ⟨ha, rfl, hR.1 a _ (mW_at ha), mW_at ha⟩
  · rw [if_neg ha] at hc
    cases hc
theorem gV_s {h : mH} {ci a k : Nat} {v : Value} (e : gV h ci a k = some v) : ∃ fs, cell h a = some (.inr (ci, fs)) ∧ fs[k]? = some v := by
  unfold gV at e
  split at e
  · rename_i c fs hc
    cases hb : Nat.beq c ci
    · rw [hb] at e; cases e
    · rw [hb] at e
      have := Nat.eq_of_beq_eq_true hb
      subst this
      exact ⟨fs, hc, e⟩
  · cases e
theorem pV_s {h h1 : mH} {ci a k : Nat} {v : Value} (e : pV h ci a k v = some h1) : ∃ fs, cell h a = some (.inr (ci, fs)) ∧ k < fs.length ∧ h1 = mS h a (.inr (ci, fs.set k v)) := by
  unfold pV at e
  split at e
  · rename_i c fs hc
    cases hb : (Nat.beq c ci && Nat.blt k fs.length)
    · rw [hb] at e; cases e
    · rw [hb] at e
      rw [Bool.and_eq_true] at hb
      have := Nat.eq_of_beq_eq_true hb.1
      subst this
      exact ⟨fs, hc, Nat.lt_of_succ_le (by simpa [Nat.blt] using hb.2), (Option.some.inj e).symm⟩
  · cases e
theorem lgl {E : mG} {lsA : Array Slot} {nL : Nat} {ls : mL} {j : Nat} {v : Value} (hl : lv_has lsA nL (ls.map (mq E))) (hg : lg j ls = some v) : lsA[j]? = some (.val (mv E v)) :=
  hl.2.2 (j, mv E v) (List.mem_map.mpr ⟨(j, v), lg_mem hg, rfl⟩)
abbrev dcd (y : mM) (pc : Nat) (i : Instr) (n : Nat) : Prop := decode y.2.1 pc = .ok (i, n)
section
variable {X : Nat × (Nat → Int32)} {y : mM} {d pc : Nat} {ls : mL} {st : List Value} {h : mH} {r : Option Value} {h' : mH}
theorem r_iconst {c : Int} (hd : dcd y pc (.iconst c) 1) (k : MW X y d (pc + 1) ls (.int (jI c) :: st) h r h') : MW X y d pc ls st h r h' :=
  MW.st k (fun C _ _ hl _ _ kk => lv_iconst (v := jI c) C.1 C.2.1 hd rfl (kk _ hl))
theorem r_bipush {c : Int} (hd : dcd y pc (.bipush c) 2) (hc : (Int8.ofInt c).toInt32 = jI c) (k : MW X y d (pc + 2) ls (.int (jI c) :: st) h r h') : MW X y d pc ls st h r h' :=
  MW.st k (fun C _ _ hl _ _ kk => lv_bipush (v := jI c) C.1 C.2.1 hd hc (kk _ hl))
theorem r_sipush {c : Int} (hd : dcd y pc (.sipush c) 3) (hc : (Int16.ofInt c).toInt32 = jI c) (k : MW X y d (pc + 3) ls (.int (jI c) :: st) h r h') : MW X y d pc ls st h r h' :=
  MW.st k (fun C _ _ hl _ _ kk => lv_sipush (v := jI c) C.1 C.2.1 hd hc (kk _ hl))
theorem r_lconst {n : Fin 2} {c : Int} (hd : dcd y pc (.lconst n) 1) (hc : Int64.ofNat (n : Nat) = jL c) (k : MW X y d (pc + 1) ls (.long (jL c) :: st) h r h') : MW X y d pc ls st h r h' :=
  MW.st k (fun C _ _ hl _ _ kk => lv_lconst (v := jL c) C.1 C.2.1 hd hc (kk _ hl))
theorem r_ldc {o idx : Nat} {c : Int} (hd : dcd y pc (.ldc idx) 2) (ho : oN o = y.1.cls) (hw : (o, idx, c) ∈ CI) (k : MW X y d (pc + 2) ls (.int (jI c) :: st) h r h') : MW X y d pc ls st h r h' :=
  MW.st k (fun C _ _ hl _ _ kk => lv_ldc (own := oN o) (v := jI c) C.1 C.2.1 (by rw [ho]; exact C.2.2.2.1) (C.2.2.2.2.1 _ (CI_ok _ hw)) hd (kk _ hl))
theorem r_ldcw {o idx : Nat} {c : Int} (hd : dcd y pc (.ldc_w idx) 3) (ho : oN o = y.1.cls) (hw : (o, idx, c) ∈ CI) (k : MW X y d (pc + 3) ls (.int (jI c) :: st) h r h') : MW X y d pc ls st h r h' :=
  MW.st k (fun C _ _ hl _ _ kk => lv_ldcw (own := oN o) (v := jI c) C.1 C.2.1 (by rw [ho]; exact C.2.2.2.1) (C.2.2.2.2.1 _ (CI_ok _ hw)) hd (kk _ hl))
theorem r_ldc2 {o idx : Nat} {c : Int} (hd : dcd y pc (.ldc2_w idx) 3) (ho : oN o = y.1.cls) (hw : (o, idx, c) ∈ CJ) (k : MW X y d (pc + 3) ls (.long (jL c) :: st) h r h') : MW X y d pc ls st h r h' :=
  MW.st k (fun C _ _ hl _ _ kk => lv_ldc2 (own := oN o) (v := jL c) C.1 C.2.1 (by rw [ho]; exact C.2.2.2.1) (C.2.2.2.2.1 _ (CJ_ok _ hw)) hd (kk _ hl))
theorem r_ldcS {i idx : Nat} {tx : String} (hd : dcd y pc (.ldc idx) 2) (hw : sjAll[i]? = some (y.1.cls, idx, tx)) (hi : i < 256) (k : MW X y d (pc + 2) ls (.float (UInt32.ofNat i) :: st) h r h') : MW X y d pc ls st h r h' :=
  MW.st k (fun {p l e R s m args below meth c H locs cells slots lsA E Q} C _ _ hl _ _ kk => by
    have e1 : (UInt32.ofNat i).toNat = i := by
      rw [UInt32.toNat_ofNat']
      exact Nat.mod_eq_of_lt (by omega)
    have k1 := kk _ hl
    rw [List.map_cons, show mv E (.float (UInt32.ofNat i)) = .ref (E.2.2.2.1 i) by show Value.ref (E.2.2.2.1 (UInt32.ofNat i).toNat) = _; rw [e1]] at k1
    exact va_ldcS C.1 C.2.1 C.2.2.2.1 (C.2.2.2.2.2.2.2.2.1.2.2.1 i _ hw) hd k1)
theorem r_iload {j : Nat} {x : Int32} (hd : dcd y pc (.iload j) 2) (hg : lg j ls = some (.int x)) (k : MW X y d (pc + 2) ls (.int x :: st) h r h') : MW X y d pc ls st h r h' :=
  MW.st k (fun C _ _ hl _ _ kk => lv_iload C.1 C.2.1 hd (lgl hl hg) (kk _ hl))
theorem r_iload_n {n : Fin 4} {j : Nat} {x : Int32} (hd : dcd y pc (.iload_n n) 1) (hj : (n : Nat) = j) (hg : lg j ls = some (.int x)) (k : MW X y d (pc + 1) ls (.int x :: st) h r h') : MW X y d pc ls st h r h' :=
  MW.st k (fun C _ _ hl _ _ kk => lv_iload_n C.1 C.2.1 hd hj (lgl hl hg) (kk _ hl))
theorem r_lload {j : Nat} {x : Int64} (hd : dcd y pc (.lload j) 2) (hg : lg j ls = some (.long x)) (k : MW X y d (pc + 2) ls (.long x :: st) h r h') : MW X y d pc ls st h r h' :=
  MW.st k (fun C _ _ hl _ _ kk => lv_lload C.1 C.2.1 hd (lgl hl hg) (kk _ hl))
theorem r_lload_n {n : Fin 4} {j : Nat} {x : Int64} (hd : dcd y pc (.lload_n n) 1) (hj : (n : Nat) = j) (hg : lg j ls = some (.long x)) (k : MW X y d (pc + 1) ls (.long x :: st) h r h') : MW X y d pc ls st h r h' :=
  MW.st k (fun C _ _ hl _ _ kk => lv_lload_n C.1 C.2.1 hd hj (lgl hl hg) (kk _ hl))
/-- references: a cell, a String constant, the script -/
def rfV : Value → Bool
  | .ref _ => true
  | .float _ => true
  | .retAddr 0 => true
  | .retAddr (_ + 2) => true
  | _ => false
theorem rfV_s {v : Value} (hv : rfV v = true) (E : mG) : ∃ a, mv E v = .ref a := by
  cases v with
  | retAddr n =>
    match n, hv with
    | 0, _ => exact ⟨_, rfl⟩
    | n + 2, _ => exact ⟨_, rfl⟩
  | _ => first | cases hv; done | exact ⟨_, rfl⟩
theorem r_aload {j : Nat} {v : Value} (hd : dcd y pc (.aload j) 2) (hg : lg j ls = some v) (hv : rfV v = true) (k : MW X y d (pc + 2) ls (v :: st) h r h') : MW X y d pc ls st h r h' :=
  MW.st k (fun {p l e R s m args below meth c H locs cells slots lsA E Q} C _ _ hl _ _ kk => by
    obtain ⟨a, ea⟩ := rfV_s hv E
    have h1 := lgl hl hg
    have k1 := kk _ hl
    rw [ea] at h1
    rw [List.map_cons, ea] at k1
    exact lv_aload C.1 C.2.1 hd h1 k1)
theorem r_aload_n {n : Fin 4} {j : Nat} {v : Value} (hd : dcd y pc (.aload_n n) 1) (hj : (n : Nat) = j) (hg : lg j ls = some v) (hv : rfV v = true) (k : MW X y d (pc + 1) ls (v :: st) h r h') : MW X y d pc ls st h r h' :=
  MW.st k (fun {p l e R s m args below meth c H locs cells slots lsA E Q} C _ _ hl _ _ kk => by
    obtain ⟨a, ea⟩ := rfV_s hv E
    have h1 := lgl hl hg
    have k1 := kk _ hl
    rw [ea] at h1
    rw [List.map_cons, ea] at k1
    exact lv_aload_n C.1 C.2.1 hd hj h1 k1)
theorem r_istore {j : Nat} {x : Int32} (hd : dcd y pc (.istore j) 2) (hn : j < y.2.2.1) (k : MW X y d (pc + 2) ((j, .int x) :: lF1 j ls) st h r h') : MW X y d pc ls (.int x :: st) h r h' :=
  MW.st k (fun {p l e R s m args below meth c H locs cells slots lsA E Q} C _ _ hl _ _ kk => lv_istore (lv' := ((j, Value.int x) :: lF1 j ls).map (mq E)) C.1 C.2.1 hd hl hn (congrArg (List.cons (j, Value.int x)) (lF1_mq E j ls).symm) kk)
theorem r_istore_n {n : Fin 4} {j : Nat} {x : Int32} (hd : dcd y pc (.istore_n n) 1) (hj : (n : Nat) = j) (hn : j < y.2.2.1) (k : MW X y d (pc + 1) ((j, .int x) :: lF1 j ls) st h r h') : MW X y d pc ls (.int x :: st) h r h' :=
  MW.st k (fun {p l e R s m args below meth c H locs cells slots lsA E Q} C _ _ hl _ _ kk => lv_istore_n (lv' := ((j, Value.int x) :: lF1 j ls).map (mq E)) C.1 C.2.1 hd hj hl hn (congrArg (List.cons (j, Value.int x)) (lF1_mq E j ls).symm) kk)
theorem r_lstore {j : Nat} {x : Int64} (hd : dcd y pc (.lstore j) 2) (hn : j + 1 < y.2.2.1) (k : MW X y d (pc + 2) ((j, .long x) :: lF2 j ls) st h r h') : MW X y d pc ls (.long x :: st) h r h' :=
  MW.st k (fun {p l e R s m args below meth c H locs cells slots lsA E Q} C _ _ hl _ _ kk => lv_lstore (lv' := ((j, Value.long x) :: lF2 j ls).map (mq E)) C.1 C.2.1 hd hl hn (congrArg (List.cons (j, Value.long x)) (lF2_mq E j ls).symm) kk)
theorem r_lstore_n {n : Fin 4} {j : Nat} {x : Int64} (hd : dcd y pc (.lstore_n n) 1) (hj : (n : Nat) = j) (hn : j + 1 < y.2.2.1) (k : MW X y d (pc + 1) ((j, .long x) :: lF2 j ls) st h r h') : MW X y d pc ls (.long x :: st) h r h' :=
  MW.st k (fun {p l e R s m args below meth c H locs cells slots lsA E Q} C _ _ hl _ _ kk => lv_lstore_n (lv' := ((j, Value.long x) :: lF2 j ls).map (mq E)) C.1 C.2.1 hd hj hl hn (congrArg (List.cons (j, Value.long x)) (lF2_mq E j ls).symm) kk)
theorem r_astore {j : Nat} {v : Value} (hd : dcd y pc (.astore j) 2) (hn : j < y.2.2.1) (hv : rfV v = true) (k : MW X y d (pc + 2) ((j, v) :: lF1 j ls) st h r h') : MW X y d pc ls (v :: st) h r h' :=
  MW.st k (fun {p l e R s m args below meth c H locs cells slots lsA E Q} C _ _ hl _ _ kk => by
    obtain ⟨a, ea⟩ := rfV_s hv E
    rw [List.map_cons, ea]
    exact lv_astore (lv' := ((j, v) :: lF1 j ls).map (mq E)) C.1 C.2.1 hd hl hn (by rw [List.map_cons, lF1_mq, show mq E (j, v) = (j, mv E v) from rfl, ea]) kk)
theorem r_astore_n {n : Fin 4} {j : Nat} {v : Value} (hd : dcd y pc (.astore_n n) 1) (hj : (n : Nat) = j) (hn : j < y.2.2.1) (hv : rfV v = true) (k : MW X y d (pc + 1) ((j, v) :: lF1 j ls) st h r h') : MW X y d pc ls (v :: st) h r h' :=
  MW.st k (fun {p l e R s m args below meth c H locs cells slots lsA E Q} C _ _ hl _ _ kk => by
    obtain ⟨a, ea⟩ := rfV_s hv E
    rw [List.map_cons, ea]
    exact lv_astore_n (lv' := ((j, v) :: lF1 j ls).map (mq E)) C.1 C.2.1 hd hj hl hn (by rw [List.map_cons, lF1_mq, show mq E (j, v) = (j, mv E v) from rfl, ea]) kk)
theorem r_iinc {j : Nat} {c : Int} {x : Int32} (hd : dcd y pc (.iinc j c) 3) (hn : j < y.2.2.1) (hg : lg j ls = some (.int x)) (k : MW X y d (pc + 3) ((j, .int (iAdd x (jI c))) :: lF1 j ls) st h r h') : MW X y d pc ls st h r h' :=
  MW.st k (fun {p l e R s m args below meth cd H locs cells slots lsA E Q} C _ _ hl _ _ kk => by
    obtain ⟨k0, hk0⟩ := List.getElem?_of_mem (List.mem_map.mpr ⟨(j, Value.int x), lg_mem hg, rfl⟩ : (mq E (j, Value.int x)) ∈ ls.map (mq E))
    exact lv_iinc (v := iAdd x (jI c)) (lv' := ((j, Value.int (iAdd x (jI c))) :: lF1 j ls).map (mq E)) C.1 C.2.1 hd hl hk0 rfl hn (congrArg (List.cons (j, Value.int (iAdd x (jI c)))) (lF1_mq E j ls).symm) kk)
end
