/-! the judgements: MW (from a place in a method the machine comes to the method's end) and MM (a whole method's contract) -/
def MC (y : mM) (E : mG) (X : Nat × (Nat → Int32)) (d : Nat) (p : Program) (R : Room) (s : State) (m : MethodId) (args : Array Value) (meth : Method) (c : Code) : Prop :=
  p.tables.exec = Jvm.exec ∧ c.code = y.2.1 ∧ c.maxLocals = y.2.2.1 ∧ s.vm.findClass y.1.cls = some m.cls ∧ (∀ w ∈ WT, w.before args s = true) ∧ meth.sig.returnType = y.2.2.2 ∧ meth.locks = false ∧ meth.name = y.1.name ∧ mOK E s ∧ E.2.2.2.2.2.2 = X ∧ d ≤ R.frames ∧ 64 * d + 64 ≤ R.locals
def mQ (E : mG) (r : Option Value) (h' : mH) : Array Value → State → Outcome → State → Prop := fun _ st o t => o = .returned (r.map (mv E)) ∧ mR E h' t.heap ∧ va_F (fun q => E.1 ≤ q) st t
def MW (X : Nat × (Nat → Int32)) (y : mM) (d pc : Nat) (ls : mL) (st : List Value) (h : mH) (r : Option Value) (h' : mH) : Prop :=
  (h.1 ≤ h'.1 ∧ h.2.1 ≤ h'.2.1) ∧ ∀ (p : Program) (l : Launch) (e : Env) (R : Room) (s : State) (m : MethodId) (args : Array Value) (below : List Frame) (meth : Method) (c : Code) (H : Heap) (locs : List Loc) (cells slots : Nat) (lsA : Array Slot) (E : mG),
    MC y E X d p R s m args meth c → mR E h H → va_S (fun q => E.1 ≤ q) s.heap H locs → lv_has lsA y.2.2.1 (ls.map (mq E)) → cells + (h'.1 - h.1) ≤ R.cells → slots + (h'.2.1 - h.2.1) ≤ R.slots →
    W p l e R s m args below meth c H locs cells slots (MQ below (mQ E r h') args s R.cells R.slots (fun q => E.1 ≤ q)) (F0 m pc lsA (st.map (mv E)))
def mRm (d : Nat) (h h' : mH) : Room := { frames := d, cells := h'.1 - h.1, slots := h'.2.1 - h.2.1, locals := 64 * d + 64 }
def MM (y : mM) (d : Nat) (a : List Value) (h : mH) (r : Option Value) (h' : mH) : Prop :=
  (h.1 ≤ h'.1 ∧ h.2.1 ≤ h'.2.1) ∧ ∀ (l : Launch) (E : mG), Met l y.1 (mws y) (mRm d h h') (va_Pc (a.map (mv E)) (fun U => mOK E U ∧ mR E h U.heap)) (mQ E r h') (h'.1 - h.1) (h'.2.1 - h.2.1) (fun q => E.1 ≤ q)
/-- a step that leaves the heap -/
theorem MW.st {X : Nat × (Nat → Int32)} {y : mM} {d pc pc' : Nat} {ls ls' : mL} {st st' : List Value} {h : mH} {r : Option Value} {h' : mH} (k : MW X y d pc' ls' st' h r h')
    (f : ∀ {p : Program} {l : Launch} {e : Env} {R : Room} {s : State} {m : MethodId} {args : Array Value} {below : List Frame} {meth : Method} {c : Code} {H : Heap} {locs : List Loc} {cells slots : Nat} {lsA : Array Slot} {E : mG} {Q : State → Prop},
      MC y E X d p R s m args meth c → mR E h H → va_S (fun q => E.1 ≤ q) s.heap H locs → lv_has lsA y.2.2.1 (ls.map (mq E)) → cells ≤ R.cells → slots ≤ R.slots → (∀ lsB : Array Slot, lv_has lsB y.2.2.1 (ls'.map (mq E)) → W p l e R s m args below meth c H locs cells slots Q (F0 m pc' lsB (st'.map (mv E)))) →
      W p l e R s m args below meth c H locs cells slots Q (F0 m pc lsA (st.map (mv E)))) : MW X y d pc ls st h r h' :=
  ⟨k.1, fun p l e R s m args below meth c H locs cells slots lsA E C hR hS hl h1 h2 => f C hR hS hl (Nat.le_trans (Nat.le_add_right _ _) h1) (Nat.le_trans (Nat.le_add_right _ _) h2) (fun lsB hB => k.2 p l e R s m args below meth c H locs cells slots lsB E C hR hS hB h1 h2)⟩
/-- a step that changes the heap in place -/
theorem MW.hp {X : Nat × (Nat → Int32)} {y : mM} {d pc pc' : Nat} {ls : mL} {st st' : List Value} {h h1 : mH} {r : Option Value} {h' : mH} (k : MW X y d pc' ls st' h1 r h') (e1 : h1.1 = h.1) (e2 : h1.2.1 = h.2.1)
    (f : ∀ {p : Program} {l : Launch} {e : Env} {R : Room} {s : State} {m : MethodId} {args : Array Value} {below : List Frame} {meth : Method} {c : Code} {H : Heap} {locs : List Loc} {cells slots : Nat} {lsA : Array Slot} {E : mG} {Q : State → Prop},
      MC y E X d p R s m args meth c → mR E h H → va_S (fun q => E.1 ≤ q) s.heap H locs → lv_has lsA y.2.2.1 (ls.map (mq E)) → (∀ (H1 : Heap) (locs1 : List Loc), mR E h1 H1 → va_S (fun q => E.1 ≤ q) s.heap H1 locs1 → W p l e R s m args below meth c H1 locs1 cells slots Q (F0 m pc' lsA (st'.map (mv E)))) →
      W p l e R s m args below meth c H locs cells slots Q (F0 m pc lsA (st.map (mv E)))) : MW X y d pc ls st h r h' :=
  ⟨by rw [← e1, ← e2]; exact k.1, fun p l e R s m args below meth c H locs cells slots lsA E C hR hS hl q1 q2 => f C hR hS hl (fun H1 locs1 hR1 hS1 => k.2 p l e R s m args below meth c H1 locs1 cells slots lsA E C hR1 hS1 hl (by rw [e1]; exact q1) (by rw [e2]; exact q2))⟩
/-- fewer locals are enough -/
theorem MW.sub {X : Nat × (Nat → Int32)} {y : mM} {d pc : Nat} {ls ls' : mL} {st : List Value} {h : mH} {r : Option Value} {h' : mH} (hs : ∀ q ∈ ls', q ∈ ls) (k : MW X y d pc ls' st h r h') : MW X y d pc ls st h r h' :=
  MW.st k (fun _ _ _ hl _ _ kk => kk _ ⟨hl.1, hl.2.1, fun q hq => by
    obtain ⟨q0, h0, rfl⟩ := List.mem_map.mp hq
    exact hl.2.2 _ (List.mem_map.mpr ⟨q0, hs q0 h0, rfl⟩)⟩)
/-- a method's contract out of its walk -/
theorem MM.of {y : mM} {d : Nat} {a : List Value} {h : mH} {r : Option Value} {h' : mH} (hy : plainFor y.1 = true) (hle : (lg_sl a).length ≤ y.2.2.1) (k : ∀ X : Nat × (Nat → Int32), MW X y d 0 (lv_args 0 a) [] h r h') : MM y d a h r h' := by
  refine ⟨(k (0, fun _ => 0)).1, fun l E => ?_⟩
  refine va_MetF (cc := y.2.1) (maxL := y.2.2.1) (ret := y.2.2.2) (ws' := WT) hy rfl ?_
  intro p e s m args below meth c s₁ B hml hv
  obtain ⟨rfl, hok, hR⟩ := hv
  have hts := atoms_spec (ws := mws y) B.pre
  have hown : s.vm.findClass y.1.cls = some m.cls := findClass_of_methodNamed B.named
  have hnm : meth.name = y.1.name := (name_of_methodNamed B.named B.method).1
  have hlen : ∀ (vs : List Value), (lg_sl (vs.map (mv E))).length = (lg_sl vs).length := by
    intro vs
    induction vs with
    | nil => rfl
    | cons v vs ih =>
      have e1 := mv_cat E v
      simp only [lg_sl, List.map_cons, List.flatMap_cons, List.length_append] at ih ⊢
      rw [ih, e1]
      split <;> rfl
  have hargs : ∀ (vs : List Value) (n : Nat), lv_args n (vs.map (mv E)) = (lv_args n vs).map (mq E) := by
    intro vs
    induction vs with
    | nil => intro n; rfl
    | cons v vs ih =>
      intro n
      have e1 := mv_cat E v
      simp only [lv_args, List.map_cons]
      rw [e1, ih]
      rfl
  have hl := lv_entry (a.map (mv E)) (n := y.2.2.1) (by rw [hlen]; exact hle)
  rw [lg_entry_eq]
  rw [hargs] at hl
  refine (k E.2.2.2.2.2.2).2 p l e _ s m _ below meth c s.heap [] 0 0 _ E ⟨B.exec, B.bytes, hml, hown, fun w hw => hts w (List.mem_cons_of_mem _ hw), B.returns, B.notSynchronized, hnm, hok, rfl, Nat.le_refl _, Nat.le_refl _⟩ hR va_S.rf hl ?_ ?_
  · show 0 + (h'.1 - h.1) ≤ h'.1 - h.1
    omega
  · show 0 + (h'.2.1 - h.2.1) ≤ h'.2.1 - h.2.1
    omega
