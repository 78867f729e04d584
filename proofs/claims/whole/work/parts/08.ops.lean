/-! what the small machine's instructions do, as functions -/
def iAdd (x y : Int32) : Int32 := x + y
def iSub (x y : Int32) : Int32 := x - y
def iMul (x y : Int32) : Int32 := x * y
def iDiv (x y : Int32) : Int32 := x / y
def iNeg (x : Int32) : Int32 := -x
def iAnd (x y : Int32) : Int32 := x &&& y
def iOr (x y : Int32) : Int32 := x ||| y
def iXor (x y : Int32) : Int32 := x ^^^ y
def lAdd (x y : Int64) : Int64 := x + y
def lSub (x y : Int64) : Int64 := x - y
def lMul (x y : Int64) : Int64 := x * y
def lAnd (x y : Int64) : Int64 := x &&& y
def lOr (x y : Int64) : Int64 := x ||| y
def iRem (x y : Int32) : Int32 := x - x / y * y
def iShl (x y : Int32) : Int32 := x <<< (y &&& 31)
def iShr (x y : Int32) : Int32 := x >>> (y &&& 31)
def iUsr (x y : Int32) : Int32 := (x.toUInt32 >>> (y.toUInt32 &&& Int32.toUInt32 31)).toInt32
def lShl (x : Int64) (y : Int32) : Int64 := x <<< (y.toInt64 &&& 63)
def lShr (x : Int64) (y : Int32) : Int64 := x >>> (y.toInt64 &&& 63)
def lUsr (x : Int64) (y : Int32) : Int64 := (x.toUInt64 >>> (y.toInt64.toUInt64 &&& Int64.toUInt64 63)).toInt64
def iMax (x y : Int32) : Int32 := if x < y then y else x
def iMin (x y : Int32) : Int32 := if y < x then y else x
def iAbs (x : Int32) : Int32 := if 0 ≤ x then x else 0 - x
def iByt (x : Int32) : Int32 := x.toInt8.toInt32
def iSho (x : Int32) : Int32 := x.toInt16.toInt32
def cell (h : mH) (a : Nat) : Option mE := if a < h.1 then some (h.2.2 a) else none
def gV (h : mH) (ci a k : Nat) : Option Value := match cell h a with
  | some (.inr (c, fs)) => bif Nat.beq c ci then fs[k]? else none
  | _ => none
def gI (h : mH) (ci a k : Nat) : Option Int32 := match gV h ci a k with
  | some (.int x) => some x
  | _ => none
def gL (h : mH) (ci a k : Nat) : Option Int64 := match gV h ci a k with
  | some (.long x) => some x
  | _ => none
def gR (h : mH) (ci a k : Nat) : Option Nat := match gV h ci a k with
  | some (.ref x) => some x
  | _ => none
def pV (h : mH) (ci a k : Nat) (v : Value) : Option mH := match cell h a with
  | some (.inr (c, fs)) => bif Nat.beq c ci && Nat.blt k fs.length then some (mS h a (.inr (c, fs.set k v))) else none
  | _ => none
def rcv (h : mH) (ci a : Nat) : Option Unit := match cell h a with
  | some (.inr (c, _)) => bif Nat.beq c ci then some () else none
  | _ => none
def ldI (t : Nat) (h : mH) (a : Nat) (i : Int32) : Option Int32 := match cell h a with
  | some (.inl (t', n, .inl f)) => if t' = t ∧ ¬ (i < 0 ∨ n ≤ i.toNatClampNeg) then some (f i.toNatClampNeg) else none
  | _ => none
def ldL (h : mH) (a : Nat) (i : Int32) : Option Int64 := match cell h a with
  | some (.inl (t', n, .inr (.inl f))) => if t' = 1 ∧ ¬ (i < 0 ∨ n ≤ i.toNatClampNeg) then some (f i.toNatClampNeg) else none
  | _ => none
def ldR (t : Nat) (h : mH) (a : Nat) (i : Int32) : Option Nat := match cell h a with
  | some (.inl (t', n, .inr (.inr (.inr (.inr f))))) => if t' = t ∧ ¬ (i < 0 ∨ n ≤ i.toNatClampNeg) then f i.toNatClampNeg else none
  | _ => none
def narB (t : Nat) (x : Int32) : Int32 := match t with
  | 2 => x.toInt8.toInt32
  | 3 => x &&& 1
  | _ => x
def stI (t : Nat) (h : mH) (a : Nat) (i x : Int32) : Option mH := match cell h a with
  | some (.inl (t', n, .inl f)) => if t' = t ∧ ¬ (i < 0 ∨ n ≤ i.toNatClampNeg) then some (mS h a (.inl (t', n, .inl (upd f i.toNatClampNeg (narB t x))))) else none
  | _ => none
def stL (h : mH) (a : Nat) (i : Int32) (x : Int64) : Option mH := match cell h a with
  | some (.inl (t', n, .inr (.inl f))) => if t' = 1 ∧ ¬ (i < 0 ∨ n ≤ i.toNatClampNeg) then some (mS h a (.inl (t', n, .inr (.inl (vp_updL f i.toNatClampNeg x))))) else none
  | _ => none
def stR (t ci : Nat) (h : mH) (a : Nat) (i : Int32) (v : Nat) : Option mH := match cell h a, cell h v with
  | some (.inl (t', n, .inr (.inr (.inr (.inr f))))), some (.inr (c, _)) => if t' = t ∧ c = ci ∧ ¬ (i < 0 ∨ n ≤ i.toNatClampNeg) then some (mS h a (.inl (t', n, .inr (.inr (.inr (.inr (va_up f i.toNatClampNeg (some v)))))))) else none
  | _, _ => none
def lnA (h : mH) (a : Nat) : Option Int32 := match cell h a with
  | some (.inl (t', x)) => bif Nat.blt t' 6 then some (Int32.ofNat x.1) else none
  | _ => none
def cpI (h : mH) (a0 : Nat) (sp : Int32) (a : Nat) (dp n : Int32) : Option mH := match cell h a0, cell h a with
  | some (.inl (t0, n0, .inl f)), some (.inl (t1, n1, .inl g)) => if t0 = 0 ∧ t1 = 0 ∧ ¬ sp < 0 ∧ ¬ dp < 0 ∧ ¬ n < 0 ∧ sp.toNatClampNeg + n.toNatClampNeg ≤ n0 ∧ dp.toNatClampNeg + n.toNatClampNeg ≤ n1 then some (mS h a (.inl (t1, n1, .inl (va_cpy f g sp.toNatClampNeg dp.toNatClampNeg n.toNatClampNeg)))) else none
  | _, _ => none
def zrA (t : Nat) : (Nat → Int32) ⊕ (Nat → Int64) ⊕ (Nat → UInt32) ⊕ (Nat → UInt64) ⊕ (Nat → Option Nat) := match t with
  | 1 => .inr (.inl (fun _ => 0))
  | 4 => .inr (.inr (.inr (.inr (fun _ => none))))
  | 5 => .inr (.inr (.inr (.inr (fun _ => none))))
  | _ => .inl (fun _ => 0)
def nwA (h : mH) (t : Nat) (n : Int32) : Option mH := if ¬ n < 0 ∧ n.toNatClampNeg ≤ 1000000 then some (mP h n.toNatClampNeg (.inl (t, n.toNatClampNeg, zrA t))) else none
def dfl (ci : Nat) : List Value := (List.range (clN ci).2.2).map (fun k => defaultValue (cty ci k))
def nwO (h : mH) (ci : Nat) : mH := mP h (clN ci).2.2 (.inr (ci, dfl ci))
/-! locals -/
def c2v : Value → Bool
  | .long _ => true
  | .double _ => true
  | _ => false
def lg (i : Nat) : mL → Option Value
  | [] => none
  | (j, v) :: r => bif Nat.beq j i then some v else lg i r
def lF1 (i : Nat) : mL → mL
  | [] => []
  | (j, v) :: r => bif (!(Nat.beq j i) && !(Nat.beq (j + 1) i && c2v v)) then (j, v) :: lF1 i r else lF1 i r
def lF2 (i : Nat) : mL → mL
  | [] => []
  | (j, v) :: r => bif (!(Nat.beq j i) && (!(Nat.beq j (i + 1)) && !(Nat.beq (j + 1) i && c2v v))) then (j, v) :: lF2 i r else lF2 i r
/-! stacks -/
section
variable {ρ : Type}
def pp1 (st : List Value) (k : Int32 → List Value → Option ρ) : Option ρ := match st with
  | .int x :: r => k x r
  | _ => none
def pp2 (st : List Value) (k : Int32 → Int32 → List Value → Option ρ) : Option ρ := match st with
  | .int y :: .int x :: r => k x y r
  | _ => none
def pl1 (st : List Value) (k : Int64 → List Value → Option ρ) : Option ρ := match st with
  | .long x :: r => k x r
  | _ => none
def pl2 (st : List Value) (k : Int64 → Int64 → List Value → Option ρ) : Option ρ := match st with
  | .long y :: .long x :: r => k x y r
  | _ => none
def pli (st : List Value) (k : Int64 → Int32 → List Value → Option ρ) : Option ρ := match st with
  | .int y :: .long x :: r => k x y r
  | _ => none
def pr1 (st : List Value) (k : Nat → List Value → Option ρ) : Option ρ := match st with
  | .ref a :: r => k a r
  | _ => none
def pv1 (st : List Value) (k : Value → List Value → Option ρ) : Option ρ := match st with
  | v :: r => bif c2v v then none else k v r
  | _ => none
def pv2 (st : List Value) (k : Value → Value → List Value → Option ρ) : Option ρ := match st with
  | v :: u :: r => bif c2v v || c2v u then none else k v u r
  | _ => none
def pri (st : List Value) (k : Nat → Int32 → List Value → Option ρ) : Option ρ := match st with
  | .int i :: .ref a :: r => k a i r
  | _ => none
def prii (st : List Value) (k : Nat → Int32 → Int32 → List Value → Option ρ) : Option ρ := match st with
  | .int x :: .int i :: .ref a :: r => k a i x r
  | _ => none
def pril (st : List Value) (k : Nat → Int32 → Int64 → List Value → Option ρ) : Option ρ := match st with
  | .long x :: .int i :: .ref a :: r => k a i x r
  | _ => none
def prir (st : List Value) (k : Nat → Int32 → Nat → List Value → Option ρ) : Option ρ := match st with
  | .ref x :: .int i :: .ref a :: r => k a i x r
  | _ => none
def pcpy (st : List Value) (k : Nat → Int32 → Nat → Int32 → Int32 → List Value → Option ρ) : Option ρ := match st with
  | .int n :: .int dp :: .ref a :: .int sp :: .ref a0 :: r => k a0 sp a dp n r
  | _ => none
theorem pp1_s {st : List Value} {k : Int32 → List Value → Option ρ} {q : ρ} (h : pp1 st k = some q) : ∃ x r, st = .int x :: r ∧ k x r = some q := by
  unfold pp1 at h; split at h
  · exact ⟨_, _, rfl, h⟩
  · cases h
theorem pp2_s {st : List Value} {k : Int32 → Int32 → List Value → Option ρ} {q : ρ} (h : pp2 st k = some q) : ∃ x y r, st = .int y :: .int x :: r ∧ k x y r = some q := by
  unfold pp2 at h; split at h
  · exact ⟨_, _, _, rfl, h⟩
  · cases h
theorem pl1_s {st : List Value} {k : Int64 → List Value → Option ρ} {q : ρ} (h : pl1 st k = some q) : ∃ x r, st = .long x :: r ∧ k x r = some q := by
  unfold pl1 at h; split at h
  · exact ⟨_, _, rfl, h⟩
  · cases h
theorem pl2_s {st : List Value} {k : Int64 → Int64 → List Value → Option ρ} {q : ρ} (h : pl2 st k = some q) : ∃ x y r, st = .long y :: .long x :: r ∧ k x y r = some q := by
  unfold pl2 at h; split at h
  · exact ⟨_, _, _, rfl, h⟩
  · cases h
theorem pli_s {st : List Value} {k : Int64 → Int32 → List Value → Option ρ} {q : ρ} (h : pli st k = some q) : ∃ x y r, st = .int y :: .long x :: r ∧ k x y r = some q := by
  unfold pli at h; split at h
  · exact ⟨_, _, _, rfl, h⟩
  · cases h
theorem pr1_s {st : List Value} {k : Nat → List Value → Option ρ} {q : ρ} (h : pr1 st k = some q) : ∃ x r, st = .ref x :: r ∧ k x r = some q := by
  unfold pr1 at h; split at h
  · exact ⟨_, _, rfl, h⟩
  · cases h
theorem c2v_f {v : Value} (h : c2v v = false) : v.category = 1 := by cases v <;> first | rfl | cases h
theorem c2v_t {v : Value} (h : c2v v = true) : v.category = 2 := by cases v <;> first | rfl | cases h
theorem pv1_s {st : List Value} {k : Value → List Value → Option ρ} {q : ρ} (h : pv1 st k = some q) : ∃ v r, st = v :: r ∧ v.category = 1 ∧ k v r = some q := by
  unfold pv1 at h; split at h
  · rename_i v r
    cases hc : c2v v
    · rw [hc] at h; exact ⟨v, r, rfl, c2v_f hc, h⟩
    · rw [hc] at h; cases h
  · cases h
theorem pv2_s {st : List Value} {k : Value → Value → List Value → Option ρ} {q : ρ} (h : pv2 st k = some q) : ∃ v u r, st = v :: u :: r ∧ v.category = 1 ∧ u.category = 1 ∧ k v u r = some q := by
  unfold pv2 at h; split at h
  · rename_i v u r
    cases hc : c2v v <;> cases hu : c2v u <;> rw [hc, hu] at h <;> first | cases h; done | exact ⟨v, u, r, rfl, c2v_f hc, c2v_f hu, h⟩
  · cases h
theorem pri_s {st : List Value} {k : Nat → Int32 → List Value → Option ρ} {q : ρ} (h : pri st k = some q) : ∃ a i r, st = .int i :: .ref a :: r ∧ k a i r = some q := by
  unfold pri at h; split at h
  · exact ⟨_, _, _, rfl, h⟩
  · cases h
theorem prii_s {st : List Value} {k : Nat → Int32 → Int32 → List Value → Option ρ} {q : ρ} (h : prii st k = some q) : ∃ a i x r, st = .int x :: .int i :: .ref a :: r ∧ k a i x r = some q := by
  unfold prii at h; split at h
  · exact ⟨_, _, _, _, rfl, h⟩
  · cases h
theorem pril_s {st : List Value} {k : Nat → Int32 → Int64 → List Value → Option ρ} {q : ρ} (h : pril st k = some q) : ∃ a i x r, st = .long x :: .int i :: .ref a :: r ∧ k a i x r = some q := by
  unfold pril at h; split at h
  · exact ⟨_, _, _, _, rfl, h⟩
  · cases h
theorem prir_s {st : List Value} {k : Nat → Int32 → Nat → List Value → Option ρ} {q : ρ} (h : prir st k = some q) : ∃ a i x r, st = .ref x :: .int i :: .ref a :: r ∧ k a i x r = some q := by
  unfold prir at h; split at h
  · exact ⟨_, _, _, _, rfl, h⟩
  · cases h
theorem pcpy_s {st : List Value} {k : Nat → Int32 → Nat → Int32 → Int32 → List Value → Option ρ} {q : ρ} (h : pcpy st k = some q) : ∃ a0 sp a dp n r, st = .int n :: .int dp :: .ref a :: .int sp :: .ref a0 :: r ∧ k a0 sp a dp n r = some q := by
  unfold pcpy at h; split at h
  · exact ⟨_, _, _, _, _, _, rfl, h⟩
  · cases h
theorem bnd_s {α : Type} {o : Option α} {k : α → Option ρ} {q : ρ} (h : o.bind k = some q) : ∃ x, o = some x ∧ k x = some q := by
  cases o with
  | none => cases h
  | some x => exact ⟨x, rfl, h⟩
end
theorem nbq (a b : Nat) : (a == b) = Nat.beq a b := by
  cases hb : Nat.beq a b
  · have h : a ≠ b := Nat.ne_of_beq_eq_false hb
    simp [h]
  · have h : a = b := Nat.eq_of_beq_eq_true hb
    simp [h]
theorem lg_mem {i : Nat} {v : Value} : ∀ {ls : mL}, lg i ls = some v → (i, v) ∈ ls
  | [], h => by cases h
  | (j, u) :: r, h => by
    unfold lg at h
    cases hb : Nat.beq j i
    · rw [hb] at h
      exact List.mem_cons_of_mem _ (lg_mem h)
    · rw [hb] at h
      have hj : j = i := Nat.eq_of_beq_eq_true hb
      cases h
      subst hj
      exact List.mem_cons_self
theorem lF1_eq (i : Nat) : ∀ ls : mL, lF1 i ls = ls.filter (fun q => !(q.1 == i) && !(q.1 + 1 == i && q.2.category == 2))
  | [] => rfl
  | (j, v) :: r => by
    have e : (q : Value) → (q.category == 2) = c2v q := fun q => by cases q <;> rfl
    unfold lF1
    rw [List.filter_cons, lF1_eq i r]
    show (bif (!(Nat.beq j i) && !(Nat.beq (j + 1) i && c2v v)) then _ else _) = if (!(j == i) && !(j + 1 == i && v.category == 2)) = true then _ else _
    rw [e v]
    have e1 : (j == i) = Nat.beq j i := nbq _ _
    have e2 : (j + 1 == i) = Nat.beq (j + 1) i := nbq _ _
    rw [e1, e2]
    cases (!(Nat.beq j i) && !(Nat.beq (j + 1) i && c2v v)) <;> rfl
theorem lF2_eq (i : Nat) : ∀ ls : mL, lF2 i ls = ls.filter (fun q => !(q.1 == i) && (!(q.1 == i + 1) && !(q.1 + 1 == i && q.2.category == 2)))
  | [] => rfl
  | (j, v) :: r => by
    have e : (q : Value) → (q.category == 2) = c2v q := fun q => by cases q <;> rfl
    unfold lF2
    rw [List.filter_cons, lF2_eq i r]
    show (bif (!(Nat.beq j i) && (!(Nat.beq j (i + 1)) && !(Nat.beq (j + 1) i && c2v v))) then _ else _) = if (!(j == i) && (!(j == i + 1) && !(j + 1 == i && v.category == 2))) = true then _ else _
    rw [e v]
    have e1 : (j == i) = Nat.beq j i := nbq _ _
    have e2 : (j + 1 == i) = Nat.beq (j + 1) i := nbq _ _
    have e3 : (j == i + 1) = Nat.beq j (i + 1) := nbq _ _
    rw [e1, e2, e3]
    cases (!(Nat.beq j i) && (!(Nat.beq j (i + 1)) && !(Nat.beq (j + 1) i && c2v v))) <;> rfl
theorem lF1_mq (E : mG) (i : Nat) : ∀ ls : mL, (lF1 i ls).map (mq E) = (ls.map (mq E)).filter (fun q => !(q.1 == i) && !(q.1 + 1 == i && q.2.category == 2)) := by
  intro ls
  rw [lF1_eq, List.filter_map]
  congr 1
  apply List.filter_congr
  intro q _
  show _ = (!((mq E q).1 == i) && !((mq E q).1 + 1 == i && (mq E q).2.category == 2))
  rw [show (mq E q).2.category = q.2.category from mv_cat E q.2]
  rfl
theorem lF2_mq (E : mG) (i : Nat) : ∀ ls : mL, (lF2 i ls).map (mq E) = (ls.map (mq E)).filter (fun q => !(q.1 == i) && (!(q.1 == i + 1) && !(q.1 + 1 == i && q.2.category == 2))) := by
  intro ls
  rw [lF2_eq, List.filter_map]
  congr 1
  apply List.filter_congr
  intro q _
  show _ = (!((mq E q).1 == i) && (!((mq E q).1 == i + 1) && !((mq E q).1 + 1 == i && (mq E q).2.category == 2)))
  rw [show (mq E q).2.category = q.2.category from mv_cat E q.2]
  rfl
