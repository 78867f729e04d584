/-! what is checked of an instruction (by the kernel), and that the evaluator says what the machine does -/
def isRf : FieldType → Bool
  | .object _ => true
  | .array _ => true
  | _ => false
def ckF (o idx ci kf pl : Nat) : Bool := decide (FL[pl]? = some (o, idx, ci, kf)) && Nat.blt kf (clN ci).2.2 && Nat.blt ci 13
def ckT (pc : Nat) : Int → List Int → List Nat → List Int → Bool
  | _, [], [], [] => true
  | lo, c :: cs, t :: ts, f :: fs => decide (c = lo) && decide ((pc : Int) + f = (t : Int)) && ckT pc (lo + 1) cs ts fs
  | _, _, _, _ => false
def ckL (pc : Nat) : List (Int × Int) → List Int → List Nat → Bool
  | [], [], [] => true
  | p :: ps, c :: cs, t :: ts => decide (c = p.1) && decide (-2147483648 ≤ c ∧ c < 2147483648) && decide ((pc : Int) + p.2 = (t : Int)) && ckL pc ps cs ts
  | _, _, _ => false
def ckC (o idx : Nat) (ex : List Nat) : Bool := match ex with
  | kd :: j :: n :: ci :: pl :: [] => match kd with
    | 0 => decide (ML[pl]? = some (o, idx, j)) && decide ((MT[j]?).map (fun q => (q.2, q.1.2.2.1.ble 45)) = some ((0, ci, n), true)) && Nat.blt ci 13
    | 1 => decide (ML[pl]? = some (o, idx, j)) && decide ((MT[j]?).map (fun q => ((q.2.1, q.2.2.2), q.1.2.2.1.ble 45)) = some ((1, n), true))
    | 2 => decide (ML[pl]? = some (o, idx, j)) && decide ((MT[j]?).map (fun q => ((q.2.1, q.2.2.2), q.1.2.2.1.ble 45 && decide (q.1.2.2.2 = none))) = some ((2, n), true))
    | 3 => decide (NL[pl]? = some (o, idx, j)) && decide ((MT[j]?).map (fun q => ((q.2.1, q.2.2.2), q.1.2.2.1.ble 45)) = some ((1, n), true))
    | 4 => decide (NL[pl]? = some (o, idx, j)) && decide ((MT[j]?).map (fun q => ((q.2.1, q.2.2.2), q.1.2.2.1.ble 45 && decide (q.1.2.2.2 = none))) = some ((2, n), true))
    | _ => decide (PL[pl]? = some (o, idx, kd)) && Nat.blt kd 13
  | _ => false
def ckI (o nL : Nat) (ini : Bool) (pc : Nat) (i : Instr) (len : Nat) (ex : List Nat) (cs : List Int) : Bool := match i with
  | .iconst c => Nat.beq len 1 && decide (cs = [c])
  | .bipush c => Nat.beq len 2 && decide (cs = [c]) && decide ((Int8.ofInt c).toInt32 = jI c)
  | .sipush c => Nat.beq len 3 && decide (cs = [c]) && decide ((Int16.ofInt c).toInt32 = jI c)
  | .lconst n => Nat.beq len 1 && (match cs with
    | [c] => decide (Int64.ofNat n.val = jL c)
    | _ => false)
  | .ldc idx => Nat.beq len 2 && (match ex with
    | [t, j] => (match t with
      | 0 => (match cs with
        | [c] => decide (CI[j]? = some (o, idx, c))
        | _ => false)
      | _ => decide ((sjAll[j]?).map (fun q => (q.1, q.2.1)) = some (oN o, idx)) && Nat.blt j 18)
    | _ => false)
  | .ldc_w idx => Nat.beq len 3 && (match ex, cs with
    | [j], [c] => decide (CI[j]? = some (o, idx, c))
    | _, _ => false)
  | .ldc2_w idx => Nat.beq len 3 && (match ex, cs with
    | [j], [c] => decide (CJ[j]? = some (o, idx, c))
    | _, _ => false)
  | .iload j => Nat.beq len 2 && decide (ex = [j])
  | .iload_n n => Nat.beq len 1 && decide (ex = [n.val])
  | .lload j => Nat.beq len 2 && decide (ex = [j])
  | .lload_n n => Nat.beq len 1 && decide (ex = [n.val])
  | .aload j => Nat.beq len 2 && decide (ex = [j])
  | .aload_n n => Nat.beq len 1 && decide (ex = [n.val])
  | .istore j => Nat.beq len 2 && decide (ex = [j]) && Nat.blt j nL
  | .istore_n n => Nat.beq len 1 && decide (ex = [n.val]) && Nat.blt n.val nL
  | .lstore j => Nat.beq len 2 && decide (ex = [j]) && Nat.blt (j + 1) nL
  | .lstore_n n => Nat.beq len 1 && decide (ex = [n.val]) && Nat.blt (n.val + 1) nL
  | .astore j => Nat.beq len 2 && decide (ex = [j]) && Nat.blt j nL
  | .astore_n n => Nat.beq len 1 && decide (ex = [n.val]) && Nat.blt n.val nL
  | .iinc j c => Nat.beq len 3 && decide (ex = [j]) && decide (cs = [c]) && Nat.blt j nL
  | .getfield idx => Nat.beq len 3 && (match ex with
    | [ci, kf, _, pl] => ckF o idx ci kf pl
    | _ => false)
  | .putfield idx => Nat.beq len 3 && (match ex with
    | [ci, kf, kd, pl] => ckF o idx ci kf pl && (!((clN ci).2.1 kf).2.2.2 || (ini && decide ((clN ci).1 = oN o))) && (match kd with
      | 0 => decide (cty ci kf = .int)
      | 1 => decide (cty ci kf = .long)
      | 2 => isRf (cty ci kf)
      | _ => decide (cty ci kf = .boolean))
    | _ => false)
  | .baload => Nat.beq len 1 && decide (ex = [2] ∨ ex = [3])
  | .bastore => Nat.beq len 1 && decide (ex = [2] ∨ ex = [3])
  | .aaload => Nat.beq len 1 && decide (ex = [4] ∨ ex = [5])
  | .aastore => Nat.beq len 1 && decide (ex = [4, 5] ∨ ex = [5, 4])
  | .new idx => Nat.beq len 3 && (match ex with
    | [ci, pl] => decide (KL[pl]? = some (o, idx, ci)) && Nat.blt ci 13
    | _ => false)
  | .newarray a => Nat.beq len 2 && (match ex with
    | [t] => decide ((t = 0 ∧ a = .int) ∨ (t = 1 ∧ a = .long) ∨ (t = 2 ∧ a = .byte) ∨ (t = 3 ∧ a = .boolean))
    | _ => false)
  | .anewarray idx => Nat.beq len 3 && (match ex with
    | [t, ci, pl] => decide (KL[pl]? = some (o, idx, ci)) && decide ((t = 4 ∧ ci = 5) ∨ (t = 5 ∧ ci = 4))
    | _ => false)
  | .goto off => Nat.beq len 3 && (match ex with
    | [t] => decide ((pc : Int) + off = (t : Int))
    | _ => false)
  | .if_icmp _ off => Nat.beq len 3 && (match ex with
    | [t] => decide ((pc : Int) + off = (t : Int))
    | _ => false)
  | .ifCond _ off => Nat.beq len 3 && (match ex with
    | [t] => decide ((pc : Int) + off = (t : Int))
    | _ => false)
  | .tableswitch d lo hi offs => (match ex with
    | e :: ts => decide ((pc : Int) + d = (e : Int)) && ckT pc lo cs ts offs.toList && decide (-2147483648 ≤ lo ∧ hi < 2147483648 ∧ lo ≤ hi + 1 ∧ (offs.toList.length : Int) = hi - lo + 1)
    | _ => false)
  | .lookupswitch d ps => (match ex with
    | e :: ts => decide ((pc : Int) + d = (e : Int)) && ckL pc ps.toList cs ts && (ps.toList.zip (ps.toList.drop 1)).all (fun (a, next) => a.1 < next.1)
    | _ => false)
  | .invokevirtual idx => Nat.beq len 3 && ckC o idx ex && decide (ex.headD 9 = 0 ∨ ex.headD 9 = 11 ∨ ex.headD 9 = 12)
  | .invokestatic idx => Nat.beq len 3 && ckC o idx ex && decide (ex.headD 9 = 1 ∨ ex.headD 9 = 3 ∨ (6 ≤ ex.headD 0 ∧ ex.headD 99 ≤ 10))
  | .invokespecial idx => Nat.beq len 3 && ckC o idx ex && decide (ex.headD 9 = 2 ∨ ex.headD 9 = 4 ∨ ex.headD 9 = 5)
  | _ => Nat.beq len 1
def lst (cc : ByteArray) (o nL : Nat) (ini : Bool) : Nat → List mI → Bool
  | _, [] => true
  | pc, (i, len, ex, cs) :: is => decide (decode cc pc = .ok (i, len)) && ckI o nL ini pc i len ex cs && lst cc o nL ini (pc + len) is

section
variable {ρ : Type}
theorem x1_s {ex : List Nat} {k : Nat → Option ρ} {q : ρ} (h : x1 ex k = some q) : ∃ a, ex = [a] ∧ k a = some q := by
  unfold x1 at h; split at h
  · exact ⟨_, rfl, h⟩
  · cases h
theorem x2_s {ex : List Nat} {k : Nat → Nat → Option ρ} {q : ρ} (h : x2 ex k = some q) : ∃ a b, ex = [a, b] ∧ k a b = some q := by
  unfold x2 at h; split at h
  · exact ⟨_, _, rfl, h⟩
  · cases h
theorem x3_s {ex : List Nat} {k : Nat → Nat → Nat → Option ρ} {q : ρ} (h : x3 ex k = some q) : ∃ a b c, ex = [a, b, c] ∧ k a b c = some q := by
  unfold x3 at h; split at h
  · exact ⟨_, _, _, rfl, h⟩
  · cases h
theorem x4_s {ex : List Nat} {k : Nat → Nat → Nat → Nat → Option ρ} {q : ρ} (h : x4 ex k = some q) : ∃ a b c d, ex = [a, b, c, d] ∧ k a b c d = some q := by
  unfold x4 at h; split at h
  · exact ⟨_, _, _, _, rfl, h⟩
  · cases h
theorem z1_s {cs : List Int} {k : Int → Option ρ} {q : ρ} (h : z1 cs k = some q) : ∃ a, cs = [a] ∧ k a = some q := by
  unfold z1 at h; split at h
  · exact ⟨_, rfl, h⟩
  · cases h
theorem lgi_s {j : Nat} {ls : mL} {k : Int32 → Option ρ} {q : ρ} (h : lgi j ls k = some q) : ∃ x, lg j ls = some (.int x) ∧ k x = some q := by
  unfold lgi at h; split at h
  · rename_i x hx; exact ⟨x, hx, h⟩
  · cases h
theorem lgl_s {j : Nat} {ls : mL} {k : Int64 → Option ρ} {q : ρ} (h : lgl_ j ls k = some q) : ∃ x, lg j ls = some (.long x) ∧ k x = some q := by
  unfold lgl_ at h; split at h
  · rename_i x hx; exact ⟨x, hx, h⟩
  · cases h
theorem lga_s {j : Nat} {ls : mL} {k : Value → Option ρ} {q : ρ} (h : lga j ls k = some q) : ∃ v, lg j ls = some v ∧ rfV v = true ∧ k v = some q := by
  unfold lga at h; split at h
  · rename_i v hv
    cases hb : rfV v
    · rw [hb] at h; cases h
    · rw [hb] at h; exact ⟨v, hv, hb, h⟩
  · cases h
theorem prf_s {st : List Value} {k : Value → List Value → Option ρ} {q : ρ} (h : prf st k = some q) : ∃ v r, st = v :: r ∧ rfV v = true ∧ k v r = some q := by
  unfold prf at h; split at h
  · rename_i v r
    cases hb : rfV v
    · rw [hb] at h; cases h
    · rw [hb] at h; exact ⟨v, r, rfl, hb, h⟩
  · cases h
theorem prl_s {st : List Value} {k : Nat → Int64 → List Value → Option ρ} {q : ρ} (h : prl st k = some q) : ∃ a x r, st = .long x :: .ref a :: r ∧ k a x r = some q := by
  unfold prl at h; split at h
  · exact ⟨_, _, _, rfl, h⟩
  · cases h
theorem prr_s {st : List Value} {k : Nat → Nat → List Value → Option ρ} {q : ρ} (h : prr st k = some q) : ∃ a x r, st = .ref x :: .ref a :: r ∧ k a x r = some q := by
  unfold prr at h; split at h
  · exact ⟨_, _, _, rfl, h⟩
  · cases h
theorem pxi_s {st : List Value} {k : Int32 → List Value → Option ρ} {q : ρ} (h : pxi st k = some q) : ∃ i r, st = .int i :: .retAddr 0 :: r ∧ k i r = some q := by
  unfold pxi at h; split at h
  · exact ⟨_, _, rfl, h⟩
  · cases h
theorem px_s {st : List Value} {k : List Value → Option ρ} {q : ρ} (h : px st k = some q) : ∃ r, st = .retAddr 0 :: r ∧ k r = some q := by
  unfold px at h; split at h
  · exact ⟨_, rfl, h⟩
  · cases h
theorem psu_s {st : List Value} {k : UInt32 → List Value → Option ρ} {q : ρ} (h : psu st k = some q) : ∃ u r, st = .float u :: r ∧ k u r = some q := by
  unfold psu at h; split at h
  · exact ⟨_, _, rfl, h⟩
  · cases h
theorem psui_s {st : List Value} {k : UInt32 → Int32 → List Value → Option ρ} {q : ρ} (h : psui st k = some q) : ∃ u x r, st = .int x :: .float u :: r ∧ k u x r = some q := by
  unfold psui at h; split at h
  · exact ⟨_, _, _, rfl, h⟩
  · cases h
theorem rmc_s {st : List Value} {e : Option ρ} {q : ρ} (h : rmc st e = some q) : (st.map fun v => v.category).sum ≤ 8 ∧ e = some q := by
  unfold rmc at h
  cases hb : Nat.ble ((st.map fun v => v.category).sum) 8
  · rw [hb] at h; cases h
  · rw [hb] at h; exact ⟨Nat.le_of_ble_eq_true hb, h⟩
theorem spl_s {n : Nat} {st : List Value} {k : List Value → List Value → Option ρ} {q : ρ} (h : spl n st k = some q) : ∃ as r, st = as.reverse ++ r ∧ as.length = n ∧ k as r = some q := by
  unfold spl at h
  cases hb : Nat.ble n st.length
  · rw [hb] at h; cases h
  · rw [hb] at h
    have hn := Nat.le_of_ble_eq_true hb
    exact ⟨(st.take n).reverse, st.drop n, by rw [List.reverse_reverse, List.take_append_drop], by rw [List.length_reverse, List.length_take]; omega, h⟩
theorem xld_s {X : Nat × (Nat → Int32)} {i x : Int32} (h : xld X i = some x) : ¬ (i < 0 ∨ X.1 ≤ i.toNatClampNeg) ∧ X.2 i.toNatClampNeg = x := by
  unfold xld at h
  split at h
  · rename_i hq; exact ⟨hq, Option.some.inj h⟩
  · cases h
theorem sLn_s {u : UInt32} {x : Int32} (h : sLn u = some x) : u.toNat < 18 ∧ sLen u = x := by
  unfold sLn at h
  split at h
  · rename_i hq; exact ⟨hq, Option.some.inj h⟩
  · cases h
end
theorem gI_s {h : mH} {ci a k : Nat} {x : Int32} (e : gI h ci a k = some x) : gV h ci a k = some (.int x) := by
  unfold gI at e; split at e
  · rename_i y hy; cases e; exact hy
  · cases e
theorem gL_s {h : mH} {ci a k : Nat} {x : Int64} (e : gL h ci a k = some x) : gV h ci a k = some (.long x) := by
  unfold gL at e; split at e
  · rename_i y hy; cases e; exact hy
  · cases e
theorem gR_s {h : mH} {ci a k : Nat} {x : Nat} (e : gR h ci a k = some x) : gV h ci a k = some (.ref x) := by
  unfold gR at e; split at e
  · rename_i y hy; cases e; exact hy
  · cases e
theorem blt_s {a b : Nat} (h : Nat.blt a b = true) : a < b := Nat.lt_of_succ_le (by simpa [Nat.blt] using h)
theorem cls_at {ci : Nat} (h : Nat.blt ci 13 = true) : classes[ci]? = some (clN ci) := by
  have hl : ci < classes.length := blt_s h
  unfold clN
  rw [List.getD_eq_getElem?_getD, List.getElem?_eq_getElem hl]
  rfl
theorem ckF_s {o idx ci kf pl : Nat} (h : ckF o idx ci kf pl = true) : (o, idx, ci, kf) ∈ FL ∧ classes[ci]? = some (clN ci) ∧ kf < (clN ci).2.2 := by
  unfold ckF at h
  simp only [Bool.and_eq_true, decide_eq_true_eq] at h
  exact ⟨List.mem_of_getElem? h.1.1, cls_at h.2, blt_s h.1.2⟩
theorem cA_int : Cond.arrayClass .int ∈ WT := WT_of (List.mem_of_getElem? (i := 203) (by decide +kernel)) rfl
theorem cA_byte : Cond.arrayClass .byte ∈ WT := WT_of (List.mem_of_getElem? (i := 202) (by decide +kernel)) rfl
theorem cA_long : Cond.arrayClass .long ∈ WT := WT_of (List.mem_of_getElem? (i := 362) (by decide +kernel)) rfl
theorem cA_bool : Cond.arrayClass .boolean ∈ WT := WT_of (List.mem_of_getElem? (i := 1676) (by decide +kernel)) rfl
theorem z_bool {x : Int32} (h : x &&& 1 = x) : x = 0 ∨ x = 1 := by
  have h1 : x.toBitVec &&& 1#32 = x.toBitVec := congrArg Int32.toBitVec h
  have h2 : x.toBitVec = 0#32 ∨ x.toBitVec = 1#32 := by
    have h3 : (x.toBitVec &&& 1#32).toNat = x.toBitVec.toNat := congrArg BitVec.toNat h1
    rw [BitVec.toNat_and] at h3
    have h4 : x.toBitVec.toNat &&& 1 = x.toBitVec.toNat % 2 := Nat.and_one_is_mod _
    have h5 : (1#32).toNat = 1 := rfl
    rw [h5, h4] at h3
    have h6 : x.toBitVec.toNat = 0 ∨ x.toBitVec.toNat = 1 := by omega
    rcases h6 with h6 | h6
    · exact Or.inl (BitVec.eq_of_toNat_eq h6)
    · exact Or.inr (BitVec.eq_of_toNat_eq h6)
  rcases h2 with h2 | h2
  · exact Or.inl (Int32.toBitVec_inj.mp h2)
  · exact Or.inr (Int32.toBitVec_inj.mp h2)

set_option maxHeartbeats 4000000 in
theorem sx_ok {ρ : Type} {X : Nat × (Nat → Int32)} {y : mM} {d o pc : Nat} {ini : Bool} {ls : mL} {st : List Value} {h : mH} {r : Option Value} {h' : mH} {q : ρ} {i : Instr} {len : Nat} {ex : List Nat} {cs : List Int} {k : mL → List Value → mH → Option ρ}
    (ho : oN o = y.1.cls) (hini : ini = true → y.1.name = "<init>") (hd : dcd y pc i len) (hc : ckI o y.2.2.1 ini pc i len ex cs = true) (hs : sx X i ex cs ls st h k = some q) (hk : ∀ ls1 st1 h1, k ls1 st1 h1 = some q → MW X y d (pc + len) ls1 st1 h1 r h') : MW X y d pc ls st h r h' := by
  cases i with
  | iconst c =>
    simp only [ckI, Bool.and_eq_true, decide_eq_true_eq] at hc
    obtain ⟨hl, hc⟩ := hc
    obtain rfl : len = 1 := Nat.eq_of_beq_eq_true hl
    subst hc
    exact r_iconst hd (hk _ _ _ hs)
  | bipush c =>
    simp only [ckI, Bool.and_eq_true, decide_eq_true_eq] at hc
    obtain ⟨⟨hl, rfl⟩, hc⟩ := hc
    obtain rfl : len = 2 := Nat.eq_of_beq_eq_true hl
    exact r_bipush hd hc (hk _ _ _ hs)
  | sipush c =>
    simp only [ckI, Bool.and_eq_true, decide_eq_true_eq] at hc
    obtain ⟨⟨hl, rfl⟩, hc⟩ := hc
    obtain rfl : len = 3 := Nat.eq_of_beq_eq_true hl
    exact r_sipush hd hc (hk _ _ _ hs)
  | lconst n =>
    replace hs := z1_s hs
    obtain ⟨c, rfl, hs⟩ := hs
    simp only [ckI, Bool.and_eq_true, decide_eq_true_eq] at hc
    obtain ⟨hl, hc⟩ := hc
    obtain rfl : len = 1 := Nat.eq_of_beq_eq_true hl
    exact r_lconst hd hc (hk _ _ _ hs)
  | ldc idx =>
    replace hs := x2_s hs
    obtain ⟨t, j, rfl, hs⟩ := hs
    cases t with
    | zero =>
      replace hs := z1_s hs
      obtain ⟨c, rfl, hs⟩ := hs
      simp only [ckI, Bool.and_eq_true, decide_eq_true_eq] at hc
      obtain ⟨hl, hc⟩ := hc
      obtain rfl : len = 2 := Nat.eq_of_beq_eq_true hl
      exact r_ldc hd ho (List.mem_of_getElem? hc) (hk _ _ _ hs)
    | succ t =>
      simp only [ckI, Bool.and_eq_true, decide_eq_true_eq] at hc
      obtain ⟨hl, hc, hj⟩ := hc
      obtain rfl : len = 2 := Nat.eq_of_beq_eq_true hl
      cases hq : sjAll[j]? with
      | none => rw [hq] at hc; cases hc
      | some w =>
        rw [hq] at hc
        obtain ⟨w1, w2, w3⟩ := w
        cases hc
        have hj2 := blt_s hj
        exact r_ldcS (tx := w3) hd (by rw [hq, ← ho]; rfl) (by omega) (hk _ _ _ hs)
  | ldc_w idx =>
    replace hs := z1_s hs
    obtain ⟨c, rfl, hs⟩ := hs
    simp only [ckI, Bool.and_eq_true] at hc
    obtain ⟨hl, hc⟩ := hc
    obtain rfl : len = 3 := Nat.eq_of_beq_eq_true hl
    split at hc
    · rename_i j c2 e1 e2
      cases e2
      exact r_ldcw hd ho (List.mem_of_getElem? (of_decide_eq_true hc)) (hk _ _ _ hs)
    · cases hc
  | ldc2_w idx =>
    replace hs := z1_s hs
    obtain ⟨c, rfl, hs⟩ := hs
    simp only [ckI, Bool.and_eq_true] at hc
    obtain ⟨hl, hc⟩ := hc
    obtain rfl : len = 3 := Nat.eq_of_beq_eq_true hl
    split at hc
    · rename_i j c2 e1 e2
      cases e2
      exact r_ldc2 hd ho (List.mem_of_getElem? (of_decide_eq_true hc)) (hk _ _ _ hs)
    · cases hc
  | iload j =>
    replace hs := x1_s hs
    obtain ⟨j2, rfl, hs⟩ := hs
    replace hs := lgi_s hs
    obtain ⟨x, hx, hs⟩ := hs
    simp only [ckI, Bool.and_eq_true, decide_eq_true_eq] at hc
    obtain ⟨hl, hc⟩ := hc
    obtain rfl : len = 2 := Nat.eq_of_beq_eq_true hl
    cases hc
    exact r_iload hd hx (hk _ _ _ hs)
  | iload_n n =>
    replace hs := x1_s hs
    obtain ⟨j2, rfl, hs⟩ := hs
    replace hs := lgi_s hs
    obtain ⟨x, hx, hs⟩ := hs
    simp only [ckI, Bool.and_eq_true, decide_eq_true_eq] at hc
    obtain ⟨hl, hc⟩ := hc
    obtain rfl : len = 1 := Nat.eq_of_beq_eq_true hl
    cases hc
    exact r_iload_n hd rfl hx (hk _ _ _ hs)
  | lload j =>
    replace hs := x1_s hs
    obtain ⟨j2, rfl, hs⟩ := hs
    replace hs := lgl_s hs
    obtain ⟨x, hx, hs⟩ := hs
    simp only [ckI, Bool.and_eq_true, decide_eq_true_eq] at hc
    obtain ⟨hl, hc⟩ := hc
    obtain rfl : len = 2 := Nat.eq_of_beq_eq_true hl
    cases hc
    exact r_lload hd hx (hk _ _ _ hs)
  | lload_n n =>
    replace hs := x1_s hs
    obtain ⟨j2, rfl, hs⟩ := hs
    replace hs := lgl_s hs
    obtain ⟨x, hx, hs⟩ := hs
    simp only [ckI, Bool.and_eq_true, decide_eq_true_eq] at hc
    obtain ⟨hl, hc⟩ := hc
    obtain rfl : len = 1 := Nat.eq_of_beq_eq_true hl
    cases hc
    exact r_lload_n hd rfl hx (hk _ _ _ hs)
  | aload j =>
    replace hs := x1_s hs
    obtain ⟨j2, rfl, hs⟩ := hs
    replace hs := lga_s hs
    obtain ⟨x, hx, hv, hs⟩ := hs
    simp only [ckI, Bool.and_eq_true, decide_eq_true_eq] at hc
    obtain ⟨hl, hc⟩ := hc
    obtain rfl : len = 2 := Nat.eq_of_beq_eq_true hl
    cases hc
    exact r_aload hd hx hv (hk _ _ _ hs)
  | aload_n n =>
    replace hs := x1_s hs
    obtain ⟨j2, rfl, hs⟩ := hs
    replace hs := lga_s hs
    obtain ⟨x, hx, hv, hs⟩ := hs
    simp only [ckI, Bool.and_eq_true, decide_eq_true_eq] at hc
    obtain ⟨hl, hc⟩ := hc
    obtain rfl : len = 1 := Nat.eq_of_beq_eq_true hl
    cases hc
    exact r_aload_n hd rfl hx hv (hk _ _ _ hs)
  | istore j =>
    replace hs := x1_s hs
    obtain ⟨j2, rfl, hs⟩ := hs
    replace hs := pp1_s hs
    obtain ⟨x, rr, rfl, hs⟩ := hs
    simp only [ckI, Bool.and_eq_true, decide_eq_true_eq] at hc
    obtain ⟨⟨hl, hc⟩, hn⟩ := hc
    obtain rfl : len = 2 := Nat.eq_of_beq_eq_true hl
    cases hc
    exact r_istore hd (blt_s hn) (hk _ _ _ hs)
  | istore_n n =>
    replace hs := x1_s hs
    obtain ⟨j2, rfl, hs⟩ := hs
    replace hs := pp1_s hs
    obtain ⟨x, rr, rfl, hs⟩ := hs
    simp only [ckI, Bool.and_eq_true, decide_eq_true_eq] at hc
    obtain ⟨⟨hl, hc⟩, hn⟩ := hc
    obtain rfl : len = 1 := Nat.eq_of_beq_eq_true hl
    cases hc
    exact r_istore_n hd rfl (blt_s hn) (hk _ _ _ hs)
  | lstore j =>
    replace hs := x1_s hs
    obtain ⟨j2, rfl, hs⟩ := hs
    replace hs := pl1_s hs
    obtain ⟨x, rr, rfl, hs⟩ := hs
    simp only [ckI, Bool.and_eq_true, decide_eq_true_eq] at hc
    obtain ⟨⟨hl, hc⟩, hn⟩ := hc
    obtain rfl : len = 2 := Nat.eq_of_beq_eq_true hl
    cases hc
    exact r_lstore hd (blt_s hn) (hk _ _ _ hs)
  | lstore_n n =>
    replace hs := x1_s hs
    obtain ⟨j2, rfl, hs⟩ := hs
    replace hs := pl1_s hs
    obtain ⟨x, rr, rfl, hs⟩ := hs
    simp only [ckI, Bool.and_eq_true, decide_eq_true_eq] at hc
    obtain ⟨⟨hl, hc⟩, hn⟩ := hc
    obtain rfl : len = 1 := Nat.eq_of_beq_eq_true hl
    cases hc
    exact r_lstore_n hd rfl (blt_s hn) (hk _ _ _ hs)
  | astore j =>
    replace hs := x1_s hs
    obtain ⟨j2, rfl, hs⟩ := hs
    replace hs := prf_s hs
    obtain ⟨x, rr, rfl, hv, hs⟩ := hs
    simp only [ckI, Bool.and_eq_true, decide_eq_true_eq] at hc
    obtain ⟨⟨hl, hc⟩, hn⟩ := hc
    obtain rfl : len = 2 := Nat.eq_of_beq_eq_true hl
    cases hc
    exact r_astore hd (blt_s hn) hv (hk _ _ _ hs)
  | astore_n n =>
    replace hs := x1_s hs
    obtain ⟨j2, rfl, hs⟩ := hs
    replace hs := prf_s hs
    obtain ⟨x, rr, rfl, hv, hs⟩ := hs
    simp only [ckI, Bool.and_eq_true, decide_eq_true_eq] at hc
    obtain ⟨⟨hl, hc⟩, hn⟩ := hc
    obtain rfl : len = 1 := Nat.eq_of_beq_eq_true hl
    cases hc
    exact r_astore_n hd rfl (blt_s hn) hv (hk _ _ _ hs)
  | iinc j c =>
    replace hs := x1_s hs
    obtain ⟨j2, rfl, hs⟩ := hs
    replace hs := z1_s hs
    obtain ⟨c2, rfl, hs⟩ := hs
    replace hs := lgi_s hs
    obtain ⟨x, hx, hs⟩ := hs
    simp only [ckI, Bool.and_eq_true, decide_eq_true_eq] at hc
    obtain ⟨⟨⟨hl, hc⟩, hc2⟩, hn⟩ := hc
    obtain rfl : len = 3 := Nat.eq_of_beq_eq_true hl
    cases hc
    cases hc2
    exact r_iinc hd (blt_s hn) hx (hk _ _ _ hs)
  | iadd =>
    obtain rfl : len = 1 := Nat.eq_of_beq_eq_true hc
    replace hs := pp2_s hs
    obtain ⟨a, b, rr, rfl, hs⟩ := hs
    exact r_iadd hd (hk _ _ _ hs)
  | isub =>
    obtain rfl : len = 1 := Nat.eq_of_beq_eq_true hc
    replace hs := pp2_s hs
    obtain ⟨a, b, rr, rfl, hs⟩ := hs
    exact r_isub hd (hk _ _ _ hs)
  | imul =>
    obtain rfl : len = 1 := Nat.eq_of_beq_eq_true hc
    replace hs := pp2_s hs
    obtain ⟨a, b, rr, rfl, hs⟩ := hs
    exact r_imul hd (hk _ _ _ hs)
  | iand =>
    obtain rfl : len = 1 := Nat.eq_of_beq_eq_true hc
    replace hs := pp2_s hs
    obtain ⟨a, b, rr, rfl, hs⟩ := hs
    exact r_iand hd (hk _ _ _ hs)
  | ior =>
    obtain rfl : len = 1 := Nat.eq_of_beq_eq_true hc
    replace hs := pp2_s hs
    obtain ⟨a, b, rr, rfl, hs⟩ := hs
    exact r_ior hd (hk _ _ _ hs)
  | ixor =>
    obtain rfl : len = 1 := Nat.eq_of_beq_eq_true hc
    replace hs := pp2_s hs
    obtain ⟨a, b, rr, rfl, hs⟩ := hs
    exact r_ixor hd (hk _ _ _ hs)
  | ishl =>
    obtain rfl : len = 1 := Nat.eq_of_beq_eq_true hc
    replace hs := pp2_s hs
    obtain ⟨a, b, rr, rfl, hs⟩ := hs
    exact r_ishl hd (hk _ _ _ hs)
  | ishr =>
    obtain rfl : len = 1 := Nat.eq_of_beq_eq_true hc
    replace hs := pp2_s hs
    obtain ⟨a, b, rr, rfl, hs⟩ := hs
    exact r_ishr hd (hk _ _ _ hs)
  | iushr =>
    obtain rfl : len = 1 := Nat.eq_of_beq_eq_true hc
    replace hs := pp2_s hs
    obtain ⟨a, b, rr, rfl, hs⟩ := hs
    exact r_iushr hd (hk _ _ _ hs)
  | idiv =>
    obtain rfl : len = 1 := Nat.eq_of_beq_eq_true hc
    replace hs := pp2_s hs
    obtain ⟨a, b, rr, rfl, hs⟩ := hs
    by_cases hb : b = 0
    · rw [if_pos hb] at hs; cases hs
    · rw [if_neg hb] at hs
      exact r_idiv hd hb (hk _ _ _ hs)
  | irem =>
    obtain rfl : len = 1 := Nat.eq_of_beq_eq_true hc
    replace hs := pp2_s hs
    obtain ⟨a, b, rr, rfl, hs⟩ := hs
    by_cases hb : b = 0
    · rw [if_pos hb] at hs; cases hs
    · rw [if_neg hb] at hs
      exact r_irem hd hb (hk _ _ _ hs)
  | ineg =>
    obtain rfl : len = 1 := Nat.eq_of_beq_eq_true hc
    replace hs := pp1_s hs
    obtain ⟨a, rr, rfl, hs⟩ := hs
    exact r_ineg hd (hk _ _ _ hs)
  | ladd =>
    obtain rfl : len = 1 := Nat.eq_of_beq_eq_true hc
    replace hs := pl2_s hs
    obtain ⟨a, b, rr, rfl, hs⟩ := hs
    exact r_ladd hd (hk _ _ _ hs)
  | lsub =>
    obtain rfl : len = 1 := Nat.eq_of_beq_eq_true hc
    replace hs := pl2_s hs
    obtain ⟨a, b, rr, rfl, hs⟩ := hs
    exact r_lsub hd (hk _ _ _ hs)
  | lmul =>
    obtain rfl : len = 1 := Nat.eq_of_beq_eq_true hc
    replace hs := pl2_s hs
    obtain ⟨a, b, rr, rfl, hs⟩ := hs
    exact r_lmul hd (hk _ _ _ hs)
  | land =>
    obtain rfl : len = 1 := Nat.eq_of_beq_eq_true hc
    replace hs := pl2_s hs
    obtain ⟨a, b, rr, rfl, hs⟩ := hs
    exact r_land hd (hk _ _ _ hs)
  | lor =>
    obtain rfl : len = 1 := Nat.eq_of_beq_eq_true hc
    replace hs := pl2_s hs
    obtain ⟨a, b, rr, rfl, hs⟩ := hs
    exact r_lor hd (hk _ _ _ hs)
  | lshl =>
    obtain rfl : len = 1 := Nat.eq_of_beq_eq_true hc
    replace hs := pli_s hs
    obtain ⟨a, b, rr, rfl, hs⟩ := hs
    exact r_lshl hd (hk _ _ _ hs)
  | lshr =>
    obtain rfl : len = 1 := Nat.eq_of_beq_eq_true hc
    replace hs := pli_s hs
    obtain ⟨a, b, rr, rfl, hs⟩ := hs
    exact r_lshr hd (hk _ _ _ hs)
  | lushr =>
    obtain rfl : len = 1 := Nat.eq_of_beq_eq_true hc
    replace hs := pli_s hs
    obtain ⟨a, b, rr, rfl, hs⟩ := hs
    exact r_lushr hd (hk _ _ _ hs)
  | i2l =>
    obtain rfl : len = 1 := Nat.eq_of_beq_eq_true hc
    replace hs := pp1_s hs
    obtain ⟨a, rr, rfl, hs⟩ := hs
    exact r_i2l hd (hk _ _ _ hs)
  | l2i =>
    obtain rfl : len = 1 := Nat.eq_of_beq_eq_true hc
    replace hs := pl1_s hs
    obtain ⟨a, rr, rfl, hs⟩ := hs
    exact r_l2i hd (hk _ _ _ hs)
  | i2b =>
    obtain rfl : len = 1 := Nat.eq_of_beq_eq_true hc
    replace hs := pp1_s hs
    obtain ⟨a, rr, rfl, hs⟩ := hs
    exact r_i2b hd (hk _ _ _ hs)
  | i2s =>
    obtain rfl : len = 1 := Nat.eq_of_beq_eq_true hc
    replace hs := pp1_s hs
    obtain ⟨a, rr, rfl, hs⟩ := hs
    exact r_i2s hd (hk _ _ _ hs)
  | dup =>
    obtain rfl : len = 1 := Nat.eq_of_beq_eq_true hc
    replace hs := pv1_s hs
    obtain ⟨v, rr, rfl, hv, hs⟩ := hs
    exact r_dup hd hv (hk _ _ _ hs)
  | pop =>
    obtain rfl : len = 1 := Nat.eq_of_beq_eq_true hc
    replace hs := pv1_s hs
    obtain ⟨v, rr, rfl, hv, hs⟩ := hs
    exact r_pop hd hv (hk _ _ _ hs)
  | dup2 =>
    obtain rfl : len = 1 := Nat.eq_of_beq_eq_true hc
    replace hs := pv2_s hs
    obtain ⟨v, u, rr, rfl, hv, hu, hs⟩ := hs
    exact r_dup2 hd hv hu (hk _ _ _ hs)
  | pop2 =>
    obtain rfl : len = 1 := Nat.eq_of_beq_eq_true hc
    replace hs := pl1_s hs
    obtain ⟨a, rr, rfl, hs⟩ := hs
    exact r_pop2 hd (hk _ _ _ hs)
  | getfield idx =>
    replace hs := x4_s hs
    obtain ⟨ci, kf, kd, pl, rfl, hs⟩ := hs
    replace hs := pr1_s hs
    obtain ⟨a, rr, rfl, hs⟩ := hs
    simp only [ckI, Bool.and_eq_true] at hc
    obtain ⟨hl, hc⟩ := hc
    obtain rfl : len = 3 := Nat.eq_of_beq_eq_true hl
    obtain ⟨g1, g2, g3⟩ := ckF_s hc
    rcases kd with _ | _ | n
    · replace hs := bnd_s hs
      obtain ⟨x, hx, hs⟩ := hs
      exact r_get hd ho g1 g2 g3 (gI_s hx) (hk _ _ _ hs)
    · replace hs := bnd_s hs
      obtain ⟨x, hx, hs⟩ := hs
      exact r_get hd ho g1 g2 g3 (gL_s hx) (hk _ _ _ hs)
    · replace hs := bnd_s hs
      obtain ⟨x, hx, hs⟩ := hs
      exact r_get hd ho g1 g2 g3 (gR_s hx) (hk _ _ _ hs)
  | putfield idx =>
    replace hs := x4_s hs
    obtain ⟨ci, kf, kd, pl, rfl, hs⟩ := hs
    simp only [ckI, Bool.and_eq_true] at hc
    obtain ⟨hl, ⟨hc, hfn⟩, hty⟩ := hc
    obtain rfl : len = 3 := Nat.eq_of_beq_eq_true hl
    obtain ⟨g1, g2, g3⟩ := ckF_s hc
    have hfin : ((clN ci).2.1 kf).2.2.2 = true → y.1.name = "<init>" ∧ (clN ci).1 = oN o := by
      intro e
      rw [e] at hfn
      simp only [Bool.not_true, Bool.false_or, Bool.and_eq_true, decide_eq_true_eq] at hfn
      exact ⟨hini hfn.1, hfn.2⟩
    rcases kd with _ | _ | _ | n
    · replace hs := pri_s hs
      obtain ⟨a, x, rr, rfl, hs⟩ := hs
      replace hs := bnd_s hs
      obtain ⟨h1, hx, hs⟩ := hs
      exact r_put hd ho g1 g2 g3 hfin (fun E => by rw [of_decide_eq_true hty]; exact ⟨rfl, rfl⟩) hx (hk _ _ _ hs)
    · replace hs := prl_s hs
      obtain ⟨a, x, rr, rfl, hs⟩ := hs
      replace hs := bnd_s hs
      obtain ⟨h1, hx, hs⟩ := hs
      exact r_put hd ho g1 g2 g3 hfin (fun E => by rw [of_decide_eq_true hty]; exact ⟨rfl, rfl⟩) hx (hk _ _ _ hs)
    · replace hs := prr_s hs
      obtain ⟨a, x, rr, rfl, hs⟩ := hs
      replace hs := bnd_s hs
      obtain ⟨h1, hx, hs⟩ := hs
      exact r_put hd ho g1 g2 g3 hfin (fun E => by
        cases ht : cty ci kf <;> rw [ht] at hty <;> first | cases hty; done | exact ⟨rfl, rfl⟩) hx (hk _ _ _ hs)
    · replace hs := pri_s hs
      obtain ⟨a, x, rr, rfl, hs⟩ := hs
      by_cases hz : x &&& 1 = x
      · rw [if_pos hz] at hs
        replace hs := bnd_s hs
        obtain ⟨h1, hx, hs⟩ := hs
        exact r_put hd ho g1 g2 g3 hfin (fun E => by
          rw [of_decide_eq_true hty]
          rcases z_bool hz with rfl | rfl
          · exact ⟨rfl, rfl⟩
          · exact ⟨rfl, rfl⟩) hx (hk _ _ _ hs)
      · rw [if_neg hz] at hs; cases hs
  | arraylength =>
    obtain rfl : len = 1 := Nat.eq_of_beq_eq_true hc
    replace hs := x1_s hs
    obtain ⟨t, rfl, hs⟩ := hs
    rcases t with _ | n
    · replace hs := pr1_s hs
      obtain ⟨a, rr, rfl, hs⟩ := hs
      replace hs := bnd_s hs
      obtain ⟨x, hx, hs⟩ := hs
      exact r_alen hd hx (hk _ _ _ hs)
    · replace hs := px_s hs
      obtain ⟨rr, rfl, hs⟩ := hs
      exact r_slen hd (hk _ _ _ hs)
  | iaload =>
    obtain rfl : len = 1 := Nat.eq_of_beq_eq_true hc
    replace hs := x1_s hs
    obtain ⟨t, rfl, hs⟩ := hs
    rcases t with _ | n
    · replace hs := pri_s hs
      obtain ⟨a, i, rr, rfl, hs⟩ := hs
      replace hs := bnd_s hs
      obtain ⟨x, hx, hs⟩ := hs
      exact r_iald hd hx (hk _ _ _ hs)
    · replace hs := pxi_s hs
      obtain ⟨i, rr, rfl, hs⟩ := hs
      replace hs := bnd_s hs
      obtain ⟨x, hx, hs⟩ := hs
      obtain ⟨hin, rfl⟩ := xld_s hx
      exact r_sld hd hin (hk _ _ _ hs)
  | baload =>
    replace hs := x1_s hs
    obtain ⟨t, rfl, hs⟩ := hs
    replace hs := pri_s hs
    obtain ⟨a, i, rr, rfl, hs⟩ := hs
    replace hs := bnd_s hs
    obtain ⟨x, hx, hs⟩ := hs
    simp only [ckI, Bool.and_eq_true, decide_eq_true_eq] at hc
    obtain ⟨hl, hc⟩ := hc
    obtain rfl : len = 1 := Nat.eq_of_beq_eq_true hl
    rcases hc with hc | hc
    · cases hc
      exact r_bald hd hx (hk _ _ _ hs)
    · cases hc
      exact r_zald hd hx (hk _ _ _ hs)
  | laload =>
    obtain rfl : len = 1 := Nat.eq_of_beq_eq_true hc
    replace hs := pri_s hs
    obtain ⟨a, i, rr, rfl, hs⟩ := hs
    replace hs := bnd_s hs
    obtain ⟨x, hx, hs⟩ := hs
    exact r_lald hd hx (hk _ _ _ hs)
  | aaload =>
    replace hs := x1_s hs
    obtain ⟨t, rfl, hs⟩ := hs
    replace hs := pri_s hs
    obtain ⟨a, i, rr, rfl, hs⟩ := hs
    replace hs := bnd_s hs
    obtain ⟨x, hx, hs⟩ := hs
    simp only [ckI, Bool.and_eq_true, decide_eq_true_eq] at hc
    obtain ⟨hl, hc⟩ := hc
    obtain rfl : len = 1 := Nat.eq_of_beq_eq_true hl
    exact r_aald (by rcases hc with hc | hc <;> cases hc <;> first | exact Or.inl rfl | exact Or.inr rfl) hd hx (hk _ _ _ hs)
  | iastore =>
    obtain rfl : len = 1 := Nat.eq_of_beq_eq_true hc
    replace hs := prii_s hs
    obtain ⟨a, i, x, rr, rfl, hs⟩ := hs
    replace hs := bnd_s hs
    obtain ⟨h1, hx, hs⟩ := hs
    exact r_iast hd hx (hk _ _ _ hs)
  | bastore =>
    replace hs := x1_s hs
    obtain ⟨t, rfl, hs⟩ := hs
    replace hs := prii_s hs
    obtain ⟨a, i, x, rr, rfl, hs⟩ := hs
    replace hs := bnd_s hs
    obtain ⟨h1, hx, hs⟩ := hs
    simp only [ckI, Bool.and_eq_true, decide_eq_true_eq] at hc
    obtain ⟨hl, hc⟩ := hc
    obtain rfl : len = 1 := Nat.eq_of_beq_eq_true hl
    rcases hc with hc | hc
    · cases hc
      exact r_bast hd hx (hk _ _ _ hs)
    · cases hc
      exact r_zast hd hx (hk _ _ _ hs)
  | lastore =>
    obtain rfl : len = 1 := Nat.eq_of_beq_eq_true hc
    replace hs := pril_s hs
    obtain ⟨a, i, x, rr, rfl, hs⟩ := hs
    replace hs := bnd_s hs
    obtain ⟨h1, hx, hs⟩ := hs
    exact r_last hd hx (hk _ _ _ hs)
  | aastore =>
    replace hs := x2_s hs
    obtain ⟨t, ci, rfl, hs⟩ := hs
    replace hs := prir_s hs
    obtain ⟨a, i, x, rr, rfl, hs⟩ := hs
    replace hs := bnd_s hs
    obtain ⟨h1, hx, hs⟩ := hs
    simp only [ckI, Bool.and_eq_true, decide_eq_true_eq] at hc
    obtain ⟨hl, hc⟩ := hc
    obtain rfl : len = 1 := Nat.eq_of_beq_eq_true hl
    rcases hc with hc | hc
    · cases hc
      exact r_aast hd rfl (fun _ => rfl) hx (hk _ _ _ hs)
    · cases hc
      exact r_aast hd rfl (fun _ => rfl) hx (hk _ _ _ hs)
  | new idx =>
    replace hs := x2_s hs
    obtain ⟨ci, pl, rfl, hs⟩ := hs
    simp only [ckI, Bool.and_eq_true, decide_eq_true_eq] at hc
    obtain ⟨hl, hc, hb⟩ := hc
    obtain rfl : len = 3 := Nat.eq_of_beq_eq_true hl
    exact r_new hd ho (List.mem_of_getElem? hc) (cls_at hb) (hk _ _ _ hs)
  | newarray at_ =>
    replace hs := x1_s hs
    obtain ⟨t, rfl, hs⟩ := hs
    replace hs := pp1_s hs
    obtain ⟨n, rr, rfl, hs⟩ := hs
    replace hs := bnd_s hs
    obtain ⟨h1, hx, hs⟩ := hs
    simp only [ckI, Bool.and_eq_true, decide_eq_true_eq] at hc
    obtain ⟨hl, hc⟩ := hc
    obtain rfl : len = 2 := Nat.eq_of_beq_eq_true hl
    rcases hc with ⟨rfl, rfl⟩ | ⟨rfl, rfl⟩ | ⟨rfl, rfl⟩ | ⟨rfl, rfl⟩
    · exact r_newa (ty := .int) hd rfl cA_int (fun _ => rfl) (fun _ e => by cases e) (by decide) (fun _ _ _ => rfl) hx (hk _ _ _ hs)
    · exact r_newa (ty := .long) hd rfl cA_long (fun _ => rfl) (fun _ e => by cases e) (by decide) (fun _ _ _ => rfl) hx (hk _ _ _ hs)
    · exact r_newa (ty := .byte) hd rfl cA_byte (fun _ => rfl) (fun _ e => by cases e) (by decide) (fun _ _ _ => rfl) hx (hk _ _ _ hs)
    · exact r_newa (ty := .boolean) hd rfl cA_bool (fun _ => rfl) (fun _ e => by cases e) (by decide) (fun _ _ _ => rfl) hx (hk _ _ _ hs)
  | anewarray idx =>
    replace hs := x3_s hs
    obtain ⟨t, ci, pl, rfl, hs⟩ := hs
    replace hs := pp1_s hs
    obtain ⟨n, rr, rfl, hs⟩ := hs
    replace hs := bnd_s hs
    obtain ⟨h1, hx, hs⟩ := hs
    simp only [ckI, Bool.and_eq_true, decide_eq_true_eq] at hc
    obtain ⟨hl, hc, hb⟩ := hc
    obtain rfl : len = 3 := Nat.eq_of_beq_eq_true hl
    rcases hb with ⟨rfl, rfl⟩ | ⟨rfl, rfl⟩
    · exact r_newq hd ho (List.mem_of_getElem? hc) (fun _ => rfl) (fun _ _ h => h.2.2.2.2.2.2.2.2.1) rfl hx (hk _ _ _ hs)
    · exact r_newq hd ho (List.mem_of_getElem? hc) (fun _ => rfl) (fun _ _ h => h.2.2.2.2.2.2.2.2.2) rfl hx (hk _ _ _ hs)
  | _ => cases hs
