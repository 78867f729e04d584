/-! the evaluator says what the machine does -/
def rtOK (y : mM) (v : Option Value) : Prop := match y.2.2.2 with
  | some .int => ∃ x, v = some (.int x)
  | some .boolean => ∃ x, v = some (.int x) ∧ x &&& 1 = x
  | some .long => ∃ x, v = some (.long x)
  | none => v = none
  | _ => False
theorem bk_s {pc : Nat} {is : List mI} : ∀ {B : List (Nat × List mI)}, bk pc B = some is → (pc, is) ∈ B
  | [], h => by cases h
  | (p, js) :: B, h => by
    unfold bk at h
    cases hb : Nat.beq p pc
    · rw [hb] at h
      exact List.mem_cons_of_mem _ (bk_s h)
    · rw [hb] at h
      have := Nat.eq_of_beq_eq_true hb
      subst this
      cases h
      exact List.mem_cons_self
section
variable {X : Nat × (Nat → Int32)} {y : mM} {d pc : Nat} {ls : mL} {st : List Value} {h : mH} {r : Option Value} {h' : mH}
theorem r_tblI {dd lo hi off : Int} {offs : Array Int} {len t : Nat} {x : Int32} (hd : dcd y pc (.tableswitch dd lo hi offs) len) (h1 : ¬ x.toInt < lo) (h2 : ¬ hi < x.toInt) (hf : offs[(x.toInt - lo).toNat]? = some off) (ht : (pc : Int) + off = (t : Int)) (k : MW X y d t ls st h r h') : MW X y d pc ls (.int x :: st) h r h' :=
  MW.st k (fun C _ _ hl _ _ kk => lv_tableIn C.1 C.2.1 hd h1 h2 hf ht (kk _ hl))
theorem r_tblO {dd lo hi : Int} {offs : Array Int} {len t : Nat} {x : Int32} (hd : dcd y pc (.tableswitch dd lo hi offs) len) (h1 : x.toInt < lo ∨ hi < x.toInt) (ht : (pc : Int) + dd = (t : Int)) (k : MW X y d t ls st h r h') : MW X y d pc ls (.int x :: st) h r h' :=
  MW.st k (fun C _ _ hl _ _ kk => lv_tableOut C.1 C.2.1 hd h1 ht (kk _ hl))
theorem r_look {dd off : Int} {ps : Array (Int × Int)} {len t : Nat} {x : Int32} (hd : dcd y pc (.lookupswitch dd ps) len) (hp : (ps.toList.zip (ps.toList.drop 1)).all (fun (a, next) => a.1 < next.1) = true) (ho : Op.lookupswitch.offset ps.toList dd x.toInt = off) (ht : (pc : Int) + off = (t : Int)) (k : MW X y d t ls st h r h') : MW X y d pc ls (.int x :: st) h r h' :=
  MW.st k (fun C _ _ hl _ _ kk => lv_lookup C.1 C.2.1 hd hp ho ht (kk _ hl))
theorem cmi_ok {ρ : Type} {q : ρ} {cd : ClassFile.Cond} {a b : Int32} {T F : Option ρ} {off : Int} {t : Nat} (hd : dcd y pc (.if_icmp cd off) 3) (ht : (pc : Int) + off = (t : Int)) (hs : cmi cd a b T F = some q) (kt : T = some q → MW X y d t ls st h r h') (kf : F = some q → MW X y d (pc + 3) ls st h r h') : MW X y d pc ls (.int b :: .int a :: st) h r h' := by
  cases cd with
  | eq => exact r_icmp_eq hd ht (fun c => kt ((if_pos c).symm.trans hs)) (fun c => kf ((if_neg c).symm.trans hs))
  | ne => exact r_icmp_ne hd ht (fun c => kf ((if_pos c).symm.trans hs)) (fun c => kt ((if_neg c).symm.trans hs))
  | lt => exact r_icmp_lt hd ht (fun c => kt ((if_pos c).symm.trans hs)) (fun c => kf ((if_neg c).symm.trans hs))
  | ge => exact r_icmp_ge hd ht (fun c => kf ((if_pos c).symm.trans hs)) (fun c => kt ((if_neg c).symm.trans hs))
  | gt => exact r_icmp_gt hd ht (fun c => kt ((if_pos c).symm.trans hs)) (fun c => kf ((if_neg c).symm.trans hs))
  | le => exact r_icmp_le hd ht (fun c => kf ((if_pos c).symm.trans hs)) (fun c => kt ((if_neg c).symm.trans hs))
theorem cm0_ok {ρ : Type} {q : ρ} {cd : ClassFile.Cond} {a : Int32} {T F : Option ρ} {off : Int} {t : Nat} (hd : dcd y pc (.ifCond cd off) 3) (ht : (pc : Int) + off = (t : Int)) (hs : cmi cd a 0 T F = some q) (kt : T = some q → MW X y d t ls st h r h') (kf : F = some q → MW X y d (pc + 3) ls st h r h') : MW X y d pc ls (.int a :: st) h r h' := by
  cases cd with
  | eq => exact r_if_eq hd ht (fun c => kt ((if_pos c).symm.trans hs)) (fun c => kf ((if_neg c).symm.trans hs))
  | ne => exact r_if_ne hd ht (fun c => kf ((if_pos c).symm.trans hs)) (fun c => kt ((if_neg c).symm.trans hs))
  | lt => exact r_if_lt hd ht (fun c => kt ((if_pos c).symm.trans hs)) (fun c => kf ((if_neg c).symm.trans hs))
  | ge => exact r_if_ge hd ht (fun c => kf ((if_pos c).symm.trans hs)) (fun c => kt ((if_neg c).symm.trans hs))
  | gt => exact r_if_gt hd ht (fun c => kt ((if_pos c).symm.trans hs)) (fun c => kf ((if_neg c).symm.trans hs))
  | le => exact r_if_le hd ht (fun c => kf ((if_pos c).symm.trans hs)) (fun c => kt ((if_neg c).symm.trans hs))
theorem cml_ok {ρ : Type} {q : ρ} {cd : ClassFile.Cond} {a b : Int64} {T F : Option ρ} {off : Int} {t : Nat} (hd0 : dcd y pc .lcmp 1) (hd : dcd y (pc + 1) (.ifCond cd off) 3) (ht : ((pc + 1 : Nat) : Int) + off = (t : Int)) (hs : cml cd a b T F = some q) (kt : T = some q → MW X y d t ls st h r h') (kf : F = some q → MW X y d (pc + 4) ls st h r h') : MW X y d pc ls (.long b :: .long a :: st) h r h' := by
  refine r_lcmp hd0 ?_
  cases cd with
  | eq => exact r_if_eq hd ht (fun c => kt ((if_pos ((lgc_eq a b).mp c)).symm.trans hs)) (fun c => kf ((if_neg (fun e => c ((lgc_eq a b).mpr e))).symm.trans hs))
  | ne => exact r_if_ne hd ht (fun c => kf ((if_pos ((lgc_eq a b).mp c)).symm.trans hs)) (fun c => kt ((if_neg (fun e => c ((lgc_eq a b).mpr e))).symm.trans hs))
  | lt => exact r_if_lt hd ht (fun c => kt ((if_pos ((lgc_lt a b).mp c)).symm.trans hs)) (fun c => kf ((if_neg (fun e => c ((lgc_lt a b).mpr e))).symm.trans hs))
  | ge => exact r_if_ge hd ht (fun c => kf ((if_pos ((lgc_lt a b).mp c)).symm.trans hs)) (fun c => kt ((if_neg (fun e => c ((lgc_lt a b).mpr e))).symm.trans hs))
  | gt => exact r_if_gt hd ht (fun c => kt ((if_pos ((lgc_gt a b).mp c)).symm.trans hs)) (fun c => kf ((if_neg (fun e => c ((lgc_gt a b).mpr e))).symm.trans hs))
  | le => exact r_if_le hd ht (fun c => kf ((if_pos ((lgc_gt a b).mp c)).symm.trans hs)) (fun c => kt ((if_neg (fun e => c ((lgc_gt a b).mpr e))).symm.trans hs))
end
set_option maxHeartbeats 4000000 in
theorem ev_ok {ρ : Type} {X : Nat × (Nat → Int32)} {y : mM} {d o : Nat} {ini : Bool} {r : Option Value} {h' : mH} {q : ρ} {Cl : Nat → List Value → mH → (Option Value → mH → Option ρ) → Option ρ} {Rc : Option Value → mH → Option ρ} {K : Nat → mL → List Value → mH → Option ρ} {B : List (Nat × List mI)}
    (ho : oN o = y.1.cls) (hini : ini = true → y.1.name = "<init>") (hd1 : 3 < d) (hRc : ∀ v g, Rc v g = some q → v = r ∧ g = h' ∧ rtOK y v) (hK : ∀ pc ls st g, K pc ls st g = some q → MW X y d pc ls st g r h') (hCl : clOK d q Cl) (hB : B.all (fun b => lst y.2.1 o y.2.2.1 ini b.1 b.2) = true) :
    ∀ (n pc : Nat) (is : List mI) (ls : mL) (st : List Value) (g : mH), lst y.2.1 o y.2.2.1 ini pc is = true → ev X Cl Rc K B n pc is ls st g = some q → MW X y d pc ls st g r h' := by
  intro n
  induction n with
  | zero => intro pc is ls st g _ hs; cases hs
  | succ n ih =>
    intro pc is ls st g hl hs
    cases is with
    | nil =>
      simp only [ev] at hs
      split at hs
      · rename_i is2 hb
        exact ih pc is2 ls st g (List.all_eq_true.mp hB _ (bk_s hb)) hs
      · exact hK _ _ _ _ hs
    | cons im is =>
      obtain ⟨i, len, ex, cs⟩ := im
      simp only [lst, Bool.and_eq_true, decide_eq_true_eq] at hl
      obtain ⟨⟨hd, hc⟩, hl⟩ := hl
      have hN : ∀ t ls2 st2 g2, ev X Cl Rc K B n t [] ls2 st2 g2 = some q → MW X y d t ls2 st2 g2 r h' := fun t ls2 st2 g2 e => ih t [] ls2 st2 g2 rfl e
      have hX : sx X i ex cs ls st g (fun ls1 st1 h1 => ev X Cl Rc K B n (pc + len) is ls1 st1 h1) = some q → MW X y d pc ls st g r h' := fun e => sx_ok ho hini hd hc e (fun ls1 st1 h1 e2 => ih _ _ _ _ _ hl e2)
      cases i with
      | goto off =>
        replace hs := x1_s hs
        obtain ⟨t, rfl, hs⟩ := hs
        simp only [ckI, Bool.and_eq_true, decide_eq_true_eq] at hc
        obtain ⟨e1, hc⟩ := hc
        obtain rfl : len = 3 := Nat.eq_of_beq_eq_true e1
        exact r_goto hd hc (hN _ _ _ _ hs)
      | if_icmp cd off =>
        replace hs := x1_s hs
        obtain ⟨t, rfl, hs⟩ := hs
        simp only [ckI, Bool.and_eq_true, decide_eq_true_eq] at hc
        obtain ⟨e1, hc⟩ := hc
        obtain rfl : len = 3 := Nat.eq_of_beq_eq_true e1
        replace hs := pp2_s hs
        obtain ⟨a, b, rr, rfl, hs⟩ := hs
        exact cmi_ok hd hc hs (fun e => hN _ _ _ _ e) (fun e => ih _ _ _ _ _ hl e)
      | ifCond cd off =>
        replace hs := x1_s hs
        obtain ⟨t, rfl, hs⟩ := hs
        simp only [ckI, Bool.and_eq_true, decide_eq_true_eq] at hc
        obtain ⟨e1, hc⟩ := hc
        obtain rfl : len = 3 := Nat.eq_of_beq_eq_true e1
        replace hs := pp1_s hs
        obtain ⟨a, rr, rfl, hs⟩ := hs
        exact cm0_ok hd hc hs (fun e => hN _ _ _ _ e) (fun e => ih _ _ _ _ _ hl e)
      | lcmp =>
        obtain rfl : len = 1 := Nat.eq_of_beq_eq_true hc
        cases is with
        | nil => cases hs
        | cons im2 is2 =>
          obtain ⟨i2, len2, ex2, cs2⟩ := im2
          cases i2 with
          | ifCond cd off =>
            replace hs := x1_s hs
            obtain ⟨t, rfl, hs⟩ := hs
            replace hs := pl2_s hs
            obtain ⟨a, b, rr, rfl, hs⟩ := hs
            simp only [lst, Bool.and_eq_true, decide_eq_true_eq] at hl
            obtain ⟨⟨hd2, hc2⟩, hl⟩ := hl
            simp only [ckI, Bool.and_eq_true, decide_eq_true_eq] at hc2
            obtain ⟨e1, hc2⟩ := hc2
            obtain rfl : len2 = 3 := Nat.eq_of_beq_eq_true e1
            exact cml_ok hd hd2 hc2 hs (fun e => hN _ _ _ _ e) (fun e => ih _ _ _ _ _ hl e)
          | _ => cases hs
      | tableswitch dd lo hi offs =>
        cases ex with
        | nil => cases hs
        | cons e ts =>
          replace hs := pp1_s hs
          obtain ⟨x, rr, rfl, hs⟩ := hs
          simp only [ckI, Bool.and_eq_true, decide_eq_true_eq] at hc
          obtain ⟨⟨c1, c2⟩, c3, c4, c5, c6⟩ := hc
          rcases sws_t cs ts offs.toList lo hs c2 c3 (by omega) with ⟨j, t, f, e1, e2, e3, e4⟩ | ⟨e1, e2⟩
          · have hj : j < offs.toList.length := (List.getElem?_eq_some_iff.mp e2).1
            refine r_tblI (off := f) (t := t) hd (by omega) (by omega) ?_ e3 (hN _ _ _ _ e4)
            rw [show (x.toInt - lo).toNat = j by omega, ← Array.getElem?_toList]
            exact e2
          · exact r_tblO hd (by omega) c1 (hN _ _ _ _ e2)
      | lookupswitch dd ps =>
        cases ex with
        | nil => cases hs
        | cons e ts =>
          replace hs := pp1_s hs
          obtain ⟨x, rr, rfl, hs⟩ := hs
          simp only [ckI, Bool.and_eq_true, decide_eq_true_eq] at hc
          obtain ⟨⟨c1, c2⟩, c3⟩ := hc
          obtain ⟨t, e1, e2⟩ := sws_l c1 cs ts ps.toList hs c2
          exact r_look hd c3 rfl e1 (hN _ _ _ _ e2)
      | ireturn =>
        obtain rfl : len = 1 := Nat.eq_of_beq_eq_true hc
        simp only [ev] at hs
        split at hs
        · rename_i x
          obtain ⟨rfl, rfl, hr⟩ := hRc _ _ hs
          unfold rtOK at hr
          split at hr
          · rename_i e; exact r_iret hd e
          · rename_i e
            obtain ⟨x2, e2, e3⟩ := hr
            cases e2
            exact r_zret hd e e3
          · obtain ⟨x2, e2⟩ := hr; cases e2
          · cases hr
          · cases hr
        · cases hs
      | lreturn =>
        obtain rfl : len = 1 := Nat.eq_of_beq_eq_true hc
        simp only [ev] at hs
        split at hs
        · rename_i x
          obtain ⟨rfl, rfl, hr⟩ := hRc _ _ hs
          unfold rtOK at hr
          split at hr
          · obtain ⟨x2, e2⟩ := hr; cases e2
          · obtain ⟨x2, e2, e3⟩ := hr; cases e2
          · rename_i e; exact r_lret hd e
          · cases hr
          · cases hr
        · cases hs
      | return_ =>
        obtain rfl : len = 1 := Nat.eq_of_beq_eq_true hc
        simp only [ev] at hs
        split at hs
        · obtain ⟨rfl, rfl, hr⟩ := hRc _ _ hs
          unfold rtOK at hr
          split at hr
          · obtain ⟨x2, e2⟩ := hr; cases e2
          · obtain ⟨x2, e2, e3⟩ := hr; cases e2
          · obtain ⟨x2, e2⟩ := hr; cases e2
          · rename_i e; exact r_vret hd e
          · cases hr
        · cases hs
      | invokevirtual idx =>
        simp only [ckI, Bool.and_eq_true, decide_eq_true_eq] at hc
        obtain ⟨⟨e1, hc⟩, hh⟩ := hc
        obtain rfl : len = 3 := Nat.eq_of_beq_eq_true e1
        exact iv_ok ho hd1 hCl hd hc (Or.inl ⟨rfl, hh⟩) hs (fun st1 h1 e => ih _ _ _ _ _ hl e)
      | invokestatic idx =>
        simp only [ckI, Bool.and_eq_true, decide_eq_true_eq] at hc
        obtain ⟨⟨e1, hc⟩, hh⟩ := hc
        obtain rfl : len = 3 := Nat.eq_of_beq_eq_true e1
        exact iv_ok ho hd1 hCl hd hc (Or.inr (Or.inl ⟨rfl, hh⟩)) hs (fun st1 h1 e => ih _ _ _ _ _ hl e)
      | invokespecial idx =>
        simp only [ckI, Bool.and_eq_true, decide_eq_true_eq] at hc
        obtain ⟨⟨e1, hc⟩, hh⟩ := hc
        obtain rfl : len = 3 := Nat.eq_of_beq_eq_true e1
        exact iv_ok ho hd1 hCl hd hc (Or.inr (Or.inr ⟨rfl, hh⟩)) hs (fun st1 h1 e => ih _ _ _ _ _ hl e)
      | _ => exact hX hs
/-! results by type -/
def RcI : Option Value → mH → Option (Int32 × mH) := fun v h => match v with
  | some (.int x) => some (x, h)
  | _ => none
def RcZ : Option Value → mH → Option (Int32 × mH) := fun v h => match v with
  | some (.int x) => if x &&& 1 = x then some (x, h) else none
  | _ => none
def RcJ : Option Value → mH → Option (Int64 × mH) := fun v h => match v with
  | some (.long x) => some (x, h)
  | _ => none
def RcV : Option Value → mH → Option mH := fun v h => match v with
  | none => some h
  | _ => none
