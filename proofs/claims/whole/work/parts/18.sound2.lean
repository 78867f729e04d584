/-! calls, switches and the whole evaluator -/
def clOK {ρ : Type} (d : Nat) (q : ρ) (Cl : Nat → List Value → mH → (Option Value → mH → Option ρ) → Option ρ) : Prop :=
  ∀ (j : Nat) (a : List Value) (g : mH) (k : Option Value → mH → Option ρ), Cl j a g k = some q → ∃ (yc : mM) (t : Nat × Nat × Nat) (v : Option Value) (g1 : mH) (d' : Nat), MT[j]? = some (yc, t) ∧ d' < d ∧ MM yc d' a g v g1 ∧ k v g1 = some q
section
variable {ρ : Type} {X : Nat × (Nat → Int32)} {y : mM} {d o pc : Nat} {ls : mL} {st : List Value} {h : mH} {r : Option Value} {h' : mH} {q : ρ} {ex : List Nat}
theorem iv_ok {Cl : Nat → List Value → mH → (Option Value → mH → Option ρ) → Option ρ} {k : List Value → mH → Option ρ} {i : Instr} {idx : Nat} (ho : oN o = y.1.cls) (hd1 : 3 < d) (hCl : clOK d q Cl)
    (hd : dcd y pc i 3) (hc : ckC o idx ex = true)
    (hi : (i = .invokevirtual idx ∧ (ex.headD 9 = 0 ∨ ex.headD 9 = 11 ∨ ex.headD 9 = 12)) ∨ (i = .invokestatic idx ∧ (ex.headD 9 = 1 ∨ ex.headD 9 = 3 ∨ (6 ≤ ex.headD 0 ∧ ex.headD 99 ≤ 10))) ∨ (i = .invokespecial idx ∧ (ex.headD 9 = 2 ∨ ex.headD 9 = 4 ∨ ex.headD 9 = 5)))
    (hs : iv Cl ex st h k = some q) (hk : ∀ st1 h1, k st1 h1 = some q → MW X y d (pc + 3) ls st1 h1 r h') : MW X y d pc ls st h r h' := by
  unfold ckC at hc
  split at hc
  rotate_left
  · cases hc
  rename_i kd j n ci pl
  simp only [List.headD_cons] at hi
  simp only [iv] at hs
  split at hc
  · -- virtual
    rename_i e0
    obtain ⟨rfl, -⟩ | ⟨-, hi⟩ | ⟨-, hi⟩ := hi
    rotate_left
    · omega
    · omega
    simp only [Bool.and_eq_true, decide_eq_true_eq] at hc
    obtain ⟨⟨hl, hm⟩, hb⟩ := hc
    replace hs := spl_s hs
    obtain ⟨as, r0, rfl, hn, hs⟩ := hs
    replace hs := pr1_s hs
    obtain ⟨a, rr, rfl, hs⟩ := hs
    obtain ⟨hw, hs⟩ := rmc_s hs
    obtain ⟨u, hu, hs⟩ := bnd_s hs
    obtain ⟨yc, t, v, g1, d', hj, hdd, hM, hs9⟩ := hCl _ _ _ _ hs
    rw [hj] at hm
    obtain ⟨t1, t2, t3⟩ := t
    simp only [Option.map_some, Option.some.injEq, Prod.mk.injEq] at hm
    obtain ⟨⟨rfl, rfl, rfl⟩, hml⟩ := hm
    exact r_callV hd ho (List.mem_of_getElem? hl) hj (cls_at hb) hn (Nat.le_of_ble_eq_true hml) hw hdd hu hM (hk _ _ hs9)
  · -- static
    obtain ⟨-, hi⟩ | ⟨rfl, -⟩ | ⟨-, hi⟩ := hi
    · omega
    rotate_left
    · omega
    simp only [Bool.and_eq_true, decide_eq_true_eq] at hc
    obtain ⟨hl, hm⟩ := hc
    replace hs := spl_s hs
    obtain ⟨as, rr, rfl, hn, hs⟩ := hs
    obtain ⟨hw, hs⟩ := rmc_s hs
    obtain ⟨yc, t, v, g1, d', hj, hdd, hM, hs9⟩ := hCl _ _ _ _ hs
    rw [hj] at hm
    obtain ⟨t1, t2, t3⟩ := t
    simp only [Option.map_some, Option.some.injEq, Prod.mk.injEq] at hm
    obtain ⟨⟨rfl, rfl⟩, hml⟩ := hm
    exact r_callS hd ho (List.mem_of_getElem? hl) hj hn (Nat.le_of_ble_eq_true hml) hw hdd hM (hk _ _ hs9)
  · -- a constructor
    obtain ⟨-, hi⟩ | ⟨-, hi⟩ | ⟨rfl, -⟩ := hi
    · omega
    · omega
    simp only [Bool.and_eq_true, decide_eq_true_eq] at hc
    obtain ⟨hl, hm⟩ := hc
    replace hs := spl_s hs
    obtain ⟨as, r0, rfl, hn, hs⟩ := hs
    replace hs := pr1_s hs
    obtain ⟨a, rr, rfl, hs⟩ := hs
    obtain ⟨hw, hs⟩ := rmc_s hs
    obtain ⟨yc, t, v, g1, d', hj, hdd, hM, hs9⟩ := hCl _ _ _ _ hs
    rw [hj] at hm
    obtain ⟨t1, t2, t3⟩ := t
    simp only [Option.map_some, Option.some.injEq, Prod.mk.injEq, Bool.and_eq_true, decide_eq_true_eq] at hm
    obtain ⟨⟨rfl, rfl⟩, hml, hrn⟩ := hm
    cases v with
    | some _ => cases hs9
    | none => exact r_callI hd ho (List.mem_of_getElem? hl) hj hrn hn (Nat.le_of_ble_eq_true hml) hw hdd hM (hk _ _ hs9)
  · -- static, of a nest mate
    obtain ⟨-, hi⟩ | ⟨rfl, -⟩ | ⟨-, hi⟩ := hi
    · omega
    rotate_left
    · omega
    simp only [Bool.and_eq_true, decide_eq_true_eq] at hc
    obtain ⟨hl, hm⟩ := hc
    replace hs := spl_s hs
    obtain ⟨as, rr, rfl, hn, hs⟩ := hs
    obtain ⟨hw, hs⟩ := rmc_s hs
    obtain ⟨yc, t, v, g1, d', hj, hdd, hM, hs9⟩ := hCl _ _ _ _ hs
    rw [hj] at hm
    obtain ⟨t1, t2, t3⟩ := t
    simp only [Option.map_some, Option.some.injEq, Prod.mk.injEq] at hm
    obtain ⟨⟨rfl, rfl⟩, hml⟩ := hm
    exact r_callSN hd ho hl hj hn (Nat.le_of_ble_eq_true hml) hw hdd hM (hk _ _ hs9)
  · -- a constructor, of a nest mate
    obtain ⟨-, hi⟩ | ⟨-, hi⟩ | ⟨rfl, -⟩ := hi
    · omega
    · omega
    simp only [Bool.and_eq_true, decide_eq_true_eq] at hc
    obtain ⟨hl, hm⟩ := hc
    replace hs := spl_s hs
    obtain ⟨as, r0, rfl, hn, hs⟩ := hs
    replace hs := pr1_s hs
    obtain ⟨a, rr, rfl, hs⟩ := hs
    obtain ⟨hw, hs⟩ := rmc_s hs
    obtain ⟨yc, t, v, g1, d', hj, hdd, hM, hs9⟩ := hCl _ _ _ _ hs
    rw [hj] at hm
    obtain ⟨t1, t2, t3⟩ := t
    simp only [Option.map_some, Option.some.injEq, Prod.mk.injEq, Bool.and_eq_true, decide_eq_true_eq] at hm
    obtain ⟨⟨rfl, rfl⟩, hml, hrn⟩ := hm
    cases v with
    | some _ => cases hs9
    | none => exact r_callIN hd ho hl hj hrn hn (Nat.le_of_ble_eq_true hml) hw hdd hM (hk _ _ hs9)
  · -- the JDK's own
    have n0 : kd ≠ 0 := by assumption
    have n1 : kd ≠ 1 := by assumption
    have n2 : kd ≠ 2 := by assumption
    have n3 : kd ≠ 3 := by assumption
    have n4 : kd ≠ 4 := by assumption
    simp only [Bool.and_eq_true, decide_eq_true_eq] at hc
    obtain ⟨hl, hb⟩ := hc
    have hp := List.mem_of_getElem? hl
    have hb2 := blt_s hb
    have hd0 : 1 ≤ d := by omega
    rcases (show kd = 5 ∨ kd = 6 ∨ kd = 7 ∨ kd = 8 ∨ kd = 9 ∨ kd = 10 ∨ kd = 11 ∨ kd = 12 by omega) with rfl | rfl | rfl | rfl | rfl | rfl | rfl | rfl
    · obtain ⟨-, hi⟩ | ⟨-, hi⟩ | ⟨rfl, -⟩ := hi
      · omega
      · omega
      replace hs := pr1_s hs
      obtain ⟨a, rr, rfl, hs⟩ := hs
      obtain ⟨hw, hs⟩ := rmc_s hs
      exact r_objI hd ho hp hd0 hw (hk _ _ hs)
    · obtain ⟨-, hi⟩ | ⟨rfl, -⟩ | ⟨-, hi⟩ := hi
      · omega
      rotate_left
      · omega
      replace hs := pp2_s hs
      obtain ⟨a, b, rr, rfl, hs⟩ := hs
      obtain ⟨hw, hs⟩ := rmc_s hs
      exact r_max hd ho hp hd0 hw (hk _ _ hs)
    · obtain ⟨-, hi⟩ | ⟨rfl, -⟩ | ⟨-, hi⟩ := hi
      · omega
      rotate_left
      · omega
      replace hs := pp2_s hs
      obtain ⟨a, b, rr, rfl, hs⟩ := hs
      obtain ⟨hw, hs⟩ := rmc_s hs
      exact r_min hd ho hp hd0 hw (hk _ _ hs)
    · obtain ⟨-, hi⟩ | ⟨rfl, -⟩ | ⟨-, hi⟩ := hi
      · omega
      rotate_left
      · omega
      replace hs := pp1_s hs
      obtain ⟨a, rr, rfl, hs⟩ := hs
      obtain ⟨hw, hs⟩ := rmc_s hs
      exact r_abs hd ho hp hd0 hw (hk _ _ hs)
    · obtain ⟨-, hi⟩ | ⟨rfl, -⟩ | ⟨-, hi⟩ := hi
      · omega
      rotate_left
      · omega
      replace hs := pl2_s hs
      obtain ⟨a, b, rr, rfl, hs⟩ := hs
      obtain ⟨hw, hs⟩ := rmc_s hs
      exact r_lmin hd ho hp hd0 hw (hk _ _ hs)
    · obtain ⟨-, hi⟩ | ⟨rfl, -⟩ | ⟨-, hi⟩ := hi
      · omega
      rotate_left
      · omega
      replace hs := pcpy_s hs
      obtain ⟨a0, sp, a, dp, nn, rr, rfl, hs⟩ := hs
      obtain ⟨hw, hs⟩ := rmc_s hs
      obtain ⟨h1, hx, hs⟩ := bnd_s hs
      exact r_cpy hd ho hp hd0 hw hx (hk _ _ hs)
    · obtain ⟨rfl, -⟩ | ⟨-, hi⟩ | ⟨-, hi⟩ := hi
      rotate_left
      · omega
      · omega
      replace hs := psu_s hs
      obtain ⟨u, rr, rfl, hs⟩ := hs
      obtain ⟨hw, hs⟩ := rmc_s hs
      obtain ⟨x, hx, hs⟩ := bnd_s hs
      obtain ⟨hu, rfl⟩ := sLn_s hx
      exact r_callVx (as := []) (d' := 1) hu hd (by rw [← ho]; exact PL_ok _ hp) ys_len_c ys_len_i ys_len_n ys_len_v rfl (by decide) hw (by omega) (c_len hu h) (hk _ _ hs)
    · obtain ⟨rfl, -⟩ | ⟨-, hi⟩ | ⟨-, hi⟩ := hi
      rotate_left
      · omega
      · omega
      replace hs := psui_s hs
      obtain ⟨u, x, rr, rfl, hs⟩ := hs
      obtain ⟨hw, hs⟩ := rmc_s hs
      obtain ⟨c, hx, hs⟩ := bnd_s hs
      have hu : u.toNat < 18 := by
        unfold sChr at hx
        split at hx
        · rename_i hq; exact hq.1
        · cases hx
      exact r_callVx (as := [.int x]) (d' := 3) hu hd (by rw [← ho]; exact PL_ok _ hp) ys_chr_c ys_chr_i ys_chr_n ys_chr_v rfl (by decide) hw (by omega) (c_chr hx h) (hk _ _ hs)
/-! switches -/
theorem jI_toInt {c : Int} (h1 : -2147483648 ≤ c) (h2 : c < 2147483648) : (jI c).toInt = c := by
  unfold jI
  exact Int32.toInt_ofInt_of_le (by simpa using h1) (by simpa using h2)
theorem sws_t {x : Int32} {e : Nat} {k : Nat → Option ρ} : ∀ (cs : List Int) (ts : List Nat) (fs : List Int) (lo : Int), sws x cs ts e k = some q → ckT pc lo cs ts fs = true → -2147483648 ≤ lo → lo + fs.length ≤ 2147483648 →
    (∃ (j t : Nat) (f : Int), x.toInt = lo + j ∧ fs[j]? = some f ∧ (pc : Int) + f = (t : Int) ∧ k t = some q) ∨ ((x.toInt < lo ∨ lo + fs.length ≤ x.toInt) ∧ k e = some q)
  | [], [], [], lo, hs, _, _, _ => Or.inr ⟨by simp; omega, hs⟩
  | c :: cs, t :: ts, f :: fs, lo, hs, hc, h1, h2 => by
    simp only [ckT, Bool.and_eq_true, decide_eq_true_eq] at hc
    obtain ⟨⟨rfl, hf⟩, hc⟩ := hc
    simp only [List.length_cons] at h2
    simp only [sws] at hs
    by_cases hx : x = jI c
    · rw [if_pos hx] at hs
      exact Or.inl ⟨0, t, f, by rw [hx, jI_toInt h1 (by omega)]; simp, rfl, hf, hs⟩
    · rw [if_neg hx] at hs
      rcases sws_t cs ts fs (c + 1) hs hc (by omega) (by omega) with ⟨j, t', f', e1, e2, e3, e4⟩ | ⟨e1, e2⟩
      · exact Or.inl ⟨j + 1, t', f', by rw [e1]; omega, by rw [List.getElem?_cons_succ]; exact e2, e3, e4⟩
      · refine Or.inr ⟨?_, e2⟩
        have hne : x.toInt ≠ c := by
          intro e
          apply hx
          apply Int32.toInt_inj.mp
          rw [jI_toInt h1 (by omega)]
          exact e
        simp only [List.length_cons]
        omega
  | [], [], _ :: _, _, _, hc, _, _ => by cases hc
  | [], _ :: _, _, _, _, hc, _, _ => by cases hc
  | _ :: _, [], _, _, _, hc, _, _ => by cases hc
  | _ :: _, _ :: _, [], _, _, hc, _, _ => by cases hc
theorem sws_l {x : Int32} {e : Nat} {k : Nat → Option ρ} {dd : Int} (he : (pc : Int) + dd = (e : Int)) : ∀ (cs : List Int) (ts : List Nat) (ps : List (Int × Int)), sws x cs ts e k = some q → ckL pc ps cs ts = true →
    ∃ t : Nat, (pc : Int) + Op.lookupswitch.offset ps dd x.toInt = (t : Int) ∧ k t = some q
  | [], [], [], hs, _ => ⟨e, he, hs⟩
  | c :: cs, t :: ts, (a, f) :: ps, hs, hc => by
    simp only [ckL, Bool.and_eq_true, decide_eq_true_eq] at hc
    obtain ⟨⟨⟨rfl, h1, h2⟩, hf⟩, hc⟩ := hc
    simp only [sws] at hs
    rw [Op.lookupswitch.offset_cons]
    by_cases hx : x = jI c
    · rw [if_pos hx] at hs
      rw [if_pos (by rw [hx, jI_toInt h1 h2])]
      exact ⟨t, hf, hs⟩
    · rw [if_neg hx] at hs
      rw [if_neg (by
        intro e2
        apply hx
        apply Int32.toInt_inj.mp
        rw [jI_toInt h1 h2]
        exact e2.symm)]
      exact sws_l he cs ts ps hs hc
  | [], [], _ :: _, _, hc => by cases hc
  | [], _ :: _, ps, _, hc => by cases ps <;> cases hc
  | _ :: _, [], ps, _, hc => by cases ps <;> cases hc
  | _ :: _, _ :: _, [], _, hc => by cases hc
theorem lgc_lt (a b : Int64) : lg_cmp a b < 0 ↔ a < b := by
  unfold lg_cmp
  by_cases h1 : a > b
  · rw [if_pos h1]
    exact ⟨fun h => absurd h (by decide), fun h => absurd h1 (Int64.not_lt.mpr (Int64.le_of_lt h))⟩
  · rw [if_neg h1]
    by_cases h2 : a = b
    · rw [if_pos h2]
      exact ⟨fun h => absurd h (by decide), fun h => absurd (h2 ▸ h) (Int64.lt_irrefl)⟩
    · rw [if_neg h2]
      refine ⟨fun _ => ?_, fun _ => by decide⟩
      have h3 := Int64.not_lt.mp h1
      exact Int64.lt_of_le_of_ne h3 h2
theorem lgc_eq (a b : Int64) : lg_cmp a b = 0 ↔ a = b := by
  unfold lg_cmp
  by_cases h1 : a > b
  · rw [if_pos h1]
    exact ⟨fun h => absurd h (by decide), fun h => absurd (h ▸ h1) (Int64.lt_irrefl)⟩
  · rw [if_neg h1]
    by_cases h2 : a = b
    · rw [if_pos h2]
      exact ⟨fun _ => h2, fun _ => rfl⟩
    · rw [if_neg h2]
      exact ⟨fun h => absurd h (by decide), fun h => absurd h h2⟩
theorem lgc_gt (a b : Int64) : 0 < lg_cmp a b ↔ b < a := by
  unfold lg_cmp
  by_cases h1 : a > b
  · rw [if_pos h1]
    exact ⟨fun _ => h1, fun _ => by decide⟩
  · rw [if_neg h1]
    by_cases h2 : a = b
    · rw [if_pos h2]
      exact ⟨fun h => absurd h (by decide), fun h => absurd h h1⟩
    · rw [if_neg h2]
      exact ⟨fun h => absurd h (by decide), fun h => absurd h h1⟩
end
