/-! words for the printed functions' contracts -/
section
variable {ρ : Type}
def kb (a b : Nat) (s t : Option ρ) : Option ρ := bif Nat.beq a b then s else t
theorem kb_s {a b : Nat} {s t : Option ρ} {q : ρ} (h : kb a b s t = some q) : (a = b ∧ s = some q) ∨ t = some q := by
  unfold kb at h
  cases hb : Nat.beq a b
  · rw [hb] at h; exact Or.inr h
  · rw [hb] at h; exact Or.inl ⟨Nat.eq_of_beq_eq_true hb, h⟩
def pe (st : List Value) (e : Option ρ) : Option ρ := match st with
  | [] => e
  | _ => none
theorem pe_s {st : List Value} {e : Option ρ} {q : ρ} (h : pe st e = some q) : st = [] ∧ e = some q := by
  unfold pe at h; split at h
  · exact ⟨rfl, h⟩
  · cases h
def lgr (j : Nat) (ls : mL) (k : Nat → Option ρ) : Option ρ := match lg j ls with
  | some (.ref x) => k x
  | _ => none
theorem lgr_s {j : Nat} {ls : mL} {k : Nat → Option ρ} {q : ρ} (h : lgr j ls k = some q) : ∃ x, lg j ls = some (.ref x) ∧ k x = some q := by
  unfold lgr at h; split at h
  · rename_i x hx; exact ⟨x, hx, h⟩
  · cases h
def lgs (j : Nat) (ls : mL) (k : UInt32 → Option ρ) : Option ρ := match lg j ls with
  | some (.float x) => k x
  | _ => none
theorem lgs_s {j : Nat} {ls : mL} {k : UInt32 → Option ρ} {q : ρ} (h : lgs j ls k = some q) : ∃ x, lg j ls = some (.float x) ∧ k x = some q := by
  unfold lgs at h; split at h
  · rename_i x hx; exact ⟨x, hx, h⟩
  · cases h
end
theorem rcI_ok {y : mM} (hr : y.2.2.2 = some .int) {q : Int32 × mH} (v : Option Value) (g : mH) (h : RcI v g = some q) : v = some (.int q.1) ∧ g = q.2 ∧ rtOK y v := by
  unfold RcI at h
  split at h
  · rename_i x
    cases h
    refine ⟨rfl, rfl, ?_⟩
    unfold rtOK
    rw [hr]
    exact ⟨x, rfl⟩
  · cases h
theorem rcZ_ok {y : mM} (hr : y.2.2.2 = some .boolean) {q : Int32 × mH} (v : Option Value) (g : mH) (h : RcZ v g = some q) : v = some (.int q.1) ∧ g = q.2 ∧ rtOK y v := by
  unfold RcZ at h
  split at h
  · rename_i x
    split at h
    · rename_i hx
      cases h
      refine ⟨rfl, rfl, ?_⟩
      unfold rtOK
      rw [hr]
      exact ⟨x, rfl, hx⟩
    · cases h
  · cases h
theorem rcJ_ok {y : mM} (hr : y.2.2.2 = some .long) {q : Int64 × mH} (v : Option Value) (g : mH) (h : RcJ v g = some q) : v = some (.long q.1) ∧ g = q.2 ∧ rtOK y v := by
  unfold RcJ at h
  split at h
  · rename_i x
    cases h
    refine ⟨rfl, rfl, ?_⟩
    unfold rtOK
    rw [hr]
    exact ⟨x, rfl⟩
  · cases h
theorem rcV_ok {y : mM} (hr : y.2.2.2 = none) {q : mH} (v : Option Value) (g : mH) (h : RcV v g = some q) : v = none ∧ g = q ∧ rtOK y v := by
  unfold RcV at h
  split at h
  · cases h
    refine ⟨rfl, rfl, ?_⟩
    unfold rtOK
    rw [hr]
  · cases h
