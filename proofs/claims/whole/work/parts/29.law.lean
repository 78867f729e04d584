/-! printed by wip/whole/gen_code.py: the law's function, and its walk -/
section
variable {ρ : Type}
def lgx (j : Nat) (ls : mL) (e : Option ρ) : Option ρ := match lg j ls with
  | some (.retAddr 0) => e
  | _ => none
theorem lgx_s {j : Nat} {ls : mL} {e : Option ρ} {q : ρ} (h : lgx j ls e = some q) : lg j ls = some (.retAddr 0) ∧ e = some q := by
  unfold lgx at h; split at h
  · rename_i hx; exact ⟨hx, h⟩
  · cases h
end
def J_law_2261 (X : Nat × (Nat → Int32)) (N : Nat) (k18 : Nat → Nat → Int32 → mH → Option (Int32 × mH)) (a1 : Nat) (a2 : Nat) (x3 : Int32) (h : mH) : Option (Int32 × mH) :=
  let w1 := iAdd x3 (jI 6)
  k18 a1 a2 w1 h
def J_law_272 (X : Nat × (Nat → Int32)) (N : Nat) (k18 : Nat → Nat → Int32 → mH → Option (Int32 × mH)) (a1 : Nat) (a2 : Nat) (x3 : Int32) (h : mH) : Option (Int32 × mH) :=
  (xld X (iAdd x3 (jI 1))).bind fun v1 =>
  (xld X (iAdd x3 (jI 2))).bind fun v2 =>
  (xld X (iAdd x3 (jI 3))).bind fun v3 =>
  (xld X (iAdd x3 (jI 4))).bind fun v4 =>
  (xld X (iAdd x3 (jI 5))).bind fun v5 =>
  (rcv h 11 a1).bind fun _ =>
  (f_X11_feed N a1 v1 v2 v3 v4 v5 h).bind fun p6 =>
  (xld X (iAdd x3 (jI 1))).bind fun v7 =>
  (xld X (iAdd x3 (jI 2))).bind fun v8 =>
  (xld X (iAdd x3 (jI 3))).bind fun v9 =>
  (xld X (iAdd x3 (jI 4))).bind fun v10 =>
  (xld X (iAdd x3 (jI 5))).bind fun v11 =>
  (rcv p6.2 12 a2).bind fun _ =>
  (f_X12_feed N a2 v7 v8 v9 v10 v11 p6.2).bind fun p12 =>
  if p6.1 = p12.1 then
    J_law_2261 X N k18 a1 a2 x3 p12.2
  else
    some (jI 0, p12.2)
def J_law_335 (X : Nat × (Nat → Int32)) (N : Nat) (k18 : Nat → Nat → Int32 → mH → Option (Int32 × mH)) (a1 : Nat) (a2 : Nat) (x3 : Int32) (h : mH) : Option (Int32 × mH) :=
  (xld X (iAdd x3 (jI 1))).bind fun v1 =>
  (rcv h 11 a1).bind fun _ =>
  (f_X11_basket N a1 v1 h).bind fun p2 =>
  (xld X (iAdd x3 (jI 1))).bind fun v3 =>
  (rcv p2.2 12 a2).bind fun _ =>
  (f_X12_basket N a2 v3 p2.2).bind fun p4 =>
  if p2.1 = p4.1 then
    J_law_2261 X N k18 a1 a2 x3 p4.2
  else
    some (jI 0, p4.2)
def J_law_358 (X : Nat × (Nat → Int32)) (N : Nat) (k18 : Nat → Nat → Int32 → mH → Option (Int32 × mH)) (a1 : Nat) (a2 : Nat) (x3 : Int32) (h : mH) : Option (Int32 × mH) :=
  (xld X (iAdd x3 (jI 1))).bind fun v1 =>
  (rcv h 11 a1).bind fun _ =>
  (f_X11_fault N a1 v1 h).bind fun p2 =>
  (xld X (iAdd x3 (jI 1))).bind fun v3 =>
  (rcv p2.2 12 a2).bind fun _ =>
  (f_X12_fault N a2 v3 p2.2).bind fun p4 =>
  if p2.1 = p4.1 then
    J_law_2261 X N k18 a1 a2 x3 p4.2
  else
    some (jI 0, p4.2)
def J_law_381 (X : Nat × (Nat → Int32)) (N : Nat) (k18 : Nat → Nat → Int32 → mH → Option (Int32 × mH)) (a1 : Nat) (a2 : Nat) (x3 : Int32) (h : mH) : Option (Int32 × mH) :=
  (xld X (iAdd x3 (jI 1))).bind fun v1 =>
  (xld X (iAdd x3 (jI 2))).bind fun v2 =>
  (rcv h 11 a1).bind fun _ =>
  (f_X11_rod N a1 v1 v2 h).bind fun p3 =>
  (xld X (iAdd x3 (jI 1))).bind fun v4 =>
  (xld X (iAdd x3 (jI 2))).bind fun v5 =>
  (rcv p3.2 12 a2).bind fun _ =>
  (f_X12_rod N a2 v4 v5 p3.2).bind fun p6 =>
  if p3.1 = p6.1 then
    J_law_2261 X N k18 a1 a2 x3 p6.2
  else
    some (jI 0, p6.2)
def J_law_414 (X : Nat × (Nat → Int32)) (N : Nat) (k18 : Nat → Nat → Int32 → mH → Option (Int32 × mH)) (a1 : Nat) (a2 : Nat) (x3 : Int32) (h : mH) : Option (Int32 × mH) :=
  (xld X (iAdd x3 (jI 1))).bind fun v1 =>
  (xld X (iAdd x3 (jI 2))).bind fun v2 =>
  (rcv h 11 a1).bind fun _ =>
  (f_X11_band N a1 v1 v2 h).bind fun p3 =>
  (xld X (iAdd x3 (jI 1))).bind fun v4 =>
  (xld X (iAdd x3 (jI 2))).bind fun v5 =>
  (rcv p3.2 12 a2).bind fun _ =>
  (f_X12_band N a2 v4 v5 p3.2).bind fun p6 =>
  if p3.1 = p6.1 then
    J_law_2261 X N k18 a1 a2 x3 p6.2
  else
    some (jI 0, p6.2)
def J_law_447 (X : Nat × (Nat → Int32)) (N : Nat) (k18 : Nat → Nat → Int32 → mH → Option (Int32 × mH)) (a1 : Nat) (a2 : Nat) (x3 : Int32) (h : mH) : Option (Int32 × mH) :=
  (xld X (iAdd x3 (jI 1))).bind fun v1 =>
  (rcv h 11 a1).bind fun _ =>
  (f_X11_lean N a1 v1 h).bind fun p2 =>
  (xld X (iAdd x3 (jI 1))).bind fun v3 =>
  (rcv p2.2 12 a2).bind fun _ =>
  (f_X12_lean N a2 v3 p2.2).bind fun p4 =>
  if p2.1 = p4.1 then
    J_law_2261 X N k18 a1 a2 x3 p4.2
  else
    some (jI 0, p4.2)
def J_law_470 (X : Nat × (Nat → Int32)) (N : Nat) (k18 : Nat → Nat → Int32 → mH → Option (Int32 × mH)) (a1 : Nat) (a2 : Nat) (x3 : Int32) (h : mH) : Option (Int32 × mH) :=
  (xld X (iAdd x3 (jI 1))).bind fun v1 =>
  (xld X (iAdd x3 (jI 2))).bind fun v2 =>
  (xld X (iAdd x3 (jI 3))).bind fun v3 =>
  (xld X (iAdd x3 (jI 4))).bind fun v4 =>
  (rcv h 11 a1).bind fun _ =>
  (f_X11_crossing N a1 v1 v2 v3 v4 h).bind fun p5 =>
  (xld X (iAdd x3 (jI 1))).bind fun v6 =>
  (xld X (iAdd x3 (jI 2))).bind fun v7 =>
  (xld X (iAdd x3 (jI 3))).bind fun v8 =>
  (xld X (iAdd x3 (jI 4))).bind fun v9 =>
  (rcv p5.2 12 a2).bind fun _ =>
  (f_X12_crossing N a2 v6 v7 v8 v9 p5.2).bind fun p10 =>
  if p5.1 = p10.1 then
    J_law_2261 X N k18 a1 a2 x3 p10.2
  else
    some (jI 0, p10.2)
def J_law_552 (X : Nat × (Nat → Int32)) (N : Nat) (k18 : Nat → Nat → Int32 → mH → Option (Int32 × mH)) (a1 : Nat) (a2 : Nat) (x3 : Int32) (s_0 : Nat) (s_1 : Int32) (s_2 : Int32) (s_3 : Int32) (s_4 : Int32) (h : mH) : Option (Int32 × mH) :=
  (rcv h 11 s_0).bind fun _ =>
  (f_X11_seen N s_0 s_1 s_2 s_3 s_4 h).bind fun p1 =>
  (xld X (iAdd x3 (jI 1))).bind fun v2 =>
  (xld X (iAdd x3 (jI 2))).bind fun v3 =>
  (xld X (iAdd x3 (jI 3))).bind fun v4 =>
  (xld X (iAdd x3 (jI 4))).bind fun v5 =>
  if v5 = 0 then
    (rcv p1.2 12 a2).bind fun _ =>
    (f_X12_seen N a2 v2 v3 v4 (jI 0) p1.2).bind fun p6 =>
    if p1.1 = p6.1 then
      J_law_2261 X N k18 a1 a2 x3 p6.2
    else
      some (jI 0, p6.2)
  else
    (rcv p1.2 12 a2).bind fun _ =>
    (f_X12_seen N a2 v2 v3 v4 (jI 1) p1.2).bind fun p7 =>
    if p1.1 = p7.1 then
      J_law_2261 X N k18 a1 a2 x3 p7.2
    else
      some (jI 0, p7.2)
def J_law_523 (X : Nat × (Nat → Int32)) (N : Nat) (k18 : Nat → Nat → Int32 → mH → Option (Int32 × mH)) (a1 : Nat) (a2 : Nat) (x3 : Int32) (h : mH) : Option (Int32 × mH) :=
  (xld X (iAdd x3 (jI 1))).bind fun v1 =>
  (xld X (iAdd x3 (jI 2))).bind fun v2 =>
  (xld X (iAdd x3 (jI 3))).bind fun v3 =>
  (xld X (iAdd x3 (jI 4))).bind fun v4 =>
  if v4 = 0 then
    J_law_552 X N k18 a1 a2 x3 a1 v1 v2 v3 (jI 0) h
  else
    J_law_552 X N k18 a1 a2 x3 a1 v1 v2 v3 (jI 1) h
def J_law_592 (X : Nat × (Nat → Int32)) (N : Nat) (k18 : Nat → Nat → Int32 → mH → Option (Int32 × mH)) (a1 : Nat) (a2 : Nat) (x3 : Int32) (h : mH) : Option (Int32 × mH) :=
  (xld X (iAdd x3 (jI 1))).bind fun v1 =>
  (xld X (iAdd x3 (jI 2))).bind fun v2 =>
  (rcv h 11 a1).bind fun _ =>
  (f_X11_overs N a1 v1 v2 h).bind fun p3 =>
  (xld X (iAdd x3 (jI 1))).bind fun v4 =>
  (xld X (iAdd x3 (jI 2))).bind fun v5 =>
  (rcv p3.2 12 a2).bind fun _ =>
  (f_X12_overs N a2 v4 v5 p3.2).bind fun p6 =>
  if p3.1 = p6.1 then
    J_law_2261 X N k18 a1 a2 x3 p6.2
  else
    some (jI 0, p6.2)
def J_law_625 (X : Nat × (Nat → Int32)) (N : Nat) (k18 : Nat → Nat → Int32 → mH → Option (Int32 × mH)) (a1 : Nat) (a2 : Nat) (x3 : Int32) (h : mH) : Option (Int32 × mH) :=
  (xld X (iAdd x3 (jI 1))).bind fun v1 =>
  (xld X (iAdd x3 (jI 2))).bind fun v2 =>
  (rcv h 11 a1).bind fun _ =>
  (f_X11_run N a1 v1 v2 h).bind fun p3 =>
  (xld X (iAdd x3 (jI 1))).bind fun v4 =>
  (xld X (iAdd x3 (jI 2))).bind fun v5 =>
  (rcv p3.2 12 a2).bind fun _ =>
  (f_X12_run N a2 v4 v5 p3.2).bind fun p6 =>
  if p3.1 = p6.1 then
    J_law_2261 X N k18 a1 a2 x3 p6.2
  else
    some (jI 0, p6.2)
def J_law_658 (X : Nat × (Nat → Int32)) (N : Nat) (k18 : Nat → Nat → Int32 → mH → Option (Int32 × mH)) (a1 : Nat) (a2 : Nat) (x3 : Int32) (h : mH) : Option (Int32 × mH) :=
  (xld X (iAdd x3 (jI 1))).bind fun v1 =>
  (xld X (iAdd x3 (jI 2))).bind fun v2 =>
  (xld X (iAdd x3 (jI 3))).bind fun v3 =>
  (xld X (iAdd x3 (jI 4))).bind fun v4 =>
  (rcv h 11 a1).bind fun _ =>
  (f_X11_step N a1 v1 v2 v3 v4 h).bind fun p5 =>
  (xld X (iAdd x3 (jI 1))).bind fun v6 =>
  (xld X (iAdd x3 (jI 2))).bind fun v7 =>
  (xld X (iAdd x3 (jI 3))).bind fun v8 =>
  (xld X (iAdd x3 (jI 4))).bind fun v9 =>
  (rcv p5.2 12 a2).bind fun _ =>
  (f_X12_step N a2 v6 v7 v8 v9 p5.2).bind fun p10 =>
  if p5.1 = p10.1 then
    J_law_2261 X N k18 a1 a2 x3 p10.2
  else
    some (jI 0, p10.2)
def J_law_711 (X : Nat × (Nat → Int32)) (N : Nat) (k18 : Nat → Nat → Int32 → mH → Option (Int32 × mH)) (a1 : Nat) (a2 : Nat) (x3 : Int32) (h : mH) : Option (Int32 × mH) :=
  (xld X (iAdd x3 (jI 1))).bind fun v1 =>
  (xld X (iAdd x3 (jI 2))).bind fun v2 =>
  (xld X (iAdd x3 (jI 3))).bind fun v3 =>
  (xld X (iAdd x3 (jI 4))).bind fun v4 =>
  (xld X (iAdd x3 (jI 5))).bind fun v5 =>
  (rcv h 11 a1).bind fun _ =>
  (f_X11_counts N a1 v1 v2 v3 v4 v5 h).bind fun p6 =>
  (xld X (iAdd x3 (jI 1))).bind fun v7 =>
  (xld X (iAdd x3 (jI 2))).bind fun v8 =>
  (xld X (iAdd x3 (jI 3))).bind fun v9 =>
  (xld X (iAdd x3 (jI 4))).bind fun v10 =>
  (xld X (iAdd x3 (jI 5))).bind fun v11 =>
  (rcv p6.2 12 a2).bind fun _ =>
  (f_X12_counts N a2 v7 v8 v9 v10 v11 p6.2).bind fun p12 =>
  if p6.1 = p12.1 then
    J_law_2261 X N k18 a1 a2 x3 p12.2
  else
    some (jI 0, p12.2)
def J_law_774 (X : Nat × (Nat → Int32)) (N : Nat) (k18 : Nat → Nat → Int32 → mH → Option (Int32 × mH)) (a1 : Nat) (a2 : Nat) (x3 : Int32) (h : mH) : Option (Int32 × mH) :=
  (rcv h 11 a1).bind fun _ =>
  (f_X11_total N a1 h).bind fun p1 =>
  (rcv p1.2 12 a2).bind fun _ =>
  (f_X12_total N a2 p1.2).bind fun p2 =>
  if p1.1 = p2.1 then
    J_law_2261 X N k18 a1 a2 x3 p2.2
  else
    some (jI 0, p2.2)
def J_law_816 (X : Nat × (Nat → Int32)) (N : Nat) (k18 : Nat → Nat → Int32 → mH → Option (Int32 × mH)) (a1 : Nat) (a2 : Nat) (x3 : Int32) (s_0 : Nat) (s_1 : Int32) (s_2 : Int32) (s_3 : Int32) (s_4 : Int32) (h : mH) : Option (Int32 × mH) :=
  (rcv h 11 s_0).bind fun _ =>
  (f_X11_undo N s_0 s_1 s_2 s_3 s_4 h).bind fun p1 =>
  (xld X (iAdd x3 (jI 1))).bind fun v2 =>
  (xld X (iAdd x3 (jI 2))).bind fun v3 =>
  (xld X (iAdd x3 (jI 3))).bind fun v4 =>
  (xld X (iAdd x3 (jI 4))).bind fun v5 =>
  if v5 = 0 then
    (rcv p1.2 12 a2).bind fun _ =>
    (f_X12_undo N a2 v2 v3 v4 (jI 0) p1.2).bind fun p6 =>
    if p1.1 = p6.1 then
      J_law_2261 X N k18 a1 a2 x3 p6.2
    else
      some (jI 0, p6.2)
  else
    (rcv p1.2 12 a2).bind fun _ =>
    (f_X12_undo N a2 v2 v3 v4 (jI 1) p1.2).bind fun p7 =>
    if p1.1 = p7.1 then
      J_law_2261 X N k18 a1 a2 x3 p7.2
    else
      some (jI 0, p7.2)
def J_law_787 (X : Nat × (Nat → Int32)) (N : Nat) (k18 : Nat → Nat → Int32 → mH → Option (Int32 × mH)) (a1 : Nat) (a2 : Nat) (x3 : Int32) (h : mH) : Option (Int32 × mH) :=
  (xld X (iAdd x3 (jI 1))).bind fun v1 =>
  (xld X (iAdd x3 (jI 2))).bind fun v2 =>
  (xld X (iAdd x3 (jI 3))).bind fun v3 =>
  (xld X (iAdd x3 (jI 4))).bind fun v4 =>
  if v4 = 0 then
    J_law_816 X N k18 a1 a2 x3 a1 v1 v2 v3 (jI 0) h
  else
    J_law_816 X N k18 a1 a2 x3 a1 v1 v2 v3 (jI 1) h
def J_law_856 (X : Nat × (Nat → Int32)) (N : Nat) (k18 : Nat → Nat → Int32 → mH → Option (Int32 × mH)) (a1 : Nat) (a2 : Nat) (x3 : Int32) (h : mH) : Option (Int32 × mH) :=
  (xld X (iAdd x3 (jI 1))).bind fun v1 =>
  (xld X (iAdd x3 (jI 2))).bind fun v2 =>
  (xld X (iAdd x3 (jI 3))).bind fun v3 =>
  (rcv h 11 a1).bind fun _ =>
  (f_X11_mend N a1 v1 v2 v3 h).bind fun p4 =>
  (xld X (iAdd x3 (jI 1))).bind fun v5 =>
  (xld X (iAdd x3 (jI 2))).bind fun v6 =>
  (xld X (iAdd x3 (jI 3))).bind fun v7 =>
  (rcv p4.2 12 a2).bind fun _ =>
  (f_X12_mend N a2 v5 v6 v7 p4.2).bind fun p8 =>
  if p4.1 = p8.1 then
    J_law_2261 X N k18 a1 a2 x3 p8.2
  else
    some (jI 0, p8.2)
def J_law_899 (X : Nat × (Nat → Int32)) (N : Nat) (k18 : Nat → Nat → Int32 → mH → Option (Int32 × mH)) (a1 : Nat) (a2 : Nat) (x3 : Int32) (h : mH) : Option (Int32 × mH) :=
  (xld X (iAdd x3 (jI 1))).bind fun v1 =>
  (rcv h 11 a1).bind fun _ =>
  (f_X11_seam N a1 v1 h).bind fun p2 =>
  (xld X (iAdd x3 (jI 1))).bind fun v3 =>
  (rcv p2.2 12 a2).bind fun _ =>
  (f_X12_seam N a2 v3 p2.2).bind fun p4 =>
  if p2.1 = p4.1 then
    J_law_2261 X N k18 a1 a2 x3 p4.2
  else
    some (jI 0, p4.2)
def J_law_922 (X : Nat × (Nat → Int32)) (N : Nat) (k18 : Nat → Nat → Int32 → mH → Option (Int32 × mH)) (a1 : Nat) (a2 : Nat) (x3 : Int32) (h : mH) : Option (Int32 × mH) :=
  (xld X (iAdd x3 (jI 1))).bind fun v1 =>
  (rcv h 11 a1).bind fun _ =>
  (f_X11_turn N a1 v1 h).bind fun p2 =>
  (xld X (iAdd x3 (jI 1))).bind fun v3 =>
  (rcv p2.2 12 a2).bind fun _ =>
  (f_X12_turn N a2 v3 p2.2).bind fun p4 =>
  if p2.1 = p4.1 then
    J_law_2261 X N k18 a1 a2 x3 p4.2
  else
    some (jI 0, p4.2)
def J_law_945 (X : Nat × (Nat → Int32)) (N : Nat) (k18 : Nat → Nat → Int32 → mH → Option (Int32 × mH)) (a1 : Nat) (a2 : Nat) (x3 : Int32) (h : mH) : Option (Int32 × mH) :=
  (xld X (iAdd x3 (jI 1))).bind fun v1 =>
  (xld X (iAdd x3 (jI 2))).bind fun v2 =>
  (xld X (iAdd x3 (jI 3))).bind fun v3 =>
  (rcv h 11 a1).bind fun _ =>
  (f_X11_spiral N a1 v1 v2 v3 h).bind fun p4 =>
  (xld X (iAdd x3 (jI 1))).bind fun v5 =>
  (xld X (iAdd x3 (jI 2))).bind fun v6 =>
  (xld X (iAdd x3 (jI 3))).bind fun v7 =>
  (rcv p4.2 12 a2).bind fun _ =>
  (f_X12_spiral N a2 v5 v6 v7 p4.2).bind fun p8 =>
  if p4.1 = p8.1 then
    J_law_2261 X N k18 a1 a2 x3 p8.2
  else
    some (jI 0, p8.2)
def J_law_988 (X : Nat × (Nat → Int32)) (N : Nat) (k18 : Nat → Nat → Int32 → mH → Option (Int32 × mH)) (a1 : Nat) (a2 : Nat) (x3 : Int32) (h : mH) : Option (Int32 × mH) :=
  (xld X (iAdd x3 (jI 1))).bind fun v1 =>
  (rcv h 11 a1).bind fun _ =>
  (f_X11_repeats N a1 v1 h).bind fun p2 =>
  (xld X (iAdd x3 (jI 1))).bind fun v3 =>
  (rcv p2.2 12 a2).bind fun _ =>
  (f_X12_repeats N a2 v3 p2.2).bind fun p4 =>
  if p2.1 = p4.1 then
    J_law_2261 X N k18 a1 a2 x3 p4.2
  else
    some (jI 0, p4.2)
def J_law_1035 (X : Nat × (Nat → Int32)) (N : Nat) (k18 : Nat → Nat → Int32 → mH → Option (Int32 × mH)) (a1 : Nat) (a2 : Nat) (x3 : Int32) (s_0 : Nat) (s_1 : Int32) (s_2 : Int32) (s_3 : Int32) (h : mH) : Option (Int32 × mH) :=
  (rcv h 11 s_0).bind fun _ =>
  (f_X11_colour N s_0 s_1 s_2 s_3 h).bind fun p1 =>
  (xld X (iAdd x3 (jI 1))).bind fun v2 =>
  (xld X (iAdd x3 (jI 2))).bind fun v3 =>
  (xld X (iAdd x3 (jI 3))).bind fun v4 =>
  if v4 = 0 then
    (rcv p1.2 12 a2).bind fun _ =>
    (f_X12_colour N a2 v2 v3 (jI 0) p1.2).bind fun p5 =>
    if p1.1 = p5.1 then
      J_law_2261 X N k18 a1 a2 x3 p5.2
    else
      some (jI 0, p5.2)
  else
    (rcv p1.2 12 a2).bind fun _ =>
    (f_X12_colour N a2 v2 v3 (jI 1) p1.2).bind fun p6 =>
    if p1.1 = p6.1 then
      J_law_2261 X N k18 a1 a2 x3 p6.2
    else
      some (jI 0, p6.2)
def J_law_1011 (X : Nat × (Nat → Int32)) (N : Nat) (k18 : Nat → Nat → Int32 → mH → Option (Int32 × mH)) (a1 : Nat) (a2 : Nat) (x3 : Int32) (h : mH) : Option (Int32 × mH) :=
  (xld X (iAdd x3 (jI 1))).bind fun v1 =>
  (xld X (iAdd x3 (jI 2))).bind fun v2 =>
  (xld X (iAdd x3 (jI 3))).bind fun v3 =>
  if v3 = 0 then
    J_law_1035 X N k18 a1 a2 x3 a1 v1 v2 (jI 0) h
  else
    J_law_1035 X N k18 a1 a2 x3 a1 v1 v2 (jI 1) h
def J_law_1070 (X : Nat × (Nat → Int32)) (N : Nat) (k18 : Nat → Nat → Int32 → mH → Option (Int32 × mH)) (a1 : Nat) (a2 : Nat) (x3 : Int32) (h : mH) : Option (Int32 × mH) :=
  (xld X (iAdd x3 (jI 1))).bind fun v1 =>
  (xld X (iAdd x3 (jI 2))).bind fun v2 =>
  (rcv h 11 a1).bind fun _ =>
  (f_X11_floats N a1 v1 v2 h).bind fun p3 =>
  (xld X (iAdd x3 (jI 1))).bind fun v4 =>
  (xld X (iAdd x3 (jI 2))).bind fun v5 =>
  (rcv p3.2 12 a2).bind fun _ =>
  (f_X12_floats N a2 v4 v5 p3.2).bind fun p6 =>
  if p3.1 = p6.1 then
    J_law_2261 X N k18 a1 a2 x3 p6.2
  else
    some (jI 0, p6.2)
def J_law_1103 (X : Nat × (Nat → Int32)) (N : Nat) (k18 : Nat → Nat → Int32 → mH → Option (Int32 × mH)) (a1 : Nat) (a2 : Nat) (x3 : Int32) (h : mH) : Option (Int32 × mH) :=
  (xld X (iAdd x3 (jI 1))).bind fun v1 =>
  (xld X (iAdd x3 (jI 2))).bind fun v2 =>
  (xld X (iAdd x3 (jI 3))).bind fun v3 =>
  (xld X (iAdd x3 (jI 4))).bind fun v4 =>
  (rcv h 11 a1).bind fun _ =>
  (f_X11_learner N a1 v1 v2 v3 v4 h).bind fun p5 =>
  (xld X (iAdd x3 (jI 1))).bind fun v6 =>
  (xld X (iAdd x3 (jI 2))).bind fun v7 =>
  (xld X (iAdd x3 (jI 3))).bind fun v8 =>
  (xld X (iAdd x3 (jI 4))).bind fun v9 =>
  (rcv p5.2 12 a2).bind fun _ =>
  (f_X12_learner N a2 v6 v7 v8 v9 p5.2).bind fun p10 =>
  if p5.1 = p10.1 then
    J_law_2261 X N k18 a1 a2 x3 p10.2
  else
    some (jI 0, p10.2)
def J_law_1156 (X : Nat × (Nat → Int32)) (N : Nat) (k18 : Nat → Nat → Int32 → mH → Option (Int32 × mH)) (a1 : Nat) (a2 : Nat) (x3 : Int32) (h : mH) : Option (Int32 × mH) :=
  (xld X (iAdd x3 (jI 1))).bind fun v1 =>
  (rcv h 11 a1).bind fun _ =>
  (f_X11_wish N a1 v1 h).bind fun p2 =>
  (xld X (iAdd x3 (jI 1))).bind fun v3 =>
  (rcv p2.2 12 a2).bind fun _ =>
  (f_X12_wish N a2 v3 p2.2).bind fun p4 =>
  if p2.1 = p4.1 then
    J_law_2261 X N k18 a1 a2 x3 p4.2
  else
    some (jI 0, p4.2)
def J_law_1179 (X : Nat × (Nat → Int32)) (N : Nat) (k18 : Nat → Nat → Int32 → mH → Option (Int32 × mH)) (a1 : Nat) (a2 : Nat) (x3 : Int32) (h : mH) : Option (Int32 × mH) :=
  (xld X (iAdd x3 (jI 1))).bind fun v1 =>
  (rcv h 11 a1).bind fun _ =>
  (f_X11_find N a1 v1 h).bind fun p2 =>
  (xld X (iAdd x3 (jI 1))).bind fun v3 =>
  (rcv p2.2 12 a2).bind fun _ =>
  (f_X12_find N a2 v3 p2.2).bind fun p4 =>
  if p2.1 = p4.1 then
    J_law_2261 X N k18 a1 a2 x3 p4.2
  else
    some (jI 0, p4.2)
def J_law_1202 (X : Nat × (Nat → Int32)) (N : Nat) (k18 : Nat → Nat → Int32 → mH → Option (Int32 × mH)) (a1 : Nat) (a2 : Nat) (x3 : Int32) (h : mH) : Option (Int32 × mH) :=
  (xld X (iAdd x3 (jI 1))).bind fun v1 =>
  (rcv h 11 a1).bind fun _ =>
  (f_X11_print N a1 v1 h).bind fun p2 =>
  (xld X (iAdd x3 (jI 1))).bind fun v3 =>
  (rcv p2.2 12 a2).bind fun _ =>
  (f_X12_print N a2 v3 p2.2).bind fun p4 =>
  if p2.1 = p4.1 then
    J_law_2261 X N k18 a1 a2 x3 p4.2
  else
    some (jI 0, p4.2)
def J_law_1225 (X : Nat × (Nat → Int32)) (N : Nat) (k18 : Nat → Nat → Int32 → mH → Option (Int32 × mH)) (a1 : Nat) (a2 : Nat) (x3 : Int32) (h : mH) : Option (Int32 × mH) :=
  (xld X (iAdd x3 (jI 1))).bind fun v1 =>
  (xld X (iAdd x3 (jI 2))).bind fun v2 =>
  (rcv h 11 a1).bind fun _ =>
  (f_X11_reads N a1 v1 v2 h).bind fun p3 =>
  (xld X (iAdd x3 (jI 1))).bind fun v4 =>
  (xld X (iAdd x3 (jI 2))).bind fun v5 =>
  (rcv p3.2 12 a2).bind fun _ =>
  (f_X12_reads N a2 v4 v5 p3.2).bind fun p6 =>
  if p3.1 = p6.1 then
    J_law_2261 X N k18 a1 a2 x3 p6.2
  else
    some (jI 0, p6.2)
def J_law_1258 (X : Nat × (Nat → Int32)) (N : Nat) (k18 : Nat → Nat → Int32 → mH → Option (Int32 × mH)) (a1 : Nat) (a2 : Nat) (x3 : Int32) (h : mH) : Option (Int32 × mH) :=
  (xld X (iAdd x3 (jI 1))).bind fun v1 =>
  (xld X (iAdd x3 (jI 2))).bind fun v2 =>
  (rcv h 11 a1).bind fun _ =>
  (f_X11_nearest N a1 v1 v2 h).bind fun p3 =>
  (xld X (iAdd x3 (jI 1))).bind fun v4 =>
  (xld X (iAdd x3 (jI 2))).bind fun v5 =>
  (rcv p3.2 12 a2).bind fun _ =>
  (f_X12_nearest N a2 v4 v5 p3.2).bind fun p6 =>
  if p3.1 = p6.1 then
    J_law_2261 X N k18 a1 a2 x3 p6.2
  else
    some (jI 0, p6.2)
def J_law_1291 (X : Nat × (Nat → Int32)) (N : Nat) (k18 : Nat → Nat → Int32 → mH → Option (Int32 × mH)) (a1 : Nat) (a2 : Nat) (x3 : Int32) (h : mH) : Option (Int32 × mH) :=
  (xld X (iAdd x3 (jI 1))).bind fun v1 =>
  (rcv h 11 a1).bind fun _ =>
  (f_X11_rods N a1 v1 h).bind fun p2 =>
  (xld X (iAdd x3 (jI 1))).bind fun v3 =>
  (rcv p2.2 12 a2).bind fun _ =>
  (f_X12_rods N a2 v3 p2.2).bind fun p4 =>
  if p2.1 = p4.1 then
    J_law_2261 X N k18 a1 a2 x3 p4.2
  else
    some (jI 0, p4.2)
def J_law_1314 (X : Nat × (Nat → Int32)) (N : Nat) (k18 : Nat → Nat → Int32 → mH → Option (Int32 × mH)) (a1 : Nat) (a2 : Nat) (x3 : Int32) (h : mH) : Option (Int32 × mH) :=
  (xld X (iAdd x3 (jI 1))).bind fun v1 =>
  (rcv h 11 a1).bind fun _ =>
  (f_X11_waste N a1 v1 h).bind fun p2 =>
  (xld X (iAdd x3 (jI 1))).bind fun v3 =>
  (rcv p2.2 12 a2).bind fun _ =>
  (f_X12_waste N a2 v3 p2.2).bind fun p4 =>
  if p2.1 = p4.1 then
    J_law_2261 X N k18 a1 a2 x3 p4.2
  else
    some (jI 0, p4.2)
def J_law_1337 (X : Nat × (Nat → Int32)) (N : Nat) (k18 : Nat → Nat → Int32 → mH → Option (Int32 × mH)) (a1 : Nat) (a2 : Nat) (x3 : Int32) (h : mH) : Option (Int32 × mH) :=
  (rcv h 11 a1).bind fun _ =>
  (f_X11_cost N a1 h).bind fun p1 =>
  (rcv p1.2 12 a2).bind fun _ =>
  (f_X12_cost N a2 p1.2).bind fun p2 =>
  if p1.1 = p2.1 then
    J_law_2261 X N k18 a1 a2 x3 p2.2
  else
    some (jI 0, p2.2)
def J_law_1350 (X : Nat × (Nat → Int32)) (N : Nat) (k18 : Nat → Nat → Int32 → mH → Option (Int32 × mH)) (a1 : Nat) (a2 : Nat) (x3 : Int32) (h : mH) : Option (Int32 × mH) :=
  (xld X (iAdd x3 (jI 1))).bind fun v1 =>
  (rcv h 11 a1).bind fun _ =>
  (f_X11_cheaper N a1 v1 h).bind fun p2 =>
  (xld X (iAdd x3 (jI 1))).bind fun v3 =>
  (rcv p2.2 12 a2).bind fun _ =>
  (f_X12_cheaper N a2 v3 p2.2).bind fun p4 =>
  if p2.1 = p4.1 then
    J_law_2261 X N k18 a1 a2 x3 p4.2
  else
    some (jI 0, p4.2)
def J_law_1392 (X : Nat × (Nat → Int32)) (N : Nat) (k18 : Nat → Nat → Int32 → mH → Option (Int32 × mH)) (a1 : Nat) (a2 : Nat) (x3 : Int32) (s_0 : Nat) (s_1 : Int32) (s_2 : Int32) (h : mH) : Option (Int32 × mH) :=
  (rcv h 11 s_0).bind fun _ =>
  (f_X11_joins N s_0 s_1 s_2 h).bind fun p1 =>
  (xld X (iAdd x3 (jI 1))).bind fun v2 =>
  (xld X (iAdd x3 (jI 2))).bind fun v3 =>
  if v3 = 0 then
    (rcv p1.2 12 a2).bind fun _ =>
    (f_X12_joins N a2 v2 (jI 0) p1.2).bind fun p4 =>
    if p1.1 = p4.1 then
      J_law_2261 X N k18 a1 a2 x3 p4.2
    else
      some (jI 0, p4.2)
  else
    (rcv p1.2 12 a2).bind fun _ =>
    (f_X12_joins N a2 v2 (jI 1) p1.2).bind fun p5 =>
    if p1.1 = p5.1 then
      J_law_2261 X N k18 a1 a2 x3 p5.2
    else
      some (jI 0, p5.2)
def J_law_1373 (X : Nat × (Nat → Int32)) (N : Nat) (k18 : Nat → Nat → Int32 → mH → Option (Int32 × mH)) (a1 : Nat) (a2 : Nat) (x3 : Int32) (h : mH) : Option (Int32 × mH) :=
  (xld X (iAdd x3 (jI 1))).bind fun v1 =>
  (xld X (iAdd x3 (jI 2))).bind fun v2 =>
  if v2 = 0 then
    J_law_1392 X N k18 a1 a2 x3 a1 v1 (jI 0) h
  else
    J_law_1392 X N k18 a1 a2 x3 a1 v1 (jI 1) h
def J_law_1422 (X : Nat × (Nat → Int32)) (N : Nat) (k18 : Nat → Nat → Int32 → mH → Option (Int32 × mH)) (a1 : Nat) (a2 : Nat) (x3 : Int32) (h : mH) : Option (Int32 × mH) :=
  (xld X (iAdd x3 (jI 1))).bind fun v1 =>
  (xld X (iAdd x3 (jI 2))).bind fun v2 =>
  (rcv h 11 a1).bind fun _ =>
  (f_X11_hide N a1 v1 v2 h).bind fun p3 =>
  (xld X (iAdd x3 (jI 1))).bind fun v4 =>
  (xld X (iAdd x3 (jI 2))).bind fun v5 =>
  (rcv p3.2 12 a2).bind fun _ =>
  (f_X12_hide N a2 v4 v5 p3.2).bind fun p6 =>
  if p3.1 = p6.1 then
    J_law_2261 X N k18 a1 a2 x3 p6.2
  else
    some (jI 0, p6.2)
def J_law_1455 (X : Nat × (Nat → Int32)) (N : Nat) (k18 : Nat → Nat → Int32 → mH → Option (Int32 × mH)) (a1 : Nat) (a2 : Nat) (x3 : Int32) (h : mH) : Option (Int32 × mH) :=
  (xld X (iAdd x3 (jI 1))).bind fun v1 =>
  (xld X (iAdd x3 (jI 2))).bind fun v2 =>
  (xld X (iAdd x3 (jI 3))).bind fun v3 =>
  (rcv h 11 a1).bind fun _ =>
  (f_X11_reach N a1 v1 v2 v3 h).bind fun p4 =>
  (xld X (iAdd x3 (jI 1))).bind fun v5 =>
  (xld X (iAdd x3 (jI 2))).bind fun v6 =>
  (xld X (iAdd x3 (jI 3))).bind fun v7 =>
  (rcv p4.2 12 a2).bind fun _ =>
  (f_X12_reach N a2 v5 v6 v7 p4.2).bind fun p8 =>
  if p4.1 = p8.1 then
    J_law_2261 X N k18 a1 a2 x3 p8.2
  else
    some (jI 0, p8.2)
def J_law_1498 (X : Nat × (Nat → Int32)) (N : Nat) (k18 : Nat → Nat → Int32 → mH → Option (Int32 × mH)) (a1 : Nat) (a2 : Nat) (x3 : Int32) (h : mH) : Option (Int32 × mH) :=
  (xld X (iAdd x3 (jI 1))).bind fun v1 =>
  (xld X (iAdd x3 (jI 2))).bind fun v2 =>
  (rcv h 11 a1).bind fun _ =>
  (f_X11_nest N a1 v1 v2 h).bind fun p3 =>
  (xld X (iAdd x3 (jI 1))).bind fun v4 =>
  (xld X (iAdd x3 (jI 2))).bind fun v5 =>
  (rcv p3.2 12 a2).bind fun _ =>
  (f_X12_nest N a2 v4 v5 p3.2).bind fun p6 =>
  if p3.1 = p6.1 then
    J_law_2261 X N k18 a1 a2 x3 p6.2
  else
    some (jI 0, p6.2)
def J_law_1531 (X : Nat × (Nat → Int32)) (N : Nat) (k18 : Nat → Nat → Int32 → mH → Option (Int32 × mH)) (a1 : Nat) (a2 : Nat) (x3 : Int32) (h : mH) : Option (Int32 × mH) :=
  (xld X (iAdd x3 (jI 1))).bind fun v1 =>
  (xld X (iAdd x3 (jI 2))).bind fun v2 =>
  (xld X (iAdd x3 (jI 3))).bind fun v3 =>
  (rcv h 11 a1).bind fun _ =>
  (f_X11_plait N a1 v1 v2 v3 h).bind fun p4 =>
  (xld X (iAdd x3 (jI 1))).bind fun v5 =>
  (xld X (iAdd x3 (jI 2))).bind fun v6 =>
  (xld X (iAdd x3 (jI 3))).bind fun v7 =>
  (rcv p4.2 12 a2).bind fun _ =>
  (f_X12_plait N a2 v5 v6 v7 p4.2).bind fun p8 =>
  if p4.1 = p8.1 then
    J_law_2261 X N k18 a1 a2 x3 p8.2
  else
    some (jI 0, p8.2)
def J_law_1574 (X : Nat × (Nat → Int32)) (N : Nat) (k18 : Nat → Nat → Int32 → mH → Option (Int32 × mH)) (a1 : Nat) (a2 : Nat) (x3 : Int32) (h : mH) : Option (Int32 × mH) :=
  (xld X (iAdd x3 (jI 1))).bind fun v1 =>
  (xld X (iAdd x3 (jI 2))).bind fun v2 =>
  (rcv h 11 a1).bind fun _ =>
  (f_X11_even N a1 v1 v2 h).bind fun p3 =>
  (xld X (iAdd x3 (jI 1))).bind fun v4 =>
  (xld X (iAdd x3 (jI 2))).bind fun v5 =>
  (rcv p3.2 12 a2).bind fun _ =>
  (f_X12_even N a2 v4 v5 p3.2).bind fun p6 =>
  if p3.1 = p6.1 then
    J_law_2261 X N k18 a1 a2 x3 p6.2
  else
    some (jI 0, p6.2)
def J_law_1626 (X : Nat × (Nat → Int32)) (N : Nat) (k18 : Nat → Nat → Int32 → mH → Option (Int32 × mH)) (a1 : Nat) (a2 : Nat) (x3 : Int32) (s_0 : Nat) (s_1 : Int32) (s_2 : Int32) (h : mH) : Option (Int32 × mH) :=
  (rcv h 11 s_0).bind fun _ =>
  (f_X11_height N s_0 s_1 s_2 h).bind fun p1 =>
  (xld X (iAdd x3 (jI 1))).bind fun v2 =>
  (xld X (iAdd x3 (jI 2))).bind fun v3 =>
  if v3 = 0 then
    (rcv p1.2 12 a2).bind fun _ =>
    (f_X12_height N a2 v2 (jI 0) p1.2).bind fun p4 =>
    if p1.1 = p4.1 then
      J_law_2261 X N k18 a1 a2 x3 p4.2
    else
      some (jI 0, p4.2)
  else
    (rcv p1.2 12 a2).bind fun _ =>
    (f_X12_height N a2 v2 (jI 1) p1.2).bind fun p5 =>
    if p1.1 = p5.1 then
      J_law_2261 X N k18 a1 a2 x3 p5.2
    else
      some (jI 0, p5.2)
def J_law_1607 (X : Nat × (Nat → Int32)) (N : Nat) (k18 : Nat → Nat → Int32 → mH → Option (Int32 × mH)) (a1 : Nat) (a2 : Nat) (x3 : Int32) (h : mH) : Option (Int32 × mH) :=
  (xld X (iAdd x3 (jI 1))).bind fun v1 =>
  (xld X (iAdd x3 (jI 2))).bind fun v2 =>
  if v2 = 0 then
    J_law_1626 X N k18 a1 a2 x3 a1 v1 (jI 0) h
  else
    J_law_1626 X N k18 a1 a2 x3 a1 v1 (jI 1) h
def J_law_1656 (X : Nat × (Nat → Int32)) (N : Nat) (k18 : Nat → Nat → Int32 → mH → Option (Int32 × mH)) (a1 : Nat) (a2 : Nat) (x3 : Int32) (h : mH) : Option (Int32 × mH) :=
  (rcv h 11 a1).bind fun _ =>
  (f_X11_loose N a1 h).bind fun p1 =>
  (rcv p1.2 12 a2).bind fun _ =>
  (f_X12_loose N a2 p1.2).bind fun p2 =>
  if p1.1 = p2.1 then
    J_law_2261 X N k18 a1 a2 x3 p2.2
  else
    some (jI 0, p2.2)
def J_law_1669 (X : Nat × (Nat → Int32)) (N : Nat) (k18 : Nat → Nat → Int32 → mH → Option (Int32 × mH)) (a1 : Nat) (a2 : Nat) (x3 : Int32) (h : mH) : Option (Int32 × mH) :=
  (xld X (iAdd x3 (jI 1))).bind fun v1 =>
  (rcv h 11 a1).bind fun _ =>
  (f_X11_hold N a1 v1 h).bind fun p2 =>
  (xld X (iAdd x3 (jI 1))).bind fun v3 =>
  (rcv p2.2 12 a2).bind fun _ =>
  (f_X12_hold N a2 v3 p2.2).bind fun p4 =>
  if p2.1 = p4.1 then
    J_law_2261 X N k18 a1 a2 x3 p4.2
  else
    some (jI 0, p4.2)
def J_law_1692 (X : Nat × (Nat → Int32)) (N : Nat) (k18 : Nat → Nat → Int32 → mH → Option (Int32 × mH)) (a1 : Nat) (a2 : Nat) (x3 : Int32) (h : mH) : Option (Int32 × mH) :=
  (xld X (iAdd x3 (jI 1))).bind fun v1 =>
  (rcv h 11 a1).bind fun _ =>
  (f_X11_gives N a1 v1 h).bind fun p2 =>
  (xld X (iAdd x3 (jI 1))).bind fun v3 =>
  (rcv p2.2 12 a2).bind fun _ =>
  (f_X12_gives N a2 v3 p2.2).bind fun p4 =>
  if p2.1 = p4.1 then
    J_law_2261 X N k18 a1 a2 x3 p4.2
  else
    some (jI 0, p4.2)
def J_law_1715 (X : Nat × (Nat → Int32)) (N : Nat) (k18 : Nat → Nat → Int32 → mH → Option (Int32 × mH)) (a1 : Nat) (a2 : Nat) (x3 : Int32) (h : mH) : Option (Int32 × mH) :=
  (xld X (iAdd x3 (jI 1))).bind fun v1 =>
  (rcv h 11 a1).bind fun _ =>
  (f_X11_width N a1 v1 h).bind fun p2 =>
  (xld X (iAdd x3 (jI 1))).bind fun v3 =>
  (rcv p2.2 12 a2).bind fun _ =>
  (f_X12_width N a2 v3 p2.2).bind fun p4 =>
  if p2.1 = p4.1 then
    J_law_2261 X N k18 a1 a2 x3 p4.2
  else
    some (jI 0, p4.2)
def J_law_1738 (X : Nat × (Nat → Int32)) (N : Nat) (k18 : Nat → Nat → Int32 → mH → Option (Int32 × mH)) (a1 : Nat) (a2 : Nat) (x3 : Int32) (h : mH) : Option (Int32 × mH) :=
  (xld X (iAdd x3 (jI 1))).bind fun v1 =>
  (xld X (iAdd x3 (jI 2))).bind fun v2 =>
  (xld X (iAdd x3 (jI 3))).bind fun v3 =>
  (rcv h 11 a1).bind fun _ =>
  (f_X11_bowl N a1 v1 v2 v3 h).bind fun p4 =>
  (xld X (iAdd x3 (jI 1))).bind fun v5 =>
  (xld X (iAdd x3 (jI 2))).bind fun v6 =>
  (xld X (iAdd x3 (jI 3))).bind fun v7 =>
  (rcv p4.2 12 a2).bind fun _ =>
  (f_X12_bowl N a2 v5 v6 v7 p4.2).bind fun p8 =>
  if p4.1 = p8.1 then
    J_law_2261 X N k18 a1 a2 x3 p8.2
  else
    some (jI 0, p8.2)
def J_law_1781 (X : Nat × (Nat → Int32)) (N : Nat) (k18 : Nat → Nat → Int32 → mH → Option (Int32 × mH)) (a1 : Nat) (a2 : Nat) (x3 : Int32) (h : mH) : Option (Int32 × mH) :=
  (xld X (iAdd x3 (jI 1))).bind fun v1 =>
  (xld X (iAdd x3 (jI 2))).bind fun v2 =>
  (rcv h 11 a1).bind fun _ =>
  (f_X11_wander N a1 v1 v2 h).bind fun p3 =>
  (xld X (iAdd x3 (jI 1))).bind fun v4 =>
  (xld X (iAdd x3 (jI 2))).bind fun v5 =>
  (rcv p3.2 12 a2).bind fun _ =>
  (f_X12_wander N a2 v4 v5 p3.2).bind fun p6 =>
  if p3.1 = p6.1 then
    J_law_2261 X N k18 a1 a2 x3 p6.2
  else
    some (jI 0, p6.2)
def J_law_1814 (X : Nat × (Nat → Int32)) (N : Nat) (k18 : Nat → Nat → Int32 → mH → Option (Int32 × mH)) (a1 : Nat) (a2 : Nat) (x3 : Int32) (h : mH) : Option (Int32 × mH) :=
  (xld X (iAdd x3 (jI 1))).bind fun v1 =>
  (rcv h 11 a1).bind fun _ =>
  (f_X11_closes N a1 v1 h).bind fun p2 =>
  (xld X (iAdd x3 (jI 1))).bind fun v3 =>
  (rcv p2.2 12 a2).bind fun _ =>
  (f_X12_closes N a2 v3 p2.2).bind fun p4 =>
  if p2.1 = p4.1 then
    J_law_2261 X N k18 a1 a2 x3 p4.2
  else
    some (jI 0, p4.2)
def J_law_1837 (X : Nat × (Nat → Int32)) (N : Nat) (k18 : Nat → Nat → Int32 → mH → Option (Int32 × mH)) (a1 : Nat) (a2 : Nat) (x3 : Int32) (h : mH) : Option (Int32 × mH) :=
  (xld X (iAdd x3 (jI 1))).bind fun v1 =>
  (xld X (iAdd x3 (jI 2))).bind fun v2 =>
  (xld X (iAdd x3 (jI 3))).bind fun v3 =>
  (rcv h 11 a1).bind fun _ =>
  (f_X11_border N a1 v1 v2 v3 h).bind fun p4 =>
  (xld X (iAdd x3 (jI 1))).bind fun v5 =>
  (xld X (iAdd x3 (jI 2))).bind fun v6 =>
  (xld X (iAdd x3 (jI 3))).bind fun v7 =>
  (rcv p4.2 12 a2).bind fun _ =>
  (f_X12_border N a2 v5 v6 v7 p4.2).bind fun p8 =>
  if p4.1 = p8.1 then
    J_law_2261 X N k18 a1 a2 x3 p8.2
  else
    some (jI 0, p8.2)
def J_law_1880 (X : Nat × (Nat → Int32)) (N : Nat) (k18 : Nat → Nat → Int32 → mH → Option (Int32 × mH)) (a1 : Nat) (a2 : Nat) (x3 : Int32) (h : mH) : Option (Int32 × mH) :=
  (xld X (iAdd x3 (jI 1))).bind fun v1 =>
  (xld X (iAdd x3 (jI 2))).bind fun v2 =>
  (rcv h 11 a1).bind fun _ =>
  (f_X11_ways N a1 v1 v2 h).bind fun p3 =>
  (xld X (iAdd x3 (jI 1))).bind fun v4 =>
  (xld X (iAdd x3 (jI 2))).bind fun v5 =>
  (rcv p3.2 12 a2).bind fun _ =>
  (f_X12_ways N a2 v4 v5 p3.2).bind fun p6 =>
  if p3.1 = p6.1 then
    J_law_2261 X N k18 a1 a2 x3 p6.2
  else
    some (jI 0, p6.2)
def J_law_1913 (X : Nat × (Nat → Int32)) (N : Nat) (k18 : Nat → Nat → Int32 → mH → Option (Int32 × mH)) (a1 : Nat) (a2 : Nat) (x3 : Int32) (h : mH) : Option (Int32 × mH) :=
  (xld X (iAdd x3 (jI 1))).bind fun v1 =>
  (rcv h 11 a1).bind fun _ =>
  (f_X11_taught N a1 v1 h).bind fun p2 =>
  (xld X (iAdd x3 (jI 1))).bind fun v3 =>
  (rcv p2.2 12 a2).bind fun _ =>
  (f_X12_taught N a2 v3 p2.2).bind fun p4 =>
  if p2.1 = p4.1 then
    J_law_2261 X N k18 a1 a2 x3 p4.2
  else
    some (jI 0, p4.2)
def J_law_1936 (X : Nat × (Nat → Int32)) (N : Nat) (k18 : Nat → Nat → Int32 → mH → Option (Int32 × mH)) (a1 : Nat) (a2 : Nat) (x3 : Int32) (h : mH) : Option (Int32 × mH) :=
  (xld X (iAdd x3 (jI 1))).bind fun v1 =>
  (xld X (iAdd x3 (jI 2))).bind fun v2 =>
  (xld X (iAdd x3 (jI 3))).bind fun v3 =>
  (xld X (iAdd x3 (jI 4))).bind fun v4 =>
  (xld X (iAdd x3 (jI 5))).bind fun v5 =>
  (rcv h 11 a1).bind fun _ =>
  (f_X11_lid N a1 v1 v2 v3 v4 v5 h).bind fun p6 =>
  (xld X (iAdd x3 (jI 1))).bind fun v7 =>
  (xld X (iAdd x3 (jI 2))).bind fun v8 =>
  (xld X (iAdd x3 (jI 3))).bind fun v9 =>
  (xld X (iAdd x3 (jI 4))).bind fun v10 =>
  (xld X (iAdd x3 (jI 5))).bind fun v11 =>
  (rcv p6.2 12 a2).bind fun _ =>
  (f_X12_lid N a2 v7 v8 v9 v10 v11 p6.2).bind fun p12 =>
  if p6.1 = p12.1 then
    J_law_2261 X N k18 a1 a2 x3 p12.2
  else
    some (jI 0, p12.2)
def J_law_1999 (X : Nat × (Nat → Int32)) (N : Nat) (k18 : Nat → Nat → Int32 → mH → Option (Int32 × mH)) (a1 : Nat) (a2 : Nat) (x3 : Int32) (h : mH) : Option (Int32 × mH) :=
  (xld X (iAdd x3 (jI 1))).bind fun v1 =>
  (xld X (iAdd x3 (jI 2))).bind fun v2 =>
  (xld X (iAdd x3 (jI 3))).bind fun v3 =>
  (rcv h 11 a1).bind fun _ =>
  (f_X11_numbers N a1 v1 v2 v3 h).bind fun p4 =>
  (xld X (iAdd x3 (jI 1))).bind fun v5 =>
  (xld X (iAdd x3 (jI 2))).bind fun v6 =>
  (xld X (iAdd x3 (jI 3))).bind fun v7 =>
  (rcv p4.2 12 a2).bind fun _ =>
  (f_X12_numbers N a2 v5 v6 v7 p4.2).bind fun p8 =>
  if p4.1 = p8.1 then
    J_law_2261 X N k18 a1 a2 x3 p8.2
  else
    some (jI 0, p8.2)
def J_law_2042 (X : Nat × (Nat → Int32)) (N : Nat) (k18 : Nat → Nat → Int32 → mH → Option (Int32 × mH)) (a1 : Nat) (a2 : Nat) (x3 : Int32) (h : mH) : Option (Int32 × mH) :=
  (xld X (iAdd x3 (jI 1))).bind fun v1 =>
  (xld X (iAdd x3 (jI 2))).bind fun v2 =>
  (xld X (iAdd x3 (jI 3))).bind fun v3 =>
  (xld X (iAdd x3 (jI 4))).bind fun v4 =>
  (rcv h 11 a1).bind fun _ =>
  (f_X11_write N a1 v1 v2 (lOr (lShl v3.toInt64 (jI 32)) (lAnd v4.toInt64 (jL 4294967295))) h).bind fun p5 =>
  (xld X (iAdd x3 (jI 1))).bind fun v6 =>
  (xld X (iAdd x3 (jI 2))).bind fun v7 =>
  (xld X (iAdd x3 (jI 3))).bind fun v8 =>
  (xld X (iAdd x3 (jI 4))).bind fun v9 =>
  (rcv p5.2 12 a2).bind fun _ =>
  (f_X12_write N a2 v6 v7 (lOr (lShl v8.toInt64 (jI 32)) (lAnd v9.toInt64 (jL 4294967295))) p5.2).bind fun p10 =>
  if p5.1 = p10.1 then
    J_law_2261 X N k18 a1 a2 x3 p10.2
  else
    some (jI 0, p10.2)
def J_law_2116 (X : Nat × (Nat → Int32)) (N : Nat) (k18 : Nat → Nat → Int32 → mH → Option (Int32 × mH)) (a1 : Nat) (a2 : Nat) (x3 : Int32) (h : mH) : Option (Int32 × mH) :=
  (xld X (iAdd x3 (jI 1))).bind fun v1 =>
  (xld X (iAdd x3 (jI 2))).bind fun v2 =>
  (xld X (iAdd x3 (jI 3))).bind fun v3 =>
  (xld X (iAdd x3 (jI 4))).bind fun v4 =>
  (rcv h 11 a1).bind fun _ =>
  (f_X11_copy N a1 v1 v2 v3 v4 h).bind fun p5 =>
  (xld X (iAdd x3 (jI 1))).bind fun v6 =>
  (xld X (iAdd x3 (jI 2))).bind fun v7 =>
  (xld X (iAdd x3 (jI 3))).bind fun v8 =>
  (xld X (iAdd x3 (jI 4))).bind fun v9 =>
  (rcv p5.2 12 a2).bind fun _ =>
  (f_X12_copy N a2 v6 v7 v8 v9 p5.2).bind fun p10 =>
  if p5.1 = p10.1 then
    J_law_2261 X N k18 a1 a2 x3 p10.2
  else
    some (jI 0, p10.2)
def J_law_2169 (X : Nat × (Nat → Int32)) (N : Nat) (k18 : Nat → Nat → Int32 → mH → Option (Int32 × mH)) (a1 : Nat) (a2 : Nat) (x3 : Int32) (h : mH) : Option (Int32 × mH) :=
  (xld X (iAdd x3 (jI 1))).bind fun v1 =>
  (rcv h 11 a1).bind fun _ =>
  (f_X11_image N a1 v1 h).bind fun p2 =>
  (xld X (iAdd x3 (jI 1))).bind fun v3 =>
  (rcv p2.2 12 a2).bind fun _ =>
  (f_X12_image N a2 v3 p2.2).bind fun p4 =>
  if p2.1 = p4.1 then
    J_law_2261 X N k18 a1 a2 x3 p4.2
  else
    some (jI 0, p4.2)
def J_law_2192 (X : Nat × (Nat → Int32)) (N : Nat) (k18 : Nat → Nat → Int32 → mH → Option (Int32 × mH)) (a1 : Nat) (a2 : Nat) (x3 : Int32) (h : mH) : Option (Int32 × mH) :=
  (xld X (iAdd x3 (jI 1))).bind fun v1 =>
  (rcv h 11 a1).bind fun _ =>
  (f_X11_restore N a1 v1 h).bind fun p2 =>
  (xld X (iAdd x3 (jI 1))).bind fun v3 =>
  (rcv p2.2 12 a2).bind fun _ =>
  (f_X12_restore N a2 v3 p2.2).bind fun p4 =>
  if p2.1 = p4.1 then
    J_law_2261 X N k18 a1 a2 x3 p4.2
  else
    some (jI 0, p4.2)
def J_law_2215 (X : Nat × (Nat → Int32)) (N : Nat) (k18 : Nat → Nat → Int32 → mH → Option (Int32 × mH)) (a1 : Nat) (a2 : Nat) (x3 : Int32) (h : mH) : Option (Int32 × mH) :=
  (xld X (iAdd x3 (jI 1))).bind fun v1 =>
  (rcv h 11 a1).bind fun _ =>
  (f_X11_status N a1 v1 h).bind fun p2 =>
  (xld X (iAdd x3 (jI 1))).bind fun v3 =>
  (rcv p2.2 12 a2).bind fun _ =>
  (f_X12_status N a2 v3 p2.2).bind fun p4 =>
  if p2.1 = p4.1 then
    J_law_2261 X N k18 a1 a2 x3 p4.2
  else
    some (jI 0, p4.2)
def J_law_2238 (X : Nat × (Nat → Int32)) (N : Nat) (k18 : Nat → Nat → Int32 → mH → Option (Int32 × mH)) (a1 : Nat) (a2 : Nat) (x3 : Int32) (h : mH) : Option (Int32 × mH) :=
  (xld X (iAdd x3 (jI 1))).bind fun v1 =>
  (rcv h 11 a1).bind fun _ =>
  (f_X11_count N a1 v1 h).bind fun p2 =>
  (xld X (iAdd x3 (jI 1))).bind fun v3 =>
  (rcv p2.2 12 a2).bind fun _ =>
  (f_X12_count N a2 v3 p2.2).bind fun p4 =>
  if p2.1 = p4.1 then
    J_law_2261 X N k18 a1 a2 x3 p4.2
  else
    some (jI 0, p4.2)
def L_law_18 (X : Nat × (Nat → Int32)) (N : Nat) : Nat → Nat → Nat → Int32 → mH → Option (Int32 × mH)
  | 0, _, _, _, _ => none
  | n + 1, a1, a2, x3, h =>
    if (iSub (Int32.ofNat X.1) (jI 6)) < x3 then
      some (jI 1, h)
    else
      (xld X x3).bind fun v1 =>
      if (iAnd v1 (jI 63)) = jI 0 then
        J_law_272 X N (L_law_18 X N n) a1 a2 x3 h
      else
      if (iAnd v1 (jI 63)) = jI 1 then
        J_law_335 X N (L_law_18 X N n) a1 a2 x3 h
      else
      if (iAnd v1 (jI 63)) = jI 2 then
        J_law_358 X N (L_law_18 X N n) a1 a2 x3 h
      else
      if (iAnd v1 (jI 63)) = jI 3 then
        J_law_381 X N (L_law_18 X N n) a1 a2 x3 h
      else
      if (iAnd v1 (jI 63)) = jI 4 then
        J_law_414 X N (L_law_18 X N n) a1 a2 x3 h
      else
      if (iAnd v1 (jI 63)) = jI 5 then
        J_law_447 X N (L_law_18 X N n) a1 a2 x3 h
      else
      if (iAnd v1 (jI 63)) = jI 6 then
        J_law_470 X N (L_law_18 X N n) a1 a2 x3 h
      else
      if (iAnd v1 (jI 63)) = jI 7 then
        J_law_523 X N (L_law_18 X N n) a1 a2 x3 h
      else
      if (iAnd v1 (jI 63)) = jI 8 then
        J_law_592 X N (L_law_18 X N n) a1 a2 x3 h
      else
      if (iAnd v1 (jI 63)) = jI 9 then
        J_law_625 X N (L_law_18 X N n) a1 a2 x3 h
      else
      if (iAnd v1 (jI 63)) = jI 10 then
        J_law_658 X N (L_law_18 X N n) a1 a2 x3 h
      else
      if (iAnd v1 (jI 63)) = jI 11 then
        J_law_711 X N (L_law_18 X N n) a1 a2 x3 h
      else
      if (iAnd v1 (jI 63)) = jI 12 then
        J_law_774 X N (L_law_18 X N n) a1 a2 x3 h
      else
      if (iAnd v1 (jI 63)) = jI 13 then
        J_law_787 X N (L_law_18 X N n) a1 a2 x3 h
      else
      if (iAnd v1 (jI 63)) = jI 14 then
        J_law_856 X N (L_law_18 X N n) a1 a2 x3 h
      else
      if (iAnd v1 (jI 63)) = jI 15 then
        J_law_899 X N (L_law_18 X N n) a1 a2 x3 h
      else
      if (iAnd v1 (jI 63)) = jI 16 then
        J_law_922 X N (L_law_18 X N n) a1 a2 x3 h
      else
      if (iAnd v1 (jI 63)) = jI 17 then
        J_law_945 X N (L_law_18 X N n) a1 a2 x3 h
      else
      if (iAnd v1 (jI 63)) = jI 18 then
        J_law_988 X N (L_law_18 X N n) a1 a2 x3 h
      else
      if (iAnd v1 (jI 63)) = jI 19 then
        J_law_1011 X N (L_law_18 X N n) a1 a2 x3 h
      else
      if (iAnd v1 (jI 63)) = jI 20 then
        J_law_1070 X N (L_law_18 X N n) a1 a2 x3 h
      else
      if (iAnd v1 (jI 63)) = jI 21 then
        J_law_1103 X N (L_law_18 X N n) a1 a2 x3 h
      else
      if (iAnd v1 (jI 63)) = jI 22 then
        J_law_1156 X N (L_law_18 X N n) a1 a2 x3 h
      else
      if (iAnd v1 (jI 63)) = jI 23 then
        J_law_1179 X N (L_law_18 X N n) a1 a2 x3 h
      else
      if (iAnd v1 (jI 63)) = jI 24 then
        J_law_1202 X N (L_law_18 X N n) a1 a2 x3 h
      else
      if (iAnd v1 (jI 63)) = jI 25 then
        J_law_1225 X N (L_law_18 X N n) a1 a2 x3 h
      else
      if (iAnd v1 (jI 63)) = jI 26 then
        J_law_1258 X N (L_law_18 X N n) a1 a2 x3 h
      else
      if (iAnd v1 (jI 63)) = jI 27 then
        J_law_1291 X N (L_law_18 X N n) a1 a2 x3 h
      else
      if (iAnd v1 (jI 63)) = jI 28 then
        J_law_1314 X N (L_law_18 X N n) a1 a2 x3 h
      else
      if (iAnd v1 (jI 63)) = jI 29 then
        J_law_1337 X N (L_law_18 X N n) a1 a2 x3 h
      else
      if (iAnd v1 (jI 63)) = jI 30 then
        J_law_1350 X N (L_law_18 X N n) a1 a2 x3 h
      else
      if (iAnd v1 (jI 63)) = jI 31 then
        J_law_1373 X N (L_law_18 X N n) a1 a2 x3 h
      else
      if (iAnd v1 (jI 63)) = jI 32 then
        J_law_1422 X N (L_law_18 X N n) a1 a2 x3 h
      else
      if (iAnd v1 (jI 63)) = jI 33 then
        J_law_1455 X N (L_law_18 X N n) a1 a2 x3 h
      else
      if (iAnd v1 (jI 63)) = jI 34 then
        J_law_1498 X N (L_law_18 X N n) a1 a2 x3 h
      else
      if (iAnd v1 (jI 63)) = jI 35 then
        J_law_1531 X N (L_law_18 X N n) a1 a2 x3 h
      else
      if (iAnd v1 (jI 63)) = jI 36 then
        J_law_1574 X N (L_law_18 X N n) a1 a2 x3 h
      else
      if (iAnd v1 (jI 63)) = jI 37 then
        J_law_1607 X N (L_law_18 X N n) a1 a2 x3 h
      else
      if (iAnd v1 (jI 63)) = jI 38 then
        J_law_1656 X N (L_law_18 X N n) a1 a2 x3 h
      else
      if (iAnd v1 (jI 63)) = jI 39 then
        J_law_1669 X N (L_law_18 X N n) a1 a2 x3 h
      else
      if (iAnd v1 (jI 63)) = jI 40 then
        J_law_1692 X N (L_law_18 X N n) a1 a2 x3 h
      else
      if (iAnd v1 (jI 63)) = jI 41 then
        J_law_1715 X N (L_law_18 X N n) a1 a2 x3 h
      else
      if (iAnd v1 (jI 63)) = jI 42 then
        J_law_1738 X N (L_law_18 X N n) a1 a2 x3 h
      else
      if (iAnd v1 (jI 63)) = jI 43 then
        J_law_1781 X N (L_law_18 X N n) a1 a2 x3 h
      else
      if (iAnd v1 (jI 63)) = jI 44 then
        J_law_1814 X N (L_law_18 X N n) a1 a2 x3 h
      else
      if (iAnd v1 (jI 63)) = jI 45 then
        J_law_1837 X N (L_law_18 X N n) a1 a2 x3 h
      else
      if (iAnd v1 (jI 63)) = jI 46 then
        J_law_1880 X N (L_law_18 X N n) a1 a2 x3 h
      else
      if (iAnd v1 (jI 63)) = jI 47 then
        J_law_1913 X N (L_law_18 X N n) a1 a2 x3 h
      else
      if (iAnd v1 (jI 63)) = jI 48 then
        J_law_1936 X N (L_law_18 X N n) a1 a2 x3 h
      else
      if (iAnd v1 (jI 63)) = jI 49 then
        J_law_1999 X N (L_law_18 X N n) a1 a2 x3 h
      else
      if (iAnd v1 (jI 63)) = jI 50 then
        J_law_2042 X N (L_law_18 X N n) a1 a2 x3 h
      else
      if (iAnd v1 (jI 63)) = jI 51 then
        J_law_2116 X N (L_law_18 X N n) a1 a2 x3 h
      else
      if (iAnd v1 (jI 63)) = jI 52 then
        J_law_2169 X N (L_law_18 X N n) a1 a2 x3 h
      else
      if (iAnd v1 (jI 63)) = jI 53 then
        J_law_2192 X N (L_law_18 X N n) a1 a2 x3 h
      else
      if (iAnd v1 (jI 63)) = jI 54 then
        J_law_2215 X N (L_law_18 X N n) a1 a2 x3 h
      else
      if (iAnd v1 (jI 63)) = jI 55 then
        J_law_2238 X N (L_law_18 X N n) a1 a2 x3 h
      else
      J_law_2261 X N (L_law_18 X N n) a1 a2 x3 h
def f_law (X : Nat × (Nat → Int32)) (N : Nat) (h : mH) : Option (Int32 × mH) :=
  let h1 := nwO h 11
  (f_X11_init N h.1 h1).bind fun h2 =>
  let h3 := nwO h2 12
  (f_X12_init N h2.1 h3).bind fun h4 =>
  L_law_18 X N N h.1 h2.1 (jI 0) h4
def y_law : mM := (yL_law, code, 4, some .boolean)
def B_law : List (Nat × List mI) := [(551, [(.iconst 0, 1, [], [0])]), (583, [(.iconst 0, 1, [], [0])]), (584, [(.invokevirtual 49, 3, [0, 268, 4, 12, 305], []), (.if_icmp .eq 1674, 3, [2261], []), (.iconst 0, 1, [], [0]), (.ireturn, 1, [], [])]), (815, [(.iconst 0, 1, [], [0])]), (847, [(.iconst 0, 1, [], [0])]), (848, [(.invokevirtual 74, 3, [0, 275, 4, 12, 315], []), (.if_icmp .eq 1410, 3, [2261], []), (.iconst 0, 1, [], [0]), (.ireturn, 1, [], [])]), (1034, [(.iconst 0, 1, [], [0])]), (1061, [(.iconst 0, 1, [], [0])]), (1062, [(.invokevirtual 100, 3, [0, 283, 3, 12, 323], []), (.if_icmp .eq 1196, 3, [2261], []), (.iconst 0, 1, [], [0]), (.ireturn, 1, [], [])]), (1391, [(.iconst 0, 1, [], [0])]), (1413, [(.iconst 0, 1, [], [0])]), (1414, [(.invokevirtual 149, 3, [0, 304, 2, 12, 343], []), (.if_icmp .eq 844, 3, [2261], []), (.iconst 0, 1, [], [0]), (.ireturn, 1, [], [])]), (1625, [(.iconst 0, 1, [], [0])]), (1647, [(.iconst 0, 1, [], [0])]), (1648, [(.invokevirtual 173, 3, [0, 314, 2, 12, 353], []), (.if_icmp .eq 610, 3, [2261], []), (.iconst 0, 1, [], [0]), (.ireturn, 1, [], [])]), (2267, [(.iconst 1, 1, [], [1]), (.ireturn, 1, [], [])])]
def S_law_0 : List mI := [(.new 7, 3, [11, 0], []), (.dup, 1, [], []), (.invokespecial 9, 3, [2, 146, 0, 0, 0], []), (.astore_n 1, 1, [1], []), (.new 10, 3, [12, 15], []), (.dup, 1, [], []), (.invokespecial 12, 3, [2, 226, 0, 0, 264], []), (.astore_n 2, 1, [2], []), (.iconst 0, 1, [], [0]), (.istore_n 3, 1, [3], [])]
def S_law_18 : List mI := [(.iload_n 3, 1, [3], []), (.aload_n 0, 1, [0], []), (.arraylength, 1, [1], []), (.bipush 6, 2, [], [6]), (.isub, 1, [], []), (.if_icmp .gt 2243, 3, [2267], []), (.aload_n 0, 1, [0], []), (.iload_n 3, 1, [3], []), (.iaload, 1, [1], []), (.bipush 63, 2, [], [63]), (.iand, 1, [], []), (.tableswitch 2228 0 55 #[239, 302, 325, 348, 381, 414, 437, 490, 559, 592, 625, 678, 741, 754, 823, 866, 889, 912, 955, 978, 1037, 1070, 1123, 1146, 1169, 1192, 1225, 1258, 1281, 1304, 1317, 1340, 1389, 1422, 1465, 1498, 1541, 1574, 1623, 1636, 1659, 1682, 1705, 1748, 1781, 1804, 1847, 1880, 1903, 1966, 2009, 2083, 2136, 2159, 2182, 2205], 239, [2261, 272, 335, 358, 381, 414, 447, 470, 523, 592, 625, 658, 711, 774, 787, 856, 899, 922, 945, 988, 1011, 1070, 1103, 1156, 1179, 1202, 1225, 1258, 1291, 1314, 1337, 1350, 1373, 1422, 1455, 1498, 1531, 1574, 1607, 1656, 1669, 1692, 1715, 1738, 1781, 1814, 1837, 1880, 1913, 1936, 1999, 2042, 2116, 2169, 2192, 2215, 2238], [0, 1, 2, 3, 4, 5, 6, 7, 8, 9, 10, 11, 12, 13, 14, 15, 16, 17, 18, 19, 20, 21, 22, 23, 24, 25, 26, 27, 28, 29, 30, 31, 32, 33, 34, 35, 36, 37, 38, 39, 40, 41, 42, 43, 44, 45, 46, 47, 48, 49, 50, 51, 52, 53, 54, 55])]
def S_law_272 : List mI := [(.aload_n 1, 1, [1], []), (.aload_n 0, 1, [0], []), (.iload_n 3, 1, [3], []), (.iconst 1, 1, [], [1]), (.iadd, 1, [], []), (.iaload, 1, [1], []), (.aload_n 0, 1, [0], []), (.iload_n 3, 1, [3], []), (.iconst 2, 1, [], [2]), (.iadd, 1, [], []), (.iaload, 1, [1], []), (.aload_n 0, 1, [0], []), (.iload_n 3, 1, [3], []), (.iconst 3, 1, [], [3]), (.iadd, 1, [], []), (.iaload, 1, [1], []), (.aload_n 0, 1, [0], []), (.iload_n 3, 1, [3], []), (.iconst 4, 1, [], [4]), (.iadd, 1, [], []), (.iaload, 1, [1], []), (.aload_n 0, 1, [0], []), (.iload_n 3, 1, [3], []), (.iconst 5, 1, [], [5]), (.iadd, 1, [], []), (.iaload, 1, [1], []), (.invokevirtual 13, 3, [0, 147, 5, 11, 9], []), (.aload_n 2, 1, [2], []), (.aload_n 0, 1, [0], []), (.iload_n 3, 1, [3], []), (.iconst 1, 1, [], [1]), (.iadd, 1, [], []), (.iaload, 1, [1], []), (.aload_n 0, 1, [0], []), (.iload_n 3, 1, [3], []), (.iconst 2, 1, [], [2]), (.iadd, 1, [], []), (.iaload, 1, [1], []), (.aload_n 0, 1, [0], []), (.iload_n 3, 1, [3], []), (.iconst 3, 1, [], [3]), (.iadd, 1, [], []), (.iaload, 1, [1], []), (.aload_n 0, 1, [0], []), (.iload_n 3, 1, [3], []), (.iconst 4, 1, [], [4]), (.iadd, 1, [], []), (.iaload, 1, [1], []), (.aload_n 0, 1, [0], []), (.iload_n 3, 1, [3], []), (.iconst 5, 1, [], [5]), (.iadd, 1, [], []), (.iaload, 1, [1], []), (.invokevirtual 17, 3, [0, 228, 5, 12, 266], []), (.if_icmp .eq 1931, 3, [2261], []), (.iconst 0, 1, [], [0]), (.ireturn, 1, [], [])]
def S_law_335 : List mI := [(.aload_n 1, 1, [1], []), (.aload_n 0, 1, [0], []), (.iload_n 3, 1, [3], []), (.iconst 1, 1, [], [1]), (.iadd, 1, [], []), (.iaload, 1, [1], []), (.invokevirtual 18, 3, [0, 148, 1, 11, 12], []), (.aload_n 2, 1, [2], []), (.aload_n 0, 1, [0], []), (.iload_n 3, 1, [3], []), (.iconst 1, 1, [], [1]), (.iadd, 1, [], []), (.iaload, 1, [1], []), (.invokevirtual 22, 3, [0, 244, 1, 12, 268], []), (.if_icmp .eq 1908, 3, [2261], []), (.iconst 0, 1, [], [0]), (.ireturn, 1, [], [])]
def S_law_358 : List mI := [(.aload_n 1, 1, [1], []), (.aload_n 0, 1, [0], []), (.iload_n 3, 1, [3], []), (.iconst 1, 1, [], [1]), (.iadd, 1, [], []), (.iaload, 1, [1], []), (.invokevirtual 23, 3, [0, 149, 1, 11, 41], []), (.aload_n 2, 1, [2], []), (.aload_n 0, 1, [0], []), (.iload_n 3, 1, [3], []), (.iconst 1, 1, [], [1]), (.iadd, 1, [], []), (.iaload, 1, [1], []), (.invokevirtual 26, 3, [0, 245, 1, 12, 285], []), (.if_icmp .eq 1885, 3, [2261], []), (.iconst 0, 1, [], [0]), (.ireturn, 1, [], [])]
def S_law_381 : List mI := [(.aload_n 1, 1, [1], []), (.aload_n 0, 1, [0], []), (.iload_n 3, 1, [3], []), (.iconst 1, 1, [], [1]), (.iadd, 1, [], []), (.iaload, 1, [1], []), (.aload_n 0, 1, [0], []), (.iload_n 3, 1, [3], []), (.iconst 2, 1, [], [2]), (.iadd, 1, [], []), (.iaload, 1, [1], []), (.invokevirtual 27, 3, [0, 150, 2, 11, 42], []), (.aload_n 2, 1, [2], []), (.aload_n 0, 1, [0], []), (.iload_n 3, 1, [3], []), (.iconst 1, 1, [], [1]), (.iadd, 1, [], []), (.iaload, 1, [1], []), (.aload_n 0, 1, [0], []), (.iload_n 3, 1, [3], []), (.iconst 2, 1, [], [2]), (.iadd, 1, [], []), (.iaload, 1, [1], []), (.invokevirtual 31, 3, [0, 248, 2, 12, 286], []), (.if_icmp .eq 1852, 3, [2261], []), (.iconst 0, 1, [], [0]), (.ireturn, 1, [], [])]
def S_law_414 : List mI := [(.aload_n 1, 1, [1], []), (.aload_n 0, 1, [0], []), (.iload_n 3, 1, [3], []), (.iconst 1, 1, [], [1]), (.iadd, 1, [], []), (.iaload, 1, [1], []), (.aload_n 0, 1, [0], []), (.iload_n 3, 1, [3], []), (.iconst 2, 1, [], [2]), (.iadd, 1, [], []), (.iaload, 1, [1], []), (.invokevirtual 32, 3, [0, 151, 2, 11, 45], []), (.aload_n 2, 1, [2], []), (.aload_n 0, 1, [0], []), (.iload_n 3, 1, [3], []), (.iconst 1, 1, [], [1]), (.iadd, 1, [], []), (.iaload, 1, [1], []), (.aload_n 0, 1, [0], []), (.iload_n 3, 1, [3], []), (.iconst 2, 1, [], [2]), (.iadd, 1, [], []), (.iaload, 1, [1], []), (.invokevirtual 35, 3, [0, 250, 2, 12, 288], []), (.if_icmp .eq 1819, 3, [2261], []), (.iconst 0, 1, [], [0]), (.ireturn, 1, [], [])]
def S_law_447 : List mI := [(.aload_n 1, 1, [1], []), (.aload_n 0, 1, [0], []), (.iload_n 3, 1, [3], []), (.iconst 1, 1, [], [1]), (.iadd, 1, [], []), (.iaload, 1, [1], []), (.invokevirtual 36, 3, [0, 152, 1, 11, 52], []), (.aload_n 2, 1, [2], []), (.aload_n 0, 1, [0], []), (.iload_n 3, 1, [3], []), (.iconst 1, 1, [], [1]), (.iadd, 1, [], []), (.iaload, 1, [1], []), (.invokevirtual 39, 3, [0, 251, 1, 12, 291], []), (.if_icmp .eq 1796, 3, [2261], []), (.iconst 0, 1, [], [0]), (.ireturn, 1, [], [])]
def S_law_470 : List mI := [(.aload_n 1, 1, [1], []), (.aload_n 0, 1, [0], []), (.iload_n 3, 1, [3], []), (.iconst 1, 1, [], [1]), (.iadd, 1, [], []), (.iaload, 1, [1], []), (.aload_n 0, 1, [0], []), (.iload_n 3, 1, [3], []), (.iconst 2, 1, [], [2]), (.iadd, 1, [], []), (.iaload, 1, [1], []), (.aload_n 0, 1, [0], []), (.iload_n 3, 1, [3], []), (.iconst 3, 1, [], [3]), (.iadd, 1, [], []), (.iaload, 1, [1], []), (.aload_n 0, 1, [0], []), (.iload_n 3, 1, [3], []), (.iconst 4, 1, [], [4]), (.iadd, 1, [], []), (.iaload, 1, [1], []), (.invokevirtual 40, 3, [0, 153, 4, 11, 53], []), (.aload_n 2, 1, [2], []), (.aload_n 0, 1, [0], []), (.iload_n 3, 1, [3], []), (.iconst 1, 1, [], [1]), (.iadd, 1, [], []), (.iaload, 1, [1], []), (.aload_n 0, 1, [0], []), (.iload_n 3, 1, [3], []), (.iconst 2, 1, [], [2]), (.iadd, 1, [], []), (.iaload, 1, [1], []), (.aload_n 0, 1, [0], []), (.iload_n 3, 1, [3], []), (.iconst 3, 1, [], [3]), (.iadd, 1, [], []), (.iaload, 1, [1], []), (.aload_n 0, 1, [0], []), (.iload_n 3, 1, [3], []), (.iconst 4, 1, [], [4]), (.iadd, 1, [], []), (.iaload, 1, [1], []), (.invokevirtual 44, 3, [0, 264, 4, 12, 292], []), (.if_icmp .eq 1743, 3, [2261], []), (.iconst 0, 1, [], [0]), (.ireturn, 1, [], [])]
def S_law_523 : List mI := [(.aload_n 1, 1, [1], []), (.aload_n 0, 1, [0], []), (.iload_n 3, 1, [3], []), (.iconst 1, 1, [], [1]), (.iadd, 1, [], []), (.iaload, 1, [1], []), (.aload_n 0, 1, [0], []), (.iload_n 3, 1, [3], []), (.iconst 2, 1, [], [2]), (.iadd, 1, [], []), (.iaload, 1, [1], []), (.aload_n 0, 1, [0], []), (.iload_n 3, 1, [3], []), (.iconst 3, 1, [], [3]), (.iadd, 1, [], []), (.iaload, 1, [1], []), (.aload_n 0, 1, [0], []), (.iload_n 3, 1, [3], []), (.iconst 4, 1, [], [4]), (.iadd, 1, [], []), (.iaload, 1, [1], []), (.ifCond .eq 7, 3, [551], []), (.iconst 1, 1, [], [1]), (.goto 4, 3, [552], [])]
def S_law_552 : List mI := [(.invokevirtual 45, 3, [0, 154, 4, 11, 78], []), (.aload_n 2, 1, [2], []), (.aload_n 0, 1, [0], []), (.iload_n 3, 1, [3], []), (.iconst 1, 1, [], [1]), (.iadd, 1, [], []), (.iaload, 1, [1], []), (.aload_n 0, 1, [0], []), (.iload_n 3, 1, [3], []), (.iconst 2, 1, [], [2]), (.iadd, 1, [], []), (.iaload, 1, [1], []), (.aload_n 0, 1, [0], []), (.iload_n 3, 1, [3], []), (.iconst 3, 1, [], [3]), (.iadd, 1, [], []), (.iaload, 1, [1], []), (.aload_n 0, 1, [0], []), (.iload_n 3, 1, [3], []), (.iconst 4, 1, [], [4]), (.iadd, 1, [], []), (.iaload, 1, [1], []), (.ifCond .eq 7, 3, [583], []), (.iconst 1, 1, [], [1]), (.goto 4, 3, [584], [])]
def S_law_592 : List mI := [(.aload_n 1, 1, [1], []), (.aload_n 0, 1, [0], []), (.iload_n 3, 1, [3], []), (.iconst 1, 1, [], [1]), (.iadd, 1, [], []), (.iaload, 1, [1], []), (.aload_n 0, 1, [0], []), (.iload_n 3, 1, [3], []), (.iconst 2, 1, [], [2]), (.iadd, 1, [], []), (.iaload, 1, [1], []), (.invokevirtual 50, 3, [0, 155, 2, 11, 85], []), (.aload_n 2, 1, [2], []), (.aload_n 0, 1, [0], []), (.iload_n 3, 1, [3], []), (.iconst 1, 1, [], [1]), (.iadd, 1, [], []), (.iaload, 1, [1], []), (.aload_n 0, 1, [0], []), (.iload_n 3, 1, [3], []), (.iconst 2, 1, [], [2]), (.iadd, 1, [], []), (.iaload, 1, [1], []), (.invokevirtual 53, 3, [0, 269, 2, 12, 309], []), (.if_icmp .eq 1641, 3, [2261], []), (.iconst 0, 1, [], [0]), (.ireturn, 1, [], [])]
def S_law_625 : List mI := [(.aload_n 1, 1, [1], []), (.aload_n 0, 1, [0], []), (.iload_n 3, 1, [3], []), (.iconst 1, 1, [], [1]), (.iadd, 1, [], []), (.iaload, 1, [1], []), (.aload_n 0, 1, [0], []), (.iload_n 3, 1, [3], []), (.iconst 2, 1, [], [2]), (.iadd, 1, [], []), (.iaload, 1, [1], []), (.invokevirtual 54, 3, [0, 156, 2, 11, 88], []), (.aload_n 2, 1, [2], []), (.aload_n 0, 1, [0], []), (.iload_n 3, 1, [3], []), (.iconst 1, 1, [], [1]), (.iadd, 1, [], []), (.iaload, 1, [1], []), (.aload_n 0, 1, [0], []), (.iload_n 3, 1, [3], []), (.iconst 2, 1, [], [2]), (.iadd, 1, [], []), (.iaload, 1, [1], []), (.invokevirtual 57, 3, [0, 270, 2, 12, 310], []), (.if_icmp .eq 1608, 3, [2261], []), (.iconst 0, 1, [], [0]), (.ireturn, 1, [], [])]
def S_law_658 : List mI := [(.aload_n 1, 1, [1], []), (.aload_n 0, 1, [0], []), (.iload_n 3, 1, [3], []), (.iconst 1, 1, [], [1]), (.iadd, 1, [], []), (.iaload, 1, [1], []), (.aload_n 0, 1, [0], []), (.iload_n 3, 1, [3], []), (.iconst 2, 1, [], [2]), (.iadd, 1, [], []), (.iaload, 1, [1], []), (.aload_n 0, 1, [0], []), (.iload_n 3, 1, [3], []), (.iconst 3, 1, [], [3]), (.iadd, 1, [], []), (.iaload, 1, [1], []), (.aload_n 0, 1, [0], []), (.iload_n 3, 1, [3], []), (.iconst 4, 1, [], [4]), (.iadd, 1, [], []), (.iaload, 1, [1], []), (.invokevirtual 58, 3, [0, 157, 4, 11, 90], []), (.aload_n 2, 1, [2], []), (.aload_n 0, 1, [0], []), (.iload_n 3, 1, [3], []), (.iconst 1, 1, [], [1]), (.iadd, 1, [], []), (.iaload, 1, [1], []), (.aload_n 0, 1, [0], []), (.iload_n 3, 1, [3], []), (.iconst 2, 1, [], [2]), (.iadd, 1, [], []), (.iaload, 1, [1], []), (.aload_n 0, 1, [0], []), (.iload_n 3, 1, [3], []), (.iconst 3, 1, [], [3]), (.iadd, 1, [], []), (.iaload, 1, [1], []), (.aload_n 0, 1, [0], []), (.iload_n 3, 1, [3], []), (.iconst 4, 1, [], [4]), (.iadd, 1, [], []), (.iaload, 1, [1], []), (.invokevirtual 61, 3, [0, 272, 4, 12, 311], []), (.if_icmp .eq 1555, 3, [2261], []), (.iconst 0, 1, [], [0]), (.ireturn, 1, [], [])]
def S_law_711 : List mI := [(.aload_n 1, 1, [1], []), (.aload_n 0, 1, [0], []), (.iload_n 3, 1, [3], []), (.iconst 1, 1, [], [1]), (.iadd, 1, [], []), (.iaload, 1, [1], []), (.aload_n 0, 1, [0], []), (.iload_n 3, 1, [3], []), (.iconst 2, 1, [], [2]), (.iadd, 1, [], []), (.iaload, 1, [1], []), (.aload_n 0, 1, [0], []), (.iload_n 3, 1, [3], []), (.iconst 3, 1, [], [3]), (.iadd, 1, [], []), (.iaload, 1, [1], []), (.aload_n 0, 1, [0], []), (.iload_n 3, 1, [3], []), (.iconst 4, 1, [], [4]), (.iadd, 1, [], []), (.iaload, 1, [1], []), (.aload_n 0, 1, [0], []), (.iload_n 3, 1, [3], []), (.iconst 5, 1, [], [5]), (.iadd, 1, [], []), (.iaload, 1, [1], []), (.invokevirtual 62, 3, [0, 158, 5, 11, 95], []), (.aload_n 2, 1, [2], []), (.aload_n 0, 1, [0], []), (.iload_n 3, 1, [3], []), (.iconst 1, 1, [], [1]), (.iadd, 1, [], []), (.iaload, 1, [1], []), (.aload_n 0, 1, [0], []), (.iload_n 3, 1, [3], []), (.iconst 2, 1, [], [2]), (.iadd, 1, [], []), (.iaload, 1, [1], []), (.aload_n 0, 1, [0], []), (.iload_n 3, 1, [3], []), (.iconst 3, 1, [], [3]), (.iadd, 1, [], []), (.iaload, 1, [1], []), (.aload_n 0, 1, [0], []), (.iload_n 3, 1, [3], []), (.iconst 4, 1, [], [4]), (.iadd, 1, [], []), (.iaload, 1, [1], []), (.aload_n 0, 1, [0], []), (.iload_n 3, 1, [3], []), (.iconst 5, 1, [], [5]), (.iadd, 1, [], []), (.iaload, 1, [1], []), (.invokevirtual 65, 3, [0, 273, 5, 12, 313], []), (.if_icmp .eq 1492, 3, [2261], []), (.iconst 0, 1, [], [0]), (.ireturn, 1, [], [])]
def S_law_774 : List mI := [(.aload_n 1, 1, [1], []), (.invokevirtual 66, 3, [0, 159, 0, 11, 96], []), (.aload_n 2, 1, [2], []), (.invokevirtual 70, 3, [0, 274, 0, 12, 314], []), (.if_icmp .eq 1479, 3, [2261], []), (.iconst 0, 1, [], [0]), (.ireturn, 1, [], [])]
def S_law_787 : List mI := [(.aload_n 1, 1, [1], []), (.aload_n 0, 1, [0], []), (.iload_n 3, 1, [3], []), (.iconst 1, 1, [], [1]), (.iadd, 1, [], []), (.iaload, 1, [1], []), (.aload_n 0, 1, [0], []), (.iload_n 3, 1, [3], []), (.iconst 2, 1, [], [2]), (.iadd, 1, [], []), (.iaload, 1, [1], []), (.aload_n 0, 1, [0], []), (.iload_n 3, 1, [3], []), (.iconst 3, 1, [], [3]), (.iadd, 1, [], []), (.iaload, 1, [1], []), (.aload_n 0, 1, [0], []), (.iload_n 3, 1, [3], []), (.iconst 4, 1, [], [4]), (.iadd, 1, [], []), (.iaload, 1, [1], []), (.ifCond .eq 7, 3, [815], []), (.iconst 1, 1, [], [1]), (.goto 4, 3, [816], [])]
def S_law_816 : List mI := [(.invokevirtual 71, 3, [0, 160, 4, 11, 98], []), (.aload_n 2, 1, [2], []), (.aload_n 0, 1, [0], []), (.iload_n 3, 1, [3], []), (.iconst 1, 1, [], [1]), (.iadd, 1, [], []), (.iaload, 1, [1], []), (.aload_n 0, 1, [0], []), (.iload_n 3, 1, [3], []), (.iconst 2, 1, [], [2]), (.iadd, 1, [], []), (.iaload, 1, [1], []), (.aload_n 0, 1, [0], []), (.iload_n 3, 1, [3], []), (.iconst 3, 1, [], [3]), (.iadd, 1, [], []), (.iaload, 1, [1], []), (.aload_n 0, 1, [0], []), (.iload_n 3, 1, [3], []), (.iconst 4, 1, [], [4]), (.iadd, 1, [], []), (.iaload, 1, [1], []), (.ifCond .eq 7, 3, [847], []), (.iconst 1, 1, [], [1]), (.goto 4, 3, [848], [])]
def S_law_856 : List mI := [(.aload_n 1, 1, [1], []), (.aload_n 0, 1, [0], []), (.iload_n 3, 1, [3], []), (.iconst 1, 1, [], [1]), (.iadd, 1, [], []), (.iaload, 1, [1], []), (.aload_n 0, 1, [0], []), (.iload_n 3, 1, [3], []), (.iconst 2, 1, [], [2]), (.iadd, 1, [], []), (.iaload, 1, [1], []), (.aload_n 0, 1, [0], []), (.iload_n 3, 1, [3], []), (.iconst 3, 1, [], [3]), (.iadd, 1, [], []), (.iaload, 1, [1], []), (.invokevirtual 75, 3, [0, 161, 3, 11, 99], []), (.aload_n 2, 1, [2], []), (.aload_n 0, 1, [0], []), (.iload_n 3, 1, [3], []), (.iconst 1, 1, [], [1]), (.iadd, 1, [], []), (.iaload, 1, [1], []), (.aload_n 0, 1, [0], []), (.iload_n 3, 1, [3], []), (.iconst 2, 1, [], [2]), (.iadd, 1, [], []), (.iaload, 1, [1], []), (.aload_n 0, 1, [0], []), (.iload_n 3, 1, [3], []), (.iconst 3, 1, [], [3]), (.iadd, 1, [], []), (.iaload, 1, [1], []), (.invokevirtual 79, 3, [0, 276, 3, 12, 316], []), (.if_icmp .eq 1367, 3, [2261], []), (.iconst 0, 1, [], [0]), (.ireturn, 1, [], [])]
def S_law_899 : List mI := [(.aload_n 1, 1, [1], []), (.aload_n 0, 1, [0], []), (.iload_n 3, 1, [3], []), (.iconst 1, 1, [], [1]), (.iadd, 1, [], []), (.iaload, 1, [1], []), (.invokevirtual 80, 3, [0, 162, 1, 11, 103], []), (.aload_n 2, 1, [2], []), (.aload_n 0, 1, [0], []), (.iload_n 3, 1, [3], []), (.iconst 1, 1, [], [1]), (.iadd, 1, [], []), (.iaload, 1, [1], []), (.invokevirtual 83, 3, [0, 278, 1, 12, 317], []), (.if_icmp .eq 1344, 3, [2261], []), (.iconst 0, 1, [], [0]), (.ireturn, 1, [], [])]
def S_law_922 : List mI := [(.aload_n 1, 1, [1], []), (.aload_n 0, 1, [0], []), (.iload_n 3, 1, [3], []), (.iconst 1, 1, [], [1]), (.iadd, 1, [], []), (.iaload, 1, [1], []), (.invokevirtual 84, 3, [0, 163, 1, 11, 109], []), (.aload_n 2, 1, [2], []), (.aload_n 0, 1, [0], []), (.iload_n 3, 1, [3], []), (.iconst 1, 1, [], [1]), (.iadd, 1, [], []), (.iaload, 1, [1], []), (.invokevirtual 87, 3, [0, 279, 1, 12, 319], []), (.if_icmp .eq 1321, 3, [2261], []), (.iconst 0, 1, [], [0]), (.ireturn, 1, [], [])]
def S_law_945 : List mI := [(.aload_n 1, 1, [1], []), (.aload_n 0, 1, [0], []), (.iload_n 3, 1, [3], []), (.iconst 1, 1, [], [1]), (.iadd, 1, [], []), (.iaload, 1, [1], []), (.aload_n 0, 1, [0], []), (.iload_n 3, 1, [3], []), (.iconst 2, 1, [], [2]), (.iadd, 1, [], []), (.iaload, 1, [1], []), (.aload_n 0, 1, [0], []), (.iload_n 3, 1, [3], []), (.iconst 3, 1, [], [3]), (.iadd, 1, [], []), (.iaload, 1, [1], []), (.invokevirtual 88, 3, [0, 164, 3, 11, 112], []), (.aload_n 2, 1, [2], []), (.aload_n 0, 1, [0], []), (.iload_n 3, 1, [3], []), (.iconst 1, 1, [], [1]), (.iadd, 1, [], []), (.iaload, 1, [1], []), (.aload_n 0, 1, [0], []), (.iload_n 3, 1, [3], []), (.iconst 2, 1, [], [2]), (.iadd, 1, [], []), (.iaload, 1, [1], []), (.aload_n 0, 1, [0], []), (.iload_n 3, 1, [3], []), (.iconst 3, 1, [], [3]), (.iadd, 1, [], []), (.iaload, 1, [1], []), (.invokevirtual 91, 3, [0, 280, 3, 12, 320], []), (.if_icmp .eq 1278, 3, [2261], []), (.iconst 0, 1, [], [0]), (.ireturn, 1, [], [])]
def S_law_988 : List mI := [(.aload_n 1, 1, [1], []), (.aload_n 0, 1, [0], []), (.iload_n 3, 1, [3], []), (.iconst 1, 1, [], [1]), (.iadd, 1, [], []), (.iaload, 1, [1], []), (.invokevirtual 92, 3, [0, 165, 1, 11, 114], []), (.aload_n 2, 1, [2], []), (.aload_n 0, 1, [0], []), (.iload_n 3, 1, [3], []), (.iconst 1, 1, [], [1]), (.iadd, 1, [], []), (.iaload, 1, [1], []), (.invokevirtual 95, 3, [0, 282, 1, 12, 321], []), (.if_icmp .eq 1255, 3, [2261], []), (.iconst 0, 1, [], [0]), (.ireturn, 1, [], [])]
def S_law_1011 : List mI := [(.aload_n 1, 1, [1], []), (.aload_n 0, 1, [0], []), (.iload_n 3, 1, [3], []), (.iconst 1, 1, [], [1]), (.iadd, 1, [], []), (.iaload, 1, [1], []), (.aload_n 0, 1, [0], []), (.iload_n 3, 1, [3], []), (.iconst 2, 1, [], [2]), (.iadd, 1, [], []), (.iaload, 1, [1], []), (.aload_n 0, 1, [0], []), (.iload_n 3, 1, [3], []), (.iconst 3, 1, [], [3]), (.iadd, 1, [], []), (.iaload, 1, [1], []), (.ifCond .eq 7, 3, [1034], []), (.iconst 1, 1, [], [1]), (.goto 4, 3, [1035], [])]
def S_law_1035 : List mI := [(.invokevirtual 96, 3, [0, 166, 3, 11, 117], []), (.aload_n 2, 1, [2], []), (.aload_n 0, 1, [0], []), (.iload_n 3, 1, [3], []), (.iconst 1, 1, [], [1]), (.iadd, 1, [], []), (.iaload, 1, [1], []), (.aload_n 0, 1, [0], []), (.iload_n 3, 1, [3], []), (.iconst 2, 1, [], [2]), (.iadd, 1, [], []), (.iaload, 1, [1], []), (.aload_n 0, 1, [0], []), (.iload_n 3, 1, [3], []), (.iconst 3, 1, [], [3]), (.iadd, 1, [], []), (.iaload, 1, [1], []), (.ifCond .eq 7, 3, [1061], []), (.iconst 1, 1, [], [1]), (.goto 4, 3, [1062], [])]
def S_law_1070 : List mI := [(.aload_n 1, 1, [1], []), (.aload_n 0, 1, [0], []), (.iload_n 3, 1, [3], []), (.iconst 1, 1, [], [1]), (.iadd, 1, [], []), (.iaload, 1, [1], []), (.aload_n 0, 1, [0], []), (.iload_n 3, 1, [3], []), (.iconst 2, 1, [], [2]), (.iadd, 1, [], []), (.iaload, 1, [1], []), (.invokevirtual 101, 3, [0, 167, 2, 11, 121], []), (.aload_n 2, 1, [2], []), (.aload_n 0, 1, [0], []), (.iload_n 3, 1, [3], []), (.iconst 1, 1, [], [1]), (.iadd, 1, [], []), (.iaload, 1, [1], []), (.aload_n 0, 1, [0], []), (.iload_n 3, 1, [3], []), (.iconst 2, 1, [], [2]), (.iadd, 1, [], []), (.iaload, 1, [1], []), (.invokevirtual 104, 3, [0, 284, 2, 12, 324], []), (.if_icmp .eq 1163, 3, [2261], []), (.iconst 0, 1, [], [0]), (.ireturn, 1, [], [])]
def S_law_1103 : List mI := [(.aload_n 1, 1, [1], []), (.aload_n 0, 1, [0], []), (.iload_n 3, 1, [3], []), (.iconst 1, 1, [], [1]), (.iadd, 1, [], []), (.iaload, 1, [1], []), (.aload_n 0, 1, [0], []), (.iload_n 3, 1, [3], []), (.iconst 2, 1, [], [2]), (.iadd, 1, [], []), (.iaload, 1, [1], []), (.aload_n 0, 1, [0], []), (.iload_n 3, 1, [3], []), (.iconst 3, 1, [], [3]), (.iadd, 1, [], []), (.iaload, 1, [1], []), (.aload_n 0, 1, [0], []), (.iload_n 3, 1, [3], []), (.iconst 4, 1, [], [4]), (.iadd, 1, [], []), (.iaload, 1, [1], []), (.invokevirtual 105, 3, [0, 168, 4, 11, 125], []), (.aload_n 2, 1, [2], []), (.aload_n 0, 1, [0], []), (.iload_n 3, 1, [3], []), (.iconst 1, 1, [], [1]), (.iadd, 1, [], []), (.iaload, 1, [1], []), (.aload_n 0, 1, [0], []), (.iload_n 3, 1, [3], []), (.iconst 2, 1, [], [2]), (.iadd, 1, [], []), (.iaload, 1, [1], []), (.aload_n 0, 1, [0], []), (.iload_n 3, 1, [3], []), (.iconst 3, 1, [], [3]), (.iadd, 1, [], []), (.iaload, 1, [1], []), (.aload_n 0, 1, [0], []), (.iload_n 3, 1, [3], []), (.iconst 4, 1, [], [4]), (.iadd, 1, [], []), (.iaload, 1, [1], []), (.invokevirtual 108, 3, [0, 285, 4, 12, 325], []), (.if_icmp .eq 1110, 3, [2261], []), (.iconst 0, 1, [], [0]), (.ireturn, 1, [], [])]
def S_law_1156 : List mI := [(.aload_n 1, 1, [1], []), (.aload_n 0, 1, [0], []), (.iload_n 3, 1, [3], []), (.iconst 1, 1, [], [1]), (.iadd, 1, [], []), (.iaload, 1, [1], []), (.invokevirtual 109, 3, [0, 169, 1, 11, 128], []), (.aload_n 2, 1, [2], []), (.aload_n 0, 1, [0], []), (.iload_n 3, 1, [3], []), (.iconst 1, 1, [], [1]), (.iadd, 1, [], []), (.iaload, 1, [1], []), (.invokevirtual 112, 3, [0, 287, 1, 12, 326], []), (.if_icmp .eq 1087, 3, [2261], []), (.iconst 0, 1, [], [0]), (.ireturn, 1, [], [])]
def S_law_1179 : List mI := [(.aload_n 1, 1, [1], []), (.aload_n 0, 1, [0], []), (.iload_n 3, 1, [3], []), (.iconst 1, 1, [], [1]), (.iadd, 1, [], []), (.iaload, 1, [1], []), (.invokevirtual 113, 3, [0, 170, 1, 11, 135], []), (.aload_n 2, 1, [2], []), (.aload_n 0, 1, [0], []), (.iload_n 3, 1, [3], []), (.iconst 1, 1, [], [1]), (.iadd, 1, [], []), (.iaload, 1, [1], []), (.invokevirtual 116, 3, [0, 295, 1, 12, 329], []), (.if_icmp .eq 1064, 3, [2261], []), (.iconst 0, 1, [], [0]), (.ireturn, 1, [], [])]
def S_law_1202 : List mI := [(.aload_n 1, 1, [1], []), (.aload_n 0, 1, [0], []), (.iload_n 3, 1, [3], []), (.iconst 1, 1, [], [1]), (.iadd, 1, [], []), (.iaload, 1, [1], []), (.invokevirtual 117, 3, [0, 171, 1, 11, 147], []), (.aload_n 2, 1, [2], []), (.aload_n 0, 1, [0], []), (.iload_n 3, 1, [3], []), (.iconst 1, 1, [], [1]), (.iadd, 1, [], []), (.iaload, 1, [1], []), (.invokevirtual 120, 3, [0, 288, 1, 12, 328], []), (.if_icmp .eq 1041, 3, [2261], []), (.iconst 0, 1, [], [0]), (.ireturn, 1, [], [])]
def S_law_1225 : List mI := [(.aload_n 1, 1, [1], []), (.aload_n 0, 1, [0], []), (.iload_n 3, 1, [3], []), (.iconst 1, 1, [], [1]), (.iadd, 1, [], []), (.iaload, 1, [1], []), (.aload_n 0, 1, [0], []), (.iload_n 3, 1, [3], []), (.iconst 2, 1, [], [2]), (.iadd, 1, [], []), (.iaload, 1, [1], []), (.invokevirtual 121, 3, [0, 172, 2, 11, 148], []), (.aload_n 2, 1, [2], []), (.aload_n 0, 1, [0], []), (.iload_n 3, 1, [3], []), (.iconst 1, 1, [], [1]), (.iadd, 1, [], []), (.iaload, 1, [1], []), (.aload_n 0, 1, [0], []), (.iload_n 3, 1, [3], []), (.iconst 2, 1, [], [2]), (.iadd, 1, [], []), (.iaload, 1, [1], []), (.invokevirtual 124, 3, [0, 296, 2, 12, 335], []), (.if_icmp .eq 1008, 3, [2261], []), (.iconst 0, 1, [], [0]), (.ireturn, 1, [], [])]
def S_law_1258 : List mI := [(.aload_n 1, 1, [1], []), (.aload_n 0, 1, [0], []), (.iload_n 3, 1, [3], []), (.iconst 1, 1, [], [1]), (.iadd, 1, [], []), (.iaload, 1, [1], []), (.aload_n 0, 1, [0], []), (.iload_n 3, 1, [3], []), (.iconst 2, 1, [], [2]), (.iadd, 1, [], []), (.iaload, 1, [1], []), (.invokevirtual 125, 3, [0, 173, 2, 11, 153], []), (.aload_n 2, 1, [2], []), (.aload_n 0, 1, [0], []), (.iload_n 3, 1, [3], []), (.iconst 1, 1, [], [1]), (.iadd, 1, [], []), (.iaload, 1, [1], []), (.aload_n 0, 1, [0], []), (.iload_n 3, 1, [3], []), (.iconst 2, 1, [], [2]), (.iadd, 1, [], []), (.iaload, 1, [1], []), (.invokevirtual 128, 3, [0, 297, 2, 12, 337], []), (.if_icmp .eq 975, 3, [2261], []), (.iconst 0, 1, [], [0]), (.ireturn, 1, [], [])]
def S_law_1291 : List mI := [(.aload_n 1, 1, [1], []), (.aload_n 0, 1, [0], []), (.iload_n 3, 1, [3], []), (.iconst 1, 1, [], [1]), (.iadd, 1, [], []), (.iaload, 1, [1], []), (.invokevirtual 129, 3, [0, 174, 1, 11, 154], []), (.aload_n 2, 1, [2], []), (.aload_n 0, 1, [0], []), (.iload_n 3, 1, [3], []), (.iconst 1, 1, [], [1]), (.iadd, 1, [], []), (.iaload, 1, [1], []), (.invokevirtual 132, 3, [0, 299, 1, 12, 338], []), (.if_icmp .eq 952, 3, [2261], []), (.iconst 0, 1, [], [0]), (.ireturn, 1, [], [])]
def S_law_1314 : List mI := [(.aload_n 1, 1, [1], []), (.aload_n 0, 1, [0], []), (.iload_n 3, 1, [3], []), (.iconst 1, 1, [], [1]), (.iadd, 1, [], []), (.iaload, 1, [1], []), (.invokevirtual 133, 3, [0, 175, 1, 11, 157], []), (.aload_n 2, 1, [2], []), (.aload_n 0, 1, [0], []), (.iload_n 3, 1, [3], []), (.iconst 1, 1, [], [1]), (.iadd, 1, [], []), (.iaload, 1, [1], []), (.invokevirtual 136, 3, [0, 300, 1, 12, 340], []), (.if_icmp .eq 929, 3, [2261], []), (.iconst 0, 1, [], [0]), (.ireturn, 1, [], [])]
def S_law_1337 : List mI := [(.aload_n 1, 1, [1], []), (.invokevirtual 137, 3, [0, 176, 0, 11, 159], []), (.aload_n 2, 1, [2], []), (.invokevirtual 140, 3, [0, 301, 0, 12, 341], []), (.if_icmp .eq 916, 3, [2261], []), (.iconst 0, 1, [], [0]), (.ireturn, 1, [], [])]
def S_law_1350 : List mI := [(.aload_n 1, 1, [1], []), (.aload_n 0, 1, [0], []), (.iload_n 3, 1, [3], []), (.iconst 1, 1, [], [1]), (.iadd, 1, [], []), (.iaload, 1, [1], []), (.invokevirtual 141, 3, [0, 177, 1, 11, 160], []), (.aload_n 2, 1, [2], []), (.aload_n 0, 1, [0], []), (.iload_n 3, 1, [3], []), (.iconst 1, 1, [], [1]), (.iadd, 1, [], []), (.iaload, 1, [1], []), (.invokevirtual 144, 3, [0, 302, 1, 12, 342], []), (.if_icmp .eq 893, 3, [2261], []), (.iconst 0, 1, [], [0]), (.ireturn, 1, [], [])]
def S_law_1373 : List mI := [(.aload_n 1, 1, [1], []), (.aload_n 0, 1, [0], []), (.iload_n 3, 1, [3], []), (.iconst 1, 1, [], [1]), (.iadd, 1, [], []), (.iaload, 1, [1], []), (.aload_n 0, 1, [0], []), (.iload_n 3, 1, [3], []), (.iconst 2, 1, [], [2]), (.iadd, 1, [], []), (.iaload, 1, [1], []), (.ifCond .eq 7, 3, [1391], []), (.iconst 1, 1, [], [1]), (.goto 4, 3, [1392], [])]
def S_law_1392 : List mI := [(.invokevirtual 145, 3, [0, 178, 2, 11, 162], []), (.aload_n 2, 1, [2], []), (.aload_n 0, 1, [0], []), (.iload_n 3, 1, [3], []), (.iconst 1, 1, [], [1]), (.iadd, 1, [], []), (.iaload, 1, [1], []), (.aload_n 0, 1, [0], []), (.iload_n 3, 1, [3], []), (.iconst 2, 1, [], [2]), (.iadd, 1, [], []), (.iaload, 1, [1], []), (.ifCond .eq 7, 3, [1413], []), (.iconst 1, 1, [], [1]), (.goto 4, 3, [1414], [])]
def S_law_1422 : List mI := [(.aload_n 1, 1, [1], []), (.aload_n 0, 1, [0], []), (.iload_n 3, 1, [3], []), (.iconst 1, 1, [], [1]), (.iadd, 1, [], []), (.iaload, 1, [1], []), (.aload_n 0, 1, [0], []), (.iload_n 3, 1, [3], []), (.iconst 2, 1, [], [2]), (.iadd, 1, [], []), (.iaload, 1, [1], []), (.invokevirtual 150, 3, [0, 179, 2, 11, 166], []), (.aload_n 2, 1, [2], []), (.aload_n 0, 1, [0], []), (.iload_n 3, 1, [3], []), (.iconst 1, 1, [], [1]), (.iadd, 1, [], []), (.iaload, 1, [1], []), (.aload_n 0, 1, [0], []), (.iload_n 3, 1, [3], []), (.iconst 2, 1, [], [2]), (.iadd, 1, [], []), (.iaload, 1, [1], []), (.invokevirtual 153, 3, [0, 305, 2, 12, 345], []), (.if_icmp .eq 811, 3, [2261], []), (.iconst 0, 1, [], [0]), (.ireturn, 1, [], [])]
def S_law_1455 : List mI := [(.aload_n 1, 1, [1], []), (.aload_n 0, 1, [0], []), (.iload_n 3, 1, [3], []), (.iconst 1, 1, [], [1]), (.iadd, 1, [], []), (.iaload, 1, [1], []), (.aload_n 0, 1, [0], []), (.iload_n 3, 1, [3], []), (.iconst 2, 1, [], [2]), (.iadd, 1, [], []), (.iaload, 1, [1], []), (.aload_n 0, 1, [0], []), (.iload_n 3, 1, [3], []), (.iconst 3, 1, [], [3]), (.iadd, 1, [], []), (.iaload, 1, [1], []), (.invokevirtual 154, 3, [0, 180, 3, 11, 168], []), (.aload_n 2, 1, [2], []), (.aload_n 0, 1, [0], []), (.iload_n 3, 1, [3], []), (.iconst 1, 1, [], [1]), (.iadd, 1, [], []), (.iaload, 1, [1], []), (.aload_n 0, 1, [0], []), (.iload_n 3, 1, [3], []), (.iconst 2, 1, [], [2]), (.iadd, 1, [], []), (.iaload, 1, [1], []), (.aload_n 0, 1, [0], []), (.iload_n 3, 1, [3], []), (.iconst 3, 1, [], [3]), (.iadd, 1, [], []), (.iaload, 1, [1], []), (.invokevirtual 157, 3, [0, 307, 3, 12, 346], []), (.if_icmp .eq 768, 3, [2261], []), (.iconst 0, 1, [], [0]), (.ireturn, 1, [], [])]
def S_law_1498 : List mI := [(.aload_n 1, 1, [1], []), (.aload_n 0, 1, [0], []), (.iload_n 3, 1, [3], []), (.iconst 1, 1, [], [1]), (.iadd, 1, [], []), (.iaload, 1, [1], []), (.aload_n 0, 1, [0], []), (.iload_n 3, 1, [3], []), (.iconst 2, 1, [], [2]), (.iadd, 1, [], []), (.iaload, 1, [1], []), (.invokevirtual 158, 3, [0, 181, 2, 11, 176], []), (.aload_n 2, 1, [2], []), (.aload_n 0, 1, [0], []), (.iload_n 3, 1, [3], []), (.iconst 1, 1, [], [1]), (.iadd, 1, [], []), (.iaload, 1, [1], []), (.aload_n 0, 1, [0], []), (.iload_n 3, 1, [3], []), (.iconst 2, 1, [], [2]), (.iadd, 1, [], []), (.iaload, 1, [1], []), (.invokevirtual 161, 3, [0, 308, 2, 12, 348], []), (.if_icmp .eq 735, 3, [2261], []), (.iconst 0, 1, [], [0]), (.ireturn, 1, [], [])]
def S_law_1531 : List mI := [(.aload_n 1, 1, [1], []), (.aload_n 0, 1, [0], []), (.iload_n 3, 1, [3], []), (.iconst 1, 1, [], [1]), (.iadd, 1, [], []), (.iaload, 1, [1], []), (.aload_n 0, 1, [0], []), (.iload_n 3, 1, [3], []), (.iconst 2, 1, [], [2]), (.iadd, 1, [], []), (.iaload, 1, [1], []), (.aload_n 0, 1, [0], []), (.iload_n 3, 1, [3], []), (.iconst 3, 1, [], [3]), (.iadd, 1, [], []), (.iaload, 1, [1], []), (.invokevirtual 162, 3, [0, 182, 3, 11, 178], []), (.aload_n 2, 1, [2], []), (.aload_n 0, 1, [0], []), (.iload_n 3, 1, [3], []), (.iconst 1, 1, [], [1]), (.iadd, 1, [], []), (.iaload, 1, [1], []), (.aload_n 0, 1, [0], []), (.iload_n 3, 1, [3], []), (.iconst 2, 1, [], [2]), (.iadd, 1, [], []), (.iaload, 1, [1], []), (.aload_n 0, 1, [0], []), (.iload_n 3, 1, [3], []), (.iconst 3, 1, [], [3]), (.iadd, 1, [], []), (.iaload, 1, [1], []), (.invokevirtual 165, 3, [0, 309, 3, 12, 349], []), (.if_icmp .eq 692, 3, [2261], []), (.iconst 0, 1, [], [0]), (.ireturn, 1, [], [])]
def S_law_1574 : List mI := [(.aload_n 1, 1, [1], []), (.aload_n 0, 1, [0], []), (.iload_n 3, 1, [3], []), (.iconst 1, 1, [], [1]), (.iadd, 1, [], []), (.iaload, 1, [1], []), (.aload_n 0, 1, [0], []), (.iload_n 3, 1, [3], []), (.iconst 2, 1, [], [2]), (.iadd, 1, [], []), (.iaload, 1, [1], []), (.invokevirtual 166, 3, [0, 183, 2, 11, 185], []), (.aload_n 2, 1, [2], []), (.aload_n 0, 1, [0], []), (.iload_n 3, 1, [3], []), (.iconst 1, 1, [], [1]), (.iadd, 1, [], []), (.iaload, 1, [1], []), (.aload_n 0, 1, [0], []), (.iload_n 3, 1, [3], []), (.iconst 2, 1, [], [2]), (.iadd, 1, [], []), (.iaload, 1, [1], []), (.invokevirtual 169, 3, [0, 312, 2, 12, 350], []), (.if_icmp .eq 659, 3, [2261], []), (.iconst 0, 1, [], [0]), (.ireturn, 1, [], [])]
def S_law_1607 : List mI := [(.aload_n 1, 1, [1], []), (.aload_n 0, 1, [0], []), (.iload_n 3, 1, [3], []), (.iconst 1, 1, [], [1]), (.iadd, 1, [], []), (.iaload, 1, [1], []), (.aload_n 0, 1, [0], []), (.iload_n 3, 1, [3], []), (.iconst 2, 1, [], [2]), (.iadd, 1, [], []), (.iaload, 1, [1], []), (.ifCond .eq 7, 3, [1625], []), (.iconst 1, 1, [], [1]), (.goto 4, 3, [1626], [])]
def S_law_1626 : List mI := [(.invokevirtual 170, 3, [0, 184, 2, 11, 191], []), (.aload_n 2, 1, [2], []), (.aload_n 0, 1, [0], []), (.iload_n 3, 1, [3], []), (.iconst 1, 1, [], [1]), (.iadd, 1, [], []), (.iaload, 1, [1], []), (.aload_n 0, 1, [0], []), (.iload_n 3, 1, [3], []), (.iconst 2, 1, [], [2]), (.iadd, 1, [], []), (.iaload, 1, [1], []), (.ifCond .eq 7, 3, [1647], []), (.iconst 1, 1, [], [1]), (.goto 4, 3, [1648], [])]
def S_law_1656 : List mI := [(.aload_n 1, 1, [1], []), (.invokevirtual 174, 3, [0, 185, 0, 11, 194], []), (.aload_n 2, 1, [2], []), (.invokevirtual 177, 3, [0, 315, 0, 12, 355], []), (.if_icmp .eq 597, 3, [2261], []), (.iconst 0, 1, [], [0]), (.ireturn, 1, [], [])]
def S_law_1669 : List mI := [(.aload_n 1, 1, [1], []), (.aload_n 0, 1, [0], []), (.iload_n 3, 1, [3], []), (.iconst 1, 1, [], [1]), (.iadd, 1, [], []), (.iaload, 1, [1], []), (.invokevirtual 178, 3, [0, 186, 1, 11, 197], []), (.aload_n 2, 1, [2], []), (.aload_n 0, 1, [0], []), (.iload_n 3, 1, [3], []), (.iconst 1, 1, [], [1]), (.iadd, 1, [], []), (.iaload, 1, [1], []), (.invokevirtual 181, 3, [0, 317, 1, 12, 356], []), (.if_icmp .eq 574, 3, [2261], []), (.iconst 0, 1, [], [0]), (.ireturn, 1, [], [])]
def S_law_1692 : List mI := [(.aload_n 1, 1, [1], []), (.aload_n 0, 1, [0], []), (.iload_n 3, 1, [3], []), (.iconst 1, 1, [], [1]), (.iadd, 1, [], []), (.iaload, 1, [1], []), (.invokevirtual 182, 3, [0, 187, 1, 11, 202], []), (.aload_n 2, 1, [2], []), (.aload_n 0, 1, [0], []), (.iload_n 3, 1, [3], []), (.iconst 1, 1, [], [1]), (.iadd, 1, [], []), (.iaload, 1, [1], []), (.invokevirtual 185, 3, [0, 318, 1, 12, 358], []), (.if_icmp .eq 551, 3, [2261], []), (.iconst 0, 1, [], [0]), (.ireturn, 1, [], [])]
def S_law_1715 : List mI := [(.aload_n 1, 1, [1], []), (.aload_n 0, 1, [0], []), (.iload_n 3, 1, [3], []), (.iconst 1, 1, [], [1]), (.iadd, 1, [], []), (.iaload, 1, [1], []), (.invokevirtual 186, 3, [0, 188, 1, 11, 203], []), (.aload_n 2, 1, [2], []), (.aload_n 0, 1, [0], []), (.iload_n 3, 1, [3], []), (.iconst 1, 1, [], [1]), (.iadd, 1, [], []), (.iaload, 1, [1], []), (.invokevirtual 189, 3, [0, 320, 1, 12, 359], []), (.if_icmp .eq 528, 3, [2261], []), (.iconst 0, 1, [], [0]), (.ireturn, 1, [], [])]
def S_law_1738 : List mI := [(.aload_n 1, 1, [1], []), (.aload_n 0, 1, [0], []), (.iload_n 3, 1, [3], []), (.iconst 1, 1, [], [1]), (.iadd, 1, [], []), (.iaload, 1, [1], []), (.aload_n 0, 1, [0], []), (.iload_n 3, 1, [3], []), (.iconst 2, 1, [], [2]), (.iadd, 1, [], []), (.iaload, 1, [1], []), (.aload_n 0, 1, [0], []), (.iload_n 3, 1, [3], []), (.iconst 3, 1, [], [3]), (.iadd, 1, [], []), (.iaload, 1, [1], []), (.invokevirtual 190, 3, [0, 189, 3, 11, 205], []), (.aload_n 2, 1, [2], []), (.aload_n 0, 1, [0], []), (.iload_n 3, 1, [3], []), (.iconst 1, 1, [], [1]), (.iadd, 1, [], []), (.iaload, 1, [1], []), (.aload_n 0, 1, [0], []), (.iload_n 3, 1, [3], []), (.iconst 2, 1, [], [2]), (.iadd, 1, [], []), (.iaload, 1, [1], []), (.aload_n 0, 1, [0], []), (.iload_n 3, 1, [3], []), (.iconst 3, 1, [], [3]), (.iadd, 1, [], []), (.iaload, 1, [1], []), (.invokevirtual 193, 3, [0, 326, 3, 12, 361], []), (.if_icmp .eq 485, 3, [2261], []), (.iconst 0, 1, [], [0]), (.ireturn, 1, [], [])]
def S_law_1781 : List mI := [(.aload_n 1, 1, [1], []), (.aload_n 0, 1, [0], []), (.iload_n 3, 1, [3], []), (.iconst 1, 1, [], [1]), (.iadd, 1, [], []), (.iaload, 1, [1], []), (.aload_n 0, 1, [0], []), (.iload_n 3, 1, [3], []), (.iconst 2, 1, [], [2]), (.iadd, 1, [], []), (.iaload, 1, [1], []), (.invokevirtual 194, 3, [0, 190, 2, 11, 229], []), (.aload_n 2, 1, [2], []), (.aload_n 0, 1, [0], []), (.iload_n 3, 1, [3], []), (.iconst 1, 1, [], [1]), (.iadd, 1, [], []), (.iaload, 1, [1], []), (.aload_n 0, 1, [0], []), (.iload_n 3, 1, [3], []), (.iconst 2, 1, [], [2]), (.iadd, 1, [], []), (.iaload, 1, [1], []), (.invokevirtual 197, 3, [0, 327, 2, 12, 367], []), (.if_icmp .eq 452, 3, [2261], []), (.iconst 0, 1, [], [0]), (.ireturn, 1, [], [])]
def S_law_1814 : List mI := [(.aload_n 1, 1, [1], []), (.aload_n 0, 1, [0], []), (.iload_n 3, 1, [3], []), (.iconst 1, 1, [], [1]), (.iadd, 1, [], []), (.iaload, 1, [1], []), (.invokevirtual 198, 3, [0, 191, 1, 11, 231], []), (.aload_n 2, 1, [2], []), (.aload_n 0, 1, [0], []), (.iload_n 3, 1, [3], []), (.iconst 1, 1, [], [1]), (.iadd, 1, [], []), (.iaload, 1, [1], []), (.invokevirtual 201, 3, [0, 329, 1, 12, 368], []), (.if_icmp .eq 429, 3, [2261], []), (.iconst 0, 1, [], [0]), (.ireturn, 1, [], [])]
def S_law_1837 : List mI := [(.aload_n 1, 1, [1], []), (.aload_n 0, 1, [0], []), (.iload_n 3, 1, [3], []), (.iconst 1, 1, [], [1]), (.iadd, 1, [], []), (.iaload, 1, [1], []), (.aload_n 0, 1, [0], []), (.iload_n 3, 1, [3], []), (.iconst 2, 1, [], [2]), (.iadd, 1, [], []), (.iaload, 1, [1], []), (.aload_n 0, 1, [0], []), (.iload_n 3, 1, [3], []), (.iconst 3, 1, [], [3]), (.iadd, 1, [], []), (.iaload, 1, [1], []), (.invokevirtual 202, 3, [0, 192, 3, 11, 233], []), (.aload_n 2, 1, [2], []), (.aload_n 0, 1, [0], []), (.iload_n 3, 1, [3], []), (.iconst 1, 1, [], [1]), (.iadd, 1, [], []), (.iaload, 1, [1], []), (.aload_n 0, 1, [0], []), (.iload_n 3, 1, [3], []), (.iconst 2, 1, [], [2]), (.iadd, 1, [], []), (.iaload, 1, [1], []), (.aload_n 0, 1, [0], []), (.iload_n 3, 1, [3], []), (.iconst 3, 1, [], [3]), (.iadd, 1, [], []), (.iaload, 1, [1], []), (.invokevirtual 205, 3, [0, 330, 3, 12, 370], []), (.if_icmp .eq 386, 3, [2261], []), (.iconst 0, 1, [], [0]), (.ireturn, 1, [], [])]
def S_law_1880 : List mI := [(.aload_n 1, 1, [1], []), (.aload_n 0, 1, [0], []), (.iload_n 3, 1, [3], []), (.iconst 1, 1, [], [1]), (.iadd, 1, [], []), (.iaload, 1, [1], []), (.aload_n 0, 1, [0], []), (.iload_n 3, 1, [3], []), (.iconst 2, 1, [], [2]), (.iadd, 1, [], []), (.iaload, 1, [1], []), (.invokevirtual 206, 3, [0, 193, 2, 11, 237], []), (.aload_n 2, 1, [2], []), (.aload_n 0, 1, [0], []), (.iload_n 3, 1, [3], []), (.iconst 1, 1, [], [1]), (.iadd, 1, [], []), (.iaload, 1, [1], []), (.aload_n 0, 1, [0], []), (.iload_n 3, 1, [3], []), (.iconst 2, 1, [], [2]), (.iadd, 1, [], []), (.iaload, 1, [1], []), (.invokevirtual 209, 3, [0, 331, 2, 12, 371], []), (.if_icmp .eq 353, 3, [2261], []), (.iconst 0, 1, [], [0]), (.ireturn, 1, [], [])]
def S_law_1913 : List mI := [(.aload_n 1, 1, [1], []), (.aload_n 0, 1, [0], []), (.iload_n 3, 1, [3], []), (.iconst 1, 1, [], [1]), (.iadd, 1, [], []), (.iaload, 1, [1], []), (.invokevirtual 210, 3, [0, 194, 1, 11, 241], []), (.aload_n 2, 1, [2], []), (.aload_n 0, 1, [0], []), (.iload_n 3, 1, [3], []), (.iconst 1, 1, [], [1]), (.iadd, 1, [], []), (.iaload, 1, [1], []), (.invokevirtual 213, 3, [0, 334, 1, 12, 372], []), (.if_icmp .eq 330, 3, [2261], []), (.iconst 0, 1, [], [0]), (.ireturn, 1, [], [])]
def S_law_1936 : List mI := [(.aload_n 1, 1, [1], []), (.aload_n 0, 1, [0], []), (.iload_n 3, 1, [3], []), (.iconst 1, 1, [], [1]), (.iadd, 1, [], []), (.iaload, 1, [1], []), (.aload_n 0, 1, [0], []), (.iload_n 3, 1, [3], []), (.iconst 2, 1, [], [2]), (.iadd, 1, [], []), (.iaload, 1, [1], []), (.aload_n 0, 1, [0], []), (.iload_n 3, 1, [3], []), (.iconst 3, 1, [], [3]), (.iadd, 1, [], []), (.iaload, 1, [1], []), (.aload_n 0, 1, [0], []), (.iload_n 3, 1, [3], []), (.iconst 4, 1, [], [4]), (.iadd, 1, [], []), (.iaload, 1, [1], []), (.aload_n 0, 1, [0], []), (.iload_n 3, 1, [3], []), (.iconst 5, 1, [], [5]), (.iadd, 1, [], []), (.iaload, 1, [1], []), (.invokevirtual 214, 3, [0, 195, 5, 11, 248], []), (.aload_n 2, 1, [2], []), (.aload_n 0, 1, [0], []), (.iload_n 3, 1, [3], []), (.iconst 1, 1, [], [1]), (.iadd, 1, [], []), (.iaload, 1, [1], []), (.aload_n 0, 1, [0], []), (.iload_n 3, 1, [3], []), (.iconst 2, 1, [], [2]), (.iadd, 1, [], []), (.iaload, 1, [1], []), (.aload_n 0, 1, [0], []), (.iload_n 3, 1, [3], []), (.iconst 3, 1, [], [3]), (.iadd, 1, [], []), (.iaload, 1, [1], []), (.aload_n 0, 1, [0], []), (.iload_n 3, 1, [3], []), (.iconst 4, 1, [], [4]), (.iadd, 1, [], []), (.iaload, 1, [1], []), (.aload_n 0, 1, [0], []), (.iload_n 3, 1, [3], []), (.iconst 5, 1, [], [5]), (.iadd, 1, [], []), (.iaload, 1, [1], []), (.invokevirtual 217, 3, [0, 336, 5, 12, 375], []), (.if_icmp .eq 267, 3, [2261], []), (.iconst 0, 1, [], [0]), (.ireturn, 1, [], [])]
def S_law_1999 : List mI := [(.aload_n 1, 1, [1], []), (.aload_n 0, 1, [0], []), (.iload_n 3, 1, [3], []), (.iconst 1, 1, [], [1]), (.iadd, 1, [], []), (.iaload, 1, [1], []), (.aload_n 0, 1, [0], []), (.iload_n 3, 1, [3], []), (.iconst 2, 1, [], [2]), (.iadd, 1, [], []), (.iaload, 1, [1], []), (.aload_n 0, 1, [0], []), (.iload_n 3, 1, [3], []), (.iconst 3, 1, [], [3]), (.iadd, 1, [], []), (.iaload, 1, [1], []), (.invokevirtual 218, 3, [0, 196, 3, 11, 250], []), (.aload_n 2, 1, [2], []), (.aload_n 0, 1, [0], []), (.iload_n 3, 1, [3], []), (.iconst 1, 1, [], [1]), (.iadd, 1, [], []), (.iaload, 1, [1], []), (.aload_n 0, 1, [0], []), (.iload_n 3, 1, [3], []), (.iconst 2, 1, [], [2]), (.iadd, 1, [], []), (.iaload, 1, [1], []), (.aload_n 0, 1, [0], []), (.iload_n 3, 1, [3], []), (.iconst 3, 1, [], [3]), (.iadd, 1, [], []), (.iaload, 1, [1], []), (.invokevirtual 221, 3, [0, 338, 3, 12, 377], []), (.if_icmp .eq 224, 3, [2261], []), (.iconst 0, 1, [], [0]), (.ireturn, 1, [], [])]
def S_law_2042 : List mI := [(.aload_n 1, 1, [1], []), (.aload_n 0, 1, [0], []), (.iload_n 3, 1, [3], []), (.iconst 1, 1, [], [1]), (.iadd, 1, [], []), (.iaload, 1, [1], []), (.aload_n 0, 1, [0], []), (.iload_n 3, 1, [3], []), (.iconst 2, 1, [], [2]), (.iadd, 1, [], []), (.iaload, 1, [1], []), (.aload_n 0, 1, [0], []), (.iload_n 3, 1, [3], []), (.iconst 3, 1, [], [3]), (.iadd, 1, [], []), (.iaload, 1, [1], []), (.i2l, 1, [], []), (.bipush 32, 2, [], [32]), (.lshl, 1, [], []), (.aload_n 0, 1, [0], []), (.iload_n 3, 1, [3], []), (.iconst 4, 1, [], [4]), (.iadd, 1, [], []), (.iaload, 1, [1], []), (.i2l, 1, [], []), (.ldc2_w 222, 3, [25], [4294967295]), (.land, 1, [], []), (.lor, 1, [], []), (.invokevirtual 224, 3, [0, 197, 3, 11, 253], []), (.aload_n 2, 1, [2], []), (.aload_n 0, 1, [0], []), (.iload_n 3, 1, [3], []), (.iconst 1, 1, [], [1]), (.iadd, 1, [], []), (.iaload, 1, [1], []), (.aload_n 0, 1, [0], []), (.iload_n 3, 1, [3], []), (.iconst 2, 1, [], [2]), (.iadd, 1, [], []), (.iaload, 1, [1], []), (.aload_n 0, 1, [0], []), (.iload_n 3, 1, [3], []), (.iconst 3, 1, [], [3]), (.iadd, 1, [], []), (.iaload, 1, [1], []), (.i2l, 1, [], []), (.bipush 32, 2, [], [32]), (.lshl, 1, [], []), (.aload_n 0, 1, [0], []), (.iload_n 3, 1, [3], []), (.iconst 4, 1, [], [4]), (.iadd, 1, [], []), (.iaload, 1, [1], []), (.i2l, 1, [], []), (.ldc2_w 222, 3, [25], [4294967295]), (.land, 1, [], []), (.lor, 1, [], []), (.invokevirtual 228, 3, [0, 339, 3, 12, 378], []), (.lcmp, 1, [], []), (.ifCond .eq 150, 3, [2261], []), (.iconst 0, 1, [], [0]), (.ireturn, 1, [], [])]
def S_law_2116 : List mI := [(.aload_n 1, 1, [1], []), (.aload_n 0, 1, [0], []), (.iload_n 3, 1, [3], []), (.iconst 1, 1, [], [1]), (.iadd, 1, [], []), (.iaload, 1, [1], []), (.aload_n 0, 1, [0], []), (.iload_n 3, 1, [3], []), (.iconst 2, 1, [], [2]), (.iadd, 1, [], []), (.iaload, 1, [1], []), (.aload_n 0, 1, [0], []), (.iload_n 3, 1, [3], []), (.iconst 3, 1, [], [3]), (.iadd, 1, [], []), (.iaload, 1, [1], []), (.aload_n 0, 1, [0], []), (.iload_n 3, 1, [3], []), (.iconst 4, 1, [], [4]), (.iadd, 1, [], []), (.iaload, 1, [1], []), (.invokevirtual 229, 3, [0, 198, 4, 11, 256], []), (.aload_n 2, 1, [2], []), (.aload_n 0, 1, [0], []), (.iload_n 3, 1, [3], []), (.iconst 1, 1, [], [1]), (.iadd, 1, [], []), (.iaload, 1, [1], []), (.aload_n 0, 1, [0], []), (.iload_n 3, 1, [3], []), (.iconst 2, 1, [], [2]), (.iadd, 1, [], []), (.iaload, 1, [1], []), (.aload_n 0, 1, [0], []), (.iload_n 3, 1, [3], []), (.iconst 3, 1, [], [3]), (.iadd, 1, [], []), (.iaload, 1, [1], []), (.aload_n 0, 1, [0], []), (.iload_n 3, 1, [3], []), (.iconst 4, 1, [], [4]), (.iadd, 1, [], []), (.iaload, 1, [1], []), (.invokevirtual 232, 3, [0, 340, 4, 12, 380], []), (.if_icmp .eq 97, 3, [2261], []), (.iconst 0, 1, [], [0]), (.ireturn, 1, [], [])]
def S_law_2169 : List mI := [(.aload_n 1, 1, [1], []), (.aload_n 0, 1, [0], []), (.iload_n 3, 1, [3], []), (.iconst 1, 1, [], [1]), (.iadd, 1, [], []), (.iaload, 1, [1], []), (.invokevirtual 233, 3, [0, 199, 1, 11, 258], []), (.aload_n 2, 1, [2], []), (.aload_n 0, 1, [0], []), (.iload_n 3, 1, [3], []), (.iconst 1, 1, [], [1]), (.iadd, 1, [], []), (.iaload, 1, [1], []), (.invokevirtual 236, 3, [0, 341, 1, 12, 381], []), (.if_icmp .eq 74, 3, [2261], []), (.iconst 0, 1, [], [0]), (.ireturn, 1, [], [])]
def S_law_2192 : List mI := [(.aload_n 1, 1, [1], []), (.aload_n 0, 1, [0], []), (.iload_n 3, 1, [3], []), (.iconst 1, 1, [], [1]), (.iadd, 1, [], []), (.iaload, 1, [1], []), (.invokevirtual 237, 3, [0, 200, 1, 11, 261], []), (.aload_n 2, 1, [2], []), (.aload_n 0, 1, [0], []), (.iload_n 3, 1, [3], []), (.iconst 1, 1, [], [1]), (.iadd, 1, [], []), (.iaload, 1, [1], []), (.invokevirtual 240, 3, [0, 342, 1, 12, 382], []), (.if_icmp .eq 51, 3, [2261], []), (.iconst 0, 1, [], [0]), (.ireturn, 1, [], [])]
def S_law_2215 : List mI := [(.aload_n 1, 1, [1], []), (.aload_n 0, 1, [0], []), (.iload_n 3, 1, [3], []), (.iconst 1, 1, [], [1]), (.iadd, 1, [], []), (.iaload, 1, [1], []), (.invokevirtual 241, 3, [0, 201, 1, 11, 262], []), (.aload_n 2, 1, [2], []), (.aload_n 0, 1, [0], []), (.iload_n 3, 1, [3], []), (.iconst 1, 1, [], [1]), (.iadd, 1, [], []), (.iaload, 1, [1], []), (.invokevirtual 244, 3, [0, 343, 1, 12, 383], []), (.if_icmp .eq 28, 3, [2261], []), (.iconst 0, 1, [], [0]), (.ireturn, 1, [], [])]
def S_law_2238 : List mI := [(.aload_n 1, 1, [1], []), (.aload_n 0, 1, [0], []), (.iload_n 3, 1, [3], []), (.iconst 1, 1, [], [1]), (.iadd, 1, [], []), (.iaload, 1, [1], []), (.invokevirtual 245, 3, [0, 202, 1, 11, 263], []), (.aload_n 2, 1, [2], []), (.aload_n 0, 1, [0], []), (.iload_n 3, 1, [3], []), (.iconst 1, 1, [], [1]), (.iadd, 1, [], []), (.iaload, 1, [1], []), (.invokevirtual 248, 3, [0, 344, 1, 12, 384], []), (.if_icmp .eq 5, 3, [2261], []), (.iconst 0, 1, [], [0]), (.ireturn, 1, [], [])]
def S_law_2261 : List mI := [(.iinc 3 6, 3, [3], [6]), (.goto (-2246), 3, [18], [])]
theorem lb_law : B_law.all (fun b => lst y_law.2.1 13 y_law.2.2.1 false b.1 b.2) = true := by decide +kernel
theorem ls_law_0 : lst y_law.2.1 13 y_law.2.2.1 false 0 S_law_0 = true := by decide +kernel
theorem ls_law_18 : lst y_law.2.1 13 y_law.2.2.1 false 18 S_law_18 = true := by decide +kernel
theorem ls_law_272 : lst y_law.2.1 13 y_law.2.2.1 false 272 S_law_272 = true := by decide +kernel
theorem ls_law_335 : lst y_law.2.1 13 y_law.2.2.1 false 335 S_law_335 = true := by decide +kernel
theorem ls_law_358 : lst y_law.2.1 13 y_law.2.2.1 false 358 S_law_358 = true := by decide +kernel
theorem ls_law_381 : lst y_law.2.1 13 y_law.2.2.1 false 381 S_law_381 = true := by decide +kernel
theorem ls_law_414 : lst y_law.2.1 13 y_law.2.2.1 false 414 S_law_414 = true := by decide +kernel
theorem ls_law_447 : lst y_law.2.1 13 y_law.2.2.1 false 447 S_law_447 = true := by decide +kernel
theorem ls_law_470 : lst y_law.2.1 13 y_law.2.2.1 false 470 S_law_470 = true := by decide +kernel
theorem ls_law_523 : lst y_law.2.1 13 y_law.2.2.1 false 523 S_law_523 = true := by decide +kernel
theorem ls_law_552 : lst y_law.2.1 13 y_law.2.2.1 false 552 S_law_552 = true := by decide +kernel
theorem ls_law_592 : lst y_law.2.1 13 y_law.2.2.1 false 592 S_law_592 = true := by decide +kernel
theorem ls_law_625 : lst y_law.2.1 13 y_law.2.2.1 false 625 S_law_625 = true := by decide +kernel
theorem ls_law_658 : lst y_law.2.1 13 y_law.2.2.1 false 658 S_law_658 = true := by decide +kernel
theorem ls_law_711 : lst y_law.2.1 13 y_law.2.2.1 false 711 S_law_711 = true := by decide +kernel
theorem ls_law_774 : lst y_law.2.1 13 y_law.2.2.1 false 774 S_law_774 = true := by decide +kernel
theorem ls_law_787 : lst y_law.2.1 13 y_law.2.2.1 false 787 S_law_787 = true := by decide +kernel
theorem ls_law_816 : lst y_law.2.1 13 y_law.2.2.1 false 816 S_law_816 = true := by decide +kernel
theorem ls_law_856 : lst y_law.2.1 13 y_law.2.2.1 false 856 S_law_856 = true := by decide +kernel
theorem ls_law_899 : lst y_law.2.1 13 y_law.2.2.1 false 899 S_law_899 = true := by decide +kernel
theorem ls_law_922 : lst y_law.2.1 13 y_law.2.2.1 false 922 S_law_922 = true := by decide +kernel
theorem ls_law_945 : lst y_law.2.1 13 y_law.2.2.1 false 945 S_law_945 = true := by decide +kernel
theorem ls_law_988 : lst y_law.2.1 13 y_law.2.2.1 false 988 S_law_988 = true := by decide +kernel
theorem ls_law_1011 : lst y_law.2.1 13 y_law.2.2.1 false 1011 S_law_1011 = true := by decide +kernel
theorem ls_law_1035 : lst y_law.2.1 13 y_law.2.2.1 false 1035 S_law_1035 = true := by decide +kernel
theorem ls_law_1070 : lst y_law.2.1 13 y_law.2.2.1 false 1070 S_law_1070 = true := by decide +kernel
theorem ls_law_1103 : lst y_law.2.1 13 y_law.2.2.1 false 1103 S_law_1103 = true := by decide +kernel
theorem ls_law_1156 : lst y_law.2.1 13 y_law.2.2.1 false 1156 S_law_1156 = true := by decide +kernel
theorem ls_law_1179 : lst y_law.2.1 13 y_law.2.2.1 false 1179 S_law_1179 = true := by decide +kernel
theorem ls_law_1202 : lst y_law.2.1 13 y_law.2.2.1 false 1202 S_law_1202 = true := by decide +kernel
theorem ls_law_1225 : lst y_law.2.1 13 y_law.2.2.1 false 1225 S_law_1225 = true := by decide +kernel
theorem ls_law_1258 : lst y_law.2.1 13 y_law.2.2.1 false 1258 S_law_1258 = true := by decide +kernel
theorem ls_law_1291 : lst y_law.2.1 13 y_law.2.2.1 false 1291 S_law_1291 = true := by decide +kernel
theorem ls_law_1314 : lst y_law.2.1 13 y_law.2.2.1 false 1314 S_law_1314 = true := by decide +kernel
theorem ls_law_1337 : lst y_law.2.1 13 y_law.2.2.1 false 1337 S_law_1337 = true := by decide +kernel
theorem ls_law_1350 : lst y_law.2.1 13 y_law.2.2.1 false 1350 S_law_1350 = true := by decide +kernel
theorem ls_law_1373 : lst y_law.2.1 13 y_law.2.2.1 false 1373 S_law_1373 = true := by decide +kernel
theorem ls_law_1392 : lst y_law.2.1 13 y_law.2.2.1 false 1392 S_law_1392 = true := by decide +kernel
theorem ls_law_1422 : lst y_law.2.1 13 y_law.2.2.1 false 1422 S_law_1422 = true := by decide +kernel
theorem ls_law_1455 : lst y_law.2.1 13 y_law.2.2.1 false 1455 S_law_1455 = true := by decide +kernel
theorem ls_law_1498 : lst y_law.2.1 13 y_law.2.2.1 false 1498 S_law_1498 = true := by decide +kernel
theorem ls_law_1531 : lst y_law.2.1 13 y_law.2.2.1 false 1531 S_law_1531 = true := by decide +kernel
theorem ls_law_1574 : lst y_law.2.1 13 y_law.2.2.1 false 1574 S_law_1574 = true := by decide +kernel
theorem ls_law_1607 : lst y_law.2.1 13 y_law.2.2.1 false 1607 S_law_1607 = true := by decide +kernel
theorem ls_law_1626 : lst y_law.2.1 13 y_law.2.2.1 false 1626 S_law_1626 = true := by decide +kernel
theorem ls_law_1656 : lst y_law.2.1 13 y_law.2.2.1 false 1656 S_law_1656 = true := by decide +kernel
theorem ls_law_1669 : lst y_law.2.1 13 y_law.2.2.1 false 1669 S_law_1669 = true := by decide +kernel
theorem ls_law_1692 : lst y_law.2.1 13 y_law.2.2.1 false 1692 S_law_1692 = true := by decide +kernel
theorem ls_law_1715 : lst y_law.2.1 13 y_law.2.2.1 false 1715 S_law_1715 = true := by decide +kernel
theorem ls_law_1738 : lst y_law.2.1 13 y_law.2.2.1 false 1738 S_law_1738 = true := by decide +kernel
theorem ls_law_1781 : lst y_law.2.1 13 y_law.2.2.1 false 1781 S_law_1781 = true := by decide +kernel
theorem ls_law_1814 : lst y_law.2.1 13 y_law.2.2.1 false 1814 S_law_1814 = true := by decide +kernel
theorem ls_law_1837 : lst y_law.2.1 13 y_law.2.2.1 false 1837 S_law_1837 = true := by decide +kernel
theorem ls_law_1880 : lst y_law.2.1 13 y_law.2.2.1 false 1880 S_law_1880 = true := by decide +kernel
theorem ls_law_1913 : lst y_law.2.1 13 y_law.2.2.1 false 1913 S_law_1913 = true := by decide +kernel
theorem ls_law_1936 : lst y_law.2.1 13 y_law.2.2.1 false 1936 S_law_1936 = true := by decide +kernel
theorem ls_law_1999 : lst y_law.2.1 13 y_law.2.2.1 false 1999 S_law_1999 = true := by decide +kernel
theorem ls_law_2042 : lst y_law.2.1 13 y_law.2.2.1 false 2042 S_law_2042 = true := by decide +kernel
theorem ls_law_2116 : lst y_law.2.1 13 y_law.2.2.1 false 2116 S_law_2116 = true := by decide +kernel
theorem ls_law_2169 : lst y_law.2.1 13 y_law.2.2.1 false 2169 S_law_2169 = true := by decide +kernel
theorem ls_law_2192 : lst y_law.2.1 13 y_law.2.2.1 false 2192 S_law_2192 = true := by decide +kernel
theorem ls_law_2215 : lst y_law.2.1 13 y_law.2.2.1 false 2215 S_law_2215 = true := by decide +kernel
theorem ls_law_2238 : lst y_law.2.1 13 y_law.2.2.1 false 2238 S_law_2238 = true := by decide +kernel
theorem ls_law_2261 : lst y_law.2.1 13 y_law.2.2.1 false 2261 S_law_2261 = true := by decide +kernel
def C_law_0 (N : Nat) : Nat → List Value → mH → (Option Value → mH → Option (Int32 × mH)) → Option (Int32 × mH) := fun j as g k => kb j 146 (pr1 as fun b0 as => pe as ((f_X11_init N b0 g).bind fun p => k none p)) (kb j 226 (pr1 as fun b0 as => pe as ((f_X12_init N b0 g).bind fun p => k none p)) (none))
theorem co_law_0 (N : Nat) (q : Int32 × mH) : clOK 28 q (C_law_0 N) := by
  intro j as g k e
  rcases kb_s e with ⟨rfl, e⟩ | e
  · obtain ⟨b0, r0, q0, f0⟩ := pr1_s e
    obtain ⟨qe, fe⟩ := pe_s f0
    obtain ⟨p, e1, e2⟩ := bnd_s fe
    subst qe
    subst q0
    exact ⟨_, _, _, _, 7, rfl, (by decide), m_X11_init N e1, e2⟩
  rcases kb_s e with ⟨rfl, e⟩ | e
  · obtain ⟨b0, r0, q0, f0⟩ := pr1_s e
    obtain ⟨qe, fe⟩ := pe_s f0
    obtain ⟨p, e1, e2⟩ := bnd_s fe
    subst qe
    subst q0
    exact ⟨_, _, _, _, 5, rfl, (by decide), m_X12_init N e1, e2⟩
  cases e
def C_law_18 (N : Nat) : Nat → List Value → mH → (Option Value → mH → Option (Int32 × mH)) → Option (Int32 × mH) := fun j as g k => none
theorem co_law_18 (N : Nat) (q : Int32 × mH) : clOK 28 q (C_law_18 N) := by
  intro j as g k e
  cases e
def C_law_272 (N : Nat) : Nat → List Value → mH → (Option Value → mH → Option (Int32 × mH)) → Option (Int32 × mH) := fun j as g k => kb j 147 (pr1 as fun b0 as => pp1 as fun b1 as => pp1 as fun b2 as => pp1 as fun b3 as => pp1 as fun b4 as => pp1 as fun b5 as => pe as ((f_X11_feed N b0 b1 b2 b3 b4 b5 g).bind fun p => k (some (.int p.1)) p.2)) (kb j 228 (pr1 as fun b0 as => pp1 as fun b1 as => pp1 as fun b2 as => pp1 as fun b3 as => pp1 as fun b4 as => pp1 as fun b5 as => pe as ((f_X12_feed N b0 b1 b2 b3 b4 b5 g).bind fun p => k (some (.int p.1)) p.2)) (none))
theorem co_law_272 (N : Nat) (q : Int32 × mH) : clOK 28 q (C_law_272 N) := by
  intro j as g k e
  rcases kb_s e with ⟨rfl, e⟩ | e
  · obtain ⟨b0, r0, q0, f0⟩ := pr1_s e
    obtain ⟨b1, r1, q1, f1⟩ := pp1_s f0
    obtain ⟨b2, r2, q2, f2⟩ := pp1_s f1
    obtain ⟨b3, r3, q3, f3⟩ := pp1_s f2
    obtain ⟨b4, r4, q4, f4⟩ := pp1_s f3
    obtain ⟨b5, r5, q5, f5⟩ := pp1_s f4
    obtain ⟨qe, fe⟩ := pe_s f5
    obtain ⟨p, e1, e2⟩ := bnd_s fe
    subst qe
    subst q5
    subst q4
    subst q3
    subst q2
    subst q1
    subst q0
    exact ⟨_, _, _, _, 5, rfl, (by decide), m_X11_feed N e1, e2⟩
  rcases kb_s e with ⟨rfl, e⟩ | e
  · obtain ⟨b0, r0, q0, f0⟩ := pr1_s e
    obtain ⟨b1, r1, q1, f1⟩ := pp1_s f0
    obtain ⟨b2, r2, q2, f2⟩ := pp1_s f1
    obtain ⟨b3, r3, q3, f3⟩ := pp1_s f2
    obtain ⟨b4, r4, q4, f4⟩ := pp1_s f3
    obtain ⟨b5, r5, q5, f5⟩ := pp1_s f4
    obtain ⟨qe, fe⟩ := pe_s f5
    obtain ⟨p, e1, e2⟩ := bnd_s fe
    subst qe
    subst q5
    subst q4
    subst q3
    subst q2
    subst q1
    subst q0
    exact ⟨_, _, _, _, 5, rfl, (by decide), m_X12_feed N e1, e2⟩
  cases e
def C_law_335 (N : Nat) : Nat → List Value → mH → (Option Value → mH → Option (Int32 × mH)) → Option (Int32 × mH) := fun j as g k => kb j 148 (pr1 as fun b0 as => pp1 as fun b1 as => pe as ((f_X11_basket N b0 b1 g).bind fun p => k (some (.int p.1)) p.2)) (kb j 244 (pr1 as fun b0 as => pp1 as fun b1 as => pe as ((f_X12_basket N b0 b1 g).bind fun p => k (some (.int p.1)) p.2)) (none))
theorem co_law_335 (N : Nat) (q : Int32 × mH) : clOK 28 q (C_law_335 N) := by
  intro j as g k e
  rcases kb_s e with ⟨rfl, e⟩ | e
  · obtain ⟨b0, r0, q0, f0⟩ := pr1_s e
    obtain ⟨b1, r1, q1, f1⟩ := pp1_s f0
    obtain ⟨qe, fe⟩ := pe_s f1
    obtain ⟨p, e1, e2⟩ := bnd_s fe
    subst qe
    subst q1
    subst q0
    exact ⟨_, _, _, _, 11, rfl, (by decide), m_X11_basket N e1, e2⟩
  rcases kb_s e with ⟨rfl, e⟩ | e
  · obtain ⟨b0, r0, q0, f0⟩ := pr1_s e
    obtain ⟨b1, r1, q1, f1⟩ := pp1_s f0
    obtain ⟨qe, fe⟩ := pe_s f1
    obtain ⟨p, e1, e2⟩ := bnd_s fe
    subst qe
    subst q1
    subst q0
    exact ⟨_, _, _, _, 10, rfl, (by decide), m_X12_basket N e1, e2⟩
  cases e
def C_law_358 (N : Nat) : Nat → List Value → mH → (Option Value → mH → Option (Int32 × mH)) → Option (Int32 × mH) := fun j as g k => kb j 149 (pr1 as fun b0 as => pp1 as fun b1 as => pe as ((f_X11_fault N b0 b1 g).bind fun p => k (some (.int p.1)) p.2)) (kb j 245 (pr1 as fun b0 as => pp1 as fun b1 as => pe as ((f_X12_fault N b0 b1 g).bind fun p => k (some (.int p.1)) p.2)) (none))
theorem co_law_358 (N : Nat) (q : Int32 × mH) : clOK 28 q (C_law_358 N) := by
  intro j as g k e
  rcases kb_s e with ⟨rfl, e⟩ | e
  · obtain ⟨b0, r0, q0, f0⟩ := pr1_s e
    obtain ⟨b1, r1, q1, f1⟩ := pp1_s f0
    obtain ⟨qe, fe⟩ := pe_s f1
    obtain ⟨p, e1, e2⟩ := bnd_s fe
    subst qe
    subst q1
    subst q0
    exact ⟨_, _, _, _, 4, rfl, (by decide), m_X11_fault N e1, e2⟩
  rcases kb_s e with ⟨rfl, e⟩ | e
  · obtain ⟨b0, r0, q0, f0⟩ := pr1_s e
    obtain ⟨b1, r1, q1, f1⟩ := pp1_s f0
    obtain ⟨qe, fe⟩ := pe_s f1
    obtain ⟨p, e1, e2⟩ := bnd_s fe
    subst qe
    subst q1
    subst q0
    exact ⟨_, _, _, _, 4, rfl, (by decide), m_X12_fault N e1, e2⟩
  cases e
def C_law_381 (N : Nat) : Nat → List Value → mH → (Option Value → mH → Option (Int32 × mH)) → Option (Int32 × mH) := fun j as g k => kb j 150 (pr1 as fun b0 as => pp1 as fun b1 as => pp1 as fun b2 as => pe as ((f_X11_rod N b0 b1 b2 g).bind fun p => k (some (.int p.1)) p.2)) (kb j 248 (pr1 as fun b0 as => pp1 as fun b1 as => pp1 as fun b2 as => pe as ((f_X12_rod N b0 b1 b2 g).bind fun p => k (some (.int p.1)) p.2)) (none))
theorem co_law_381 (N : Nat) (q : Int32 × mH) : clOK 28 q (C_law_381 N) := by
  intro j as g k e
  rcases kb_s e with ⟨rfl, e⟩ | e
  · obtain ⟨b0, r0, q0, f0⟩ := pr1_s e
    obtain ⟨b1, r1, q1, f1⟩ := pp1_s f0
    obtain ⟨b2, r2, q2, f2⟩ := pp1_s f1
    obtain ⟨qe, fe⟩ := pe_s f2
    obtain ⟨p, e1, e2⟩ := bnd_s fe
    subst qe
    subst q2
    subst q1
    subst q0
    exact ⟨_, _, _, _, 5, rfl, (by decide), m_X11_rod N e1, e2⟩
  rcases kb_s e with ⟨rfl, e⟩ | e
  · obtain ⟨b0, r0, q0, f0⟩ := pr1_s e
    obtain ⟨b1, r1, q1, f1⟩ := pp1_s f0
    obtain ⟨b2, r2, q2, f2⟩ := pp1_s f1
    obtain ⟨qe, fe⟩ := pe_s f2
    obtain ⟨p, e1, e2⟩ := bnd_s fe
    subst qe
    subst q2
    subst q1
    subst q0
    exact ⟨_, _, _, _, 6, rfl, (by decide), m_X12_rod N e1, e2⟩
  cases e
def C_law_414 (N : Nat) : Nat → List Value → mH → (Option Value → mH → Option (Int32 × mH)) → Option (Int32 × mH) := fun j as g k => kb j 151 (pr1 as fun b0 as => pp1 as fun b1 as => pp1 as fun b2 as => pe as ((f_X11_band N b0 b1 b2 g).bind fun p => k (some (.int p.1)) p.2)) (kb j 250 (pr1 as fun b0 as => pp1 as fun b1 as => pp1 as fun b2 as => pe as ((f_X12_band N b0 b1 b2 g).bind fun p => k (some (.int p.1)) p.2)) (none))
theorem co_law_414 (N : Nat) (q : Int32 × mH) : clOK 28 q (C_law_414 N) := by
  intro j as g k e
  rcases kb_s e with ⟨rfl, e⟩ | e
  · obtain ⟨b0, r0, q0, f0⟩ := pr1_s e
    obtain ⟨b1, r1, q1, f1⟩ := pp1_s f0
    obtain ⟨b2, r2, q2, f2⟩ := pp1_s f1
    obtain ⟨qe, fe⟩ := pe_s f2
    obtain ⟨p, e1, e2⟩ := bnd_s fe
    subst qe
    subst q2
    subst q1
    subst q0
    exact ⟨_, _, _, _, 6, rfl, (by decide), m_X11_band N e1, e2⟩
  rcases kb_s e with ⟨rfl, e⟩ | e
  · obtain ⟨b0, r0, q0, f0⟩ := pr1_s e
    obtain ⟨b1, r1, q1, f1⟩ := pp1_s f0
    obtain ⟨b2, r2, q2, f2⟩ := pp1_s f1
    obtain ⟨qe, fe⟩ := pe_s f2
    obtain ⟨p, e1, e2⟩ := bnd_s fe
    subst qe
    subst q2
    subst q1
    subst q0
    exact ⟨_, _, _, _, 6, rfl, (by decide), m_X12_band N e1, e2⟩
  cases e
def C_law_447 (N : Nat) : Nat → List Value → mH → (Option Value → mH → Option (Int32 × mH)) → Option (Int32 × mH) := fun j as g k => kb j 152 (pr1 as fun b0 as => pp1 as fun b1 as => pe as ((f_X11_lean N b0 b1 g).bind fun p => k (some (.int p.1)) p.2)) (kb j 251 (pr1 as fun b0 as => pp1 as fun b1 as => pe as ((f_X12_lean N b0 b1 g).bind fun p => k (some (.int p.1)) p.2)) (none))
theorem co_law_447 (N : Nat) (q : Int32 × mH) : clOK 28 q (C_law_447 N) := by
  intro j as g k e
  rcases kb_s e with ⟨rfl, e⟩ | e
  · obtain ⟨b0, r0, q0, f0⟩ := pr1_s e
    obtain ⟨b1, r1, q1, f1⟩ := pp1_s f0
    obtain ⟨qe, fe⟩ := pe_s f1
    obtain ⟨p, e1, e2⟩ := bnd_s fe
    subst qe
    subst q1
    subst q0
    exact ⟨_, _, _, _, 5, rfl, (by decide), m_X11_lean N e1, e2⟩
  rcases kb_s e with ⟨rfl, e⟩ | e
  · obtain ⟨b0, r0, q0, f0⟩ := pr1_s e
    obtain ⟨b1, r1, q1, f1⟩ := pp1_s f0
    obtain ⟨qe, fe⟩ := pe_s f1
    obtain ⟨p, e1, e2⟩ := bnd_s fe
    subst qe
    subst q1
    subst q0
    exact ⟨_, _, _, _, 6, rfl, (by decide), m_X12_lean N e1, e2⟩
  cases e
def C_law_470 (N : Nat) : Nat → List Value → mH → (Option Value → mH → Option (Int32 × mH)) → Option (Int32 × mH) := fun j as g k => kb j 153 (pr1 as fun b0 as => pp1 as fun b1 as => pp1 as fun b2 as => pp1 as fun b3 as => pp1 as fun b4 as => pe as ((f_X11_crossing N b0 b1 b2 b3 b4 g).bind fun p => k (some (.int p.1)) p.2)) (kb j 264 (pr1 as fun b0 as => pp1 as fun b1 as => pp1 as fun b2 as => pp1 as fun b3 as => pp1 as fun b4 as => pe as ((f_X12_crossing N b0 b1 b2 b3 b4 g).bind fun p => k (some (.int p.1)) p.2)) (none))
theorem co_law_470 (N : Nat) (q : Int32 × mH) : clOK 28 q (C_law_470 N) := by
  intro j as g k e
  rcases kb_s e with ⟨rfl, e⟩ | e
  · obtain ⟨b0, r0, q0, f0⟩ := pr1_s e
    obtain ⟨b1, r1, q1, f1⟩ := pp1_s f0
    obtain ⟨b2, r2, q2, f2⟩ := pp1_s f1
    obtain ⟨b3, r3, q3, f3⟩ := pp1_s f2
    obtain ⟨b4, r4, q4, f4⟩ := pp1_s f3
    obtain ⟨qe, fe⟩ := pe_s f4
    obtain ⟨p, e1, e2⟩ := bnd_s fe
    subst qe
    subst q4
    subst q3
    subst q2
    subst q1
    subst q0
    exact ⟨_, _, _, _, 9, rfl, (by decide), m_X11_crossing N e1, e2⟩
  rcases kb_s e with ⟨rfl, e⟩ | e
  · obtain ⟨b0, r0, q0, f0⟩ := pr1_s e
    obtain ⟨b1, r1, q1, f1⟩ := pp1_s f0
    obtain ⟨b2, r2, q2, f2⟩ := pp1_s f1
    obtain ⟨b3, r3, q3, f3⟩ := pp1_s f2
    obtain ⟨b4, r4, q4, f4⟩ := pp1_s f3
    obtain ⟨qe, fe⟩ := pe_s f4
    obtain ⟨p, e1, e2⟩ := bnd_s fe
    subst qe
    subst q4
    subst q3
    subst q2
    subst q1
    subst q0
    exact ⟨_, _, _, _, 7, rfl, (by decide), m_X12_crossing N e1, e2⟩
  cases e
def C_law_523 (N : Nat) : Nat → List Value → mH → (Option Value → mH → Option (Int32 × mH)) → Option (Int32 × mH) := fun j as g k => none
theorem co_law_523 (N : Nat) (q : Int32 × mH) : clOK 28 q (C_law_523 N) := by
  intro j as g k e
  cases e
def C_law_552 (N : Nat) : Nat → List Value → mH → (Option Value → mH → Option (Int32 × mH)) → Option (Int32 × mH) := fun j as g k => kb j 154 (pr1 as fun b0 as => pp1 as fun b1 as => pp1 as fun b2 as => pp1 as fun b3 as => pp1 as fun b4 as => pe as ((f_X11_seen N b0 b1 b2 b3 b4 g).bind fun p => k (some (.int p.1)) p.2)) (kb j 268 (pr1 as fun b0 as => pp1 as fun b1 as => pp1 as fun b2 as => pp1 as fun b3 as => pp1 as fun b4 as => pe as ((f_X12_seen N b0 b1 b2 b3 b4 g).bind fun p => k (some (.int p.1)) p.2)) (none))
theorem co_law_552 (N : Nat) (q : Int32 × mH) : clOK 28 q (C_law_552 N) := by
  intro j as g k e
  rcases kb_s e with ⟨rfl, e⟩ | e
  · obtain ⟨b0, r0, q0, f0⟩ := pr1_s e
    obtain ⟨b1, r1, q1, f1⟩ := pp1_s f0
    obtain ⟨b2, r2, q2, f2⟩ := pp1_s f1
    obtain ⟨b3, r3, q3, f3⟩ := pp1_s f2
    obtain ⟨b4, r4, q4, f4⟩ := pp1_s f3
    obtain ⟨qe, fe⟩ := pe_s f4
    obtain ⟨p, e1, e2⟩ := bnd_s fe
    subst qe
    subst q4
    subst q3
    subst q2
    subst q1
    subst q0
    exact ⟨_, _, _, _, 10, rfl, (by decide), m_X11_seen N e1, e2⟩
  rcases kb_s e with ⟨rfl, e⟩ | e
  · obtain ⟨b0, r0, q0, f0⟩ := pr1_s e
    obtain ⟨b1, r1, q1, f1⟩ := pp1_s f0
    obtain ⟨b2, r2, q2, f2⟩ := pp1_s f1
    obtain ⟨b3, r3, q3, f3⟩ := pp1_s f2
    obtain ⟨b4, r4, q4, f4⟩ := pp1_s f3
    obtain ⟨qe, fe⟩ := pe_s f4
    obtain ⟨p, e1, e2⟩ := bnd_s fe
    subst qe
    subst q4
    subst q3
    subst q2
    subst q1
    subst q0
    exact ⟨_, _, _, _, 7, rfl, (by decide), m_X12_seen N e1, e2⟩
  cases e
def C_law_592 (N : Nat) : Nat → List Value → mH → (Option Value → mH → Option (Int32 × mH)) → Option (Int32 × mH) := fun j as g k => kb j 155 (pr1 as fun b0 as => pp1 as fun b1 as => pp1 as fun b2 as => pe as ((f_X11_overs N b0 b1 b2 g).bind fun p => k (some (.int p.1)) p.2)) (kb j 269 (pr1 as fun b0 as => pp1 as fun b1 as => pp1 as fun b2 as => pe as ((f_X12_overs N b0 b1 b2 g).bind fun p => k (some (.int p.1)) p.2)) (none))
theorem co_law_592 (N : Nat) (q : Int32 × mH) : clOK 28 q (C_law_592 N) := by
  intro j as g k e
  rcases kb_s e with ⟨rfl, e⟩ | e
  · obtain ⟨b0, r0, q0, f0⟩ := pr1_s e
    obtain ⟨b1, r1, q1, f1⟩ := pp1_s f0
    obtain ⟨b2, r2, q2, f2⟩ := pp1_s f1
    obtain ⟨qe, fe⟩ := pe_s f2
    obtain ⟨p, e1, e2⟩ := bnd_s fe
    subst qe
    subst q2
    subst q1
    subst q0
    exact ⟨_, _, _, _, 10, rfl, (by decide), m_X11_overs N e1, e2⟩
  rcases kb_s e with ⟨rfl, e⟩ | e
  · obtain ⟨b0, r0, q0, f0⟩ := pr1_s e
    obtain ⟨b1, r1, q1, f1⟩ := pp1_s f0
    obtain ⟨b2, r2, q2, f2⟩ := pp1_s f1
    obtain ⟨qe, fe⟩ := pe_s f2
    obtain ⟨p, e1, e2⟩ := bnd_s fe
    subst qe
    subst q2
    subst q1
    subst q0
    exact ⟨_, _, _, _, 7, rfl, (by decide), m_X12_overs N e1, e2⟩
  cases e
def C_law_625 (N : Nat) : Nat → List Value → mH → (Option Value → mH → Option (Int32 × mH)) → Option (Int32 × mH) := fun j as g k => kb j 156 (pr1 as fun b0 as => pp1 as fun b1 as => pp1 as fun b2 as => pe as ((f_X11_run N b0 b1 b2 g).bind fun p => k (some (.int p.1)) p.2)) (kb j 270 (pr1 as fun b0 as => pp1 as fun b1 as => pp1 as fun b2 as => pe as ((f_X12_run N b0 b1 b2 g).bind fun p => k (some (.int p.1)) p.2)) (none))
theorem co_law_625 (N : Nat) (q : Int32 × mH) : clOK 28 q (C_law_625 N) := by
  intro j as g k e
  rcases kb_s e with ⟨rfl, e⟩ | e
  · obtain ⟨b0, r0, q0, f0⟩ := pr1_s e
    obtain ⟨b1, r1, q1, f1⟩ := pp1_s f0
    obtain ⟨b2, r2, q2, f2⟩ := pp1_s f1
    obtain ⟨qe, fe⟩ := pe_s f2
    obtain ⟨p, e1, e2⟩ := bnd_s fe
    subst qe
    subst q2
    subst q1
    subst q0
    exact ⟨_, _, _, _, 10, rfl, (by decide), m_X11_run N e1, e2⟩
  rcases kb_s e with ⟨rfl, e⟩ | e
  · obtain ⟨b0, r0, q0, f0⟩ := pr1_s e
    obtain ⟨b1, r1, q1, f1⟩ := pp1_s f0
    obtain ⟨b2, r2, q2, f2⟩ := pp1_s f1
    obtain ⟨qe, fe⟩ := pe_s f2
    obtain ⟨p, e1, e2⟩ := bnd_s fe
    subst qe
    subst q2
    subst q1
    subst q0
    exact ⟨_, _, _, _, 7, rfl, (by decide), m_X12_run N e1, e2⟩
  cases e
def C_law_658 (N : Nat) : Nat → List Value → mH → (Option Value → mH → Option (Int32 × mH)) → Option (Int32 × mH) := fun j as g k => kb j 157 (pr1 as fun b0 as => pp1 as fun b1 as => pp1 as fun b2 as => pp1 as fun b3 as => pp1 as fun b4 as => pe as ((f_X11_step N b0 b1 b2 b3 b4 g).bind fun p => k (some (.int p.1)) p.2)) (kb j 272 (pr1 as fun b0 as => pp1 as fun b1 as => pp1 as fun b2 as => pp1 as fun b3 as => pp1 as fun b4 as => pe as ((f_X12_step N b0 b1 b2 b3 b4 g).bind fun p => k (some (.int p.1)) p.2)) (none))
theorem co_law_658 (N : Nat) (q : Int32 × mH) : clOK 28 q (C_law_658 N) := by
  intro j as g k e
  rcases kb_s e with ⟨rfl, e⟩ | e
  · obtain ⟨b0, r0, q0, f0⟩ := pr1_s e
    obtain ⟨b1, r1, q1, f1⟩ := pp1_s f0
    obtain ⟨b2, r2, q2, f2⟩ := pp1_s f1
    obtain ⟨b3, r3, q3, f3⟩ := pp1_s f2
    obtain ⟨b4, r4, q4, f4⟩ := pp1_s f3
    obtain ⟨qe, fe⟩ := pe_s f4
    obtain ⟨p, e1, e2⟩ := bnd_s fe
    subst qe
    subst q4
    subst q3
    subst q2
    subst q1
    subst q0
    exact ⟨_, _, _, _, 5, rfl, (by decide), m_X11_step N e1, e2⟩
  rcases kb_s e with ⟨rfl, e⟩ | e
  · obtain ⟨b0, r0, q0, f0⟩ := pr1_s e
    obtain ⟨b1, r1, q1, f1⟩ := pp1_s f0
    obtain ⟨b2, r2, q2, f2⟩ := pp1_s f1
    obtain ⟨b3, r3, q3, f3⟩ := pp1_s f2
    obtain ⟨b4, r4, q4, f4⟩ := pp1_s f3
    obtain ⟨qe, fe⟩ := pe_s f4
    obtain ⟨p, e1, e2⟩ := bnd_s fe
    subst qe
    subst q4
    subst q3
    subst q2
    subst q1
    subst q0
    exact ⟨_, _, _, _, 5, rfl, (by decide), m_X12_step N e1, e2⟩
  cases e
def C_law_711 (N : Nat) : Nat → List Value → mH → (Option Value → mH → Option (Int32 × mH)) → Option (Int32 × mH) := fun j as g k => kb j 158 (pr1 as fun b0 as => pp1 as fun b1 as => pp1 as fun b2 as => pp1 as fun b3 as => pp1 as fun b4 as => pp1 as fun b5 as => pe as ((f_X11_counts N b0 b1 b2 b3 b4 b5 g).bind fun p => k (some (.int p.1)) p.2)) (kb j 273 (pr1 as fun b0 as => pp1 as fun b1 as => pp1 as fun b2 as => pp1 as fun b3 as => pp1 as fun b4 as => pp1 as fun b5 as => pe as ((f_X12_counts N b0 b1 b2 b3 b4 b5 g).bind fun p => k (some (.int p.1)) p.2)) (none))
theorem co_law_711 (N : Nat) (q : Int32 × mH) : clOK 28 q (C_law_711 N) := by
  intro j as g k e
  rcases kb_s e with ⟨rfl, e⟩ | e
  · obtain ⟨b0, r0, q0, f0⟩ := pr1_s e
    obtain ⟨b1, r1, q1, f1⟩ := pp1_s f0
    obtain ⟨b2, r2, q2, f2⟩ := pp1_s f1
    obtain ⟨b3, r3, q3, f3⟩ := pp1_s f2
    obtain ⟨b4, r4, q4, f4⟩ := pp1_s f3
    obtain ⟨b5, r5, q5, f5⟩ := pp1_s f4
    obtain ⟨qe, fe⟩ := pe_s f5
    obtain ⟨p, e1, e2⟩ := bnd_s fe
    subst qe
    subst q5
    subst q4
    subst q3
    subst q2
    subst q1
    subst q0
    exact ⟨_, _, _, _, 5, rfl, (by decide), m_X11_counts N e1, e2⟩
  rcases kb_s e with ⟨rfl, e⟩ | e
  · obtain ⟨b0, r0, q0, f0⟩ := pr1_s e
    obtain ⟨b1, r1, q1, f1⟩ := pp1_s f0
    obtain ⟨b2, r2, q2, f2⟩ := pp1_s f1
    obtain ⟨b3, r3, q3, f3⟩ := pp1_s f2
    obtain ⟨b4, r4, q4, f4⟩ := pp1_s f3
    obtain ⟨b5, r5, q5, f5⟩ := pp1_s f4
    obtain ⟨qe, fe⟩ := pe_s f5
    obtain ⟨p, e1, e2⟩ := bnd_s fe
    subst qe
    subst q5
    subst q4
    subst q3
    subst q2
    subst q1
    subst q0
    exact ⟨_, _, _, _, 5, rfl, (by decide), m_X12_counts N e1, e2⟩
  cases e
def C_law_774 (N : Nat) : Nat → List Value → mH → (Option Value → mH → Option (Int32 × mH)) → Option (Int32 × mH) := fun j as g k => kb j 159 (pr1 as fun b0 as => pe as ((f_X11_total N b0 g).bind fun p => k (some (.int p.1)) p.2)) (kb j 274 (pr1 as fun b0 as => pe as ((f_X12_total N b0 g).bind fun p => k (some (.int p.1)) p.2)) (none))
theorem co_law_774 (N : Nat) (q : Int32 × mH) : clOK 28 q (C_law_774 N) := by
  intro j as g k e
  rcases kb_s e with ⟨rfl, e⟩ | e
  · obtain ⟨b0, r0, q0, f0⟩ := pr1_s e
    obtain ⟨qe, fe⟩ := pe_s f0
    obtain ⟨p, e1, e2⟩ := bnd_s fe
    subst qe
    subst q0
    exact ⟨_, _, _, _, 8, rfl, (by decide), m_X11_total N e1, e2⟩
  rcases kb_s e with ⟨rfl, e⟩ | e
  · obtain ⟨b0, r0, q0, f0⟩ := pr1_s e
    obtain ⟨qe, fe⟩ := pe_s f0
    obtain ⟨p, e1, e2⟩ := bnd_s fe
    subst qe
    subst q0
    exact ⟨_, _, _, _, 6, rfl, (by decide), m_X12_total N e1, e2⟩
  cases e
def C_law_787 (N : Nat) : Nat → List Value → mH → (Option Value → mH → Option (Int32 × mH)) → Option (Int32 × mH) := fun j as g k => none
theorem co_law_787 (N : Nat) (q : Int32 × mH) : clOK 28 q (C_law_787 N) := by
  intro j as g k e
  cases e
def C_law_816 (N : Nat) : Nat → List Value → mH → (Option Value → mH → Option (Int32 × mH)) → Option (Int32 × mH) := fun j as g k => kb j 160 (pr1 as fun b0 as => pp1 as fun b1 as => pp1 as fun b2 as => pp1 as fun b3 as => pp1 as fun b4 as => pe as ((f_X11_undo N b0 b1 b2 b3 b4 g).bind fun p => k (some (.int p.1)) p.2)) (kb j 275 (pr1 as fun b0 as => pp1 as fun b1 as => pp1 as fun b2 as => pp1 as fun b3 as => pp1 as fun b4 as => pe as ((f_X12_undo N b0 b1 b2 b3 b4 g).bind fun p => k (some (.int p.1)) p.2)) (none))
theorem co_law_816 (N : Nat) (q : Int32 × mH) : clOK 28 q (C_law_816 N) := by
  intro j as g k e
  rcases kb_s e with ⟨rfl, e⟩ | e
  · obtain ⟨b0, r0, q0, f0⟩ := pr1_s e
    obtain ⟨b1, r1, q1, f1⟩ := pp1_s f0
    obtain ⟨b2, r2, q2, f2⟩ := pp1_s f1
    obtain ⟨b3, r3, q3, f3⟩ := pp1_s f2
    obtain ⟨b4, r4, q4, f4⟩ := pp1_s f3
    obtain ⟨qe, fe⟩ := pe_s f4
    obtain ⟨p, e1, e2⟩ := bnd_s fe
    subst qe
    subst q4
    subst q3
    subst q2
    subst q1
    subst q0
    exact ⟨_, _, _, _, 8, rfl, (by decide), m_X11_undo N e1, e2⟩
  rcases kb_s e with ⟨rfl, e⟩ | e
  · obtain ⟨b0, r0, q0, f0⟩ := pr1_s e
    obtain ⟨b1, r1, q1, f1⟩ := pp1_s f0
    obtain ⟨b2, r2, q2, f2⟩ := pp1_s f1
    obtain ⟨b3, r3, q3, f3⟩ := pp1_s f2
    obtain ⟨b4, r4, q4, f4⟩ := pp1_s f3
    obtain ⟨qe, fe⟩ := pe_s f4
    obtain ⟨p, e1, e2⟩ := bnd_s fe
    subst qe
    subst q4
    subst q3
    subst q2
    subst q1
    subst q0
    exact ⟨_, _, _, _, 7, rfl, (by decide), m_X12_undo N e1, e2⟩
  cases e
def C_law_856 (N : Nat) : Nat → List Value → mH → (Option Value → mH → Option (Int32 × mH)) → Option (Int32 × mH) := fun j as g k => kb j 161 (pr1 as fun b0 as => pp1 as fun b1 as => pp1 as fun b2 as => pp1 as fun b3 as => pe as ((f_X11_mend N b0 b1 b2 b3 g).bind fun p => k (some (.int p.1)) p.2)) (kb j 276 (pr1 as fun b0 as => pp1 as fun b1 as => pp1 as fun b2 as => pp1 as fun b3 as => pe as ((f_X12_mend N b0 b1 b2 b3 g).bind fun p => k (some (.int p.1)) p.2)) (none))
theorem co_law_856 (N : Nat) (q : Int32 × mH) : clOK 28 q (C_law_856 N) := by
  intro j as g k e
  rcases kb_s e with ⟨rfl, e⟩ | e
  · obtain ⟨b0, r0, q0, f0⟩ := pr1_s e
    obtain ⟨b1, r1, q1, f1⟩ := pp1_s f0
    obtain ⟨b2, r2, q2, f2⟩ := pp1_s f1
    obtain ⟨b3, r3, q3, f3⟩ := pp1_s f2
    obtain ⟨qe, fe⟩ := pe_s f3
    obtain ⟨p, e1, e2⟩ := bnd_s fe
    subst qe
    subst q3
    subst q2
    subst q1
    subst q0
    exact ⟨_, _, _, _, 9, rfl, (by decide), m_X11_mend N e1, e2⟩
  rcases kb_s e with ⟨rfl, e⟩ | e
  · obtain ⟨b0, r0, q0, f0⟩ := pr1_s e
    obtain ⟨b1, r1, q1, f1⟩ := pp1_s f0
    obtain ⟨b2, r2, q2, f2⟩ := pp1_s f1
    obtain ⟨b3, r3, q3, f3⟩ := pp1_s f2
    obtain ⟨qe, fe⟩ := pe_s f3
    obtain ⟨p, e1, e2⟩ := bnd_s fe
    subst qe
    subst q3
    subst q2
    subst q1
    subst q0
    exact ⟨_, _, _, _, 7, rfl, (by decide), m_X12_mend N e1, e2⟩
  cases e
def C_law_899 (N : Nat) : Nat → List Value → mH → (Option Value → mH → Option (Int32 × mH)) → Option (Int32 × mH) := fun j as g k => kb j 162 (pr1 as fun b0 as => pp1 as fun b1 as => pe as ((f_X11_seam N b0 b1 g).bind fun p => k (some (.int p.1)) p.2)) (kb j 278 (pr1 as fun b0 as => pp1 as fun b1 as => pe as ((f_X12_seam N b0 b1 g).bind fun p => k (some (.int p.1)) p.2)) (none))
theorem co_law_899 (N : Nat) (q : Int32 × mH) : clOK 28 q (C_law_899 N) := by
  intro j as g k e
  rcases kb_s e with ⟨rfl, e⟩ | e
  · obtain ⟨b0, r0, q0, f0⟩ := pr1_s e
    obtain ⟨b1, r1, q1, f1⟩ := pp1_s f0
    obtain ⟨qe, fe⟩ := pe_s f1
    obtain ⟨p, e1, e2⟩ := bnd_s fe
    subst qe
    subst q1
    subst q0
    exact ⟨_, _, _, _, 10, rfl, (by decide), m_X11_seam N e1, e2⟩
  rcases kb_s e with ⟨rfl, e⟩ | e
  · obtain ⟨b0, r0, q0, f0⟩ := pr1_s e
    obtain ⟨b1, r1, q1, f1⟩ := pp1_s f0
    obtain ⟨qe, fe⟩ := pe_s f1
    obtain ⟨p, e1, e2⟩ := bnd_s fe
    subst qe
    subst q1
    subst q0
    exact ⟨_, _, _, _, 8, rfl, (by decide), m_X12_seam N e1, e2⟩
  cases e
def C_law_922 (N : Nat) : Nat → List Value → mH → (Option Value → mH → Option (Int32 × mH)) → Option (Int32 × mH) := fun j as g k => kb j 163 (pr1 as fun b0 as => pp1 as fun b1 as => pe as ((f_X11_turn N b0 b1 g).bind fun p => k (some (.int p.1)) p.2)) (kb j 279 (pr1 as fun b0 as => pp1 as fun b1 as => pe as ((f_X12_turn N b0 b1 g).bind fun p => k (some (.int p.1)) p.2)) (none))
theorem co_law_922 (N : Nat) (q : Int32 × mH) : clOK 28 q (C_law_922 N) := by
  intro j as g k e
  rcases kb_s e with ⟨rfl, e⟩ | e
  · obtain ⟨b0, r0, q0, f0⟩ := pr1_s e
    obtain ⟨b1, r1, q1, f1⟩ := pp1_s f0
    obtain ⟨qe, fe⟩ := pe_s f1
    obtain ⟨p, e1, e2⟩ := bnd_s fe
    subst qe
    subst q1
    subst q0
    exact ⟨_, _, _, _, 11, rfl, (by decide), m_X11_turn N e1, e2⟩
  rcases kb_s e with ⟨rfl, e⟩ | e
  · obtain ⟨b0, r0, q0, f0⟩ := pr1_s e
    obtain ⟨b1, r1, q1, f1⟩ := pp1_s f0
    obtain ⟨qe, fe⟩ := pe_s f1
    obtain ⟨p, e1, e2⟩ := bnd_s fe
    subst qe
    subst q1
    subst q0
    exact ⟨_, _, _, _, 8, rfl, (by decide), m_X12_turn N e1, e2⟩
  cases e
def C_law_945 (N : Nat) : Nat → List Value → mH → (Option Value → mH → Option (Int32 × mH)) → Option (Int32 × mH) := fun j as g k => kb j 164 (pr1 as fun b0 as => pp1 as fun b1 as => pp1 as fun b2 as => pp1 as fun b3 as => pe as ((f_X11_spiral N b0 b1 b2 b3 g).bind fun p => k (some (.int p.1)) p.2)) (kb j 280 (pr1 as fun b0 as => pp1 as fun b1 as => pp1 as fun b2 as => pp1 as fun b3 as => pe as ((f_X12_spiral N b0 b1 b2 b3 g).bind fun p => k (some (.int p.1)) p.2)) (none))
theorem co_law_945 (N : Nat) (q : Int32 × mH) : clOK 28 q (C_law_945 N) := by
  intro j as g k e
  rcases kb_s e with ⟨rfl, e⟩ | e
  · obtain ⟨b0, r0, q0, f0⟩ := pr1_s e
    obtain ⟨b1, r1, q1, f1⟩ := pp1_s f0
    obtain ⟨b2, r2, q2, f2⟩ := pp1_s f1
    obtain ⟨b3, r3, q3, f3⟩ := pp1_s f2
    obtain ⟨qe, fe⟩ := pe_s f3
    obtain ⟨p, e1, e2⟩ := bnd_s fe
    subst qe
    subst q3
    subst q2
    subst q1
    subst q0
    exact ⟨_, _, _, _, 10, rfl, (by decide), m_X11_spiral N e1, e2⟩
  rcases kb_s e with ⟨rfl, e⟩ | e
  · obtain ⟨b0, r0, q0, f0⟩ := pr1_s e
    obtain ⟨b1, r1, q1, f1⟩ := pp1_s f0
    obtain ⟨b2, r2, q2, f2⟩ := pp1_s f1
    obtain ⟨b3, r3, q3, f3⟩ := pp1_s f2
    obtain ⟨qe, fe⟩ := pe_s f3
    obtain ⟨p, e1, e2⟩ := bnd_s fe
    subst qe
    subst q3
    subst q2
    subst q1
    subst q0
    exact ⟨_, _, _, _, 6, rfl, (by decide), m_X12_spiral N e1, e2⟩
  cases e
def C_law_988 (N : Nat) : Nat → List Value → mH → (Option Value → mH → Option (Int32 × mH)) → Option (Int32 × mH) := fun j as g k => kb j 165 (pr1 as fun b0 as => pp1 as fun b1 as => pe as ((f_X11_repeats N b0 b1 g).bind fun p => k (some (.int p.1)) p.2)) (kb j 282 (pr1 as fun b0 as => pp1 as fun b1 as => pe as ((f_X12_repeats N b0 b1 g).bind fun p => k (some (.int p.1)) p.2)) (none))
theorem co_law_988 (N : Nat) (q : Int32 × mH) : clOK 28 q (C_law_988 N) := by
  intro j as g k e
  rcases kb_s e with ⟨rfl, e⟩ | e
  · obtain ⟨b0, r0, q0, f0⟩ := pr1_s e
    obtain ⟨b1, r1, q1, f1⟩ := pp1_s f0
    obtain ⟨qe, fe⟩ := pe_s f1
    obtain ⟨p, e1, e2⟩ := bnd_s fe
    subst qe
    subst q1
    subst q0
    exact ⟨_, _, _, _, 10, rfl, (by decide), m_X11_repeats N e1, e2⟩
  rcases kb_s e with ⟨rfl, e⟩ | e
  · obtain ⟨b0, r0, q0, f0⟩ := pr1_s e
    obtain ⟨b1, r1, q1, f1⟩ := pp1_s f0
    obtain ⟨qe, fe⟩ := pe_s f1
    obtain ⟨p, e1, e2⟩ := bnd_s fe
    subst qe
    subst q1
    subst q0
    exact ⟨_, _, _, _, 8, rfl, (by decide), m_X12_repeats N e1, e2⟩
  cases e
def C_law_1011 (N : Nat) : Nat → List Value → mH → (Option Value → mH → Option (Int32 × mH)) → Option (Int32 × mH) := fun j as g k => none
theorem co_law_1011 (N : Nat) (q : Int32 × mH) : clOK 28 q (C_law_1011 N) := by
  intro j as g k e
  cases e
def C_law_1035 (N : Nat) : Nat → List Value → mH → (Option Value → mH → Option (Int32 × mH)) → Option (Int32 × mH) := fun j as g k => kb j 166 (pr1 as fun b0 as => pp1 as fun b1 as => pp1 as fun b2 as => pp1 as fun b3 as => pe as ((f_X11_colour N b0 b1 b2 b3 g).bind fun p => k (some (.int p.1)) p.2)) (kb j 283 (pr1 as fun b0 as => pp1 as fun b1 as => pp1 as fun b2 as => pp1 as fun b3 as => pe as ((f_X12_colour N b0 b1 b2 b3 g).bind fun p => k (some (.int p.1)) p.2)) (none))
theorem co_law_1035 (N : Nat) (q : Int32 × mH) : clOK 28 q (C_law_1035 N) := by
  intro j as g k e
  rcases kb_s e with ⟨rfl, e⟩ | e
  · obtain ⟨b0, r0, q0, f0⟩ := pr1_s e
    obtain ⟨b1, r1, q1, f1⟩ := pp1_s f0
    obtain ⟨b2, r2, q2, f2⟩ := pp1_s f1
    obtain ⟨b3, r3, q3, f3⟩ := pp1_s f2
    obtain ⟨qe, fe⟩ := pe_s f3
    obtain ⟨p, e1, e2⟩ := bnd_s fe
    subst qe
    subst q3
    subst q2
    subst q1
    subst q0
    exact ⟨_, _, _, _, 11, rfl, (by decide), m_X11_colour N e1, e2⟩
  rcases kb_s e with ⟨rfl, e⟩ | e
  · obtain ⟨b0, r0, q0, f0⟩ := pr1_s e
    obtain ⟨b1, r1, q1, f1⟩ := pp1_s f0
    obtain ⟨b2, r2, q2, f2⟩ := pp1_s f1
    obtain ⟨b3, r3, q3, f3⟩ := pp1_s f2
    obtain ⟨qe, fe⟩ := pe_s f3
    obtain ⟨p, e1, e2⟩ := bnd_s fe
    subst qe
    subst q3
    subst q2
    subst q1
    subst q0
    exact ⟨_, _, _, _, 7, rfl, (by decide), m_X12_colour N e1, e2⟩
  cases e
def C_law_1070 (N : Nat) : Nat → List Value → mH → (Option Value → mH → Option (Int32 × mH)) → Option (Int32 × mH) := fun j as g k => kb j 167 (pr1 as fun b0 as => pp1 as fun b1 as => pp1 as fun b2 as => pe as ((f_X11_floats N b0 b1 b2 g).bind fun p => k (some (.int p.1)) p.2)) (kb j 284 (pr1 as fun b0 as => pp1 as fun b1 as => pp1 as fun b2 as => pe as ((f_X12_floats N b0 b1 b2 g).bind fun p => k (some (.int p.1)) p.2)) (none))
theorem co_law_1070 (N : Nat) (q : Int32 × mH) : clOK 28 q (C_law_1070 N) := by
  intro j as g k e
  rcases kb_s e with ⟨rfl, e⟩ | e
  · obtain ⟨b0, r0, q0, f0⟩ := pr1_s e
    obtain ⟨b1, r1, q1, f1⟩ := pp1_s f0
    obtain ⟨b2, r2, q2, f2⟩ := pp1_s f1
    obtain ⟨qe, fe⟩ := pe_s f2
    obtain ⟨p, e1, e2⟩ := bnd_s fe
    subst qe
    subst q2
    subst q1
    subst q0
    exact ⟨_, _, _, _, 10, rfl, (by decide), m_X11_floats N e1, e2⟩
  rcases kb_s e with ⟨rfl, e⟩ | e
  · obtain ⟨b0, r0, q0, f0⟩ := pr1_s e
    obtain ⟨b1, r1, q1, f1⟩ := pp1_s f0
    obtain ⟨b2, r2, q2, f2⟩ := pp1_s f1
    obtain ⟨qe, fe⟩ := pe_s f2
    obtain ⟨p, e1, e2⟩ := bnd_s fe
    subst qe
    subst q2
    subst q1
    subst q0
    exact ⟨_, _, _, _, 6, rfl, (by decide), m_X12_floats N e1, e2⟩
  cases e
def C_law_1103 (N : Nat) : Nat → List Value → mH → (Option Value → mH → Option (Int32 × mH)) → Option (Int32 × mH) := fun j as g k => kb j 168 (pr1 as fun b0 as => pp1 as fun b1 as => pp1 as fun b2 as => pp1 as fun b3 as => pp1 as fun b4 as => pe as ((f_X11_learner N b0 b1 b2 b3 b4 g).bind fun p => k (some (.int p.1)) p.2)) (kb j 285 (pr1 as fun b0 as => pp1 as fun b1 as => pp1 as fun b2 as => pp1 as fun b3 as => pp1 as fun b4 as => pe as ((f_X12_learner N b0 b1 b2 b3 b4 g).bind fun p => k (some (.int p.1)) p.2)) (none))
theorem co_law_1103 (N : Nat) (q : Int32 × mH) : clOK 28 q (C_law_1103 N) := by
  intro j as g k e
  rcases kb_s e with ⟨rfl, e⟩ | e
  · obtain ⟨b0, r0, q0, f0⟩ := pr1_s e
    obtain ⟨b1, r1, q1, f1⟩ := pp1_s f0
    obtain ⟨b2, r2, q2, f2⟩ := pp1_s f1
    obtain ⟨b3, r3, q3, f3⟩ := pp1_s f2
    obtain ⟨b4, r4, q4, f4⟩ := pp1_s f3
    obtain ⟨qe, fe⟩ := pe_s f4
    obtain ⟨p, e1, e2⟩ := bnd_s fe
    subst qe
    subst q4
    subst q3
    subst q2
    subst q1
    subst q0
    exact ⟨_, _, _, _, 9, rfl, (by decide), m_X11_learner N e1, e2⟩
  rcases kb_s e with ⟨rfl, e⟩ | e
  · obtain ⟨b0, r0, q0, f0⟩ := pr1_s e
    obtain ⟨b1, r1, q1, f1⟩ := pp1_s f0
    obtain ⟨b2, r2, q2, f2⟩ := pp1_s f1
    obtain ⟨b3, r3, q3, f3⟩ := pp1_s f2
    obtain ⟨b4, r4, q4, f4⟩ := pp1_s f3
    obtain ⟨qe, fe⟩ := pe_s f4
    obtain ⟨p, e1, e2⟩ := bnd_s fe
    subst qe
    subst q4
    subst q3
    subst q2
    subst q1
    subst q0
    exact ⟨_, _, _, _, 7, rfl, (by decide), m_X12_learner N e1, e2⟩
  cases e
def C_law_1156 (N : Nat) : Nat → List Value → mH → (Option Value → mH → Option (Int32 × mH)) → Option (Int32 × mH) := fun j as g k => kb j 169 (pr1 as fun b0 as => pp1 as fun b1 as => pe as ((f_X11_wish N b0 b1 g).bind fun p => k (some (.int p.1)) p.2)) (kb j 287 (pr1 as fun b0 as => pp1 as fun b1 as => pe as ((f_X12_wish N b0 b1 g).bind fun p => k (some (.int p.1)) p.2)) (none))
theorem co_law_1156 (N : Nat) (q : Int32 × mH) : clOK 28 q (C_law_1156 N) := by
  intro j as g k e
  rcases kb_s e with ⟨rfl, e⟩ | e
  · obtain ⟨b0, r0, q0, f0⟩ := pr1_s e
    obtain ⟨b1, r1, q1, f1⟩ := pp1_s f0
    obtain ⟨qe, fe⟩ := pe_s f1
    obtain ⟨p, e1, e2⟩ := bnd_s fe
    subst qe
    subst q1
    subst q0
    exact ⟨_, _, _, _, 7, rfl, (by decide), m_X11_wish N e1, e2⟩
  rcases kb_s e with ⟨rfl, e⟩ | e
  · obtain ⟨b0, r0, q0, f0⟩ := pr1_s e
    obtain ⟨b1, r1, q1, f1⟩ := pp1_s f0
    obtain ⟨qe, fe⟩ := pe_s f1
    obtain ⟨p, e1, e2⟩ := bnd_s fe
    subst qe
    subst q1
    subst q0
    exact ⟨_, _, _, _, 6, rfl, (by decide), m_X12_wish N e1, e2⟩
  cases e
def C_law_1179 (N : Nat) : Nat → List Value → mH → (Option Value → mH → Option (Int32 × mH)) → Option (Int32 × mH) := fun j as g k => kb j 170 (pr1 as fun b0 as => pp1 as fun b1 as => pe as ((f_X11_find N b0 b1 g).bind fun p => k (some (.int p.1)) p.2)) (kb j 295 (pr1 as fun b0 as => pp1 as fun b1 as => pe as ((f_X12_find N b0 b1 g).bind fun p => k (some (.int p.1)) p.2)) (none))
theorem co_law_1179 (N : Nat) (q : Int32 × mH) : clOK 28 q (C_law_1179 N) := by
  intro j as g k e
  rcases kb_s e with ⟨rfl, e⟩ | e
  · obtain ⟨b0, r0, q0, f0⟩ := pr1_s e
    obtain ⟨b1, r1, q1, f1⟩ := pp1_s f0
    obtain ⟨qe, fe⟩ := pe_s f1
    obtain ⟨p, e1, e2⟩ := bnd_s fe
    subst qe
    subst q1
    subst q0
    exact ⟨_, _, _, _, 9, rfl, (by decide), m_X11_find N e1, e2⟩
  rcases kb_s e with ⟨rfl, e⟩ | e
  · obtain ⟨b0, r0, q0, f0⟩ := pr1_s e
    obtain ⟨b1, r1, q1, f1⟩ := pp1_s f0
    obtain ⟨qe, fe⟩ := pe_s f1
    obtain ⟨p, e1, e2⟩ := bnd_s fe
    subst qe
    subst q1
    subst q0
    exact ⟨_, _, _, _, 7, rfl, (by decide), m_X12_find N e1, e2⟩
  cases e
def C_law_1202 (N : Nat) : Nat → List Value → mH → (Option Value → mH → Option (Int32 × mH)) → Option (Int32 × mH) := fun j as g k => kb j 171 (pr1 as fun b0 as => pp1 as fun b1 as => pe as ((f_X11_print N b0 b1 g).bind fun p => k (some (.int p.1)) p.2)) (kb j 288 (pr1 as fun b0 as => pp1 as fun b1 as => pe as ((f_X12_print N b0 b1 g).bind fun p => k (some (.int p.1)) p.2)) (none))
theorem co_law_1202 (N : Nat) (q : Int32 × mH) : clOK 28 q (C_law_1202 N) := by
  intro j as g k e
  rcases kb_s e with ⟨rfl, e⟩ | e
  · obtain ⟨b0, r0, q0, f0⟩ := pr1_s e
    obtain ⟨b1, r1, q1, f1⟩ := pp1_s f0
    obtain ⟨qe, fe⟩ := pe_s f1
    obtain ⟨p, e1, e2⟩ := bnd_s fe
    subst qe
    subst q1
    subst q0
    exact ⟨_, _, _, _, 7, rfl, (by decide), m_X11_print N e1, e2⟩
  rcases kb_s e with ⟨rfl, e⟩ | e
  · obtain ⟨b0, r0, q0, f0⟩ := pr1_s e
    obtain ⟨b1, r1, q1, f1⟩ := pp1_s f0
    obtain ⟨qe, fe⟩ := pe_s f1
    obtain ⟨p, e1, e2⟩ := bnd_s fe
    subst qe
    subst q1
    subst q0
    exact ⟨_, _, _, _, 6, rfl, (by decide), m_X12_print N e1, e2⟩
  cases e
def C_law_1225 (N : Nat) : Nat → List Value → mH → (Option Value → mH → Option (Int32 × mH)) → Option (Int32 × mH) := fun j as g k => kb j 172 (pr1 as fun b0 as => pp1 as fun b1 as => pp1 as fun b2 as => pe as ((f_X11_reads N b0 b1 b2 g).bind fun p => k (some (.int p.1)) p.2)) (kb j 296 (pr1 as fun b0 as => pp1 as fun b1 as => pp1 as fun b2 as => pe as ((f_X12_reads N b0 b1 b2 g).bind fun p => k (some (.int p.1)) p.2)) (none))
theorem co_law_1225 (N : Nat) (q : Int32 × mH) : clOK 28 q (C_law_1225 N) := by
  intro j as g k e
  rcases kb_s e with ⟨rfl, e⟩ | e
  · obtain ⟨b0, r0, q0, f0⟩ := pr1_s e
    obtain ⟨b1, r1, q1, f1⟩ := pp1_s f0
    obtain ⟨b2, r2, q2, f2⟩ := pp1_s f1
    obtain ⟨qe, fe⟩ := pe_s f2
    obtain ⟨p, e1, e2⟩ := bnd_s fe
    subst qe
    subst q2
    subst q1
    subst q0
    exact ⟨_, _, _, _, 10, rfl, (by decide), m_X11_reads N e1, e2⟩
  rcases kb_s e with ⟨rfl, e⟩ | e
  · obtain ⟨b0, r0, q0, f0⟩ := pr1_s e
    obtain ⟨b1, r1, q1, f1⟩ := pp1_s f0
    obtain ⟨b2, r2, q2, f2⟩ := pp1_s f1
    obtain ⟨qe, fe⟩ := pe_s f2
    obtain ⟨p, e1, e2⟩ := bnd_s fe
    subst qe
    subst q2
    subst q1
    subst q0
    exact ⟨_, _, _, _, 7, rfl, (by decide), m_X12_reads N e1, e2⟩
  cases e
def C_law_1258 (N : Nat) : Nat → List Value → mH → (Option Value → mH → Option (Int32 × mH)) → Option (Int32 × mH) := fun j as g k => kb j 173 (pr1 as fun b0 as => pp1 as fun b1 as => pp1 as fun b2 as => pe as ((f_X11_nearest N b0 b1 b2 g).bind fun p => k (some (.int p.1)) p.2)) (kb j 297 (pr1 as fun b0 as => pp1 as fun b1 as => pp1 as fun b2 as => pe as ((f_X12_nearest N b0 b1 b2 g).bind fun p => k (some (.int p.1)) p.2)) (none))
theorem co_law_1258 (N : Nat) (q : Int32 × mH) : clOK 28 q (C_law_1258 N) := by
  intro j as g k e
  rcases kb_s e with ⟨rfl, e⟩ | e
  · obtain ⟨b0, r0, q0, f0⟩ := pr1_s e
    obtain ⟨b1, r1, q1, f1⟩ := pp1_s f0
    obtain ⟨b2, r2, q2, f2⟩ := pp1_s f1
    obtain ⟨qe, fe⟩ := pe_s f2
    obtain ⟨p, e1, e2⟩ := bnd_s fe
    subst qe
    subst q2
    subst q1
    subst q0
    exact ⟨_, _, _, _, 10, rfl, (by decide), m_X11_nearest N e1, e2⟩
  rcases kb_s e with ⟨rfl, e⟩ | e
  · obtain ⟨b0, r0, q0, f0⟩ := pr1_s e
    obtain ⟨b1, r1, q1, f1⟩ := pp1_s f0
    obtain ⟨b2, r2, q2, f2⟩ := pp1_s f1
    obtain ⟨qe, fe⟩ := pe_s f2
    obtain ⟨p, e1, e2⟩ := bnd_s fe
    subst qe
    subst q2
    subst q1
    subst q0
    exact ⟨_, _, _, _, 7, rfl, (by decide), m_X12_nearest N e1, e2⟩
  cases e
def C_law_1291 (N : Nat) : Nat → List Value → mH → (Option Value → mH → Option (Int32 × mH)) → Option (Int32 × mH) := fun j as g k => kb j 174 (pr1 as fun b0 as => pp1 as fun b1 as => pe as ((f_X11_rods N b0 b1 g).bind fun p => k (some (.int p.1)) p.2)) (kb j 299 (pr1 as fun b0 as => pp1 as fun b1 as => pe as ((f_X12_rods N b0 b1 g).bind fun p => k (some (.int p.1)) p.2)) (none))
theorem co_law_1291 (N : Nat) (q : Int32 × mH) : clOK 28 q (C_law_1291 N) := by
  intro j as g k e
  rcases kb_s e with ⟨rfl, e⟩ | e
  · obtain ⟨b0, r0, q0, f0⟩ := pr1_s e
    obtain ⟨b1, r1, q1, f1⟩ := pp1_s f0
    obtain ⟨qe, fe⟩ := pe_s f1
    obtain ⟨p, e1, e2⟩ := bnd_s fe
    subst qe
    subst q1
    subst q0
    exact ⟨_, _, _, _, 8, rfl, (by decide), m_X11_rods N e1, e2⟩
  rcases kb_s e with ⟨rfl, e⟩ | e
  · obtain ⟨b0, r0, q0, f0⟩ := pr1_s e
    obtain ⟨b1, r1, q1, f1⟩ := pp1_s f0
    obtain ⟨qe, fe⟩ := pe_s f1
    obtain ⟨p, e1, e2⟩ := bnd_s fe
    subst qe
    subst q1
    subst q0
    exact ⟨_, _, _, _, 7, rfl, (by decide), m_X12_rods N e1, e2⟩
  cases e
def C_law_1314 (N : Nat) : Nat → List Value → mH → (Option Value → mH → Option (Int32 × mH)) → Option (Int32 × mH) := fun j as g k => kb j 175 (pr1 as fun b0 as => pp1 as fun b1 as => pe as ((f_X11_waste N b0 b1 g).bind fun p => k (some (.int p.1)) p.2)) (kb j 300 (pr1 as fun b0 as => pp1 as fun b1 as => pe as ((f_X12_waste N b0 b1 g).bind fun p => k (some (.int p.1)) p.2)) (none))
theorem co_law_1314 (N : Nat) (q : Int32 × mH) : clOK 28 q (C_law_1314 N) := by
  intro j as g k e
  rcases kb_s e with ⟨rfl, e⟩ | e
  · obtain ⟨b0, r0, q0, f0⟩ := pr1_s e
    obtain ⟨b1, r1, q1, f1⟩ := pp1_s f0
    obtain ⟨qe, fe⟩ := pe_s f1
    obtain ⟨p, e1, e2⟩ := bnd_s fe
    subst qe
    subst q1
    subst q0
    exact ⟨_, _, _, _, 8, rfl, (by decide), m_X11_waste N e1, e2⟩
  rcases kb_s e with ⟨rfl, e⟩ | e
  · obtain ⟨b0, r0, q0, f0⟩ := pr1_s e
    obtain ⟨b1, r1, q1, f1⟩ := pp1_s f0
    obtain ⟨qe, fe⟩ := pe_s f1
    obtain ⟨p, e1, e2⟩ := bnd_s fe
    subst qe
    subst q1
    subst q0
    exact ⟨_, _, _, _, 6, rfl, (by decide), m_X12_waste N e1, e2⟩
  cases e
def C_law_1337 (N : Nat) : Nat → List Value → mH → (Option Value → mH → Option (Int32 × mH)) → Option (Int32 × mH) := fun j as g k => kb j 176 (pr1 as fun b0 as => pe as ((f_X11_cost N b0 g).bind fun p => k (some (.int p.1)) p.2)) (kb j 301 (pr1 as fun b0 as => pe as ((f_X12_cost N b0 g).bind fun p => k (some (.int p.1)) p.2)) (none))
theorem co_law_1337 (N : Nat) (q : Int32 × mH) : clOK 28 q (C_law_1337 N) := by
  intro j as g k e
  rcases kb_s e with ⟨rfl, e⟩ | e
  · obtain ⟨b0, r0, q0, f0⟩ := pr1_s e
    obtain ⟨qe, fe⟩ := pe_s f0
    obtain ⟨p, e1, e2⟩ := bnd_s fe
    subst qe
    subst q0
    exact ⟨_, _, _, _, 8, rfl, (by decide), m_X11_cost N e1, e2⟩
  rcases kb_s e with ⟨rfl, e⟩ | e
  · obtain ⟨b0, r0, q0, f0⟩ := pr1_s e
    obtain ⟨qe, fe⟩ := pe_s f0
    obtain ⟨p, e1, e2⟩ := bnd_s fe
    subst qe
    subst q0
    exact ⟨_, _, _, _, 7, rfl, (by decide), m_X12_cost N e1, e2⟩
  cases e
def C_law_1350 (N : Nat) : Nat → List Value → mH → (Option Value → mH → Option (Int32 × mH)) → Option (Int32 × mH) := fun j as g k => kb j 177 (pr1 as fun b0 as => pp1 as fun b1 as => pe as ((f_X11_cheaper N b0 b1 g).bind fun p => k (some (.int p.1)) p.2)) (kb j 302 (pr1 as fun b0 as => pp1 as fun b1 as => pe as ((f_X12_cheaper N b0 b1 g).bind fun p => k (some (.int p.1)) p.2)) (none))
theorem co_law_1350 (N : Nat) (q : Int32 × mH) : clOK 28 q (C_law_1350 N) := by
  intro j as g k e
  rcases kb_s e with ⟨rfl, e⟩ | e
  · obtain ⟨b0, r0, q0, f0⟩ := pr1_s e
    obtain ⟨b1, r1, q1, f1⟩ := pp1_s f0
    obtain ⟨qe, fe⟩ := pe_s f1
    obtain ⟨p, e1, e2⟩ := bnd_s fe
    subst qe
    subst q1
    subst q0
    exact ⟨_, _, _, _, 8, rfl, (by decide), m_X11_cheaper N e1, e2⟩
  rcases kb_s e with ⟨rfl, e⟩ | e
  · obtain ⟨b0, r0, q0, f0⟩ := pr1_s e
    obtain ⟨b1, r1, q1, f1⟩ := pp1_s f0
    obtain ⟨qe, fe⟩ := pe_s f1
    obtain ⟨p, e1, e2⟩ := bnd_s fe
    subst qe
    subst q1
    subst q0
    exact ⟨_, _, _, _, 6, rfl, (by decide), m_X12_cheaper N e1, e2⟩
  cases e
def C_law_1373 (N : Nat) : Nat → List Value → mH → (Option Value → mH → Option (Int32 × mH)) → Option (Int32 × mH) := fun j as g k => none
theorem co_law_1373 (N : Nat) (q : Int32 × mH) : clOK 28 q (C_law_1373 N) := by
  intro j as g k e
  cases e
def C_law_1392 (N : Nat) : Nat → List Value → mH → (Option Value → mH → Option (Int32 × mH)) → Option (Int32 × mH) := fun j as g k => kb j 178 (pr1 as fun b0 as => pp1 as fun b1 as => pp1 as fun b2 as => pe as ((f_X11_joins N b0 b1 b2 g).bind fun p => k (some (.int p.1)) p.2)) (kb j 304 (pr1 as fun b0 as => pp1 as fun b1 as => pp1 as fun b2 as => pe as ((f_X12_joins N b0 b1 b2 g).bind fun p => k (some (.int p.1)) p.2)) (none))
theorem co_law_1392 (N : Nat) (q : Int32 × mH) : clOK 28 q (C_law_1392 N) := by
  intro j as g k e
  rcases kb_s e with ⟨rfl, e⟩ | e
  · obtain ⟨b0, r0, q0, f0⟩ := pr1_s e
    obtain ⟨b1, r1, q1, f1⟩ := pp1_s f0
    obtain ⟨b2, r2, q2, f2⟩ := pp1_s f1
    obtain ⟨qe, fe⟩ := pe_s f2
    obtain ⟨p, e1, e2⟩ := bnd_s fe
    subst qe
    subst q2
    subst q1
    subst q0
    exact ⟨_, _, _, _, 10, rfl, (by decide), m_X11_joins N e1, e2⟩
  rcases kb_s e with ⟨rfl, e⟩ | e
  · obtain ⟨b0, r0, q0, f0⟩ := pr1_s e
    obtain ⟨b1, r1, q1, f1⟩ := pp1_s f0
    obtain ⟨b2, r2, q2, f2⟩ := pp1_s f1
    obtain ⟨qe, fe⟩ := pe_s f2
    obtain ⟨p, e1, e2⟩ := bnd_s fe
    subst qe
    subst q2
    subst q1
    subst q0
    exact ⟨_, _, _, _, 7, rfl, (by decide), m_X12_joins N e1, e2⟩
  cases e
def C_law_1422 (N : Nat) : Nat → List Value → mH → (Option Value → mH → Option (Int32 × mH)) → Option (Int32 × mH) := fun j as g k => kb j 179 (pr1 as fun b0 as => pp1 as fun b1 as => pp1 as fun b2 as => pe as ((f_X11_hide N b0 b1 b2 g).bind fun p => k (some (.int p.1)) p.2)) (kb j 305 (pr1 as fun b0 as => pp1 as fun b1 as => pp1 as fun b2 as => pe as ((f_X12_hide N b0 b1 b2 g).bind fun p => k (some (.int p.1)) p.2)) (none))
theorem co_law_1422 (N : Nat) (q : Int32 × mH) : clOK 28 q (C_law_1422 N) := by
  intro j as g k e
  rcases kb_s e with ⟨rfl, e⟩ | e
  · obtain ⟨b0, r0, q0, f0⟩ := pr1_s e
    obtain ⟨b1, r1, q1, f1⟩ := pp1_s f0
    obtain ⟨b2, r2, q2, f2⟩ := pp1_s f1
    obtain ⟨qe, fe⟩ := pe_s f2
    obtain ⟨p, e1, e2⟩ := bnd_s fe
    subst qe
    subst q2
    subst q1
    subst q0
    exact ⟨_, _, _, _, 10, rfl, (by decide), m_X11_hide N e1, e2⟩
  rcases kb_s e with ⟨rfl, e⟩ | e
  · obtain ⟨b0, r0, q0, f0⟩ := pr1_s e
    obtain ⟨b1, r1, q1, f1⟩ := pp1_s f0
    obtain ⟨b2, r2, q2, f2⟩ := pp1_s f1
    obtain ⟨qe, fe⟩ := pe_s f2
    obtain ⟨p, e1, e2⟩ := bnd_s fe
    subst qe
    subst q2
    subst q1
    subst q0
    exact ⟨_, _, _, _, 7, rfl, (by decide), m_X12_hide N e1, e2⟩
  cases e
def C_law_1455 (N : Nat) : Nat → List Value → mH → (Option Value → mH → Option (Int32 × mH)) → Option (Int32 × mH) := fun j as g k => kb j 180 (pr1 as fun b0 as => pp1 as fun b1 as => pp1 as fun b2 as => pp1 as fun b3 as => pe as ((f_X11_reach N b0 b1 b2 b3 g).bind fun p => k (some (.int p.1)) p.2)) (kb j 307 (pr1 as fun b0 as => pp1 as fun b1 as => pp1 as fun b2 as => pp1 as fun b3 as => pe as ((f_X12_reach N b0 b1 b2 b3 g).bind fun p => k (some (.int p.1)) p.2)) (none))
theorem co_law_1455 (N : Nat) (q : Int32 × mH) : clOK 28 q (C_law_1455 N) := by
  intro j as g k e
  rcases kb_s e with ⟨rfl, e⟩ | e
  · obtain ⟨b0, r0, q0, f0⟩ := pr1_s e
    obtain ⟨b1, r1, q1, f1⟩ := pp1_s f0
    obtain ⟨b2, r2, q2, f2⟩ := pp1_s f1
    obtain ⟨b3, r3, q3, f3⟩ := pp1_s f2
    obtain ⟨qe, fe⟩ := pe_s f3
    obtain ⟨p, e1, e2⟩ := bnd_s fe
    subst qe
    subst q3
    subst q2
    subst q1
    subst q0
    exact ⟨_, _, _, _, 7, rfl, (by decide), m_X11_reach N e1, e2⟩
  rcases kb_s e with ⟨rfl, e⟩ | e
  · obtain ⟨b0, r0, q0, f0⟩ := pr1_s e
    obtain ⟨b1, r1, q1, f1⟩ := pp1_s f0
    obtain ⟨b2, r2, q2, f2⟩ := pp1_s f1
    obtain ⟨b3, r3, q3, f3⟩ := pp1_s f2
    obtain ⟨qe, fe⟩ := pe_s f3
    obtain ⟨p, e1, e2⟩ := bnd_s fe
    subst qe
    subst q3
    subst q2
    subst q1
    subst q0
    exact ⟨_, _, _, _, 6, rfl, (by decide), m_X12_reach N e1, e2⟩
  cases e
def C_law_1498 (N : Nat) : Nat → List Value → mH → (Option Value → mH → Option (Int32 × mH)) → Option (Int32 × mH) := fun j as g k => kb j 181 (pr1 as fun b0 as => pp1 as fun b1 as => pp1 as fun b2 as => pe as ((f_X11_nest N b0 b1 b2 g).bind fun p => k (some (.int p.1)) p.2)) (kb j 308 (pr1 as fun b0 as => pp1 as fun b1 as => pp1 as fun b2 as => pe as ((f_X12_nest N b0 b1 b2 g).bind fun p => k (some (.int p.1)) p.2)) (none))
theorem co_law_1498 (N : Nat) (q : Int32 × mH) : clOK 28 q (C_law_1498 N) := by
  intro j as g k e
  rcases kb_s e with ⟨rfl, e⟩ | e
  · obtain ⟨b0, r0, q0, f0⟩ := pr1_s e
    obtain ⟨b1, r1, q1, f1⟩ := pp1_s f0
    obtain ⟨b2, r2, q2, f2⟩ := pp1_s f1
    obtain ⟨qe, fe⟩ := pe_s f2
    obtain ⟨p, e1, e2⟩ := bnd_s fe
    subst qe
    subst q2
    subst q1
    subst q0
    exact ⟨_, _, _, _, 6, rfl, (by decide), m_X11_nest N e1, e2⟩
  rcases kb_s e with ⟨rfl, e⟩ | e
  · obtain ⟨b0, r0, q0, f0⟩ := pr1_s e
    obtain ⟨b1, r1, q1, f1⟩ := pp1_s f0
    obtain ⟨b2, r2, q2, f2⟩ := pp1_s f1
    obtain ⟨qe, fe⟩ := pe_s f2
    obtain ⟨p, e1, e2⟩ := bnd_s fe
    subst qe
    subst q2
    subst q1
    subst q0
    exact ⟨_, _, _, _, 6, rfl, (by decide), m_X12_nest N e1, e2⟩
  cases e
def C_law_1531 (N : Nat) : Nat → List Value → mH → (Option Value → mH → Option (Int32 × mH)) → Option (Int32 × mH) := fun j as g k => kb j 182 (pr1 as fun b0 as => pp1 as fun b1 as => pp1 as fun b2 as => pp1 as fun b3 as => pe as ((f_X11_plait N b0 b1 b2 b3 g).bind fun p => k (some (.int p.1)) p.2)) (kb j 309 (pr1 as fun b0 as => pp1 as fun b1 as => pp1 as fun b2 as => pp1 as fun b3 as => pe as ((f_X12_plait N b0 b1 b2 b3 g).bind fun p => k (some (.int p.1)) p.2)) (none))
theorem co_law_1531 (N : Nat) (q : Int32 × mH) : clOK 28 q (C_law_1531 N) := by
  intro j as g k e
  rcases kb_s e with ⟨rfl, e⟩ | e
  · obtain ⟨b0, r0, q0, f0⟩ := pr1_s e
    obtain ⟨b1, r1, q1, f1⟩ := pp1_s f0
    obtain ⟨b2, r2, q2, f2⟩ := pp1_s f1
    obtain ⟨b3, r3, q3, f3⟩ := pp1_s f2
    obtain ⟨qe, fe⟩ := pe_s f3
    obtain ⟨p, e1, e2⟩ := bnd_s fe
    subst qe
    subst q3
    subst q2
    subst q1
    subst q0
    exact ⟨_, _, _, _, 6, rfl, (by decide), m_X11_plait N e1, e2⟩
  rcases kb_s e with ⟨rfl, e⟩ | e
  · obtain ⟨b0, r0, q0, f0⟩ := pr1_s e
    obtain ⟨b1, r1, q1, f1⟩ := pp1_s f0
    obtain ⟨b2, r2, q2, f2⟩ := pp1_s f1
    obtain ⟨b3, r3, q3, f3⟩ := pp1_s f2
    obtain ⟨qe, fe⟩ := pe_s f3
    obtain ⟨p, e1, e2⟩ := bnd_s fe
    subst qe
    subst q3
    subst q2
    subst q1
    subst q0
    exact ⟨_, _, _, _, 6, rfl, (by decide), m_X12_plait N e1, e2⟩
  cases e
def C_law_1574 (N : Nat) : Nat → List Value → mH → (Option Value → mH → Option (Int32 × mH)) → Option (Int32 × mH) := fun j as g k => kb j 183 (pr1 as fun b0 as => pp1 as fun b1 as => pp1 as fun b2 as => pe as ((f_X11_even N b0 b1 b2 g).bind fun p => k (some (.int p.1)) p.2)) (kb j 312 (pr1 as fun b0 as => pp1 as fun b1 as => pp1 as fun b2 as => pe as ((f_X12_even N b0 b1 b2 g).bind fun p => k (some (.int p.1)) p.2)) (none))
theorem co_law_1574 (N : Nat) (q : Int32 × mH) : clOK 28 q (C_law_1574 N) := by
  intro j as g k e
  rcases kb_s e with ⟨rfl, e⟩ | e
  · obtain ⟨b0, r0, q0, f0⟩ := pr1_s e
    obtain ⟨b1, r1, q1, f1⟩ := pp1_s f0
    obtain ⟨b2, r2, q2, f2⟩ := pp1_s f1
    obtain ⟨qe, fe⟩ := pe_s f2
    obtain ⟨p, e1, e2⟩ := bnd_s fe
    subst qe
    subst q2
    subst q1
    subst q0
    exact ⟨_, _, _, _, 27, rfl, (by decide), m_X11_even N e1, e2⟩
  rcases kb_s e with ⟨rfl, e⟩ | e
  · obtain ⟨b0, r0, q0, f0⟩ := pr1_s e
    obtain ⟨b1, r1, q1, f1⟩ := pp1_s f0
    obtain ⟨b2, r2, q2, f2⟩ := pp1_s f1
    obtain ⟨qe, fe⟩ := pe_s f2
    obtain ⟨p, e1, e2⟩ := bnd_s fe
    subst qe
    subst q2
    subst q1
    subst q0
    exact ⟨_, _, _, _, 26, rfl, (by decide), m_X12_even N e1, e2⟩
  cases e
def C_law_1607 (N : Nat) : Nat → List Value → mH → (Option Value → mH → Option (Int32 × mH)) → Option (Int32 × mH) := fun j as g k => none
theorem co_law_1607 (N : Nat) (q : Int32 × mH) : clOK 28 q (C_law_1607 N) := by
  intro j as g k e
  cases e
def C_law_1626 (N : Nat) : Nat → List Value → mH → (Option Value → mH → Option (Int32 × mH)) → Option (Int32 × mH) := fun j as g k => kb j 184 (pr1 as fun b0 as => pp1 as fun b1 as => pp1 as fun b2 as => pe as ((f_X11_height N b0 b1 b2 g).bind fun p => k (some (.int p.1)) p.2)) (kb j 314 (pr1 as fun b0 as => pp1 as fun b1 as => pp1 as fun b2 as => pe as ((f_X12_height N b0 b1 b2 g).bind fun p => k (some (.int p.1)) p.2)) (none))
theorem co_law_1626 (N : Nat) (q : Int32 × mH) : clOK 28 q (C_law_1626 N) := by
  intro j as g k e
  rcases kb_s e with ⟨rfl, e⟩ | e
  · obtain ⟨b0, r0, q0, f0⟩ := pr1_s e
    obtain ⟨b1, r1, q1, f1⟩ := pp1_s f0
    obtain ⟨b2, r2, q2, f2⟩ := pp1_s f1
    obtain ⟨qe, fe⟩ := pe_s f2
    obtain ⟨p, e1, e2⟩ := bnd_s fe
    subst qe
    subst q2
    subst q1
    subst q0
    exact ⟨_, _, _, _, 7, rfl, (by decide), m_X11_height N e1, e2⟩
  rcases kb_s e with ⟨rfl, e⟩ | e
  · obtain ⟨b0, r0, q0, f0⟩ := pr1_s e
    obtain ⟨b1, r1, q1, f1⟩ := pp1_s f0
    obtain ⟨b2, r2, q2, f2⟩ := pp1_s f1
    obtain ⟨qe, fe⟩ := pe_s f2
    obtain ⟨p, e1, e2⟩ := bnd_s fe
    subst qe
    subst q2
    subst q1
    subst q0
    exact ⟨_, _, _, _, 6, rfl, (by decide), m_X12_height N e1, e2⟩
  cases e
def C_law_1656 (N : Nat) : Nat → List Value → mH → (Option Value → mH → Option (Int32 × mH)) → Option (Int32 × mH) := fun j as g k => kb j 185 (pr1 as fun b0 as => pe as ((f_X11_loose N b0 g).bind fun p => k (some (.int p.1)) p.2)) (kb j 315 (pr1 as fun b0 as => pe as ((f_X12_loose N b0 g).bind fun p => k (some (.int p.1)) p.2)) (none))
theorem co_law_1656 (N : Nat) (q : Int32 × mH) : clOK 28 q (C_law_1656 N) := by
  intro j as g k e
  rcases kb_s e with ⟨rfl, e⟩ | e
  · obtain ⟨b0, r0, q0, f0⟩ := pr1_s e
    obtain ⟨qe, fe⟩ := pe_s f0
    obtain ⟨p, e1, e2⟩ := bnd_s fe
    subst qe
    subst q0
    exact ⟨_, _, _, _, 8, rfl, (by decide), m_X11_loose N e1, e2⟩
  rcases kb_s e with ⟨rfl, e⟩ | e
  · obtain ⟨b0, r0, q0, f0⟩ := pr1_s e
    obtain ⟨qe, fe⟩ := pe_s f0
    obtain ⟨p, e1, e2⟩ := bnd_s fe
    subst qe
    subst q0
    exact ⟨_, _, _, _, 6, rfl, (by decide), m_X12_loose N e1, e2⟩
  cases e
def C_law_1669 (N : Nat) : Nat → List Value → mH → (Option Value → mH → Option (Int32 × mH)) → Option (Int32 × mH) := fun j as g k => kb j 186 (pr1 as fun b0 as => pp1 as fun b1 as => pe as ((f_X11_hold N b0 b1 g).bind fun p => k (some (.int p.1)) p.2)) (kb j 317 (pr1 as fun b0 as => pp1 as fun b1 as => pe as ((f_X12_hold N b0 b1 g).bind fun p => k (some (.int p.1)) p.2)) (none))
theorem co_law_1669 (N : Nat) (q : Int32 × mH) : clOK 28 q (C_law_1669 N) := by
  intro j as g k e
  rcases kb_s e with ⟨rfl, e⟩ | e
  · obtain ⟨b0, r0, q0, f0⟩ := pr1_s e
    obtain ⟨b1, r1, q1, f1⟩ := pp1_s f0
    obtain ⟨qe, fe⟩ := pe_s f1
    obtain ⟨p, e1, e2⟩ := bnd_s fe
    subst qe
    subst q1
    subst q0
    exact ⟨_, _, _, _, 10, rfl, (by decide), m_X11_hold N e1, e2⟩
  rcases kb_s e with ⟨rfl, e⟩ | e
  · obtain ⟨b0, r0, q0, f0⟩ := pr1_s e
    obtain ⟨b1, r1, q1, f1⟩ := pp1_s f0
    obtain ⟨qe, fe⟩ := pe_s f1
    obtain ⟨p, e1, e2⟩ := bnd_s fe
    subst qe
    subst q1
    subst q0
    exact ⟨_, _, _, _, 7, rfl, (by decide), m_X12_hold N e1, e2⟩
  cases e
def C_law_1692 (N : Nat) : Nat → List Value → mH → (Option Value → mH → Option (Int32 × mH)) → Option (Int32 × mH) := fun j as g k => kb j 187 (pr1 as fun b0 as => pp1 as fun b1 as => pe as ((f_X11_gives N b0 b1 g).bind fun p => k (some (.int p.1)) p.2)) (kb j 318 (pr1 as fun b0 as => pp1 as fun b1 as => pe as ((f_X12_gives N b0 b1 g).bind fun p => k (some (.int p.1)) p.2)) (none))
theorem co_law_1692 (N : Nat) (q : Int32 × mH) : clOK 28 q (C_law_1692 N) := by
  intro j as g k e
  rcases kb_s e with ⟨rfl, e⟩ | e
  · obtain ⟨b0, r0, q0, f0⟩ := pr1_s e
    obtain ⟨b1, r1, q1, f1⟩ := pp1_s f0
    obtain ⟨qe, fe⟩ := pe_s f1
    obtain ⟨p, e1, e2⟩ := bnd_s fe
    subst qe
    subst q1
    subst q0
    exact ⟨_, _, _, _, 10, rfl, (by decide), m_X11_gives N e1, e2⟩
  rcases kb_s e with ⟨rfl, e⟩ | e
  · obtain ⟨b0, r0, q0, f0⟩ := pr1_s e
    obtain ⟨b1, r1, q1, f1⟩ := pp1_s f0
    obtain ⟨qe, fe⟩ := pe_s f1
    obtain ⟨p, e1, e2⟩ := bnd_s fe
    subst qe
    subst q1
    subst q0
    exact ⟨_, _, _, _, 7, rfl, (by decide), m_X12_gives N e1, e2⟩
  cases e
def C_law_1715 (N : Nat) : Nat → List Value → mH → (Option Value → mH → Option (Int32 × mH)) → Option (Int32 × mH) := fun j as g k => kb j 188 (pr1 as fun b0 as => pp1 as fun b1 as => pe as ((f_X11_width N b0 b1 g).bind fun p => k (some (.int p.1)) p.2)) (kb j 320 (pr1 as fun b0 as => pp1 as fun b1 as => pe as ((f_X12_width N b0 b1 g).bind fun p => k (some (.int p.1)) p.2)) (none))
theorem co_law_1715 (N : Nat) (q : Int32 × mH) : clOK 28 q (C_law_1715 N) := by
  intro j as g k e
  rcases kb_s e with ⟨rfl, e⟩ | e
  · obtain ⟨b0, r0, q0, f0⟩ := pr1_s e
    obtain ⟨b1, r1, q1, f1⟩ := pp1_s f0
    obtain ⟨qe, fe⟩ := pe_s f1
    obtain ⟨p, e1, e2⟩ := bnd_s fe
    subst qe
    subst q1
    subst q0
    exact ⟨_, _, _, _, 6, rfl, (by decide), m_X11_width N e1, e2⟩
  rcases kb_s e with ⟨rfl, e⟩ | e
  · obtain ⟨b0, r0, q0, f0⟩ := pr1_s e
    obtain ⟨b1, r1, q1, f1⟩ := pp1_s f0
    obtain ⟨qe, fe⟩ := pe_s f1
    obtain ⟨p, e1, e2⟩ := bnd_s fe
    subst qe
    subst q1
    subst q0
    exact ⟨_, _, _, _, 6, rfl, (by decide), m_X12_width N e1, e2⟩
  cases e
def C_law_1738 (N : Nat) : Nat → List Value → mH → (Option Value → mH → Option (Int32 × mH)) → Option (Int32 × mH) := fun j as g k => kb j 189 (pr1 as fun b0 as => pp1 as fun b1 as => pp1 as fun b2 as => pp1 as fun b3 as => pe as ((f_X11_bowl N b0 b1 b2 b3 g).bind fun p => k (some (.int p.1)) p.2)) (kb j 326 (pr1 as fun b0 as => pp1 as fun b1 as => pp1 as fun b2 as => pp1 as fun b3 as => pe as ((f_X12_bowl N b0 b1 b2 b3 g).bind fun p => k (some (.int p.1)) p.2)) (none))
theorem co_law_1738 (N : Nat) (q : Int32 × mH) : clOK 28 q (C_law_1738 N) := by
  intro j as g k e
  rcases kb_s e with ⟨rfl, e⟩ | e
  · obtain ⟨b0, r0, q0, f0⟩ := pr1_s e
    obtain ⟨b1, r1, q1, f1⟩ := pp1_s f0
    obtain ⟨b2, r2, q2, f2⟩ := pp1_s f1
    obtain ⟨b3, r3, q3, f3⟩ := pp1_s f2
    obtain ⟨qe, fe⟩ := pe_s f3
    obtain ⟨p, e1, e2⟩ := bnd_s fe
    subst qe
    subst q3
    subst q2
    subst q1
    subst q0
    exact ⟨_, _, _, _, 9, rfl, (by decide), m_X11_bowl N e1, e2⟩
  rcases kb_s e with ⟨rfl, e⟩ | e
  · obtain ⟨b0, r0, q0, f0⟩ := pr1_s e
    obtain ⟨b1, r1, q1, f1⟩ := pp1_s f0
    obtain ⟨b2, r2, q2, f2⟩ := pp1_s f1
    obtain ⟨b3, r3, q3, f3⟩ := pp1_s f2
    obtain ⟨qe, fe⟩ := pe_s f3
    obtain ⟨p, e1, e2⟩ := bnd_s fe
    subst qe
    subst q3
    subst q2
    subst q1
    subst q0
    exact ⟨_, _, _, _, 7, rfl, (by decide), m_X12_bowl N e1, e2⟩
  cases e
def C_law_1781 (N : Nat) : Nat → List Value → mH → (Option Value → mH → Option (Int32 × mH)) → Option (Int32 × mH) := fun j as g k => kb j 190 (pr1 as fun b0 as => pp1 as fun b1 as => pp1 as fun b2 as => pe as ((f_X11_wander N b0 b1 b2 g).bind fun p => k (some (.int p.1)) p.2)) (kb j 327 (pr1 as fun b0 as => pp1 as fun b1 as => pp1 as fun b2 as => pe as ((f_X12_wander N b0 b1 b2 g).bind fun p => k (some (.int p.1)) p.2)) (none))
theorem co_law_1781 (N : Nat) (q : Int32 × mH) : clOK 28 q (C_law_1781 N) := by
  intro j as g k e
  rcases kb_s e with ⟨rfl, e⟩ | e
  · obtain ⟨b0, r0, q0, f0⟩ := pr1_s e
    obtain ⟨b1, r1, q1, f1⟩ := pp1_s f0
    obtain ⟨b2, r2, q2, f2⟩ := pp1_s f1
    obtain ⟨qe, fe⟩ := pe_s f2
    obtain ⟨p, e1, e2⟩ := bnd_s fe
    subst qe
    subst q2
    subst q1
    subst q0
    exact ⟨_, _, _, _, 6, rfl, (by decide), m_X11_wander N e1, e2⟩
  rcases kb_s e with ⟨rfl, e⟩ | e
  · obtain ⟨b0, r0, q0, f0⟩ := pr1_s e
    obtain ⟨b1, r1, q1, f1⟩ := pp1_s f0
    obtain ⟨b2, r2, q2, f2⟩ := pp1_s f1
    obtain ⟨qe, fe⟩ := pe_s f2
    obtain ⟨p, e1, e2⟩ := bnd_s fe
    subst qe
    subst q2
    subst q1
    subst q0
    exact ⟨_, _, _, _, 5, rfl, (by decide), m_X12_wander N e1, e2⟩
  cases e
def C_law_1814 (N : Nat) : Nat → List Value → mH → (Option Value → mH → Option (Int32 × mH)) → Option (Int32 × mH) := fun j as g k => kb j 191 (pr1 as fun b0 as => pp1 as fun b1 as => pe as ((f_X11_closes N b0 b1 g).bind fun p => k (some (.int p.1)) p.2)) (kb j 329 (pr1 as fun b0 as => pp1 as fun b1 as => pe as ((f_X12_closes N b0 b1 g).bind fun p => k (some (.int p.1)) p.2)) (none))
theorem co_law_1814 (N : Nat) (q : Int32 × mH) : clOK 28 q (C_law_1814 N) := by
  intro j as g k e
  rcases kb_s e with ⟨rfl, e⟩ | e
  · obtain ⟨b0, r0, q0, f0⟩ := pr1_s e
    obtain ⟨b1, r1, q1, f1⟩ := pp1_s f0
    obtain ⟨qe, fe⟩ := pe_s f1
    obtain ⟨p, e1, e2⟩ := bnd_s fe
    subst qe
    subst q1
    subst q0
    exact ⟨_, _, _, _, 5, rfl, (by decide), m_X11_closes N e1, e2⟩
  rcases kb_s e with ⟨rfl, e⟩ | e
  · obtain ⟨b0, r0, q0, f0⟩ := pr1_s e
    obtain ⟨b1, r1, q1, f1⟩ := pp1_s f0
    obtain ⟨qe, fe⟩ := pe_s f1
    obtain ⟨p, e1, e2⟩ := bnd_s fe
    subst qe
    subst q1
    subst q0
    exact ⟨_, _, _, _, 5, rfl, (by decide), m_X12_closes N e1, e2⟩
  cases e
def C_law_1837 (N : Nat) : Nat → List Value → mH → (Option Value → mH → Option (Int32 × mH)) → Option (Int32 × mH) := fun j as g k => kb j 192 (pr1 as fun b0 as => pp1 as fun b1 as => pp1 as fun b2 as => pp1 as fun b3 as => pe as ((f_X11_border N b0 b1 b2 b3 g).bind fun p => k (some (.int p.1)) p.2)) (kb j 330 (pr1 as fun b0 as => pp1 as fun b1 as => pp1 as fun b2 as => pp1 as fun b3 as => pe as ((f_X12_border N b0 b1 b2 b3 g).bind fun p => k (some (.int p.1)) p.2)) (none))
theorem co_law_1837 (N : Nat) (q : Int32 × mH) : clOK 28 q (C_law_1837 N) := by
  intro j as g k e
  rcases kb_s e with ⟨rfl, e⟩ | e
  · obtain ⟨b0, r0, q0, f0⟩ := pr1_s e
    obtain ⟨b1, r1, q1, f1⟩ := pp1_s f0
    obtain ⟨b2, r2, q2, f2⟩ := pp1_s f1
    obtain ⟨b3, r3, q3, f3⟩ := pp1_s f2
    obtain ⟨qe, fe⟩ := pe_s f3
    obtain ⟨p, e1, e2⟩ := bnd_s fe
    subst qe
    subst q3
    subst q2
    subst q1
    subst q0
    exact ⟨_, _, _, _, 7, rfl, (by decide), m_X11_border N e1, e2⟩
  rcases kb_s e with ⟨rfl, e⟩ | e
  · obtain ⟨b0, r0, q0, f0⟩ := pr1_s e
    obtain ⟨b1, r1, q1, f1⟩ := pp1_s f0
    obtain ⟨b2, r2, q2, f2⟩ := pp1_s f1
    obtain ⟨b3, r3, q3, f3⟩ := pp1_s f2
    obtain ⟨qe, fe⟩ := pe_s f3
    obtain ⟨p, e1, e2⟩ := bnd_s fe
    subst qe
    subst q3
    subst q2
    subst q1
    subst q0
    exact ⟨_, _, _, _, 5, rfl, (by decide), m_X12_border N e1, e2⟩
  cases e
def C_law_1880 (N : Nat) : Nat → List Value → mH → (Option Value → mH → Option (Int32 × mH)) → Option (Int32 × mH) := fun j as g k => kb j 193 (pr1 as fun b0 as => pp1 as fun b1 as => pp1 as fun b2 as => pe as ((f_X11_ways N b0 b1 b2 g).bind fun p => k (some (.int p.1)) p.2)) (kb j 331 (pr1 as fun b0 as => pp1 as fun b1 as => pp1 as fun b2 as => pe as ((f_X12_ways N b0 b1 b2 g).bind fun p => k (some (.int p.1)) p.2)) (none))
theorem co_law_1880 (N : Nat) (q : Int32 × mH) : clOK 28 q (C_law_1880 N) := by
  intro j as g k e
  rcases kb_s e with ⟨rfl, e⟩ | e
  · obtain ⟨b0, r0, q0, f0⟩ := pr1_s e
    obtain ⟨b1, r1, q1, f1⟩ := pp1_s f0
    obtain ⟨b2, r2, q2, f2⟩ := pp1_s f1
    obtain ⟨qe, fe⟩ := pe_s f2
    obtain ⟨p, e1, e2⟩ := bnd_s fe
    subst qe
    subst q2
    subst q1
    subst q0
    exact ⟨_, _, _, _, 6, rfl, (by decide), m_X11_ways N e1, e2⟩
  rcases kb_s e with ⟨rfl, e⟩ | e
  · obtain ⟨b0, r0, q0, f0⟩ := pr1_s e
    obtain ⟨b1, r1, q1, f1⟩ := pp1_s f0
    obtain ⟨b2, r2, q2, f2⟩ := pp1_s f1
    obtain ⟨qe, fe⟩ := pe_s f2
    obtain ⟨p, e1, e2⟩ := bnd_s fe
    subst qe
    subst q2
    subst q1
    subst q0
    exact ⟨_, _, _, _, 5, rfl, (by decide), m_X12_ways N e1, e2⟩
  cases e
def C_law_1913 (N : Nat) : Nat → List Value → mH → (Option Value → mH → Option (Int32 × mH)) → Option (Int32 × mH) := fun j as g k => kb j 194 (pr1 as fun b0 as => pp1 as fun b1 as => pe as ((f_X11_taught N b0 b1 g).bind fun p => k (some (.int p.1)) p.2)) (kb j 334 (pr1 as fun b0 as => pp1 as fun b1 as => pe as ((f_X12_taught N b0 b1 g).bind fun p => k (some (.int p.1)) p.2)) (none))
theorem co_law_1913 (N : Nat) (q : Int32 × mH) : clOK 28 q (C_law_1913 N) := by
  intro j as g k e
  rcases kb_s e with ⟨rfl, e⟩ | e
  · obtain ⟨b0, r0, q0, f0⟩ := pr1_s e
    obtain ⟨b1, r1, q1, f1⟩ := pp1_s f0
    obtain ⟨qe, fe⟩ := pe_s f1
    obtain ⟨p, e1, e2⟩ := bnd_s fe
    subst qe
    subst q1
    subst q0
    exact ⟨_, _, _, _, 8, rfl, (by decide), m_X11_taught N e1, e2⟩
  rcases kb_s e with ⟨rfl, e⟩ | e
  · obtain ⟨b0, r0, q0, f0⟩ := pr1_s e
    obtain ⟨b1, r1, q1, f1⟩ := pp1_s f0
    obtain ⟨qe, fe⟩ := pe_s f1
    obtain ⟨p, e1, e2⟩ := bnd_s fe
    subst qe
    subst q1
    subst q0
    exact ⟨_, _, _, _, 6, rfl, (by decide), m_X12_taught N e1, e2⟩
  cases e
def C_law_1936 (N : Nat) : Nat → List Value → mH → (Option Value → mH → Option (Int32 × mH)) → Option (Int32 × mH) := fun j as g k => kb j 195 (pr1 as fun b0 as => pp1 as fun b1 as => pp1 as fun b2 as => pp1 as fun b3 as => pp1 as fun b4 as => pp1 as fun b5 as => pe as ((f_X11_lid N b0 b1 b2 b3 b4 b5 g).bind fun p => k (some (.int p.1)) p.2)) (kb j 336 (pr1 as fun b0 as => pp1 as fun b1 as => pp1 as fun b2 as => pp1 as fun b3 as => pp1 as fun b4 as => pp1 as fun b5 as => pe as ((f_X12_lid N b0 b1 b2 b3 b4 b5 g).bind fun p => k (some (.int p.1)) p.2)) (none))
theorem co_law_1936 (N : Nat) (q : Int32 × mH) : clOK 28 q (C_law_1936 N) := by
  intro j as g k e
  rcases kb_s e with ⟨rfl, e⟩ | e
  · obtain ⟨b0, r0, q0, f0⟩ := pr1_s e
    obtain ⟨b1, r1, q1, f1⟩ := pp1_s f0
    obtain ⟨b2, r2, q2, f2⟩ := pp1_s f1
    obtain ⟨b3, r3, q3, f3⟩ := pp1_s f2
    obtain ⟨b4, r4, q4, f4⟩ := pp1_s f3
    obtain ⟨b5, r5, q5, f5⟩ := pp1_s f4
    obtain ⟨qe, fe⟩ := pe_s f5
    obtain ⟨p, e1, e2⟩ := bnd_s fe
    subst qe
    subst q5
    subst q4
    subst q3
    subst q2
    subst q1
    subst q0
    exact ⟨_, _, _, _, 6, rfl, (by decide), m_X11_lid N e1, e2⟩
  rcases kb_s e with ⟨rfl, e⟩ | e
  · obtain ⟨b0, r0, q0, f0⟩ := pr1_s e
    obtain ⟨b1, r1, q1, f1⟩ := pp1_s f0
    obtain ⟨b2, r2, q2, f2⟩ := pp1_s f1
    obtain ⟨b3, r3, q3, f3⟩ := pp1_s f2
    obtain ⟨b4, r4, q4, f4⟩ := pp1_s f3
    obtain ⟨b5, r5, q5, f5⟩ := pp1_s f4
    obtain ⟨qe, fe⟩ := pe_s f5
    obtain ⟨p, e1, e2⟩ := bnd_s fe
    subst qe
    subst q5
    subst q4
    subst q3
    subst q2
    subst q1
    subst q0
    exact ⟨_, _, _, _, 6, rfl, (by decide), m_X12_lid N e1, e2⟩
  cases e
def C_law_1999 (N : Nat) : Nat → List Value → mH → (Option Value → mH → Option (Int32 × mH)) → Option (Int32 × mH) := fun j as g k => kb j 196 (pr1 as fun b0 as => pp1 as fun b1 as => pp1 as fun b2 as => pp1 as fun b3 as => pe as ((f_X11_numbers N b0 b1 b2 b3 g).bind fun p => k (some (.int p.1)) p.2)) (kb j 338 (pr1 as fun b0 as => pp1 as fun b1 as => pp1 as fun b2 as => pp1 as fun b3 as => pe as ((f_X12_numbers N b0 b1 b2 b3 g).bind fun p => k (some (.int p.1)) p.2)) (none))
theorem co_law_1999 (N : Nat) (q : Int32 × mH) : clOK 28 q (C_law_1999 N) := by
  intro j as g k e
  rcases kb_s e with ⟨rfl, e⟩ | e
  · obtain ⟨b0, r0, q0, f0⟩ := pr1_s e
    obtain ⟨b1, r1, q1, f1⟩ := pp1_s f0
    obtain ⟨b2, r2, q2, f2⟩ := pp1_s f1
    obtain ⟨b3, r3, q3, f3⟩ := pp1_s f2
    obtain ⟨qe, fe⟩ := pe_s f3
    obtain ⟨p, e1, e2⟩ := bnd_s fe
    subst qe
    subst q3
    subst q2
    subst q1
    subst q0
    exact ⟨_, _, _, _, 6, rfl, (by decide), m_X11_numbers N e1, e2⟩
  rcases kb_s e with ⟨rfl, e⟩ | e
  · obtain ⟨b0, r0, q0, f0⟩ := pr1_s e
    obtain ⟨b1, r1, q1, f1⟩ := pp1_s f0
    obtain ⟨b2, r2, q2, f2⟩ := pp1_s f1
    obtain ⟨b3, r3, q3, f3⟩ := pp1_s f2
    obtain ⟨qe, fe⟩ := pe_s f3
    obtain ⟨p, e1, e2⟩ := bnd_s fe
    subst qe
    subst q3
    subst q2
    subst q1
    subst q0
    exact ⟨_, _, _, _, 5, rfl, (by decide), m_X12_numbers N e1, e2⟩
  cases e
def C_law_2042 (N : Nat) : Nat → List Value → mH → (Option Value → mH → Option (Int32 × mH)) → Option (Int32 × mH) := fun j as g k => kb j 197 (pr1 as fun b0 as => pp1 as fun b1 as => pp1 as fun b2 as => pl1 as fun b3 as => pe as ((f_X11_write N b0 b1 b2 b3 g).bind fun p => k (some (.long p.1)) p.2)) (kb j 339 (pr1 as fun b0 as => pp1 as fun b1 as => pp1 as fun b2 as => pl1 as fun b3 as => pe as ((f_X12_write N b0 b1 b2 b3 g).bind fun p => k (some (.long p.1)) p.2)) (none))
theorem co_law_2042 (N : Nat) (q : Int32 × mH) : clOK 28 q (C_law_2042 N) := by
  intro j as g k e
  rcases kb_s e with ⟨rfl, e⟩ | e
  · obtain ⟨b0, r0, q0, f0⟩ := pr1_s e
    obtain ⟨b1, r1, q1, f1⟩ := pp1_s f0
    obtain ⟨b2, r2, q2, f2⟩ := pp1_s f1
    obtain ⟨b3, r3, q3, f3⟩ := pl1_s f2
    obtain ⟨qe, fe⟩ := pe_s f3
    obtain ⟨p, e1, e2⟩ := bnd_s fe
    subst qe
    subst q3
    subst q2
    subst q1
    subst q0
    exact ⟨_, _, _, _, 6, rfl, (by decide), m_X11_write N e1, e2⟩
  rcases kb_s e with ⟨rfl, e⟩ | e
  · obtain ⟨b0, r0, q0, f0⟩ := pr1_s e
    obtain ⟨b1, r1, q1, f1⟩ := pp1_s f0
    obtain ⟨b2, r2, q2, f2⟩ := pp1_s f1
    obtain ⟨b3, r3, q3, f3⟩ := pl1_s f2
    obtain ⟨qe, fe⟩ := pe_s f3
    obtain ⟨p, e1, e2⟩ := bnd_s fe
    subst qe
    subst q3
    subst q2
    subst q1
    subst q0
    exact ⟨_, _, _, _, 5, rfl, (by decide), m_X12_write N e1, e2⟩
  cases e
def C_law_2116 (N : Nat) : Nat → List Value → mH → (Option Value → mH → Option (Int32 × mH)) → Option (Int32 × mH) := fun j as g k => kb j 198 (pr1 as fun b0 as => pp1 as fun b1 as => pp1 as fun b2 as => pp1 as fun b3 as => pp1 as fun b4 as => pe as ((f_X11_copy N b0 b1 b2 b3 b4 g).bind fun p => k (some (.int p.1)) p.2)) (kb j 340 (pr1 as fun b0 as => pp1 as fun b1 as => pp1 as fun b2 as => pp1 as fun b3 as => pp1 as fun b4 as => pe as ((f_X12_copy N b0 b1 b2 b3 b4 g).bind fun p => k (some (.int p.1)) p.2)) (none))
theorem co_law_2116 (N : Nat) (q : Int32 × mH) : clOK 28 q (C_law_2116 N) := by
  intro j as g k e
  rcases kb_s e with ⟨rfl, e⟩ | e
  · obtain ⟨b0, r0, q0, f0⟩ := pr1_s e
    obtain ⟨b1, r1, q1, f1⟩ := pp1_s f0
    obtain ⟨b2, r2, q2, f2⟩ := pp1_s f1
    obtain ⟨b3, r3, q3, f3⟩ := pp1_s f2
    obtain ⟨b4, r4, q4, f4⟩ := pp1_s f3
    obtain ⟨qe, fe⟩ := pe_s f4
    obtain ⟨p, e1, e2⟩ := bnd_s fe
    subst qe
    subst q4
    subst q3
    subst q2
    subst q1
    subst q0
    exact ⟨_, _, _, _, 9, rfl, (by decide), m_X11_copy N e1, e2⟩
  rcases kb_s e with ⟨rfl, e⟩ | e
  · obtain ⟨b0, r0, q0, f0⟩ := pr1_s e
    obtain ⟨b1, r1, q1, f1⟩ := pp1_s f0
    obtain ⟨b2, r2, q2, f2⟩ := pp1_s f1
    obtain ⟨b3, r3, q3, f3⟩ := pp1_s f2
    obtain ⟨b4, r4, q4, f4⟩ := pp1_s f3
    obtain ⟨qe, fe⟩ := pe_s f4
    obtain ⟨p, e1, e2⟩ := bnd_s fe
    subst qe
    subst q4
    subst q3
    subst q2
    subst q1
    subst q0
    exact ⟨_, _, _, _, 7, rfl, (by decide), m_X12_copy N e1, e2⟩
  cases e
def C_law_2169 (N : Nat) : Nat → List Value → mH → (Option Value → mH → Option (Int32 × mH)) → Option (Int32 × mH) := fun j as g k => kb j 199 (pr1 as fun b0 as => pp1 as fun b1 as => pe as ((f_X11_image N b0 b1 g).bind fun p => k (some (.int p.1)) p.2)) (kb j 341 (pr1 as fun b0 as => pp1 as fun b1 as => pe as ((f_X12_image N b0 b1 g).bind fun p => k (some (.int p.1)) p.2)) (none))
theorem co_law_2169 (N : Nat) (q : Int32 × mH) : clOK 28 q (C_law_2169 N) := by
  intro j as g k e
  rcases kb_s e with ⟨rfl, e⟩ | e
  · obtain ⟨b0, r0, q0, f0⟩ := pr1_s e
    obtain ⟨b1, r1, q1, f1⟩ := pp1_s f0
    obtain ⟨qe, fe⟩ := pe_s f1
    obtain ⟨p, e1, e2⟩ := bnd_s fe
    subst qe
    subst q1
    subst q0
    exact ⟨_, _, _, _, 5, rfl, (by decide), m_X11_image N e1, e2⟩
  rcases kb_s e with ⟨rfl, e⟩ | e
  · obtain ⟨b0, r0, q0, f0⟩ := pr1_s e
    obtain ⟨b1, r1, q1, f1⟩ := pp1_s f0
    obtain ⟨qe, fe⟩ := pe_s f1
    obtain ⟨p, e1, e2⟩ := bnd_s fe
    subst qe
    subst q1
    subst q0
    exact ⟨_, _, _, _, 5, rfl, (by decide), m_X12_image N e1, e2⟩
  cases e
def C_law_2192 (N : Nat) : Nat → List Value → mH → (Option Value → mH → Option (Int32 × mH)) → Option (Int32 × mH) := fun j as g k => kb j 200 (pr1 as fun b0 as => pp1 as fun b1 as => pe as ((f_X11_restore N b0 b1 g).bind fun p => k (some (.int p.1)) p.2)) (kb j 342 (pr1 as fun b0 as => pp1 as fun b1 as => pe as ((f_X12_restore N b0 b1 g).bind fun p => k (some (.int p.1)) p.2)) (none))
theorem co_law_2192 (N : Nat) (q : Int32 × mH) : clOK 28 q (C_law_2192 N) := by
  intro j as g k e
  rcases kb_s e with ⟨rfl, e⟩ | e
  · obtain ⟨b0, r0, q0, f0⟩ := pr1_s e
    obtain ⟨b1, r1, q1, f1⟩ := pp1_s f0
    obtain ⟨qe, fe⟩ := pe_s f1
    obtain ⟨p, e1, e2⟩ := bnd_s fe
    subst qe
    subst q1
    subst q0
    exact ⟨_, _, _, _, 6, rfl, (by decide), m_X11_restore N e1, e2⟩
  rcases kb_s e with ⟨rfl, e⟩ | e
  · obtain ⟨b0, r0, q0, f0⟩ := pr1_s e
    obtain ⟨b1, r1, q1, f1⟩ := pp1_s f0
    obtain ⟨qe, fe⟩ := pe_s f1
    obtain ⟨p, e1, e2⟩ := bnd_s fe
    subst qe
    subst q1
    subst q0
    exact ⟨_, _, _, _, 5, rfl, (by decide), m_X12_restore N e1, e2⟩
  cases e
def C_law_2215 (N : Nat) : Nat → List Value → mH → (Option Value → mH → Option (Int32 × mH)) → Option (Int32 × mH) := fun j as g k => kb j 201 (pr1 as fun b0 as => pp1 as fun b1 as => pe as ((f_X11_status N b0 b1 g).bind fun p => k (some (.int p.1)) p.2)) (kb j 343 (pr1 as fun b0 as => pp1 as fun b1 as => pe as ((f_X12_status N b0 b1 g).bind fun p => k (some (.int p.1)) p.2)) (none))
theorem co_law_2215 (N : Nat) (q : Int32 × mH) : clOK 28 q (C_law_2215 N) := by
  intro j as g k e
  rcases kb_s e with ⟨rfl, e⟩ | e
  · obtain ⟨b0, r0, q0, f0⟩ := pr1_s e
    obtain ⟨b1, r1, q1, f1⟩ := pp1_s f0
    obtain ⟨qe, fe⟩ := pe_s f1
    obtain ⟨p, e1, e2⟩ := bnd_s fe
    subst qe
    subst q1
    subst q0
    exact ⟨_, _, _, _, 4, rfl, (by decide), m_X11_status N e1, e2⟩
  rcases kb_s e with ⟨rfl, e⟩ | e
  · obtain ⟨b0, r0, q0, f0⟩ := pr1_s e
    obtain ⟨b1, r1, q1, f1⟩ := pp1_s f0
    obtain ⟨qe, fe⟩ := pe_s f1
    obtain ⟨p, e1, e2⟩ := bnd_s fe
    subst qe
    subst q1
    subst q0
    exact ⟨_, _, _, _, 5, rfl, (by decide), m_X12_status N e1, e2⟩
  cases e
def C_law_2238 (N : Nat) : Nat → List Value → mH → (Option Value → mH → Option (Int32 × mH)) → Option (Int32 × mH) := fun j as g k => kb j 202 (pr1 as fun b0 as => pp1 as fun b1 as => pe as ((f_X11_count N b0 b1 g).bind fun p => k (some (.int p.1)) p.2)) (kb j 344 (pr1 as fun b0 as => pp1 as fun b1 as => pe as ((f_X12_count N b0 b1 g).bind fun p => k (some (.int p.1)) p.2)) (none))
theorem co_law_2238 (N : Nat) (q : Int32 × mH) : clOK 28 q (C_law_2238 N) := by
  intro j as g k e
  rcases kb_s e with ⟨rfl, e⟩ | e
  · obtain ⟨b0, r0, q0, f0⟩ := pr1_s e
    obtain ⟨b1, r1, q1, f1⟩ := pp1_s f0
    obtain ⟨qe, fe⟩ := pe_s f1
    obtain ⟨p, e1, e2⟩ := bnd_s fe
    subst qe
    subst q1
    subst q0
    exact ⟨_, _, _, _, 4, rfl, (by decide), m_X11_count N e1, e2⟩
  rcases kb_s e with ⟨rfl, e⟩ | e
  · obtain ⟨b0, r0, q0, f0⟩ := pr1_s e
    obtain ⟨b1, r1, q1, f1⟩ := pp1_s f0
    obtain ⟨qe, fe⟩ := pe_s f1
    obtain ⟨p, e1, e2⟩ := bnd_s fe
    subst qe
    subst q1
    subst q0
    exact ⟨_, _, _, _, 4, rfl, (by decide), m_X12_count N e1, e2⟩
  cases e
def C_law_2261 (N : Nat) : Nat → List Value → mH → (Option Value → mH → Option (Int32 × mH)) → Option (Int32 × mH) := fun j as g k => none
theorem co_law_2261 (N : Nat) (q : Int32 × mH) : clOK 28 q (C_law_2261 N) := by
  intro j as g k e
  cases e
set_option maxRecDepth 100000 in
theorem t_law_2261 (X : Nat × (Nat → Int32)) (N : Nat) {q : Int32 × mH} {k18 : Nat → Nat → Int32 → mH → Option (Int32 × mH)} (hk18 : ∀ (a1 : Nat) (a2 : Nat) (x3 : Int32) g, k18 a1 a2 x3 g = some q → MW X y_law 28 18 [(0, .retAddr 0), (1, .ref a1), (2, .ref a2), (3, .int x3)] [] g (some (.int q.1)) q.2) (a1 : Nat) (a2 : Nat) (x3 : Int32) (h : mH) (hf : J_law_2261 X N k18 a1 a2 x3 h = some q) : MW X y_law 28 2261 [(0, .retAddr 0), (1, .ref a1), (2, .ref a2), (3, .int x3)] [] h (some (.int q.1)) q.2 := by
  refine ev_ok (o := 13) (ini := false) (Cl := C_law_2261 N) (Rc := RcZ) (B := B_law) (K := fun pc ls st g => kb pc 18 (lgx 0 ls (lgr 1 ls fun a1 => lgr 2 ls fun a2 => lgi 3 ls fun x3 => pe st (k18 a1 a2 x3 g))) (none)) rfl (fun e => by cases e) (by decide) (rcZ_ok rfl) ?_ (co_law_2261 N q) lb_law 3000 2261 S_law_2261 _ _ h ls_law_2261 hf
  intro pc ls st g e
  rcases kb_s e with ⟨rfl, e⟩ | e
  · obtain ⟨ex, fx⟩ := lgx_s e
    obtain ⟨a1, e0, f0⟩ := lgr_s fx
    obtain ⟨a2, e1, f1⟩ := lgr_s f0
    obtain ⟨x3, e2, f2⟩ := lgi_s f1
    obtain ⟨qe, fe⟩ := pe_s f2
    subst qe
    exact MW.sub (List.forall_mem_cons.mpr ⟨lg_mem ex, List.forall_mem_cons.mpr ⟨lg_mem e0, List.forall_mem_cons.mpr ⟨lg_mem e1, List.forall_mem_cons.mpr ⟨lg_mem e2, fun _ h => absurd h List.not_mem_nil⟩⟩⟩⟩) (hk18 a1 a2 x3 g fe)
  cases e
set_option maxRecDepth 100000 in
theorem t_law_272 (X : Nat × (Nat → Int32)) (N : Nat) {q : Int32 × mH} {k18 : Nat → Nat → Int32 → mH → Option (Int32 × mH)} (hk18 : ∀ (a1 : Nat) (a2 : Nat) (x3 : Int32) g, k18 a1 a2 x3 g = some q → MW X y_law 28 18 [(0, .retAddr 0), (1, .ref a1), (2, .ref a2), (3, .int x3)] [] g (some (.int q.1)) q.2) (a1 : Nat) (a2 : Nat) (x3 : Int32) (h : mH) (hf : J_law_272 X N k18 a1 a2 x3 h = some q) : MW X y_law 28 272 [(0, .retAddr 0), (1, .ref a1), (2, .ref a2), (3, .int x3)] [] h (some (.int q.1)) q.2 := by
  refine ev_ok (o := 13) (ini := false) (Cl := C_law_272 N) (Rc := RcZ) (B := B_law) (K := fun pc ls st g => kb pc 2261 (lgx 0 ls (lgr 1 ls fun a1 => lgr 2 ls fun a2 => lgi 3 ls fun x3 => pe st (J_law_2261 X N k18 a1 a2 x3 g))) (none)) rfl (fun e => by cases e) (by decide) (rcZ_ok rfl) ?_ (co_law_272 N q) lb_law 3000 272 S_law_272 _ _ h ls_law_272 hf
  intro pc ls st g e
  rcases kb_s e with ⟨rfl, e⟩ | e
  · obtain ⟨ex, fx⟩ := lgx_s e
    obtain ⟨a1, e0, f0⟩ := lgr_s fx
    obtain ⟨a2, e1, f1⟩ := lgr_s f0
    obtain ⟨x3, e2, f2⟩ := lgi_s f1
    obtain ⟨qe, fe⟩ := pe_s f2
    subst qe
    exact MW.sub (List.forall_mem_cons.mpr ⟨lg_mem ex, List.forall_mem_cons.mpr ⟨lg_mem e0, List.forall_mem_cons.mpr ⟨lg_mem e1, List.forall_mem_cons.mpr ⟨lg_mem e2, fun _ h => absurd h List.not_mem_nil⟩⟩⟩⟩) (t_law_2261 X N hk18 a1 a2 x3 g fe)
  cases e
set_option maxRecDepth 100000 in
theorem t_law_335 (X : Nat × (Nat → Int32)) (N : Nat) {q : Int32 × mH} {k18 : Nat → Nat → Int32 → mH → Option (Int32 × mH)} (hk18 : ∀ (a1 : Nat) (a2 : Nat) (x3 : Int32) g, k18 a1 a2 x3 g = some q → MW X y_law 28 18 [(0, .retAddr 0), (1, .ref a1), (2, .ref a2), (3, .int x3)] [] g (some (.int q.1)) q.2) (a1 : Nat) (a2 : Nat) (x3 : Int32) (h : mH) (hf : J_law_335 X N k18 a1 a2 x3 h = some q) : MW X y_law 28 335 [(0, .retAddr 0), (1, .ref a1), (2, .ref a2), (3, .int x3)] [] h (some (.int q.1)) q.2 := by
  refine ev_ok (o := 13) (ini := false) (Cl := C_law_335 N) (Rc := RcZ) (B := B_law) (K := fun pc ls st g => kb pc 2261 (lgx 0 ls (lgr 1 ls fun a1 => lgr 2 ls fun a2 => lgi 3 ls fun x3 => pe st (J_law_2261 X N k18 a1 a2 x3 g))) (none)) rfl (fun e => by cases e) (by decide) (rcZ_ok rfl) ?_ (co_law_335 N q) lb_law 3000 335 S_law_335 _ _ h ls_law_335 hf
  intro pc ls st g e
  rcases kb_s e with ⟨rfl, e⟩ | e
  · obtain ⟨ex, fx⟩ := lgx_s e
    obtain ⟨a1, e0, f0⟩ := lgr_s fx
    obtain ⟨a2, e1, f1⟩ := lgr_s f0
    obtain ⟨x3, e2, f2⟩ := lgi_s f1
    obtain ⟨qe, fe⟩ := pe_s f2
    subst qe
    exact MW.sub (List.forall_mem_cons.mpr ⟨lg_mem ex, List.forall_mem_cons.mpr ⟨lg_mem e0, List.forall_mem_cons.mpr ⟨lg_mem e1, List.forall_mem_cons.mpr ⟨lg_mem e2, fun _ h => absurd h List.not_mem_nil⟩⟩⟩⟩) (t_law_2261 X N hk18 a1 a2 x3 g fe)
  cases e
set_option maxRecDepth 100000 in
theorem t_law_358 (X : Nat × (Nat → Int32)) (N : Nat) {q : Int32 × mH} {k18 : Nat → Nat → Int32 → mH → Option (Int32 × mH)} (hk18 : ∀ (a1 : Nat) (a2 : Nat) (x3 : Int32) g, k18 a1 a2 x3 g = some q → MW X y_law 28 18 [(0, .retAddr 0), (1, .ref a1), (2, .ref a2), (3, .int x3)] [] g (some (.int q.1)) q.2) (a1 : Nat) (a2 : Nat) (x3 : Int32) (h : mH) (hf : J_law_358 X N k18 a1 a2 x3 h = some q) : MW X y_law 28 358 [(0, .retAddr 0), (1, .ref a1), (2, .ref a2), (3, .int x3)] [] h (some (.int q.1)) q.2 := by
  refine ev_ok (o := 13) (ini := false) (Cl := C_law_358 N) (Rc := RcZ) (B := B_law) (K := fun pc ls st g => kb pc 2261 (lgx 0 ls (lgr 1 ls fun a1 => lgr 2 ls fun a2 => lgi 3 ls fun x3 => pe st (J_law_2261 X N k18 a1 a2 x3 g))) (none)) rfl (fun e => by cases e) (by decide) (rcZ_ok rfl) ?_ (co_law_358 N q) lb_law 3000 358 S_law_358 _ _ h ls_law_358 hf
  intro pc ls st g e
  rcases kb_s e with ⟨rfl, e⟩ | e
  · obtain ⟨ex, fx⟩ := lgx_s e
    obtain ⟨a1, e0, f0⟩ := lgr_s fx
    obtain ⟨a2, e1, f1⟩ := lgr_s f0
    obtain ⟨x3, e2, f2⟩ := lgi_s f1
    obtain ⟨qe, fe⟩ := pe_s f2
    subst qe
    exact MW.sub (List.forall_mem_cons.mpr ⟨lg_mem ex, List.forall_mem_cons.mpr ⟨lg_mem e0, List.forall_mem_cons.mpr ⟨lg_mem e1, List.forall_mem_cons.mpr ⟨lg_mem e2, fun _ h => absurd h List.not_mem_nil⟩⟩⟩⟩) (t_law_2261 X N hk18 a1 a2 x3 g fe)
  cases e
set_option maxRecDepth 100000 in
theorem t_law_381 (X : Nat × (Nat → Int32)) (N : Nat) {q : Int32 × mH} {k18 : Nat → Nat → Int32 → mH → Option (Int32 × mH)} (hk18 : ∀ (a1 : Nat) (a2 : Nat) (x3 : Int32) g, k18 a1 a2 x3 g = some q → MW X y_law 28 18 [(0, .retAddr 0), (1, .ref a1), (2, .ref a2), (3, .int x3)] [] g (some (.int q.1)) q.2) (a1 : Nat) (a2 : Nat) (x3 : Int32) (h : mH) (hf : J_law_381 X N k18 a1 a2 x3 h = some q) : MW X y_law 28 381 [(0, .retAddr 0), (1, .ref a1), (2, .ref a2), (3, .int x3)] [] h (some (.int q.1)) q.2 := by
  refine ev_ok (o := 13) (ini := false) (Cl := C_law_381 N) (Rc := RcZ) (B := B_law) (K := fun pc ls st g => kb pc 2261 (lgx 0 ls (lgr 1 ls fun a1 => lgr 2 ls fun a2 => lgi 3 ls fun x3 => pe st (J_law_2261 X N k18 a1 a2 x3 g))) (none)) rfl (fun e => by cases e) (by decide) (rcZ_ok rfl) ?_ (co_law_381 N q) lb_law 3000 381 S_law_381 _ _ h ls_law_381 hf
  intro pc ls st g e
  rcases kb_s e with ⟨rfl, e⟩ | e
  · obtain ⟨ex, fx⟩ := lgx_s e
    obtain ⟨a1, e0, f0⟩ := lgr_s fx
    obtain ⟨a2, e1, f1⟩ := lgr_s f0
    obtain ⟨x3, e2, f2⟩ := lgi_s f1
    obtain ⟨qe, fe⟩ := pe_s f2
    subst qe
    exact MW.sub (List.forall_mem_cons.mpr ⟨lg_mem ex, List.forall_mem_cons.mpr ⟨lg_mem e0, List.forall_mem_cons.mpr ⟨lg_mem e1, List.forall_mem_cons.mpr ⟨lg_mem e2, fun _ h => absurd h List.not_mem_nil⟩⟩⟩⟩) (t_law_2261 X N hk18 a1 a2 x3 g fe)
  cases e
set_option maxRecDepth 100000 in
theorem t_law_414 (X : Nat × (Nat → Int32)) (N : Nat) {q : Int32 × mH} {k18 : Nat → Nat → Int32 → mH → Option (Int32 × mH)} (hk18 : ∀ (a1 : Nat) (a2 : Nat) (x3 : Int32) g, k18 a1 a2 x3 g = some q → MW X y_law 28 18 [(0, .retAddr 0), (1, .ref a1), (2, .ref a2), (3, .int x3)] [] g (some (.int q.1)) q.2) (a1 : Nat) (a2 : Nat) (x3 : Int32) (h : mH) (hf : J_law_414 X N k18 a1 a2 x3 h = some q) : MW X y_law 28 414 [(0, .retAddr 0), (1, .ref a1), (2, .ref a2), (3, .int x3)] [] h (some (.int q.1)) q.2 := by
  refine ev_ok (o := 13) (ini := false) (Cl := C_law_414 N) (Rc := RcZ) (B := B_law) (K := fun pc ls st g => kb pc 2261 (lgx 0 ls (lgr 1 ls fun a1 => lgr 2 ls fun a2 => lgi 3 ls fun x3 => pe st (J_law_2261 X N k18 a1 a2 x3 g))) (none)) rfl (fun e => by cases e) (by decide) (rcZ_ok rfl) ?_ (co_law_414 N q) lb_law 3000 414 S_law_414 _ _ h ls_law_414 hf
  intro pc ls st g e
  rcases kb_s e with ⟨rfl, e⟩ | e
  · obtain ⟨ex, fx⟩ := lgx_s e
    obtain ⟨a1, e0, f0⟩ := lgr_s fx
    obtain ⟨a2, e1, f1⟩ := lgr_s f0
    obtain ⟨x3, e2, f2⟩ := lgi_s f1
    obtain ⟨qe, fe⟩ := pe_s f2
    subst qe
    exact MW.sub (List.forall_mem_cons.mpr ⟨lg_mem ex, List.forall_mem_cons.mpr ⟨lg_mem e0, List.forall_mem_cons.mpr ⟨lg_mem e1, List.forall_mem_cons.mpr ⟨lg_mem e2, fun _ h => absurd h List.not_mem_nil⟩⟩⟩⟩) (t_law_2261 X N hk18 a1 a2 x3 g fe)
  cases e
set_option maxRecDepth 100000 in
theorem t_law_447 (X : Nat × (Nat → Int32)) (N : Nat) {q : Int32 × mH} {k18 : Nat → Nat → Int32 → mH → Option (Int32 × mH)} (hk18 : ∀ (a1 : Nat) (a2 : Nat) (x3 : Int32) g, k18 a1 a2 x3 g = some q → MW X y_law 28 18 [(0, .retAddr 0), (1, .ref a1), (2, .ref a2), (3, .int x3)] [] g (some (.int q.1)) q.2) (a1 : Nat) (a2 : Nat) (x3 : Int32) (h : mH) (hf : J_law_447 X N k18 a1 a2 x3 h = some q) : MW X y_law 28 447 [(0, .retAddr 0), (1, .ref a1), (2, .ref a2), (3, .int x3)] [] h (some (.int q.1)) q.2 := by
  refine ev_ok (o := 13) (ini := false) (Cl := C_law_447 N) (Rc := RcZ) (B := B_law) (K := fun pc ls st g => kb pc 2261 (lgx 0 ls (lgr 1 ls fun a1 => lgr 2 ls fun a2 => lgi 3 ls fun x3 => pe st (J_law_2261 X N k18 a1 a2 x3 g))) (none)) rfl (fun e => by cases e) (by decide) (rcZ_ok rfl) ?_ (co_law_447 N q) lb_law 3000 447 S_law_447 _ _ h ls_law_447 hf
  intro pc ls st g e
  rcases kb_s e with ⟨rfl, e⟩ | e
  · obtain ⟨ex, fx⟩ := lgx_s e
    obtain ⟨a1, e0, f0⟩ := lgr_s fx
    obtain ⟨a2, e1, f1⟩ := lgr_s f0
    obtain ⟨x3, e2, f2⟩ := lgi_s f1
    obtain ⟨qe, fe⟩ := pe_s f2
    subst qe
    exact MW.sub (List.forall_mem_cons.mpr ⟨lg_mem ex, List.forall_mem_cons.mpr ⟨lg_mem e0, List.forall_mem_cons.mpr ⟨lg_mem e1, List.forall_mem_cons.mpr ⟨lg_mem e2, fun _ h => absurd h List.not_mem_nil⟩⟩⟩⟩) (t_law_2261 X N hk18 a1 a2 x3 g fe)
  cases e
set_option maxRecDepth 100000 in
theorem t_law_470 (X : Nat × (Nat → Int32)) (N : Nat) {q : Int32 × mH} {k18 : Nat → Nat → Int32 → mH → Option (Int32 × mH)} (hk18 : ∀ (a1 : Nat) (a2 : Nat) (x3 : Int32) g, k18 a1 a2 x3 g = some q → MW X y_law 28 18 [(0, .retAddr 0), (1, .ref a1), (2, .ref a2), (3, .int x3)] [] g (some (.int q.1)) q.2) (a1 : Nat) (a2 : Nat) (x3 : Int32) (h : mH) (hf : J_law_470 X N k18 a1 a2 x3 h = some q) : MW X y_law 28 470 [(0, .retAddr 0), (1, .ref a1), (2, .ref a2), (3, .int x3)] [] h (some (.int q.1)) q.2 := by
  refine ev_ok (o := 13) (ini := false) (Cl := C_law_470 N) (Rc := RcZ) (B := B_law) (K := fun pc ls st g => kb pc 2261 (lgx 0 ls (lgr 1 ls fun a1 => lgr 2 ls fun a2 => lgi 3 ls fun x3 => pe st (J_law_2261 X N k18 a1 a2 x3 g))) (none)) rfl (fun e => by cases e) (by decide) (rcZ_ok rfl) ?_ (co_law_470 N q) lb_law 3000 470 S_law_470 _ _ h ls_law_470 hf
  intro pc ls st g e
  rcases kb_s e with ⟨rfl, e⟩ | e
  · obtain ⟨ex, fx⟩ := lgx_s e
    obtain ⟨a1, e0, f0⟩ := lgr_s fx
    obtain ⟨a2, e1, f1⟩ := lgr_s f0
    obtain ⟨x3, e2, f2⟩ := lgi_s f1
    obtain ⟨qe, fe⟩ := pe_s f2
    subst qe
    exact MW.sub (List.forall_mem_cons.mpr ⟨lg_mem ex, List.forall_mem_cons.mpr ⟨lg_mem e0, List.forall_mem_cons.mpr ⟨lg_mem e1, List.forall_mem_cons.mpr ⟨lg_mem e2, fun _ h => absurd h List.not_mem_nil⟩⟩⟩⟩) (t_law_2261 X N hk18 a1 a2 x3 g fe)
  cases e
set_option maxRecDepth 100000 in
theorem t_law_552 (X : Nat × (Nat → Int32)) (N : Nat) {q : Int32 × mH} {k18 : Nat → Nat → Int32 → mH → Option (Int32 × mH)} (hk18 : ∀ (a1 : Nat) (a2 : Nat) (x3 : Int32) g, k18 a1 a2 x3 g = some q → MW X y_law 28 18 [(0, .retAddr 0), (1, .ref a1), (2, .ref a2), (3, .int x3)] [] g (some (.int q.1)) q.2) (a1 : Nat) (a2 : Nat) (x3 : Int32) (s_0 : Nat) (s_1 : Int32) (s_2 : Int32) (s_3 : Int32) (s_4 : Int32) (h : mH) (hf : J_law_552 X N k18 a1 a2 x3 s_0 s_1 s_2 s_3 s_4 h = some q) : MW X y_law 28 552 [(0, .retAddr 0), (1, .ref a1), (2, .ref a2), (3, .int x3)] [.int s_4, .int s_3, .int s_2, .int s_1, .ref s_0] h (some (.int q.1)) q.2 := by
  refine ev_ok (o := 13) (ini := false) (Cl := C_law_552 N) (Rc := RcZ) (B := B_law) (K := fun pc ls st g => kb pc 2261 (lgx 0 ls (lgr 1 ls fun a1 => lgr 2 ls fun a2 => lgi 3 ls fun x3 => pe st (J_law_2261 X N k18 a1 a2 x3 g))) (none)) rfl (fun e => by cases e) (by decide) (rcZ_ok rfl) ?_ (co_law_552 N q) lb_law 3000 552 S_law_552 _ _ h ls_law_552 hf
  intro pc ls st g e
  rcases kb_s e with ⟨rfl, e⟩ | e
  · obtain ⟨ex, fx⟩ := lgx_s e
    obtain ⟨a1, e0, f0⟩ := lgr_s fx
    obtain ⟨a2, e1, f1⟩ := lgr_s f0
    obtain ⟨x3, e2, f2⟩ := lgi_s f1
    obtain ⟨qe, fe⟩ := pe_s f2
    subst qe
    exact MW.sub (List.forall_mem_cons.mpr ⟨lg_mem ex, List.forall_mem_cons.mpr ⟨lg_mem e0, List.forall_mem_cons.mpr ⟨lg_mem e1, List.forall_mem_cons.mpr ⟨lg_mem e2, fun _ h => absurd h List.not_mem_nil⟩⟩⟩⟩) (t_law_2261 X N hk18 a1 a2 x3 g fe)
  cases e
set_option maxRecDepth 100000 in
theorem t_law_523 (X : Nat × (Nat → Int32)) (N : Nat) {q : Int32 × mH} {k18 : Nat → Nat → Int32 → mH → Option (Int32 × mH)} (hk18 : ∀ (a1 : Nat) (a2 : Nat) (x3 : Int32) g, k18 a1 a2 x3 g = some q → MW X y_law 28 18 [(0, .retAddr 0), (1, .ref a1), (2, .ref a2), (3, .int x3)] [] g (some (.int q.1)) q.2) (a1 : Nat) (a2 : Nat) (x3 : Int32) (h : mH) (hf : J_law_523 X N k18 a1 a2 x3 h = some q) : MW X y_law 28 523 [(0, .retAddr 0), (1, .ref a1), (2, .ref a2), (3, .int x3)] [] h (some (.int q.1)) q.2 := by
  refine ev_ok (o := 13) (ini := false) (Cl := C_law_523 N) (Rc := RcZ) (B := B_law) (K := fun pc ls st g => kb pc 552 (lgx 0 ls (lgr 1 ls fun a1 => lgr 2 ls fun a2 => lgi 3 ls fun x3 => pp1 st fun s_4 st => pp1 st fun s_3 st => pp1 st fun s_2 st => pp1 st fun s_1 st => pr1 st fun s_0 st => pe st (J_law_552 X N k18 a1 a2 x3 s_0 s_1 s_2 s_3 s_4 g))) (none)) rfl (fun e => by cases e) (by decide) (rcZ_ok rfl) ?_ (co_law_523 N q) lb_law 3000 523 S_law_523 _ _ h ls_law_523 hf
  intro pc ls st g e
  rcases kb_s e with ⟨rfl, e⟩ | e
  · obtain ⟨ex, fx⟩ := lgx_s e
    obtain ⟨a1, e0, f0⟩ := lgr_s fx
    obtain ⟨a2, e1, f1⟩ := lgr_s f0
    obtain ⟨x3, e2, f2⟩ := lgi_s f1
    obtain ⟨s_4, r0, q0, g0⟩ := pp1_s f2
    obtain ⟨s_3, r1, q1, g1⟩ := pp1_s g0
    obtain ⟨s_2, r2, q2, g2⟩ := pp1_s g1
    obtain ⟨s_1, r3, q3, g3⟩ := pp1_s g2
    obtain ⟨s_0, r4, q4, g4⟩ := pr1_s g3
    obtain ⟨qe, fe⟩ := pe_s g4
    subst qe
    subst q4
    subst q3
    subst q2
    subst q1
    subst q0
    exact MW.sub (List.forall_mem_cons.mpr ⟨lg_mem ex, List.forall_mem_cons.mpr ⟨lg_mem e0, List.forall_mem_cons.mpr ⟨lg_mem e1, List.forall_mem_cons.mpr ⟨lg_mem e2, fun _ h => absurd h List.not_mem_nil⟩⟩⟩⟩) (t_law_552 X N hk18 a1 a2 x3 s_0 s_1 s_2 s_3 s_4 g fe)
  cases e
set_option maxRecDepth 100000 in
theorem t_law_592 (X : Nat × (Nat → Int32)) (N : Nat) {q : Int32 × mH} {k18 : Nat → Nat → Int32 → mH → Option (Int32 × mH)} (hk18 : ∀ (a1 : Nat) (a2 : Nat) (x3 : Int32) g, k18 a1 a2 x3 g = some q → MW X y_law 28 18 [(0, .retAddr 0), (1, .ref a1), (2, .ref a2), (3, .int x3)] [] g (some (.int q.1)) q.2) (a1 : Nat) (a2 : Nat) (x3 : Int32) (h : mH) (hf : J_law_592 X N k18 a1 a2 x3 h = some q) : MW X y_law 28 592 [(0, .retAddr 0), (1, .ref a1), (2, .ref a2), (3, .int x3)] [] h (some (.int q.1)) q.2 := by
  refine ev_ok (o := 13) (ini := false) (Cl := C_law_592 N) (Rc := RcZ) (B := B_law) (K := fun pc ls st g => kb pc 2261 (lgx 0 ls (lgr 1 ls fun a1 => lgr 2 ls fun a2 => lgi 3 ls fun x3 => pe st (J_law_2261 X N k18 a1 a2 x3 g))) (none)) rfl (fun e => by cases e) (by decide) (rcZ_ok rfl) ?_ (co_law_592 N q) lb_law 3000 592 S_law_592 _ _ h ls_law_592 hf
  intro pc ls st g e
  rcases kb_s e with ⟨rfl, e⟩ | e
  · obtain ⟨ex, fx⟩ := lgx_s e
    obtain ⟨a1, e0, f0⟩ := lgr_s fx
    obtain ⟨a2, e1, f1⟩ := lgr_s f0
    obtain ⟨x3, e2, f2⟩ := lgi_s f1
    obtain ⟨qe, fe⟩ := pe_s f2
    subst qe
    exact MW.sub (List.forall_mem_cons.mpr ⟨lg_mem ex, List.forall_mem_cons.mpr ⟨lg_mem e0, List.forall_mem_cons.mpr ⟨lg_mem e1, List.forall_mem_cons.mpr ⟨lg_mem e2, fun _ h => absurd h List.not_mem_nil⟩⟩⟩⟩) (t_law_2261 X N hk18 a1 a2 x3 g fe)
  cases e
set_option maxRecDepth 100000 in
theorem t_law_625 (X : Nat × (Nat → Int32)) (N : Nat) {q : Int32 × mH} {k18 : Nat → Nat → Int32 → mH → Option (Int32 × mH)} (hk18 : ∀ (a1 : Nat) (a2 : Nat) (x3 : Int32) g, k18 a1 a2 x3 g = some q → MW X y_law 28 18 [(0, .retAddr 0), (1, .ref a1), (2, .ref a2), (3, .int x3)] [] g (some (.int q.1)) q.2) (a1 : Nat) (a2 : Nat) (x3 : Int32) (h : mH) (hf : J_law_625 X N k18 a1 a2 x3 h = some q) : MW X y_law 28 625 [(0, .retAddr 0), (1, .ref a1), (2, .ref a2), (3, .int x3)] [] h (some (.int q.1)) q.2 := by
  refine ev_ok (o := 13) (ini := false) (Cl := C_law_625 N) (Rc := RcZ) (B := B_law) (K := fun pc ls st g => kb pc 2261 (lgx 0 ls (lgr 1 ls fun a1 => lgr 2 ls fun a2 => lgi 3 ls fun x3 => pe st (J_law_2261 X N k18 a1 a2 x3 g))) (none)) rfl (fun e => by cases e) (by decide) (rcZ_ok rfl) ?_ (co_law_625 N q) lb_law 3000 625 S_law_625 _ _ h ls_law_625 hf
  intro pc ls st g e
  rcases kb_s e with ⟨rfl, e⟩ | e
  · obtain ⟨ex, fx⟩ := lgx_s e
    obtain ⟨a1, e0, f0⟩ := lgr_s fx
    obtain ⟨a2, e1, f1⟩ := lgr_s f0
    obtain ⟨x3, e2, f2⟩ := lgi_s f1
    obtain ⟨qe, fe⟩ := pe_s f2
    subst qe
    exact MW.sub (List.forall_mem_cons.mpr ⟨lg_mem ex, List.forall_mem_cons.mpr ⟨lg_mem e0, List.forall_mem_cons.mpr ⟨lg_mem e1, List.forall_mem_cons.mpr ⟨lg_mem e2, fun _ h => absurd h List.not_mem_nil⟩⟩⟩⟩) (t_law_2261 X N hk18 a1 a2 x3 g fe)
  cases e
set_option maxRecDepth 100000 in
theorem t_law_658 (X : Nat × (Nat → Int32)) (N : Nat) {q : Int32 × mH} {k18 : Nat → Nat → Int32 → mH → Option (Int32 × mH)} (hk18 : ∀ (a1 : Nat) (a2 : Nat) (x3 : Int32) g, k18 a1 a2 x3 g = some q → MW X y_law 28 18 [(0, .retAddr 0), (1, .ref a1), (2, .ref a2), (3, .int x3)] [] g (some (.int q.1)) q.2) (a1 : Nat) (a2 : Nat) (x3 : Int32) (h : mH) (hf : J_law_658 X N k18 a1 a2 x3 h = some q) : MW X y_law 28 658 [(0, .retAddr 0), (1, .ref a1), (2, .ref a2), (3, .int x3)] [] h (some (.int q.1)) q.2 := by
  refine ev_ok (o := 13) (ini := false) (Cl := C_law_658 N) (Rc := RcZ) (B := B_law) (K := fun pc ls st g => kb pc 2261 (lgx 0 ls (lgr 1 ls fun a1 => lgr 2 ls fun a2 => lgi 3 ls fun x3 => pe st (J_law_2261 X N k18 a1 a2 x3 g))) (none)) rfl (fun e => by cases e) (by decide) (rcZ_ok rfl) ?_ (co_law_658 N q) lb_law 3000 658 S_law_658 _ _ h ls_law_658 hf
  intro pc ls st g e
  rcases kb_s e with ⟨rfl, e⟩ | e
  · obtain ⟨ex, fx⟩ := lgx_s e
    obtain ⟨a1, e0, f0⟩ := lgr_s fx
    obtain ⟨a2, e1, f1⟩ := lgr_s f0
    obtain ⟨x3, e2, f2⟩ := lgi_s f1
    obtain ⟨qe, fe⟩ := pe_s f2
    subst qe
    exact MW.sub (List.forall_mem_cons.mpr ⟨lg_mem ex, List.forall_mem_cons.mpr ⟨lg_mem e0, List.forall_mem_cons.mpr ⟨lg_mem e1, List.forall_mem_cons.mpr ⟨lg_mem e2, fun _ h => absurd h List.not_mem_nil⟩⟩⟩⟩) (t_law_2261 X N hk18 a1 a2 x3 g fe)
  cases e
set_option maxRecDepth 100000 in
theorem t_law_711 (X : Nat × (Nat → Int32)) (N : Nat) {q : Int32 × mH} {k18 : Nat → Nat → Int32 → mH → Option (Int32 × mH)} (hk18 : ∀ (a1 : Nat) (a2 : Nat) (x3 : Int32) g, k18 a1 a2 x3 g = some q → MW X y_law 28 18 [(0, .retAddr 0), (1, .ref a1), (2, .ref a2), (3, .int x3)] [] g (some (.int q.1)) q.2) (a1 : Nat) (a2 : Nat) (x3 : Int32) (h : mH) (hf : J_law_711 X N k18 a1 a2 x3 h = some q) : MW X y_law 28 711 [(0, .retAddr 0), (1, .ref a1), (2, .ref a2), (3, .int x3)] [] h (some (.int q.1)) q.2 := by
  refine ev_ok (o := 13) (ini := false) (Cl := C_law_711 N) (Rc := RcZ) (B := B_law) (K := fun pc ls st g => kb pc 2261 (lgx 0 ls (lgr 1 ls fun a1 => lgr 2 ls fun a2 => lgi 3 ls fun x3 => pe st (J_law_2261 X N k18 a1 a2 x3 g))) (none)) rfl (fun e => by cases e) (by decide) (rcZ_ok rfl) ?_ (co_law_711 N q) lb_law 3000 711 S_law_711 _ _ h ls_law_711 hf
  intro pc ls st g e
  rcases kb_s e with ⟨rfl, e⟩ | e
  · obtain ⟨ex, fx⟩ := lgx_s e
    obtain ⟨a1, e0, f0⟩ := lgr_s fx
    obtain ⟨a2, e1, f1⟩ := lgr_s f0
    obtain ⟨x3, e2, f2⟩ := lgi_s f1
    obtain ⟨qe, fe⟩ := pe_s f2
    subst qe
    exact MW.sub (List.forall_mem_cons.mpr ⟨lg_mem ex, List.forall_mem_cons.mpr ⟨lg_mem e0, List.forall_mem_cons.mpr ⟨lg_mem e1, List.forall_mem_cons.mpr ⟨lg_mem e2, fun _ h => absurd h List.not_mem_nil⟩⟩⟩⟩) (t_law_2261 X N hk18 a1 a2 x3 g fe)
  cases e
set_option maxRecDepth 100000 in
theorem t_law_774 (X : Nat × (Nat → Int32)) (N : Nat) {q : Int32 × mH} {k18 : Nat → Nat → Int32 → mH → Option (Int32 × mH)} (hk18 : ∀ (a1 : Nat) (a2 : Nat) (x3 : Int32) g, k18 a1 a2 x3 g = some q → MW X y_law 28 18 [(0, .retAddr 0), (1, .ref a1), (2, .ref a2), (3, .int x3)] [] g (some (.int q.1)) q.2) (a1 : Nat) (a2 : Nat) (x3 : Int32) (h : mH) (hf : J_law_774 X N k18 a1 a2 x3 h = some q) : MW X y_law 28 774 [(0, .retAddr 0), (1, .ref a1), (2, .ref a2), (3, .int x3)] [] h (some (.int q.1)) q.2 := by
  refine ev_ok (o := 13) (ini := false) (Cl := C_law_774 N) (Rc := RcZ) (B := B_law) (K := fun pc ls st g => kb pc 2261 (lgx 0 ls (lgr 1 ls fun a1 => lgr 2 ls fun a2 => lgi 3 ls fun x3 => pe st (J_law_2261 X N k18 a1 a2 x3 g))) (none)) rfl (fun e => by cases e) (by decide) (rcZ_ok rfl) ?_ (co_law_774 N q) lb_law 3000 774 S_law_774 _ _ h ls_law_774 hf
  intro pc ls st g e
  rcases kb_s e with ⟨rfl, e⟩ | e
  · obtain ⟨ex, fx⟩ := lgx_s e
    obtain ⟨a1, e0, f0⟩ := lgr_s fx
    obtain ⟨a2, e1, f1⟩ := lgr_s f0
    obtain ⟨x3, e2, f2⟩ := lgi_s f1
    obtain ⟨qe, fe⟩ := pe_s f2
    subst qe
    exact MW.sub (List.forall_mem_cons.mpr ⟨lg_mem ex, List.forall_mem_cons.mpr ⟨lg_mem e0, List.forall_mem_cons.mpr ⟨lg_mem e1, List.forall_mem_cons.mpr ⟨lg_mem e2, fun _ h => absurd h List.not_mem_nil⟩⟩⟩⟩) (t_law_2261 X N hk18 a1 a2 x3 g fe)
  cases e
set_option maxRecDepth 100000 in
theorem t_law_816 (X : Nat × (Nat → Int32)) (N : Nat) {q : Int32 × mH} {k18 : Nat → Nat → Int32 → mH → Option (Int32 × mH)} (hk18 : ∀ (a1 : Nat) (a2 : Nat) (x3 : Int32) g, k18 a1 a2 x3 g = some q → MW X y_law 28 18 [(0, .retAddr 0), (1, .ref a1), (2, .ref a2), (3, .int x3)] [] g (some (.int q.1)) q.2) (a1 : Nat) (a2 : Nat) (x3 : Int32) (s_0 : Nat) (s_1 : Int32) (s_2 : Int32) (s_3 : Int32) (s_4 : Int32) (h : mH) (hf : J_law_816 X N k18 a1 a2 x3 s_0 s_1 s_2 s_3 s_4 h = some q) : MW X y_law 28 816 [(0, .retAddr 0), (1, .ref a1), (2, .ref a2), (3, .int x3)] [.int s_4, .int s_3, .int s_2, .int s_1, .ref s_0] h (some (.int q.1)) q.2 := by
  refine ev_ok (o := 13) (ini := false) (Cl := C_law_816 N) (Rc := RcZ) (B := B_law) (K := fun pc ls st g => kb pc 2261 (lgx 0 ls (lgr 1 ls fun a1 => lgr 2 ls fun a2 => lgi 3 ls fun x3 => pe st (J_law_2261 X N k18 a1 a2 x3 g))) (none)) rfl (fun e => by cases e) (by decide) (rcZ_ok rfl) ?_ (co_law_816 N q) lb_law 3000 816 S_law_816 _ _ h ls_law_816 hf
  intro pc ls st g e
  rcases kb_s e with ⟨rfl, e⟩ | e
  · obtain ⟨ex, fx⟩ := lgx_s e
    obtain ⟨a1, e0, f0⟩ := lgr_s fx
    obtain ⟨a2, e1, f1⟩ := lgr_s f0
    obtain ⟨x3, e2, f2⟩ := lgi_s f1
    obtain ⟨qe, fe⟩ := pe_s f2
    subst qe
    exact MW.sub (List.forall_mem_cons.mpr ⟨lg_mem ex, List.forall_mem_cons.mpr ⟨lg_mem e0, List.forall_mem_cons.mpr ⟨lg_mem e1, List.forall_mem_cons.mpr ⟨lg_mem e2, fun _ h => absurd h List.not_mem_nil⟩⟩⟩⟩) (t_law_2261 X N hk18 a1 a2 x3 g fe)
  cases e
set_option maxRecDepth 100000 in
theorem t_law_787 (X : Nat × (Nat → Int32)) (N : Nat) {q : Int32 × mH} {k18 : Nat → Nat → Int32 → mH → Option (Int32 × mH)} (hk18 : ∀ (a1 : Nat) (a2 : Nat) (x3 : Int32) g, k18 a1 a2 x3 g = some q → MW X y_law 28 18 [(0, .retAddr 0), (1, .ref a1), (2, .ref a2), (3, .int x3)] [] g (some (.int q.1)) q.2) (a1 : Nat) (a2 : Nat) (x3 : Int32) (h : mH) (hf : J_law_787 X N k18 a1 a2 x3 h = some q) : MW X y_law 28 787 [(0, .retAddr 0), (1, .ref a1), (2, .ref a2), (3, .int x3)] [] h (some (.int q.1)) q.2 := by
  refine ev_ok (o := 13) (ini := false) (Cl := C_law_787 N) (Rc := RcZ) (B := B_law) (K := fun pc ls st g => kb pc 816 (lgx 0 ls (lgr 1 ls fun a1 => lgr 2 ls fun a2 => lgi 3 ls fun x3 => pp1 st fun s_4 st => pp1 st fun s_3 st => pp1 st fun s_2 st => pp1 st fun s_1 st => pr1 st fun s_0 st => pe st (J_law_816 X N k18 a1 a2 x3 s_0 s_1 s_2 s_3 s_4 g))) (none)) rfl (fun e => by cases e) (by decide) (rcZ_ok rfl) ?_ (co_law_787 N q) lb_law 3000 787 S_law_787 _ _ h ls_law_787 hf
  intro pc ls st g e
  rcases kb_s e with ⟨rfl, e⟩ | e
  · obtain ⟨ex, fx⟩ := lgx_s e
    obtain ⟨a1, e0, f0⟩ := lgr_s fx
    obtain ⟨a2, e1, f1⟩ := lgr_s f0
    obtain ⟨x3, e2, f2⟩ := lgi_s f1
    obtain ⟨s_4, r0, q0, g0⟩ := pp1_s f2
    obtain ⟨s_3, r1, q1, g1⟩ := pp1_s g0
    obtain ⟨s_2, r2, q2, g2⟩ := pp1_s g1
    obtain ⟨s_1, r3, q3, g3⟩ := pp1_s g2
    obtain ⟨s_0, r4, q4, g4⟩ := pr1_s g3
    obtain ⟨qe, fe⟩ := pe_s g4
    subst qe
    subst q4
    subst q3
    subst q2
    subst q1
    subst q0
    exact MW.sub (List.forall_mem_cons.mpr ⟨lg_mem ex, List.forall_mem_cons.mpr ⟨lg_mem e0, List.forall_mem_cons.mpr ⟨lg_mem e1, List.forall_mem_cons.mpr ⟨lg_mem e2, fun _ h => absurd h List.not_mem_nil⟩⟩⟩⟩) (t_law_816 X N hk18 a1 a2 x3 s_0 s_1 s_2 s_3 s_4 g fe)
  cases e
set_option maxRecDepth 100000 in
theorem t_law_856 (X : Nat × (Nat → Int32)) (N : Nat) {q : Int32 × mH} {k18 : Nat → Nat → Int32 → mH → Option (Int32 × mH)} (hk18 : ∀ (a1 : Nat) (a2 : Nat) (x3 : Int32) g, k18 a1 a2 x3 g = some q → MW X y_law 28 18 [(0, .retAddr 0), (1, .ref a1), (2, .ref a2), (3, .int x3)] [] g (some (.int q.1)) q.2) (a1 : Nat) (a2 : Nat) (x3 : Int32) (h : mH) (hf : J_law_856 X N k18 a1 a2 x3 h = some q) : MW X y_law 28 856 [(0, .retAddr 0), (1, .ref a1), (2, .ref a2), (3, .int x3)] [] h (some (.int q.1)) q.2 := by
  refine ev_ok (o := 13) (ini := false) (Cl := C_law_856 N) (Rc := RcZ) (B := B_law) (K := fun pc ls st g => kb pc 2261 (lgx 0 ls (lgr 1 ls fun a1 => lgr 2 ls fun a2 => lgi 3 ls fun x3 => pe st (J_law_2261 X N k18 a1 a2 x3 g))) (none)) rfl (fun e => by cases e) (by decide) (rcZ_ok rfl) ?_ (co_law_856 N q) lb_law 3000 856 S_law_856 _ _ h ls_law_856 hf
  intro pc ls st g e
  rcases kb_s e with ⟨rfl, e⟩ | e
  · obtain ⟨ex, fx⟩ := lgx_s e
    obtain ⟨a1, e0, f0⟩ := lgr_s fx
    obtain ⟨a2, e1, f1⟩ := lgr_s f0
    obtain ⟨x3, e2, f2⟩ := lgi_s f1
    obtain ⟨qe, fe⟩ := pe_s f2
    subst qe
    exact MW.sub (List.forall_mem_cons.mpr ⟨lg_mem ex, List.forall_mem_cons.mpr ⟨lg_mem e0, List.forall_mem_cons.mpr ⟨lg_mem e1, List.forall_mem_cons.mpr ⟨lg_mem e2, fun _ h => absurd h List.not_mem_nil⟩⟩⟩⟩) (t_law_2261 X N hk18 a1 a2 x3 g fe)
  cases e
set_option maxRecDepth 100000 in
theorem t_law_899 (X : Nat × (Nat → Int32)) (N : Nat) {q : Int32 × mH} {k18 : Nat → Nat → Int32 → mH → Option (Int32 × mH)} (hk18 : ∀ (a1 : Nat) (a2 : Nat) (x3 : Int32) g, k18 a1 a2 x3 g = some q → MW X y_law 28 18 [(0, .retAddr 0), (1, .ref a1), (2, .ref a2), (3, .int x3)] [] g (some (.int q.1)) q.2) (a1 : Nat) (a2 : Nat) (x3 : Int32) (h : mH) (hf : J_law_899 X N k18 a1 a2 x3 h = some q) : MW X y_law 28 899 [(0, .retAddr 0), (1, .ref a1), (2, .ref a2), (3, .int x3)] [] h (some (.int q.1)) q.2 := by
  refine ev_ok (o := 13) (ini := false) (Cl := C_law_899 N) (Rc := RcZ) (B := B_law) (K := fun pc ls st g => kb pc 2261 (lgx 0 ls (lgr 1 ls fun a1 => lgr 2 ls fun a2 => lgi 3 ls fun x3 => pe st (J_law_2261 X N k18 a1 a2 x3 g))) (none)) rfl (fun e => by cases e) (by decide) (rcZ_ok rfl) ?_ (co_law_899 N q) lb_law 3000 899 S_law_899 _ _ h ls_law_899 hf
  intro pc ls st g e
  rcases kb_s e with ⟨rfl, e⟩ | e
  · obtain ⟨ex, fx⟩ := lgx_s e
    obtain ⟨a1, e0, f0⟩ := lgr_s fx
    obtain ⟨a2, e1, f1⟩ := lgr_s f0
    obtain ⟨x3, e2, f2⟩ := lgi_s f1
    obtain ⟨qe, fe⟩ := pe_s f2
    subst qe
    exact MW.sub (List.forall_mem_cons.mpr ⟨lg_mem ex, List.forall_mem_cons.mpr ⟨lg_mem e0, List.forall_mem_cons.mpr ⟨lg_mem e1, List.forall_mem_cons.mpr ⟨lg_mem e2, fun _ h => absurd h List.not_mem_nil⟩⟩⟩⟩) (t_law_2261 X N hk18 a1 a2 x3 g fe)
  cases e
set_option maxRecDepth 100000 in
theorem t_law_922 (X : Nat × (Nat → Int32)) (N : Nat) {q : Int32 × mH} {k18 : Nat → Nat → Int32 → mH → Option (Int32 × mH)} (hk18 : ∀ (a1 : Nat) (a2 : Nat) (x3 : Int32) g, k18 a1 a2 x3 g = some q → MW X y_law 28 18 [(0, .retAddr 0), (1, .ref a1), (2, .ref a2), (3, .int x3)] [] g (some (.int q.1)) q.2) (a1 : Nat) (a2 : Nat) (x3 : Int32) (h : mH) (hf : J_law_922 X N k18 a1 a2 x3 h = some q) : MW X y_law 28 922 [(0, .retAddr 0), (1, .ref a1), (2, .ref a2), (3, .int x3)] [] h (some (.int q.1)) q.2 := by
  refine ev_ok (o := 13) (ini := false) (Cl := C_law_922 N) (Rc := RcZ) (B := B_law) (K := fun pc ls st g => kb pc 2261 (lgx 0 ls (lgr 1 ls fun a1 => lgr 2 ls fun a2 => lgi 3 ls fun x3 => pe st (J_law_2261 X N k18 a1 a2 x3 g))) (none)) rfl (fun e => by cases e) (by decide) (rcZ_ok rfl) ?_ (co_law_922 N q) lb_law 3000 922 S_law_922 _ _ h ls_law_922 hf
  intro pc ls st g e
  rcases kb_s e with ⟨rfl, e⟩ | e
  · obtain ⟨ex, fx⟩ := lgx_s e
    obtain ⟨a1, e0, f0⟩ := lgr_s fx
    obtain ⟨a2, e1, f1⟩ := lgr_s f0
    obtain ⟨x3, e2, f2⟩ := lgi_s f1
    obtain ⟨qe, fe⟩ := pe_s f2
    subst qe
    exact MW.sub (List.forall_mem_cons.mpr ⟨lg_mem ex, List.forall_mem_cons.mpr ⟨lg_mem e0, List.forall_mem_cons.mpr ⟨lg_mem e1, List.forall_mem_cons.mpr ⟨lg_mem e2, fun _ h => absurd h List.not_mem_nil⟩⟩⟩⟩) (t_law_2261 X N hk18 a1 a2 x3 g fe)
  cases e
set_option maxRecDepth 100000 in
theorem t_law_945 (X : Nat × (Nat → Int32)) (N : Nat) {q : Int32 × mH} {k18 : Nat → Nat → Int32 → mH → Option (Int32 × mH)} (hk18 : ∀ (a1 : Nat) (a2 : Nat) (x3 : Int32) g, k18 a1 a2 x3 g = some q → MW X y_law 28 18 [(0, .retAddr 0), (1, .ref a1), (2, .ref a2), (3, .int x3)] [] g (some (.int q.1)) q.2) (a1 : Nat) (a2 : Nat) (x3 : Int32) (h : mH) (hf : J_law_945 X N k18 a1 a2 x3 h = some q) : MW X y_law 28 945 [(0, .retAddr 0), (1, .ref a1), (2, .ref a2), (3, .int x3)] [] h (some (.int q.1)) q.2 := by
  refine ev_ok (o := 13) (ini := false) (Cl := C_law_945 N) (Rc := RcZ) (B := B_law) (K := fun pc ls st g => kb pc 2261 (lgx 0 ls (lgr 1 ls fun a1 => lgr 2 ls fun a2 => lgi 3 ls fun x3 => pe st (J_law_2261 X N k18 a1 a2 x3 g))) (none)) rfl (fun e => by cases e) (by decide) (rcZ_ok rfl) ?_ (co_law_945 N q) lb_law 3000 945 S_law_945 _ _ h ls_law_945 hf
  intro pc ls st g e
  rcases kb_s e with ⟨rfl, e⟩ | e
  · obtain ⟨ex, fx⟩ := lgx_s e
    obtain ⟨a1, e0, f0⟩ := lgr_s fx
    obtain ⟨a2, e1, f1⟩ := lgr_s f0
    obtain ⟨x3, e2, f2⟩ := lgi_s f1
    obtain ⟨qe, fe⟩ := pe_s f2
    subst qe
    exact MW.sub (List.forall_mem_cons.mpr ⟨lg_mem ex, List.forall_mem_cons.mpr ⟨lg_mem e0, List.forall_mem_cons.mpr ⟨lg_mem e1, List.forall_mem_cons.mpr ⟨lg_mem e2, fun _ h => absurd h List.not_mem_nil⟩⟩⟩⟩) (t_law_2261 X N hk18 a1 a2 x3 g fe)
  cases e
set_option maxRecDepth 100000 in
theorem t_law_988 (X : Nat × (Nat → Int32)) (N : Nat) {q : Int32 × mH} {k18 : Nat → Nat → Int32 → mH → Option (Int32 × mH)} (hk18 : ∀ (a1 : Nat) (a2 : Nat) (x3 : Int32) g, k18 a1 a2 x3 g = some q → MW X y_law 28 18 [(0, .retAddr 0), (1, .ref a1), (2, .ref a2), (3, .int x3)] [] g (some (.int q.1)) q.2) (a1 : Nat) (a2 : Nat) (x3 : Int32) (h : mH) (hf : J_law_988 X N k18 a1 a2 x3 h = some q) : MW X y_law 28 988 [(0, .retAddr 0), (1, .ref a1), (2, .ref a2), (3, .int x3)] [] h (some (.int q.1)) q.2 := by
  refine ev_ok (o := 13) (ini := false) (Cl := C_law_988 N) (Rc := RcZ) (B := B_law) (K := fun pc ls st g => kb pc 2261 (lgx 0 ls (lgr 1 ls fun a1 => lgr 2 ls fun a2 => lgi 3 ls fun x3 => pe st (J_law_2261 X N k18 a1 a2 x3 g))) (none)) rfl (fun e => by cases e) (by decide) (rcZ_ok rfl) ?_ (co_law_988 N q) lb_law 3000 988 S_law_988 _ _ h ls_law_988 hf
  intro pc ls st g e
  rcases kb_s e with ⟨rfl, e⟩ | e
  · obtain ⟨ex, fx⟩ := lgx_s e
    obtain ⟨a1, e0, f0⟩ := lgr_s fx
    obtain ⟨a2, e1, f1⟩ := lgr_s f0
    obtain ⟨x3, e2, f2⟩ := lgi_s f1
    obtain ⟨qe, fe⟩ := pe_s f2
    subst qe
    exact MW.sub (List.forall_mem_cons.mpr ⟨lg_mem ex, List.forall_mem_cons.mpr ⟨lg_mem e0, List.forall_mem_cons.mpr ⟨lg_mem e1, List.forall_mem_cons.mpr ⟨lg_mem e2, fun _ h => absurd h List.not_mem_nil⟩⟩⟩⟩) (t_law_2261 X N hk18 a1 a2 x3 g fe)
  cases e
set_option maxRecDepth 100000 in
theorem t_law_1035 (X : Nat × (Nat → Int32)) (N : Nat) {q : Int32 × mH} {k18 : Nat → Nat → Int32 → mH → Option (Int32 × mH)} (hk18 : ∀ (a1 : Nat) (a2 : Nat) (x3 : Int32) g, k18 a1 a2 x3 g = some q → MW X y_law 28 18 [(0, .retAddr 0), (1, .ref a1), (2, .ref a2), (3, .int x3)] [] g (some (.int q.1)) q.2) (a1 : Nat) (a2 : Nat) (x3 : Int32) (s_0 : Nat) (s_1 : Int32) (s_2 : Int32) (s_3 : Int32) (h : mH) (hf : J_law_1035 X N k18 a1 a2 x3 s_0 s_1 s_2 s_3 h = some q) : MW X y_law 28 1035 [(0, .retAddr 0), (1, .ref a1), (2, .ref a2), (3, .int x3)] [.int s_3, .int s_2, .int s_1, .ref s_0] h (some (.int q.1)) q.2 := by
  refine ev_ok (o := 13) (ini := false) (Cl := C_law_1035 N) (Rc := RcZ) (B := B_law) (K := fun pc ls st g => kb pc 2261 (lgx 0 ls (lgr 1 ls fun a1 => lgr 2 ls fun a2 => lgi 3 ls fun x3 => pe st (J_law_2261 X N k18 a1 a2 x3 g))) (none)) rfl (fun e => by cases e) (by decide) (rcZ_ok rfl) ?_ (co_law_1035 N q) lb_law 3000 1035 S_law_1035 _ _ h ls_law_1035 hf
  intro pc ls st g e
  rcases kb_s e with ⟨rfl, e⟩ | e
  · obtain ⟨ex, fx⟩ := lgx_s e
    obtain ⟨a1, e0, f0⟩ := lgr_s fx
    obtain ⟨a2, e1, f1⟩ := lgr_s f0
    obtain ⟨x3, e2, f2⟩ := lgi_s f1
    obtain ⟨qe, fe⟩ := pe_s f2
    subst qe
    exact MW.sub (List.forall_mem_cons.mpr ⟨lg_mem ex, List.forall_mem_cons.mpr ⟨lg_mem e0, List.forall_mem_cons.mpr ⟨lg_mem e1, List.forall_mem_cons.mpr ⟨lg_mem e2, fun _ h => absurd h List.not_mem_nil⟩⟩⟩⟩) (t_law_2261 X N hk18 a1 a2 x3 g fe)
  cases e
set_option maxRecDepth 100000 in
theorem t_law_1011 (X : Nat × (Nat → Int32)) (N : Nat) {q : Int32 × mH} {k18 : Nat → Nat → Int32 → mH → Option (Int32 × mH)} (hk18 : ∀ (a1 : Nat) (a2 : Nat) (x3 : Int32) g, k18 a1 a2 x3 g = some q → MW X y_law 28 18 [(0, .retAddr 0), (1, .ref a1), (2, .ref a2), (3, .int x3)] [] g (some (.int q.1)) q.2) (a1 : Nat) (a2 : Nat) (x3 : Int32) (h : mH) (hf : J_law_1011 X N k18 a1 a2 x3 h = some q) : MW X y_law 28 1011 [(0, .retAddr 0), (1, .ref a1), (2, .ref a2), (3, .int x3)] [] h (some (.int q.1)) q.2 := by
  refine ev_ok (o := 13) (ini := false) (Cl := C_law_1011 N) (Rc := RcZ) (B := B_law) (K := fun pc ls st g => kb pc 1035 (lgx 0 ls (lgr 1 ls fun a1 => lgr 2 ls fun a2 => lgi 3 ls fun x3 => pp1 st fun s_3 st => pp1 st fun s_2 st => pp1 st fun s_1 st => pr1 st fun s_0 st => pe st (J_law_1035 X N k18 a1 a2 x3 s_0 s_1 s_2 s_3 g))) (none)) rfl (fun e => by cases e) (by decide) (rcZ_ok rfl) ?_ (co_law_1011 N q) lb_law 3000 1011 S_law_1011 _ _ h ls_law_1011 hf
  intro pc ls st g e
  rcases kb_s e with ⟨rfl, e⟩ | e
  · obtain ⟨ex, fx⟩ := lgx_s e
    obtain ⟨a1, e0, f0⟩ := lgr_s fx
    obtain ⟨a2, e1, f1⟩ := lgr_s f0
    obtain ⟨x3, e2, f2⟩ := lgi_s f1
    obtain ⟨s_3, r0, q0, g0⟩ := pp1_s f2
    obtain ⟨s_2, r1, q1, g1⟩ := pp1_s g0
    obtain ⟨s_1, r2, q2, g2⟩ := pp1_s g1
    obtain ⟨s_0, r3, q3, g3⟩ := pr1_s g2
    obtain ⟨qe, fe⟩ := pe_s g3
    subst qe
    subst q3
    subst q2
    subst q1
    subst q0
    exact MW.sub (List.forall_mem_cons.mpr ⟨lg_mem ex, List.forall_mem_cons.mpr ⟨lg_mem e0, List.forall_mem_cons.mpr ⟨lg_mem e1, List.forall_mem_cons.mpr ⟨lg_mem e2, fun _ h => absurd h List.not_mem_nil⟩⟩⟩⟩) (t_law_1035 X N hk18 a1 a2 x3 s_0 s_1 s_2 s_3 g fe)
  cases e
set_option maxRecDepth 100000 in
theorem t_law_1070 (X : Nat × (Nat → Int32)) (N : Nat) {q : Int32 × mH} {k18 : Nat → Nat → Int32 → mH → Option (Int32 × mH)} (hk18 : ∀ (a1 : Nat) (a2 : Nat) (x3 : Int32) g, k18 a1 a2 x3 g = some q → MW X y_law 28 18 [(0, .retAddr 0), (1, .ref a1), (2, .ref a2), (3, .int x3)] [] g (some (.int q.1)) q.2) (a1 : Nat) (a2 : Nat) (x3 : Int32) (h : mH) (hf : J_law_1070 X N k18 a1 a2 x3 h = some q) : MW X y_law 28 1070 [(0, .retAddr 0), (1, .ref a1), (2, .ref a2), (3, .int x3)] [] h (some (.int q.1)) q.2 := by
  refine ev_ok (o := 13) (ini := false) (Cl := C_law_1070 N) (Rc := RcZ) (B := B_law) (K := fun pc ls st g => kb pc 2261 (lgx 0 ls (lgr 1 ls fun a1 => lgr 2 ls fun a2 => lgi 3 ls fun x3 => pe st (J_law_2261 X N k18 a1 a2 x3 g))) (none)) rfl (fun e => by cases e) (by decide) (rcZ_ok rfl) ?_ (co_law_1070 N q) lb_law 3000 1070 S_law_1070 _ _ h ls_law_1070 hf
  intro pc ls st g e
  rcases kb_s e with ⟨rfl, e⟩ | e
  · obtain ⟨ex, fx⟩ := lgx_s e
    obtain ⟨a1, e0, f0⟩ := lgr_s fx
    obtain ⟨a2, e1, f1⟩ := lgr_s f0
    obtain ⟨x3, e2, f2⟩ := lgi_s f1
    obtain ⟨qe, fe⟩ := pe_s f2
    subst qe
    exact MW.sub (List.forall_mem_cons.mpr ⟨lg_mem ex, List.forall_mem_cons.mpr ⟨lg_mem e0, List.forall_mem_cons.mpr ⟨lg_mem e1, List.forall_mem_cons.mpr ⟨lg_mem e2, fun _ h => absurd h List.not_mem_nil⟩⟩⟩⟩) (t_law_2261 X N hk18 a1 a2 x3 g fe)
  cases e
set_option maxRecDepth 100000 in
theorem t_law_1103 (X : Nat × (Nat → Int32)) (N : Nat) {q : Int32 × mH} {k18 : Nat → Nat → Int32 → mH → Option (Int32 × mH)} (hk18 : ∀ (a1 : Nat) (a2 : Nat) (x3 : Int32) g, k18 a1 a2 x3 g = some q → MW X y_law 28 18 [(0, .retAddr 0), (1, .ref a1), (2, .ref a2), (3, .int x3)] [] g (some (.int q.1)) q.2) (a1 : Nat) (a2 : Nat) (x3 : Int32) (h : mH) (hf : J_law_1103 X N k18 a1 a2 x3 h = some q) : MW X y_law 28 1103 [(0, .retAddr 0), (1, .ref a1), (2, .ref a2), (3, .int x3)] [] h (some (.int q.1)) q.2 := by
  refine ev_ok (o := 13) (ini := false) (Cl := C_law_1103 N) (Rc := RcZ) (B := B_law) (K := fun pc ls st g => kb pc 2261 (lgx 0 ls (lgr 1 ls fun a1 => lgr 2 ls fun a2 => lgi 3 ls fun x3 => pe st (J_law_2261 X N k18 a1 a2 x3 g))) (none)) rfl (fun e => by cases e) (by decide) (rcZ_ok rfl) ?_ (co_law_1103 N q) lb_law 3000 1103 S_law_1103 _ _ h ls_law_1103 hf
  intro pc ls st g e
  rcases kb_s e with ⟨rfl, e⟩ | e
  · obtain ⟨ex, fx⟩ := lgx_s e
    obtain ⟨a1, e0, f0⟩ := lgr_s fx
    obtain ⟨a2, e1, f1⟩ := lgr_s f0
    obtain ⟨x3, e2, f2⟩ := lgi_s f1
    obtain ⟨qe, fe⟩ := pe_s f2
    subst qe
    exact MW.sub (List.forall_mem_cons.mpr ⟨lg_mem ex, List.forall_mem_cons.mpr ⟨lg_mem e0, List.forall_mem_cons.mpr ⟨lg_mem e1, List.forall_mem_cons.mpr ⟨lg_mem e2, fun _ h => absurd h List.not_mem_nil⟩⟩⟩⟩) (t_law_2261 X N hk18 a1 a2 x3 g fe)
  cases e
set_option maxRecDepth 100000 in
theorem t_law_1156 (X : Nat × (Nat → Int32)) (N : Nat) {q : Int32 × mH} {k18 : Nat → Nat → Int32 → mH → Option (Int32 × mH)} (hk18 : ∀ (a1 : Nat) (a2 : Nat) (x3 : Int32) g, k18 a1 a2 x3 g = some q → MW X y_law 28 18 [(0, .retAddr 0), (1, .ref a1), (2, .ref a2), (3, .int x3)] [] g (some (.int q.1)) q.2) (a1 : Nat) (a2 : Nat) (x3 : Int32) (h : mH) (hf : J_law_1156 X N k18 a1 a2 x3 h = some q) : MW X y_law 28 1156 [(0, .retAddr 0), (1, .ref a1), (2, .ref a2), (3, .int x3)] [] h (some (.int q.1)) q.2 := by
  refine ev_ok (o := 13) (ini := false) (Cl := C_law_1156 N) (Rc := RcZ) (B := B_law) (K := fun pc ls st g => kb pc 2261 (lgx 0 ls (lgr 1 ls fun a1 => lgr 2 ls fun a2 => lgi 3 ls fun x3 => pe st (J_law_2261 X N k18 a1 a2 x3 g))) (none)) rfl (fun e => by cases e) (by decide) (rcZ_ok rfl) ?_ (co_law_1156 N q) lb_law 3000 1156 S_law_1156 _ _ h ls_law_1156 hf
  intro pc ls st g e
  rcases kb_s e with ⟨rfl, e⟩ | e
  · obtain ⟨ex, fx⟩ := lgx_s e
    obtain ⟨a1, e0, f0⟩ := lgr_s fx
    obtain ⟨a2, e1, f1⟩ := lgr_s f0
    obtain ⟨x3, e2, f2⟩ := lgi_s f1
    obtain ⟨qe, fe⟩ := pe_s f2
    subst qe
    exact MW.sub (List.forall_mem_cons.mpr ⟨lg_mem ex, List.forall_mem_cons.mpr ⟨lg_mem e0, List.forall_mem_cons.mpr ⟨lg_mem e1, List.forall_mem_cons.mpr ⟨lg_mem e2, fun _ h => absurd h List.not_mem_nil⟩⟩⟩⟩) (t_law_2261 X N hk18 a1 a2 x3 g fe)
  cases e
set_option maxRecDepth 100000 in
theorem t_law_1179 (X : Nat × (Nat → Int32)) (N : Nat) {q : Int32 × mH} {k18 : Nat → Nat → Int32 → mH → Option (Int32 × mH)} (hk18 : ∀ (a1 : Nat) (a2 : Nat) (x3 : Int32) g, k18 a1 a2 x3 g = some q → MW X y_law 28 18 [(0, .retAddr 0), (1, .ref a1), (2, .ref a2), (3, .int x3)] [] g (some (.int q.1)) q.2) (a1 : Nat) (a2 : Nat) (x3 : Int32) (h : mH) (hf : J_law_1179 X N k18 a1 a2 x3 h = some q) : MW X y_law 28 1179 [(0, .retAddr 0), (1, .ref a1), (2, .ref a2), (3, .int x3)] [] h (some (.int q.1)) q.2 := by
  refine ev_ok (o := 13) (ini := false) (Cl := C_law_1179 N) (Rc := RcZ) (B := B_law) (K := fun pc ls st g => kb pc 2261 (lgx 0 ls (lgr 1 ls fun a1 => lgr 2 ls fun a2 => lgi 3 ls fun x3 => pe st (J_law_2261 X N k18 a1 a2 x3 g))) (none)) rfl (fun e => by cases e) (by decide) (rcZ_ok rfl) ?_ (co_law_1179 N q) lb_law 3000 1179 S_law_1179 _ _ h ls_law_1179 hf
  intro pc ls st g e
  rcases kb_s e with ⟨rfl, e⟩ | e
  · obtain ⟨ex, fx⟩ := lgx_s e
    obtain ⟨a1, e0, f0⟩ := lgr_s fx
    obtain ⟨a2, e1, f1⟩ := lgr_s f0
    obtain ⟨x3, e2, f2⟩ := lgi_s f1
    obtain ⟨qe, fe⟩ := pe_s f2
    subst qe
    exact MW.sub (List.forall_mem_cons.mpr ⟨lg_mem ex, List.forall_mem_cons.mpr ⟨lg_mem e0, List.forall_mem_cons.mpr ⟨lg_mem e1, List.forall_mem_cons.mpr ⟨lg_mem e2, fun _ h => absurd h List.not_mem_nil⟩⟩⟩⟩) (t_law_2261 X N hk18 a1 a2 x3 g fe)
  cases e
set_option maxRecDepth 100000 in
theorem t_law_1202 (X : Nat × (Nat → Int32)) (N : Nat) {q : Int32 × mH} {k18 : Nat → Nat → Int32 → mH → Option (Int32 × mH)} (hk18 : ∀ (a1 : Nat) (a2 : Nat) (x3 : Int32) g, k18 a1 a2 x3 g = some q → MW X y_law 28 18 [(0, .retAddr 0), (1, .ref a1), (2, .ref a2), (3, .int x3)] [] g (some (.int q.1)) q.2) (a1 : Nat) (a2 : Nat) (x3 : Int32) (h : mH) (hf : J_law_1202 X N k18 a1 a2 x3 h = some q) : MW X y_law 28 1202 [(0, .retAddr 0), (1, .ref a1), (2, .ref a2), (3, .int x3)] [] h (some (.int q.1)) q.2 := by
  refine ev_ok (o := 13) (ini := false) (Cl := C_law_1202 N) (Rc := RcZ) (B := B_law) (K := fun pc ls st g => kb pc 2261 (lgx 0 ls (lgr 1 ls fun a1 => lgr 2 ls fun a2 => lgi 3 ls fun x3 => pe st (J_law_2261 X N k18 a1 a2 x3 g))) (none)) rfl (fun e => by cases e) (by decide) (rcZ_ok rfl) ?_ (co_law_1202 N q) lb_law 3000 1202 S_law_1202 _ _ h ls_law_1202 hf
  intro pc ls st g e
  rcases kb_s e with ⟨rfl, e⟩ | e
  · obtain ⟨ex, fx⟩ := lgx_s e
    obtain ⟨a1, e0, f0⟩ := lgr_s fx
    obtain ⟨a2, e1, f1⟩ := lgr_s f0
    obtain ⟨x3, e2, f2⟩ := lgi_s f1
    obtain ⟨qe, fe⟩ := pe_s f2
    subst qe
    exact MW.sub (List.forall_mem_cons.mpr ⟨lg_mem ex, List.forall_mem_cons.mpr ⟨lg_mem e0, List.forall_mem_cons.mpr ⟨lg_mem e1, List.forall_mem_cons.mpr ⟨lg_mem e2, fun _ h => absurd h List.not_mem_nil⟩⟩⟩⟩) (t_law_2261 X N hk18 a1 a2 x3 g fe)
  cases e
set_option maxRecDepth 100000 in
theorem t_law_1225 (X : Nat × (Nat → Int32)) (N : Nat) {q : Int32 × mH} {k18 : Nat → Nat → Int32 → mH → Option (Int32 × mH)} (hk18 : ∀ (a1 : Nat) (a2 : Nat) (x3 : Int32) g, k18 a1 a2 x3 g = some q → MW X y_law 28 18 [(0, .retAddr 0), (1, .ref a1), (2, .ref a2), (3, .int x3)] [] g (some (.int q.1)) q.2) (a1 : Nat) (a2 : Nat) (x3 : Int32) (h : mH) (hf : J_law_1225 X N k18 a1 a2 x3 h = some q) : MW X y_law 28 1225 [(0, .retAddr 0), (1, .ref a1), (2, .ref a2), (3, .int x3)] [] h (some (.int q.1)) q.2 := by
  refine ev_ok (o := 13) (ini := false) (Cl := C_law_1225 N) (Rc := RcZ) (B := B_law) (K := fun pc ls st g => kb pc 2261 (lgx 0 ls (lgr 1 ls fun a1 => lgr 2 ls fun a2 => lgi 3 ls fun x3 => pe st (J_law_2261 X N k18 a1 a2 x3 g))) (none)) rfl (fun e => by cases e) (by decide) (rcZ_ok rfl) ?_ (co_law_1225 N q) lb_law 3000 1225 S_law_1225 _ _ h ls_law_1225 hf
  intro pc ls st g e
  rcases kb_s e with ⟨rfl, e⟩ | e
  · obtain ⟨ex, fx⟩ := lgx_s e
    obtain ⟨a1, e0, f0⟩ := lgr_s fx
    obtain ⟨a2, e1, f1⟩ := lgr_s f0
    obtain ⟨x3, e2, f2⟩ := lgi_s f1
    obtain ⟨qe, fe⟩ := pe_s f2
    subst qe
    exact MW.sub (List.forall_mem_cons.mpr ⟨lg_mem ex, List.forall_mem_cons.mpr ⟨lg_mem e0, List.forall_mem_cons.mpr ⟨lg_mem e1, List.forall_mem_cons.mpr ⟨lg_mem e2, fun _ h => absurd h List.not_mem_nil⟩⟩⟩⟩) (t_law_2261 X N hk18 a1 a2 x3 g fe)
  cases e
set_option maxRecDepth 100000 in
theorem t_law_1258 (X : Nat × (Nat → Int32)) (N : Nat) {q : Int32 × mH} {k18 : Nat → Nat → Int32 → mH → Option (Int32 × mH)} (hk18 : ∀ (a1 : Nat) (a2 : Nat) (x3 : Int32) g, k18 a1 a2 x3 g = some q → MW X y_law 28 18 [(0, .retAddr 0), (1, .ref a1), (2, .ref a2), (3, .int x3)] [] g (some (.int q.1)) q.2) (a1 : Nat) (a2 : Nat) (x3 : Int32) (h : mH) (hf : J_law_1258 X N k18 a1 a2 x3 h = some q) : MW X y_law 28 1258 [(0, .retAddr 0), (1, .ref a1), (2, .ref a2), (3, .int x3)] [] h (some (.int q.1)) q.2 := by
  refine ev_ok (o := 13) (ini := false) (Cl := C_law_1258 N) (Rc := RcZ) (B := B_law) (K := fun pc ls st g => kb pc 2261 (lgx 0 ls (lgr 1 ls fun a1 => lgr 2 ls fun a2 => lgi 3 ls fun x3 => pe st (J_law_2261 X N k18 a1 a2 x3 g))) (none)) rfl (fun e => by cases e) (by decide) (rcZ_ok rfl) ?_ (co_law_1258 N q) lb_law 3000 1258 S_law_1258 _ _ h ls_law_1258 hf
  intro pc ls st g e
  rcases kb_s e with ⟨rfl, e⟩ | e
  · obtain ⟨ex, fx⟩ := lgx_s e
    obtain ⟨a1, e0, f0⟩ := lgr_s fx
    obtain ⟨a2, e1, f1⟩ := lgr_s f0
    obtain ⟨x3, e2, f2⟩ := lgi_s f1
    obtain ⟨qe, fe⟩ := pe_s f2
    subst qe
    exact MW.sub (List.forall_mem_cons.mpr ⟨lg_mem ex, List.forall_mem_cons.mpr ⟨lg_mem e0, List.forall_mem_cons.mpr ⟨lg_mem e1, List.forall_mem_cons.mpr ⟨lg_mem e2, fun _ h => absurd h List.not_mem_nil⟩⟩⟩⟩) (t_law_2261 X N hk18 a1 a2 x3 g fe)
  cases e
set_option maxRecDepth 100000 in
theorem t_law_1291 (X : Nat × (Nat → Int32)) (N : Nat) {q : Int32 × mH} {k18 : Nat → Nat → Int32 → mH → Option (Int32 × mH)} (hk18 : ∀ (a1 : Nat) (a2 : Nat) (x3 : Int32) g, k18 a1 a2 x3 g = some q → MW X y_law 28 18 [(0, .retAddr 0), (1, .ref a1), (2, .ref a2), (3, .int x3)] [] g (some (.int q.1)) q.2) (a1 : Nat) (a2 : Nat) (x3 : Int32) (h : mH) (hf : J_law_1291 X N k18 a1 a2 x3 h = some q) : MW X y_law 28 1291 [(0, .retAddr 0), (1, .ref a1), (2, .ref a2), (3, .int x3)] [] h (some (.int q.1)) q.2 := by
  refine ev_ok (o := 13) (ini := false) (Cl := C_law_1291 N) (Rc := RcZ) (B := B_law) (K := fun pc ls st g => kb pc 2261 (lgx 0 ls (lgr 1 ls fun a1 => lgr 2 ls fun a2 => lgi 3 ls fun x3 => pe st (J_law_2261 X N k18 a1 a2 x3 g))) (none)) rfl (fun e => by cases e) (by decide) (rcZ_ok rfl) ?_ (co_law_1291 N q) lb_law 3000 1291 S_law_1291 _ _ h ls_law_1291 hf
  intro pc ls st g e
  rcases kb_s e with ⟨rfl, e⟩ | e
  · obtain ⟨ex, fx⟩ := lgx_s e
    obtain ⟨a1, e0, f0⟩ := lgr_s fx
    obtain ⟨a2, e1, f1⟩ := lgr_s f0
    obtain ⟨x3, e2, f2⟩ := lgi_s f1
    obtain ⟨qe, fe⟩ := pe_s f2
    subst qe
    exact MW.sub (List.forall_mem_cons.mpr ⟨lg_mem ex, List.forall_mem_cons.mpr ⟨lg_mem e0, List.forall_mem_cons.mpr ⟨lg_mem e1, List.forall_mem_cons.mpr ⟨lg_mem e2, fun _ h => absurd h List.not_mem_nil⟩⟩⟩⟩) (t_law_2261 X N hk18 a1 a2 x3 g fe)
  cases e
set_option maxRecDepth 100000 in
theorem t_law_1314 (X : Nat × (Nat → Int32)) (N : Nat) {q : Int32 × mH} {k18 : Nat → Nat → Int32 → mH → Option (Int32 × mH)} (hk18 : ∀ (a1 : Nat) (a2 : Nat) (x3 : Int32) g, k18 a1 a2 x3 g = some q → MW X y_law 28 18 [(0, .retAddr 0), (1, .ref a1), (2, .ref a2), (3, .int x3)] [] g (some (.int q.1)) q.2) (a1 : Nat) (a2 : Nat) (x3 : Int32) (h : mH) (hf : J_law_1314 X N k18 a1 a2 x3 h = some q) : MW X y_law 28 1314 [(0, .retAddr 0), (1, .ref a1), (2, .ref a2), (3, .int x3)] [] h (some (.int q.1)) q.2 := by
  refine ev_ok (o := 13) (ini := false) (Cl := C_law_1314 N) (Rc := RcZ) (B := B_law) (K := fun pc ls st g => kb pc 2261 (lgx 0 ls (lgr 1 ls fun a1 => lgr 2 ls fun a2 => lgi 3 ls fun x3 => pe st (J_law_2261 X N k18 a1 a2 x3 g))) (none)) rfl (fun e => by cases e) (by decide) (rcZ_ok rfl) ?_ (co_law_1314 N q) lb_law 3000 1314 S_law_1314 _ _ h ls_law_1314 hf
  intro pc ls st g e
  rcases kb_s e with ⟨rfl, e⟩ | e
  · obtain ⟨ex, fx⟩ := lgx_s e
    obtain ⟨a1, e0, f0⟩ := lgr_s fx
    obtain ⟨a2, e1, f1⟩ := lgr_s f0
    obtain ⟨x3, e2, f2⟩ := lgi_s f1
    obtain ⟨qe, fe⟩ := pe_s f2
    subst qe
    exact MW.sub (List.forall_mem_cons.mpr ⟨lg_mem ex, List.forall_mem_cons.mpr ⟨lg_mem e0, List.forall_mem_cons.mpr ⟨lg_mem e1, List.forall_mem_cons.mpr ⟨lg_mem e2, fun _ h => absurd h List.not_mem_nil⟩⟩⟩⟩) (t_law_2261 X N hk18 a1 a2 x3 g fe)
  cases e
set_option maxRecDepth 100000 in
theorem t_law_1337 (X : Nat × (Nat → Int32)) (N : Nat) {q : Int32 × mH} {k18 : Nat → Nat → Int32 → mH → Option (Int32 × mH)} (hk18 : ∀ (a1 : Nat) (a2 : Nat) (x3 : Int32) g, k18 a1 a2 x3 g = some q → MW X y_law 28 18 [(0, .retAddr 0), (1, .ref a1), (2, .ref a2), (3, .int x3)] [] g (some (.int q.1)) q.2) (a1 : Nat) (a2 : Nat) (x3 : Int32) (h : mH) (hf : J_law_1337 X N k18 a1 a2 x3 h = some q) : MW X y_law 28 1337 [(0, .retAddr 0), (1, .ref a1), (2, .ref a2), (3, .int x3)] [] h (some (.int q.1)) q.2 := by
  refine ev_ok (o := 13) (ini := false) (Cl := C_law_1337 N) (Rc := RcZ) (B := B_law) (K := fun pc ls st g => kb pc 2261 (lgx 0 ls (lgr 1 ls fun a1 => lgr 2 ls fun a2 => lgi 3 ls fun x3 => pe st (J_law_2261 X N k18 a1 a2 x3 g))) (none)) rfl (fun e => by cases e) (by decide) (rcZ_ok rfl) ?_ (co_law_1337 N q) lb_law 3000 1337 S_law_1337 _ _ h ls_law_1337 hf
  intro pc ls st g e
  rcases kb_s e with ⟨rfl, e⟩ | e
  · obtain ⟨ex, fx⟩ := lgx_s e
    obtain ⟨a1, e0, f0⟩ := lgr_s fx
    obtain ⟨a2, e1, f1⟩ := lgr_s f0
    obtain ⟨x3, e2, f2⟩ := lgi_s f1
    obtain ⟨qe, fe⟩ := pe_s f2
    subst qe
    exact MW.sub (List.forall_mem_cons.mpr ⟨lg_mem ex, List.forall_mem_cons.mpr ⟨lg_mem e0, List.forall_mem_cons.mpr ⟨lg_mem e1, List.forall_mem_cons.mpr ⟨lg_mem e2, fun _ h => absurd h List.not_mem_nil⟩⟩⟩⟩) (t_law_2261 X N hk18 a1 a2 x3 g fe)
  cases e
set_option maxRecDepth 100000 in
theorem t_law_1350 (X : Nat × (Nat → Int32)) (N : Nat) {q : Int32 × mH} {k18 : Nat → Nat → Int32 → mH → Option (Int32 × mH)} (hk18 : ∀ (a1 : Nat) (a2 : Nat) (x3 : Int32) g, k18 a1 a2 x3 g = some q → MW X y_law 28 18 [(0, .retAddr 0), (1, .ref a1), (2, .ref a2), (3, .int x3)] [] g (some (.int q.1)) q.2) (a1 : Nat) (a2 : Nat) (x3 : Int32) (h : mH) (hf : J_law_1350 X N k18 a1 a2 x3 h = some q) : MW X y_law 28 1350 [(0, .retAddr 0), (1, .ref a1), (2, .ref a2), (3, .int x3)] [] h (some (.int q.1)) q.2 := by
  refine ev_ok (o := 13) (ini := false) (Cl := C_law_1350 N) (Rc := RcZ) (B := B_law) (K := fun pc ls st g => kb pc 2261 (lgx 0 ls (lgr 1 ls fun a1 => lgr 2 ls fun a2 => lgi 3 ls fun x3 => pe st (J_law_2261 X N k18 a1 a2 x3 g))) (none)) rfl (fun e => by cases e) (by decide) (rcZ_ok rfl) ?_ (co_law_1350 N q) lb_law 3000 1350 S_law_1350 _ _ h ls_law_1350 hf
  intro pc ls st g e
  rcases kb_s e with ⟨rfl, e⟩ | e
  · obtain ⟨ex, fx⟩ := lgx_s e
    obtain ⟨a1, e0, f0⟩ := lgr_s fx
    obtain ⟨a2, e1, f1⟩ := lgr_s f0
    obtain ⟨x3, e2, f2⟩ := lgi_s f1
    obtain ⟨qe, fe⟩ := pe_s f2
    subst qe
    exact MW.sub (List.forall_mem_cons.mpr ⟨lg_mem ex, List.forall_mem_cons.mpr ⟨lg_mem e0, List.forall_mem_cons.mpr ⟨lg_mem e1, List.forall_mem_cons.mpr ⟨lg_mem e2, fun _ h => absurd h List.not_mem_nil⟩⟩⟩⟩) (t_law_2261 X N hk18 a1 a2 x3 g fe)
  cases e
set_option maxRecDepth 100000 in
theorem t_law_1392 (X : Nat × (Nat → Int32)) (N : Nat) {q : Int32 × mH} {k18 : Nat → Nat → Int32 → mH → Option (Int32 × mH)} (hk18 : ∀ (a1 : Nat) (a2 : Nat) (x3 : Int32) g, k18 a1 a2 x3 g = some q → MW X y_law 28 18 [(0, .retAddr 0), (1, .ref a1), (2, .ref a2), (3, .int x3)] [] g (some (.int q.1)) q.2) (a1 : Nat) (a2 : Nat) (x3 : Int32) (s_0 : Nat) (s_1 : Int32) (s_2 : Int32) (h : mH) (hf : J_law_1392 X N k18 a1 a2 x3 s_0 s_1 s_2 h = some q) : MW X y_law 28 1392 [(0, .retAddr 0), (1, .ref a1), (2, .ref a2), (3, .int x3)] [.int s_2, .int s_1, .ref s_0] h (some (.int q.1)) q.2 := by
  refine ev_ok (o := 13) (ini := false) (Cl := C_law_1392 N) (Rc := RcZ) (B := B_law) (K := fun pc ls st g => kb pc 2261 (lgx 0 ls (lgr 1 ls fun a1 => lgr 2 ls fun a2 => lgi 3 ls fun x3 => pe st (J_law_2261 X N k18 a1 a2 x3 g))) (none)) rfl (fun e => by cases e) (by decide) (rcZ_ok rfl) ?_ (co_law_1392 N q) lb_law 3000 1392 S_law_1392 _ _ h ls_law_1392 hf
  intro pc ls st g e
  rcases kb_s e with ⟨rfl, e⟩ | e
  · obtain ⟨ex, fx⟩ := lgx_s e
    obtain ⟨a1, e0, f0⟩ := lgr_s fx
    obtain ⟨a2, e1, f1⟩ := lgr_s f0
    obtain ⟨x3, e2, f2⟩ := lgi_s f1
    obtain ⟨qe, fe⟩ := pe_s f2
    subst qe
    exact MW.sub (List.forall_mem_cons.mpr ⟨lg_mem ex, List.forall_mem_cons.mpr ⟨lg_mem e0, List.forall_mem_cons.mpr ⟨lg_mem e1, List.forall_mem_cons.mpr ⟨lg_mem e2, fun _ h => absurd h List.not_mem_nil⟩⟩⟩⟩) (t_law_2261 X N hk18 a1 a2 x3 g fe)
  cases e
set_option maxRecDepth 100000 in
theorem t_law_1373 (X : Nat × (Nat → Int32)) (N : Nat) {q : Int32 × mH} {k18 : Nat → Nat → Int32 → mH → Option (Int32 × mH)} (hk18 : ∀ (a1 : Nat) (a2 : Nat) (x3 : Int32) g, k18 a1 a2 x3 g = some q → MW X y_law 28 18 [(0, .retAddr 0), (1, .ref a1), (2, .ref a2), (3, .int x3)] [] g (some (.int q.1)) q.2) (a1 : Nat) (a2 : Nat) (x3 : Int32) (h : mH) (hf : J_law_1373 X N k18 a1 a2 x3 h = some q) : MW X y_law 28 1373 [(0, .retAddr 0), (1, .ref a1), (2, .ref a2), (3, .int x3)] [] h (some (.int q.1)) q.2 := by
  refine ev_ok (o := 13) (ini := false) (Cl := C_law_1373 N) (Rc := RcZ) (B := B_law) (K := fun pc ls st g => kb pc 1392 (lgx 0 ls (lgr 1 ls fun a1 => lgr 2 ls fun a2 => lgi 3 ls fun x3 => pp1 st fun s_2 st => pp1 st fun s_1 st => pr1 st fun s_0 st => pe st (J_law_1392 X N k18 a1 a2 x3 s_0 s_1 s_2 g))) (none)) rfl (fun e => by cases e) (by decide) (rcZ_ok rfl) ?_ (co_law_1373 N q) lb_law 3000 1373 S_law_1373 _ _ h ls_law_1373 hf
  intro pc ls st g e
  rcases kb_s e with ⟨rfl, e⟩ | e
  · obtain ⟨ex, fx⟩ := lgx_s e
    obtain ⟨a1, e0, f0⟩ := lgr_s fx
    obtain ⟨a2, e1, f1⟩ := lgr_s f0
    obtain ⟨x3, e2, f2⟩ := lgi_s f1
    obtain ⟨s_2, r0, q0, g0⟩ := pp1_s f2
    obtain ⟨s_1, r1, q1, g1⟩ := pp1_s g0
    obtain ⟨s_0, r2, q2, g2⟩ := pr1_s g1
    obtain ⟨qe, fe⟩ := pe_s g2
    subst qe
    subst q2
    subst q1
    subst q0
    exact MW.sub (List.forall_mem_cons.mpr ⟨lg_mem ex, List.forall_mem_cons.mpr ⟨lg_mem e0, List.forall_mem_cons.mpr ⟨lg_mem e1, List.forall_mem_cons.mpr ⟨lg_mem e2, fun _ h => absurd h List.not_mem_nil⟩⟩⟩⟩) (t_law_1392 X N hk18 a1 a2 x3 s_0 s_1 s_2 g fe)
  cases e
set_option maxRecDepth 100000 in
theorem t_law_1422 (X : Nat × (Nat → Int32)) (N : Nat) {q : Int32 × mH} {k18 : Nat → Nat → Int32 → mH → Option (Int32 × mH)} (hk18 : ∀ (a1 : Nat) (a2 : Nat) (x3 : Int32) g, k18 a1 a2 x3 g = some q → MW X y_law 28 18 [(0, .retAddr 0), (1, .ref a1), (2, .ref a2), (3, .int x3)] [] g (some (.int q.1)) q.2) (a1 : Nat) (a2 : Nat) (x3 : Int32) (h : mH) (hf : J_law_1422 X N k18 a1 a2 x3 h = some q) : MW X y_law 28 1422 [(0, .retAddr 0), (1, .ref a1), (2, .ref a2), (3, .int x3)] [] h (some (.int q.1)) q.2 := by
  refine ev_ok (o := 13) (ini := false) (Cl := C_law_1422 N) (Rc := RcZ) (B := B_law) (K := fun pc ls st g => kb pc 2261 (lgx 0 ls (lgr 1 ls fun a1 => lgr 2 ls fun a2 => lgi 3 ls fun x3 => pe st (J_law_2261 X N k18 a1 a2 x3 g))) (none)) rfl (fun e => by cases e) (by decide) (rcZ_ok rfl) ?_ (co_law_1422 N q) lb_law 3000 1422 S_law_1422 _ _ h ls_law_1422 hf
  intro pc ls st g e
  rcases kb_s e with ⟨rfl, e⟩ | e
  · obtain ⟨ex, fx⟩ := lgx_s e
    obtain ⟨a1, e0, f0⟩ := lgr_s fx
    obtain ⟨a2, e1, f1⟩ := lgr_s f0
    obtain ⟨x3, e2, f2⟩ := lgi_s f1
    obtain ⟨qe, fe⟩ := pe_s f2
    subst qe
    exact MW.sub (List.forall_mem_cons.mpr ⟨lg_mem ex, List.forall_mem_cons.mpr ⟨lg_mem e0, List.forall_mem_cons.mpr ⟨lg_mem e1, List.forall_mem_cons.mpr ⟨lg_mem e2, fun _ h => absurd h List.not_mem_nil⟩⟩⟩⟩) (t_law_2261 X N hk18 a1 a2 x3 g fe)
  cases e
set_option maxRecDepth 100000 in
theorem t_law_1455 (X : Nat × (Nat → Int32)) (N : Nat) {q : Int32 × mH} {k18 : Nat → Nat → Int32 → mH → Option (Int32 × mH)} (hk18 : ∀ (a1 : Nat) (a2 : Nat) (x3 : Int32) g, k18 a1 a2 x3 g = some q → MW X y_law 28 18 [(0, .retAddr 0), (1, .ref a1), (2, .ref a2), (3, .int x3)] [] g (some (.int q.1)) q.2) (a1 : Nat) (a2 : Nat) (x3 : Int32) (h : mH) (hf : J_law_1455 X N k18 a1 a2 x3 h = some q) : MW X y_law 28 1455 [(0, .retAddr 0), (1, .ref a1), (2, .ref a2), (3, .int x3)] [] h (some (.int q.1)) q.2 := by
  refine ev_ok (o := 13) (ini := false) (Cl := C_law_1455 N) (Rc := RcZ) (B := B_law) (K := fun pc ls st g => kb pc 2261 (lgx 0 ls (lgr 1 ls fun a1 => lgr 2 ls fun a2 => lgi 3 ls fun x3 => pe st (J_law_2261 X N k18 a1 a2 x3 g))) (none)) rfl (fun e => by cases e) (by decide) (rcZ_ok rfl) ?_ (co_law_1455 N q) lb_law 3000 1455 S_law_1455 _ _ h ls_law_1455 hf
  intro pc ls st g e
  rcases kb_s e with ⟨rfl, e⟩ | e
  · obtain ⟨ex, fx⟩ := lgx_s e
    obtain ⟨a1, e0, f0⟩ := lgr_s fx
    obtain ⟨a2, e1, f1⟩ := lgr_s f0
    obtain ⟨x3, e2, f2⟩ := lgi_s f1
    obtain ⟨qe, fe⟩ := pe_s f2
    subst qe
    exact MW.sub (List.forall_mem_cons.mpr ⟨lg_mem ex, List.forall_mem_cons.mpr ⟨lg_mem e0, List.forall_mem_cons.mpr ⟨lg_mem e1, List.forall_mem_cons.mpr ⟨lg_mem e2, fun _ h => absurd h List.not_mem_nil⟩⟩⟩⟩) (t_law_2261 X N hk18 a1 a2 x3 g fe)
  cases e
set_option maxRecDepth 100000 in
theorem t_law_1498 (X : Nat × (Nat → Int32)) (N : Nat) {q : Int32 × mH} {k18 : Nat → Nat → Int32 → mH → Option (Int32 × mH)} (hk18 : ∀ (a1 : Nat) (a2 : Nat) (x3 : Int32) g, k18 a1 a2 x3 g = some q → MW X y_law 28 18 [(0, .retAddr 0), (1, .ref a1), (2, .ref a2), (3, .int x3)] [] g (some (.int q.1)) q.2) (a1 : Nat) (a2 : Nat) (x3 : Int32) (h : mH) (hf : J_law_1498 X N k18 a1 a2 x3 h = some q) : MW X y_law 28 1498 [(0, .retAddr 0), (1, .ref a1), (2, .ref a2), (3, .int x3)] [] h (some (.int q.1)) q.2 := by
  refine ev_ok (o := 13) (ini := false) (Cl := C_law_1498 N) (Rc := RcZ) (B := B_law) (K := fun pc ls st g => kb pc 2261 (lgx 0 ls (lgr 1 ls fun a1 => lgr 2 ls fun a2 => lgi 3 ls fun x3 => pe st (J_law_2261 X N k18 a1 a2 x3 g))) (none)) rfl (fun e => by cases e) (by decide) (rcZ_ok rfl) ?_ (co_law_1498 N q) lb_law 3000 1498 S_law_1498 _ _ h ls_law_1498 hf
  intro pc ls st g e
  rcases kb_s e with ⟨rfl, e⟩ | e
  · obtain ⟨ex, fx⟩ := lgx_s e
    obtain ⟨a1, e0, f0⟩ := lgr_s fx
    obtain ⟨a2, e1, f1⟩ := lgr_s f0
    obtain ⟨x3, e2, f2⟩ := lgi_s f1
    obtain ⟨qe, fe⟩ := pe_s f2
    subst qe
    exact MW.sub (List.forall_mem_cons.mpr ⟨lg_mem ex, List.forall_mem_cons.mpr ⟨lg_mem e0, List.forall_mem_cons.mpr ⟨lg_mem e1, List.forall_mem_cons.mpr ⟨lg_mem e2, fun _ h => absurd h List.not_mem_nil⟩⟩⟩⟩) (t_law_2261 X N hk18 a1 a2 x3 g fe)
  cases e
set_option maxRecDepth 100000 in
theorem t_law_1531 (X : Nat × (Nat → Int32)) (N : Nat) {q : Int32 × mH} {k18 : Nat → Nat → Int32 → mH → Option (Int32 × mH)} (hk18 : ∀ (a1 : Nat) (a2 : Nat) (x3 : Int32) g, k18 a1 a2 x3 g = some q → MW X y_law 28 18 [(0, .retAddr 0), (1, .ref a1), (2, .ref a2), (3, .int x3)] [] g (some (.int q.1)) q.2) (a1 : Nat) (a2 : Nat) (x3 : Int32) (h : mH) (hf : J_law_1531 X N k18 a1 a2 x3 h = some q) : MW X y_law 28 1531 [(0, .retAddr 0), (1, .ref a1), (2, .ref a2), (3, .int x3)] [] h (some (.int q.1)) q.2 := by
  refine ev_ok (o := 13) (ini := false) (Cl := C_law_1531 N) (Rc := RcZ) (B := B_law) (K := fun pc ls st g => kb pc 2261 (lgx 0 ls (lgr 1 ls fun a1 => lgr 2 ls fun a2 => lgi 3 ls fun x3 => pe st (J_law_2261 X N k18 a1 a2 x3 g))) (none)) rfl (fun e => by cases e) (by decide) (rcZ_ok rfl) ?_ (co_law_1531 N q) lb_law 3000 1531 S_law_1531 _ _ h ls_law_1531 hf
  intro pc ls st g e
  rcases kb_s e with ⟨rfl, e⟩ | e
  · obtain ⟨ex, fx⟩ := lgx_s e
    obtain ⟨a1, e0, f0⟩ := lgr_s fx
    obtain ⟨a2, e1, f1⟩ := lgr_s f0
    obtain ⟨x3, e2, f2⟩ := lgi_s f1
    obtain ⟨qe, fe⟩ := pe_s f2
    subst qe
    exact MW.sub (List.forall_mem_cons.mpr ⟨lg_mem ex, List.forall_mem_cons.mpr ⟨lg_mem e0, List.forall_mem_cons.mpr ⟨lg_mem e1, List.forall_mem_cons.mpr ⟨lg_mem e2, fun _ h => absurd h List.not_mem_nil⟩⟩⟩⟩) (t_law_2261 X N hk18 a1 a2 x3 g fe)
  cases e
set_option maxRecDepth 100000 in
theorem t_law_1574 (X : Nat × (Nat → Int32)) (N : Nat) {q : Int32 × mH} {k18 : Nat → Nat → Int32 → mH → Option (Int32 × mH)} (hk18 : ∀ (a1 : Nat) (a2 : Nat) (x3 : Int32) g, k18 a1 a2 x3 g = some q → MW X y_law 28 18 [(0, .retAddr 0), (1, .ref a1), (2, .ref a2), (3, .int x3)] [] g (some (.int q.1)) q.2) (a1 : Nat) (a2 : Nat) (x3 : Int32) (h : mH) (hf : J_law_1574 X N k18 a1 a2 x3 h = some q) : MW X y_law 28 1574 [(0, .retAddr 0), (1, .ref a1), (2, .ref a2), (3, .int x3)] [] h (some (.int q.1)) q.2 := by
  refine ev_ok (o := 13) (ini := false) (Cl := C_law_1574 N) (Rc := RcZ) (B := B_law) (K := fun pc ls st g => kb pc 2261 (lgx 0 ls (lgr 1 ls fun a1 => lgr 2 ls fun a2 => lgi 3 ls fun x3 => pe st (J_law_2261 X N k18 a1 a2 x3 g))) (none)) rfl (fun e => by cases e) (by decide) (rcZ_ok rfl) ?_ (co_law_1574 N q) lb_law 3000 1574 S_law_1574 _ _ h ls_law_1574 hf
  intro pc ls st g e
  rcases kb_s e with ⟨rfl, e⟩ | e
  · obtain ⟨ex, fx⟩ := lgx_s e
    obtain ⟨a1, e0, f0⟩ := lgr_s fx
    obtain ⟨a2, e1, f1⟩ := lgr_s f0
    obtain ⟨x3, e2, f2⟩ := lgi_s f1
    obtain ⟨qe, fe⟩ := pe_s f2
    subst qe
    exact MW.sub (List.forall_mem_cons.mpr ⟨lg_mem ex, List.forall_mem_cons.mpr ⟨lg_mem e0, List.forall_mem_cons.mpr ⟨lg_mem e1, List.forall_mem_cons.mpr ⟨lg_mem e2, fun _ h => absurd h List.not_mem_nil⟩⟩⟩⟩) (t_law_2261 X N hk18 a1 a2 x3 g fe)
  cases e
set_option maxRecDepth 100000 in
theorem t_law_1626 (X : Nat × (Nat → Int32)) (N : Nat) {q : Int32 × mH} {k18 : Nat → Nat → Int32 → mH → Option (Int32 × mH)} (hk18 : ∀ (a1 : Nat) (a2 : Nat) (x3 : Int32) g, k18 a1 a2 x3 g = some q → MW X y_law 28 18 [(0, .retAddr 0), (1, .ref a1), (2, .ref a2), (3, .int x3)] [] g (some (.int q.1)) q.2) (a1 : Nat) (a2 : Nat) (x3 : Int32) (s_0 : Nat) (s_1 : Int32) (s_2 : Int32) (h : mH) (hf : J_law_1626 X N k18 a1 a2 x3 s_0 s_1 s_2 h = some q) : MW X y_law 28 1626 [(0, .retAddr 0), (1, .ref a1), (2, .ref a2), (3, .int x3)] [.int s_2, .int s_1, .ref s_0] h (some (.int q.1)) q.2 := by
  refine ev_ok (o := 13) (ini := false) (Cl := C_law_1626 N) (Rc := RcZ) (B := B_law) (K := fun pc ls st g => kb pc 2261 (lgx 0 ls (lgr 1 ls fun a1 => lgr 2 ls fun a2 => lgi 3 ls fun x3 => pe st (J_law_2261 X N k18 a1 a2 x3 g))) (none)) rfl (fun e => by cases e) (by decide) (rcZ_ok rfl) ?_ (co_law_1626 N q) lb_law 3000 1626 S_law_1626 _ _ h ls_law_1626 hf
  intro pc ls st g e
  rcases kb_s e with ⟨rfl, e⟩ | e
  · obtain ⟨ex, fx⟩ := lgx_s e
    obtain ⟨a1, e0, f0⟩ := lgr_s fx
    obtain ⟨a2, e1, f1⟩ := lgr_s f0
    obtain ⟨x3, e2, f2⟩ := lgi_s f1
    obtain ⟨qe, fe⟩ := pe_s f2
    subst qe
    exact MW.sub (List.forall_mem_cons.mpr ⟨lg_mem ex, List.forall_mem_cons.mpr ⟨lg_mem e0, List.forall_mem_cons.mpr ⟨lg_mem e1, List.forall_mem_cons.mpr ⟨lg_mem e2, fun _ h => absurd h List.not_mem_nil⟩⟩⟩⟩) (t_law_2261 X N hk18 a1 a2 x3 g fe)
  cases e
set_option maxRecDepth 100000 in
theorem t_law_1607 (X : Nat × (Nat → Int32)) (N : Nat) {q : Int32 × mH} {k18 : Nat → Nat → Int32 → mH → Option (Int32 × mH)} (hk18 : ∀ (a1 : Nat) (a2 : Nat) (x3 : Int32) g, k18 a1 a2 x3 g = some q → MW X y_law 28 18 [(0, .retAddr 0), (1, .ref a1), (2, .ref a2), (3, .int x3)] [] g (some (.int q.1)) q.2) (a1 : Nat) (a2 : Nat) (x3 : Int32) (h : mH) (hf : J_law_1607 X N k18 a1 a2 x3 h = some q) : MW X y_law 28 1607 [(0, .retAddr 0), (1, .ref a1), (2, .ref a2), (3, .int x3)] [] h (some (.int q.1)) q.2 := by
  refine ev_ok (o := 13) (ini := false) (Cl := C_law_1607 N) (Rc := RcZ) (B := B_law) (K := fun pc ls st g => kb pc 1626 (lgx 0 ls (lgr 1 ls fun a1 => lgr 2 ls fun a2 => lgi 3 ls fun x3 => pp1 st fun s_2 st => pp1 st fun s_1 st => pr1 st fun s_0 st => pe st (J_law_1626 X N k18 a1 a2 x3 s_0 s_1 s_2 g))) (none)) rfl (fun e => by cases e) (by decide) (rcZ_ok rfl) ?_ (co_law_1607 N q) lb_law 3000 1607 S_law_1607 _ _ h ls_law_1607 hf
  intro pc ls st g e
  rcases kb_s e with ⟨rfl, e⟩ | e
  · obtain ⟨ex, fx⟩ := lgx_s e
    obtain ⟨a1, e0, f0⟩ := lgr_s fx
    obtain ⟨a2, e1, f1⟩ := lgr_s f0
    obtain ⟨x3, e2, f2⟩ := lgi_s f1
    obtain ⟨s_2, r0, q0, g0⟩ := pp1_s f2
    obtain ⟨s_1, r1, q1, g1⟩ := pp1_s g0
    obtain ⟨s_0, r2, q2, g2⟩ := pr1_s g1
    obtain ⟨qe, fe⟩ := pe_s g2
    subst qe
    subst q2
    subst q1
    subst q0
    exact MW.sub (List.forall_mem_cons.mpr ⟨lg_mem ex, List.forall_mem_cons.mpr ⟨lg_mem e0, List.forall_mem_cons.mpr ⟨lg_mem e1, List.forall_mem_cons.mpr ⟨lg_mem e2, fun _ h => absurd h List.not_mem_nil⟩⟩⟩⟩) (t_law_1626 X N hk18 a1 a2 x3 s_0 s_1 s_2 g fe)
  cases e
set_option maxRecDepth 100000 in
theorem t_law_1656 (X : Nat × (Nat → Int32)) (N : Nat) {q : Int32 × mH} {k18 : Nat → Nat → Int32 → mH → Option (Int32 × mH)} (hk18 : ∀ (a1 : Nat) (a2 : Nat) (x3 : Int32) g, k18 a1 a2 x3 g = some q → MW X y_law 28 18 [(0, .retAddr 0), (1, .ref a1), (2, .ref a2), (3, .int x3)] [] g (some (.int q.1)) q.2) (a1 : Nat) (a2 : Nat) (x3 : Int32) (h : mH) (hf : J_law_1656 X N k18 a1 a2 x3 h = some q) : MW X y_law 28 1656 [(0, .retAddr 0), (1, .ref a1), (2, .ref a2), (3, .int x3)] [] h (some (.int q.1)) q.2 := by
  refine ev_ok (o := 13) (ini := false) (Cl := C_law_1656 N) (Rc := RcZ) (B := B_law) (K := fun pc ls st g => kb pc 2261 (lgx 0 ls (lgr 1 ls fun a1 => lgr 2 ls fun a2 => lgi 3 ls fun x3 => pe st (J_law_2261 X N k18 a1 a2 x3 g))) (none)) rfl (fun e => by cases e) (by decide) (rcZ_ok rfl) ?_ (co_law_1656 N q) lb_law 3000 1656 S_law_1656 _ _ h ls_law_1656 hf
  intro pc ls st g e
  rcases kb_s e with ⟨rfl, e⟩ | e
  · obtain ⟨ex, fx⟩ := lgx_s e
    obtain ⟨a1, e0, f0⟩ := lgr_s fx
    obtain ⟨a2, e1, f1⟩ := lgr_s f0
    obtain ⟨x3, e2, f2⟩ := lgi_s f1
    obtain ⟨qe, fe⟩ := pe_s f2
    subst qe
    exact MW.sub (List.forall_mem_cons.mpr ⟨lg_mem ex, List.forall_mem_cons.mpr ⟨lg_mem e0, List.forall_mem_cons.mpr ⟨lg_mem e1, List.forall_mem_cons.mpr ⟨lg_mem e2, fun _ h => absurd h List.not_mem_nil⟩⟩⟩⟩) (t_law_2261 X N hk18 a1 a2 x3 g fe)
  cases e
set_option maxRecDepth 100000 in
theorem t_law_1669 (X : Nat × (Nat → Int32)) (N : Nat) {q : Int32 × mH} {k18 : Nat → Nat → Int32 → mH → Option (Int32 × mH)} (hk18 : ∀ (a1 : Nat) (a2 : Nat) (x3 : Int32) g, k18 a1 a2 x3 g = some q → MW X y_law 28 18 [(0, .retAddr 0), (1, .ref a1), (2, .ref a2), (3, .int x3)] [] g (some (.int q.1)) q.2) (a1 : Nat) (a2 : Nat) (x3 : Int32) (h : mH) (hf : J_law_1669 X N k18 a1 a2 x3 h = some q) : MW X y_law 28 1669 [(0, .retAddr 0), (1, .ref a1), (2, .ref a2), (3, .int x3)] [] h (some (.int q.1)) q.2 := by
  refine ev_ok (o := 13) (ini := false) (Cl := C_law_1669 N) (Rc := RcZ) (B := B_law) (K := fun pc ls st g => kb pc 2261 (lgx 0 ls (lgr 1 ls fun a1 => lgr 2 ls fun a2 => lgi 3 ls fun x3 => pe st (J_law_2261 X N k18 a1 a2 x3 g))) (none)) rfl (fun e => by cases e) (by decide) (rcZ_ok rfl) ?_ (co_law_1669 N q) lb_law 3000 1669 S_law_1669 _ _ h ls_law_1669 hf
  intro pc ls st g e
  rcases kb_s e with ⟨rfl, e⟩ | e
  · obtain ⟨ex, fx⟩ := lgx_s e
    obtain ⟨a1, e0, f0⟩ := lgr_s fx
    obtain ⟨a2, e1, f1⟩ := lgr_s f0
    obtain ⟨x3, e2, f2⟩ := lgi_s f1
    obtain ⟨qe, fe⟩ := pe_s f2
    subst qe
    exact MW.sub (List.forall_mem_cons.mpr ⟨lg_mem ex, List.forall_mem_cons.mpr ⟨lg_mem e0, List.forall_mem_cons.mpr ⟨lg_mem e1, List.forall_mem_cons.mpr ⟨lg_mem e2, fun _ h => absurd h List.not_mem_nil⟩⟩⟩⟩) (t_law_2261 X N hk18 a1 a2 x3 g fe)
  cases e
set_option maxRecDepth 100000 in
theorem t_law_1692 (X : Nat × (Nat → Int32)) (N : Nat) {q : Int32 × mH} {k18 : Nat → Nat → Int32 → mH → Option (Int32 × mH)} (hk18 : ∀ (a1 : Nat) (a2 : Nat) (x3 : Int32) g, k18 a1 a2 x3 g = some q → MW X y_law 28 18 [(0, .retAddr 0), (1, .ref a1), (2, .ref a2), (3, .int x3)] [] g (some (.int q.1)) q.2) (a1 : Nat) (a2 : Nat) (x3 : Int32) (h : mH) (hf : J_law_1692 X N k18 a1 a2 x3 h = some q) : MW X y_law 28 1692 [(0, .retAddr 0), (1, .ref a1), (2, .ref a2), (3, .int x3)] [] h (some (.int q.1)) q.2 := by
  refine ev_ok (o := 13) (ini := false) (Cl := C_law_1692 N) (Rc := RcZ) (B := B_law) (K := fun pc ls st g => kb pc 2261 (lgx 0 ls (lgr 1 ls fun a1 => lgr 2 ls fun a2 => lgi 3 ls fun x3 => pe st (J_law_2261 X N k18 a1 a2 x3 g))) (none)) rfl (fun e => by cases e) (by decide) (rcZ_ok rfl) ?_ (co_law_1692 N q) lb_law 3000 1692 S_law_1692 _ _ h ls_law_1692 hf
  intro pc ls st g e
  rcases kb_s e with ⟨rfl, e⟩ | e
  · obtain ⟨ex, fx⟩ := lgx_s e
    obtain ⟨a1, e0, f0⟩ := lgr_s fx
    obtain ⟨a2, e1, f1⟩ := lgr_s f0
    obtain ⟨x3, e2, f2⟩ := lgi_s f1
    obtain ⟨qe, fe⟩ := pe_s f2
    subst qe
    exact MW.sub (List.forall_mem_cons.mpr ⟨lg_mem ex, List.forall_mem_cons.mpr ⟨lg_mem e0, List.forall_mem_cons.mpr ⟨lg_mem e1, List.forall_mem_cons.mpr ⟨lg_mem e2, fun _ h => absurd h List.not_mem_nil⟩⟩⟩⟩) (t_law_2261 X N hk18 a1 a2 x3 g fe)
  cases e
set_option maxRecDepth 100000 in
theorem t_law_1715 (X : Nat × (Nat → Int32)) (N : Nat) {q : Int32 × mH} {k18 : Nat → Nat → Int32 → mH → Option (Int32 × mH)} (hk18 : ∀ (a1 : Nat) (a2 : Nat) (x3 : Int32) g, k18 a1 a2 x3 g = some q → MW X y_law 28 18 [(0, .retAddr 0), (1, .ref a1), (2, .ref a2), (3, .int x3)] [] g (some (.int q.1)) q.2) (a1 : Nat) (a2 : Nat) (x3 : Int32) (h : mH) (hf : J_law_1715 X N k18 a1 a2 x3 h = some q) : MW X y_law 28 1715 [(0, .retAddr 0), (1, .ref a1), (2, .ref a2), (3, .int x3)] [] h (some (.int q.1)) q.2 := by
  refine ev_ok (o := 13) (ini := false) (Cl := C_law_1715 N) (Rc := RcZ) (B := B_law) (K := fun pc ls st g => kb pc 2261 (lgx 0 ls (lgr 1 ls fun a1 => lgr 2 ls fun a2 => lgi 3 ls fun x3 => pe st (J_law_2261 X N k18 a1 a2 x3 g))) (none)) rfl (fun e => by cases e) (by decide) (rcZ_ok rfl) ?_ (co_law_1715 N q) lb_law 3000 1715 S_law_1715 _ _ h ls_law_1715 hf
  intro pc ls st g e
  rcases kb_s e with ⟨rfl, e⟩ | e
  · obtain ⟨ex, fx⟩ := lgx_s e
    obtain ⟨a1, e0, f0⟩ := lgr_s fx
    obtain ⟨a2, e1, f1⟩ := lgr_s f0
    obtain ⟨x3, e2, f2⟩ := lgi_s f1
    obtain ⟨qe, fe⟩ := pe_s f2
    subst qe
    exact MW.sub (List.forall_mem_cons.mpr ⟨lg_mem ex, List.forall_mem_cons.mpr ⟨lg_mem e0, List.forall_mem_cons.mpr ⟨lg_mem e1, List.forall_mem_cons.mpr ⟨lg_mem e2, fun _ h => absurd h List.not_mem_nil⟩⟩⟩⟩) (t_law_2261 X N hk18 a1 a2 x3 g fe)
  cases e
set_option maxRecDepth 100000 in
theorem t_law_1738 (X : Nat × (Nat → Int32)) (N : Nat) {q : Int32 × mH} {k18 : Nat → Nat → Int32 → mH → Option (Int32 × mH)} (hk18 : ∀ (a1 : Nat) (a2 : Nat) (x3 : Int32) g, k18 a1 a2 x3 g = some q → MW X y_law 28 18 [(0, .retAddr 0), (1, .ref a1), (2, .ref a2), (3, .int x3)] [] g (some (.int q.1)) q.2) (a1 : Nat) (a2 : Nat) (x3 : Int32) (h : mH) (hf : J_law_1738 X N k18 a1 a2 x3 h = some q) : MW X y_law 28 1738 [(0, .retAddr 0), (1, .ref a1), (2, .ref a2), (3, .int x3)] [] h (some (.int q.1)) q.2 := by
  refine ev_ok (o := 13) (ini := false) (Cl := C_law_1738 N) (Rc := RcZ) (B := B_law) (K := fun pc ls st g => kb pc 2261 (lgx 0 ls (lgr 1 ls fun a1 => lgr 2 ls fun a2 => lgi 3 ls fun x3 => pe st (J_law_2261 X N k18 a1 a2 x3 g))) (none)) rfl (fun e => by cases e) (by decide) (rcZ_ok rfl) ?_ (co_law_1738 N q) lb_law 3000 1738 S_law_1738 _ _ h ls_law_1738 hf
  intro pc ls st g e
  rcases kb_s e with ⟨rfl, e⟩ | e
  · obtain ⟨ex, fx⟩ := lgx_s e
    obtain ⟨a1, e0, f0⟩ := lgr_s fx
    obtain ⟨a2, e1, f1⟩ := lgr_s f0
    obtain ⟨x3, e2, f2⟩ := lgi_s f1
    obtain ⟨qe, fe⟩ := pe_s f2
    subst qe
    exact MW.sub (List.forall_mem_cons.mpr ⟨lg_mem ex, List.forall_mem_cons.mpr ⟨lg_mem e0, List.forall_mem_cons.mpr ⟨lg_mem e1, List.forall_mem_cons.mpr ⟨lg_mem e2, fun _ h => absurd h List.not_mem_nil⟩⟩⟩⟩) (t_law_2261 X N hk18 a1 a2 x3 g fe)
  cases e
set_option maxRecDepth 100000 in
theorem t_law_1781 (X : Nat × (Nat → Int32)) (N : Nat) {q : Int32 × mH} {k18 : Nat → Nat → Int32 → mH → Option (Int32 × mH)} (hk18 : ∀ (a1 : Nat) (a2 : Nat) (x3 : Int32) g, k18 a1 a2 x3 g = some q → MW X y_law 28 18 [(0, .retAddr 0), (1, .ref a1), (2, .ref a2), (3, .int x3)] [] g (some (.int q.1)) q.2) (a1 : Nat) (a2 : Nat) (x3 : Int32) (h : mH) (hf : J_law_1781 X N k18 a1 a2 x3 h = some q) : MW X y_law 28 1781 [(0, .retAddr 0), (1, .ref a1), (2, .ref a2), (3, .int x3)] [] h (some (.int q.1)) q.2 := by
  refine ev_ok (o := 13) (ini := false) (Cl := C_law_1781 N) (Rc := RcZ) (B := B_law) (K := fun pc ls st g => kb pc 2261 (lgx 0 ls (lgr 1 ls fun a1 => lgr 2 ls fun a2 => lgi 3 ls fun x3 => pe st (J_law_2261 X N k18 a1 a2 x3 g))) (none)) rfl (fun e => by cases e) (by decide) (rcZ_ok rfl) ?_ (co_law_1781 N q) lb_law 3000 1781 S_law_1781 _ _ h ls_law_1781 hf
  intro pc ls st g e
  rcases kb_s e with ⟨rfl, e⟩ | e
  · obtain ⟨ex, fx⟩ := lgx_s e
    obtain ⟨a1, e0, f0⟩ := lgr_s fx
    obtain ⟨a2, e1, f1⟩ := lgr_s f0
    obtain ⟨x3, e2, f2⟩ := lgi_s f1
    obtain ⟨qe, fe⟩ := pe_s f2
    subst qe
    exact MW.sub (List.forall_mem_cons.mpr ⟨lg_mem ex, List.forall_mem_cons.mpr ⟨lg_mem e0, List.forall_mem_cons.mpr ⟨lg_mem e1, List.forall_mem_cons.mpr ⟨lg_mem e2, fun _ h => absurd h List.not_mem_nil⟩⟩⟩⟩) (t_law_2261 X N hk18 a1 a2 x3 g fe)
  cases e
set_option maxRecDepth 100000 in
theorem t_law_1814 (X : Nat × (Nat → Int32)) (N : Nat) {q : Int32 × mH} {k18 : Nat → Nat → Int32 → mH → Option (Int32 × mH)} (hk18 : ∀ (a1 : Nat) (a2 : Nat) (x3 : Int32) g, k18 a1 a2 x3 g = some q → MW X y_law 28 18 [(0, .retAddr 0), (1, .ref a1), (2, .ref a2), (3, .int x3)] [] g (some (.int q.1)) q.2) (a1 : Nat) (a2 : Nat) (x3 : Int32) (h : mH) (hf : J_law_1814 X N k18 a1 a2 x3 h = some q) : MW X y_law 28 1814 [(0, .retAddr 0), (1, .ref a1), (2, .ref a2), (3, .int x3)] [] h (some (.int q.1)) q.2 := by
  refine ev_ok (o := 13) (ini := false) (Cl := C_law_1814 N) (Rc := RcZ) (B := B_law) (K := fun pc ls st g => kb pc 2261 (lgx 0 ls (lgr 1 ls fun a1 => lgr 2 ls fun a2 => lgi 3 ls fun x3 => pe st (J_law_2261 X N k18 a1 a2 x3 g))) (none)) rfl (fun e => by cases e) (by decide) (rcZ_ok rfl) ?_ (co_law_1814 N q) lb_law 3000 1814 S_law_1814 _ _ h ls_law_1814 hf
  intro pc ls st g e
  rcases kb_s e with ⟨rfl, e⟩ | e
  · obtain ⟨ex, fx⟩ := lgx_s e
    obtain ⟨a1, e0, f0⟩ := lgr_s fx
    obtain ⟨a2, e1, f1⟩ := lgr_s f0
    obtain ⟨x3, e2, f2⟩ := lgi_s f1
    obtain ⟨qe, fe⟩ := pe_s f2
    subst qe
    exact MW.sub (List.forall_mem_cons.mpr ⟨lg_mem ex, List.forall_mem_cons.mpr ⟨lg_mem e0, List.forall_mem_cons.mpr ⟨lg_mem e1, List.forall_mem_cons.mpr ⟨lg_mem e2, fun _ h => absurd h List.not_mem_nil⟩⟩⟩⟩) (t_law_2261 X N hk18 a1 a2 x3 g fe)
  cases e
set_option maxRecDepth 100000 in
theorem t_law_1837 (X : Nat × (Nat → Int32)) (N : Nat) {q : Int32 × mH} {k18 : Nat → Nat → Int32 → mH → Option (Int32 × mH)} (hk18 : ∀ (a1 : Nat) (a2 : Nat) (x3 : Int32) g, k18 a1 a2 x3 g = some q → MW X y_law 28 18 [(0, .retAddr 0), (1, .ref a1), (2, .ref a2), (3, .int x3)] [] g (some (.int q.1)) q.2) (a1 : Nat) (a2 : Nat) (x3 : Int32) (h : mH) (hf : J_law_1837 X N k18 a1 a2 x3 h = some q) : MW X y_law 28 1837 [(0, .retAddr 0), (1, .ref a1), (2, .ref a2), (3, .int x3)] [] h (some (.int q.1)) q.2 := by
  refine ev_ok (o := 13) (ini := false) (Cl := C_law_1837 N) (Rc := RcZ) (B := B_law) (K := fun pc ls st g => kb pc 2261 (lgx 0 ls (lgr 1 ls fun a1 => lgr 2 ls fun a2 => lgi 3 ls fun x3 => pe st (J_law_2261 X N k18 a1 a2 x3 g))) (none)) rfl (fun e => by cases e) (by decide) (rcZ_ok rfl) ?_ (co_law_1837 N q) lb_law 3000 1837 S_law_1837 _ _ h ls_law_1837 hf
  intro pc ls st g e
  rcases kb_s e with ⟨rfl, e⟩ | e
  · obtain ⟨ex, fx⟩ := lgx_s e
    obtain ⟨a1, e0, f0⟩ := lgr_s fx
    obtain ⟨a2, e1, f1⟩ := lgr_s f0
    obtain ⟨x3, e2, f2⟩ := lgi_s f1
    obtain ⟨qe, fe⟩ := pe_s f2
    subst qe
    exact MW.sub (List.forall_mem_cons.mpr ⟨lg_mem ex, List.forall_mem_cons.mpr ⟨lg_mem e0, List.forall_mem_cons.mpr ⟨lg_mem e1, List.forall_mem_cons.mpr ⟨lg_mem e2, fun _ h => absurd h List.not_mem_nil⟩⟩⟩⟩) (t_law_2261 X N hk18 a1 a2 x3 g fe)
  cases e
set_option maxRecDepth 100000 in
theorem t_law_1880 (X : Nat × (Nat → Int32)) (N : Nat) {q : Int32 × mH} {k18 : Nat → Nat → Int32 → mH → Option (Int32 × mH)} (hk18 : ∀ (a1 : Nat) (a2 : Nat) (x3 : Int32) g, k18 a1 a2 x3 g = some q → MW X y_law 28 18 [(0, .retAddr 0), (1, .ref a1), (2, .ref a2), (3, .int x3)] [] g (some (.int q.1)) q.2) (a1 : Nat) (a2 : Nat) (x3 : Int32) (h : mH) (hf : J_law_1880 X N k18 a1 a2 x3 h = some q) : MW X y_law 28 1880 [(0, .retAddr 0), (1, .ref a1), (2, .ref a2), (3, .int x3)] [] h (some (.int q.1)) q.2 := by
  refine ev_ok (o := 13) (ini := false) (Cl := C_law_1880 N) (Rc := RcZ) (B := B_law) (K := fun pc ls st g => kb pc 2261 (lgx 0 ls (lgr 1 ls fun a1 => lgr 2 ls fun a2 => lgi 3 ls fun x3 => pe st (J_law_2261 X N k18 a1 a2 x3 g))) (none)) rfl (fun e => by cases e) (by decide) (rcZ_ok rfl) ?_ (co_law_1880 N q) lb_law 3000 1880 S_law_1880 _ _ h ls_law_1880 hf
  intro pc ls st g e
  rcases kb_s e with ⟨rfl, e⟩ | e
  · obtain ⟨ex, fx⟩ := lgx_s e
    obtain ⟨a1, e0, f0⟩ := lgr_s fx
    obtain ⟨a2, e1, f1⟩ := lgr_s f0
    obtain ⟨x3, e2, f2⟩ := lgi_s f1
    obtain ⟨qe, fe⟩ := pe_s f2
    subst qe
    exact MW.sub (List.forall_mem_cons.mpr ⟨lg_mem ex, List.forall_mem_cons.mpr ⟨lg_mem e0, List.forall_mem_cons.mpr ⟨lg_mem e1, List.forall_mem_cons.mpr ⟨lg_mem e2, fun _ h => absurd h List.not_mem_nil⟩⟩⟩⟩) (t_law_2261 X N hk18 a1 a2 x3 g fe)
  cases e
set_option maxRecDepth 100000 in
theorem t_law_1913 (X : Nat × (Nat → Int32)) (N : Nat) {q : Int32 × mH} {k18 : Nat → Nat → Int32 → mH → Option (Int32 × mH)} (hk18 : ∀ (a1 : Nat) (a2 : Nat) (x3 : Int32) g, k18 a1 a2 x3 g = some q → MW X y_law 28 18 [(0, .retAddr 0), (1, .ref a1), (2, .ref a2), (3, .int x3)] [] g (some (.int q.1)) q.2) (a1 : Nat) (a2 : Nat) (x3 : Int32) (h : mH) (hf : J_law_1913 X N k18 a1 a2 x3 h = some q) : MW X y_law 28 1913 [(0, .retAddr 0), (1, .ref a1), (2, .ref a2), (3, .int x3)] [] h (some (.int q.1)) q.2 := by
  refine ev_ok (o := 13) (ini := false) (Cl := C_law_1913 N) (Rc := RcZ) (B := B_law) (K := fun pc ls st g => kb pc 2261 (lgx 0 ls (lgr 1 ls fun a1 => lgr 2 ls fun a2 => lgi 3 ls fun x3 => pe st (J_law_2261 X N k18 a1 a2 x3 g))) (none)) rfl (fun e => by cases e) (by decide) (rcZ_ok rfl) ?_ (co_law_1913 N q) lb_law 3000 1913 S_law_1913 _ _ h ls_law_1913 hf
  intro pc ls st g e
  rcases kb_s e with ⟨rfl, e⟩ | e
  · obtain ⟨ex, fx⟩ := lgx_s e
    obtain ⟨a1, e0, f0⟩ := lgr_s fx
    obtain ⟨a2, e1, f1⟩ := lgr_s f0
    obtain ⟨x3, e2, f2⟩ := lgi_s f1
    obtain ⟨qe, fe⟩ := pe_s f2
    subst qe
    exact MW.sub (List.forall_mem_cons.mpr ⟨lg_mem ex, List.forall_mem_cons.mpr ⟨lg_mem e0, List.forall_mem_cons.mpr ⟨lg_mem e1, List.forall_mem_cons.mpr ⟨lg_mem e2, fun _ h => absurd h List.not_mem_nil⟩⟩⟩⟩) (t_law_2261 X N hk18 a1 a2 x3 g fe)
  cases e
set_option maxRecDepth 100000 in
theorem t_law_1936 (X : Nat × (Nat → Int32)) (N : Nat) {q : Int32 × mH} {k18 : Nat → Nat → Int32 → mH → Option (Int32 × mH)} (hk18 : ∀ (a1 : Nat) (a2 : Nat) (x3 : Int32) g, k18 a1 a2 x3 g = some q → MW X y_law 28 18 [(0, .retAddr 0), (1, .ref a1), (2, .ref a2), (3, .int x3)] [] g (some (.int q.1)) q.2) (a1 : Nat) (a2 : Nat) (x3 : Int32) (h : mH) (hf : J_law_1936 X N k18 a1 a2 x3 h = some q) : MW X y_law 28 1936 [(0, .retAddr 0), (1, .ref a1), (2, .ref a2), (3, .int x3)] [] h (some (.int q.1)) q.2 := by
  refine ev_ok (o := 13) (ini := false) (Cl := C_law_1936 N) (Rc := RcZ) (B := B_law) (K := fun pc ls st g => kb pc 2261 (lgx 0 ls (lgr 1 ls fun a1 => lgr 2 ls fun a2 => lgi 3 ls fun x3 => pe st (J_law_2261 X N k18 a1 a2 x3 g))) (none)) rfl (fun e => by cases e) (by decide) (rcZ_ok rfl) ?_ (co_law_1936 N q) lb_law 3000 1936 S_law_1936 _ _ h ls_law_1936 hf
  intro pc ls st g e
  rcases kb_s e with ⟨rfl, e⟩ | e
  · obtain ⟨ex, fx⟩ := lgx_s e
    obtain ⟨a1, e0, f0⟩ := lgr_s fx
    obtain ⟨a2, e1, f1⟩ := lgr_s f0
    obtain ⟨x3, e2, f2⟩ := lgi_s f1
    obtain ⟨qe, fe⟩ := pe_s f2
    subst qe
    exact MW.sub (List.forall_mem_cons.mpr ⟨lg_mem ex, List.forall_mem_cons.mpr ⟨lg_mem e0, List.forall_mem_cons.mpr ⟨lg_mem e1, List.forall_mem_cons.mpr ⟨lg_mem e2, fun _ h => absurd h List.not_mem_nil⟩⟩⟩⟩) (t_law_2261 X N hk18 a1 a2 x3 g fe)
  cases e
set_option maxRecDepth 100000 in
theorem t_law_1999 (X : Nat × (Nat → Int32)) (N : Nat) {q : Int32 × mH} {k18 : Nat → Nat → Int32 → mH → Option (Int32 × mH)} (hk18 : ∀ (a1 : Nat) (a2 : Nat) (x3 : Int32) g, k18 a1 a2 x3 g = some q → MW X y_law 28 18 [(0, .retAddr 0), (1, .ref a1), (2, .ref a2), (3, .int x3)] [] g (some (.int q.1)) q.2) (a1 : Nat) (a2 : Nat) (x3 : Int32) (h : mH) (hf : J_law_1999 X N k18 a1 a2 x3 h = some q) : MW X y_law 28 1999 [(0, .retAddr 0), (1, .ref a1), (2, .ref a2), (3, .int x3)] [] h (some (.int q.1)) q.2 := by
  refine ev_ok (o := 13) (ini := false) (Cl := C_law_1999 N) (Rc := RcZ) (B := B_law) (K := fun pc ls st g => kb pc 2261 (lgx 0 ls (lgr 1 ls fun a1 => lgr 2 ls fun a2 => lgi 3 ls fun x3 => pe st (J_law_2261 X N k18 a1 a2 x3 g))) (none)) rfl (fun e => by cases e) (by decide) (rcZ_ok rfl) ?_ (co_law_1999 N q) lb_law 3000 1999 S_law_1999 _ _ h ls_law_1999 hf
  intro pc ls st g e
  rcases kb_s e with ⟨rfl, e⟩ | e
  · obtain ⟨ex, fx⟩ := lgx_s e
    obtain ⟨a1, e0, f0⟩ := lgr_s fx
    obtain ⟨a2, e1, f1⟩ := lgr_s f0
    obtain ⟨x3, e2, f2⟩ := lgi_s f1
    obtain ⟨qe, fe⟩ := pe_s f2
    subst qe
    exact MW.sub (List.forall_mem_cons.mpr ⟨lg_mem ex, List.forall_mem_cons.mpr ⟨lg_mem e0, List.forall_mem_cons.mpr ⟨lg_mem e1, List.forall_mem_cons.mpr ⟨lg_mem e2, fun _ h => absurd h List.not_mem_nil⟩⟩⟩⟩) (t_law_2261 X N hk18 a1 a2 x3 g fe)
  cases e
set_option maxRecDepth 100000 in
theorem t_law_2042 (X : Nat × (Nat → Int32)) (N : Nat) {q : Int32 × mH} {k18 : Nat → Nat → Int32 → mH → Option (Int32 × mH)} (hk18 : ∀ (a1 : Nat) (a2 : Nat) (x3 : Int32) g, k18 a1 a2 x3 g = some q → MW X y_law 28 18 [(0, .retAddr 0), (1, .ref a1), (2, .ref a2), (3, .int x3)] [] g (some (.int q.1)) q.2) (a1 : Nat) (a2 : Nat) (x3 : Int32) (h : mH) (hf : J_law_2042 X N k18 a1 a2 x3 h = some q) : MW X y_law 28 2042 [(0, .retAddr 0), (1, .ref a1), (2, .ref a2), (3, .int x3)] [] h (some (.int q.1)) q.2 := by
  refine ev_ok (o := 13) (ini := false) (Cl := C_law_2042 N) (Rc := RcZ) (B := B_law) (K := fun pc ls st g => kb pc 2261 (lgx 0 ls (lgr 1 ls fun a1 => lgr 2 ls fun a2 => lgi 3 ls fun x3 => pe st (J_law_2261 X N k18 a1 a2 x3 g))) (none)) rfl (fun e => by cases e) (by decide) (rcZ_ok rfl) ?_ (co_law_2042 N q) lb_law 3000 2042 S_law_2042 _ _ h ls_law_2042 hf
  intro pc ls st g e
  rcases kb_s e with ⟨rfl, e⟩ | e
  · obtain ⟨ex, fx⟩ := lgx_s e
    obtain ⟨a1, e0, f0⟩ := lgr_s fx
    obtain ⟨a2, e1, f1⟩ := lgr_s f0
    obtain ⟨x3, e2, f2⟩ := lgi_s f1
    obtain ⟨qe, fe⟩ := pe_s f2
    subst qe
    exact MW.sub (List.forall_mem_cons.mpr ⟨lg_mem ex, List.forall_mem_cons.mpr ⟨lg_mem e0, List.forall_mem_cons.mpr ⟨lg_mem e1, List.forall_mem_cons.mpr ⟨lg_mem e2, fun _ h => absurd h List.not_mem_nil⟩⟩⟩⟩) (t_law_2261 X N hk18 a1 a2 x3 g fe)
  cases e
set_option maxRecDepth 100000 in
theorem t_law_2116 (X : Nat × (Nat → Int32)) (N : Nat) {q : Int32 × mH} {k18 : Nat → Nat → Int32 → mH → Option (Int32 × mH)} (hk18 : ∀ (a1 : Nat) (a2 : Nat) (x3 : Int32) g, k18 a1 a2 x3 g = some q → MW X y_law 28 18 [(0, .retAddr 0), (1, .ref a1), (2, .ref a2), (3, .int x3)] [] g (some (.int q.1)) q.2) (a1 : Nat) (a2 : Nat) (x3 : Int32) (h : mH) (hf : J_law_2116 X N k18 a1 a2 x3 h = some q) : MW X y_law 28 2116 [(0, .retAddr 0), (1, .ref a1), (2, .ref a2), (3, .int x3)] [] h (some (.int q.1)) q.2 := by
  refine ev_ok (o := 13) (ini := false) (Cl := C_law_2116 N) (Rc := RcZ) (B := B_law) (K := fun pc ls st g => kb pc 2261 (lgx 0 ls (lgr 1 ls fun a1 => lgr 2 ls fun a2 => lgi 3 ls fun x3 => pe st (J_law_2261 X N k18 a1 a2 x3 g))) (none)) rfl (fun e => by cases e) (by decide) (rcZ_ok rfl) ?_ (co_law_2116 N q) lb_law 3000 2116 S_law_2116 _ _ h ls_law_2116 hf
  intro pc ls st g e
  rcases kb_s e with ⟨rfl, e⟩ | e
  · obtain ⟨ex, fx⟩ := lgx_s e
    obtain ⟨a1, e0, f0⟩ := lgr_s fx
    obtain ⟨a2, e1, f1⟩ := lgr_s f0
    obtain ⟨x3, e2, f2⟩ := lgi_s f1
    obtain ⟨qe, fe⟩ := pe_s f2
    subst qe
    exact MW.sub (List.forall_mem_cons.mpr ⟨lg_mem ex, List.forall_mem_cons.mpr ⟨lg_mem e0, List.forall_mem_cons.mpr ⟨lg_mem e1, List.forall_mem_cons.mpr ⟨lg_mem e2, fun _ h => absurd h List.not_mem_nil⟩⟩⟩⟩) (t_law_2261 X N hk18 a1 a2 x3 g fe)
  cases e
set_option maxRecDepth 100000 in
theorem t_law_2169 (X : Nat × (Nat → Int32)) (N : Nat) {q : Int32 × mH} {k18 : Nat → Nat → Int32 → mH → Option (Int32 × mH)} (hk18 : ∀ (a1 : Nat) (a2 : Nat) (x3 : Int32) g, k18 a1 a2 x3 g = some q → MW X y_law 28 18 [(0, .retAddr 0), (1, .ref a1), (2, .ref a2), (3, .int x3)] [] g (some (.int q.1)) q.2) (a1 : Nat) (a2 : Nat) (x3 : Int32) (h : mH) (hf : J_law_2169 X N k18 a1 a2 x3 h = some q) : MW X y_law 28 2169 [(0, .retAddr 0), (1, .ref a1), (2, .ref a2), (3, .int x3)] [] h (some (.int q.1)) q.2 := by
  refine ev_ok (o := 13) (ini := false) (Cl := C_law_2169 N) (Rc := RcZ) (B := B_law) (K := fun pc ls st g => kb pc 2261 (lgx 0 ls (lgr 1 ls fun a1 => lgr 2 ls fun a2 => lgi 3 ls fun x3 => pe st (J_law_2261 X N k18 a1 a2 x3 g))) (none)) rfl (fun e => by cases e) (by decide) (rcZ_ok rfl) ?_ (co_law_2169 N q) lb_law 3000 2169 S_law_2169 _ _ h ls_law_2169 hf
  intro pc ls st g e
  rcases kb_s e with ⟨rfl, e⟩ | e
  · obtain ⟨ex, fx⟩ := lgx_s e
    obtain ⟨a1, e0, f0⟩ := lgr_s fx
    obtain ⟨a2, e1, f1⟩ := lgr_s f0
    obtain ⟨x3, e2, f2⟩ := lgi_s f1
    obtain ⟨qe, fe⟩ := pe_s f2
    subst qe
    exact MW.sub (List.forall_mem_cons.mpr ⟨lg_mem ex, List.forall_mem_cons.mpr ⟨lg_mem e0, List.forall_mem_cons.mpr ⟨lg_mem e1, List.forall_mem_cons.mpr ⟨lg_mem e2, fun _ h => absurd h List.not_mem_nil⟩⟩⟩⟩) (t_law_2261 X N hk18 a1 a2 x3 g fe)
  cases e
set_option maxRecDepth 100000 in
theorem t_law_2192 (X : Nat × (Nat → Int32)) (N : Nat) {q : Int32 × mH} {k18 : Nat → Nat → Int32 → mH → Option (Int32 × mH)} (hk18 : ∀ (a1 : Nat) (a2 : Nat) (x3 : Int32) g, k18 a1 a2 x3 g = some q → MW X y_law 28 18 [(0, .retAddr 0), (1, .ref a1), (2, .ref a2), (3, .int x3)] [] g (some (.int q.1)) q.2) (a1 : Nat) (a2 : Nat) (x3 : Int32) (h : mH) (hf : J_law_2192 X N k18 a1 a2 x3 h = some q) : MW X y_law 28 2192 [(0, .retAddr 0), (1, .ref a1), (2, .ref a2), (3, .int x3)] [] h (some (.int q.1)) q.2 := by
  refine ev_ok (o := 13) (ini := false) (Cl := C_law_2192 N) (Rc := RcZ) (B := B_law) (K := fun pc ls st g => kb pc 2261 (lgx 0 ls (lgr 1 ls fun a1 => lgr 2 ls fun a2 => lgi 3 ls fun x3 => pe st (J_law_2261 X N k18 a1 a2 x3 g))) (none)) rfl (fun e => by cases e) (by decide) (rcZ_ok rfl) ?_ (co_law_2192 N q) lb_law 3000 2192 S_law_2192 _ _ h ls_law_2192 hf
  intro pc ls st g e
  rcases kb_s e with ⟨rfl, e⟩ | e
  · obtain ⟨ex, fx⟩ := lgx_s e
    obtain ⟨a1, e0, f0⟩ := lgr_s fx
    obtain ⟨a2, e1, f1⟩ := lgr_s f0
    obtain ⟨x3, e2, f2⟩ := lgi_s f1
    obtain ⟨qe, fe⟩ := pe_s f2
    subst qe
    exact MW.sub (List.forall_mem_cons.mpr ⟨lg_mem ex, List.forall_mem_cons.mpr ⟨lg_mem e0, List.forall_mem_cons.mpr ⟨lg_mem e1, List.forall_mem_cons.mpr ⟨lg_mem e2, fun _ h => absurd h List.not_mem_nil⟩⟩⟩⟩) (t_law_2261 X N hk18 a1 a2 x3 g fe)
  cases e
set_option maxRecDepth 100000 in
theorem t_law_2215 (X : Nat × (Nat → Int32)) (N : Nat) {q : Int32 × mH} {k18 : Nat → Nat → Int32 → mH → Option (Int32 × mH)} (hk18 : ∀ (a1 : Nat) (a2 : Nat) (x3 : Int32) g, k18 a1 a2 x3 g = some q → MW X y_law 28 18 [(0, .retAddr 0), (1, .ref a1), (2, .ref a2), (3, .int x3)] [] g (some (.int q.1)) q.2) (a1 : Nat) (a2 : Nat) (x3 : Int32) (h : mH) (hf : J_law_2215 X N k18 a1 a2 x3 h = some q) : MW X y_law 28 2215 [(0, .retAddr 0), (1, .ref a1), (2, .ref a2), (3, .int x3)] [] h (some (.int q.1)) q.2 := by
  refine ev_ok (o := 13) (ini := false) (Cl := C_law_2215 N) (Rc := RcZ) (B := B_law) (K := fun pc ls st g => kb pc 2261 (lgx 0 ls (lgr 1 ls fun a1 => lgr 2 ls fun a2 => lgi 3 ls fun x3 => pe st (J_law_2261 X N k18 a1 a2 x3 g))) (none)) rfl (fun e => by cases e) (by decide) (rcZ_ok rfl) ?_ (co_law_2215 N q) lb_law 3000 2215 S_law_2215 _ _ h ls_law_2215 hf
  intro pc ls st g e
  rcases kb_s e with ⟨rfl, e⟩ | e
  · obtain ⟨ex, fx⟩ := lgx_s e
    obtain ⟨a1, e0, f0⟩ := lgr_s fx
    obtain ⟨a2, e1, f1⟩ := lgr_s f0
    obtain ⟨x3, e2, f2⟩ := lgi_s f1
    obtain ⟨qe, fe⟩ := pe_s f2
    subst qe
    exact MW.sub (List.forall_mem_cons.mpr ⟨lg_mem ex, List.forall_mem_cons.mpr ⟨lg_mem e0, List.forall_mem_cons.mpr ⟨lg_mem e1, List.forall_mem_cons.mpr ⟨lg_mem e2, fun _ h => absurd h List.not_mem_nil⟩⟩⟩⟩) (t_law_2261 X N hk18 a1 a2 x3 g fe)
  cases e
set_option maxRecDepth 100000 in
theorem t_law_2238 (X : Nat × (Nat → Int32)) (N : Nat) {q : Int32 × mH} {k18 : Nat → Nat → Int32 → mH → Option (Int32 × mH)} (hk18 : ∀ (a1 : Nat) (a2 : Nat) (x3 : Int32) g, k18 a1 a2 x3 g = some q → MW X y_law 28 18 [(0, .retAddr 0), (1, .ref a1), (2, .ref a2), (3, .int x3)] [] g (some (.int q.1)) q.2) (a1 : Nat) (a2 : Nat) (x3 : Int32) (h : mH) (hf : J_law_2238 X N k18 a1 a2 x3 h = some q) : MW X y_law 28 2238 [(0, .retAddr 0), (1, .ref a1), (2, .ref a2), (3, .int x3)] [] h (some (.int q.1)) q.2 := by
  refine ev_ok (o := 13) (ini := false) (Cl := C_law_2238 N) (Rc := RcZ) (B := B_law) (K := fun pc ls st g => kb pc 2261 (lgx 0 ls (lgr 1 ls fun a1 => lgr 2 ls fun a2 => lgi 3 ls fun x3 => pe st (J_law_2261 X N k18 a1 a2 x3 g))) (none)) rfl (fun e => by cases e) (by decide) (rcZ_ok rfl) ?_ (co_law_2238 N q) lb_law 3000 2238 S_law_2238 _ _ h ls_law_2238 hf
  intro pc ls st g e
  rcases kb_s e with ⟨rfl, e⟩ | e
  · obtain ⟨ex, fx⟩ := lgx_s e
    obtain ⟨a1, e0, f0⟩ := lgr_s fx
    obtain ⟨a2, e1, f1⟩ := lgr_s f0
    obtain ⟨x3, e2, f2⟩ := lgi_s f1
    obtain ⟨qe, fe⟩ := pe_s f2
    subst qe
    exact MW.sub (List.forall_mem_cons.mpr ⟨lg_mem ex, List.forall_mem_cons.mpr ⟨lg_mem e0, List.forall_mem_cons.mpr ⟨lg_mem e1, List.forall_mem_cons.mpr ⟨lg_mem e2, fun _ h => absurd h List.not_mem_nil⟩⟩⟩⟩) (t_law_2261 X N hk18 a1 a2 x3 g fe)
  cases e
theorem tj_law_272 (X : Nat × (Nat → Int32)) (N : Nat) {q : Int32 × mH} {k18 : Nat → Nat → Int32 → mH → Option (Int32 × mH)} (hk18 : ∀ (a1 : Nat) (a2 : Nat) (x3 : Int32) g, k18 a1 a2 x3 g = some q → MW X y_law 28 18 [(0, .retAddr 0), (1, .ref a1), (2, .ref a2), (3, .int x3)] [] g (some (.int q.1)) q.2) {pc : Nat} {ls : mL} {st : List Value} {g : mH} (e : pc = 272 ∧ lgx 0 ls (lgr 1 ls fun a1 => lgr 2 ls fun a2 => lgi 3 ls fun x3 => pe st (J_law_272 X N k18 a1 a2 x3 g)) = some q) : MW X y_law 28 pc ls st g (some (.int q.1)) q.2 := by
  obtain ⟨rfl, e⟩ := e
  obtain ⟨ex, fx⟩ := lgx_s e
  obtain ⟨a1, e0, f0⟩ := lgr_s fx
  obtain ⟨a2, e1, f1⟩ := lgr_s f0
  obtain ⟨x3, e2, f2⟩ := lgi_s f1
  obtain ⟨qe, fe⟩ := pe_s f2
  subst qe
  exact MW.sub (List.forall_mem_cons.mpr ⟨lg_mem ex, List.forall_mem_cons.mpr ⟨lg_mem e0, List.forall_mem_cons.mpr ⟨lg_mem e1, List.forall_mem_cons.mpr ⟨lg_mem e2, fun _ h => absurd h List.not_mem_nil⟩⟩⟩⟩) (t_law_272 X N hk18 a1 a2 x3 g fe)
theorem tj_law_335 (X : Nat × (Nat → Int32)) (N : Nat) {q : Int32 × mH} {k18 : Nat → Nat → Int32 → mH → Option (Int32 × mH)} (hk18 : ∀ (a1 : Nat) (a2 : Nat) (x3 : Int32) g, k18 a1 a2 x3 g = some q → MW X y_law 28 18 [(0, .retAddr 0), (1, .ref a1), (2, .ref a2), (3, .int x3)] [] g (some (.int q.1)) q.2) {pc : Nat} {ls : mL} {st : List Value} {g : mH} (e : pc = 335 ∧ lgx 0 ls (lgr 1 ls fun a1 => lgr 2 ls fun a2 => lgi 3 ls fun x3 => pe st (J_law_335 X N k18 a1 a2 x3 g)) = some q) : MW X y_law 28 pc ls st g (some (.int q.1)) q.2 := by
  obtain ⟨rfl, e⟩ := e
  obtain ⟨ex, fx⟩ := lgx_s e
  obtain ⟨a1, e0, f0⟩ := lgr_s fx
  obtain ⟨a2, e1, f1⟩ := lgr_s f0
  obtain ⟨x3, e2, f2⟩ := lgi_s f1
  obtain ⟨qe, fe⟩ := pe_s f2
  subst qe
  exact MW.sub (List.forall_mem_cons.mpr ⟨lg_mem ex, List.forall_mem_cons.mpr ⟨lg_mem e0, List.forall_mem_cons.mpr ⟨lg_mem e1, List.forall_mem_cons.mpr ⟨lg_mem e2, fun _ h => absurd h List.not_mem_nil⟩⟩⟩⟩) (t_law_335 X N hk18 a1 a2 x3 g fe)
theorem tj_law_358 (X : Nat × (Nat → Int32)) (N : Nat) {q : Int32 × mH} {k18 : Nat → Nat → Int32 → mH → Option (Int32 × mH)} (hk18 : ∀ (a1 : Nat) (a2 : Nat) (x3 : Int32) g, k18 a1 a2 x3 g = some q → MW X y_law 28 18 [(0, .retAddr 0), (1, .ref a1), (2, .ref a2), (3, .int x3)] [] g (some (.int q.1)) q.2) {pc : Nat} {ls : mL} {st : List Value} {g : mH} (e : pc = 358 ∧ lgx 0 ls (lgr 1 ls fun a1 => lgr 2 ls fun a2 => lgi 3 ls fun x3 => pe st (J_law_358 X N k18 a1 a2 x3 g)) = some q) : MW X y_law 28 pc ls st g (some (.int q.1)) q.2 := by
  obtain ⟨rfl, e⟩ := e
  obtain ⟨ex, fx⟩ := lgx_s e
  obtain ⟨a1, e0, f0⟩ := lgr_s fx
  obtain ⟨a2, e1, f1⟩ := lgr_s f0
  obtain ⟨x3, e2, f2⟩ := lgi_s f1
  obtain ⟨qe, fe⟩ := pe_s f2
  subst qe
  exact MW.sub (List.forall_mem_cons.mpr ⟨lg_mem ex, List.forall_mem_cons.mpr ⟨lg_mem e0, List.forall_mem_cons.mpr ⟨lg_mem e1, List.forall_mem_cons.mpr ⟨lg_mem e2, fun _ h => absurd h List.not_mem_nil⟩⟩⟩⟩) (t_law_358 X N hk18 a1 a2 x3 g fe)
theorem tj_law_381 (X : Nat × (Nat → Int32)) (N : Nat) {q : Int32 × mH} {k18 : Nat → Nat → Int32 → mH → Option (Int32 × mH)} (hk18 : ∀ (a1 : Nat) (a2 : Nat) (x3 : Int32) g, k18 a1 a2 x3 g = some q → MW X y_law 28 18 [(0, .retAddr 0), (1, .ref a1), (2, .ref a2), (3, .int x3)] [] g (some (.int q.1)) q.2) {pc : Nat} {ls : mL} {st : List Value} {g : mH} (e : pc = 381 ∧ lgx 0 ls (lgr 1 ls fun a1 => lgr 2 ls fun a2 => lgi 3 ls fun x3 => pe st (J_law_381 X N k18 a1 a2 x3 g)) = some q) : MW X y_law 28 pc ls st g (some (.int q.1)) q.2 := by
  obtain ⟨rfl, e⟩ := e
  obtain ⟨ex, fx⟩ := lgx_s e
  obtain ⟨a1, e0, f0⟩ := lgr_s fx
  obtain ⟨a2, e1, f1⟩ := lgr_s f0
  obtain ⟨x3, e2, f2⟩ := lgi_s f1
  obtain ⟨qe, fe⟩ := pe_s f2
  subst qe
  exact MW.sub (List.forall_mem_cons.mpr ⟨lg_mem ex, List.forall_mem_cons.mpr ⟨lg_mem e0, List.forall_mem_cons.mpr ⟨lg_mem e1, List.forall_mem_cons.mpr ⟨lg_mem e2, fun _ h => absurd h List.not_mem_nil⟩⟩⟩⟩) (t_law_381 X N hk18 a1 a2 x3 g fe)
theorem tj_law_414 (X : Nat × (Nat → Int32)) (N : Nat) {q : Int32 × mH} {k18 : Nat → Nat → Int32 → mH → Option (Int32 × mH)} (hk18 : ∀ (a1 : Nat) (a2 : Nat) (x3 : Int32) g, k18 a1 a2 x3 g = some q → MW X y_law 28 18 [(0, .retAddr 0), (1, .ref a1), (2, .ref a2), (3, .int x3)] [] g (some (.int q.1)) q.2) {pc : Nat} {ls : mL} {st : List Value} {g : mH} (e : pc = 414 ∧ lgx 0 ls (lgr 1 ls fun a1 => lgr 2 ls fun a2 => lgi 3 ls fun x3 => pe st (J_law_414 X N k18 a1 a2 x3 g)) = some q) : MW X y_law 28 pc ls st g (some (.int q.1)) q.2 := by
  obtain ⟨rfl, e⟩ := e
  obtain ⟨ex, fx⟩ := lgx_s e
  obtain ⟨a1, e0, f0⟩ := lgr_s fx
  obtain ⟨a2, e1, f1⟩ := lgr_s f0
  obtain ⟨x3, e2, f2⟩ := lgi_s f1
  obtain ⟨qe, fe⟩ := pe_s f2
  subst qe
  exact MW.sub (List.forall_mem_cons.mpr ⟨lg_mem ex, List.forall_mem_cons.mpr ⟨lg_mem e0, List.forall_mem_cons.mpr ⟨lg_mem e1, List.forall_mem_cons.mpr ⟨lg_mem e2, fun _ h => absurd h List.not_mem_nil⟩⟩⟩⟩) (t_law_414 X N hk18 a1 a2 x3 g fe)
theorem tj_law_447 (X : Nat × (Nat → Int32)) (N : Nat) {q : Int32 × mH} {k18 : Nat → Nat → Int32 → mH → Option (Int32 × mH)} (hk18 : ∀ (a1 : Nat) (a2 : Nat) (x3 : Int32) g, k18 a1 a2 x3 g = some q → MW X y_law 28 18 [(0, .retAddr 0), (1, .ref a1), (2, .ref a2), (3, .int x3)] [] g (some (.int q.1)) q.2) {pc : Nat} {ls : mL} {st : List Value} {g : mH} (e : pc = 447 ∧ lgx 0 ls (lgr 1 ls fun a1 => lgr 2 ls fun a2 => lgi 3 ls fun x3 => pe st (J_law_447 X N k18 a1 a2 x3 g)) = some q) : MW X y_law 28 pc ls st g (some (.int q.1)) q.2 := by
  obtain ⟨rfl, e⟩ := e
  obtain ⟨ex, fx⟩ := lgx_s e
  obtain ⟨a1, e0, f0⟩ := lgr_s fx
  obtain ⟨a2, e1, f1⟩ := lgr_s f0
  obtain ⟨x3, e2, f2⟩ := lgi_s f1
  obtain ⟨qe, fe⟩ := pe_s f2
  subst qe
  exact MW.sub (List.forall_mem_cons.mpr ⟨lg_mem ex, List.forall_mem_cons.mpr ⟨lg_mem e0, List.forall_mem_cons.mpr ⟨lg_mem e1, List.forall_mem_cons.mpr ⟨lg_mem e2, fun _ h => absurd h List.not_mem_nil⟩⟩⟩⟩) (t_law_447 X N hk18 a1 a2 x3 g fe)
theorem tj_law_470 (X : Nat × (Nat → Int32)) (N : Nat) {q : Int32 × mH} {k18 : Nat → Nat → Int32 → mH → Option (Int32 × mH)} (hk18 : ∀ (a1 : Nat) (a2 : Nat) (x3 : Int32) g, k18 a1 a2 x3 g = some q → MW X y_law 28 18 [(0, .retAddr 0), (1, .ref a1), (2, .ref a2), (3, .int x3)] [] g (some (.int q.1)) q.2) {pc : Nat} {ls : mL} {st : List Value} {g : mH} (e : pc = 470 ∧ lgx 0 ls (lgr 1 ls fun a1 => lgr 2 ls fun a2 => lgi 3 ls fun x3 => pe st (J_law_470 X N k18 a1 a2 x3 g)) = some q) : MW X y_law 28 pc ls st g (some (.int q.1)) q.2 := by
  obtain ⟨rfl, e⟩ := e
  obtain ⟨ex, fx⟩ := lgx_s e
  obtain ⟨a1, e0, f0⟩ := lgr_s fx
  obtain ⟨a2, e1, f1⟩ := lgr_s f0
  obtain ⟨x3, e2, f2⟩ := lgi_s f1
  obtain ⟨qe, fe⟩ := pe_s f2
  subst qe
  exact MW.sub (List.forall_mem_cons.mpr ⟨lg_mem ex, List.forall_mem_cons.mpr ⟨lg_mem e0, List.forall_mem_cons.mpr ⟨lg_mem e1, List.forall_mem_cons.mpr ⟨lg_mem e2, fun _ h => absurd h List.not_mem_nil⟩⟩⟩⟩) (t_law_470 X N hk18 a1 a2 x3 g fe)
theorem tj_law_523 (X : Nat × (Nat → Int32)) (N : Nat) {q : Int32 × mH} {k18 : Nat → Nat → Int32 → mH → Option (Int32 × mH)} (hk18 : ∀ (a1 : Nat) (a2 : Nat) (x3 : Int32) g, k18 a1 a2 x3 g = some q → MW X y_law 28 18 [(0, .retAddr 0), (1, .ref a1), (2, .ref a2), (3, .int x3)] [] g (some (.int q.1)) q.2) {pc : Nat} {ls : mL} {st : List Value} {g : mH} (e : pc = 523 ∧ lgx 0 ls (lgr 1 ls fun a1 => lgr 2 ls fun a2 => lgi 3 ls fun x3 => pe st (J_law_523 X N k18 a1 a2 x3 g)) = some q) : MW X y_law 28 pc ls st g (some (.int q.1)) q.2 := by
  obtain ⟨rfl, e⟩ := e
  obtain ⟨ex, fx⟩ := lgx_s e
  obtain ⟨a1, e0, f0⟩ := lgr_s fx
  obtain ⟨a2, e1, f1⟩ := lgr_s f0
  obtain ⟨x3, e2, f2⟩ := lgi_s f1
  obtain ⟨qe, fe⟩ := pe_s f2
  subst qe
  exact MW.sub (List.forall_mem_cons.mpr ⟨lg_mem ex, List.forall_mem_cons.mpr ⟨lg_mem e0, List.forall_mem_cons.mpr ⟨lg_mem e1, List.forall_mem_cons.mpr ⟨lg_mem e2, fun _ h => absurd h List.not_mem_nil⟩⟩⟩⟩) (t_law_523 X N hk18 a1 a2 x3 g fe)
theorem tj_law_592 (X : Nat × (Nat → Int32)) (N : Nat) {q : Int32 × mH} {k18 : Nat → Nat → Int32 → mH → Option (Int32 × mH)} (hk18 : ∀ (a1 : Nat) (a2 : Nat) (x3 : Int32) g, k18 a1 a2 x3 g = some q → MW X y_law 28 18 [(0, .retAddr 0), (1, .ref a1), (2, .ref a2), (3, .int x3)] [] g (some (.int q.1)) q.2) {pc : Nat} {ls : mL} {st : List Value} {g : mH} (e : pc = 592 ∧ lgx 0 ls (lgr 1 ls fun a1 => lgr 2 ls fun a2 => lgi 3 ls fun x3 => pe st (J_law_592 X N k18 a1 a2 x3 g)) = some q) : MW X y_law 28 pc ls st g (some (.int q.1)) q.2 := by
  obtain ⟨rfl, e⟩ := e
  obtain ⟨ex, fx⟩ := lgx_s e
  obtain ⟨a1, e0, f0⟩ := lgr_s fx
  obtain ⟨a2, e1, f1⟩ := lgr_s f0
  obtain ⟨x3, e2, f2⟩ := lgi_s f1
  obtain ⟨qe, fe⟩ := pe_s f2
  subst qe
  exact MW.sub (List.forall_mem_cons.mpr ⟨lg_mem ex, List.forall_mem_cons.mpr ⟨lg_mem e0, List.forall_mem_cons.mpr ⟨lg_mem e1, List.forall_mem_cons.mpr ⟨lg_mem e2, fun _ h => absurd h List.not_mem_nil⟩⟩⟩⟩) (t_law_592 X N hk18 a1 a2 x3 g fe)
theorem tj_law_625 (X : Nat × (Nat → Int32)) (N : Nat) {q : Int32 × mH} {k18 : Nat → Nat → Int32 → mH → Option (Int32 × mH)} (hk18 : ∀ (a1 : Nat) (a2 : Nat) (x3 : Int32) g, k18 a1 a2 x3 g = some q → MW X y_law 28 18 [(0, .retAddr 0), (1, .ref a1), (2, .ref a2), (3, .int x3)] [] g (some (.int q.1)) q.2) {pc : Nat} {ls : mL} {st : List Value} {g : mH} (e : pc = 625 ∧ lgx 0 ls (lgr 1 ls fun a1 => lgr 2 ls fun a2 => lgi 3 ls fun x3 => pe st (J_law_625 X N k18 a1 a2 x3 g)) = some q) : MW X y_law 28 pc ls st g (some (.int q.1)) q.2 := by
  obtain ⟨rfl, e⟩ := e
  obtain ⟨ex, fx⟩ := lgx_s e
  obtain ⟨a1, e0, f0⟩ := lgr_s fx
  obtain ⟨a2, e1, f1⟩ := lgr_s f0
  obtain ⟨x3, e2, f2⟩ := lgi_s f1
  obtain ⟨qe, fe⟩ := pe_s f2
  subst qe
  exact MW.sub (List.forall_mem_cons.mpr ⟨lg_mem ex, List.forall_mem_cons.mpr ⟨lg_mem e0, List.forall_mem_cons.mpr ⟨lg_mem e1, List.forall_mem_cons.mpr ⟨lg_mem e2, fun _ h => absurd h List.not_mem_nil⟩⟩⟩⟩) (t_law_625 X N hk18 a1 a2 x3 g fe)
theorem tj_law_658 (X : Nat × (Nat → Int32)) (N : Nat) {q : Int32 × mH} {k18 : Nat → Nat → Int32 → mH → Option (Int32 × mH)} (hk18 : ∀ (a1 : Nat) (a2 : Nat) (x3 : Int32) g, k18 a1 a2 x3 g = some q → MW X y_law 28 18 [(0, .retAddr 0), (1, .ref a1), (2, .ref a2), (3, .int x3)] [] g (some (.int q.1)) q.2) {pc : Nat} {ls : mL} {st : List Value} {g : mH} (e : pc = 658 ∧ lgx 0 ls (lgr 1 ls fun a1 => lgr 2 ls fun a2 => lgi 3 ls fun x3 => pe st (J_law_658 X N k18 a1 a2 x3 g)) = some q) : MW X y_law 28 pc ls st g (some (.int q.1)) q.2 := by
  obtain ⟨rfl, e⟩ := e
  obtain ⟨ex, fx⟩ := lgx_s e
  obtain ⟨a1, e0, f0⟩ := lgr_s fx
  obtain ⟨a2, e1, f1⟩ := lgr_s f0
  obtain ⟨x3, e2, f2⟩ := lgi_s f1
  obtain ⟨qe, fe⟩ := pe_s f2
  subst qe
  exact MW.sub (List.forall_mem_cons.mpr ⟨lg_mem ex, List.forall_mem_cons.mpr ⟨lg_mem e0, List.forall_mem_cons.mpr ⟨lg_mem e1, List.forall_mem_cons.mpr ⟨lg_mem e2, fun _ h => absurd h List.not_mem_nil⟩⟩⟩⟩) (t_law_658 X N hk18 a1 a2 x3 g fe)
theorem tj_law_711 (X : Nat × (Nat → Int32)) (N : Nat) {q : Int32 × mH} {k18 : Nat → Nat → Int32 → mH → Option (Int32 × mH)} (hk18 : ∀ (a1 : Nat) (a2 : Nat) (x3 : Int32) g, k18 a1 a2 x3 g = some q → MW X y_law 28 18 [(0, .retAddr 0), (1, .ref a1), (2, .ref a2), (3, .int x3)] [] g (some (.int q.1)) q.2) {pc : Nat} {ls : mL} {st : List Value} {g : mH} (e : pc = 711 ∧ lgx 0 ls (lgr 1 ls fun a1 => lgr 2 ls fun a2 => lgi 3 ls fun x3 => pe st (J_law_711 X N k18 a1 a2 x3 g)) = some q) : MW X y_law 28 pc ls st g (some (.int q.1)) q.2 := by
  obtain ⟨rfl, e⟩ := e
  obtain ⟨ex, fx⟩ := lgx_s e
  obtain ⟨a1, e0, f0⟩ := lgr_s fx
  obtain ⟨a2, e1, f1⟩ := lgr_s f0
  obtain ⟨x3, e2, f2⟩ := lgi_s f1
  obtain ⟨qe, fe⟩ := pe_s f2
  subst qe
  exact MW.sub (List.forall_mem_cons.mpr ⟨lg_mem ex, List.forall_mem_cons.mpr ⟨lg_mem e0, List.forall_mem_cons.mpr ⟨lg_mem e1, List.forall_mem_cons.mpr ⟨lg_mem e2, fun _ h => absurd h List.not_mem_nil⟩⟩⟩⟩) (t_law_711 X N hk18 a1 a2 x3 g fe)
theorem tj_law_774 (X : Nat × (Nat → Int32)) (N : Nat) {q : Int32 × mH} {k18 : Nat → Nat → Int32 → mH → Option (Int32 × mH)} (hk18 : ∀ (a1 : Nat) (a2 : Nat) (x3 : Int32) g, k18 a1 a2 x3 g = some q → MW X y_law 28 18 [(0, .retAddr 0), (1, .ref a1), (2, .ref a2), (3, .int x3)] [] g (some (.int q.1)) q.2) {pc : Nat} {ls : mL} {st : List Value} {g : mH} (e : pc = 774 ∧ lgx 0 ls (lgr 1 ls fun a1 => lgr 2 ls fun a2 => lgi 3 ls fun x3 => pe st (J_law_774 X N k18 a1 a2 x3 g)) = some q) : MW X y_law 28 pc ls st g (some (.int q.1)) q.2 := by
  obtain ⟨rfl, e⟩ := e
  obtain ⟨ex, fx⟩ := lgx_s e
  obtain ⟨a1, e0, f0⟩ := lgr_s fx
  obtain ⟨a2, e1, f1⟩ := lgr_s f0
  obtain ⟨x3, e2, f2⟩ := lgi_s f1
  obtain ⟨qe, fe⟩ := pe_s f2
  subst qe
  exact MW.sub (List.forall_mem_cons.mpr ⟨lg_mem ex, List.forall_mem_cons.mpr ⟨lg_mem e0, List.forall_mem_cons.mpr ⟨lg_mem e1, List.forall_mem_cons.mpr ⟨lg_mem e2, fun _ h => absurd h List.not_mem_nil⟩⟩⟩⟩) (t_law_774 X N hk18 a1 a2 x3 g fe)
theorem tj_law_787 (X : Nat × (Nat → Int32)) (N : Nat) {q : Int32 × mH} {k18 : Nat → Nat → Int32 → mH → Option (Int32 × mH)} (hk18 : ∀ (a1 : Nat) (a2 : Nat) (x3 : Int32) g, k18 a1 a2 x3 g = some q → MW X y_law 28 18 [(0, .retAddr 0), (1, .ref a1), (2, .ref a2), (3, .int x3)] [] g (some (.int q.1)) q.2) {pc : Nat} {ls : mL} {st : List Value} {g : mH} (e : pc = 787 ∧ lgx 0 ls (lgr 1 ls fun a1 => lgr 2 ls fun a2 => lgi 3 ls fun x3 => pe st (J_law_787 X N k18 a1 a2 x3 g)) = some q) : MW X y_law 28 pc ls st g (some (.int q.1)) q.2 := by
  obtain ⟨rfl, e⟩ := e
  obtain ⟨ex, fx⟩ := lgx_s e
  obtain ⟨a1, e0, f0⟩ := lgr_s fx
  obtain ⟨a2, e1, f1⟩ := lgr_s f0
  obtain ⟨x3, e2, f2⟩ := lgi_s f1
  obtain ⟨qe, fe⟩ := pe_s f2
  subst qe
  exact MW.sub (List.forall_mem_cons.mpr ⟨lg_mem ex, List.forall_mem_cons.mpr ⟨lg_mem e0, List.forall_mem_cons.mpr ⟨lg_mem e1, List.forall_mem_cons.mpr ⟨lg_mem e2, fun _ h => absurd h List.not_mem_nil⟩⟩⟩⟩) (t_law_787 X N hk18 a1 a2 x3 g fe)
theorem tj_law_856 (X : Nat × (Nat → Int32)) (N : Nat) {q : Int32 × mH} {k18 : Nat → Nat → Int32 → mH → Option (Int32 × mH)} (hk18 : ∀ (a1 : Nat) (a2 : Nat) (x3 : Int32) g, k18 a1 a2 x3 g = some q → MW X y_law 28 18 [(0, .retAddr 0), (1, .ref a1), (2, .ref a2), (3, .int x3)] [] g (some (.int q.1)) q.2) {pc : Nat} {ls : mL} {st : List Value} {g : mH} (e : pc = 856 ∧ lgx 0 ls (lgr 1 ls fun a1 => lgr 2 ls fun a2 => lgi 3 ls fun x3 => pe st (J_law_856 X N k18 a1 a2 x3 g)) = some q) : MW X y_law 28 pc ls st g (some (.int q.1)) q.2 := by
  obtain ⟨rfl, e⟩ := e
  obtain ⟨ex, fx⟩ := lgx_s e
  obtain ⟨a1, e0, f0⟩ := lgr_s fx
  obtain ⟨a2, e1, f1⟩ := lgr_s f0
  obtain ⟨x3, e2, f2⟩ := lgi_s f1
  obtain ⟨qe, fe⟩ := pe_s f2
  subst qe
  exact MW.sub (List.forall_mem_cons.mpr ⟨lg_mem ex, List.forall_mem_cons.mpr ⟨lg_mem e0, List.forall_mem_cons.mpr ⟨lg_mem e1, List.forall_mem_cons.mpr ⟨lg_mem e2, fun _ h => absurd h List.not_mem_nil⟩⟩⟩⟩) (t_law_856 X N hk18 a1 a2 x3 g fe)
theorem tj_law_899 (X : Nat × (Nat → Int32)) (N : Nat) {q : Int32 × mH} {k18 : Nat → Nat → Int32 → mH → Option (Int32 × mH)} (hk18 : ∀ (a1 : Nat) (a2 : Nat) (x3 : Int32) g, k18 a1 a2 x3 g = some q → MW X y_law 28 18 [(0, .retAddr 0), (1, .ref a1), (2, .ref a2), (3, .int x3)] [] g (some (.int q.1)) q.2) {pc : Nat} {ls : mL} {st : List Value} {g : mH} (e : pc = 899 ∧ lgx 0 ls (lgr 1 ls fun a1 => lgr 2 ls fun a2 => lgi 3 ls fun x3 => pe st (J_law_899 X N k18 a1 a2 x3 g)) = some q) : MW X y_law 28 pc ls st g (some (.int q.1)) q.2 := by
  obtain ⟨rfl, e⟩ := e
  obtain ⟨ex, fx⟩ := lgx_s e
  obtain ⟨a1, e0, f0⟩ := lgr_s fx
  obtain ⟨a2, e1, f1⟩ := lgr_s f0
  obtain ⟨x3, e2, f2⟩ := lgi_s f1
  obtain ⟨qe, fe⟩ := pe_s f2
  subst qe
  exact MW.sub (List.forall_mem_cons.mpr ⟨lg_mem ex, List.forall_mem_cons.mpr ⟨lg_mem e0, List.forall_mem_cons.mpr ⟨lg_mem e1, List.forall_mem_cons.mpr ⟨lg_mem e2, fun _ h => absurd h List.not_mem_nil⟩⟩⟩⟩) (t_law_899 X N hk18 a1 a2 x3 g fe)
theorem tj_law_922 (X : Nat × (Nat → Int32)) (N : Nat) {q : Int32 × mH} {k18 : Nat → Nat → Int32 → mH → Option (Int32 × mH)} (hk18 : ∀ (a1 : Nat) (a2 : Nat) (x3 : Int32) g, k18 a1 a2 x3 g = some q → MW X y_law 28 18 [(0, .retAddr 0), (1, .ref a1), (2, .ref a2), (3, .int x3)] [] g (some (.int q.1)) q.2) {pc : Nat} {ls : mL} {st : List Value} {g : mH} (e : pc = 922 ∧ lgx 0 ls (lgr 1 ls fun a1 => lgr 2 ls fun a2 => lgi 3 ls fun x3 => pe st (J_law_922 X N k18 a1 a2 x3 g)) = some q) : MW X y_law 28 pc ls st g (some (.int q.1)) q.2 := by
  obtain ⟨rfl, e⟩ := e
  obtain ⟨ex, fx⟩ := lgx_s e
  obtain ⟨a1, e0, f0⟩ := lgr_s fx
  obtain ⟨a2, e1, f1⟩ := lgr_s f0
  obtain ⟨x3, e2, f2⟩ := lgi_s f1
  obtain ⟨qe, fe⟩ := pe_s f2
  subst qe
  exact MW.sub (List.forall_mem_cons.mpr ⟨lg_mem ex, List.forall_mem_cons.mpr ⟨lg_mem e0, List.forall_mem_cons.mpr ⟨lg_mem e1, List.forall_mem_cons.mpr ⟨lg_mem e2, fun _ h => absurd h List.not_mem_nil⟩⟩⟩⟩) (t_law_922 X N hk18 a1 a2 x3 g fe)
theorem tj_law_945 (X : Nat × (Nat → Int32)) (N : Nat) {q : Int32 × mH} {k18 : Nat → Nat → Int32 → mH → Option (Int32 × mH)} (hk18 : ∀ (a1 : Nat) (a2 : Nat) (x3 : Int32) g, k18 a1 a2 x3 g = some q → MW X y_law 28 18 [(0, .retAddr 0), (1, .ref a1), (2, .ref a2), (3, .int x3)] [] g (some (.int q.1)) q.2) {pc : Nat} {ls : mL} {st : List Value} {g : mH} (e : pc = 945 ∧ lgx 0 ls (lgr 1 ls fun a1 => lgr 2 ls fun a2 => lgi 3 ls fun x3 => pe st (J_law_945 X N k18 a1 a2 x3 g)) = some q) : MW X y_law 28 pc ls st g (some (.int q.1)) q.2 := by
  obtain ⟨rfl, e⟩ := e
  obtain ⟨ex, fx⟩ := lgx_s e
  obtain ⟨a1, e0, f0⟩ := lgr_s fx
  obtain ⟨a2, e1, f1⟩ := lgr_s f0
  obtain ⟨x3, e2, f2⟩ := lgi_s f1
  obtain ⟨qe, fe⟩ := pe_s f2
  subst qe
  exact MW.sub (List.forall_mem_cons.mpr ⟨lg_mem ex, List.forall_mem_cons.mpr ⟨lg_mem e0, List.forall_mem_cons.mpr ⟨lg_mem e1, List.forall_mem_cons.mpr ⟨lg_mem e2, fun _ h => absurd h List.not_mem_nil⟩⟩⟩⟩) (t_law_945 X N hk18 a1 a2 x3 g fe)
theorem tj_law_988 (X : Nat × (Nat → Int32)) (N : Nat) {q : Int32 × mH} {k18 : Nat → Nat → Int32 → mH → Option (Int32 × mH)} (hk18 : ∀ (a1 : Nat) (a2 : Nat) (x3 : Int32) g, k18 a1 a2 x3 g = some q → MW X y_law 28 18 [(0, .retAddr 0), (1, .ref a1), (2, .ref a2), (3, .int x3)] [] g (some (.int q.1)) q.2) {pc : Nat} {ls : mL} {st : List Value} {g : mH} (e : pc = 988 ∧ lgx 0 ls (lgr 1 ls fun a1 => lgr 2 ls fun a2 => lgi 3 ls fun x3 => pe st (J_law_988 X N k18 a1 a2 x3 g)) = some q) : MW X y_law 28 pc ls st g (some (.int q.1)) q.2 := by
  obtain ⟨rfl, e⟩ := e
  obtain ⟨ex, fx⟩ := lgx_s e
  obtain ⟨a1, e0, f0⟩ := lgr_s fx
  obtain ⟨a2, e1, f1⟩ := lgr_s f0
  obtain ⟨x3, e2, f2⟩ := lgi_s f1
  obtain ⟨qe, fe⟩ := pe_s f2
  subst qe
  exact MW.sub (List.forall_mem_cons.mpr ⟨lg_mem ex, List.forall_mem_cons.mpr ⟨lg_mem e0, List.forall_mem_cons.mpr ⟨lg_mem e1, List.forall_mem_cons.mpr ⟨lg_mem e2, fun _ h => absurd h List.not_mem_nil⟩⟩⟩⟩) (t_law_988 X N hk18 a1 a2 x3 g fe)
theorem tj_law_1011 (X : Nat × (Nat → Int32)) (N : Nat) {q : Int32 × mH} {k18 : Nat → Nat → Int32 → mH → Option (Int32 × mH)} (hk18 : ∀ (a1 : Nat) (a2 : Nat) (x3 : Int32) g, k18 a1 a2 x3 g = some q → MW X y_law 28 18 [(0, .retAddr 0), (1, .ref a1), (2, .ref a2), (3, .int x3)] [] g (some (.int q.1)) q.2) {pc : Nat} {ls : mL} {st : List Value} {g : mH} (e : pc = 1011 ∧ lgx 0 ls (lgr 1 ls fun a1 => lgr 2 ls fun a2 => lgi 3 ls fun x3 => pe st (J_law_1011 X N k18 a1 a2 x3 g)) = some q) : MW X y_law 28 pc ls st g (some (.int q.1)) q.2 := by
  obtain ⟨rfl, e⟩ := e
  obtain ⟨ex, fx⟩ := lgx_s e
  obtain ⟨a1, e0, f0⟩ := lgr_s fx
  obtain ⟨a2, e1, f1⟩ := lgr_s f0
  obtain ⟨x3, e2, f2⟩ := lgi_s f1
  obtain ⟨qe, fe⟩ := pe_s f2
  subst qe
  exact MW.sub (List.forall_mem_cons.mpr ⟨lg_mem ex, List.forall_mem_cons.mpr ⟨lg_mem e0, List.forall_mem_cons.mpr ⟨lg_mem e1, List.forall_mem_cons.mpr ⟨lg_mem e2, fun _ h => absurd h List.not_mem_nil⟩⟩⟩⟩) (t_law_1011 X N hk18 a1 a2 x3 g fe)
theorem tj_law_1070 (X : Nat × (Nat → Int32)) (N : Nat) {q : Int32 × mH} {k18 : Nat → Nat → Int32 → mH → Option (Int32 × mH)} (hk18 : ∀ (a1 : Nat) (a2 : Nat) (x3 : Int32) g, k18 a1 a2 x3 g = some q → MW X y_law 28 18 [(0, .retAddr 0), (1, .ref a1), (2, .ref a2), (3, .int x3)] [] g (some (.int q.1)) q.2) {pc : Nat} {ls : mL} {st : List Value} {g : mH} (e : pc = 1070 ∧ lgx 0 ls (lgr 1 ls fun a1 => lgr 2 ls fun a2 => lgi 3 ls fun x3 => pe st (J_law_1070 X N k18 a1 a2 x3 g)) = some q) : MW X y_law 28 pc ls st g (some (.int q.1)) q.2 := by
  obtain ⟨rfl, e⟩ := e
  obtain ⟨ex, fx⟩ := lgx_s e
  obtain ⟨a1, e0, f0⟩ := lgr_s fx
  obtain ⟨a2, e1, f1⟩ := lgr_s f0
  obtain ⟨x3, e2, f2⟩ := lgi_s f1
  obtain ⟨qe, fe⟩ := pe_s f2
  subst qe
  exact MW.sub (List.forall_mem_cons.mpr ⟨lg_mem ex, List.forall_mem_cons.mpr ⟨lg_mem e0, List.forall_mem_cons.mpr ⟨lg_mem e1, List.forall_mem_cons.mpr ⟨lg_mem e2, fun _ h => absurd h List.not_mem_nil⟩⟩⟩⟩) (t_law_1070 X N hk18 a1 a2 x3 g fe)
theorem tj_law_1103 (X : Nat × (Nat → Int32)) (N : Nat) {q : Int32 × mH} {k18 : Nat → Nat → Int32 → mH → Option (Int32 × mH)} (hk18 : ∀ (a1 : Nat) (a2 : Nat) (x3 : Int32) g, k18 a1 a2 x3 g = some q → MW X y_law 28 18 [(0, .retAddr 0), (1, .ref a1), (2, .ref a2), (3, .int x3)] [] g (some (.int q.1)) q.2) {pc : Nat} {ls : mL} {st : List Value} {g : mH} (e : pc = 1103 ∧ lgx 0 ls (lgr 1 ls fun a1 => lgr 2 ls fun a2 => lgi 3 ls fun x3 => pe st (J_law_1103 X N k18 a1 a2 x3 g)) = some q) : MW X y_law 28 pc ls st g (some (.int q.1)) q.2 := by
  obtain ⟨rfl, e⟩ := e
  obtain ⟨ex, fx⟩ := lgx_s e
  obtain ⟨a1, e0, f0⟩ := lgr_s fx
  obtain ⟨a2, e1, f1⟩ := lgr_s f0
  obtain ⟨x3, e2, f2⟩ := lgi_s f1
  obtain ⟨qe, fe⟩ := pe_s f2
  subst qe
  exact MW.sub (List.forall_mem_cons.mpr ⟨lg_mem ex, List.forall_mem_cons.mpr ⟨lg_mem e0, List.forall_mem_cons.mpr ⟨lg_mem e1, List.forall_mem_cons.mpr ⟨lg_mem e2, fun _ h => absurd h List.not_mem_nil⟩⟩⟩⟩) (t_law_1103 X N hk18 a1 a2 x3 g fe)
theorem tj_law_1156 (X : Nat × (Nat → Int32)) (N : Nat) {q : Int32 × mH} {k18 : Nat → Nat → Int32 → mH → Option (Int32 × mH)} (hk18 : ∀ (a1 : Nat) (a2 : Nat) (x3 : Int32) g, k18 a1 a2 x3 g = some q → MW X y_law 28 18 [(0, .retAddr 0), (1, .ref a1), (2, .ref a2), (3, .int x3)] [] g (some (.int q.1)) q.2) {pc : Nat} {ls : mL} {st : List Value} {g : mH} (e : pc = 1156 ∧ lgx 0 ls (lgr 1 ls fun a1 => lgr 2 ls fun a2 => lgi 3 ls fun x3 => pe st (J_law_1156 X N k18 a1 a2 x3 g)) = some q) : MW X y_law 28 pc ls st g (some (.int q.1)) q.2 := by
  obtain ⟨rfl, e⟩ := e
  obtain ⟨ex, fx⟩ := lgx_s e
  obtain ⟨a1, e0, f0⟩ := lgr_s fx
  obtain ⟨a2, e1, f1⟩ := lgr_s f0
  obtain ⟨x3, e2, f2⟩ := lgi_s f1
  obtain ⟨qe, fe⟩ := pe_s f2
  subst qe
  exact MW.sub (List.forall_mem_cons.mpr ⟨lg_mem ex, List.forall_mem_cons.mpr ⟨lg_mem e0, List.forall_mem_cons.mpr ⟨lg_mem e1, List.forall_mem_cons.mpr ⟨lg_mem e2, fun _ h => absurd h List.not_mem_nil⟩⟩⟩⟩) (t_law_1156 X N hk18 a1 a2 x3 g fe)
theorem tj_law_1179 (X : Nat × (Nat → Int32)) (N : Nat) {q : Int32 × mH} {k18 : Nat → Nat → Int32 → mH → Option (Int32 × mH)} (hk18 : ∀ (a1 : Nat) (a2 : Nat) (x3 : Int32) g, k18 a1 a2 x3 g = some q → MW X y_law 28 18 [(0, .retAddr 0), (1, .ref a1), (2, .ref a2), (3, .int x3)] [] g (some (.int q.1)) q.2) {pc : Nat} {ls : mL} {st : List Value} {g : mH} (e : pc = 1179 ∧ lgx 0 ls (lgr 1 ls fun a1 => lgr 2 ls fun a2 => lgi 3 ls fun x3 => pe st (J_law_1179 X N k18 a1 a2 x3 g)) = some q) : MW X y_law 28 pc ls st g (some (.int q.1)) q.2 := by
  obtain ⟨rfl, e⟩ := e
  obtain ⟨ex, fx⟩ := lgx_s e
  obtain ⟨a1, e0, f0⟩ := lgr_s fx
  obtain ⟨a2, e1, f1⟩ := lgr_s f0
  obtain ⟨x3, e2, f2⟩ := lgi_s f1
  obtain ⟨qe, fe⟩ := pe_s f2
  subst qe
  exact MW.sub (List.forall_mem_cons.mpr ⟨lg_mem ex, List.forall_mem_cons.mpr ⟨lg_mem e0, List.forall_mem_cons.mpr ⟨lg_mem e1, List.forall_mem_cons.mpr ⟨lg_mem e2, fun _ h => absurd h List.not_mem_nil⟩⟩⟩⟩) (t_law_1179 X N hk18 a1 a2 x3 g fe)
theorem tj_law_1202 (X : Nat × (Nat → Int32)) (N : Nat) {q : Int32 × mH} {k18 : Nat → Nat → Int32 → mH → Option (Int32 × mH)} (hk18 : ∀ (a1 : Nat) (a2 : Nat) (x3 : Int32) g, k18 a1 a2 x3 g = some q → MW X y_law 28 18 [(0, .retAddr 0), (1, .ref a1), (2, .ref a2), (3, .int x3)] [] g (some (.int q.1)) q.2) {pc : Nat} {ls : mL} {st : List Value} {g : mH} (e : pc = 1202 ∧ lgx 0 ls (lgr 1 ls fun a1 => lgr 2 ls fun a2 => lgi 3 ls fun x3 => pe st (J_law_1202 X N k18 a1 a2 x3 g)) = some q) : MW X y_law 28 pc ls st g (some (.int q.1)) q.2 := by
  obtain ⟨rfl, e⟩ := e
  obtain ⟨ex, fx⟩ := lgx_s e
  obtain ⟨a1, e0, f0⟩ := lgr_s fx
  obtain ⟨a2, e1, f1⟩ := lgr_s f0
  obtain ⟨x3, e2, f2⟩ := lgi_s f1
  obtain ⟨qe, fe⟩ := pe_s f2
  subst qe
  exact MW.sub (List.forall_mem_cons.mpr ⟨lg_mem ex, List.forall_mem_cons.mpr ⟨lg_mem e0, List.forall_mem_cons.mpr ⟨lg_mem e1, List.forall_mem_cons.mpr ⟨lg_mem e2, fun _ h => absurd h List.not_mem_nil⟩⟩⟩⟩) (t_law_1202 X N hk18 a1 a2 x3 g fe)
theorem tj_law_1225 (X : Nat × (Nat → Int32)) (N : Nat) {q : Int32 × mH} {k18 : Nat → Nat → Int32 → mH → Option (Int32 × mH)} (hk18 : ∀ (a1 : Nat) (a2 : Nat) (x3 : Int32) g, k18 a1 a2 x3 g = some q → MW X y_law 28 18 [(0, .retAddr 0), (1, .ref a1), (2, .ref a2), (3, .int x3)] [] g (some (.int q.1)) q.2) {pc : Nat} {ls : mL} {st : List Value} {g : mH} (e : pc = 1225 ∧ lgx 0 ls (lgr 1 ls fun a1 => lgr 2 ls fun a2 => lgi 3 ls fun x3 => pe st (J_law_1225 X N k18 a1 a2 x3 g)) = some q) : MW X y_law 28 pc ls st g (some (.int q.1)) q.2 := by
  obtain ⟨rfl, e⟩ := e
  obtain ⟨ex, fx⟩ := lgx_s e
  obtain ⟨a1, e0, f0⟩ := lgr_s fx
  obtain ⟨a2, e1, f1⟩ := lgr_s f0
  obtain ⟨x3, e2, f2⟩ := lgi_s f1
  obtain ⟨qe, fe⟩ := pe_s f2
  subst qe
  exact MW.sub (List.forall_mem_cons.mpr ⟨lg_mem ex, List.forall_mem_cons.mpr ⟨lg_mem e0, List.forall_mem_cons.mpr ⟨lg_mem e1, List.forall_mem_cons.mpr ⟨lg_mem e2, fun _ h => absurd h List.not_mem_nil⟩⟩⟩⟩) (t_law_1225 X N hk18 a1 a2 x3 g fe)
theorem tj_law_1258 (X : Nat × (Nat → Int32)) (N : Nat) {q : Int32 × mH} {k18 : Nat → Nat → Int32 → mH → Option (Int32 × mH)} (hk18 : ∀ (a1 : Nat) (a2 : Nat) (x3 : Int32) g, k18 a1 a2 x3 g = some q → MW X y_law 28 18 [(0, .retAddr 0), (1, .ref a1), (2, .ref a2), (3, .int x3)] [] g (some (.int q.1)) q.2) {pc : Nat} {ls : mL} {st : List Value} {g : mH} (e : pc = 1258 ∧ lgx 0 ls (lgr 1 ls fun a1 => lgr 2 ls fun a2 => lgi 3 ls fun x3 => pe st (J_law_1258 X N k18 a1 a2 x3 g)) = some q) : MW X y_law 28 pc ls st g (some (.int q.1)) q.2 := by
  obtain ⟨rfl, e⟩ := e
  obtain ⟨ex, fx⟩ := lgx_s e
  obtain ⟨a1, e0, f0⟩ := lgr_s fx
  obtain ⟨a2, e1, f1⟩ := lgr_s f0
  obtain ⟨x3, e2, f2⟩ := lgi_s f1
  obtain ⟨qe, fe⟩ := pe_s f2
  subst qe
  exact MW.sub (List.forall_mem_cons.mpr ⟨lg_mem ex, List.forall_mem_cons.mpr ⟨lg_mem e0, List.forall_mem_cons.mpr ⟨lg_mem e1, List.forall_mem_cons.mpr ⟨lg_mem e2, fun _ h => absurd h List.not_mem_nil⟩⟩⟩⟩) (t_law_1258 X N hk18 a1 a2 x3 g fe)
theorem tj_law_1291 (X : Nat × (Nat → Int32)) (N : Nat) {q : Int32 × mH} {k18 : Nat → Nat → Int32 → mH → Option (Int32 × mH)} (hk18 : ∀ (a1 : Nat) (a2 : Nat) (x3 : Int32) g, k18 a1 a2 x3 g = some q → MW X y_law 28 18 [(0, .retAddr 0), (1, .ref a1), (2, .ref a2), (3, .int x3)] [] g (some (.int q.1)) q.2) {pc : Nat} {ls : mL} {st : List Value} {g : mH} (e : pc = 1291 ∧ lgx 0 ls (lgr 1 ls fun a1 => lgr 2 ls fun a2 => lgi 3 ls fun x3 => pe st (J_law_1291 X N k18 a1 a2 x3 g)) = some q) : MW X y_law 28 pc ls st g (some (.int q.1)) q.2 := by
  obtain ⟨rfl, e⟩ := e
  obtain ⟨ex, fx⟩ := lgx_s e
  obtain ⟨a1, e0, f0⟩ := lgr_s fx
  obtain ⟨a2, e1, f1⟩ := lgr_s f0
  obtain ⟨x3, e2, f2⟩ := lgi_s f1
  obtain ⟨qe, fe⟩ := pe_s f2
  subst qe
  exact MW.sub (List.forall_mem_cons.mpr ⟨lg_mem ex, List.forall_mem_cons.mpr ⟨lg_mem e0, List.forall_mem_cons.mpr ⟨lg_mem e1, List.forall_mem_cons.mpr ⟨lg_mem e2, fun _ h => absurd h List.not_mem_nil⟩⟩⟩⟩) (t_law_1291 X N hk18 a1 a2 x3 g fe)
theorem tj_law_1314 (X : Nat × (Nat → Int32)) (N : Nat) {q : Int32 × mH} {k18 : Nat → Nat → Int32 → mH → Option (Int32 × mH)} (hk18 : ∀ (a1 : Nat) (a2 : Nat) (x3 : Int32) g, k18 a1 a2 x3 g = some q → MW X y_law 28 18 [(0, .retAddr 0), (1, .ref a1), (2, .ref a2), (3, .int x3)] [] g (some (.int q.1)) q.2) {pc : Nat} {ls : mL} {st : List Value} {g : mH} (e : pc = 1314 ∧ lgx 0 ls (lgr 1 ls fun a1 => lgr 2 ls fun a2 => lgi 3 ls fun x3 => pe st (J_law_1314 X N k18 a1 a2 x3 g)) = some q) : MW X y_law 28 pc ls st g (some (.int q.1)) q.2 := by
  obtain ⟨rfl, e⟩ := e
  obtain ⟨ex, fx⟩ := lgx_s e
  obtain ⟨a1, e0, f0⟩ := lgr_s fx
  obtain ⟨a2, e1, f1⟩ := lgr_s f0
  obtain ⟨x3, e2, f2⟩ := lgi_s f1
  obtain ⟨qe, fe⟩ := pe_s f2
  subst qe
  exact MW.sub (List.forall_mem_cons.mpr ⟨lg_mem ex, List.forall_mem_cons.mpr ⟨lg_mem e0, List.forall_mem_cons.mpr ⟨lg_mem e1, List.forall_mem_cons.mpr ⟨lg_mem e2, fun _ h => absurd h List.not_mem_nil⟩⟩⟩⟩) (t_law_1314 X N hk18 a1 a2 x3 g fe)
theorem tj_law_1337 (X : Nat × (Nat → Int32)) (N : Nat) {q : Int32 × mH} {k18 : Nat → Nat → Int32 → mH → Option (Int32 × mH)} (hk18 : ∀ (a1 : Nat) (a2 : Nat) (x3 : Int32) g, k18 a1 a2 x3 g = some q → MW X y_law 28 18 [(0, .retAddr 0), (1, .ref a1), (2, .ref a2), (3, .int x3)] [] g (some (.int q.1)) q.2) {pc : Nat} {ls : mL} {st : List Value} {g : mH} (e : pc = 1337 ∧ lgx 0 ls (lgr 1 ls fun a1 => lgr 2 ls fun a2 => lgi 3 ls fun x3 => pe st (J_law_1337 X N k18 a1 a2 x3 g)) = some q) : MW X y_law 28 pc ls st g (some (.int q.1)) q.2 := by
  obtain ⟨rfl, e⟩ := e
  obtain ⟨ex, fx⟩ := lgx_s e
  obtain ⟨a1, e0, f0⟩ := lgr_s fx
  obtain ⟨a2, e1, f1⟩ := lgr_s f0
  obtain ⟨x3, e2, f2⟩ := lgi_s f1
  obtain ⟨qe, fe⟩ := pe_s f2
  subst qe
  exact MW.sub (List.forall_mem_cons.mpr ⟨lg_mem ex, List.forall_mem_cons.mpr ⟨lg_mem e0, List.forall_mem_cons.mpr ⟨lg_mem e1, List.forall_mem_cons.mpr ⟨lg_mem e2, fun _ h => absurd h List.not_mem_nil⟩⟩⟩⟩) (t_law_1337 X N hk18 a1 a2 x3 g fe)
theorem tj_law_1350 (X : Nat × (Nat → Int32)) (N : Nat) {q : Int32 × mH} {k18 : Nat → Nat → Int32 → mH → Option (Int32 × mH)} (hk18 : ∀ (a1 : Nat) (a2 : Nat) (x3 : Int32) g, k18 a1 a2 x3 g = some q → MW X y_law 28 18 [(0, .retAddr 0), (1, .ref a1), (2, .ref a2), (3, .int x3)] [] g (some (.int q.1)) q.2) {pc : Nat} {ls : mL} {st : List Value} {g : mH} (e : pc = 1350 ∧ lgx 0 ls (lgr 1 ls fun a1 => lgr 2 ls fun a2 => lgi 3 ls fun x3 => pe st (J_law_1350 X N k18 a1 a2 x3 g)) = some q) : MW X y_law 28 pc ls st g (some (.int q.1)) q.2 := by
  obtain ⟨rfl, e⟩ := e
  obtain ⟨ex, fx⟩ := lgx_s e
  obtain ⟨a1, e0, f0⟩ := lgr_s fx
  obtain ⟨a2, e1, f1⟩ := lgr_s f0
  obtain ⟨x3, e2, f2⟩ := lgi_s f1
  obtain ⟨qe, fe⟩ := pe_s f2
  subst qe
  exact MW.sub (List.forall_mem_cons.mpr ⟨lg_mem ex, List.forall_mem_cons.mpr ⟨lg_mem e0, List.forall_mem_cons.mpr ⟨lg_mem e1, List.forall_mem_cons.mpr ⟨lg_mem e2, fun _ h => absurd h List.not_mem_nil⟩⟩⟩⟩) (t_law_1350 X N hk18 a1 a2 x3 g fe)
theorem tj_law_1373 (X : Nat × (Nat → Int32)) (N : Nat) {q : Int32 × mH} {k18 : Nat → Nat → Int32 → mH → Option (Int32 × mH)} (hk18 : ∀ (a1 : Nat) (a2 : Nat) (x3 : Int32) g, k18 a1 a2 x3 g = some q → MW X y_law 28 18 [(0, .retAddr 0), (1, .ref a1), (2, .ref a2), (3, .int x3)] [] g (some (.int q.1)) q.2) {pc : Nat} {ls : mL} {st : List Value} {g : mH} (e : pc = 1373 ∧ lgx 0 ls (lgr 1 ls fun a1 => lgr 2 ls fun a2 => lgi 3 ls fun x3 => pe st (J_law_1373 X N k18 a1 a2 x3 g)) = some q) : MW X y_law 28 pc ls st g (some (.int q.1)) q.2 := by
  obtain ⟨rfl, e⟩ := e
  obtain ⟨ex, fx⟩ := lgx_s e
  obtain ⟨a1, e0, f0⟩ := lgr_s fx
  obtain ⟨a2, e1, f1⟩ := lgr_s f0
  obtain ⟨x3, e2, f2⟩ := lgi_s f1
  obtain ⟨qe, fe⟩ := pe_s f2
  subst qe
  exact MW.sub (List.forall_mem_cons.mpr ⟨lg_mem ex, List.forall_mem_cons.mpr ⟨lg_mem e0, List.forall_mem_cons.mpr ⟨lg_mem e1, List.forall_mem_cons.mpr ⟨lg_mem e2, fun _ h => absurd h List.not_mem_nil⟩⟩⟩⟩) (t_law_1373 X N hk18 a1 a2 x3 g fe)
theorem tj_law_1422 (X : Nat × (Nat → Int32)) (N : Nat) {q : Int32 × mH} {k18 : Nat → Nat → Int32 → mH → Option (Int32 × mH)} (hk18 : ∀ (a1 : Nat) (a2 : Nat) (x3 : Int32) g, k18 a1 a2 x3 g = some q → MW X y_law 28 18 [(0, .retAddr 0), (1, .ref a1), (2, .ref a2), (3, .int x3)] [] g (some (.int q.1)) q.2) {pc : Nat} {ls : mL} {st : List Value} {g : mH} (e : pc = 1422 ∧ lgx 0 ls (lgr 1 ls fun a1 => lgr 2 ls fun a2 => lgi 3 ls fun x3 => pe st (J_law_1422 X N k18 a1 a2 x3 g)) = some q) : MW X y_law 28 pc ls st g (some (.int q.1)) q.2 := by
  obtain ⟨rfl, e⟩ := e
  obtain ⟨ex, fx⟩ := lgx_s e
  obtain ⟨a1, e0, f0⟩ := lgr_s fx
  obtain ⟨a2, e1, f1⟩ := lgr_s f0
  obtain ⟨x3, e2, f2⟩ := lgi_s f1
  obtain ⟨qe, fe⟩ := pe_s f2
  subst qe
  exact MW.sub (List.forall_mem_cons.mpr ⟨lg_mem ex, List.forall_mem_cons.mpr ⟨lg_mem e0, List.forall_mem_cons.mpr ⟨lg_mem e1, List.forall_mem_cons.mpr ⟨lg_mem e2, fun _ h => absurd h List.not_mem_nil⟩⟩⟩⟩) (t_law_1422 X N hk18 a1 a2 x3 g fe)
theorem tj_law_1455 (X : Nat × (Nat → Int32)) (N : Nat) {q : Int32 × mH} {k18 : Nat → Nat → Int32 → mH → Option (Int32 × mH)} (hk18 : ∀ (a1 : Nat) (a2 : Nat) (x3 : Int32) g, k18 a1 a2 x3 g = some q → MW X y_law 28 18 [(0, .retAddr 0), (1, .ref a1), (2, .ref a2), (3, .int x3)] [] g (some (.int q.1)) q.2) {pc : Nat} {ls : mL} {st : List Value} {g : mH} (e : pc = 1455 ∧ lgx 0 ls (lgr 1 ls fun a1 => lgr 2 ls fun a2 => lgi 3 ls fun x3 => pe st (J_law_1455 X N k18 a1 a2 x3 g)) = some q) : MW X y_law 28 pc ls st g (some (.int q.1)) q.2 := by
  obtain ⟨rfl, e⟩ := e
  obtain ⟨ex, fx⟩ := lgx_s e
  obtain ⟨a1, e0, f0⟩ := lgr_s fx
  obtain ⟨a2, e1, f1⟩ := lgr_s f0
  obtain ⟨x3, e2, f2⟩ := lgi_s f1
  obtain ⟨qe, fe⟩ := pe_s f2
  subst qe
  exact MW.sub (List.forall_mem_cons.mpr ⟨lg_mem ex, List.forall_mem_cons.mpr ⟨lg_mem e0, List.forall_mem_cons.mpr ⟨lg_mem e1, List.forall_mem_cons.mpr ⟨lg_mem e2, fun _ h => absurd h List.not_mem_nil⟩⟩⟩⟩) (t_law_1455 X N hk18 a1 a2 x3 g fe)
theorem tj_law_1498 (X : Nat × (Nat → Int32)) (N : Nat) {q : Int32 × mH} {k18 : Nat → Nat → Int32 → mH → Option (Int32 × mH)} (hk18 : ∀ (a1 : Nat) (a2 : Nat) (x3 : Int32) g, k18 a1 a2 x3 g = some q → MW X y_law 28 18 [(0, .retAddr 0), (1, .ref a1), (2, .ref a2), (3, .int x3)] [] g (some (.int q.1)) q.2) {pc : Nat} {ls : mL} {st : List Value} {g : mH} (e : pc = 1498 ∧ lgx 0 ls (lgr 1 ls fun a1 => lgr 2 ls fun a2 => lgi 3 ls fun x3 => pe st (J_law_1498 X N k18 a1 a2 x3 g)) = some q) : MW X y_law 28 pc ls st g (some (.int q.1)) q.2 := by
  obtain ⟨rfl, e⟩ := e
  obtain ⟨ex, fx⟩ := lgx_s e
  obtain ⟨a1, e0, f0⟩ := lgr_s fx
  obtain ⟨a2, e1, f1⟩ := lgr_s f0
  obtain ⟨x3, e2, f2⟩ := lgi_s f1
  obtain ⟨qe, fe⟩ := pe_s f2
  subst qe
  exact MW.sub (List.forall_mem_cons.mpr ⟨lg_mem ex, List.forall_mem_cons.mpr ⟨lg_mem e0, List.forall_mem_cons.mpr ⟨lg_mem e1, List.forall_mem_cons.mpr ⟨lg_mem e2, fun _ h => absurd h List.not_mem_nil⟩⟩⟩⟩) (t_law_1498 X N hk18 a1 a2 x3 g fe)
theorem tj_law_1531 (X : Nat × (Nat → Int32)) (N : Nat) {q : Int32 × mH} {k18 : Nat → Nat → Int32 → mH → Option (Int32 × mH)} (hk18 : ∀ (a1 : Nat) (a2 : Nat) (x3 : Int32) g, k18 a1 a2 x3 g = some q → MW X y_law 28 18 [(0, .retAddr 0), (1, .ref a1), (2, .ref a2), (3, .int x3)] [] g (some (.int q.1)) q.2) {pc : Nat} {ls : mL} {st : List Value} {g : mH} (e : pc = 1531 ∧ lgx 0 ls (lgr 1 ls fun a1 => lgr 2 ls fun a2 => lgi 3 ls fun x3 => pe st (J_law_1531 X N k18 a1 a2 x3 g)) = some q) : MW X y_law 28 pc ls st g (some (.int q.1)) q.2 := by
  obtain ⟨rfl, e⟩ := e
  obtain ⟨ex, fx⟩ := lgx_s e
  obtain ⟨a1, e0, f0⟩ := lgr_s fx
  obtain ⟨a2, e1, f1⟩ := lgr_s f0
  obtain ⟨x3, e2, f2⟩ := lgi_s f1
  obtain ⟨qe, fe⟩ := pe_s f2
  subst qe
  exact MW.sub (List.forall_mem_cons.mpr ⟨lg_mem ex, List.forall_mem_cons.mpr ⟨lg_mem e0, List.forall_mem_cons.mpr ⟨lg_mem e1, List.forall_mem_cons.mpr ⟨lg_mem e2, fun _ h => absurd h List.not_mem_nil⟩⟩⟩⟩) (t_law_1531 X N hk18 a1 a2 x3 g fe)
theorem tj_law_1574 (X : Nat × (Nat → Int32)) (N : Nat) {q : Int32 × mH} {k18 : Nat → Nat → Int32 → mH → Option (Int32 × mH)} (hk18 : ∀ (a1 : Nat) (a2 : Nat) (x3 : Int32) g, k18 a1 a2 x3 g = some q → MW X y_law 28 18 [(0, .retAddr 0), (1, .ref a1), (2, .ref a2), (3, .int x3)] [] g (some (.int q.1)) q.2) {pc : Nat} {ls : mL} {st : List Value} {g : mH} (e : pc = 1574 ∧ lgx 0 ls (lgr 1 ls fun a1 => lgr 2 ls fun a2 => lgi 3 ls fun x3 => pe st (J_law_1574 X N k18 a1 a2 x3 g)) = some q) : MW X y_law 28 pc ls st g (some (.int q.1)) q.2 := by
  obtain ⟨rfl, e⟩ := e
  obtain ⟨ex, fx⟩ := lgx_s e
  obtain ⟨a1, e0, f0⟩ := lgr_s fx
  obtain ⟨a2, e1, f1⟩ := lgr_s f0
  obtain ⟨x3, e2, f2⟩ := lgi_s f1
  obtain ⟨qe, fe⟩ := pe_s f2
  subst qe
  exact MW.sub (List.forall_mem_cons.mpr ⟨lg_mem ex, List.forall_mem_cons.mpr ⟨lg_mem e0, List.forall_mem_cons.mpr ⟨lg_mem e1, List.forall_mem_cons.mpr ⟨lg_mem e2, fun _ h => absurd h List.not_mem_nil⟩⟩⟩⟩) (t_law_1574 X N hk18 a1 a2 x3 g fe)
theorem tj_law_1607 (X : Nat × (Nat → Int32)) (N : Nat) {q : Int32 × mH} {k18 : Nat → Nat → Int32 → mH → Option (Int32 × mH)} (hk18 : ∀ (a1 : Nat) (a2 : Nat) (x3 : Int32) g, k18 a1 a2 x3 g = some q → MW X y_law 28 18 [(0, .retAddr 0), (1, .ref a1), (2, .ref a2), (3, .int x3)] [] g (some (.int q.1)) q.2) {pc : Nat} {ls : mL} {st : List Value} {g : mH} (e : pc = 1607 ∧ lgx 0 ls (lgr 1 ls fun a1 => lgr 2 ls fun a2 => lgi 3 ls fun x3 => pe st (J_law_1607 X N k18 a1 a2 x3 g)) = some q) : MW X y_law 28 pc ls st g (some (.int q.1)) q.2 := by
  obtain ⟨rfl, e⟩ := e
  obtain ⟨ex, fx⟩ := lgx_s e
  obtain ⟨a1, e0, f0⟩ := lgr_s fx
  obtain ⟨a2, e1, f1⟩ := lgr_s f0
  obtain ⟨x3, e2, f2⟩ := lgi_s f1
  obtain ⟨qe, fe⟩ := pe_s f2
  subst qe
  exact MW.sub (List.forall_mem_cons.mpr ⟨lg_mem ex, List.forall_mem_cons.mpr ⟨lg_mem e0, List.forall_mem_cons.mpr ⟨lg_mem e1, List.forall_mem_cons.mpr ⟨lg_mem e2, fun _ h => absurd h List.not_mem_nil⟩⟩⟩⟩) (t_law_1607 X N hk18 a1 a2 x3 g fe)
theorem tj_law_1656 (X : Nat × (Nat → Int32)) (N : Nat) {q : Int32 × mH} {k18 : Nat → Nat → Int32 → mH → Option (Int32 × mH)} (hk18 : ∀ (a1 : Nat) (a2 : Nat) (x3 : Int32) g, k18 a1 a2 x3 g = some q → MW X y_law 28 18 [(0, .retAddr 0), (1, .ref a1), (2, .ref a2), (3, .int x3)] [] g (some (.int q.1)) q.2) {pc : Nat} {ls : mL} {st : List Value} {g : mH} (e : pc = 1656 ∧ lgx 0 ls (lgr 1 ls fun a1 => lgr 2 ls fun a2 => lgi 3 ls fun x3 => pe st (J_law_1656 X N k18 a1 a2 x3 g)) = some q) : MW X y_law 28 pc ls st g (some (.int q.1)) q.2 := by
  obtain ⟨rfl, e⟩ := e
  obtain ⟨ex, fx⟩ := lgx_s e
  obtain ⟨a1, e0, f0⟩ := lgr_s fx
  obtain ⟨a2, e1, f1⟩ := lgr_s f0
  obtain ⟨x3, e2, f2⟩ := lgi_s f1
  obtain ⟨qe, fe⟩ := pe_s f2
  subst qe
  exact MW.sub (List.forall_mem_cons.mpr ⟨lg_mem ex, List.forall_mem_cons.mpr ⟨lg_mem e0, List.forall_mem_cons.mpr ⟨lg_mem e1, List.forall_mem_cons.mpr ⟨lg_mem e2, fun _ h => absurd h List.not_mem_nil⟩⟩⟩⟩) (t_law_1656 X N hk18 a1 a2 x3 g fe)
theorem tj_law_1669 (X : Nat × (Nat → Int32)) (N : Nat) {q : Int32 × mH} {k18 : Nat → Nat → Int32 → mH → Option (Int32 × mH)} (hk18 : ∀ (a1 : Nat) (a2 : Nat) (x3 : Int32) g, k18 a1 a2 x3 g = some q → MW X y_law 28 18 [(0, .retAddr 0), (1, .ref a1), (2, .ref a2), (3, .int x3)] [] g (some (.int q.1)) q.2) {pc : Nat} {ls : mL} {st : List Value} {g : mH} (e : pc = 1669 ∧ lgx 0 ls (lgr 1 ls fun a1 => lgr 2 ls fun a2 => lgi 3 ls fun x3 => pe st (J_law_1669 X N k18 a1 a2 x3 g)) = some q) : MW X y_law 28 pc ls st g (some (.int q.1)) q.2 := by
  obtain ⟨rfl, e⟩ := e
  obtain ⟨ex, fx⟩ := lgx_s e
  obtain ⟨a1, e0, f0⟩ := lgr_s fx
  obtain ⟨a2, e1, f1⟩ := lgr_s f0
  obtain ⟨x3, e2, f2⟩ := lgi_s f1
  obtain ⟨qe, fe⟩ := pe_s f2
  subst qe
  exact MW.sub (List.forall_mem_cons.mpr ⟨lg_mem ex, List.forall_mem_cons.mpr ⟨lg_mem e0, List.forall_mem_cons.mpr ⟨lg_mem e1, List.forall_mem_cons.mpr ⟨lg_mem e2, fun _ h => absurd h List.not_mem_nil⟩⟩⟩⟩) (t_law_1669 X N hk18 a1 a2 x3 g fe)
theorem tj_law_1692 (X : Nat × (Nat → Int32)) (N : Nat) {q : Int32 × mH} {k18 : Nat → Nat → Int32 → mH → Option (Int32 × mH)} (hk18 : ∀ (a1 : Nat) (a2 : Nat) (x3 : Int32) g, k18 a1 a2 x3 g = some q → MW X y_law 28 18 [(0, .retAddr 0), (1, .ref a1), (2, .ref a2), (3, .int x3)] [] g (some (.int q.1)) q.2) {pc : Nat} {ls : mL} {st : List Value} {g : mH} (e : pc = 1692 ∧ lgx 0 ls (lgr 1 ls fun a1 => lgr 2 ls fun a2 => lgi 3 ls fun x3 => pe st (J_law_1692 X N k18 a1 a2 x3 g)) = some q) : MW X y_law 28 pc ls st g (some (.int q.1)) q.2 := by
  obtain ⟨rfl, e⟩ := e
  obtain ⟨ex, fx⟩ := lgx_s e
  obtain ⟨a1, e0, f0⟩ := lgr_s fx
  obtain ⟨a2, e1, f1⟩ := lgr_s f0
  obtain ⟨x3, e2, f2⟩ := lgi_s f1
  obtain ⟨qe, fe⟩ := pe_s f2
  subst qe
  exact MW.sub (List.forall_mem_cons.mpr ⟨lg_mem ex, List.forall_mem_cons.mpr ⟨lg_mem e0, List.forall_mem_cons.mpr ⟨lg_mem e1, List.forall_mem_cons.mpr ⟨lg_mem e2, fun _ h => absurd h List.not_mem_nil⟩⟩⟩⟩) (t_law_1692 X N hk18 a1 a2 x3 g fe)
theorem tj_law_1715 (X : Nat × (Nat → Int32)) (N : Nat) {q : Int32 × mH} {k18 : Nat → Nat → Int32 → mH → Option (Int32 × mH)} (hk18 : ∀ (a1 : Nat) (a2 : Nat) (x3 : Int32) g, k18 a1 a2 x3 g = some q → MW X y_law 28 18 [(0, .retAddr 0), (1, .ref a1), (2, .ref a2), (3, .int x3)] [] g (some (.int q.1)) q.2) {pc : Nat} {ls : mL} {st : List Value} {g : mH} (e : pc = 1715 ∧ lgx 0 ls (lgr 1 ls fun a1 => lgr 2 ls fun a2 => lgi 3 ls fun x3 => pe st (J_law_1715 X N k18 a1 a2 x3 g)) = some q) : MW X y_law 28 pc ls st g (some (.int q.1)) q.2 := by
  obtain ⟨rfl, e⟩ := e
  obtain ⟨ex, fx⟩ := lgx_s e
  obtain ⟨a1, e0, f0⟩ := lgr_s fx
  obtain ⟨a2, e1, f1⟩ := lgr_s f0
  obtain ⟨x3, e2, f2⟩ := lgi_s f1
  obtain ⟨qe, fe⟩ := pe_s f2
  subst qe
  exact MW.sub (List.forall_mem_cons.mpr ⟨lg_mem ex, List.forall_mem_cons.mpr ⟨lg_mem e0, List.forall_mem_cons.mpr ⟨lg_mem e1, List.forall_mem_cons.mpr ⟨lg_mem e2, fun _ h => absurd h List.not_mem_nil⟩⟩⟩⟩) (t_law_1715 X N hk18 a1 a2 x3 g fe)
theorem tj_law_1738 (X : Nat × (Nat → Int32)) (N : Nat) {q : Int32 × mH} {k18 : Nat → Nat → Int32 → mH → Option (Int32 × mH)} (hk18 : ∀ (a1 : Nat) (a2 : Nat) (x3 : Int32) g, k18 a1 a2 x3 g = some q → MW X y_law 28 18 [(0, .retAddr 0), (1, .ref a1), (2, .ref a2), (3, .int x3)] [] g (some (.int q.1)) q.2) {pc : Nat} {ls : mL} {st : List Value} {g : mH} (e : pc = 1738 ∧ lgx 0 ls (lgr 1 ls fun a1 => lgr 2 ls fun a2 => lgi 3 ls fun x3 => pe st (J_law_1738 X N k18 a1 a2 x3 g)) = some q) : MW X y_law 28 pc ls st g (some (.int q.1)) q.2 := by
  obtain ⟨rfl, e⟩ := e
  obtain ⟨ex, fx⟩ := lgx_s e
  obtain ⟨a1, e0, f0⟩ := lgr_s fx
  obtain ⟨a2, e1, f1⟩ := lgr_s f0
  obtain ⟨x3, e2, f2⟩ := lgi_s f1
  obtain ⟨qe, fe⟩ := pe_s f2
  subst qe
  exact MW.sub (List.forall_mem_cons.mpr ⟨lg_mem ex, List.forall_mem_cons.mpr ⟨lg_mem e0, List.forall_mem_cons.mpr ⟨lg_mem e1, List.forall_mem_cons.mpr ⟨lg_mem e2, fun _ h => absurd h List.not_mem_nil⟩⟩⟩⟩) (t_law_1738 X N hk18 a1 a2 x3 g fe)
theorem tj_law_1781 (X : Nat × (Nat → Int32)) (N : Nat) {q : Int32 × mH} {k18 : Nat → Nat → Int32 → mH → Option (Int32 × mH)} (hk18 : ∀ (a1 : Nat) (a2 : Nat) (x3 : Int32) g, k18 a1 a2 x3 g = some q → MW X y_law 28 18 [(0, .retAddr 0), (1, .ref a1), (2, .ref a2), (3, .int x3)] [] g (some (.int q.1)) q.2) {pc : Nat} {ls : mL} {st : List Value} {g : mH} (e : pc = 1781 ∧ lgx 0 ls (lgr 1 ls fun a1 => lgr 2 ls fun a2 => lgi 3 ls fun x3 => pe st (J_law_1781 X N k18 a1 a2 x3 g)) = some q) : MW X y_law 28 pc ls st g (some (.int q.1)) q.2 := by
  obtain ⟨rfl, e⟩ := e
  obtain ⟨ex, fx⟩ := lgx_s e
  obtain ⟨a1, e0, f0⟩ := lgr_s fx
  obtain ⟨a2, e1, f1⟩ := lgr_s f0
  obtain ⟨x3, e2, f2⟩ := lgi_s f1
  obtain ⟨qe, fe⟩ := pe_s f2
  subst qe
  exact MW.sub (List.forall_mem_cons.mpr ⟨lg_mem ex, List.forall_mem_cons.mpr ⟨lg_mem e0, List.forall_mem_cons.mpr ⟨lg_mem e1, List.forall_mem_cons.mpr ⟨lg_mem e2, fun _ h => absurd h List.not_mem_nil⟩⟩⟩⟩) (t_law_1781 X N hk18 a1 a2 x3 g fe)
theorem tj_law_1814 (X : Nat × (Nat → Int32)) (N : Nat) {q : Int32 × mH} {k18 : Nat → Nat → Int32 → mH → Option (Int32 × mH)} (hk18 : ∀ (a1 : Nat) (a2 : Nat) (x3 : Int32) g, k18 a1 a2 x3 g = some q → MW X y_law 28 18 [(0, .retAddr 0), (1, .ref a1), (2, .ref a2), (3, .int x3)] [] g (some (.int q.1)) q.2) {pc : Nat} {ls : mL} {st : List Value} {g : mH} (e : pc = 1814 ∧ lgx 0 ls (lgr 1 ls fun a1 => lgr 2 ls fun a2 => lgi 3 ls fun x3 => pe st (J_law_1814 X N k18 a1 a2 x3 g)) = some q) : MW X y_law 28 pc ls st g (some (.int q.1)) q.2 := by
  obtain ⟨rfl, e⟩ := e
  obtain ⟨ex, fx⟩ := lgx_s e
  obtain ⟨a1, e0, f0⟩ := lgr_s fx
  obtain ⟨a2, e1, f1⟩ := lgr_s f0
  obtain ⟨x3, e2, f2⟩ := lgi_s f1
  obtain ⟨qe, fe⟩ := pe_s f2
  subst qe
  exact MW.sub (List.forall_mem_cons.mpr ⟨lg_mem ex, List.forall_mem_cons.mpr ⟨lg_mem e0, List.forall_mem_cons.mpr ⟨lg_mem e1, List.forall_mem_cons.mpr ⟨lg_mem e2, fun _ h => absurd h List.not_mem_nil⟩⟩⟩⟩) (t_law_1814 X N hk18 a1 a2 x3 g fe)
theorem tj_law_1837 (X : Nat × (Nat → Int32)) (N : Nat) {q : Int32 × mH} {k18 : Nat → Nat → Int32 → mH → Option (Int32 × mH)} (hk18 : ∀ (a1 : Nat) (a2 : Nat) (x3 : Int32) g, k18 a1 a2 x3 g = some q → MW X y_law 28 18 [(0, .retAddr 0), (1, .ref a1), (2, .ref a2), (3, .int x3)] [] g (some (.int q.1)) q.2) {pc : Nat} {ls : mL} {st : List Value} {g : mH} (e : pc = 1837 ∧ lgx 0 ls (lgr 1 ls fun a1 => lgr 2 ls fun a2 => lgi 3 ls fun x3 => pe st (J_law_1837 X N k18 a1 a2 x3 g)) = some q) : MW X y_law 28 pc ls st g (some (.int q.1)) q.2 := by
  obtain ⟨rfl, e⟩ := e
  obtain ⟨ex, fx⟩ := lgx_s e
  obtain ⟨a1, e0, f0⟩ := lgr_s fx
  obtain ⟨a2, e1, f1⟩ := lgr_s f0
  obtain ⟨x3, e2, f2⟩ := lgi_s f1
  obtain ⟨qe, fe⟩ := pe_s f2
  subst qe
  exact MW.sub (List.forall_mem_cons.mpr ⟨lg_mem ex, List.forall_mem_cons.mpr ⟨lg_mem e0, List.forall_mem_cons.mpr ⟨lg_mem e1, List.forall_mem_cons.mpr ⟨lg_mem e2, fun _ h => absurd h List.not_mem_nil⟩⟩⟩⟩) (t_law_1837 X N hk18 a1 a2 x3 g fe)
theorem tj_law_1880 (X : Nat × (Nat → Int32)) (N : Nat) {q : Int32 × mH} {k18 : Nat → Nat → Int32 → mH → Option (Int32 × mH)} (hk18 : ∀ (a1 : Nat) (a2 : Nat) (x3 : Int32) g, k18 a1 a2 x3 g = some q → MW X y_law 28 18 [(0, .retAddr 0), (1, .ref a1), (2, .ref a2), (3, .int x3)] [] g (some (.int q.1)) q.2) {pc : Nat} {ls : mL} {st : List Value} {g : mH} (e : pc = 1880 ∧ lgx 0 ls (lgr 1 ls fun a1 => lgr 2 ls fun a2 => lgi 3 ls fun x3 => pe st (J_law_1880 X N k18 a1 a2 x3 g)) = some q) : MW X y_law 28 pc ls st g (some (.int q.1)) q.2 := by
  obtain ⟨rfl, e⟩ := e
  obtain ⟨ex, fx⟩ := lgx_s e
  obtain ⟨a1, e0, f0⟩ := lgr_s fx
  obtain ⟨a2, e1, f1⟩ := lgr_s f0
  obtain ⟨x3, e2, f2⟩ := lgi_s f1
  obtain ⟨qe, fe⟩ := pe_s f2
  subst qe
  exact MW.sub (List.forall_mem_cons.mpr ⟨lg_mem ex, List.forall_mem_cons.mpr ⟨lg_mem e0, List.forall_mem_cons.mpr ⟨lg_mem e1, List.forall_mem_cons.mpr ⟨lg_mem e2, fun _ h => absurd h List.not_mem_nil⟩⟩⟩⟩) (t_law_1880 X N hk18 a1 a2 x3 g fe)
theorem tj_law_1913 (X : Nat × (Nat → Int32)) (N : Nat) {q : Int32 × mH} {k18 : Nat → Nat → Int32 → mH → Option (Int32 × mH)} (hk18 : ∀ (a1 : Nat) (a2 : Nat) (x3 : Int32) g, k18 a1 a2 x3 g = some q → MW X y_law 28 18 [(0, .retAddr 0), (1, .ref a1), (2, .ref a2), (3, .int x3)] [] g (some (.int q.1)) q.2) {pc : Nat} {ls : mL} {st : List Value} {g : mH} (e : pc = 1913 ∧ lgx 0 ls (lgr 1 ls fun a1 => lgr 2 ls fun a2 => lgi 3 ls fun x3 => pe st (J_law_1913 X N k18 a1 a2 x3 g)) = some q) : MW X y_law 28 pc ls st g (some (.int q.1)) q.2 := by
  obtain ⟨rfl, e⟩ := e
  obtain ⟨ex, fx⟩ := lgx_s e
  obtain ⟨a1, e0, f0⟩ := lgr_s fx
  obtain ⟨a2, e1, f1⟩ := lgr_s f0
  obtain ⟨x3, e2, f2⟩ := lgi_s f1
  obtain ⟨qe, fe⟩ := pe_s f2
  subst qe
  exact MW.sub (List.forall_mem_cons.mpr ⟨lg_mem ex, List.forall_mem_cons.mpr ⟨lg_mem e0, List.forall_mem_cons.mpr ⟨lg_mem e1, List.forall_mem_cons.mpr ⟨lg_mem e2, fun _ h => absurd h List.not_mem_nil⟩⟩⟩⟩) (t_law_1913 X N hk18 a1 a2 x3 g fe)
theorem tj_law_1936 (X : Nat × (Nat → Int32)) (N : Nat) {q : Int32 × mH} {k18 : Nat → Nat → Int32 → mH → Option (Int32 × mH)} (hk18 : ∀ (a1 : Nat) (a2 : Nat) (x3 : Int32) g, k18 a1 a2 x3 g = some q → MW X y_law 28 18 [(0, .retAddr 0), (1, .ref a1), (2, .ref a2), (3, .int x3)] [] g (some (.int q.1)) q.2) {pc : Nat} {ls : mL} {st : List Value} {g : mH} (e : pc = 1936 ∧ lgx 0 ls (lgr 1 ls fun a1 => lgr 2 ls fun a2 => lgi 3 ls fun x3 => pe st (J_law_1936 X N k18 a1 a2 x3 g)) = some q) : MW X y_law 28 pc ls st g (some (.int q.1)) q.2 := by
  obtain ⟨rfl, e⟩ := e
  obtain ⟨ex, fx⟩ := lgx_s e
  obtain ⟨a1, e0, f0⟩ := lgr_s fx
  obtain ⟨a2, e1, f1⟩ := lgr_s f0
  obtain ⟨x3, e2, f2⟩ := lgi_s f1
  obtain ⟨qe, fe⟩ := pe_s f2
  subst qe
  exact MW.sub (List.forall_mem_cons.mpr ⟨lg_mem ex, List.forall_mem_cons.mpr ⟨lg_mem e0, List.forall_mem_cons.mpr ⟨lg_mem e1, List.forall_mem_cons.mpr ⟨lg_mem e2, fun _ h => absurd h List.not_mem_nil⟩⟩⟩⟩) (t_law_1936 X N hk18 a1 a2 x3 g fe)
theorem tj_law_1999 (X : Nat × (Nat → Int32)) (N : Nat) {q : Int32 × mH} {k18 : Nat → Nat → Int32 → mH → Option (Int32 × mH)} (hk18 : ∀ (a1 : Nat) (a2 : Nat) (x3 : Int32) g, k18 a1 a2 x3 g = some q → MW X y_law 28 18 [(0, .retAddr 0), (1, .ref a1), (2, .ref a2), (3, .int x3)] [] g (some (.int q.1)) q.2) {pc : Nat} {ls : mL} {st : List Value} {g : mH} (e : pc = 1999 ∧ lgx 0 ls (lgr 1 ls fun a1 => lgr 2 ls fun a2 => lgi 3 ls fun x3 => pe st (J_law_1999 X N k18 a1 a2 x3 g)) = some q) : MW X y_law 28 pc ls st g (some (.int q.1)) q.2 := by
  obtain ⟨rfl, e⟩ := e
  obtain ⟨ex, fx⟩ := lgx_s e
  obtain ⟨a1, e0, f0⟩ := lgr_s fx
  obtain ⟨a2, e1, f1⟩ := lgr_s f0
  obtain ⟨x3, e2, f2⟩ := lgi_s f1
  obtain ⟨qe, fe⟩ := pe_s f2
  subst qe
  exact MW.sub (List.forall_mem_cons.mpr ⟨lg_mem ex, List.forall_mem_cons.mpr ⟨lg_mem e0, List.forall_mem_cons.mpr ⟨lg_mem e1, List.forall_mem_cons.mpr ⟨lg_mem e2, fun _ h => absurd h List.not_mem_nil⟩⟩⟩⟩) (t_law_1999 X N hk18 a1 a2 x3 g fe)
theorem tj_law_2042 (X : Nat × (Nat → Int32)) (N : Nat) {q : Int32 × mH} {k18 : Nat → Nat → Int32 → mH → Option (Int32 × mH)} (hk18 : ∀ (a1 : Nat) (a2 : Nat) (x3 : Int32) g, k18 a1 a2 x3 g = some q → MW X y_law 28 18 [(0, .retAddr 0), (1, .ref a1), (2, .ref a2), (3, .int x3)] [] g (some (.int q.1)) q.2) {pc : Nat} {ls : mL} {st : List Value} {g : mH} (e : pc = 2042 ∧ lgx 0 ls (lgr 1 ls fun a1 => lgr 2 ls fun a2 => lgi 3 ls fun x3 => pe st (J_law_2042 X N k18 a1 a2 x3 g)) = some q) : MW X y_law 28 pc ls st g (some (.int q.1)) q.2 := by
  obtain ⟨rfl, e⟩ := e
  obtain ⟨ex, fx⟩ := lgx_s e
  obtain ⟨a1, e0, f0⟩ := lgr_s fx
  obtain ⟨a2, e1, f1⟩ := lgr_s f0
  obtain ⟨x3, e2, f2⟩ := lgi_s f1
  obtain ⟨qe, fe⟩ := pe_s f2
  subst qe
  exact MW.sub (List.forall_mem_cons.mpr ⟨lg_mem ex, List.forall_mem_cons.mpr ⟨lg_mem e0, List.forall_mem_cons.mpr ⟨lg_mem e1, List.forall_mem_cons.mpr ⟨lg_mem e2, fun _ h => absurd h List.not_mem_nil⟩⟩⟩⟩) (t_law_2042 X N hk18 a1 a2 x3 g fe)
theorem tj_law_2116 (X : Nat × (Nat → Int32)) (N : Nat) {q : Int32 × mH} {k18 : Nat → Nat → Int32 → mH → Option (Int32 × mH)} (hk18 : ∀ (a1 : Nat) (a2 : Nat) (x3 : Int32) g, k18 a1 a2 x3 g = some q → MW X y_law 28 18 [(0, .retAddr 0), (1, .ref a1), (2, .ref a2), (3, .int x3)] [] g (some (.int q.1)) q.2) {pc : Nat} {ls : mL} {st : List Value} {g : mH} (e : pc = 2116 ∧ lgx 0 ls (lgr 1 ls fun a1 => lgr 2 ls fun a2 => lgi 3 ls fun x3 => pe st (J_law_2116 X N k18 a1 a2 x3 g)) = some q) : MW X y_law 28 pc ls st g (some (.int q.1)) q.2 := by
  obtain ⟨rfl, e⟩ := e
  obtain ⟨ex, fx⟩ := lgx_s e
  obtain ⟨a1, e0, f0⟩ := lgr_s fx
  obtain ⟨a2, e1, f1⟩ := lgr_s f0
  obtain ⟨x3, e2, f2⟩ := lgi_s f1
  obtain ⟨qe, fe⟩ := pe_s f2
  subst qe
  exact MW.sub (List.forall_mem_cons.mpr ⟨lg_mem ex, List.forall_mem_cons.mpr ⟨lg_mem e0, List.forall_mem_cons.mpr ⟨lg_mem e1, List.forall_mem_cons.mpr ⟨lg_mem e2, fun _ h => absurd h List.not_mem_nil⟩⟩⟩⟩) (t_law_2116 X N hk18 a1 a2 x3 g fe)
theorem tj_law_2169 (X : Nat × (Nat → Int32)) (N : Nat) {q : Int32 × mH} {k18 : Nat → Nat → Int32 → mH → Option (Int32 × mH)} (hk18 : ∀ (a1 : Nat) (a2 : Nat) (x3 : Int32) g, k18 a1 a2 x3 g = some q → MW X y_law 28 18 [(0, .retAddr 0), (1, .ref a1), (2, .ref a2), (3, .int x3)] [] g (some (.int q.1)) q.2) {pc : Nat} {ls : mL} {st : List Value} {g : mH} (e : pc = 2169 ∧ lgx 0 ls (lgr 1 ls fun a1 => lgr 2 ls fun a2 => lgi 3 ls fun x3 => pe st (J_law_2169 X N k18 a1 a2 x3 g)) = some q) : MW X y_law 28 pc ls st g (some (.int q.1)) q.2 := by
  obtain ⟨rfl, e⟩ := e
  obtain ⟨ex, fx⟩ := lgx_s e
  obtain ⟨a1, e0, f0⟩ := lgr_s fx
  obtain ⟨a2, e1, f1⟩ := lgr_s f0
  obtain ⟨x3, e2, f2⟩ := lgi_s f1
  obtain ⟨qe, fe⟩ := pe_s f2
  subst qe
  exact MW.sub (List.forall_mem_cons.mpr ⟨lg_mem ex, List.forall_mem_cons.mpr ⟨lg_mem e0, List.forall_mem_cons.mpr ⟨lg_mem e1, List.forall_mem_cons.mpr ⟨lg_mem e2, fun _ h => absurd h List.not_mem_nil⟩⟩⟩⟩) (t_law_2169 X N hk18 a1 a2 x3 g fe)
theorem tj_law_2192 (X : Nat × (Nat → Int32)) (N : Nat) {q : Int32 × mH} {k18 : Nat → Nat → Int32 → mH → Option (Int32 × mH)} (hk18 : ∀ (a1 : Nat) (a2 : Nat) (x3 : Int32) g, k18 a1 a2 x3 g = some q → MW X y_law 28 18 [(0, .retAddr 0), (1, .ref a1), (2, .ref a2), (3, .int x3)] [] g (some (.int q.1)) q.2) {pc : Nat} {ls : mL} {st : List Value} {g : mH} (e : pc = 2192 ∧ lgx 0 ls (lgr 1 ls fun a1 => lgr 2 ls fun a2 => lgi 3 ls fun x3 => pe st (J_law_2192 X N k18 a1 a2 x3 g)) = some q) : MW X y_law 28 pc ls st g (some (.int q.1)) q.2 := by
  obtain ⟨rfl, e⟩ := e
  obtain ⟨ex, fx⟩ := lgx_s e
  obtain ⟨a1, e0, f0⟩ := lgr_s fx
  obtain ⟨a2, e1, f1⟩ := lgr_s f0
  obtain ⟨x3, e2, f2⟩ := lgi_s f1
  obtain ⟨qe, fe⟩ := pe_s f2
  subst qe
  exact MW.sub (List.forall_mem_cons.mpr ⟨lg_mem ex, List.forall_mem_cons.mpr ⟨lg_mem e0, List.forall_mem_cons.mpr ⟨lg_mem e1, List.forall_mem_cons.mpr ⟨lg_mem e2, fun _ h => absurd h List.not_mem_nil⟩⟩⟩⟩) (t_law_2192 X N hk18 a1 a2 x3 g fe)
theorem tj_law_2215 (X : Nat × (Nat → Int32)) (N : Nat) {q : Int32 × mH} {k18 : Nat → Nat → Int32 → mH → Option (Int32 × mH)} (hk18 : ∀ (a1 : Nat) (a2 : Nat) (x3 : Int32) g, k18 a1 a2 x3 g = some q → MW X y_law 28 18 [(0, .retAddr 0), (1, .ref a1), (2, .ref a2), (3, .int x3)] [] g (some (.int q.1)) q.2) {pc : Nat} {ls : mL} {st : List Value} {g : mH} (e : pc = 2215 ∧ lgx 0 ls (lgr 1 ls fun a1 => lgr 2 ls fun a2 => lgi 3 ls fun x3 => pe st (J_law_2215 X N k18 a1 a2 x3 g)) = some q) : MW X y_law 28 pc ls st g (some (.int q.1)) q.2 := by
  obtain ⟨rfl, e⟩ := e
  obtain ⟨ex, fx⟩ := lgx_s e
  obtain ⟨a1, e0, f0⟩ := lgr_s fx
  obtain ⟨a2, e1, f1⟩ := lgr_s f0
  obtain ⟨x3, e2, f2⟩ := lgi_s f1
  obtain ⟨qe, fe⟩ := pe_s f2
  subst qe
  exact MW.sub (List.forall_mem_cons.mpr ⟨lg_mem ex, List.forall_mem_cons.mpr ⟨lg_mem e0, List.forall_mem_cons.mpr ⟨lg_mem e1, List.forall_mem_cons.mpr ⟨lg_mem e2, fun _ h => absurd h List.not_mem_nil⟩⟩⟩⟩) (t_law_2215 X N hk18 a1 a2 x3 g fe)
theorem tj_law_2238 (X : Nat × (Nat → Int32)) (N : Nat) {q : Int32 × mH} {k18 : Nat → Nat → Int32 → mH → Option (Int32 × mH)} (hk18 : ∀ (a1 : Nat) (a2 : Nat) (x3 : Int32) g, k18 a1 a2 x3 g = some q → MW X y_law 28 18 [(0, .retAddr 0), (1, .ref a1), (2, .ref a2), (3, .int x3)] [] g (some (.int q.1)) q.2) {pc : Nat} {ls : mL} {st : List Value} {g : mH} (e : pc = 2238 ∧ lgx 0 ls (lgr 1 ls fun a1 => lgr 2 ls fun a2 => lgi 3 ls fun x3 => pe st (J_law_2238 X N k18 a1 a2 x3 g)) = some q) : MW X y_law 28 pc ls st g (some (.int q.1)) q.2 := by
  obtain ⟨rfl, e⟩ := e
  obtain ⟨ex, fx⟩ := lgx_s e
  obtain ⟨a1, e0, f0⟩ := lgr_s fx
  obtain ⟨a2, e1, f1⟩ := lgr_s f0
  obtain ⟨x3, e2, f2⟩ := lgi_s f1
  obtain ⟨qe, fe⟩ := pe_s f2
  subst qe
  exact MW.sub (List.forall_mem_cons.mpr ⟨lg_mem ex, List.forall_mem_cons.mpr ⟨lg_mem e0, List.forall_mem_cons.mpr ⟨lg_mem e1, List.forall_mem_cons.mpr ⟨lg_mem e2, fun _ h => absurd h List.not_mem_nil⟩⟩⟩⟩) (t_law_2238 X N hk18 a1 a2 x3 g fe)
theorem tj_law_2261 (X : Nat × (Nat → Int32)) (N : Nat) {q : Int32 × mH} {k18 : Nat → Nat → Int32 → mH → Option (Int32 × mH)} (hk18 : ∀ (a1 : Nat) (a2 : Nat) (x3 : Int32) g, k18 a1 a2 x3 g = some q → MW X y_law 28 18 [(0, .retAddr 0), (1, .ref a1), (2, .ref a2), (3, .int x3)] [] g (some (.int q.1)) q.2) {pc : Nat} {ls : mL} {st : List Value} {g : mH} (e : pc = 2261 ∧ lgx 0 ls (lgr 1 ls fun a1 => lgr 2 ls fun a2 => lgi 3 ls fun x3 => pe st (J_law_2261 X N k18 a1 a2 x3 g)) = some q) : MW X y_law 28 pc ls st g (some (.int q.1)) q.2 := by
  obtain ⟨rfl, e⟩ := e
  obtain ⟨ex, fx⟩ := lgx_s e
  obtain ⟨a1, e0, f0⟩ := lgr_s fx
  obtain ⟨a2, e1, f1⟩ := lgr_s f0
  obtain ⟨x3, e2, f2⟩ := lgi_s f1
  obtain ⟨qe, fe⟩ := pe_s f2
  subst qe
  exact MW.sub (List.forall_mem_cons.mpr ⟨lg_mem ex, List.forall_mem_cons.mpr ⟨lg_mem e0, List.forall_mem_cons.mpr ⟨lg_mem e1, List.forall_mem_cons.mpr ⟨lg_mem e2, fun _ h => absurd h List.not_mem_nil⟩⟩⟩⟩) (t_law_2261 X N hk18 a1 a2 x3 g fe)
set_option maxRecDepth 100000 in
theorem t_law_18 (X : Nat × (Nat → Int32)) (N : Nat) {q : Int32 × mH} : ∀ (n : Nat) (a1 : Nat) (a2 : Nat) (x3 : Int32) (h : mH), L_law_18 X N n a1 a2 x3 h = some q → MW X y_law 28 18 [(0, .retAddr 0), (1, .ref a1), (2, .ref a2), (3, .int x3)] [] h (some (.int q.1)) q.2 := by
  intro n
  induction n with
  | zero => intro a1 a2 x3 h hf; cases hf
  | succ n ih =>
    intro a1 a2 x3 h hf
    refine ev_ok (o := 13) (ini := false) (Cl := C_law_18 N) (Rc := RcZ) (B := B_law) (K := fun pc ls st g => kb pc 272 (lgx 0 ls (lgr 1 ls fun a1 => lgr 2 ls fun a2 => lgi 3 ls fun x3 => pe st (J_law_272 X N (L_law_18 X N n) a1 a2 x3 g))) (kb pc 335 (lgx 0 ls (lgr 1 ls fun a1 => lgr 2 ls fun a2 => lgi 3 ls fun x3 => pe st (J_law_335 X N (L_law_18 X N n) a1 a2 x3 g))) (kb pc 358 (lgx 0 ls (lgr 1 ls fun a1 => lgr 2 ls fun a2 => lgi 3 ls fun x3 => pe st (J_law_358 X N (L_law_18 X N n) a1 a2 x3 g))) (kb pc 381 (lgx 0 ls (lgr 1 ls fun a1 => lgr 2 ls fun a2 => lgi 3 ls fun x3 => pe st (J_law_381 X N (L_law_18 X N n) a1 a2 x3 g))) (kb pc 414 (lgx 0 ls (lgr 1 ls fun a1 => lgr 2 ls fun a2 => lgi 3 ls fun x3 => pe st (J_law_414 X N (L_law_18 X N n) a1 a2 x3 g))) (kb pc 447 (lgx 0 ls (lgr 1 ls fun a1 => lgr 2 ls fun a2 => lgi 3 ls fun x3 => pe st (J_law_447 X N (L_law_18 X N n) a1 a2 x3 g))) (kb pc 470 (lgx 0 ls (lgr 1 ls fun a1 => lgr 2 ls fun a2 => lgi 3 ls fun x3 => pe st (J_law_470 X N (L_law_18 X N n) a1 a2 x3 g))) (kb pc 523 (lgx 0 ls (lgr 1 ls fun a1 => lgr 2 ls fun a2 => lgi 3 ls fun x3 => pe st (J_law_523 X N (L_law_18 X N n) a1 a2 x3 g))) (kb pc 592 (lgx 0 ls (lgr 1 ls fun a1 => lgr 2 ls fun a2 => lgi 3 ls fun x3 => pe st (J_law_592 X N (L_law_18 X N n) a1 a2 x3 g))) (kb pc 625 (lgx 0 ls (lgr 1 ls fun a1 => lgr 2 ls fun a2 => lgi 3 ls fun x3 => pe st (J_law_625 X N (L_law_18 X N n) a1 a2 x3 g))) (kb pc 658 (lgx 0 ls (lgr 1 ls fun a1 => lgr 2 ls fun a2 => lgi 3 ls fun x3 => pe st (J_law_658 X N (L_law_18 X N n) a1 a2 x3 g))) (kb pc 711 (lgx 0 ls (lgr 1 ls fun a1 => lgr 2 ls fun a2 => lgi 3 ls fun x3 => pe st (J_law_711 X N (L_law_18 X N n) a1 a2 x3 g))) (kb pc 774 (lgx 0 ls (lgr 1 ls fun a1 => lgr 2 ls fun a2 => lgi 3 ls fun x3 => pe st (J_law_774 X N (L_law_18 X N n) a1 a2 x3 g))) (kb pc 787 (lgx 0 ls (lgr 1 ls fun a1 => lgr 2 ls fun a2 => lgi 3 ls fun x3 => pe st (J_law_787 X N (L_law_18 X N n) a1 a2 x3 g))) (kb pc 856 (lgx 0 ls (lgr 1 ls fun a1 => lgr 2 ls fun a2 => lgi 3 ls fun x3 => pe st (J_law_856 X N (L_law_18 X N n) a1 a2 x3 g))) (kb pc 899 (lgx 0 ls (lgr 1 ls fun a1 => lgr 2 ls fun a2 => lgi 3 ls fun x3 => pe st (J_law_899 X N (L_law_18 X N n) a1 a2 x3 g))) (kb pc 922 (lgx 0 ls (lgr 1 ls fun a1 => lgr 2 ls fun a2 => lgi 3 ls fun x3 => pe st (J_law_922 X N (L_law_18 X N n) a1 a2 x3 g))) (kb pc 945 (lgx 0 ls (lgr 1 ls fun a1 => lgr 2 ls fun a2 => lgi 3 ls fun x3 => pe st (J_law_945 X N (L_law_18 X N n) a1 a2 x3 g))) (kb pc 988 (lgx 0 ls (lgr 1 ls fun a1 => lgr 2 ls fun a2 => lgi 3 ls fun x3 => pe st (J_law_988 X N (L_law_18 X N n) a1 a2 x3 g))) (kb pc 1011 (lgx 0 ls (lgr 1 ls fun a1 => lgr 2 ls fun a2 => lgi 3 ls fun x3 => pe st (J_law_1011 X N (L_law_18 X N n) a1 a2 x3 g))) (kb pc 1070 (lgx 0 ls (lgr 1 ls fun a1 => lgr 2 ls fun a2 => lgi 3 ls fun x3 => pe st (J_law_1070 X N (L_law_18 X N n) a1 a2 x3 g))) (kb pc 1103 (lgx 0 ls (lgr 1 ls fun a1 => lgr 2 ls fun a2 => lgi 3 ls fun x3 => pe st (J_law_1103 X N (L_law_18 X N n) a1 a2 x3 g))) (kb pc 1156 (lgx 0 ls (lgr 1 ls fun a1 => lgr 2 ls fun a2 => lgi 3 ls fun x3 => pe st (J_law_1156 X N (L_law_18 X N n) a1 a2 x3 g))) (kb pc 1179 (lgx 0 ls (lgr 1 ls fun a1 => lgr 2 ls fun a2 => lgi 3 ls fun x3 => pe st (J_law_1179 X N (L_law_18 X N n) a1 a2 x3 g))) (kb pc 1202 (lgx 0 ls (lgr 1 ls fun a1 => lgr 2 ls fun a2 => lgi 3 ls fun x3 => pe st (J_law_1202 X N (L_law_18 X N n) a1 a2 x3 g))) (kb pc 1225 (lgx 0 ls (lgr 1 ls fun a1 => lgr 2 ls fun a2 => lgi 3 ls fun x3 => pe st (J_law_1225 X N (L_law_18 X N n) a1 a2 x3 g))) (kb pc 1258 (lgx 0 ls (lgr 1 ls fun a1 => lgr 2 ls fun a2 => lgi 3 ls fun x3 => pe st (J_law_1258 X N (L_law_18 X N n) a1 a2 x3 g))) (kb pc 1291 (lgx 0 ls (lgr 1 ls fun a1 => lgr 2 ls fun a2 => lgi 3 ls fun x3 => pe st (J_law_1291 X N (L_law_18 X N n) a1 a2 x3 g))) (kb pc 1314 (lgx 0 ls (lgr 1 ls fun a1 => lgr 2 ls fun a2 => lgi 3 ls fun x3 => pe st (J_law_1314 X N (L_law_18 X N n) a1 a2 x3 g))) (kb pc 1337 (lgx 0 ls (lgr 1 ls fun a1 => lgr 2 ls fun a2 => lgi 3 ls fun x3 => pe st (J_law_1337 X N (L_law_18 X N n) a1 a2 x3 g))) (kb pc 1350 (lgx 0 ls (lgr 1 ls fun a1 => lgr 2 ls fun a2 => lgi 3 ls fun x3 => pe st (J_law_1350 X N (L_law_18 X N n) a1 a2 x3 g))) (kb pc 1373 (lgx 0 ls (lgr 1 ls fun a1 => lgr 2 ls fun a2 => lgi 3 ls fun x3 => pe st (J_law_1373 X N (L_law_18 X N n) a1 a2 x3 g))) (kb pc 1422 (lgx 0 ls (lgr 1 ls fun a1 => lgr 2 ls fun a2 => lgi 3 ls fun x3 => pe st (J_law_1422 X N (L_law_18 X N n) a1 a2 x3 g))) (kb pc 1455 (lgx 0 ls (lgr 1 ls fun a1 => lgr 2 ls fun a2 => lgi 3 ls fun x3 => pe st (J_law_1455 X N (L_law_18 X N n) a1 a2 x3 g))) (kb pc 1498 (lgx 0 ls (lgr 1 ls fun a1 => lgr 2 ls fun a2 => lgi 3 ls fun x3 => pe st (J_law_1498 X N (L_law_18 X N n) a1 a2 x3 g))) (kb pc 1531 (lgx 0 ls (lgr 1 ls fun a1 => lgr 2 ls fun a2 => lgi 3 ls fun x3 => pe st (J_law_1531 X N (L_law_18 X N n) a1 a2 x3 g))) (kb pc 1574 (lgx 0 ls (lgr 1 ls fun a1 => lgr 2 ls fun a2 => lgi 3 ls fun x3 => pe st (J_law_1574 X N (L_law_18 X N n) a1 a2 x3 g))) (kb pc 1607 (lgx 0 ls (lgr 1 ls fun a1 => lgr 2 ls fun a2 => lgi 3 ls fun x3 => pe st (J_law_1607 X N (L_law_18 X N n) a1 a2 x3 g))) (kb pc 1656 (lgx 0 ls (lgr 1 ls fun a1 => lgr 2 ls fun a2 => lgi 3 ls fun x3 => pe st (J_law_1656 X N (L_law_18 X N n) a1 a2 x3 g))) (kb pc 1669 (lgx 0 ls (lgr 1 ls fun a1 => lgr 2 ls fun a2 => lgi 3 ls fun x3 => pe st (J_law_1669 X N (L_law_18 X N n) a1 a2 x3 g))) (kb pc 1692 (lgx 0 ls (lgr 1 ls fun a1 => lgr 2 ls fun a2 => lgi 3 ls fun x3 => pe st (J_law_1692 X N (L_law_18 X N n) a1 a2 x3 g))) (kb pc 1715 (lgx 0 ls (lgr 1 ls fun a1 => lgr 2 ls fun a2 => lgi 3 ls fun x3 => pe st (J_law_1715 X N (L_law_18 X N n) a1 a2 x3 g))) (kb pc 1738 (lgx 0 ls (lgr 1 ls fun a1 => lgr 2 ls fun a2 => lgi 3 ls fun x3 => pe st (J_law_1738 X N (L_law_18 X N n) a1 a2 x3 g))) (kb pc 1781 (lgx 0 ls (lgr 1 ls fun a1 => lgr 2 ls fun a2 => lgi 3 ls fun x3 => pe st (J_law_1781 X N (L_law_18 X N n) a1 a2 x3 g))) (kb pc 1814 (lgx 0 ls (lgr 1 ls fun a1 => lgr 2 ls fun a2 => lgi 3 ls fun x3 => pe st (J_law_1814 X N (L_law_18 X N n) a1 a2 x3 g))) (kb pc 1837 (lgx 0 ls (lgr 1 ls fun a1 => lgr 2 ls fun a2 => lgi 3 ls fun x3 => pe st (J_law_1837 X N (L_law_18 X N n) a1 a2 x3 g))) (kb pc 1880 (lgx 0 ls (lgr 1 ls fun a1 => lgr 2 ls fun a2 => lgi 3 ls fun x3 => pe st (J_law_1880 X N (L_law_18 X N n) a1 a2 x3 g))) (kb pc 1913 (lgx 0 ls (lgr 1 ls fun a1 => lgr 2 ls fun a2 => lgi 3 ls fun x3 => pe st (J_law_1913 X N (L_law_18 X N n) a1 a2 x3 g))) (kb pc 1936 (lgx 0 ls (lgr 1 ls fun a1 => lgr 2 ls fun a2 => lgi 3 ls fun x3 => pe st (J_law_1936 X N (L_law_18 X N n) a1 a2 x3 g))) (kb pc 1999 (lgx 0 ls (lgr 1 ls fun a1 => lgr 2 ls fun a2 => lgi 3 ls fun x3 => pe st (J_law_1999 X N (L_law_18 X N n) a1 a2 x3 g))) (kb pc 2042 (lgx 0 ls (lgr 1 ls fun a1 => lgr 2 ls fun a2 => lgi 3 ls fun x3 => pe st (J_law_2042 X N (L_law_18 X N n) a1 a2 x3 g))) (kb pc 2116 (lgx 0 ls (lgr 1 ls fun a1 => lgr 2 ls fun a2 => lgi 3 ls fun x3 => pe st (J_law_2116 X N (L_law_18 X N n) a1 a2 x3 g))) (kb pc 2169 (lgx 0 ls (lgr 1 ls fun a1 => lgr 2 ls fun a2 => lgi 3 ls fun x3 => pe st (J_law_2169 X N (L_law_18 X N n) a1 a2 x3 g))) (kb pc 2192 (lgx 0 ls (lgr 1 ls fun a1 => lgr 2 ls fun a2 => lgi 3 ls fun x3 => pe st (J_law_2192 X N (L_law_18 X N n) a1 a2 x3 g))) (kb pc 2215 (lgx 0 ls (lgr 1 ls fun a1 => lgr 2 ls fun a2 => lgi 3 ls fun x3 => pe st (J_law_2215 X N (L_law_18 X N n) a1 a2 x3 g))) (kb pc 2238 (lgx 0 ls (lgr 1 ls fun a1 => lgr 2 ls fun a2 => lgi 3 ls fun x3 => pe st (J_law_2238 X N (L_law_18 X N n) a1 a2 x3 g))) (kb pc 2261 (lgx 0 ls (lgr 1 ls fun a1 => lgr 2 ls fun a2 => lgi 3 ls fun x3 => pe st (J_law_2261 X N (L_law_18 X N n) a1 a2 x3 g))) (none)))))))))))))))))))))))))))))))))))))))))))))))))))))))))) rfl (fun e => by cases e) (by decide) (rcZ_ok rfl) ?_ (co_law_18 N q) lb_law 3000 18 S_law_18 _ _ h ls_law_18 hf
    intro pc ls st g e
    rcases kb_s e with e | e
    · exact tj_law_272 X N (fun a1 a2 x3 g e => ih a1 a2 x3 g e) e
    rcases kb_s e with e | e
    · exact tj_law_335 X N (fun a1 a2 x3 g e => ih a1 a2 x3 g e) e
    rcases kb_s e with e | e
    · exact tj_law_358 X N (fun a1 a2 x3 g e => ih a1 a2 x3 g e) e
    rcases kb_s e with e | e
    · exact tj_law_381 X N (fun a1 a2 x3 g e => ih a1 a2 x3 g e) e
    rcases kb_s e with e | e
    · exact tj_law_414 X N (fun a1 a2 x3 g e => ih a1 a2 x3 g e) e
    rcases kb_s e with e | e
    · exact tj_law_447 X N (fun a1 a2 x3 g e => ih a1 a2 x3 g e) e
    rcases kb_s e with e | e
    · exact tj_law_470 X N (fun a1 a2 x3 g e => ih a1 a2 x3 g e) e
    rcases kb_s e with e | e
    · exact tj_law_523 X N (fun a1 a2 x3 g e => ih a1 a2 x3 g e) e
    rcases kb_s e with e | e
    · exact tj_law_592 X N (fun a1 a2 x3 g e => ih a1 a2 x3 g e) e
    rcases kb_s e with e | e
    · exact tj_law_625 X N (fun a1 a2 x3 g e => ih a1 a2 x3 g e) e
    rcases kb_s e with e | e
    · exact tj_law_658 X N (fun a1 a2 x3 g e => ih a1 a2 x3 g e) e
    rcases kb_s e with e | e
    · exact tj_law_711 X N (fun a1 a2 x3 g e => ih a1 a2 x3 g e) e
    rcases kb_s e with e | e
    · exact tj_law_774 X N (fun a1 a2 x3 g e => ih a1 a2 x3 g e) e
    rcases kb_s e with e | e
    · exact tj_law_787 X N (fun a1 a2 x3 g e => ih a1 a2 x3 g e) e
    rcases kb_s e with e | e
    · exact tj_law_856 X N (fun a1 a2 x3 g e => ih a1 a2 x3 g e) e
    rcases kb_s e with e | e
    · exact tj_law_899 X N (fun a1 a2 x3 g e => ih a1 a2 x3 g e) e
    rcases kb_s e with e | e
    · exact tj_law_922 X N (fun a1 a2 x3 g e => ih a1 a2 x3 g e) e
    rcases kb_s e with e | e
    · exact tj_law_945 X N (fun a1 a2 x3 g e => ih a1 a2 x3 g e) e
    rcases kb_s e with e | e
    · exact tj_law_988 X N (fun a1 a2 x3 g e => ih a1 a2 x3 g e) e
    rcases kb_s e with e | e
    · exact tj_law_1011 X N (fun a1 a2 x3 g e => ih a1 a2 x3 g e) e
    rcases kb_s e with e | e
    · exact tj_law_1070 X N (fun a1 a2 x3 g e => ih a1 a2 x3 g e) e
    rcases kb_s e with e | e
    · exact tj_law_1103 X N (fun a1 a2 x3 g e => ih a1 a2 x3 g e) e
    rcases kb_s e with e | e
    · exact tj_law_1156 X N (fun a1 a2 x3 g e => ih a1 a2 x3 g e) e
    rcases kb_s e with e | e
    · exact tj_law_1179 X N (fun a1 a2 x3 g e => ih a1 a2 x3 g e) e
    rcases kb_s e with e | e
    · exact tj_law_1202 X N (fun a1 a2 x3 g e => ih a1 a2 x3 g e) e
    rcases kb_s e with e | e
    · exact tj_law_1225 X N (fun a1 a2 x3 g e => ih a1 a2 x3 g e) e
    rcases kb_s e with e | e
    · exact tj_law_1258 X N (fun a1 a2 x3 g e => ih a1 a2 x3 g e) e
    rcases kb_s e with e | e
    · exact tj_law_1291 X N (fun a1 a2 x3 g e => ih a1 a2 x3 g e) e
    rcases kb_s e with e | e
    · exact tj_law_1314 X N (fun a1 a2 x3 g e => ih a1 a2 x3 g e) e
    rcases kb_s e with e | e
    · exact tj_law_1337 X N (fun a1 a2 x3 g e => ih a1 a2 x3 g e) e
    rcases kb_s e with e | e
    · exact tj_law_1350 X N (fun a1 a2 x3 g e => ih a1 a2 x3 g e) e
    rcases kb_s e with e | e
    · exact tj_law_1373 X N (fun a1 a2 x3 g e => ih a1 a2 x3 g e) e
    rcases kb_s e with e | e
    · exact tj_law_1422 X N (fun a1 a2 x3 g e => ih a1 a2 x3 g e) e
    rcases kb_s e with e | e
    · exact tj_law_1455 X N (fun a1 a2 x3 g e => ih a1 a2 x3 g e) e
    rcases kb_s e with e | e
    · exact tj_law_1498 X N (fun a1 a2 x3 g e => ih a1 a2 x3 g e) e
    rcases kb_s e with e | e
    · exact tj_law_1531 X N (fun a1 a2 x3 g e => ih a1 a2 x3 g e) e
    rcases kb_s e with e | e
    · exact tj_law_1574 X N (fun a1 a2 x3 g e => ih a1 a2 x3 g e) e
    rcases kb_s e with e | e
    · exact tj_law_1607 X N (fun a1 a2 x3 g e => ih a1 a2 x3 g e) e
    rcases kb_s e with e | e
    · exact tj_law_1656 X N (fun a1 a2 x3 g e => ih a1 a2 x3 g e) e
    rcases kb_s e with e | e
    · exact tj_law_1669 X N (fun a1 a2 x3 g e => ih a1 a2 x3 g e) e
    rcases kb_s e with e | e
    · exact tj_law_1692 X N (fun a1 a2 x3 g e => ih a1 a2 x3 g e) e
    rcases kb_s e with e | e
    · exact tj_law_1715 X N (fun a1 a2 x3 g e => ih a1 a2 x3 g e) e
    rcases kb_s e with e | e
    · exact tj_law_1738 X N (fun a1 a2 x3 g e => ih a1 a2 x3 g e) e
    rcases kb_s e with e | e
    · exact tj_law_1781 X N (fun a1 a2 x3 g e => ih a1 a2 x3 g e) e
    rcases kb_s e with e | e
    · exact tj_law_1814 X N (fun a1 a2 x3 g e => ih a1 a2 x3 g e) e
    rcases kb_s e with e | e
    · exact tj_law_1837 X N (fun a1 a2 x3 g e => ih a1 a2 x3 g e) e
    rcases kb_s e with e | e
    · exact tj_law_1880 X N (fun a1 a2 x3 g e => ih a1 a2 x3 g e) e
    rcases kb_s e with e | e
    · exact tj_law_1913 X N (fun a1 a2 x3 g e => ih a1 a2 x3 g e) e
    rcases kb_s e with e | e
    · exact tj_law_1936 X N (fun a1 a2 x3 g e => ih a1 a2 x3 g e) e
    rcases kb_s e with e | e
    · exact tj_law_1999 X N (fun a1 a2 x3 g e => ih a1 a2 x3 g e) e
    rcases kb_s e with e | e
    · exact tj_law_2042 X N (fun a1 a2 x3 g e => ih a1 a2 x3 g e) e
    rcases kb_s e with e | e
    · exact tj_law_2116 X N (fun a1 a2 x3 g e => ih a1 a2 x3 g e) e
    rcases kb_s e with e | e
    · exact tj_law_2169 X N (fun a1 a2 x3 g e => ih a1 a2 x3 g e) e
    rcases kb_s e with e | e
    · exact tj_law_2192 X N (fun a1 a2 x3 g e => ih a1 a2 x3 g e) e
    rcases kb_s e with e | e
    · exact tj_law_2215 X N (fun a1 a2 x3 g e => ih a1 a2 x3 g e) e
    rcases kb_s e with e | e
    · exact tj_law_2238 X N (fun a1 a2 x3 g e => ih a1 a2 x3 g e) e
    rcases kb_s e with e | e
    · exact tj_law_2261 X N (fun a1 a2 x3 g e => ih a1 a2 x3 g e) e
    cases e
set_option maxRecDepth 100000 in
theorem m_law (X : Nat × (Nat → Int32)) (N : Nat) {h : mH} {q : Int32 × mH} (hf : f_law X N h = some q) : MW X y_law 28 0 [(0, .retAddr 0)] [] h (some (.int q.1)) q.2 := by
  refine ev_ok (o := 13) (ini := false) (Cl := C_law_0 N) (Rc := RcZ) (B := B_law) (K := fun pc ls st g => kb pc 18 (lgx 0 ls (lgr 1 ls fun a1 => lgr 2 ls fun a2 => lgi 3 ls fun x3 => pe st (L_law_18 X N N a1 a2 x3 g))) (none)) rfl (fun e => by cases e) (by decide) (rcZ_ok rfl) ?_ (co_law_0 N q) lb_law 3000 0 S_law_0 _ _ h ls_law_0 hf
  intro pc ls st g e
  rcases kb_s e with ⟨rfl, e⟩ | e
  · obtain ⟨ex, fx⟩ := lgx_s e
    obtain ⟨a1, e0, f0⟩ := lgr_s fx
    obtain ⟨a2, e1, f1⟩ := lgr_s f0
    obtain ⟨x3, e2, f2⟩ := lgi_s f1
    obtain ⟨qe, fe⟩ := pe_s f2
    subst qe
    exact MW.sub (List.forall_mem_cons.mpr ⟨lg_mem ex, List.forall_mem_cons.mpr ⟨lg_mem e0, List.forall_mem_cons.mpr ⟨lg_mem e1, List.forall_mem_cons.mpr ⟨lg_mem e2, fun _ h => absurd h List.not_mem_nil⟩⟩⟩⟩) (t_law_18 X N N a1 a2 x3 g fe)
  cases e
