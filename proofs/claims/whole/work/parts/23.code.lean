/-! printed by wip/whole/gen_code.py: the functions of methods 80 to 119 (leaves first), and their contracts -/
def L_J7_fill_d0a16_6 (N : Nat) : Nat → Nat → Int64 → Int32 → Int32 → mH → Option (mH)
  | 0, _, _, _, _, _ => none
  | n + 1, a0, l1, x3, x4, h =>
    if x3 < x4 then
      (stL h a0 x3 l1).bind fun h1 =>
      let w2 := iAdd x3 (jI 1)
      L_J7_fill_d0a16_6 N n a0 l1 w2 x4 h1
    else
      some h
def f_J7_fill_d0a16 (N : Nat) (a0 : Nat) (l1 : Int64) (h : mH) : Option (mH) :=
  (lnA h a0).bind fun v1 =>
  L_J7_fill_d0a16_6 N N a0 l1 (jI 0) v1 h
def y_J7_fill_d0a16 : mM := (yJ7_fill_d0a16, cJ7_fill_d0a16, 5, none)
def B_J7_fill_d0a16 : List (Nat × List mI) := [(22, [(.return_, 1, [], [])])]
def S_J7_fill_d0a16_0 : List mI := [(.iconst 0, 1, [], [0]), (.istore_n 3, 1, [3], []), (.aload_n 0, 1, [0], []), (.arraylength, 1, [0], []), (.istore 4, 2, [4], [])]
def S_J7_fill_d0a16_6 : List mI := [(.iload_n 3, 1, [3], []), (.iload 4, 2, [4], []), (.if_icmp .ge 13, 3, [22], []), (.aload_n 0, 1, [0], []), (.iload_n 3, 1, [3], []), (.lload_n 1, 1, [1], []), (.lastore, 1, [], []), (.iinc 3 1, 3, [3], [1]), (.goto (-13), 3, [6], [])]
theorem lb_J7_fill_d0a16 : B_J7_fill_d0a16.all (fun b => lst y_J7_fill_d0a16.2.1 16 y_J7_fill_d0a16.2.2.1 false b.1 b.2) = true := by decide +kernel
theorem ls_J7_fill_d0a16_0 : lst y_J7_fill_d0a16.2.1 16 y_J7_fill_d0a16.2.2.1 false 0 S_J7_fill_d0a16_0 = true := by decide +kernel
theorem ls_J7_fill_d0a16_6 : lst y_J7_fill_d0a16.2.1 16 y_J7_fill_d0a16.2.2.1 false 6 S_J7_fill_d0a16_6 = true := by decide +kernel
def C_J7_fill_d0a16 (N : Nat) : Nat → List Value → mH → (Option Value → mH → Option (mH)) → Option (mH) := fun j as g k => none
theorem co_J7_fill_d0a16 (N : Nat) (q : mH) : clOK 4 q (C_J7_fill_d0a16 N) := by
  intro j as g k e
  cases e
set_option maxRecDepth 100000 in
theorem t_J7_fill_d0a16_6 {X : Nat × (Nat → Int32)} (N : Nat) {q : mH} : ∀ (n : Nat) (a0 : Nat) (l1 : Int64) (x3 : Int32) (x4 : Int32) (h : mH), L_J7_fill_d0a16_6 N n a0 l1 x3 x4 h = some q → MW X y_J7_fill_d0a16 4 6 [(0, .ref a0), (1, .long l1), (3, .int x3), (4, .int x4)] [] h none q := by
  intro n
  induction n with
  | zero => intro a0 l1 x3 x4 h hf; cases hf
  | succ n ih =>
    intro a0 l1 x3 x4 h hf
    refine ev_ok (o := 16) (ini := false) (Cl := C_J7_fill_d0a16 N) (Rc := RcV) (B := B_J7_fill_d0a16) (K := fun pc ls st g => kb pc 6 (lgr 0 ls fun a0 => lgl_ 1 ls fun l1 => lgi 3 ls fun x3 => lgi 4 ls fun x4 => pe st (L_J7_fill_d0a16_6 N n a0 l1 x3 x4 g)) (none)) rfl (fun e => by cases e) (by decide) (rcV_ok rfl) ?_ (co_J7_fill_d0a16 N q) lb_J7_fill_d0a16 3000 6 S_J7_fill_d0a16_6 _ _ h ls_J7_fill_d0a16_6 hf
    intro pc ls st g e
    rcases kb_s e with ⟨rfl, e⟩ | e
    · obtain ⟨a0, e0, f0⟩ := lgr_s e
      obtain ⟨l1, e1, f1⟩ := lgl_s f0
      obtain ⟨x3, e2, f2⟩ := lgi_s f1
      obtain ⟨x4, e3, f3⟩ := lgi_s f2
      obtain ⟨qe, fe⟩ := pe_s f3
      subst qe
      exact MW.sub (List.forall_mem_cons.mpr ⟨lg_mem e0, List.forall_mem_cons.mpr ⟨lg_mem e1, List.forall_mem_cons.mpr ⟨lg_mem e2, List.forall_mem_cons.mpr ⟨lg_mem e3, fun _ h => absurd h List.not_mem_nil⟩⟩⟩⟩) (ih a0 l1 x3 x4 g fe)
    cases e
set_option maxRecDepth 100000 in
theorem m_J7_fill_d0a16 (N : Nat) {a0 : Nat} {l1 : Int64} {h : mH} {q : mH} (hf : f_J7_fill_d0a16 N a0 l1 h = some q) : MM y_J7_fill_d0a16 4 [.ref a0, .long l1] h none q := by
  refine MM.of (mFx (j := 348) rfl).2.2.2.1 (Nat.le_of_ble_eq_true rfl) (fun X => ?_)
  refine ev_ok (o := 16) (ini := false) (Cl := C_J7_fill_d0a16 N) (Rc := RcV) (B := B_J7_fill_d0a16) (K := fun pc ls st g => kb pc 6 (lgr 0 ls fun a0 => lgl_ 1 ls fun l1 => lgi 3 ls fun x3 => lgi 4 ls fun x4 => pe st (L_J7_fill_d0a16_6 N N a0 l1 x3 x4 g)) (none)) rfl (fun e => by cases e) (by decide) (rcV_ok rfl) ?_ (co_J7_fill_d0a16 N q) lb_J7_fill_d0a16 3000 0 S_J7_fill_d0a16_0 _ _ h ls_J7_fill_d0a16_0 hf
  intro pc ls st g e
  rcases kb_s e with ⟨rfl, e⟩ | e
  · obtain ⟨a0, e0, f0⟩ := lgr_s e
    obtain ⟨l1, e1, f1⟩ := lgl_s f0
    obtain ⟨x3, e2, f2⟩ := lgi_s f1
    obtain ⟨x4, e3, f3⟩ := lgi_s f2
    obtain ⟨qe, fe⟩ := pe_s f3
    subst qe
    exact MW.sub (List.forall_mem_cons.mpr ⟨lg_mem e0, List.forall_mem_cons.mpr ⟨lg_mem e1, List.forall_mem_cons.mpr ⟨lg_mem e2, List.forall_mem_cons.mpr ⟨lg_mem e3, fun _ h => absurd h List.not_mem_nil⟩⟩⟩⟩) (t_J7_fill_d0a16_6 N N a0 l1 x3 x4 g fe)
  cases e
def f_X5_begin (N : Nat) (a0 : Nat) (x1 : Int32) (x2 : Int32) (h : mH) : Option (mH) :=
  (pV h 5 a0 1 (.int x1)).bind fun h1 =>
  (pV h1 5 a0 0 (.int (iMin x2 (jI 40)))).bind fun h2 =>
  (gR h2 5 a0 2).bind fun v3 =>
  (f_J7_fill_d0a16 N v3 (jL 0) h2).bind fun h4 =>
  some h4
def y_X5_begin : mM := (yX5_begin, cX5_begin, 3, none)
def B_X5_begin : List (Nat × List mI) := []
def S_X5_begin_0 : List mI := [(.aload_n 0, 1, [0], []), (.iload_n 1, 1, [1], []), (.putfield 19, 3, [5, 1, 0, 72], []), (.aload_n 0, 1, [0], []), (.iload_n 2, 1, [2], []), (.bipush 40, 2, [], [40]), (.invokestatic 22, 3, [7, 0, 0, 0, 35], []), (.putfield 15, 3, [5, 0, 0, 68], []), (.aload_n 0, 1, [0], []), (.getfield 11, 3, [5, 2, 2, 73], []), (.lconst 0, 1, [], [0]), (.invokestatic 28, 3, [1, 348, 2, 0, 252], []), (.return_, 1, [], [])]
theorem lb_X5_begin : B_X5_begin.all (fun b => lst y_X5_begin.2.1 5 y_X5_begin.2.2.1 false b.1 b.2) = true := by decide +kernel
theorem ls_X5_begin_0 : lst y_X5_begin.2.1 5 y_X5_begin.2.2.1 false 0 S_X5_begin_0 = true := by decide +kernel
def C_X5_begin (N : Nat) : Nat → List Value → mH → (Option Value → mH → Option (mH)) → Option (mH) := fun j as g k => kb j 348 (pr1 as fun b0 as => pl1 as fun b1 as => pe as ((f_J7_fill_d0a16 N b0 b1 g).bind fun p => k none p)) (none)
theorem co_X5_begin (N : Nat) (q : mH) : clOK 5 q (C_X5_begin N) := by
  intro j as g k e
  rcases kb_s e with ⟨rfl, e⟩ | e
  · obtain ⟨b0, r0, q0, f0⟩ := pr1_s e
    obtain ⟨b1, r1, q1, f1⟩ := pl1_s f0
    obtain ⟨qe, fe⟩ := pe_s f1
    obtain ⟨p, e1, e2⟩ := bnd_s fe
    subst qe
    subst q1
    subst q0
    exact ⟨_, _, _, _, 4, rfl, (by decide), m_J7_fill_d0a16 N e1, e2⟩
  cases e
set_option maxRecDepth 100000 in
theorem m_X5_begin (N : Nat) {a0 : Nat} {x1 : Int32} {x2 : Int32} {h : mH} {q : mH} (hf : f_X5_begin N a0 x1 x2 h = some q) : MM y_X5_begin 5 [.ref a0, .int x1, .int x2] h none q := by
  refine MM.of (mFx (j := 72) rfl).2.2.2.1 (Nat.le_of_ble_eq_true rfl) (fun X => ?_)
  refine ev_ok (o := 5) (ini := false) (Cl := C_X5_begin N) (Rc := RcV) (B := B_X5_begin) (K := fun pc ls st g => none) rfl (fun e => by cases e) (by decide) (rcV_ok rfl) ?_ (co_X5_begin N q) lb_X5_begin 3000 0 S_X5_begin_0 _ _ h ls_X5_begin_0 hf
  intro pc ls st g e
  cases e
def f_X5_cut (N : Nat) (a0 : Nat) (l1 : Int64) (h : mH) : Option (Int64 × mH) :=
  (gI h 5 a0 1).bind fun v1 =>
  if v1 = jI 0 then
    some ((iByt l1.toInt32).toInt64, h)
  else
  if v1 = jI 1 then
    some ((iSho l1.toInt32).toInt64, h)
  else
  if v1 = jI 2 then
    some (l1.toInt32.toInt64, h)
  else
  some (l1, h)
def y_X5_cut : mM := (yX5_cut, cX5_cut, 3, (some .long))
def B_X5_cut : List (Nat × List mI) := [(32, [(.lload_n 1, 1, [1], []), (.l2i, 1, [], []), (.i2b, 1, [], []), (.i2l, 1, [], []), (.lreturn, 1, [], [])]), (37, [(.lload_n 1, 1, [1], []), (.l2i, 1, [], []), (.i2s, 1, [], []), (.i2l, 1, [], []), (.lreturn, 1, [], [])]), (42, [(.lload_n 1, 1, [1], []), (.l2i, 1, [], []), (.i2l, 1, [], []), (.lreturn, 1, [], [])]), (46, [(.lload_n 1, 1, [1], []), (.lreturn, 1, [], [])])]
def S_X5_cut_0 : List mI := [(.aload_n 0, 1, [0], []), (.getfield 19, 3, [5, 1, 0, 72], []), (.tableswitch 42 0 2 #[28, 33, 38], 28, [46, 32, 37, 42], [0, 1, 2])]
theorem lb_X5_cut : B_X5_cut.all (fun b => lst y_X5_cut.2.1 5 y_X5_cut.2.2.1 false b.1 b.2) = true := by decide +kernel
theorem ls_X5_cut_0 : lst y_X5_cut.2.1 5 y_X5_cut.2.2.1 false 0 S_X5_cut_0 = true := by decide +kernel
def C_X5_cut (N : Nat) : Nat → List Value → mH → (Option Value → mH → Option (Int64 × mH)) → Option (Int64 × mH) := fun j as g k => none
theorem co_X5_cut (N : Nat) (q : Int64 × mH) : clOK 4 q (C_X5_cut N) := by
  intro j as g k e
  cases e
set_option maxRecDepth 100000 in
theorem m_X5_cut (N : Nat) {a0 : Nat} {l1 : Int64} {h : mH} {q : Int64 × mH} (hf : f_X5_cut N a0 l1 h = some q) : MM y_X5_cut 4 [.ref a0, .long l1] h (some (.long q.1)) q.2 := by
  refine MM.of (mFx (j := 74) rfl).2.2.2.1 (Nat.le_of_ble_eq_true rfl) (fun X => ?_)
  refine ev_ok (o := 5) (ini := false) (Cl := C_X5_cut N) (Rc := RcJ) (B := B_X5_cut) (K := fun pc ls st g => none) rfl (fun e => by cases e) (by decide) (rcJ_ok rfl) ?_ (co_X5_cut N q) lb_X5_cut 3000 0 S_X5_cut_0 _ _ h ls_X5_cut_0 hf
  intro pc ls st g e
  cases e
def f_X5_put (N : Nat) (a0 : Nat) (x1 : Int32) (l2 : Int64) (h : mH) : Option (Int64 × mH) :=
  if x1 < 0 then
    some (jL 0, h)
  else
    (gI h 5 a0 0).bind fun v1 =>
    if x1 < v1 then
      (gR h 5 a0 2).bind fun v2 =>
      (rcv h 5 a0).bind fun _ =>
      (f_X5_cut N a0 l2 h).bind fun p3 =>
      (stL p3.2 v2 x1 p3.1).bind fun h4 =>
      (gR h4 5 a0 2).bind fun v5 =>
      (ldL h4 v5 x1).bind fun v6 =>
      some (v6, h4)
    else
      some (jL 0, h)
def y_X5_put : mM := (yX5_put, cX5_put, 4, (some .long))
def B_X5_put : List (Nat × List mI) := [(12, [(.lconst 0, 1, [], [0]), (.lreturn, 1, [], [])]), (14, [(.aload_n 0, 1, [0], []), (.getfield 11, 3, [5, 2, 2, 73], []), (.iload_n 1, 1, [1], []), (.aload_n 0, 1, [0], []), (.lload_n 2, 1, [2], []), (.invokevirtual 34, 3, [0, 74, 1, 5, 255], []), (.lastore, 1, [], []), (.aload_n 0, 1, [0], []), (.getfield 11, 3, [5, 2, 2, 73], []), (.iload_n 1, 1, [1], []), (.laload, 1, [], []), (.lreturn, 1, [], [])])]
def S_X5_put_0 : List mI := [(.iload_n 1, 1, [1], []), (.ifCond .lt 11, 3, [12], []), (.iload_n 1, 1, [1], []), (.aload_n 0, 1, [0], []), (.getfield 15, 3, [5, 0, 0, 68], []), (.if_icmp .lt 5, 3, [14], [])]
theorem lb_X5_put : B_X5_put.all (fun b => lst y_X5_put.2.1 5 y_X5_put.2.2.1 false b.1 b.2) = true := by decide +kernel
theorem ls_X5_put_0 : lst y_X5_put.2.1 5 y_X5_put.2.2.1 false 0 S_X5_put_0 = true := by decide +kernel
def C_X5_put (N : Nat) : Nat → List Value → mH → (Option Value → mH → Option (Int64 × mH)) → Option (Int64 × mH) := fun j as g k => kb j 74 (pr1 as fun b0 as => pl1 as fun b1 as => pe as ((f_X5_cut N b0 b1 g).bind fun p => k (some (.long p.1)) p.2)) (none)
theorem co_X5_put (N : Nat) (q : Int64 × mH) : clOK 5 q (C_X5_put N) := by
  intro j as g k e
  rcases kb_s e with ⟨rfl, e⟩ | e
  · obtain ⟨b0, r0, q0, f0⟩ := pr1_s e
    obtain ⟨b1, r1, q1, f1⟩ := pl1_s f0
    obtain ⟨qe, fe⟩ := pe_s f1
    obtain ⟨p, e1, e2⟩ := bnd_s fe
    subst qe
    subst q1
    subst q0
    exact ⟨_, _, _, _, 4, rfl, (by decide), m_X5_cut N e1, e2⟩
  cases e
set_option maxRecDepth 100000 in
theorem m_X5_put (N : Nat) {a0 : Nat} {x1 : Int32} {l2 : Int64} {h : mH} {q : Int64 × mH} (hf : f_X5_put N a0 x1 l2 h = some q) : MM y_X5_put 5 [.ref a0, .int x1, .long l2] h (some (.long q.1)) q.2 := by
  refine MM.of (mFx (j := 73) rfl).2.2.2.1 (Nat.le_of_ble_eq_true rfl) (fun X => ?_)
  refine ev_ok (o := 5) (ini := false) (Cl := C_X5_put N) (Rc := RcJ) (B := B_X5_put) (K := fun pc ls st g => none) rfl (fun e => by cases e) (by decide) (rcJ_ok rfl) ?_ (co_X5_put N q) lb_X5_put 3000 0 S_X5_put_0 _ _ h ls_X5_put_0 hf
  intro pc ls st g e
  cases e
def L_X5_allWithin_3 (N : Nat) : Nat → Nat → Int64 → Int64 → Int32 → mH → Option (Int32 × mH)
  | 0, _, _, _, _, _ => none
  | n + 1, a0, l1, l3, x5, h =>
    (gI h 5 a0 0).bind fun v1 =>
    if x5 < v1 then
      (gR h 5 a0 2).bind fun v2 =>
      (ldL h v2 x5).bind fun v3 =>
      if v3 < l1 then
        some (jI 0, h)
      else
        (gR h 5 a0 2).bind fun v4 =>
        (ldL h v4 x5).bind fun v5 =>
        if l3 < v5 then
          some (jI 0, h)
        else
          let w6 := iAdd x5 (jI 1)
          L_X5_allWithin_3 N n a0 l1 l3 w6 h
    else
      some (jI 1, h)
def f_X5_allWithin (N : Nat) (a0 : Nat) (l1 : Int64) (l3 : Int64) (h : mH) : Option (Int32 × mH) :=
  L_X5_allWithin_3 N N a0 l1 l3 (jI 0) h
def y_X5_allWithin : mM := (yX5_allWithin, cX5_allWithin, 6, (some .boolean))
def B_X5_allWithin : List (Nat × List mI) := [(36, [(.iconst 0, 1, [], [0]), (.ireturn, 1, [], [])]), (38, [(.iinc 5 1, 3, [5], [1]), (.goto (-38), 3, [3], [])]), (44, [(.iconst 1, 1, [], [1]), (.ireturn, 1, [], [])])]
def S_X5_allWithin_0 : List mI := [(.iconst 0, 1, [], [0]), (.istore 5, 2, [5], [])]
def S_X5_allWithin_3 : List mI := [(.iload 5, 2, [5], []), (.aload_n 0, 1, [0], []), (.getfield 15, 3, [5, 0, 0, 68], []), (.if_icmp .ge 35, 3, [44], []), (.aload_n 0, 1, [0], []), (.getfield 11, 3, [5, 2, 2, 73], []), (.iload 5, 2, [5], []), (.laload, 1, [], []), (.lload_n 1, 1, [1], []), (.lcmp, 1, [], []), (.ifCond .lt 15, 3, [36], []), (.aload_n 0, 1, [0], []), (.getfield 11, 3, [5, 2, 2, 73], []), (.iload 5, 2, [5], []), (.laload, 1, [], []), (.lload_n 3, 1, [3], []), (.lcmp, 1, [], []), (.ifCond .le 5, 3, [38], [])]
theorem lb_X5_allWithin : B_X5_allWithin.all (fun b => lst y_X5_allWithin.2.1 5 y_X5_allWithin.2.2.1 false b.1 b.2) = true := by decide +kernel
theorem ls_X5_allWithin_0 : lst y_X5_allWithin.2.1 5 y_X5_allWithin.2.2.1 false 0 S_X5_allWithin_0 = true := by decide +kernel
theorem ls_X5_allWithin_3 : lst y_X5_allWithin.2.1 5 y_X5_allWithin.2.2.1 false 3 S_X5_allWithin_3 = true := by decide +kernel
def C_X5_allWithin (N : Nat) : Nat → List Value → mH → (Option Value → mH → Option (Int32 × mH)) → Option (Int32 × mH) := fun j as g k => none
theorem co_X5_allWithin (N : Nat) (q : Int32 × mH) : clOK 4 q (C_X5_allWithin N) := by
  intro j as g k e
  cases e
set_option maxRecDepth 100000 in
theorem t_X5_allWithin_3 {X : Nat × (Nat → Int32)} (N : Nat) {q : Int32 × mH} : ∀ (n : Nat) (a0 : Nat) (l1 : Int64) (l3 : Int64) (x5 : Int32) (h : mH), L_X5_allWithin_3 N n a0 l1 l3 x5 h = some q → MW X y_X5_allWithin 4 3 [(0, .ref a0), (1, .long l1), (3, .long l3), (5, .int x5)] [] h (some (.int q.1)) q.2 := by
  intro n
  induction n with
  | zero => intro a0 l1 l3 x5 h hf; cases hf
  | succ n ih =>
    intro a0 l1 l3 x5 h hf
    refine ev_ok (o := 5) (ini := false) (Cl := C_X5_allWithin N) (Rc := RcZ) (B := B_X5_allWithin) (K := fun pc ls st g => kb pc 3 (lgr 0 ls fun a0 => lgl_ 1 ls fun l1 => lgl_ 3 ls fun l3 => lgi 5 ls fun x5 => pe st (L_X5_allWithin_3 N n a0 l1 l3 x5 g)) (none)) rfl (fun e => by cases e) (by decide) (rcZ_ok rfl) ?_ (co_X5_allWithin N q) lb_X5_allWithin 3000 3 S_X5_allWithin_3 _ _ h ls_X5_allWithin_3 hf
    intro pc ls st g e
    rcases kb_s e with ⟨rfl, e⟩ | e
    · obtain ⟨a0, e0, f0⟩ := lgr_s e
      obtain ⟨l1, e1, f1⟩ := lgl_s f0
      obtain ⟨l3, e2, f2⟩ := lgl_s f1
      obtain ⟨x5, e3, f3⟩ := lgi_s f2
      obtain ⟨qe, fe⟩ := pe_s f3
      subst qe
      exact MW.sub (List.forall_mem_cons.mpr ⟨lg_mem e0, List.forall_mem_cons.mpr ⟨lg_mem e1, List.forall_mem_cons.mpr ⟨lg_mem e2, List.forall_mem_cons.mpr ⟨lg_mem e3, fun _ h => absurd h List.not_mem_nil⟩⟩⟩⟩) (ih a0 l1 l3 x5 g fe)
    cases e
set_option maxRecDepth 100000 in
theorem m_X5_allWithin (N : Nat) {a0 : Nat} {l1 : Int64} {l3 : Int64} {h : mH} {q : Int32 × mH} (hf : f_X5_allWithin N a0 l1 l3 h = some q) : MM y_X5_allWithin 4 [.ref a0, .long l1, .long l3] h (some (.int q.1)) q.2 := by
  refine MM.of (mFx (j := 75) rfl).2.2.2.1 (Nat.le_of_ble_eq_true rfl) (fun X => ?_)
  refine ev_ok (o := 5) (ini := false) (Cl := C_X5_allWithin N) (Rc := RcZ) (B := B_X5_allWithin) (K := fun pc ls st g => kb pc 3 (lgr 0 ls fun a0 => lgl_ 1 ls fun l1 => lgl_ 3 ls fun l3 => lgi 5 ls fun x5 => pe st (L_X5_allWithin_3 N N a0 l1 l3 x5 g)) (none)) rfl (fun e => by cases e) (by decide) (rcZ_ok rfl) ?_ (co_X5_allWithin N q) lb_X5_allWithin 3000 0 S_X5_allWithin_0 _ _ h ls_X5_allWithin_0 hf
  intro pc ls st g e
  rcases kb_s e with ⟨rfl, e⟩ | e
  · obtain ⟨a0, e0, f0⟩ := lgr_s e
    obtain ⟨l1, e1, f1⟩ := lgl_s f0
    obtain ⟨l3, e2, f2⟩ := lgl_s f1
    obtain ⟨x5, e3, f3⟩ := lgi_s f2
    obtain ⟨qe, fe⟩ := pe_s f3
    subst qe
    exact MW.sub (List.forall_mem_cons.mpr ⟨lg_mem e0, List.forall_mem_cons.mpr ⟨lg_mem e1, List.forall_mem_cons.mpr ⟨lg_mem e2, List.forall_mem_cons.mpr ⟨lg_mem e3, fun _ h => absurd h List.not_mem_nil⟩⟩⟩⟩) (t_X5_allWithin_3 N N a0 l1 l3 x5 g fe)
  cases e
def f_X6_clear (N : Nat) (a0 : Nat) (h : mH) : Option (mH) :=
  (pV h 6 a0 0 (.int (jI 0))).bind fun h1 =>
  some h1
def y_X6_clear : mM := (yX6_clear, cX6_clear, 1, none)
def B_X6_clear : List (Nat × List mI) := []
def S_X6_clear_0 : List mI := [(.aload_n 0, 1, [0], []), (.iconst 0, 1, [], [0]), (.putfield 19, 3, [6, 0, 0, 46], []), (.return_, 1, [], [])]
theorem lb_X6_clear : B_X6_clear.all (fun b => lst y_X6_clear.2.1 6 y_X6_clear.2.2.1 false b.1 b.2) = true := by decide +kernel
theorem ls_X6_clear_0 : lst y_X6_clear.2.1 6 y_X6_clear.2.2.1 false 0 S_X6_clear_0 = true := by decide +kernel
def C_X6_clear (N : Nat) : Nat → List Value → mH → (Option Value → mH → Option (mH)) → Option (mH) := fun j as g k => none
theorem co_X6_clear (N : Nat) (q : mH) : clOK 4 q (C_X6_clear N) := by
  intro j as g k e
  cases e
set_option maxRecDepth 100000 in
theorem m_X6_clear (N : Nat) {a0 : Nat} {h : mH} {q : mH} (hf : f_X6_clear N a0 h = some q) : MM y_X6_clear 4 [.ref a0] h none q := by
  refine MM.of (mFx (j := 78) rfl).2.2.2.1 (Nat.le_of_ble_eq_true rfl) (fun X => ?_)
  refine ev_ok (o := 6) (ini := false) (Cl := C_X6_clear N) (Rc := RcV) (B := B_X6_clear) (K := fun pc ls st g => none) rfl (fun e => by cases e) (by decide) (rcV_ok rfl) ?_ (co_X6_clear N q) lb_X6_clear 3000 0 S_X6_clear_0 _ _ h ls_X6_clear_0 hf
  intro pc ls st g e
  cases e
def f_X6_become (N : Nat) (a0 : Nat) (a1 : Nat) (h : mH) : Option (mH) :=
  (gI h 6 a1 0).bind fun v1 =>
  (pV h 6 a0 0 (.int v1)).bind fun h2 =>
  (gR h2 6 a1 1).bind fun v3 =>
  (gR h2 6 a0 1).bind fun v4 =>
  (cpI h2 v3 (jI 0) v4 (jI 0) (jI 8)).bind fun h5 =>
  (gR h5 6 a1 2).bind fun v6 =>
  (gR h5 6 a0 2).bind fun v7 =>
  (cpI h5 v6 (jI 0) v7 (jI 0) (jI 8)).bind fun h8 =>
  (gR h8 6 a1 3).bind fun v9 =>
  (gR h8 6 a0 3).bind fun v10 =>
  (cpI h8 v9 (jI 0) v10 (jI 0) (jI 8)).bind fun h11 =>
  some h11
def y_X6_become : mM := (yX6_become, cX6_become, 2, none)
def B_X6_become : List (Nat × List mI) := []
def S_X6_become_0 : List mI := [(.aload_n 0, 1, [0], []), (.aload_n 1, 1, [1], []), (.getfield 19, 3, [6, 0, 0, 46], []), (.putfield 19, 3, [6, 0, 0, 46], []), (.aload_n 1, 1, [1], []), (.getfield 9, 3, [6, 1, 2, 49], []), (.iconst 0, 1, [], [0]), (.aload_n 0, 1, [0], []), (.getfield 9, 3, [6, 1, 2, 49], []), (.iconst 0, 1, [], [0]), (.bipush 8, 2, [], [8]), (.invokestatic 23, 3, [10, 0, 0, 0, 36], []), (.aload_n 1, 1, [1], []), (.getfield 13, 3, [6, 2, 2, 51], []), (.iconst 0, 1, [], [0]), (.aload_n 0, 1, [0], []), (.getfield 13, 3, [6, 2, 2, 51], []), (.iconst 0, 1, [], [0]), (.bipush 8, 2, [], [8]), (.invokestatic 23, 3, [10, 0, 0, 0, 36], []), (.aload_n 1, 1, [1], []), (.getfield 16, 3, [6, 3, 2, 53], []), (.iconst 0, 1, [], [0]), (.aload_n 0, 1, [0], []), (.getfield 16, 3, [6, 3, 2, 53], []), (.iconst 0, 1, [], [0]), (.bipush 8, 2, [], [8]), (.invokestatic 23, 3, [10, 0, 0, 0, 36], []), (.return_, 1, [], [])]
theorem lb_X6_become : B_X6_become.all (fun b => lst y_X6_become.2.1 6 y_X6_become.2.2.1 false b.1 b.2) = true := by decide +kernel
theorem ls_X6_become_0 : lst y_X6_become.2.1 6 y_X6_become.2.2.1 false 0 S_X6_become_0 = true := by decide +kernel
def C_X6_become (N : Nat) : Nat → List Value → mH → (Option Value → mH → Option (mH)) → Option (mH) := fun j as g k => none
theorem co_X6_become (N : Nat) (q : mH) : clOK 4 q (C_X6_become N) := by
  intro j as g k e
  cases e
set_option maxRecDepth 100000 in
theorem m_X6_become (N : Nat) {a0 : Nat} {a1 : Nat} {h : mH} {q : mH} (hf : f_X6_become N a0 a1 h = some q) : MM y_X6_become 4 [.ref a0, .ref a1] h none q := by
  refine MM.of (mFx (j := 79) rfl).2.2.2.1 (Nat.le_of_ble_eq_true rfl) (fun X => ?_)
  refine ev_ok (o := 6) (ini := false) (Cl := C_X6_become N) (Rc := RcV) (B := B_X6_become) (K := fun pc ls st g => none) rfl (fun e => by cases e) (by decide) (rcV_ok rfl) ?_ (co_X6_become N q) lb_X6_become 3000 0 S_X6_become_0 _ _ h ls_X6_become_0 hf
  intro pc ls st g e
  cases e
def f_X6_isSign (N : Nat) (x0 : Int32) (x1 : Int32) (h : mH) : Option (Int32 × mH) :=
  if x1 = 0 then
    if x0 = (jI 111) then
      some (jI 1, h)
    else
      if x0 = (jI 117) then
        some (jI 1, h)
      else
        if x0 = (jI 63) then
          some (jI 1, h)
        else
          some (jI 0, h)
  else
    if x0 = (jI 46) then
      some (jI 1, h)
    else
      if x0 < (jI 48) then
        some (jI 0, h)
      else
        if (jI 53) < x0 then
          some (jI 0, h)
        else
          some (jI 1, h)
def y_X6_isSign : mM := (yX6_isSign, cX6_isSign, 2, (some .boolean))
def B_X6_isSign : List (Nat × List mI) := [(22, [(.iconst 1, 1, [], [1]), (.goto 4, 3, [27], [])]), (26, [(.iconst 0, 1, [], [0])]), (27, [(.ireturn, 1, [], [])]), (28, [(.iload_n 0, 1, [0], []), (.bipush 111, 2, [], [111]), (.if_icmp .eq 15, 3, [46], []), (.iload_n 0, 1, [0], []), (.bipush 117, 2, [], [117]), (.if_icmp .eq 9, 3, [46], []), (.iload_n 0, 1, [0], []), (.bipush 63, 2, [], [63]), (.if_icmp .ne 7, 3, [50], [])]), (46, [(.iconst 1, 1, [], [1]), (.goto 4, 3, [51], [])]), (50, [(.iconst 0, 1, [], [0])]), (51, [(.ireturn, 1, [], [])])]
def S_X6_isSign_0 : List mI := [(.iload_n 1, 1, [1], []), (.ifCond .eq 27, 3, [28], []), (.iload_n 0, 1, [0], []), (.bipush 46, 2, [], [46]), (.if_icmp .eq 15, 3, [22], []), (.iload_n 0, 1, [0], []), (.bipush 48, 2, [], [48]), (.if_icmp .lt 13, 3, [26], []), (.iload_n 0, 1, [0], []), (.bipush 53, 2, [], [53]), (.if_icmp .gt 7, 3, [26], [])]
theorem lb_X6_isSign : B_X6_isSign.all (fun b => lst y_X6_isSign.2.1 6 y_X6_isSign.2.2.1 false b.1 b.2) = true := by decide +kernel
theorem ls_X6_isSign_0 : lst y_X6_isSign.2.1 6 y_X6_isSign.2.2.1 false 0 S_X6_isSign_0 = true := by decide +kernel
def C_X6_isSign (N : Nat) : Nat → List Value → mH → (Option Value → mH → Option (Int32 × mH)) → Option (Int32 × mH) := fun j as g k => none
theorem co_X6_isSign (N : Nat) (q : Int32 × mH) : clOK 4 q (C_X6_isSign N) := by
  intro j as g k e
  cases e
set_option maxRecDepth 100000 in
theorem m_X6_isSign (N : Nat) {x0 : Int32} {x1 : Int32} {h : mH} {q : Int32 × mH} (hf : f_X6_isSign N x0 x1 h = some q) : MM y_X6_isSign 4 [.int x0, .int x1] h (some (.int q.1)) q.2 := by
  refine MM.of (mFx (j := 81) rfl).2.2.2.1 (Nat.le_of_ble_eq_true rfl) (fun X => ?_)
  refine ev_ok (o := 6) (ini := false) (Cl := C_X6_isSign N) (Rc := RcZ) (B := B_X6_isSign) (K := fun pc ls st g => none) rfl (fun e => by cases e) (by decide) (rcZ_ok rfl) ?_ (co_X6_isSign N q) lb_X6_isSign 3000 0 S_X6_isSign_0 _ _ h ls_X6_isSign_0 hf
  intro pc ls st g e
  cases e
def J_X6_isPicture_82 (N : Nat) (k45 : Nat → Int32 → Int32 → Int32 → Int32 → Int32 → mH → Option (Int32 × mH)) (a0 : Nat) (x1 : Int32) (x2 : Int32) (x3 : Int32) (x5 : Int32) (x6 : Int32) (s_0 : Int32) (h : mH) : Option (Int32 × mH) :=
  if s_0 = 0 then
    some (jI 0, h)
  else
    if x5 = x2 then
      let w1 := iAdd x6 (jI 1)
      k45 a0 x1 x2 x3 (jI 0) w1 h
    else
      let w2 := iAdd x5 (jI 1)
      let w3 := iAdd x6 (jI 1)
      k45 a0 x1 x2 x3 w2 w3 h
def L_X6_isPicture_45 (N : Nat) : Nat → Nat → Int32 → Int32 → Int32 → Int32 → Int32 → mH → Option (Int32 × mH)
  | 0, _, _, _, _, _, _, _ => none
  | n + 1, a0, x1, x2, x3, x5, x6, h =>
    if x6 < x1 then
      if x5 = x2 then
        (ldI 2 h a0 x6).bind fun v1 =>
        if v1 = (jI 59) then
          J_X6_isPicture_82 N (L_X6_isPicture_45 N n) a0 x1 x2 x3 x5 x6 (jI 1) h
        else
          J_X6_isPicture_82 N (L_X6_isPicture_45 N n) a0 x1 x2 x3 x5 x6 (jI 0) h
      else
        (ldI 2 h a0 x6).bind fun v2 =>
        (f_X6_isSign N v2 x3 h).bind fun p3 =>
        J_X6_isPicture_82 N (L_X6_isPicture_45 N n) a0 x1 x2 x3 x5 x6 p3.1 p3.2
    else
      some (jI 1, h)
def f_X6_isPicture (N : Nat) (a0 : Nat) (x1 : Int32) (x2 : Int32) (x3 : Int32) (h : mH) : Option (Int32 × mH) :=
  let w1 := iAdd x2 (jI 1)
  if x1 < w1 then
    some (jI 0, h)
  else
    if (iMul (jI 8) w1) < x1 then
      some (jI 0, h)
    else
      (lnA h a0).bind fun v2 =>
      if v2 < x1 then
        some (jI 0, h)
      else
        if (iMax (jI 1) w1) = 0 then none else
        if (iRem x1 (iMax (jI 1) w1)) = 0 then
          L_X6_isPicture_45 N N a0 x1 x2 x3 (jI 0) (jI 0) h
        else
          some (jI 0, h)
def y_X6_isPicture : mM := (yX6_isPicture, cX6_isPicture, 8, (some .boolean))
def B_X6_isPicture : List (Nat × List mI) := [(37, [(.iconst 0, 1, [], [0]), (.ireturn, 1, [], [])]), (39, [(.iconst 0, 1, [], [0]), (.istore 5, 2, [5], []), (.iconst 0, 1, [], [0]), (.istore 6, 2, [6], [])]), (70, [(.iconst 0, 1, [], [0]), (.goto 11, 3, [82], [])]), (74, [(.aload_n 0, 1, [0], []), (.iload 6, 2, [6], []), (.baload, 1, [2], []), (.iload_n 3, 1, [3], []), (.invokestatic 35, 3, [1, 81, 2, 0, 131], [])]), (91, [(.iload 5, 2, [5], []), (.iload_n 2, 1, [2], []), (.if_icmp .ne 7, 3, [101], []), (.iconst 0, 1, [], [0]), (.goto 7, 3, [105], [])]), (101, [(.iload 5, 2, [5], []), (.iconst 1, 1, [], [1]), (.iadd, 1, [], [])]), (105, [(.istore 5, 2, [5], []), (.iinc 6 1, 3, [6], [1]), (.goto (-65), 3, [45], [])]), (113, [(.iconst 1, 1, [], [1]), (.ireturn, 1, [], [])])]
def S_X6_isPicture_0 : List mI := [(.iload_n 2, 1, [2], []), (.iconst 1, 1, [], [1]), (.iadd, 1, [], []), (.istore 4, 2, [4], []), (.iload_n 1, 1, [1], []), (.iload 4, 2, [4], []), (.if_icmp .lt 29, 3, [37], []), (.iload_n 1, 1, [1], []), (.bipush 8, 2, [], [8]), (.iload 4, 2, [4], []), (.imul, 1, [], []), (.if_icmp .gt 20, 3, [37], []), (.iload_n 1, 1, [1], []), (.aload_n 0, 1, [0], []), (.arraylength, 1, [0], []), (.if_icmp .gt 14, 3, [37], []), (.iload_n 1, 1, [1], []), (.iconst 1, 1, [], [1]), (.iload 4, 2, [4], []), (.invokestatic 29, 3, [6, 0, 0, 0, 21], []), (.irem, 1, [], []), (.ifCond .eq 5, 3, [39], [])]
def S_X6_isPicture_45 : List mI := [(.iload 6, 2, [6], []), (.iload_n 1, 1, [1], []), (.if_icmp .ge 65, 3, [113], []), (.iload 5, 2, [5], []), (.iload_n 2, 1, [2], []), (.if_icmp .ne 20, 3, [74], []), (.aload_n 0, 1, [0], []), (.iload 6, 2, [6], []), (.baload, 1, [2], []), (.bipush 59, 2, [], [59]), (.if_icmp .ne 7, 3, [70], []), (.iconst 1, 1, [], [1]), (.goto 15, 3, [82], [])]
def S_X6_isPicture_82 : List mI := [(.istore 7, 2, [7], []), (.iload 7, 2, [7], []), (.ifCond .ne 5, 3, [91], []), (.iconst 0, 1, [], [0]), (.ireturn, 1, [], [])]
theorem lb_X6_isPicture : B_X6_isPicture.all (fun b => lst y_X6_isPicture.2.1 6 y_X6_isPicture.2.2.1 false b.1 b.2) = true := by decide +kernel
theorem ls_X6_isPicture_0 : lst y_X6_isPicture.2.1 6 y_X6_isPicture.2.2.1 false 0 S_X6_isPicture_0 = true := by decide +kernel
theorem ls_X6_isPicture_45 : lst y_X6_isPicture.2.1 6 y_X6_isPicture.2.2.1 false 45 S_X6_isPicture_45 = true := by decide +kernel
theorem ls_X6_isPicture_82 : lst y_X6_isPicture.2.1 6 y_X6_isPicture.2.2.1 false 82 S_X6_isPicture_82 = true := by decide +kernel
def C_X6_isPicture (N : Nat) : Nat → List Value → mH → (Option Value → mH → Option (Int32 × mH)) → Option (Int32 × mH) := fun j as g k => kb j 81 (pp1 as fun b0 as => pp1 as fun b1 as => pe as ((f_X6_isSign N b0 b1 g).bind fun p => k (some (.int p.1)) p.2)) (none)
theorem co_X6_isPicture (N : Nat) (q : Int32 × mH) : clOK 5 q (C_X6_isPicture N) := by
  intro j as g k e
  rcases kb_s e with ⟨rfl, e⟩ | e
  · obtain ⟨b0, r0, q0, f0⟩ := pp1_s e
    obtain ⟨b1, r1, q1, f1⟩ := pp1_s f0
    obtain ⟨qe, fe⟩ := pe_s f1
    obtain ⟨p, e1, e2⟩ := bnd_s fe
    subst qe
    subst q1
    subst q0
    exact ⟨_, _, _, _, 4, rfl, (by decide), m_X6_isSign N e1, e2⟩
  cases e
set_option maxRecDepth 100000 in
theorem t_X6_isPicture_82 {X : Nat × (Nat → Int32)} (N : Nat) {q : Int32 × mH} {k45 : Nat → Int32 → Int32 → Int32 → Int32 → Int32 → mH → Option (Int32 × mH)} (hk45 : ∀ (a0 : Nat) (x1 : Int32) (x2 : Int32) (x3 : Int32) (x5 : Int32) (x6 : Int32) g, k45 a0 x1 x2 x3 x5 x6 g = some q → MW X y_X6_isPicture 5 45 [(0, .ref a0), (1, .int x1), (2, .int x2), (3, .int x3), (5, .int x5), (6, .int x6)] [] g (some (.int q.1)) q.2) (a0 : Nat) (x1 : Int32) (x2 : Int32) (x3 : Int32) (x5 : Int32) (x6 : Int32) (s_0 : Int32) (h : mH) (hf : J_X6_isPicture_82 N k45 a0 x1 x2 x3 x5 x6 s_0 h = some q) : MW X y_X6_isPicture 5 82 [(0, .ref a0), (1, .int x1), (2, .int x2), (3, .int x3), (5, .int x5), (6, .int x6)] [.int s_0] h (some (.int q.1)) q.2 := by
  refine ev_ok (o := 6) (ini := false) (Cl := C_X6_isPicture N) (Rc := RcZ) (B := B_X6_isPicture) (K := fun pc ls st g => kb pc 45 (lgr 0 ls fun a0 => lgi 1 ls fun x1 => lgi 2 ls fun x2 => lgi 3 ls fun x3 => lgi 5 ls fun x5 => lgi 6 ls fun x6 => pe st (k45 a0 x1 x2 x3 x5 x6 g)) (none)) rfl (fun e => by cases e) (by decide) (rcZ_ok rfl) ?_ (co_X6_isPicture N q) lb_X6_isPicture 3000 82 S_X6_isPicture_82 _ _ h ls_X6_isPicture_82 hf
  intro pc ls st g e
  rcases kb_s e with ⟨rfl, e⟩ | e
  · obtain ⟨a0, e0, f0⟩ := lgr_s e
    obtain ⟨x1, e1, f1⟩ := lgi_s f0
    obtain ⟨x2, e2, f2⟩ := lgi_s f1
    obtain ⟨x3, e3, f3⟩ := lgi_s f2
    obtain ⟨x5, e4, f4⟩ := lgi_s f3
    obtain ⟨x6, e5, f5⟩ := lgi_s f4
    obtain ⟨qe, fe⟩ := pe_s f5
    subst qe
    exact MW.sub (List.forall_mem_cons.mpr ⟨lg_mem e0, List.forall_mem_cons.mpr ⟨lg_mem e1, List.forall_mem_cons.mpr ⟨lg_mem e2, List.forall_mem_cons.mpr ⟨lg_mem e3, List.forall_mem_cons.mpr ⟨lg_mem e4, List.forall_mem_cons.mpr ⟨lg_mem e5, fun _ h => absurd h List.not_mem_nil⟩⟩⟩⟩⟩⟩) (hk45 a0 x1 x2 x3 x5 x6 g fe)
  cases e
set_option maxRecDepth 100000 in
theorem t_X6_isPicture_45 {X : Nat × (Nat → Int32)} (N : Nat) {q : Int32 × mH} : ∀ (n : Nat) (a0 : Nat) (x1 : Int32) (x2 : Int32) (x3 : Int32) (x5 : Int32) (x6 : Int32) (h : mH), L_X6_isPicture_45 N n a0 x1 x2 x3 x5 x6 h = some q → MW X y_X6_isPicture 5 45 [(0, .ref a0), (1, .int x1), (2, .int x2), (3, .int x3), (5, .int x5), (6, .int x6)] [] h (some (.int q.1)) q.2 := by
  intro n
  induction n with
  | zero => intro a0 x1 x2 x3 x5 x6 h hf; cases hf
  | succ n ih =>
    intro a0 x1 x2 x3 x5 x6 h hf
    refine ev_ok (o := 6) (ini := false) (Cl := C_X6_isPicture N) (Rc := RcZ) (B := B_X6_isPicture) (K := fun pc ls st g => kb pc 82 (lgr 0 ls fun a0 => lgi 1 ls fun x1 => lgi 2 ls fun x2 => lgi 3 ls fun x3 => lgi 5 ls fun x5 => lgi 6 ls fun x6 => pp1 st fun s_0 st => pe st (J_X6_isPicture_82 N (L_X6_isPicture_45 N n) a0 x1 x2 x3 x5 x6 s_0 g)) (none)) rfl (fun e => by cases e) (by decide) (rcZ_ok rfl) ?_ (co_X6_isPicture N q) lb_X6_isPicture 3000 45 S_X6_isPicture_45 _ _ h ls_X6_isPicture_45 hf
    intro pc ls st g e
    rcases kb_s e with ⟨rfl, e⟩ | e
    · obtain ⟨a0, e0, f0⟩ := lgr_s e
      obtain ⟨x1, e1, f1⟩ := lgi_s f0
      obtain ⟨x2, e2, f2⟩ := lgi_s f1
      obtain ⟨x3, e3, f3⟩ := lgi_s f2
      obtain ⟨x5, e4, f4⟩ := lgi_s f3
      obtain ⟨x6, e5, f5⟩ := lgi_s f4
      obtain ⟨s_0, r0, q0, g0⟩ := pp1_s f5
      obtain ⟨qe, fe⟩ := pe_s g0
      subst qe
      subst q0
      exact MW.sub (List.forall_mem_cons.mpr ⟨lg_mem e0, List.forall_mem_cons.mpr ⟨lg_mem e1, List.forall_mem_cons.mpr ⟨lg_mem e2, List.forall_mem_cons.mpr ⟨lg_mem e3, List.forall_mem_cons.mpr ⟨lg_mem e4, List.forall_mem_cons.mpr ⟨lg_mem e5, fun _ h => absurd h List.not_mem_nil⟩⟩⟩⟩⟩⟩) (t_X6_isPicture_82 N (fun a0 x1 x2 x3 x5 x6 g e => ih a0 x1 x2 x3 x5 x6 g e) a0 x1 x2 x3 x5 x6 s_0 g fe)
    cases e
set_option maxRecDepth 100000 in
theorem m_X6_isPicture (N : Nat) {a0 : Nat} {x1 : Int32} {x2 : Int32} {x3 : Int32} {h : mH} {q : Int32 × mH} (hf : f_X6_isPicture N a0 x1 x2 x3 h = some q) : MM y_X6_isPicture 5 [.ref a0, .int x1, .int x2, .int x3] h (some (.int q.1)) q.2 := by
  refine MM.of (mFx (j := 80) rfl).2.2.2.1 (Nat.le_of_ble_eq_true rfl) (fun X => ?_)
  refine ev_ok (o := 6) (ini := false) (Cl := C_X6_isPicture N) (Rc := RcZ) (B := B_X6_isPicture) (K := fun pc ls st g => kb pc 45 (lgr 0 ls fun a0 => lgi 1 ls fun x1 => lgi 2 ls fun x2 => lgi 3 ls fun x3 => lgi 5 ls fun x5 => lgi 6 ls fun x6 => pe st (L_X6_isPicture_45 N N a0 x1 x2 x3 x5 x6 g)) (none)) rfl (fun e => by cases e) (by decide) (rcZ_ok rfl) ?_ (co_X6_isPicture N q) lb_X6_isPicture 3000 0 S_X6_isPicture_0 _ _ h ls_X6_isPicture_0 hf
  intro pc ls st g e
  rcases kb_s e with ⟨rfl, e⟩ | e
  · obtain ⟨a0, e0, f0⟩ := lgr_s e
    obtain ⟨x1, e1, f1⟩ := lgi_s f0
    obtain ⟨x2, e2, f2⟩ := lgi_s f1
    obtain ⟨x3, e3, f3⟩ := lgi_s f2
    obtain ⟨x5, e4, f4⟩ := lgi_s f3
    obtain ⟨x6, e5, f5⟩ := lgi_s f4
    obtain ⟨qe, fe⟩ := pe_s f5
    subst qe
    exact MW.sub (List.forall_mem_cons.mpr ⟨lg_mem e0, List.forall_mem_cons.mpr ⟨lg_mem e1, List.forall_mem_cons.mpr ⟨lg_mem e2, List.forall_mem_cons.mpr ⟨lg_mem e3, List.forall_mem_cons.mpr ⟨lg_mem e4, List.forall_mem_cons.mpr ⟨lg_mem e5, fun _ h => absurd h List.not_mem_nil⟩⟩⟩⟩⟩⟩) (t_X6_isPicture_45 N N a0 x1 x2 x3 x5 x6 g fe)
  cases e
def f_X6_takeWished (N : Nat) (a0 : Nat) (x1 : Int32) (x2 : Int32) (x3 : Int32) (h : mH) : Option (mH) :=
  if x3 = (jI 46) then
    some h
  else
    let w1 := iSub x3 (jI 48)
    (gR h 6 a0 1).bind fun v2 =>
    (ldI 0 h v2 x1).bind fun v3 =>
    (stI 0 h v2 x1 (iOr v3 x2)).bind fun h4 =>
    (gR h4 6 a0 3).bind fun v5 =>
    (gR h4 6 a0 3).bind fun v6 =>
    (ldI 0 h4 v6 x1).bind fun v7 =>
    if v7 = (jI (-1)) then
      (stI 0 h4 v5 x1 w1).bind fun h8 =>
      some h8
    else
      (gR h4 6 a0 3).bind fun v9 =>
      (ldI 0 h4 v9 x1).bind fun v10 =>
      if v10 = w1 then
        (stI 0 h4 v5 x1 w1).bind fun h11 =>
        some h11
      else
        (stI 0 h4 v5 x1 (jI (-2))).bind fun h12 =>
        some h12
def y_X6_takeWished : mM := (yX6_takeWished, cX6_takeWished, 5, none)
def B_X6_takeWished : List (Nat × List mI) := [(7, [(.iload_n 3, 1, [3], []), (.bipush 48, 2, [], [48]), (.isub, 1, [], []), (.istore 4, 2, [4], []), (.aload_n 0, 1, [0], []), (.getfield 9, 3, [6, 1, 2, 49], []), (.iload_n 1, 1, [1], []), (.dup2, 1, [], []), (.iaload, 1, [0], []), (.iload_n 2, 1, [2], []), (.ior, 1, [], []), (.iastore, 1, [], []), (.aload_n 0, 1, [0], []), (.getfield 16, 3, [6, 3, 2, 53], []), (.iload_n 1, 1, [1], []), (.aload_n 0, 1, [0], []), (.getfield 16, 3, [6, 3, 2, 53], []), (.iload_n 1, 1, [1], []), (.iaload, 1, [0], []), (.iconst (-1), 1, [], [-1]), (.if_icmp .eq 14, 3, [49], []), (.aload_n 0, 1, [0], []), (.getfield 16, 3, [6, 3, 2, 53], []), (.iload_n 1, 1, [1], []), (.iaload, 1, [0], []), (.iload 4, 2, [4], []), (.if_icmp .ne 8, 3, [54], [])]), (49, [(.iload 4, 2, [4], []), (.goto 5, 3, [56], [])]), (54, [(.bipush (-2), 2, [], [-2])]), (56, [(.iastore, 1, [], []), (.return_, 1, [], [])])]
def S_X6_takeWished_0 : List mI := [(.iload_n 3, 1, [3], []), (.bipush 46, 2, [], [46]), (.if_icmp .ne 4, 3, [7], []), (.return_, 1, [], [])]
theorem lb_X6_takeWished : B_X6_takeWished.all (fun b => lst y_X6_takeWished.2.1 6 y_X6_takeWished.2.2.1 false b.1 b.2) = true := by decide +kernel
theorem ls_X6_takeWished_0 : lst y_X6_takeWished.2.1 6 y_X6_takeWished.2.2.1 false 0 S_X6_takeWished_0 = true := by decide +kernel
def C_X6_takeWished (N : Nat) : Nat → List Value → mH → (Option Value → mH → Option (mH)) → Option (mH) := fun j as g k => none
theorem co_X6_takeWished (N : Nat) (q : mH) : clOK 4 q (C_X6_takeWished N) := by
  intro j as g k e
  cases e
set_option maxRecDepth 100000 in
theorem m_X6_takeWished (N : Nat) {a0 : Nat} {x1 : Int32} {x2 : Int32} {x3 : Int32} {h : mH} {q : mH} (hf : f_X6_takeWished N a0 x1 x2 x3 h = some q) : MM y_X6_takeWished 4 [.ref a0, .int x1, .int x2, .int x3] h none q := by
  refine MM.of (mFx (j := 83) rfl).2.2.2.1 (Nat.le_of_ble_eq_true rfl) (fun X => ?_)
  refine ev_ok (o := 6) (ini := false) (Cl := C_X6_takeWished N) (Rc := RcV) (B := B_X6_takeWished) (K := fun pc ls st g => none) rfl (fun e => by cases e) (by decide) (rcV_ok rfl) ?_ (co_X6_takeWished N q) lb_X6_takeWished 3000 0 S_X6_takeWished_0 _ _ h ls_X6_takeWished_0 hf
  intro pc ls st g e
  cases e
def f_X6_takePrinted (N : Nat) (a0 : Nat) (x1 : Int32) (x2 : Int32) (x3 : Int32) (h : mH) : Option (mH) :=
  if x3 = (jI 111) then
    (gR h 6 a0 1).bind fun v1 =>
    (ldI 0 h v1 x1).bind fun v2 =>
    (stI 0 h v1 x1 (iOr v2 x2)).bind fun h3 =>
    some h3
  else
    if x3 = (jI 117) then
      (gR h 6 a0 2).bind fun v4 =>
      (ldI 0 h v4 x1).bind fun v5 =>
      (stI 0 h v4 x1 (iOr v5 x2)).bind fun h6 =>
      some h6
    else
      some h
def y_X6_takePrinted : mM := (yX6_takePrinted, cX6_takePrinted, 4, none)
def B_X6_takePrinted : List (Nat × List mI) := [(19, [(.iload_n 3, 1, [3], []), (.bipush 117, 2, [], [117]), (.if_icmp .ne 13, 3, [35], []), (.aload_n 0, 1, [0], []), (.getfield 13, 3, [6, 2, 2, 51], []), (.iload_n 1, 1, [1], []), (.dup2, 1, [], []), (.iaload, 1, [0], []), (.iload_n 2, 1, [2], []), (.ior, 1, [], []), (.iastore, 1, [], [])]), (35, [(.return_, 1, [], [])])]
def S_X6_takePrinted_0 : List mI := [(.iload_n 3, 1, [3], []), (.bipush 111, 2, [], [111]), (.if_icmp .ne 16, 3, [19], []), (.aload_n 0, 1, [0], []), (.getfield 9, 3, [6, 1, 2, 49], []), (.iload_n 1, 1, [1], []), (.dup2, 1, [], []), (.iaload, 1, [0], []), (.iload_n 2, 1, [2], []), (.ior, 1, [], []), (.iastore, 1, [], []), (.goto 19, 3, [35], [])]
theorem lb_X6_takePrinted : B_X6_takePrinted.all (fun b => lst y_X6_takePrinted.2.1 6 y_X6_takePrinted.2.2.1 false b.1 b.2) = true := by decide +kernel
theorem ls_X6_takePrinted_0 : lst y_X6_takePrinted.2.1 6 y_X6_takePrinted.2.2.1 false 0 S_X6_takePrinted_0 = true := by decide +kernel
def C_X6_takePrinted (N : Nat) : Nat → List Value → mH → (Option Value → mH → Option (mH)) → Option (mH) := fun j as g k => none
theorem co_X6_takePrinted (N : Nat) (q : mH) : clOK 4 q (C_X6_takePrinted N) := by
  intro j as g k e
  cases e
set_option maxRecDepth 100000 in
theorem m_X6_takePrinted (N : Nat) {a0 : Nat} {x1 : Int32} {x2 : Int32} {x3 : Int32} {h : mH} {q : mH} (hf : f_X6_takePrinted N a0 x1 x2 x3 h = some q) : MM y_X6_takePrinted 4 [.ref a0, .int x1, .int x2, .int x3] h none q := by
  refine MM.of (mFx (j := 84) rfl).2.2.2.1 (Nat.le_of_ble_eq_true rfl) (fun X => ?_)
  refine ev_ok (o := 6) (ini := false) (Cl := C_X6_takePrinted N) (Rc := RcV) (B := B_X6_takePrinted) (K := fun pc ls st g => none) rfl (fun e => by cases e) (by decide) (rcV_ok rfl) ?_ (co_X6_takePrinted N q) lb_X6_takePrinted 3000 0 S_X6_takePrinted_0 _ _ h ls_X6_takePrinted_0 hf
  intro pc ls st g e
  cases e
def L_X6_take_61 (N : Nat) (k25 : Nat → Nat → Int32 → Int32 → Int32 → Int32 → mH → Option (mH)) : Nat → Nat → Nat → Int32 → Int32 → Int32 → Int32 → Int32 → mH → Option (mH)
  | 0, _, _, _, _, _, _, _, _ => none
  | n + 1, a0, a1, x3, x4, x5, x6, x7, h =>
    if x7 < x3 then
      (lnA h a1).bind fun v1 =>
      if (iAdd (iMul x6 x5) x7) < v1 then
        (ldI 2 h a1 (iAdd (iMul x6 x5) x7)).bind fun v2 =>
        if x4 = 0 then
          (rcv h 6 a0).bind fun _ =>
          (f_X6_takePrinted N a0 x6 (iShl (jI 1) x7) v2 h).bind fun h3 =>
          let w4 := iAdd x7 (jI 1)
          L_X6_take_61 N k25 n a0 a1 x3 x4 x5 x6 w4 h3
        else
          (rcv h 6 a0).bind fun _ =>
          (f_X6_takeWished N a0 x6 (iShl (jI 1) x7) v2 h).bind fun h5 =>
          let w6 := iAdd x7 (jI 1)
          L_X6_take_61 N k25 n a0 a1 x3 x4 x5 x6 w6 h5
      else
        let w7 := iAdd x6 (jI 1)
        k25 a0 a1 x3 x4 x5 w7 h
    else
      let w8 := iAdd x6 (jI 1)
      k25 a0 a1 x3 x4 x5 w8 h
def L_X6_take_25 (N : Nat) : Nat → Nat → Nat → Int32 → Int32 → Int32 → Int32 → mH → Option (mH)
  | 0, _, _, _, _, _, _, _ => none
  | n + 1, a0, a1, x3, x4, x5, x6, h =>
    (gI h 6 a0 0).bind fun v1 =>
    if x6 < v1 then
      (gR h 6 a0 1).bind fun v2 =>
      (stI 0 h v2 x6 (jI 0)).bind fun h3 =>
      (gR h3 6 a0 2).bind fun v4 =>
      (stI 0 h3 v4 x6 (jI 0)).bind fun h5 =>
      (gR h5 6 a0 3).bind fun v6 =>
      (stI 0 h5 v6 x6 (jI (-1))).bind fun h7 =>
      L_X6_take_61 N (L_X6_take_25 N n) N a0 a1 x3 x4 x5 x6 (jI 0) h7
    else
      some h
def f_X6_take (N : Nat) (a0 : Nat) (a1 : Nat) (x2 : Int32) (x3 : Int32) (x4 : Int32) (h : mH) : Option (mH) :=
  let w1 := iMax (jI 1) (iAdd x3 (jI 1))
  if w1 = 0 then none else
  (pV h 6 a0 0 (.int (iMin (jI 8) (iDiv x2 w1)))).bind fun h2 =>
  L_X6_take_25 N N a0 a1 x3 x4 w1 (jI 0) h2
def y_X6_take : mM := (yX6_take, cX6_take, 9, none)
def B_X6_take : List (Nat × List mI) := [(112, [(.aload_n 0, 1, [0], []), (.iload 6, 2, [6], []), (.iconst 1, 1, [], [1]), (.iload 7, 2, [7], []), (.ishl, 1, [], []), (.iload 8, 2, [8], []), (.invokevirtual 46, 3, [0, 84, 3, 6, 134], [])]), (124, [(.iinc 7 1, 3, [7], [1]), (.goto (-66), 3, [61], [])]), (130, [(.iinc 6 1, 3, [6], [1]), (.goto (-108), 3, [25], [])]), (136, [(.return_, 1, [], [])])]
def S_X6_take_0 : List mI := [(.iconst 1, 1, [], [1]), (.iload_n 3, 1, [3], []), (.iconst 1, 1, [], [1]), (.iadd, 1, [], []), (.invokestatic 29, 3, [6, 0, 0, 0, 21], []), (.istore 5, 2, [5], []), (.aload_n 0, 1, [0], []), (.bipush 8, 2, [], [8]), (.iload_n 2, 1, [2], []), (.iload 5, 2, [5], []), (.idiv, 1, [], []), (.invokestatic 39, 3, [7, 0, 0, 0, 22], []), (.putfield 19, 3, [6, 0, 0, 46], []), (.iconst 0, 1, [], [0]), (.istore 6, 2, [6], [])]
def S_X6_take_25 : List mI := [(.iload 6, 2, [6], []), (.aload_n 0, 1, [0], []), (.getfield 19, 3, [6, 0, 0, 46], []), (.if_icmp .ge 105, 3, [136], []), (.aload_n 0, 1, [0], []), (.getfield 9, 3, [6, 1, 2, 49], []), (.iload 6, 2, [6], []), (.iconst 0, 1, [], [0]), (.iastore, 1, [], []), (.aload_n 0, 1, [0], []), (.getfield 13, 3, [6, 2, 2, 51], []), (.iload 6, 2, [6], []), (.iconst 0, 1, [], [0]), (.iastore, 1, [], []), (.aload_n 0, 1, [0], []), (.getfield 16, 3, [6, 3, 2, 53], []), (.iload 6, 2, [6], []), (.iconst (-1), 1, [], [-1]), (.iastore, 1, [], []), (.iconst 0, 1, [], [0]), (.istore 7, 2, [7], [])]
def S_X6_take_61 : List mI := [(.iload 7, 2, [7], []), (.iload_n 3, 1, [3], []), (.if_icmp .ge 66, 3, [130], []), (.iload 6, 2, [6], []), (.iload 5, 2, [5], []), (.imul, 1, [], []), (.iload 7, 2, [7], []), (.iadd, 1, [], []), (.aload_n 1, 1, [1], []), (.arraylength, 1, [0], []), (.if_icmp .ge 53, 3, [130], []), (.aload_n 1, 1, [1], []), (.iload 6, 2, [6], []), (.iload 5, 2, [5], []), (.imul, 1, [], []), (.iload 7, 2, [7], []), (.iadd, 1, [], []), (.baload, 1, [2], []), (.istore 8, 2, [8], []), (.iload 4, 2, [4], []), (.ifCond .eq 18, 3, [112], []), (.aload_n 0, 1, [0], []), (.iload 6, 2, [6], []), (.iconst 1, 1, [], [1]), (.iload 7, 2, [7], []), (.ishl, 1, [], []), (.iload 8, 2, [8], []), (.invokevirtual 42, 3, [0, 83, 3, 6, 133], []), (.goto 15, 3, [124], [])]
theorem lb_X6_take : B_X6_take.all (fun b => lst y_X6_take.2.1 6 y_X6_take.2.2.1 false b.1 b.2) = true := by decide +kernel
theorem ls_X6_take_0 : lst y_X6_take.2.1 6 y_X6_take.2.2.1 false 0 S_X6_take_0 = true := by decide +kernel
theorem ls_X6_take_25 : lst y_X6_take.2.1 6 y_X6_take.2.2.1 false 25 S_X6_take_25 = true := by decide +kernel
theorem ls_X6_take_61 : lst y_X6_take.2.1 6 y_X6_take.2.2.1 false 61 S_X6_take_61 = true := by decide +kernel
def C_X6_take (N : Nat) : Nat → List Value → mH → (Option Value → mH → Option (mH)) → Option (mH) := fun j as g k => kb j 83 (pr1 as fun b0 as => pp1 as fun b1 as => pp1 as fun b2 as => pp1 as fun b3 as => pe as ((f_X6_takeWished N b0 b1 b2 b3 g).bind fun p => k none p)) (kb j 84 (pr1 as fun b0 as => pp1 as fun b1 as => pp1 as fun b2 as => pp1 as fun b3 as => pe as ((f_X6_takePrinted N b0 b1 b2 b3 g).bind fun p => k none p)) (none))
theorem co_X6_take (N : Nat) (q : mH) : clOK 5 q (C_X6_take N) := by
  intro j as g k e
  rcases kb_s e with ⟨rfl, e⟩ | e
  · obtain ⟨b0, r0, q0, f0⟩ := pr1_s e
    obtain ⟨b1, r1, q1, f1⟩ := pp1_s f0
    obtain ⟨b2, r2, q2, f2⟩ := pp1_s f1
    obtain ⟨b3, r3, q3, f3⟩ := pp1_s f2
    obtain ⟨qe, fe⟩ := pe_s f3
    obtain ⟨p, e1, e2⟩ := bnd_s fe
    subst qe
    subst q3
    subst q2
    subst q1
    subst q0
    exact ⟨_, _, _, _, 4, rfl, (by decide), m_X6_takeWished N e1, e2⟩
  rcases kb_s e with ⟨rfl, e⟩ | e
  · obtain ⟨b0, r0, q0, f0⟩ := pr1_s e
    obtain ⟨b1, r1, q1, f1⟩ := pp1_s f0
    obtain ⟨b2, r2, q2, f2⟩ := pp1_s f1
    obtain ⟨b3, r3, q3, f3⟩ := pp1_s f2
    obtain ⟨qe, fe⟩ := pe_s f3
    obtain ⟨p, e1, e2⟩ := bnd_s fe
    subst qe
    subst q3
    subst q2
    subst q1
    subst q0
    exact ⟨_, _, _, _, 4, rfl, (by decide), m_X6_takePrinted N e1, e2⟩
  cases e
set_option maxRecDepth 100000 in
theorem t_X6_take_61 {X : Nat × (Nat → Int32)} (N : Nat) {q : mH} {k25 : Nat → Nat → Int32 → Int32 → Int32 → Int32 → mH → Option (mH)} (hk25 : ∀ (a0 : Nat) (a1 : Nat) (x3 : Int32) (x4 : Int32) (x5 : Int32) (x6 : Int32) g, k25 a0 a1 x3 x4 x5 x6 g = some q → MW X y_X6_take 5 25 [(0, .ref a0), (1, .ref a1), (3, .int x3), (4, .int x4), (5, .int x5), (6, .int x6)] [] g none q) : ∀ (n : Nat) (a0 : Nat) (a1 : Nat) (x3 : Int32) (x4 : Int32) (x5 : Int32) (x6 : Int32) (x7 : Int32) (h : mH), L_X6_take_61 N k25 n a0 a1 x3 x4 x5 x6 x7 h = some q → MW X y_X6_take 5 61 [(0, .ref a0), (1, .ref a1), (3, .int x3), (4, .int x4), (5, .int x5), (6, .int x6), (7, .int x7)] [] h none q := by
  intro n
  induction n with
  | zero => intro a0 a1 x3 x4 x5 x6 x7 h hf; cases hf
  | succ n ih =>
    intro a0 a1 x3 x4 x5 x6 x7 h hf
    refine ev_ok (o := 6) (ini := false) (Cl := C_X6_take N) (Rc := RcV) (B := B_X6_take) (K := fun pc ls st g => kb pc 25 (lgr 0 ls fun a0 => lgr 1 ls fun a1 => lgi 3 ls fun x3 => lgi 4 ls fun x4 => lgi 5 ls fun x5 => lgi 6 ls fun x6 => pe st (k25 a0 a1 x3 x4 x5 x6 g)) (kb pc 61 (lgr 0 ls fun a0 => lgr 1 ls fun a1 => lgi 3 ls fun x3 => lgi 4 ls fun x4 => lgi 5 ls fun x5 => lgi 6 ls fun x6 => lgi 7 ls fun x7 => pe st (L_X6_take_61 N k25 n a0 a1 x3 x4 x5 x6 x7 g)) (none))) rfl (fun e => by cases e) (by decide) (rcV_ok rfl) ?_ (co_X6_take N q) lb_X6_take 3000 61 S_X6_take_61 _ _ h ls_X6_take_61 hf
    intro pc ls st g e
    rcases kb_s e with ⟨rfl, e⟩ | e
    · obtain ⟨a0, e0, f0⟩ := lgr_s e
      obtain ⟨a1, e1, f1⟩ := lgr_s f0
      obtain ⟨x3, e2, f2⟩ := lgi_s f1
      obtain ⟨x4, e3, f3⟩ := lgi_s f2
      obtain ⟨x5, e4, f4⟩ := lgi_s f3
      obtain ⟨x6, e5, f5⟩ := lgi_s f4
      obtain ⟨qe, fe⟩ := pe_s f5
      subst qe
      exact MW.sub (List.forall_mem_cons.mpr ⟨lg_mem e0, List.forall_mem_cons.mpr ⟨lg_mem e1, List.forall_mem_cons.mpr ⟨lg_mem e2, List.forall_mem_cons.mpr ⟨lg_mem e3, List.forall_mem_cons.mpr ⟨lg_mem e4, List.forall_mem_cons.mpr ⟨lg_mem e5, fun _ h => absurd h List.not_mem_nil⟩⟩⟩⟩⟩⟩) (hk25 a0 a1 x3 x4 x5 x6 g fe)
    rcases kb_s e with ⟨rfl, e⟩ | e
    · obtain ⟨a0, e0, f0⟩ := lgr_s e
      obtain ⟨a1, e1, f1⟩ := lgr_s f0
      obtain ⟨x3, e2, f2⟩ := lgi_s f1
      obtain ⟨x4, e3, f3⟩ := lgi_s f2
      obtain ⟨x5, e4, f4⟩ := lgi_s f3
      obtain ⟨x6, e5, f5⟩ := lgi_s f4
      obtain ⟨x7, e6, f6⟩ := lgi_s f5
      obtain ⟨qe, fe⟩ := pe_s f6
      subst qe
      exact MW.sub (List.forall_mem_cons.mpr ⟨lg_mem e0, List.forall_mem_cons.mpr ⟨lg_mem e1, List.forall_mem_cons.mpr ⟨lg_mem e2, List.forall_mem_cons.mpr ⟨lg_mem e3, List.forall_mem_cons.mpr ⟨lg_mem e4, List.forall_mem_cons.mpr ⟨lg_mem e5, List.forall_mem_cons.mpr ⟨lg_mem e6, fun _ h => absurd h List.not_mem_nil⟩⟩⟩⟩⟩⟩⟩) (ih a0 a1 x3 x4 x5 x6 x7 g fe)
    cases e
set_option maxRecDepth 100000 in
theorem t_X6_take_25 {X : Nat × (Nat → Int32)} (N : Nat) {q : mH} : ∀ (n : Nat) (a0 : Nat) (a1 : Nat) (x3 : Int32) (x4 : Int32) (x5 : Int32) (x6 : Int32) (h : mH), L_X6_take_25 N n a0 a1 x3 x4 x5 x6 h = some q → MW X y_X6_take 5 25 [(0, .ref a0), (1, .ref a1), (3, .int x3), (4, .int x4), (5, .int x5), (6, .int x6)] [] h none q := by
  intro n
  induction n with
  | zero => intro a0 a1 x3 x4 x5 x6 h hf; cases hf
  | succ n ih =>
    intro a0 a1 x3 x4 x5 x6 h hf
    refine ev_ok (o := 6) (ini := false) (Cl := C_X6_take N) (Rc := RcV) (B := B_X6_take) (K := fun pc ls st g => kb pc 61 (lgr 0 ls fun a0 => lgr 1 ls fun a1 => lgi 3 ls fun x3 => lgi 4 ls fun x4 => lgi 5 ls fun x5 => lgi 6 ls fun x6 => lgi 7 ls fun x7 => pe st (L_X6_take_61 N (L_X6_take_25 N n) N a0 a1 x3 x4 x5 x6 x7 g)) (none)) rfl (fun e => by cases e) (by decide) (rcV_ok rfl) ?_ (co_X6_take N q) lb_X6_take 3000 25 S_X6_take_25 _ _ h ls_X6_take_25 hf
    intro pc ls st g e
    rcases kb_s e with ⟨rfl, e⟩ | e
    · obtain ⟨a0, e0, f0⟩ := lgr_s e
      obtain ⟨a1, e1, f1⟩ := lgr_s f0
      obtain ⟨x3, e2, f2⟩ := lgi_s f1
      obtain ⟨x4, e3, f3⟩ := lgi_s f2
      obtain ⟨x5, e4, f4⟩ := lgi_s f3
      obtain ⟨x6, e5, f5⟩ := lgi_s f4
      obtain ⟨x7, e6, f6⟩ := lgi_s f5
      obtain ⟨qe, fe⟩ := pe_s f6
      subst qe
      exact MW.sub (List.forall_mem_cons.mpr ⟨lg_mem e0, List.forall_mem_cons.mpr ⟨lg_mem e1, List.forall_mem_cons.mpr ⟨lg_mem e2, List.forall_mem_cons.mpr ⟨lg_mem e3, List.forall_mem_cons.mpr ⟨lg_mem e4, List.forall_mem_cons.mpr ⟨lg_mem e5, List.forall_mem_cons.mpr ⟨lg_mem e6, fun _ h => absurd h List.not_mem_nil⟩⟩⟩⟩⟩⟩⟩) (t_X6_take_61 N (fun a0 a1 x3 x4 x5 x6 g e => ih a0 a1 x3 x4 x5 x6 g e) N a0 a1 x3 x4 x5 x6 x7 g fe)
    cases e
set_option maxRecDepth 100000 in
theorem m_X6_take (N : Nat) {a0 : Nat} {a1 : Nat} {x2 : Int32} {x3 : Int32} {x4 : Int32} {h : mH} {q : mH} (hf : f_X6_take N a0 a1 x2 x3 x4 h = some q) : MM y_X6_take 5 [.ref a0, .ref a1, .int x2, .int x3, .int x4] h none q := by
  refine MM.of (mFx (j := 82) rfl).2.2.2.1 (Nat.le_of_ble_eq_true rfl) (fun X => ?_)
  refine ev_ok (o := 6) (ini := false) (Cl := C_X6_take N) (Rc := RcV) (B := B_X6_take) (K := fun pc ls st g => kb pc 25 (lgr 0 ls fun a0 => lgr 1 ls fun a1 => lgi 3 ls fun x3 => lgi 4 ls fun x4 => lgi 5 ls fun x5 => lgi 6 ls fun x6 => pe st (L_X6_take_25 N N a0 a1 x3 x4 x5 x6 g)) (none)) rfl (fun e => by cases e) (by decide) (rcV_ok rfl) ?_ (co_X6_take N q) lb_X6_take 3000 0 S_X6_take_0 _ _ h ls_X6_take_0 hf
  intro pc ls st g e
  rcases kb_s e with ⟨rfl, e⟩ | e
  · obtain ⟨a0, e0, f0⟩ := lgr_s e
    obtain ⟨a1, e1, f1⟩ := lgr_s f0
    obtain ⟨x3, e2, f2⟩ := lgi_s f1
    obtain ⟨x4, e3, f3⟩ := lgi_s f2
    obtain ⟨x5, e4, f4⟩ := lgi_s f3
    obtain ⟨x6, e5, f5⟩ := lgi_s f4
    obtain ⟨qe, fe⟩ := pe_s f5
    subst qe
    exact MW.sub (List.forall_mem_cons.mpr ⟨lg_mem e0, List.forall_mem_cons.mpr ⟨lg_mem e1, List.forall_mem_cons.mpr ⟨lg_mem e2, List.forall_mem_cons.mpr ⟨lg_mem e3, List.forall_mem_cons.mpr ⟨lg_mem e4, List.forall_mem_cons.mpr ⟨lg_mem e5, fun _ h => absurd h List.not_mem_nil⟩⟩⟩⟩⟩⟩) (t_X6_take_25 N N a0 a1 x3 x4 x5 x6 g fe)
  cases e
def f_X7_init (N : Nat) (a0 : Nat) (h : mH) : Option (mH) :=
  (nwA h 0 (jI 9)).bind fun h1 =>
  (pV h1 7 a0 0 (.ref h.1)).bind fun h2 =>
  (nwA h2 0 (jI 40)).bind fun h3 =>
  (pV h3 7 a0 1 (.ref h2.1)).bind fun h4 =>
  some h4
def y_X7_init : mM := (yX7_init, cX7_init, 1, none)
def B_X7_init : List (Nat × List mI) := []
def S_X7_init_0 : List mI := [(.aload_n 0, 1, [0], []), (.invokespecial 3, 3, [5, 0, 0, 0, 11], []), (.aload_n 0, 1, [0], []), (.bipush 9, 2, [], [9]), (.newarray .int, 2, [0], []), (.putfield 11, 3, [7, 0, 2, 107], []), (.aload_n 0, 1, [0], []), (.bipush 40, 2, [], [40]), (.newarray .int, 2, [0], []), (.putfield 17, 3, [7, 1, 2, 108], []), (.return_, 1, [], [])]
theorem lb_X7_init : B_X7_init.all (fun b => lst y_X7_init.2.1 7 y_X7_init.2.2.1 true b.1 b.2) = true := by decide +kernel
theorem ls_X7_init_0 : lst y_X7_init.2.1 7 y_X7_init.2.2.1 true 0 S_X7_init_0 = true := by decide +kernel
def C_X7_init (N : Nat) : Nat → List Value → mH → (Option Value → mH → Option (mH)) → Option (mH) := fun j as g k => none
theorem co_X7_init (N : Nat) (q : mH) : clOK 4 q (C_X7_init N) := by
  intro j as g k e
  cases e
set_option maxRecDepth 100000 in
theorem m_X7_init (N : Nat) {a0 : Nat} {h : mH} {q : mH} (hf : f_X7_init N a0 h = some q) : MM y_X7_init 4 [.ref a0] h none q := by
  refine MM.of (mFx (j := 85) rfl).2.2.2.1 (Nat.le_of_ble_eq_true rfl) (fun X => ?_)
  refine ev_ok (o := 7) (ini := true) (Cl := C_X7_init N) (Rc := RcV) (B := B_X7_init) (K := fun pc ls st g => none) rfl (fun _ => rfl) (by decide) (rcV_ok rfl) ?_ (co_X7_init N q) lb_X7_init 3000 0 S_X7_init_0 _ _ h ls_X7_init_0 hf
  intro pc ls st g e
  cases e
def J_X7_make_55 (N : Nat) (k26 : Nat → Nat → Int32 → Int32 → mH → Option (mH)) (a0 : Nat) (a1 : Nat) (x2 : Int32) (x3 : Int32) (s_0 : Int32) (h : mH) : Option (mH) :=
  if s_0 < (iSub x2 (jI 1)) then
    (gR h 7 a0 0).bind fun v1 =>
    (lnA h v1).bind fun v2 =>
    if (iAdd s_0 (jI 1)) < v2 then
      (gR h 7 a0 0).bind fun v3 =>
      (ldI 0 h v3 s_0).bind fun v4 =>
      (gR h 7 a0 0).bind fun v5 =>
      (gR h 7 a0 0).bind fun v6 =>
      (ldI 0 h v6 (iAdd s_0 (jI 1))).bind fun v7 =>
      (stI 0 h v5 s_0 v7).bind fun h8 =>
      (gR h8 7 a0 0).bind fun v9 =>
      (stI 0 h8 v9 (iAdd s_0 (jI 1)) v4).bind fun h10 =>
      let w11 := iAdd x3 (jI 1)
      k26 a0 a1 x2 w11 h10
    else
      let w12 := iAdd x3 (jI 1)
      k26 a0 a1 x2 w12 h
  else
    let w13 := iAdd x3 (jI 1)
    k26 a0 a1 x2 w13 h
def L_X7_make_26 (N : Nat) : Nat → Nat → Nat → Int32 → Int32 → mH → Option (mH)
  | 0, _, _, _, _, _ => none
  | n + 1, a0, a1, x2, x3, h =>
    (gI h 5 a1 0).bind fun v1 =>
    if x3 < v1 then
      (rcv h 5 a1).bind fun _ =>
      (f_X5_intAt N a1 x3 h).bind fun p2 =>
      if p2.1 < 0 then
        J_X7_make_55 N (L_X7_make_26 N n) a0 a1 x2 x3 (iSub (jI (-1)) p2.1) p2.2
      else
        J_X7_make_55 N (L_X7_make_26 N n) a0 a1 x2 x3 p2.1 p2.2
    else
      some h
def L_X7_make_2 (N : Nat) : Nat → Nat → Nat → Int32 → Int32 → mH → Option (mH)
  | 0, _, _, _, _, _ => none
  | n + 1, a0, a1, x2, x3, h =>
    (gR h 7 a0 0).bind fun v1 =>
    (lnA h v1).bind fun v2 =>
    if x3 < v2 then
      (gR h 7 a0 0).bind fun v3 =>
      (stI 0 h v3 x3 x3).bind fun h4 =>
      let w5 := iAdd x3 (jI 1)
      L_X7_make_2 N n a0 a1 x2 w5 h4
    else
      L_X7_make_26 N N a0 a1 x2 (jI 0) h
def f_X7_make (N : Nat) (a0 : Nat) (a1 : Nat) (x2 : Int32) (h : mH) : Option (mH) :=
  L_X7_make_2 N N a0 a1 x2 (jI 0) h
def y_X7_make : mM := (yX7_make, cX7_make, 7, none)
def B_X7_make : List (Nat × List mI) := [(24, [(.iconst 0, 1, [], [0]), (.istore_n 3, 1, [3], [])]), (53, [(.iload 4, 2, [4], [])]), (113, [(.iinc 3 1, 3, [3], [1]), (.goto (-90), 3, [26], [])]), (119, [(.return_, 1, [], [])])]
def S_X7_make_0 : List mI := [(.iconst 0, 1, [], [0]), (.istore_n 3, 1, [3], [])]
def S_X7_make_2 : List mI := [(.iload_n 3, 1, [3], []), (.aload_n 0, 1, [0], []), (.getfield 11, 3, [7, 0, 2, 107], []), (.arraylength, 1, [0], []), (.if_icmp .ge 16, 3, [24], []), (.aload_n 0, 1, [0], []), (.getfield 11, 3, [7, 0, 2, 107], []), (.iload_n 3, 1, [3], []), (.iload_n 3, 1, [3], []), (.iastore, 1, [], []), (.iinc 3 1, 3, [3], [1]), (.goto (-19), 3, [2], [])]
def S_X7_make_26 : List mI := [(.iload_n 3, 1, [3], []), (.aload_n 1, 1, [1], []), (.getfield 20, 3, [5, 0, 0, 69], []), (.if_icmp .ge 88, 3, [119], []), (.aload_n 1, 1, [1], []), (.iload_n 3, 1, [3], []), (.invokevirtual 24, 3, [0, 76, 1, 5, 180], []), (.istore 4, 2, [4], []), (.iload 4, 2, [4], []), (.ifCond .ge 10, 3, [53], []), (.iconst (-1), 1, [], [-1]), (.iload 4, 2, [4], []), (.isub, 1, [], []), (.goto 5, 3, [55], [])]
def S_X7_make_55 : List mI := [(.istore 5, 2, [5], []), (.iload 5, 2, [5], []), (.iload_n 2, 1, [2], []), (.iconst 1, 1, [], [1]), (.isub, 1, [], []), (.if_icmp .ge 51, 3, [113], []), (.iload 5, 2, [5], []), (.iconst 1, 1, [], [1]), (.iadd, 1, [], []), (.aload_n 0, 1, [0], []), (.getfield 11, 3, [7, 0, 2, 107], []), (.arraylength, 1, [0], []), (.if_icmp .ge 39, 3, [113], []), (.aload_n 0, 1, [0], []), (.getfield 11, 3, [7, 0, 2, 107], []), (.iload 5, 2, [5], []), (.iaload, 1, [0], []), (.istore 6, 2, [6], []), (.aload_n 0, 1, [0], []), (.getfield 11, 3, [7, 0, 2, 107], []), (.iload 5, 2, [5], []), (.aload_n 0, 1, [0], []), (.getfield 11, 3, [7, 0, 2, 107], []), (.iload 5, 2, [5], []), (.iconst 1, 1, [], [1]), (.iadd, 1, [], []), (.iaload, 1, [0], []), (.iastore, 1, [], []), (.aload_n 0, 1, [0], []), (.getfield 11, 3, [7, 0, 2, 107], []), (.iload 5, 2, [5], []), (.iconst 1, 1, [], [1]), (.iadd, 1, [], []), (.iload 6, 2, [6], []), (.iastore, 1, [], [])]
theorem lb_X7_make : B_X7_make.all (fun b => lst y_X7_make.2.1 7 y_X7_make.2.2.1 false b.1 b.2) = true := by decide +kernel
theorem ls_X7_make_0 : lst y_X7_make.2.1 7 y_X7_make.2.2.1 false 0 S_X7_make_0 = true := by decide +kernel
theorem ls_X7_make_2 : lst y_X7_make.2.1 7 y_X7_make.2.2.1 false 2 S_X7_make_2 = true := by decide +kernel
theorem ls_X7_make_26 : lst y_X7_make.2.1 7 y_X7_make.2.2.1 false 26 S_X7_make_26 = true := by decide +kernel
theorem ls_X7_make_55 : lst y_X7_make.2.1 7 y_X7_make.2.2.1 false 55 S_X7_make_55 = true := by decide +kernel
def C_X7_make (N : Nat) : Nat → List Value → mH → (Option Value → mH → Option (mH)) → Option (mH) := fun j as g k => kb j 76 (pr1 as fun b0 as => pp1 as fun b1 as => pe as ((f_X5_intAt N b0 b1 g).bind fun p => k (some (.int p.1)) p.2)) (none)
theorem co_X7_make (N : Nat) (q : mH) : clOK 5 q (C_X7_make N) := by
  intro j as g k e
  rcases kb_s e with ⟨rfl, e⟩ | e
  · obtain ⟨b0, r0, q0, f0⟩ := pr1_s e
    obtain ⟨b1, r1, q1, f1⟩ := pp1_s f0
    obtain ⟨qe, fe⟩ := pe_s f1
    obtain ⟨p, e1, e2⟩ := bnd_s fe
    subst qe
    subst q1
    subst q0
    exact ⟨_, _, _, _, 4, rfl, (by decide), m_X5_intAt N e1, e2⟩
  cases e
set_option maxRecDepth 100000 in
theorem t_X7_make_55 {X : Nat × (Nat → Int32)} (N : Nat) {q : mH} {k26 : Nat → Nat → Int32 → Int32 → mH → Option (mH)} (hk26 : ∀ (a0 : Nat) (a1 : Nat) (x2 : Int32) (x3 : Int32) g, k26 a0 a1 x2 x3 g = some q → MW X y_X7_make 5 26 [(0, .ref a0), (1, .ref a1), (2, .int x2), (3, .int x3)] [] g none q) (a0 : Nat) (a1 : Nat) (x2 : Int32) (x3 : Int32) (s_0 : Int32) (h : mH) (hf : J_X7_make_55 N k26 a0 a1 x2 x3 s_0 h = some q) : MW X y_X7_make 5 55 [(0, .ref a0), (1, .ref a1), (2, .int x2), (3, .int x3)] [.int s_0] h none q := by
  refine ev_ok (o := 7) (ini := false) (Cl := C_X7_make N) (Rc := RcV) (B := B_X7_make) (K := fun pc ls st g => kb pc 26 (lgr 0 ls fun a0 => lgr 1 ls fun a1 => lgi 2 ls fun x2 => lgi 3 ls fun x3 => pe st (k26 a0 a1 x2 x3 g)) (none)) rfl (fun e => by cases e) (by decide) (rcV_ok rfl) ?_ (co_X7_make N q) lb_X7_make 3000 55 S_X7_make_55 _ _ h ls_X7_make_55 hf
  intro pc ls st g e
  rcases kb_s e with ⟨rfl, e⟩ | e
  · obtain ⟨a0, e0, f0⟩ := lgr_s e
    obtain ⟨a1, e1, f1⟩ := lgr_s f0
    obtain ⟨x2, e2, f2⟩ := lgi_s f1
    obtain ⟨x3, e3, f3⟩ := lgi_s f2
    obtain ⟨qe, fe⟩ := pe_s f3
    subst qe
    exact MW.sub (List.forall_mem_cons.mpr ⟨lg_mem e0, List.forall_mem_cons.mpr ⟨lg_mem e1, List.forall_mem_cons.mpr ⟨lg_mem e2, List.forall_mem_cons.mpr ⟨lg_mem e3, fun _ h => absurd h List.not_mem_nil⟩⟩⟩⟩) (hk26 a0 a1 x2 x3 g fe)
  cases e
set_option maxRecDepth 100000 in
theorem t_X7_make_26 {X : Nat × (Nat → Int32)} (N : Nat) {q : mH} : ∀ (n : Nat) (a0 : Nat) (a1 : Nat) (x2 : Int32) (x3 : Int32) (h : mH), L_X7_make_26 N n a0 a1 x2 x3 h = some q → MW X y_X7_make 5 26 [(0, .ref a0), (1, .ref a1), (2, .int x2), (3, .int x3)] [] h none q := by
  intro n
  induction n with
  | zero => intro a0 a1 x2 x3 h hf; cases hf
  | succ n ih =>
    intro a0 a1 x2 x3 h hf
    refine ev_ok (o := 7) (ini := false) (Cl := C_X7_make N) (Rc := RcV) (B := B_X7_make) (K := fun pc ls st g => kb pc 55 (lgr 0 ls fun a0 => lgr 1 ls fun a1 => lgi 2 ls fun x2 => lgi 3 ls fun x3 => pp1 st fun s_0 st => pe st (J_X7_make_55 N (L_X7_make_26 N n) a0 a1 x2 x3 s_0 g)) (none)) rfl (fun e => by cases e) (by decide) (rcV_ok rfl) ?_ (co_X7_make N q) lb_X7_make 3000 26 S_X7_make_26 _ _ h ls_X7_make_26 hf
    intro pc ls st g e
    rcases kb_s e with ⟨rfl, e⟩ | e
    · obtain ⟨a0, e0, f0⟩ := lgr_s e
      obtain ⟨a1, e1, f1⟩ := lgr_s f0
      obtain ⟨x2, e2, f2⟩ := lgi_s f1
      obtain ⟨x3, e3, f3⟩ := lgi_s f2
      obtain ⟨s_0, r0, q0, g0⟩ := pp1_s f3
      obtain ⟨qe, fe⟩ := pe_s g0
      subst qe
      subst q0
      exact MW.sub (List.forall_mem_cons.mpr ⟨lg_mem e0, List.forall_mem_cons.mpr ⟨lg_mem e1, List.forall_mem_cons.mpr ⟨lg_mem e2, List.forall_mem_cons.mpr ⟨lg_mem e3, fun _ h => absurd h List.not_mem_nil⟩⟩⟩⟩) (t_X7_make_55 N (fun a0 a1 x2 x3 g e => ih a0 a1 x2 x3 g e) a0 a1 x2 x3 s_0 g fe)
    cases e
set_option maxRecDepth 100000 in
theorem t_X7_make_2 {X : Nat × (Nat → Int32)} (N : Nat) {q : mH} : ∀ (n : Nat) (a0 : Nat) (a1 : Nat) (x2 : Int32) (x3 : Int32) (h : mH), L_X7_make_2 N n a0 a1 x2 x3 h = some q → MW X y_X7_make 5 2 [(0, .ref a0), (1, .ref a1), (2, .int x2), (3, .int x3)] [] h none q := by
  intro n
  induction n with
  | zero => intro a0 a1 x2 x3 h hf; cases hf
  | succ n ih =>
    intro a0 a1 x2 x3 h hf
    refine ev_ok (o := 7) (ini := false) (Cl := C_X7_make N) (Rc := RcV) (B := B_X7_make) (K := fun pc ls st g => kb pc 2 (lgr 0 ls fun a0 => lgr 1 ls fun a1 => lgi 2 ls fun x2 => lgi 3 ls fun x3 => pe st (L_X7_make_2 N n a0 a1 x2 x3 g)) (kb pc 26 (lgr 0 ls fun a0 => lgr 1 ls fun a1 => lgi 2 ls fun x2 => lgi 3 ls fun x3 => pe st (L_X7_make_26 N N a0 a1 x2 x3 g)) (none))) rfl (fun e => by cases e) (by decide) (rcV_ok rfl) ?_ (co_X7_make N q) lb_X7_make 3000 2 S_X7_make_2 _ _ h ls_X7_make_2 hf
    intro pc ls st g e
    rcases kb_s e with ⟨rfl, e⟩ | e
    · obtain ⟨a0, e0, f0⟩ := lgr_s e
      obtain ⟨a1, e1, f1⟩ := lgr_s f0
      obtain ⟨x2, e2, f2⟩ := lgi_s f1
      obtain ⟨x3, e3, f3⟩ := lgi_s f2
      obtain ⟨qe, fe⟩ := pe_s f3
      subst qe
      exact MW.sub (List.forall_mem_cons.mpr ⟨lg_mem e0, List.forall_mem_cons.mpr ⟨lg_mem e1, List.forall_mem_cons.mpr ⟨lg_mem e2, List.forall_mem_cons.mpr ⟨lg_mem e3, fun _ h => absurd h List.not_mem_nil⟩⟩⟩⟩) (ih a0 a1 x2 x3 g fe)
    rcases kb_s e with ⟨rfl, e⟩ | e
    · obtain ⟨a0, e0, f0⟩ := lgr_s e
      obtain ⟨a1, e1, f1⟩ := lgr_s f0
      obtain ⟨x2, e2, f2⟩ := lgi_s f1
      obtain ⟨x3, e3, f3⟩ := lgi_s f2
      obtain ⟨qe, fe⟩ := pe_s f3
      subst qe
      exact MW.sub (List.forall_mem_cons.mpr ⟨lg_mem e0, List.forall_mem_cons.mpr ⟨lg_mem e1, List.forall_mem_cons.mpr ⟨lg_mem e2, List.forall_mem_cons.mpr ⟨lg_mem e3, fun _ h => absurd h List.not_mem_nil⟩⟩⟩⟩) (t_X7_make_26 N N a0 a1 x2 x3 g fe)
    cases e
set_option maxRecDepth 100000 in
theorem m_X7_make (N : Nat) {a0 : Nat} {a1 : Nat} {x2 : Int32} {h : mH} {q : mH} (hf : f_X7_make N a0 a1 x2 h = some q) : MM y_X7_make 5 [.ref a0, .ref a1, .int x2] h none q := by
  refine MM.of (mFx (j := 86) rfl).2.2.2.1 (Nat.le_of_ble_eq_true rfl) (fun X => ?_)
  refine ev_ok (o := 7) (ini := false) (Cl := C_X7_make N) (Rc := RcV) (B := B_X7_make) (K := fun pc ls st g => kb pc 2 (lgr 0 ls fun a0 => lgr 1 ls fun a1 => lgi 2 ls fun x2 => lgi 3 ls fun x3 => pe st (L_X7_make_2 N N a0 a1 x2 x3 g)) (none)) rfl (fun e => by cases e) (by decide) (rcV_ok rfl) ?_ (co_X7_make N q) lb_X7_make 3000 0 S_X7_make_0 _ _ h ls_X7_make_0 hf
  intro pc ls st g e
  rcases kb_s e with ⟨rfl, e⟩ | e
  · obtain ⟨a0, e0, f0⟩ := lgr_s e
    obtain ⟨a1, e1, f1⟩ := lgr_s f0
    obtain ⟨x2, e2, f2⟩ := lgi_s f1
    obtain ⟨x3, e3, f3⟩ := lgi_s f2
    obtain ⟨qe, fe⟩ := pe_s f3
    subst qe
    exact MW.sub (List.forall_mem_cons.mpr ⟨lg_mem e0, List.forall_mem_cons.mpr ⟨lg_mem e1, List.forall_mem_cons.mpr ⟨lg_mem e2, List.forall_mem_cons.mpr ⟨lg_mem e3, fun _ h => absurd h List.not_mem_nil⟩⟩⟩⟩) (t_X7_make_2 N N a0 a1 x2 x3 g fe)
  cases e
def f_X7_strandAt (N : Nat) (a0 : Nat) (x1 : Int32) (x2 : Int32) (h : mH) : Option (Int32 × mH) :=
  if x1 < 0 then
    some (jI (-1), h)
  else
    if x1 < x2 then
      (gR h 7 a0 0).bind fun v1 =>
      (lnA h v1).bind fun v2 =>
      if x1 < v2 then
        (gR h 7 a0 0).bind fun v3 =>
        (ldI 0 h v3 x1).bind fun v4 =>
        some (v4, h)
      else
        some (jI (-1), h)
    else
      some (jI (-1), h)
def y_X7_strandAt : mM := (yX7_strandAt, cX7_strandAt, 3, (some .int))
def B_X7_strandAt : List (Nat × List mI) := [(27, [(.iconst (-1), 1, [], [-1])]), (28, [(.ireturn, 1, [], [])])]
def S_X7_strandAt_0 : List mI := [(.iload_n 1, 1, [1], []), (.ifCond .lt 26, 3, [27], []), (.iload_n 1, 1, [1], []), (.iload_n 2, 1, [2], []), (.if_icmp .ge 21, 3, [27], []), (.iload_n 1, 1, [1], []), (.aload_n 0, 1, [0], []), (.getfield 11, 3, [7, 0, 2, 107], []), (.arraylength, 1, [0], []), (.if_icmp .ge 12, 3, [27], []), (.aload_n 0, 1, [0], []), (.getfield 11, 3, [7, 0, 2, 107], []), (.iload_n 1, 1, [1], []), (.iaload, 1, [0], []), (.goto 4, 3, [28], [])]
theorem lb_X7_strandAt : B_X7_strandAt.all (fun b => lst y_X7_strandAt.2.1 7 y_X7_strandAt.2.2.1 false b.1 b.2) = true := by decide +kernel
theorem ls_X7_strandAt_0 : lst y_X7_strandAt.2.1 7 y_X7_strandAt.2.2.1 false 0 S_X7_strandAt_0 = true := by decide +kernel
def C_X7_strandAt (N : Nat) : Nat → List Value → mH → (Option Value → mH → Option (Int32 × mH)) → Option (Int32 × mH) := fun j as g k => none
theorem co_X7_strandAt (N : Nat) (q : Int32 × mH) : clOK 4 q (C_X7_strandAt N) := by
  intro j as g k e
  cases e
set_option maxRecDepth 100000 in
theorem m_X7_strandAt (N : Nat) {a0 : Nat} {x1 : Int32} {x2 : Int32} {h : mH} {q : Int32 × mH} (hf : f_X7_strandAt N a0 x1 x2 h = some q) : MM y_X7_strandAt 4 [.ref a0, .int x1, .int x2] h (some (.int q.1)) q.2 := by
  refine MM.of (mFx (j := 87) rfl).2.2.2.1 (Nat.le_of_ble_eq_true rfl) (fun X => ?_)
  refine ev_ok (o := 7) (ini := false) (Cl := C_X7_strandAt N) (Rc := RcI) (B := B_X7_strandAt) (K := fun pc ls st g => none) rfl (fun e => by cases e) (by decide) (rcI_ok rfl) ?_ (co_X7_strandAt N q) lb_X7_strandAt 3000 0 S_X7_strandAt_0 _ _ h ls_X7_strandAt_0 hf
  intro pc ls st g e
  cases e
def L_X7_ringOf_9 (N : Nat) : Nat → Nat → Int32 → Int32 → Int32 → mH → Option (Int32 × mH)
  | 0, _, _, _, _, _ => none
  | n + 1, a0, x1, x2, x3, h =>
    if x2 = x1 then
      some (x3, h)
    else
      if x3 < (jI 9) then
        (gR h 7 a0 0).bind fun v1 =>
        (ldI 0 h v1 x2).bind fun v2 =>
        let w3 := iAdd x3 (jI 1)
        L_X7_ringOf_9 N n a0 x1 v2 w3 h
      else
        some (x3, h)
def f_X7_ringOf (N : Nat) (a0 : Nat) (x1 : Int32) (h : mH) : Option (Int32 × mH) :=
  (gR h 7 a0 0).bind fun v1 =>
  (ldI 0 h v1 x1).bind fun v2 =>
  L_X7_ringOf_9 N N a0 x1 v2 (jI 1) h
def y_X7_ringOf : mM := (yX7_ringOf, cX7_ringOf, 4, (some .int))
def B_X7_ringOf : List (Nat × List mI) := [(33, [(.iload_n 3, 1, [3], []), (.ireturn, 1, [], [])])]
def S_X7_ringOf_0 : List mI := [(.aload_n 0, 1, [0], []), (.getfield 11, 3, [7, 0, 2, 107], []), (.iload_n 1, 1, [1], []), (.iaload, 1, [0], []), (.istore_n 2, 1, [2], []), (.iconst 1, 1, [], [1]), (.istore_n 3, 1, [3], [])]
def S_X7_ringOf_9 : List mI := [(.iload_n 2, 1, [2], []), (.iload_n 1, 1, [1], []), (.if_icmp .eq 22, 3, [33], []), (.iload_n 3, 1, [3], []), (.bipush 9, 2, [], [9]), (.if_icmp .ge 16, 3, [33], []), (.aload_n 0, 1, [0], []), (.getfield 11, 3, [7, 0, 2, 107], []), (.iload_n 2, 1, [2], []), (.iaload, 1, [0], []), (.istore_n 2, 1, [2], []), (.iinc 3 1, 3, [3], [1]), (.goto (-21), 3, [9], [])]
theorem lb_X7_ringOf : B_X7_ringOf.all (fun b => lst y_X7_ringOf.2.1 7 y_X7_ringOf.2.2.1 false b.1 b.2) = true := by decide +kernel
theorem ls_X7_ringOf_0 : lst y_X7_ringOf.2.1 7 y_X7_ringOf.2.2.1 false 0 S_X7_ringOf_0 = true := by decide +kernel
theorem ls_X7_ringOf_9 : lst y_X7_ringOf.2.1 7 y_X7_ringOf.2.2.1 false 9 S_X7_ringOf_9 = true := by decide +kernel
def C_X7_ringOf (N : Nat) : Nat → List Value → mH → (Option Value → mH → Option (Int32 × mH)) → Option (Int32 × mH) := fun j as g k => none
theorem co_X7_ringOf (N : Nat) (q : Int32 × mH) : clOK 4 q (C_X7_ringOf N) := by
  intro j as g k e
  cases e
set_option maxRecDepth 100000 in
theorem t_X7_ringOf_9 {X : Nat × (Nat → Int32)} (N : Nat) {q : Int32 × mH} : ∀ (n : Nat) (a0 : Nat) (x1 : Int32) (x2 : Int32) (x3 : Int32) (h : mH), L_X7_ringOf_9 N n a0 x1 x2 x3 h = some q → MW X y_X7_ringOf 4 9 [(0, .ref a0), (1, .int x1), (2, .int x2), (3, .int x3)] [] h (some (.int q.1)) q.2 := by
  intro n
  induction n with
  | zero => intro a0 x1 x2 x3 h hf; cases hf
  | succ n ih =>
    intro a0 x1 x2 x3 h hf
    refine ev_ok (o := 7) (ini := false) (Cl := C_X7_ringOf N) (Rc := RcI) (B := B_X7_ringOf) (K := fun pc ls st g => kb pc 9 (lgr 0 ls fun a0 => lgi 1 ls fun x1 => lgi 2 ls fun x2 => lgi 3 ls fun x3 => pe st (L_X7_ringOf_9 N n a0 x1 x2 x3 g)) (none)) rfl (fun e => by cases e) (by decide) (rcI_ok rfl) ?_ (co_X7_ringOf N q) lb_X7_ringOf 3000 9 S_X7_ringOf_9 _ _ h ls_X7_ringOf_9 hf
    intro pc ls st g e
    rcases kb_s e with ⟨rfl, e⟩ | e
    · obtain ⟨a0, e0, f0⟩ := lgr_s e
      obtain ⟨x1, e1, f1⟩ := lgi_s f0
      obtain ⟨x2, e2, f2⟩ := lgi_s f1
      obtain ⟨x3, e3, f3⟩ := lgi_s f2
      obtain ⟨qe, fe⟩ := pe_s f3
      subst qe
      exact MW.sub (List.forall_mem_cons.mpr ⟨lg_mem e0, List.forall_mem_cons.mpr ⟨lg_mem e1, List.forall_mem_cons.mpr ⟨lg_mem e2, List.forall_mem_cons.mpr ⟨lg_mem e3, fun _ h => absurd h List.not_mem_nil⟩⟩⟩⟩) (ih a0 x1 x2 x3 g fe)
    cases e
set_option maxRecDepth 100000 in
theorem m_X7_ringOf (N : Nat) {a0 : Nat} {x1 : Int32} {h : mH} {q : Int32 × mH} (hf : f_X7_ringOf N a0 x1 h = some q) : MM y_X7_ringOf 4 [.ref a0, .int x1] h (some (.int q.1)) q.2 := by
  refine MM.of (mFx (j := 89) rfl).2.2.2.1 (Nat.le_of_ble_eq_true rfl) (fun X => ?_)
  refine ev_ok (o := 7) (ini := false) (Cl := C_X7_ringOf N) (Rc := RcI) (B := B_X7_ringOf) (K := fun pc ls st g => kb pc 9 (lgr 0 ls fun a0 => lgi 1 ls fun x1 => lgi 2 ls fun x2 => lgi 3 ls fun x3 => pe st (L_X7_ringOf_9 N N a0 x1 x2 x3 g)) (none)) rfl (fun e => by cases e) (by decide) (rcI_ok rfl) ?_ (co_X7_ringOf N q) lb_X7_ringOf 3000 0 S_X7_ringOf_0 _ _ h ls_X7_ringOf_0 hf
  intro pc ls st g e
  rcases kb_s e with ⟨rfl, e⟩ | e
  · obtain ⟨a0, e0, f0⟩ := lgr_s e
    obtain ⟨x1, e1, f1⟩ := lgi_s f0
    obtain ⟨x2, e2, f2⟩ := lgi_s f1
    obtain ⟨x3, e3, f3⟩ := lgi_s f2
    obtain ⟨qe, fe⟩ := pe_s f3
    subst qe
    exact MW.sub (List.forall_mem_cons.mpr ⟨lg_mem e0, List.forall_mem_cons.mpr ⟨lg_mem e1, List.forall_mem_cons.mpr ⟨lg_mem e2, List.forall_mem_cons.mpr ⟨lg_mem e3, fun _ h => absurd h List.not_mem_nil⟩⟩⟩⟩) (t_X7_ringOf_9 N N a0 x1 x2 x3 g fe)
  cases e
def L_X11_commonDivisor_7 (N : Nat) : Nat → Int32 → Int32 → Int32 → mH → Option (Int32 × mH)
  | 0, _, _, _, _ => none
  | n + 1, x2, x3, x4, h =>
    if x4 < (jI 64) then
      if 0 < x3 then
        if x3 = 0 then none else
        let w1 := iRem x2 x3
        let w2 := iAdd x4 (jI 1)
        L_X11_commonDivisor_7 N n x3 w1 w2 h
      else
        some (iMax (jI 1) x2, h)
    else
      some (iMax (jI 1) x2, h)
def f_X11_commonDivisor (N : Nat) (x0 : Int32) (x1 : Int32) (h : mH) : Option (Int32 × mH) :=
  L_X11_commonDivisor_7 N N x0 x1 (jI 0) h
def y_X11_commonDivisor : mM := (yX11_commonDivisor, cX11_commonDivisor, 6, (some .int))
def B_X11_commonDivisor : List (Nat × List mI) := [(34, [(.iconst 1, 1, [], [1]), (.iload_n 2, 1, [2], []), (.invokestatic 459, 3, [6, 0, 0, 0, 19], []), (.ireturn, 1, [], [])])]
def S_X11_commonDivisor_0 : List mI := [(.iload_n 0, 1, [0], []), (.istore_n 2, 1, [2], []), (.iload_n 1, 1, [1], []), (.istore_n 3, 1, [3], []), (.iconst 0, 1, [], [0]), (.istore 4, 2, [4], [])]
def S_X11_commonDivisor_7 : List mI := [(.iload 4, 2, [4], []), (.bipush 64, 2, [], [64]), (.if_icmp .ge 23, 3, [34], []), (.iload_n 3, 1, [3], []), (.ifCond .le 19, 3, [34], []), (.iload_n 2, 1, [2], []), (.iload_n 3, 1, [3], []), (.irem, 1, [], []), (.istore 5, 2, [5], []), (.iload_n 3, 1, [3], []), (.istore_n 2, 1, [2], []), (.iload 5, 2, [5], []), (.istore_n 3, 1, [3], []), (.iinc 4 1, 3, [4], [1]), (.goto (-24), 3, [7], [])]
theorem lb_X11_commonDivisor : B_X11_commonDivisor.all (fun b => lst y_X11_commonDivisor.2.1 11 y_X11_commonDivisor.2.2.1 false b.1 b.2) = true := by decide +kernel
theorem ls_X11_commonDivisor_0 : lst y_X11_commonDivisor.2.1 11 y_X11_commonDivisor.2.2.1 false 0 S_X11_commonDivisor_0 = true := by decide +kernel
theorem ls_X11_commonDivisor_7 : lst y_X11_commonDivisor.2.1 11 y_X11_commonDivisor.2.2.1 false 7 S_X11_commonDivisor_7 = true := by decide +kernel
def C_X11_commonDivisor (N : Nat) : Nat → List Value → mH → (Option Value → mH → Option (Int32 × mH)) → Option (Int32 × mH) := fun j as g k => none
theorem co_X11_commonDivisor (N : Nat) (q : Int32 × mH) : clOK 4 q (C_X11_commonDivisor N) := by
  intro j as g k e
  cases e
set_option maxRecDepth 100000 in
theorem t_X11_commonDivisor_7 {X : Nat × (Nat → Int32)} (N : Nat) {q : Int32 × mH} : ∀ (n : Nat) (x2 : Int32) (x3 : Int32) (x4 : Int32) (h : mH), L_X11_commonDivisor_7 N n x2 x3 x4 h = some q → MW X y_X11_commonDivisor 4 7 [(2, .int x2), (3, .int x3), (4, .int x4)] [] h (some (.int q.1)) q.2 := by
  intro n
  induction n with
  | zero => intro x2 x3 x4 h hf; cases hf
  | succ n ih =>
    intro x2 x3 x4 h hf
    refine ev_ok (o := 11) (ini := false) (Cl := C_X11_commonDivisor N) (Rc := RcI) (B := B_X11_commonDivisor) (K := fun pc ls st g => kb pc 7 (lgi 2 ls fun x2 => lgi 3 ls fun x3 => lgi 4 ls fun x4 => pe st (L_X11_commonDivisor_7 N n x2 x3 x4 g)) (none)) rfl (fun e => by cases e) (by decide) (rcI_ok rfl) ?_ (co_X11_commonDivisor N q) lb_X11_commonDivisor 3000 7 S_X11_commonDivisor_7 _ _ h ls_X11_commonDivisor_7 hf
    intro pc ls st g e
    rcases kb_s e with ⟨rfl, e⟩ | e
    · obtain ⟨x2, e0, f0⟩ := lgi_s e
      obtain ⟨x3, e1, f1⟩ := lgi_s f0
      obtain ⟨x4, e2, f2⟩ := lgi_s f1
      obtain ⟨qe, fe⟩ := pe_s f2
      subst qe
      exact MW.sub (List.forall_mem_cons.mpr ⟨lg_mem e0, List.forall_mem_cons.mpr ⟨lg_mem e1, List.forall_mem_cons.mpr ⟨lg_mem e2, fun _ h => absurd h List.not_mem_nil⟩⟩⟩) (ih x2 x3 x4 g fe)
    cases e
set_option maxRecDepth 100000 in
theorem m_X11_commonDivisor (N : Nat) {x0 : Int32} {x1 : Int32} {h : mH} {q : Int32 × mH} (hf : f_X11_commonDivisor N x0 x1 h = some q) : MM y_X11_commonDivisor 4 [.int x0, .int x1] h (some (.int q.1)) q.2 := by
  refine MM.of (mFx (j := 211) rfl).2.2.2.1 (Nat.le_of_ble_eq_true rfl) (fun X => ?_)
  refine ev_ok (o := 11) (ini := false) (Cl := C_X11_commonDivisor N) (Rc := RcI) (B := B_X11_commonDivisor) (K := fun pc ls st g => kb pc 7 (lgi 2 ls fun x2 => lgi 3 ls fun x3 => lgi 4 ls fun x4 => pe st (L_X11_commonDivisor_7 N N x2 x3 x4 g)) (none)) rfl (fun e => by cases e) (by decide) (rcI_ok rfl) ?_ (co_X11_commonDivisor N q) lb_X11_commonDivisor 3000 0 S_X11_commonDivisor_0 _ _ h ls_X11_commonDivisor_0 hf
  intro pc ls st g e
  rcases kb_s e with ⟨rfl, e⟩ | e
  · obtain ⟨x2, e0, f0⟩ := lgi_s e
    obtain ⟨x3, e1, f1⟩ := lgi_s f0
    obtain ⟨x4, e2, f2⟩ := lgi_s f1
    obtain ⟨qe, fe⟩ := pe_s f2
    subst qe
    exact MW.sub (List.forall_mem_cons.mpr ⟨lg_mem e0, List.forall_mem_cons.mpr ⟨lg_mem e1, List.forall_mem_cons.mpr ⟨lg_mem e2, fun _ h => absurd h List.not_mem_nil⟩⟩⟩) (t_X11_commonDivisor_7 N N x2 x3 x4 g fe)
  cases e
def L_X7_orderOf_4 (N : Nat) : Nat → Nat → Int32 → Int32 → Int32 → mH → Option (Int32 × mH)
  | 0, _, _, _, _, _ => none
  | n + 1, a0, x1, x2, x3, h =>
    if x3 < x1 then
      (gR h 7 a0 0).bind fun v1 =>
      (lnA h v1).bind fun v2 =>
      if x3 < v2 then
        (rcv h 7 a0).bind fun _ =>
        (f_X7_ringOf N a0 x3 h).bind fun p3 =>
        (f_X11_commonDivisor N x2 p3.1 p3.2).bind fun p4 =>
        if p4.1 = 0 then none else
        let w5 := iMul (iDiv x2 p4.1) p3.1
        let w6 := iAdd x3 (jI 1)
        L_X7_orderOf_4 N n a0 x1 w5 w6 p4.2
      else
        some (x2, h)
    else
      some (x2, h)
def f_X7_orderOf (N : Nat) (a0 : Nat) (x1 : Int32) (h : mH) : Option (Int32 × mH) :=
  L_X7_orderOf_4 N N a0 x1 (jI 1) (jI 0) h
def y_X7_orderOf : mM := (yX7_orderOf, cX7_orderOf, 5, (some .int))
def B_X7_orderOf : List (Nat × List mI) := [(43, [(.iload_n 2, 1, [2], []), (.ireturn, 1, [], [])])]
def S_X7_orderOf_0 : List mI := [(.iconst 1, 1, [], [1]), (.istore_n 2, 1, [2], []), (.iconst 0, 1, [], [0]), (.istore_n 3, 1, [3], [])]
def S_X7_orderOf_4 : List mI := [(.iload_n 3, 1, [3], []), (.iload_n 1, 1, [1], []), (.if_icmp .ge 37, 3, [43], []), (.iload_n 3, 1, [3], []), (.aload_n 0, 1, [0], []), (.getfield 11, 3, [7, 0, 2, 107], []), (.arraylength, 1, [0], []), (.if_icmp .ge 28, 3, [43], []), (.aload_n 0, 1, [0], []), (.iload_n 3, 1, [3], []), (.invokevirtual 28, 3, [0, 89, 1, 7, 183], []), (.istore 4, 2, [4], []), (.iload_n 2, 1, [2], []), (.iload_n 2, 1, [2], []), (.iload 4, 2, [4], []), (.invokestatic 31, 3, [3, 211, 2, 0, 13], []), (.idiv, 1, [], []), (.iload 4, 2, [4], []), (.imul, 1, [], []), (.istore_n 2, 1, [2], []), (.iinc 3 1, 3, [3], [1]), (.goto (-36), 3, [4], [])]
theorem lb_X7_orderOf : B_X7_orderOf.all (fun b => lst y_X7_orderOf.2.1 7 y_X7_orderOf.2.2.1 false b.1 b.2) = true := by decide +kernel
theorem ls_X7_orderOf_0 : lst y_X7_orderOf.2.1 7 y_X7_orderOf.2.2.1 false 0 S_X7_orderOf_0 = true := by decide +kernel
theorem ls_X7_orderOf_4 : lst y_X7_orderOf.2.1 7 y_X7_orderOf.2.2.1 false 4 S_X7_orderOf_4 = true := by decide +kernel
def C_X7_orderOf (N : Nat) : Nat → List Value → mH → (Option Value → mH → Option (Int32 × mH)) → Option (Int32 × mH) := fun j as g k => kb j 89 (pr1 as fun b0 as => pp1 as fun b1 as => pe as ((f_X7_ringOf N b0 b1 g).bind fun p => k (some (.int p.1)) p.2)) (kb j 211 (pp1 as fun b0 as => pp1 as fun b1 as => pe as ((f_X11_commonDivisor N b0 b1 g).bind fun p => k (some (.int p.1)) p.2)) (none))
theorem co_X7_orderOf (N : Nat) (q : Int32 × mH) : clOK 5 q (C_X7_orderOf N) := by
  intro j as g k e
  rcases kb_s e with ⟨rfl, e⟩ | e
  · obtain ⟨b0, r0, q0, f0⟩ := pr1_s e
    obtain ⟨b1, r1, q1, f1⟩ := pp1_s f0
    obtain ⟨qe, fe⟩ := pe_s f1
    obtain ⟨p, e1, e2⟩ := bnd_s fe
    subst qe
    subst q1
    subst q0
    exact ⟨_, _, _, _, 4, rfl, (by decide), m_X7_ringOf N e1, e2⟩
  rcases kb_s e with ⟨rfl, e⟩ | e
  · obtain ⟨b0, r0, q0, f0⟩ := pp1_s e
    obtain ⟨b1, r1, q1, f1⟩ := pp1_s f0
    obtain ⟨qe, fe⟩ := pe_s f1
    obtain ⟨p, e1, e2⟩ := bnd_s fe
    subst qe
    subst q1
    subst q0
    exact ⟨_, _, _, _, 4, rfl, (by decide), m_X11_commonDivisor N e1, e2⟩
  cases e
set_option maxRecDepth 100000 in
theorem t_X7_orderOf_4 {X : Nat × (Nat → Int32)} (N : Nat) {q : Int32 × mH} : ∀ (n : Nat) (a0 : Nat) (x1 : Int32) (x2 : Int32) (x3 : Int32) (h : mH), L_X7_orderOf_4 N n a0 x1 x2 x3 h = some q → MW X y_X7_orderOf 5 4 [(0, .ref a0), (1, .int x1), (2, .int x2), (3, .int x3)] [] h (some (.int q.1)) q.2 := by
  intro n
  induction n with
  | zero => intro a0 x1 x2 x3 h hf; cases hf
  | succ n ih =>
    intro a0 x1 x2 x3 h hf
    refine ev_ok (o := 7) (ini := false) (Cl := C_X7_orderOf N) (Rc := RcI) (B := B_X7_orderOf) (K := fun pc ls st g => kb pc 4 (lgr 0 ls fun a0 => lgi 1 ls fun x1 => lgi 2 ls fun x2 => lgi 3 ls fun x3 => pe st (L_X7_orderOf_4 N n a0 x1 x2 x3 g)) (none)) rfl (fun e => by cases e) (by decide) (rcI_ok rfl) ?_ (co_X7_orderOf N q) lb_X7_orderOf 3000 4 S_X7_orderOf_4 _ _ h ls_X7_orderOf_4 hf
    intro pc ls st g e
    rcases kb_s e with ⟨rfl, e⟩ | e
    · obtain ⟨a0, e0, f0⟩ := lgr_s e
      obtain ⟨x1, e1, f1⟩ := lgi_s f0
      obtain ⟨x2, e2, f2⟩ := lgi_s f1
      obtain ⟨x3, e3, f3⟩ := lgi_s f2
      obtain ⟨qe, fe⟩ := pe_s f3
      subst qe
      exact MW.sub (List.forall_mem_cons.mpr ⟨lg_mem e0, List.forall_mem_cons.mpr ⟨lg_mem e1, List.forall_mem_cons.mpr ⟨lg_mem e2, List.forall_mem_cons.mpr ⟨lg_mem e3, fun _ h => absurd h List.not_mem_nil⟩⟩⟩⟩) (ih a0 x1 x2 x3 g fe)
    cases e
set_option maxRecDepth 100000 in
theorem m_X7_orderOf (N : Nat) {a0 : Nat} {x1 : Int32} {h : mH} {q : Int32 × mH} (hf : f_X7_orderOf N a0 x1 h = some q) : MM y_X7_orderOf 5 [.ref a0, .int x1] h (some (.int q.1)) q.2 := by
  refine MM.of (mFx (j := 88) rfl).2.2.2.1 (Nat.le_of_ble_eq_true rfl) (fun X => ?_)
  refine ev_ok (o := 7) (ini := false) (Cl := C_X7_orderOf N) (Rc := RcI) (B := B_X7_orderOf) (K := fun pc ls st g => kb pc 4 (lgr 0 ls fun a0 => lgi 1 ls fun x1 => lgi 2 ls fun x2 => lgi 3 ls fun x3 => pe st (L_X7_orderOf_4 N N a0 x1 x2 x3 g)) (none)) rfl (fun e => by cases e) (by decide) (rcI_ok rfl) ?_ (co_X7_orderOf N q) lb_X7_orderOf 3000 0 S_X7_orderOf_0 _ _ h ls_X7_orderOf_0 hf
  intro pc ls st g e
  rcases kb_s e with ⟨rfl, e⟩ | e
  · obtain ⟨a0, e0, f0⟩ := lgr_s e
    obtain ⟨x1, e1, f1⟩ := lgi_s f0
    obtain ⟨x2, e2, f2⟩ := lgi_s f1
    obtain ⟨x3, e3, f3⟩ := lgi_s f2
    obtain ⟨qe, fe⟩ := pe_s f3
    subst qe
    exact MW.sub (List.forall_mem_cons.mpr ⟨lg_mem e0, List.forall_mem_cons.mpr ⟨lg_mem e1, List.forall_mem_cons.mpr ⟨lg_mem e2, List.forall_mem_cons.mpr ⟨lg_mem e3, fun _ h => absurd h List.not_mem_nil⟩⟩⟩⟩) (t_X7_orderOf_4 N N a0 x1 x2 x3 g fe)
  cases e
def L_X7_leftOf_4 (N : Nat) : Nat → Nat → Nat → Int32 → Int32 → mH → Option (Int32 × mH)
  | 0, _, _, _, _, _ => none
  | n + 1, a0, a1, x2, x3, h =>
    (gI h 5 a1 0).bind fun v1 =>
    if x3 < v1 then
      (gR h 7 a0 1).bind fun v2 =>
      (lnA h v2).bind fun v3 =>
      if x3 < v3 then
        (rcv h 5 a1).bind fun _ =>
        (f_X5_intAt N a1 x3 h).bind fun p4 =>
        if 0 < x2 then
          (gR p4.2 7 a0 1).bind fun v5 =>
          (ldI 0 p4.2 v5 (iSub x2 (jI 1))).bind fun v6 =>
          if v6 = (iSub (jI (-1)) p4.1) then
            let w7 := iAdd x2 (jI (-1))
            let w8 := iAdd x3 (jI 1)
            L_X7_leftOf_4 N n a0 a1 w7 w8 p4.2
          else
            (gR p4.2 7 a0 1).bind fun v9 =>
            (stI 0 p4.2 v9 x2 p4.1).bind fun h10 =>
            let w11 := iAdd x2 (jI 1)
            let w12 := iAdd x3 (jI 1)
            L_X7_leftOf_4 N n a0 a1 w11 w12 h10
        else
          (gR p4.2 7 a0 1).bind fun v13 =>
          (stI 0 p4.2 v13 x2 p4.1).bind fun h14 =>
          let w15 := iAdd x2 (jI 1)
          let w16 := iAdd x3 (jI 1)
          L_X7_leftOf_4 N n a0 a1 w15 w16 h14
      else
        some (x2, h)
    else
      some (x2, h)
def f_X7_leftOf (N : Nat) (a0 : Nat) (a1 : Nat) (h : mH) : Option (Int32 × mH) :=
  L_X7_leftOf_4 N N a0 a1 (jI 0) (jI 0) h
def y_X7_leftOf : mM := (yX7_leftOf, cX7_leftOf, 5, (some .int))
def B_X7_leftOf : List (Nat × List mI) := [(53, [(.aload_n 0, 1, [0], []), (.getfield 17, 3, [7, 1, 2, 108], []), (.iload_n 2, 1, [2], []), (.iload 4, 2, [4], []), (.iastore, 1, [], []), (.iinc 2 1, 3, [2], [1])]), (64, [(.iinc 3 1, 3, [3], [1]), (.goto (-63), 3, [4], [])]), (70, [(.iload_n 2, 1, [2], []), (.ireturn, 1, [], [])])]
def S_X7_leftOf_0 : List mI := [(.iconst 0, 1, [], [0]), (.istore_n 2, 1, [2], []), (.iconst 0, 1, [], [0]), (.istore_n 3, 1, [3], [])]
def S_X7_leftOf_4 : List mI := [(.iload_n 3, 1, [3], []), (.aload_n 1, 1, [1], []), (.getfield 20, 3, [5, 0, 0, 69], []), (.if_icmp .ge 61, 3, [70], []), (.iload_n 3, 1, [3], []), (.aload_n 0, 1, [0], []), (.getfield 17, 3, [7, 1, 2, 108], []), (.arraylength, 1, [0], []), (.if_icmp .ge 52, 3, [70], []), (.aload_n 1, 1, [1], []), (.iload_n 3, 1, [3], []), (.invokevirtual 24, 3, [0, 76, 1, 5, 180], []), (.istore 4, 2, [4], []), (.iload_n 2, 1, [2], []), (.ifCond .le 24, 3, [53], []), (.aload_n 0, 1, [0], []), (.getfield 17, 3, [7, 1, 2, 108], []), (.iload_n 2, 1, [2], []), (.iconst 1, 1, [], [1]), (.isub, 1, [], []), (.iaload, 1, [0], []), (.iconst (-1), 1, [], [-1]), (.iload 4, 2, [4], []), (.isub, 1, [], []), (.if_icmp .ne 9, 3, [53], []), (.iinc 2 (-1), 3, [2], [-1]), (.goto 14, 3, [64], [])]
theorem lb_X7_leftOf : B_X7_leftOf.all (fun b => lst y_X7_leftOf.2.1 7 y_X7_leftOf.2.2.1 false b.1 b.2) = true := by decide +kernel
theorem ls_X7_leftOf_0 : lst y_X7_leftOf.2.1 7 y_X7_leftOf.2.2.1 false 0 S_X7_leftOf_0 = true := by decide +kernel
theorem ls_X7_leftOf_4 : lst y_X7_leftOf.2.1 7 y_X7_leftOf.2.2.1 false 4 S_X7_leftOf_4 = true := by decide +kernel
def C_X7_leftOf (N : Nat) : Nat → List Value → mH → (Option Value → mH → Option (Int32 × mH)) → Option (Int32 × mH) := fun j as g k => kb j 76 (pr1 as fun b0 as => pp1 as fun b1 as => pe as ((f_X5_intAt N b0 b1 g).bind fun p => k (some (.int p.1)) p.2)) (none)
theorem co_X7_leftOf (N : Nat) (q : Int32 × mH) : clOK 5 q (C_X7_leftOf N) := by
  intro j as g k e
  rcases kb_s e with ⟨rfl, e⟩ | e
  · obtain ⟨b0, r0, q0, f0⟩ := pr1_s e
    obtain ⟨b1, r1, q1, f1⟩ := pp1_s f0
    obtain ⟨qe, fe⟩ := pe_s f1
    obtain ⟨p, e1, e2⟩ := bnd_s fe
    subst qe
    subst q1
    subst q0
    exact ⟨_, _, _, _, 4, rfl, (by decide), m_X5_intAt N e1, e2⟩
  cases e
set_option maxRecDepth 100000 in
theorem t_X7_leftOf_4 {X : Nat × (Nat → Int32)} (N : Nat) {q : Int32 × mH} : ∀ (n : Nat) (a0 : Nat) (a1 : Nat) (x2 : Int32) (x3 : Int32) (h : mH), L_X7_leftOf_4 N n a0 a1 x2 x3 h = some q → MW X y_X7_leftOf 5 4 [(0, .ref a0), (1, .ref a1), (2, .int x2), (3, .int x3)] [] h (some (.int q.1)) q.2 := by
  intro n
  induction n with
  | zero => intro a0 a1 x2 x3 h hf; cases hf
  | succ n ih =>
    intro a0 a1 x2 x3 h hf
    refine ev_ok (o := 7) (ini := false) (Cl := C_X7_leftOf N) (Rc := RcI) (B := B_X7_leftOf) (K := fun pc ls st g => kb pc 4 (lgr 0 ls fun a0 => lgr 1 ls fun a1 => lgi 2 ls fun x2 => lgi 3 ls fun x3 => pe st (L_X7_leftOf_4 N n a0 a1 x2 x3 g)) (none)) rfl (fun e => by cases e) (by decide) (rcI_ok rfl) ?_ (co_X7_leftOf N q) lb_X7_leftOf 3000 4 S_X7_leftOf_4 _ _ h ls_X7_leftOf_4 hf
    intro pc ls st g e
    rcases kb_s e with ⟨rfl, e⟩ | e
    · obtain ⟨a0, e0, f0⟩ := lgr_s e
      obtain ⟨a1, e1, f1⟩ := lgr_s f0
      obtain ⟨x2, e2, f2⟩ := lgi_s f1
      obtain ⟨x3, e3, f3⟩ := lgi_s f2
      obtain ⟨qe, fe⟩ := pe_s f3
      subst qe
      exact MW.sub (List.forall_mem_cons.mpr ⟨lg_mem e0, List.forall_mem_cons.mpr ⟨lg_mem e1, List.forall_mem_cons.mpr ⟨lg_mem e2, List.forall_mem_cons.mpr ⟨lg_mem e3, fun _ h => absurd h List.not_mem_nil⟩⟩⟩⟩) (ih a0 a1 x2 x3 g fe)
    cases e
set_option maxRecDepth 100000 in
theorem m_X7_leftOf (N : Nat) {a0 : Nat} {a1 : Nat} {h : mH} {q : Int32 × mH} (hf : f_X7_leftOf N a0 a1 h = some q) : MM y_X7_leftOf 5 [.ref a0, .ref a1] h (some (.int q.1)) q.2 := by
  refine MM.of (mFx (j := 90) rfl).2.2.2.1 (Nat.le_of_ble_eq_true rfl) (fun X => ?_)
  refine ev_ok (o := 7) (ini := false) (Cl := C_X7_leftOf N) (Rc := RcI) (B := B_X7_leftOf) (K := fun pc ls st g => kb pc 4 (lgr 0 ls fun a0 => lgr 1 ls fun a1 => lgi 2 ls fun x2 => lgi 3 ls fun x3 => pe st (L_X7_leftOf_4 N N a0 a1 x2 x3 g)) (none)) rfl (fun e => by cases e) (by decide) (rcI_ok rfl) ?_ (co_X7_leftOf N q) lb_X7_leftOf 3000 0 S_X7_leftOf_0 _ _ h ls_X7_leftOf_0 hf
  intro pc ls st g e
  rcases kb_s e with ⟨rfl, e⟩ | e
  · obtain ⟨a0, e0, f0⟩ := lgr_s e
    obtain ⟨a1, e1, f1⟩ := lgr_s f0
    obtain ⟨x2, e2, f2⟩ := lgi_s f1
    obtain ⟨x3, e3, f3⟩ := lgi_s f2
    obtain ⟨qe, fe⟩ := pe_s f3
    subst qe
    exact MW.sub (List.forall_mem_cons.mpr ⟨lg_mem e0, List.forall_mem_cons.mpr ⟨lg_mem e1, List.forall_mem_cons.mpr ⟨lg_mem e2, List.forall_mem_cons.mpr ⟨lg_mem e3, fun _ h => absurd h List.not_mem_nil⟩⟩⟩⟩) (t_X7_leftOf_4 N N a0 a1 x2 x3 g fe)
  cases e
def f_X8_init (N : Nat) (a0 : Nat) (h : mH) : Option (mH) :=
  (pV h 8 a0 1 (.int (jI (-1)))).bind fun h1 =>
  (nwA h1 2 (jI 0)).bind fun h2 =>
  (pV h2 8 a0 2 (.ref h1.1)).bind fun h3 =>
  some h3
def y_X8_init : mM := (yX8_init, cX8_init, 1, none)
def B_X8_init : List (Nat × List mI) := []
def S_X8_init_0 : List mI := [(.aload_n 0, 1, [0], []), (.invokespecial 3, 3, [5, 0, 0, 0, 2], []), (.aload_n 0, 1, [0], []), (.iconst (-1), 1, [], [-1]), (.putfield 9, 3, [8, 1, 0, 32], []), (.aload_n 0, 1, [0], []), (.iconst 0, 1, [], [0]), (.newarray .byte, 2, [2], []), (.putfield 15, 3, [8, 2, 2, 34], []), (.return_, 1, [], [])]
theorem lb_X8_init : B_X8_init.all (fun b => lst y_X8_init.2.1 8 y_X8_init.2.2.1 true b.1 b.2) = true := by decide +kernel
theorem ls_X8_init_0 : lst y_X8_init.2.1 8 y_X8_init.2.2.1 true 0 S_X8_init_0 = true := by decide +kernel
def C_X8_init (N : Nat) : Nat → List Value → mH → (Option Value → mH → Option (mH)) → Option (mH) := fun j as g k => none
theorem co_X8_init (N : Nat) (q : mH) : clOK 4 q (C_X8_init N) := by
  intro j as g k e
  cases e
set_option maxRecDepth 100000 in
theorem m_X8_init (N : Nat) {a0 : Nat} {h : mH} {q : mH} (hf : f_X8_init N a0 h = some q) : MM y_X8_init 4 [.ref a0] h none q := by
  refine MM.of (mFx (j := 91) rfl).2.2.2.1 (Nat.le_of_ble_eq_true rfl) (fun X => ?_)
  refine ev_ok (o := 8) (ini := true) (Cl := C_X8_init N) (Rc := RcV) (B := B_X8_init) (K := fun pc ls st g => none) rfl (fun _ => rfl) (by decide) (rcV_ok rfl) ?_ (co_X8_init N q) lb_X8_init 3000 0 S_X8_init_0 _ _ h ls_X8_init_0 hf
  intro pc ls st g e
  cases e
def f_X8_byteAt (N : Nat) (a0 : Nat) (x1 : Int32) (h : mH) : Option (Int32 × mH) :=
  if x1 < 0 then
    some (jI (-1), h)
  else
    (gI h 8 a0 3).bind fun v1 =>
    if x1 < v1 then
      (gR h 8 a0 2).bind fun v2 =>
      (ldI 2 h v2 x1).bind fun v3 =>
      some (v3, h)
    else
      some (jI (-1), h)
def y_X8_byteAt : mM := (yX8_byteAt, cX8_byteAt, 2, (some .int))
def B_X8_byteAt : List (Nat × List mI) := [(21, [(.iconst (-1), 1, [], [-1])]), (22, [(.ireturn, 1, [], [])])]
def S_X8_byteAt_0 : List mI := [(.iload_n 1, 1, [1], []), (.ifCond .lt 20, 3, [21], []), (.iload_n 1, 1, [1], []), (.aload_n 0, 1, [0], []), (.getfield 25, 3, [8, 3, 0, 35], []), (.if_icmp .ge 12, 3, [21], []), (.aload_n 0, 1, [0], []), (.getfield 15, 3, [8, 2, 2, 34], []), (.iload_n 1, 1, [1], []), (.baload, 1, [2], []), (.goto 4, 3, [22], [])]
theorem lb_X8_byteAt : B_X8_byteAt.all (fun b => lst y_X8_byteAt.2.1 8 y_X8_byteAt.2.2.1 false b.1 b.2) = true := by decide +kernel
theorem ls_X8_byteAt_0 : lst y_X8_byteAt.2.1 8 y_X8_byteAt.2.2.1 false 0 S_X8_byteAt_0 = true := by decide +kernel
def C_X8_byteAt (N : Nat) : Nat → List Value → mH → (Option Value → mH → Option (Int32 × mH)) → Option (Int32 × mH) := fun j as g k => none
theorem co_X8_byteAt (N : Nat) (q : Int32 × mH) : clOK 4 q (C_X8_byteAt N) := by
  intro j as g k e
  cases e
set_option maxRecDepth 100000 in
theorem m_X8_byteAt (N : Nat) {a0 : Nat} {x1 : Int32} {h : mH} {q : Int32 × mH} (hf : f_X8_byteAt N a0 x1 h = some q) : MM y_X8_byteAt 4 [.ref a0, .int x1] h (some (.int q.1)) q.2 := by
  refine MM.of (mFx (j := 105) rfl).2.2.2.1 (Nat.le_of_ble_eq_true rfl) (fun X => ?_)
  refine ev_ok (o := 8) (ini := false) (Cl := C_X8_byteAt N) (Rc := RcI) (B := B_X8_byteAt) (K := fun pc ls st g => none) rfl (fun e => by cases e) (by decide) (rcI_ok rfl) ?_ (co_X8_byteAt N q) lb_X8_byteAt 3000 0 S_X8_byteAt_0 _ _ h ls_X8_byteAt_0 hf
  intro pc ls st g e
  cases e
def f_X8_isLetter (N : Nat) (x0 : Int32) (h : mH) : Option (Int32 × mH) :=
  if x0 < (jI 97) then
    some (jI 0, h)
  else
    if (jI 122) < x0 then
      some (jI 0, h)
    else
      some (jI 1, h)
def y_X8_isLetter : mM := (yX8_isLetter, cX8_isLetter, 1, (some .boolean))
def B_X8_isLetter : List (Nat × List mI) := [(16, [(.iconst 0, 1, [], [0])]), (17, [(.ireturn, 1, [], [])])]
def S_X8_isLetter_0 : List mI := [(.iload_n 0, 1, [0], []), (.bipush 97, 2, [], [97]), (.if_icmp .lt 13, 3, [16], []), (.iload_n 0, 1, [0], []), (.bipush 122, 2, [], [122]), (.if_icmp .gt 7, 3, [16], []), (.iconst 1, 1, [], [1]), (.goto 4, 3, [17], [])]
theorem lb_X8_isLetter : B_X8_isLetter.all (fun b => lst y_X8_isLetter.2.1 8 y_X8_isLetter.2.2.1 false b.1 b.2) = true := by decide +kernel
theorem ls_X8_isLetter_0 : lst y_X8_isLetter.2.1 8 y_X8_isLetter.2.2.1 false 0 S_X8_isLetter_0 = true := by decide +kernel
def C_X8_isLetter (N : Nat) : Nat → List Value → mH → (Option Value → mH → Option (Int32 × mH)) → Option (Int32 × mH) := fun j as g k => none
theorem co_X8_isLetter (N : Nat) (q : Int32 × mH) : clOK 4 q (C_X8_isLetter N) := by
  intro j as g k e
  cases e
set_option maxRecDepth 100000 in
theorem m_X8_isLetter (N : Nat) {x0 : Int32} {h : mH} {q : Int32 × mH} (hf : f_X8_isLetter N x0 h = some q) : MM y_X8_isLetter 4 [.int x0] h (some (.int q.1)) q.2 := by
  refine MM.of (mFx (j := 106) rfl).2.2.2.1 (Nat.le_of_ble_eq_true rfl) (fun X => ?_)
  refine ev_ok (o := 8) (ini := false) (Cl := C_X8_isLetter N) (Rc := RcZ) (B := B_X8_isLetter) (K := fun pc ls st g => none) rfl (fun e => by cases e) (by decide) (rcZ_ok rfl) ?_ (co_X8_isLetter N q) lb_X8_isLetter 3000 0 S_X8_isLetter_0 _ _ h ls_X8_isLetter_0 hf
  intro pc ls st g e
  cases e
def f_X8_isDigit (N : Nat) (x0 : Int32) (h : mH) : Option (Int32 × mH) :=
  if x0 < (jI 48) then
    some (jI 0, h)
  else
    if (jI 57) < x0 then
      some (jI 0, h)
    else
      some (jI 1, h)
def y_X8_isDigit : mM := (yX8_isDigit, cX8_isDigit, 1, (some .boolean))
def B_X8_isDigit : List (Nat × List mI) := [(16, [(.iconst 0, 1, [], [0])]), (17, [(.ireturn, 1, [], [])])]
def S_X8_isDigit_0 : List mI := [(.iload_n 0, 1, [0], []), (.bipush 48, 2, [], [48]), (.if_icmp .lt 13, 3, [16], []), (.iload_n 0, 1, [0], []), (.bipush 57, 2, [], [57]), (.if_icmp .gt 7, 3, [16], []), (.iconst 1, 1, [], [1]), (.goto 4, 3, [17], [])]
theorem lb_X8_isDigit : B_X8_isDigit.all (fun b => lst y_X8_isDigit.2.1 8 y_X8_isDigit.2.2.1 false b.1 b.2) = true := by decide +kernel
theorem ls_X8_isDigit_0 : lst y_X8_isDigit.2.1 8 y_X8_isDigit.2.2.1 false 0 S_X8_isDigit_0 = true := by decide +kernel
def C_X8_isDigit (N : Nat) : Nat → List Value → mH → (Option Value → mH → Option (Int32 × mH)) → Option (Int32 × mH) := fun j as g k => none
theorem co_X8_isDigit (N : Nat) (q : Int32 × mH) : clOK 4 q (C_X8_isDigit N) := by
  intro j as g k e
  cases e
set_option maxRecDepth 100000 in
theorem m_X8_isDigit (N : Nat) {x0 : Int32} {h : mH} {q : Int32 × mH} (hf : f_X8_isDigit N x0 h = some q) : MM y_X8_isDigit 4 [.int x0] h (some (.int q.1)) q.2 := by
  refine MM.of (mFx (j := 107) rfl).2.2.2.1 (Nat.le_of_ble_eq_true rfl) (fun X => ?_)
  refine ev_ok (o := 8) (ini := false) (Cl := C_X8_isDigit N) (Rc := RcZ) (B := B_X8_isDigit) (K := fun pc ls st g => none) rfl (fun e => by cases e) (by decide) (rcZ_ok rfl) ?_ (co_X8_isDigit N q) lb_X8_isDigit 3000 0 S_X8_isDigit_0 _ _ h ls_X8_isDigit_0 hf
  intro pc ls st g e
  cases e
def f_X8_fail (N : Nat) (a0 : Nat) (x1 : Int32) (h : mH) : Option (mH) :=
  (gI h 8 a0 0).bind fun v1 =>
  if v1 = 0 then
    (pV h 8 a0 0 (.int x1)).bind fun h2 =>
    (gI h2 8 a0 4).bind fun v3 =>
    (pV h2 8 a0 1 (.int v3)).bind fun h4 =>
    some h4
  else
    some h
def y_X8_fail : mM := (yX8_fail, cX8_fail, 2, none)
def B_X8_fail : List (Nat × List mI) := [(20, [(.return_, 1, [], [])])]
def S_X8_fail_0 : List mI := [(.aload_n 0, 1, [0], []), (.getfield 31, 3, [8, 0, 0, 30], []), (.ifCond .ne 16, 3, [20], []), (.aload_n 0, 1, [0], []), (.iload_n 1, 1, [1], []), (.putfield 31, 3, [8, 0, 0, 30], []), (.aload_n 0, 1, [0], []), (.aload_n 0, 1, [0], []), (.getfield 155, 3, [8, 4, 0, 36], []), (.putfield 9, 3, [8, 1, 0, 32], [])]
theorem lb_X8_fail : B_X8_fail.all (fun b => lst y_X8_fail.2.1 8 y_X8_fail.2.2.1 false b.1 b.2) = true := by decide +kernel
theorem ls_X8_fail_0 : lst y_X8_fail.2.1 8 y_X8_fail.2.2.1 false 0 S_X8_fail_0 = true := by decide +kernel
def C_X8_fail (N : Nat) : Nat → List Value → mH → (Option Value → mH → Option (mH)) → Option (mH) := fun j as g k => none
theorem co_X8_fail (N : Nat) (q : mH) : clOK 4 q (C_X8_fail N) := by
  intro j as g k e
  cases e
set_option maxRecDepth 100000 in
theorem m_X8_fail (N : Nat) {a0 : Nat} {x1 : Int32} {h : mH} {q : mH} (hf : f_X8_fail N a0 x1 h = some q) : MM y_X8_fail 4 [.ref a0, .int x1] h none q := by
  refine MM.of (mFx (j := 100) rfl).2.2.2.1 (Nat.le_of_ble_eq_true rfl) (fun X => ?_)
  refine ev_ok (o := 8) (ini := false) (Cl := C_X8_fail N) (Rc := RcV) (B := B_X8_fail) (K := fun pc ls st g => none) rfl (fun e => by cases e) (by decide) (rcV_ok rfl) ?_ (co_X8_fail N q) lb_X8_fail 3000 0 S_X8_fail_0 _ _ h ls_X8_fail_0 hf
  intro pc ls st g e
  cases e
def L_X8_advance_106 (N : Nat) : Nat → Nat → mH → Option (mH)
  | 0, _, _ => none
  | n + 1, a0, h =>
    (gI h 8 a0 5).bind fun v1 =>
    (gI h 8 a0 3).bind fun v2 =>
    if v1 < v2 then
      (gI h 8 a0 5).bind fun v3 =>
      (rcv h 8 a0).bind fun _ =>
      (f_X8_byteAt N a0 v3 h).bind fun p4 =>
      (f_X8_isLetter N p4.1 p4.2).bind fun p5 =>
      if p5.1 = 0 then
        some p5.2
      else
        (gI p5.2 8 a0 5).bind fun v6 =>
        (pV p5.2 8 a0 5 (.int (iAdd v6 (jI 1)))).bind fun h7 =>
        L_X8_advance_106 N n a0 h7
    else
      some h
def J_X8_advance_235 (N : Nat) (a0 : Nat) (h : mH) : Option (mH) :=
  (gI h 8 a0 5).bind fun v1 =>
  (gI h 8 a0 4).bind fun v2 =>
  if (jI 4) < (iSub v1 v2) then
    (rcv h 8 a0).bind fun _ =>
    (f_X8_fail N a0 (jI 1) h).bind fun h3 =>
    some h3
  else
    some h
def L_X8_advance_161 (N : Nat) : Nat → Nat → mH → Option (mH)
  | 0, _, _ => none
  | n + 1, a0, h =>
    (gI h 8 a0 5).bind fun v1 =>
    (gI h 8 a0 3).bind fun v2 =>
    if v1 < v2 then
      (gI h 8 a0 5).bind fun v3 =>
      (rcv h 8 a0).bind fun _ =>
      (f_X8_byteAt N a0 v3 h).bind fun p4 =>
      (f_X8_isDigit N p4.1 p4.2).bind fun p5 =>
      if p5.1 = 0 then
        J_X8_advance_235 N a0 p5.2
      else
        (gI p5.2 8 a0 5).bind fun v6 =>
        (gI p5.2 8 a0 4).bind fun v7 =>
        if (iSub v6 v7) < (jI 4) then
          (gI p5.2 8 a0 7).bind fun v8 =>
          (gI p5.2 8 a0 5).bind fun v9 =>
          (rcv p5.2 8 a0).bind fun _ =>
          (f_X8_byteAt N a0 v9 p5.2).bind fun p10 =>
          (pV p10.2 8 a0 7 (.int (iSub (iAdd (iMul v8 (jI 10)) p10.1) (jI 48)))).bind fun h11 =>
          (gI h11 8 a0 5).bind fun v12 =>
          (pV h11 8 a0 5 (.int (iAdd v12 (jI 1)))).bind fun h13 =>
          L_X8_advance_161 N n a0 h13
        else
          (gI p5.2 8 a0 5).bind fun v14 =>
          (pV p5.2 8 a0 5 (.int (iAdd v14 (jI 1)))).bind fun h15 =>
          L_X8_advance_161 N n a0 h15
    else
      J_X8_advance_235 N a0 h
def J_X8_advance_58 (N : Nat) (a0 : Nat) (h : mH) : Option (mH) :=
  (gI h 8 a0 4).bind fun v1 =>
  (pV h 8 a0 5 (.int v1)).bind fun h2 =>
  (gI h2 8 a0 4).bind fun v3 =>
  (rcv h2 8 a0).bind fun _ =>
  (f_X8_byteAt N a0 v3 h2).bind fun p4 =>
  (gI p4.2 8 a0 4).bind fun v5 =>
  (gI p4.2 8 a0 3).bind fun v6 =>
  if v5 < v6 then
    (f_X8_isLetter N p4.1 p4.2).bind fun p7 =>
    if p7.1 = 0 then
      (f_X8_isDigit N p4.1 p7.2).bind fun p8 =>
      if p8.1 = 0 then
        if p4.1 = (jI 59) then
          (pV p8.2 8 a0 6 (.int (jI 3))).bind fun h9 =>
          (gI h9 8 a0 4).bind fun v10 =>
          (pV h9 8 a0 5 (.int (iAdd v10 (jI 1)))).bind fun h11 =>
          some h11
        else
          (rcv p8.2 8 a0).bind fun _ =>
          (f_X8_fail N a0 (jI 1) p8.2).bind fun h12 =>
          some h12
      else
        (pV p8.2 8 a0 6 (.int (jI 2))).bind fun h13 =>
        (pV h13 8 a0 7 (.int (jI 0))).bind fun h14 =>
        L_X8_advance_161 N N a0 h14
    else
      (pV p7.2 8 a0 6 (.int (jI 1))).bind fun h15 =>
      L_X8_advance_106 N N a0 h15
  else
    (pV p4.2 8 a0 6 (.int (jI 0))).bind fun h16 =>
    some h16
def L_X8_advance_8 (N : Nat) : Nat → Nat → mH → Option (mH)
  | 0, _, _ => none
  | n + 1, a0, h =>
    (gI h 8 a0 4).bind fun v1 =>
    (gI h 8 a0 3).bind fun v2 =>
    if v1 < v2 then
      (gI h 8 a0 4).bind fun v3 =>
      (rcv h 8 a0).bind fun _ =>
      (f_X8_byteAt N a0 v3 h).bind fun p4 =>
      if p4.1 = (jI 32) then
        (gI p4.2 8 a0 4).bind fun v5 =>
        (pV p4.2 8 a0 4 (.int (iAdd v5 (jI 1)))).bind fun h6 =>
        L_X8_advance_8 N n a0 h6
      else
        (gI p4.2 8 a0 4).bind fun v7 =>
        (rcv p4.2 8 a0).bind fun _ =>
        (f_X8_byteAt N a0 v7 p4.2).bind fun p8 =>
        if p8.1 = (jI 10) then
          (gI p8.2 8 a0 4).bind fun v9 =>
          (pV p8.2 8 a0 4 (.int (iAdd v9 (jI 1)))).bind fun h10 =>
          L_X8_advance_8 N n a0 h10
        else
          J_X8_advance_58 N a0 p8.2
    else
      J_X8_advance_58 N a0 h
def f_X8_advance (N : Nat) (a0 : Nat) (h : mH) : Option (mH) :=
  (gI h 8 a0 5).bind fun v1 =>
  (pV h 8 a0 4 (.int v1)).bind fun h2 =>
  L_X8_advance_8 N N a0 h2
def y_X8_advance : mM := (yX8_advance, cX8_advance, 2, none)
def B_X8_advance : List (Nat × List mI) := [(45, [(.aload_n 0, 1, [0], []), (.dup, 1, [], []), (.getfield 155, 3, [8, 4, 0, 36], []), (.iconst 1, 1, [], [1]), (.iadd, 1, [], []), (.putfield 155, 3, [8, 4, 0, 36], []), (.goto (-47), 3, [8], [])]), (94, [(.iload_n 1, 1, [1], []), (.invokestatic 172, 3, [1, 106, 1, 0, 18], []), (.ifCond .eq 46, 3, [144], []), (.aload_n 0, 1, [0], []), (.iconst 1, 1, [], [1]), (.putfield 42, 3, [8, 6, 0, 38], [])]), (144, [(.iload_n 1, 1, [1], []), (.invokestatic 176, 3, [1, 107, 1, 0, 19], []), (.ifCond .eq 108, 3, [256], []), (.aload_n 0, 1, [0], []), (.iconst 2, 1, [], [2]), (.putfield 42, 3, [8, 6, 0, 38], []), (.aload_n 0, 1, [0], []), (.iconst 0, 1, [], [0]), (.putfield 169, 3, [8, 7, 0, 39], [])]), (222, [(.aload_n 0, 1, [0], []), (.dup, 1, [], []), (.getfield 28, 3, [8, 5, 0, 37], []), (.iconst 1, 1, [], [1]), (.iadd, 1, [], []), (.putfield 28, 3, [8, 5, 0, 37], []), (.goto (-71), 3, [161], [])]), (256, [(.iload_n 1, 1, [1], []), (.bipush 59, 2, [], [59]), (.if_icmp .ne 21, 3, [280], []), (.aload_n 0, 1, [0], []), (.iconst 3, 1, [], [3]), (.putfield 42, 3, [8, 6, 0, 38], []), (.aload_n 0, 1, [0], []), (.aload_n 0, 1, [0], []), (.getfield 155, 3, [8, 4, 0, 36], []), (.iconst 1, 1, [], [1]), (.iadd, 1, [], []), (.putfield 28, 3, [8, 5, 0, 37], []), (.goto 8, 3, [285], [])]), (280, [(.aload_n 0, 1, [0], []), (.iconst 1, 1, [], [1]), (.invokevirtual 94, 3, [0, 100, 1, 8, 20], [])]), (285, [(.return_, 1, [], [])])]
def S_X8_advance_0 : List mI := [(.aload_n 0, 1, [0], []), (.aload_n 0, 1, [0], []), (.getfield 28, 3, [8, 5, 0, 37], []), (.putfield 155, 3, [8, 4, 0, 36], [])]
def S_X8_advance_8 : List mI := [(.aload_n 0, 1, [0], []), (.getfield 155, 3, [8, 4, 0, 36], []), (.aload_n 0, 1, [0], []), (.getfield 25, 3, [8, 3, 0, 35], []), (.if_icmp .ge 42, 3, [58], []), (.aload_n 0, 1, [0], []), (.aload_n 0, 1, [0], []), (.getfield 155, 3, [8, 4, 0, 36], []), (.invokevirtual 162, 3, [0, 105, 1, 8, 17], []), (.bipush 32, 2, [], [32]), (.if_icmp .eq 16, 3, [45], []), (.aload_n 0, 1, [0], []), (.aload_n 0, 1, [0], []), (.getfield 155, 3, [8, 4, 0, 36], []), (.invokevirtual 162, 3, [0, 105, 1, 8, 17], []), (.bipush 10, 2, [], [10]), (.if_icmp .ne 16, 3, [58], [])]
def S_X8_advance_58 : List mI := [(.aload_n 0, 1, [0], []), (.aload_n 0, 1, [0], []), (.getfield 155, 3, [8, 4, 0, 36], []), (.putfield 28, 3, [8, 5, 0, 37], []), (.aload_n 0, 1, [0], []), (.aload_n 0, 1, [0], []), (.getfield 155, 3, [8, 4, 0, 36], []), (.invokevirtual 162, 3, [0, 105, 1, 8, 17], []), (.istore_n 1, 1, [1], []), (.aload_n 0, 1, [0], []), (.getfield 155, 3, [8, 4, 0, 36], []), (.aload_n 0, 1, [0], []), (.getfield 25, 3, [8, 3, 0, 35], []), (.if_icmp .lt 11, 3, [94], []), (.aload_n 0, 1, [0], []), (.iconst 0, 1, [], [0]), (.putfield 42, 3, [8, 6, 0, 38], []), (.goto 194, 3, [285], [])]
def S_X8_advance_106 : List mI := [(.aload_n 0, 1, [0], []), (.getfield 28, 3, [8, 5, 0, 37], []), (.aload_n 0, 1, [0], []), (.getfield 25, 3, [8, 3, 0, 35], []), (.if_icmp .ge 171, 3, [285], []), (.aload_n 0, 1, [0], []), (.aload_n 0, 1, [0], []), (.getfield 28, 3, [8, 5, 0, 37], []), (.invokevirtual 162, 3, [0, 105, 1, 8, 17], []), (.invokestatic 172, 3, [1, 106, 1, 0, 18], []), (.ifCond .eq 157, 3, [285], []), (.aload_n 0, 1, [0], []), (.dup, 1, [], []), (.getfield 28, 3, [8, 5, 0, 37], []), (.iconst 1, 1, [], [1]), (.iadd, 1, [], []), (.putfield 28, 3, [8, 5, 0, 37], []), (.goto (-35), 3, [106], [])]
def S_X8_advance_161 : List mI := [(.aload_n 0, 1, [0], []), (.getfield 28, 3, [8, 5, 0, 37], []), (.aload_n 0, 1, [0], []), (.getfield 25, 3, [8, 3, 0, 35], []), (.if_icmp .ge 66, 3, [235], []), (.aload_n 0, 1, [0], []), (.aload_n 0, 1, [0], []), (.getfield 28, 3, [8, 5, 0, 37], []), (.invokevirtual 162, 3, [0, 105, 1, 8, 17], []), (.invokestatic 176, 3, [1, 107, 1, 0, 19], []), (.ifCond .eq 52, 3, [235], []), (.aload_n 0, 1, [0], []), (.getfield 28, 3, [8, 5, 0, 37], []), (.aload_n 0, 1, [0], []), (.getfield 155, 3, [8, 4, 0, 36], []), (.isub, 1, [], []), (.iconst 4, 1, [], [4]), (.if_icmp .ge 26, 3, [222], []), (.aload_n 0, 1, [0], []), (.aload_n 0, 1, [0], []), (.getfield 169, 3, [8, 7, 0, 39], []), (.bipush 10, 2, [], [10]), (.imul, 1, [], []), (.aload_n 0, 1, [0], []), (.aload_n 0, 1, [0], []), (.getfield 28, 3, [8, 5, 0, 37], []), (.invokevirtual 162, 3, [0, 105, 1, 8, 17], []), (.iadd, 1, [], []), (.bipush 48, 2, [], [48]), (.isub, 1, [], []), (.putfield 169, 3, [8, 7, 0, 39], [])]
def S_X8_advance_235 : List mI := [(.aload_n 0, 1, [0], []), (.getfield 28, 3, [8, 5, 0, 37], []), (.aload_n 0, 1, [0], []), (.getfield 155, 3, [8, 4, 0, 36], []), (.isub, 1, [], []), (.iconst 4, 1, [], [4]), (.if_icmp .le 40, 3, [285], []), (.aload_n 0, 1, [0], []), (.iconst 1, 1, [], [1]), (.invokevirtual 94, 3, [0, 100, 1, 8, 20], []), (.goto 32, 3, [285], [])]
theorem lb_X8_advance : B_X8_advance.all (fun b => lst y_X8_advance.2.1 8 y_X8_advance.2.2.1 false b.1 b.2) = true := by decide +kernel
theorem ls_X8_advance_0 : lst y_X8_advance.2.1 8 y_X8_advance.2.2.1 false 0 S_X8_advance_0 = true := by decide +kernel
theorem ls_X8_advance_8 : lst y_X8_advance.2.1 8 y_X8_advance.2.2.1 false 8 S_X8_advance_8 = true := by decide +kernel
theorem ls_X8_advance_58 : lst y_X8_advance.2.1 8 y_X8_advance.2.2.1 false 58 S_X8_advance_58 = true := by decide +kernel
theorem ls_X8_advance_106 : lst y_X8_advance.2.1 8 y_X8_advance.2.2.1 false 106 S_X8_advance_106 = true := by decide +kernel
theorem ls_X8_advance_161 : lst y_X8_advance.2.1 8 y_X8_advance.2.2.1 false 161 S_X8_advance_161 = true := by decide +kernel
theorem ls_X8_advance_235 : lst y_X8_advance.2.1 8 y_X8_advance.2.2.1 false 235 S_X8_advance_235 = true := by decide +kernel
def C_X8_advance (N : Nat) : Nat → List Value → mH → (Option Value → mH → Option (mH)) → Option (mH) := fun j as g k => kb j 105 (pr1 as fun b0 as => pp1 as fun b1 as => pe as ((f_X8_byteAt N b0 b1 g).bind fun p => k (some (.int p.1)) p.2)) (kb j 106 (pp1 as fun b0 as => pe as ((f_X8_isLetter N b0 g).bind fun p => k (some (.int p.1)) p.2)) (kb j 107 (pp1 as fun b0 as => pe as ((f_X8_isDigit N b0 g).bind fun p => k (some (.int p.1)) p.2)) (kb j 100 (pr1 as fun b0 as => pp1 as fun b1 as => pe as ((f_X8_fail N b0 b1 g).bind fun p => k none p)) (none))))
theorem co_X8_advance (N : Nat) (q : mH) : clOK 5 q (C_X8_advance N) := by
  intro j as g k e
  rcases kb_s e with ⟨rfl, e⟩ | e
  · obtain ⟨b0, r0, q0, f0⟩ := pr1_s e
    obtain ⟨b1, r1, q1, f1⟩ := pp1_s f0
    obtain ⟨qe, fe⟩ := pe_s f1
    obtain ⟨p, e1, e2⟩ := bnd_s fe
    subst qe
    subst q1
    subst q0
    exact ⟨_, _, _, _, 4, rfl, (by decide), m_X8_byteAt N e1, e2⟩
  rcases kb_s e with ⟨rfl, e⟩ | e
  · obtain ⟨b0, r0, q0, f0⟩ := pp1_s e
    obtain ⟨qe, fe⟩ := pe_s f0
    obtain ⟨p, e1, e2⟩ := bnd_s fe
    subst qe
    subst q0
    exact ⟨_, _, _, _, 4, rfl, (by decide), m_X8_isLetter N e1, e2⟩
  rcases kb_s e with ⟨rfl, e⟩ | e
  · obtain ⟨b0, r0, q0, f0⟩ := pp1_s e
    obtain ⟨qe, fe⟩ := pe_s f0
    obtain ⟨p, e1, e2⟩ := bnd_s fe
    subst qe
    subst q0
    exact ⟨_, _, _, _, 4, rfl, (by decide), m_X8_isDigit N e1, e2⟩
  rcases kb_s e with ⟨rfl, e⟩ | e
  · obtain ⟨b0, r0, q0, f0⟩ := pr1_s e
    obtain ⟨b1, r1, q1, f1⟩ := pp1_s f0
    obtain ⟨qe, fe⟩ := pe_s f1
    obtain ⟨p, e1, e2⟩ := bnd_s fe
    subst qe
    subst q1
    subst q0
    exact ⟨_, _, _, _, 4, rfl, (by decide), m_X8_fail N e1, e2⟩
  cases e
set_option maxRecDepth 100000 in
theorem t_X8_advance_106 {X : Nat × (Nat → Int32)} (N : Nat) {q : mH} : ∀ (n : Nat) (a0 : Nat) (h : mH), L_X8_advance_106 N n a0 h = some q → MW X y_X8_advance 5 106 [(0, .ref a0)] [] h none q := by
  intro n
  induction n with
  | zero => intro a0 h hf; cases hf
  | succ n ih =>
    intro a0 h hf
    refine ev_ok (o := 8) (ini := false) (Cl := C_X8_advance N) (Rc := RcV) (B := B_X8_advance) (K := fun pc ls st g => kb pc 106 (lgr 0 ls fun a0 => pe st (L_X8_advance_106 N n a0 g)) (none)) rfl (fun e => by cases e) (by decide) (rcV_ok rfl) ?_ (co_X8_advance N q) lb_X8_advance 3000 106 S_X8_advance_106 _ _ h ls_X8_advance_106 hf
    intro pc ls st g e
    rcases kb_s e with ⟨rfl, e⟩ | e
    · obtain ⟨a0, e0, f0⟩ := lgr_s e
      obtain ⟨qe, fe⟩ := pe_s f0
      subst qe
      exact MW.sub (List.forall_mem_cons.mpr ⟨lg_mem e0, fun _ h => absurd h List.not_mem_nil⟩) (ih a0 g fe)
    cases e
set_option maxRecDepth 100000 in
theorem t_X8_advance_235 {X : Nat × (Nat → Int32)} (N : Nat) {q : mH} (a0 : Nat) (h : mH) (hf : J_X8_advance_235 N a0 h = some q) : MW X y_X8_advance 5 235 [(0, .ref a0)] [] h none q := by
  refine ev_ok (o := 8) (ini := false) (Cl := C_X8_advance N) (Rc := RcV) (B := B_X8_advance) (K := fun pc ls st g => none) rfl (fun e => by cases e) (by decide) (rcV_ok rfl) ?_ (co_X8_advance N q) lb_X8_advance 3000 235 S_X8_advance_235 _ _ h ls_X8_advance_235 hf
  intro pc ls st g e
  cases e
set_option maxRecDepth 100000 in
theorem t_X8_advance_161 {X : Nat × (Nat → Int32)} (N : Nat) {q : mH} : ∀ (n : Nat) (a0 : Nat) (h : mH), L_X8_advance_161 N n a0 h = some q → MW X y_X8_advance 5 161 [(0, .ref a0)] [] h none q := by
  intro n
  induction n with
  | zero => intro a0 h hf; cases hf
  | succ n ih =>
    intro a0 h hf
    refine ev_ok (o := 8) (ini := false) (Cl := C_X8_advance N) (Rc := RcV) (B := B_X8_advance) (K := fun pc ls st g => kb pc 161 (lgr 0 ls fun a0 => pe st (L_X8_advance_161 N n a0 g)) (kb pc 235 (lgr 0 ls fun a0 => pe st (J_X8_advance_235 N a0 g)) (none))) rfl (fun e => by cases e) (by decide) (rcV_ok rfl) ?_ (co_X8_advance N q) lb_X8_advance 3000 161 S_X8_advance_161 _ _ h ls_X8_advance_161 hf
    intro pc ls st g e
    rcases kb_s e with ⟨rfl, e⟩ | e
    · obtain ⟨a0, e0, f0⟩ := lgr_s e
      obtain ⟨qe, fe⟩ := pe_s f0
      subst qe
      exact MW.sub (List.forall_mem_cons.mpr ⟨lg_mem e0, fun _ h => absurd h List.not_mem_nil⟩) (ih a0 g fe)
    rcases kb_s e with ⟨rfl, e⟩ | e
    · obtain ⟨a0, e0, f0⟩ := lgr_s e
      obtain ⟨qe, fe⟩ := pe_s f0
      subst qe
      exact MW.sub (List.forall_mem_cons.mpr ⟨lg_mem e0, fun _ h => absurd h List.not_mem_nil⟩) (t_X8_advance_235 N a0 g fe)
    cases e
set_option maxRecDepth 100000 in
theorem t_X8_advance_58 {X : Nat × (Nat → Int32)} (N : Nat) {q : mH} (a0 : Nat) (h : mH) (hf : J_X8_advance_58 N a0 h = some q) : MW X y_X8_advance 5 58 [(0, .ref a0)] [] h none q := by
  refine ev_ok (o := 8) (ini := false) (Cl := C_X8_advance N) (Rc := RcV) (B := B_X8_advance) (K := fun pc ls st g => kb pc 106 (lgr 0 ls fun a0 => pe st (L_X8_advance_106 N N a0 g)) (kb pc 161 (lgr 0 ls fun a0 => pe st (L_X8_advance_161 N N a0 g)) (none))) rfl (fun e => by cases e) (by decide) (rcV_ok rfl) ?_ (co_X8_advance N q) lb_X8_advance 3000 58 S_X8_advance_58 _ _ h ls_X8_advance_58 hf
  intro pc ls st g e
  rcases kb_s e with ⟨rfl, e⟩ | e
  · obtain ⟨a0, e0, f0⟩ := lgr_s e
    obtain ⟨qe, fe⟩ := pe_s f0
    subst qe
    exact MW.sub (List.forall_mem_cons.mpr ⟨lg_mem e0, fun _ h => absurd h List.not_mem_nil⟩) (t_X8_advance_106 N N a0 g fe)
  rcases kb_s e with ⟨rfl, e⟩ | e
  · obtain ⟨a0, e0, f0⟩ := lgr_s e
    obtain ⟨qe, fe⟩ := pe_s f0
    subst qe
    exact MW.sub (List.forall_mem_cons.mpr ⟨lg_mem e0, fun _ h => absurd h List.not_mem_nil⟩) (t_X8_advance_161 N N a0 g fe)
  cases e
set_option maxRecDepth 100000 in
theorem t_X8_advance_8 {X : Nat × (Nat → Int32)} (N : Nat) {q : mH} : ∀ (n : Nat) (a0 : Nat) (h : mH), L_X8_advance_8 N n a0 h = some q → MW X y_X8_advance 5 8 [(0, .ref a0)] [] h none q := by
  intro n
  induction n with
  | zero => intro a0 h hf; cases hf
  | succ n ih =>
    intro a0 h hf
    refine ev_ok (o := 8) (ini := false) (Cl := C_X8_advance N) (Rc := RcV) (B := B_X8_advance) (K := fun pc ls st g => kb pc 8 (lgr 0 ls fun a0 => pe st (L_X8_advance_8 N n a0 g)) (kb pc 58 (lgr 0 ls fun a0 => pe st (J_X8_advance_58 N a0 g)) (none))) rfl (fun e => by cases e) (by decide) (rcV_ok rfl) ?_ (co_X8_advance N q) lb_X8_advance 3000 8 S_X8_advance_8 _ _ h ls_X8_advance_8 hf
    intro pc ls st g e
    rcases kb_s e with ⟨rfl, e⟩ | e
    · obtain ⟨a0, e0, f0⟩ := lgr_s e
      obtain ⟨qe, fe⟩ := pe_s f0
      subst qe
      exact MW.sub (List.forall_mem_cons.mpr ⟨lg_mem e0, fun _ h => absurd h List.not_mem_nil⟩) (ih a0 g fe)
    rcases kb_s e with ⟨rfl, e⟩ | e
    · obtain ⟨a0, e0, f0⟩ := lgr_s e
      obtain ⟨qe, fe⟩ := pe_s f0
      subst qe
      exact MW.sub (List.forall_mem_cons.mpr ⟨lg_mem e0, fun _ h => absurd h List.not_mem_nil⟩) (t_X8_advance_58 N a0 g fe)
    cases e
set_option maxRecDepth 100000 in
theorem m_X8_advance (N : Nat) {a0 : Nat} {h : mH} {q : mH} (hf : f_X8_advance N a0 h = some q) : MM y_X8_advance 5 [.ref a0] h none q := by
  refine MM.of (mFx (j := 108) rfl).2.2.2.1 (Nat.le_of_ble_eq_true rfl) (fun X => ?_)
  refine ev_ok (o := 8) (ini := false) (Cl := C_X8_advance N) (Rc := RcV) (B := B_X8_advance) (K := fun pc ls st g => kb pc 8 (lgr 0 ls fun a0 => pe st (L_X8_advance_8 N N a0 g)) (none)) rfl (fun e => by cases e) (by decide) (rcV_ok rfl) ?_ (co_X8_advance N q) lb_X8_advance 3000 0 S_X8_advance_0 _ _ h ls_X8_advance_0 hf
  intro pc ls st g e
  rcases kb_s e with ⟨rfl, e⟩ | e
  · obtain ⟨a0, e0, f0⟩ := lgr_s e
    obtain ⟨qe, fe⟩ := pe_s f0
    subst qe
    exact MW.sub (List.forall_mem_cons.mpr ⟨lg_mem e0, fun _ h => absurd h List.not_mem_nil⟩) (t_X8_advance_8 N N a0 g fe)
  cases e
def L_X8_isWord_35 (N : Nat) : Nat → Nat → UInt32 → Int32 → mH → Option (Int32 × mH)
  | 0, _, _, _, _ => none
  | n + 1, a0, s1, x2, h =>
    (sLn s1).bind fun v1 =>
    if x2 < v1 then
      (gI h 8 a0 4).bind fun v2 =>
      (rcv h 8 a0).bind fun _ =>
      (f_X8_byteAt N a0 (iAdd v2 x2) h).bind fun p3 =>
      (sChr s1 x2).bind fun v4 =>
      if p3.1 = v4 then
        let w5 := iAdd x2 (jI 1)
        L_X8_isWord_35 N n a0 s1 w5 p3.2
      else
        some (jI 0, p3.2)
    else
      some (jI 1, h)
def f_X8_isWord (N : Nat) (a0 : Nat) (s1 : UInt32) (h : mH) : Option (Int32 × mH) :=
  (gI h 8 a0 0).bind fun v1 =>
  if v1 = 0 then
    (gI h 8 a0 6).bind fun v2 =>
    if v2 = (jI 1) then
      (gI h 8 a0 5).bind fun v3 =>
      (gI h 8 a0 4).bind fun v4 =>
      (sLn s1).bind fun v5 =>
      if (iSub v3 v4) = v5 then
        L_X8_isWord_35 N N a0 s1 (jI 0) h
      else
        some (jI 0, h)
    else
      some (jI 0, h)
  else
    some (jI 0, h)
def y_X8_isWord : mM := (yX8_isWord, cX8_isWord, 3, (some .boolean))
def B_X8_isWord : List (Nat × List mI) := [(31, [(.iconst 0, 1, [], [0]), (.ireturn, 1, [], [])]), (33, [(.iconst 0, 1, [], [0]), (.istore_n 2, 1, [2], [])]), (63, [(.iinc 2 1, 3, [2], [1]), (.goto (-31), 3, [35], [])]), (69, [(.iconst 1, 1, [], [1]), (.ireturn, 1, [], [])])]
def S_X8_isWord_0 : List mI := [(.aload_n 0, 1, [0], []), (.getfield 31, 3, [8, 0, 0, 30], []), (.ifCond .ne 27, 3, [31], []), (.aload_n 0, 1, [0], []), (.getfield 42, 3, [8, 6, 0, 38], []), (.iconst 1, 1, [], [1]), (.if_icmp .ne 19, 3, [31], []), (.aload_n 0, 1, [0], []), (.getfield 28, 3, [8, 5, 0, 37], []), (.aload_n 0, 1, [0], []), (.getfield 155, 3, [8, 4, 0, 36], []), (.isub, 1, [], []), (.aload_n 1, 1, [1], []), (.invokevirtual 158, 3, [11, 0, 0, 0, 13], []), (.if_icmp .eq 5, 3, [33], [])]
def S_X8_isWord_35 : List mI := [(.iload_n 2, 1, [2], []), (.aload_n 1, 1, [1], []), (.invokevirtual 158, 3, [11, 0, 0, 0, 13], []), (.if_icmp .ge 29, 3, [69], []), (.aload_n 0, 1, [0], []), (.aload_n 0, 1, [0], []), (.getfield 155, 3, [8, 4, 0, 36], []), (.iload_n 2, 1, [2], []), (.iadd, 1, [], []), (.invokevirtual 162, 3, [0, 105, 1, 8, 17], []), (.aload_n 1, 1, [1], []), (.iload_n 2, 1, [2], []), (.invokevirtual 165, 3, [12, 0, 0, 0, 14], []), (.if_icmp .eq 5, 3, [63], []), (.iconst 0, 1, [], [0]), (.ireturn, 1, [], [])]
theorem lb_X8_isWord : B_X8_isWord.all (fun b => lst y_X8_isWord.2.1 8 y_X8_isWord.2.2.1 false b.1 b.2) = true := by decide +kernel
theorem ls_X8_isWord_0 : lst y_X8_isWord.2.1 8 y_X8_isWord.2.2.1 false 0 S_X8_isWord_0 = true := by decide +kernel
theorem ls_X8_isWord_35 : lst y_X8_isWord.2.1 8 y_X8_isWord.2.2.1 false 35 S_X8_isWord_35 = true := by decide +kernel
def C_X8_isWord (N : Nat) : Nat → List Value → mH → (Option Value → mH → Option (Int32 × mH)) → Option (Int32 × mH) := fun j as g k => kb j 105 (pr1 as fun b0 as => pp1 as fun b1 as => pe as ((f_X8_byteAt N b0 b1 g).bind fun p => k (some (.int p.1)) p.2)) (none)
theorem co_X8_isWord (N : Nat) (q : Int32 × mH) : clOK 5 q (C_X8_isWord N) := by
  intro j as g k e
  rcases kb_s e with ⟨rfl, e⟩ | e
  · obtain ⟨b0, r0, q0, f0⟩ := pr1_s e
    obtain ⟨b1, r1, q1, f1⟩ := pp1_s f0
    obtain ⟨qe, fe⟩ := pe_s f1
    obtain ⟨p, e1, e2⟩ := bnd_s fe
    subst qe
    subst q1
    subst q0
    exact ⟨_, _, _, _, 4, rfl, (by decide), m_X8_byteAt N e1, e2⟩
  cases e
set_option maxRecDepth 100000 in
theorem t_X8_isWord_35 {X : Nat × (Nat → Int32)} (N : Nat) {q : Int32 × mH} : ∀ (n : Nat) (a0 : Nat) (s1 : UInt32) (x2 : Int32) (h : mH), L_X8_isWord_35 N n a0 s1 x2 h = some q → MW X y_X8_isWord 5 35 [(0, .ref a0), (1, .float s1), (2, .int x2)] [] h (some (.int q.1)) q.2 := by
  intro n
  induction n with
  | zero => intro a0 s1 x2 h hf; cases hf
  | succ n ih =>
    intro a0 s1 x2 h hf
    refine ev_ok (o := 8) (ini := false) (Cl := C_X8_isWord N) (Rc := RcZ) (B := B_X8_isWord) (K := fun pc ls st g => kb pc 35 (lgr 0 ls fun a0 => lgs 1 ls fun s1 => lgi 2 ls fun x2 => pe st (L_X8_isWord_35 N n a0 s1 x2 g)) (none)) rfl (fun e => by cases e) (by decide) (rcZ_ok rfl) ?_ (co_X8_isWord N q) lb_X8_isWord 3000 35 S_X8_isWord_35 _ _ h ls_X8_isWord_35 hf
    intro pc ls st g e
    rcases kb_s e with ⟨rfl, e⟩ | e
    · obtain ⟨a0, e0, f0⟩ := lgr_s e
      obtain ⟨s1, e1, f1⟩ := lgs_s f0
      obtain ⟨x2, e2, f2⟩ := lgi_s f1
      obtain ⟨qe, fe⟩ := pe_s f2
      subst qe
      exact MW.sub (List.forall_mem_cons.mpr ⟨lg_mem e0, List.forall_mem_cons.mpr ⟨lg_mem e1, List.forall_mem_cons.mpr ⟨lg_mem e2, fun _ h => absurd h List.not_mem_nil⟩⟩⟩) (ih a0 s1 x2 g fe)
    cases e
set_option maxRecDepth 100000 in
theorem m_X8_isWord (N : Nat) {a0 : Nat} {s1 : UInt32} {h : mH} {q : Int32 × mH} (hf : f_X8_isWord N a0 s1 h = some q) : MM y_X8_isWord 5 [.ref a0, .float s1] h (some (.int q.1)) q.2 := by
  refine MM.of (mFx (j := 101) rfl).2.2.2.1 (Nat.le_of_ble_eq_true rfl) (fun X => ?_)
  refine ev_ok (o := 8) (ini := false) (Cl := C_X8_isWord N) (Rc := RcZ) (B := B_X8_isWord) (K := fun pc ls st g => kb pc 35 (lgr 0 ls fun a0 => lgs 1 ls fun s1 => lgi 2 ls fun x2 => pe st (L_X8_isWord_35 N N a0 s1 x2 g)) (none)) rfl (fun e => by cases e) (by decide) (rcZ_ok rfl) ?_ (co_X8_isWord N q) lb_X8_isWord 3000 0 S_X8_isWord_0 _ _ h ls_X8_isWord_0 hf
  intro pc ls st g e
  rcases kb_s e with ⟨rfl, e⟩ | e
  · obtain ⟨a0, e0, f0⟩ := lgr_s e
    obtain ⟨s1, e1, f1⟩ := lgs_s f0
    obtain ⟨x2, e2, f2⟩ := lgi_s f1
    obtain ⟨qe, fe⟩ := pe_s f2
    subst qe
    exact MW.sub (List.forall_mem_cons.mpr ⟨lg_mem e0, List.forall_mem_cons.mpr ⟨lg_mem e1, List.forall_mem_cons.mpr ⟨lg_mem e2, fun _ h => absurd h List.not_mem_nil⟩⟩⟩) (t_X8_isWord_35 N N a0 s1 x2 g fe)
  cases e
def f_X8_takeWord (N : Nat) (a0 : Nat) (s1 : UInt32) (h : mH) : Option (mH) :=
  (rcv h 8 a0).bind fun _ =>
  (f_X8_isWord N a0 s1 h).bind fun p1 =>
  if p1.1 = 0 then
    (rcv p1.2 8 a0).bind fun _ =>
    (f_X8_fail N a0 (jI 2) p1.2).bind fun h2 =>
    some h2
  else
    (rcv p1.2 8 a0).bind fun _ =>
    (f_X8_advance N a0 p1.2).bind fun h3 =>
    some h3
def y_X8_takeWord : mM := (yX8_takeWord, cX8_takeWord, 2, none)
def B_X8_takeWord : List (Nat × List mI) := [(15, [(.aload_n 0, 1, [0], []), (.iconst 2, 1, [], [2]), (.invokevirtual 94, 3, [0, 100, 1, 8, 20], [])]), (20, [(.return_, 1, [], [])])]
def S_X8_takeWord_0 : List mI := [(.aload_n 0, 1, [0], []), (.aload_n 1, 1, [1], []), (.invokevirtual 57, 3, [0, 101, 1, 8, 22], []), (.ifCond .eq 10, 3, [15], []), (.aload_n 0, 1, [0], []), (.invokevirtual 39, 3, [0, 108, 0, 8, 16], []), (.goto 8, 3, [20], [])]
theorem lb_X8_takeWord : B_X8_takeWord.all (fun b => lst y_X8_takeWord.2.1 8 y_X8_takeWord.2.2.1 false b.1 b.2) = true := by decide +kernel
theorem ls_X8_takeWord_0 : lst y_X8_takeWord.2.1 8 y_X8_takeWord.2.2.1 false 0 S_X8_takeWord_0 = true := by decide +kernel
def C_X8_takeWord (N : Nat) : Nat → List Value → mH → (Option Value → mH → Option (mH)) → Option (mH) := fun j as g k => kb j 101 (pr1 as fun b0 as => psu as fun b1 as => pe as ((f_X8_isWord N b0 b1 g).bind fun p => k (some (.int p.1)) p.2)) (kb j 108 (pr1 as fun b0 as => pe as ((f_X8_advance N b0 g).bind fun p => k none p)) (kb j 100 (pr1 as fun b0 as => pp1 as fun b1 as => pe as ((f_X8_fail N b0 b1 g).bind fun p => k none p)) (none)))
theorem co_X8_takeWord (N : Nat) (q : mH) : clOK 6 q (C_X8_takeWord N) := by
  intro j as g k e
  rcases kb_s e with ⟨rfl, e⟩ | e
  · obtain ⟨b0, r0, q0, f0⟩ := pr1_s e
    obtain ⟨b1, r1, q1, f1⟩ := psu_s f0
    obtain ⟨qe, fe⟩ := pe_s f1
    obtain ⟨p, e1, e2⟩ := bnd_s fe
    subst qe
    subst q1
    subst q0
    exact ⟨_, _, _, _, 5, rfl, (by decide), m_X8_isWord N e1, e2⟩
  rcases kb_s e with ⟨rfl, e⟩ | e
  · obtain ⟨b0, r0, q0, f0⟩ := pr1_s e
    obtain ⟨qe, fe⟩ := pe_s f0
    obtain ⟨p, e1, e2⟩ := bnd_s fe
    subst qe
    subst q0
    exact ⟨_, _, _, _, 5, rfl, (by decide), m_X8_advance N e1, e2⟩
  rcases kb_s e with ⟨rfl, e⟩ | e
  · obtain ⟨b0, r0, q0, f0⟩ := pr1_s e
    obtain ⟨b1, r1, q1, f1⟩ := pp1_s f0
    obtain ⟨qe, fe⟩ := pe_s f1
    obtain ⟨p, e1, e2⟩ := bnd_s fe
    subst qe
    subst q1
    subst q0
    exact ⟨_, _, _, _, 4, rfl, (by decide), m_X8_fail N e1, e2⟩
  cases e
set_option maxRecDepth 100000 in
theorem m_X8_takeWord (N : Nat) {a0 : Nat} {s1 : UInt32} {h : mH} {q : mH} (hf : f_X8_takeWord N a0 s1 h = some q) : MM y_X8_takeWord 6 [.ref a0, .float s1] h none q := by
  refine MM.of (mFx (j := 102) rfl).2.2.2.1 (Nat.le_of_ble_eq_true rfl) (fun X => ?_)
  refine ev_ok (o := 8) (ini := false) (Cl := C_X8_takeWord N) (Rc := RcV) (B := B_X8_takeWord) (K := fun pc ls st g => none) rfl (fun e => by cases e) (by decide) (rcV_ok rfl) ?_ (co_X8_takeWord N q) lb_X8_takeWord 3000 0 S_X8_takeWord_0 _ _ h ls_X8_takeWord_0 hf
  intro pc ls st g e
  cases e
def f_X8_takeNumber (N : Nat) (a0 : Nat) (x1 : Int32) (x2 : Int32) (h : mH) : Option (Int32 × mH) :=
  (gI h 8 a0 0).bind fun v1 =>
  if v1 = 0 then
    (gI h 8 a0 6).bind fun v2 =>
    if v2 = (jI 2) then
      (gI h 8 a0 7).bind fun v3 =>
      if v3 < x1 then
        (rcv h 8 a0).bind fun _ =>
        (f_X8_fail N a0 (jI 3) h).bind fun h4 =>
        some (jI 0, h4)
      else
        if x2 < v3 then
          (rcv h 8 a0).bind fun _ =>
          (f_X8_fail N a0 (jI 3) h).bind fun h5 =>
          some (jI 0, h5)
        else
          (rcv h 8 a0).bind fun _ =>
          (f_X8_advance N a0 h).bind fun h6 =>
          some (v3, h6)
    else
      (rcv h 8 a0).bind fun _ =>
      (f_X8_fail N a0 (jI 2) h).bind fun h7 =>
      some (jI 0, h7)
  else
    (rcv h 8 a0).bind fun _ =>
    (f_X8_fail N a0 (jI 2) h).bind fun h8 =>
    some (jI 0, h8)
def y_X8_takeNumber : mM := (yX8_takeNumber, cX8_takeNumber, 4, (some .int))
def B_X8_takeNumber : List (Nat × List mI) := [(15, [(.aload_n 0, 1, [0], []), (.iconst 2, 1, [], [2]), (.invokevirtual 94, 3, [0, 100, 1, 8, 20], []), (.iconst 0, 1, [], [0]), (.ireturn, 1, [], [])]), (22, [(.aload_n 0, 1, [0], []), (.getfield 169, 3, [8, 7, 0, 39], []), (.istore_n 3, 1, [3], []), (.iload_n 3, 1, [3], []), (.iload_n 1, 1, [1], []), (.if_icmp .lt 8, 3, [37], []), (.iload_n 3, 1, [3], []), (.iload_n 2, 1, [2], []), (.if_icmp .le 10, 3, [44], [])]), (37, [(.aload_n 0, 1, [0], []), (.iconst 3, 1, [], [3]), (.invokevirtual 94, 3, [0, 100, 1, 8, 20], []), (.iconst 0, 1, [], [0]), (.ireturn, 1, [], [])]), (44, [(.aload_n 0, 1, [0], []), (.invokevirtual 39, 3, [0, 108, 0, 8, 16], []), (.iload_n 3, 1, [3], []), (.ireturn, 1, [], [])])]
def S_X8_takeNumber_0 : List mI := [(.aload_n 0, 1, [0], []), (.getfield 31, 3, [8, 0, 0, 30], []), (.ifCond .ne 11, 3, [15], []), (.aload_n 0, 1, [0], []), (.getfield 42, 3, [8, 6, 0, 38], []), (.iconst 2, 1, [], [2]), (.if_icmp .eq 10, 3, [22], [])]
theorem lb_X8_takeNumber : B_X8_takeNumber.all (fun b => lst y_X8_takeNumber.2.1 8 y_X8_takeNumber.2.2.1 false b.1 b.2) = true := by decide +kernel
theorem ls_X8_takeNumber_0 : lst y_X8_takeNumber.2.1 8 y_X8_takeNumber.2.2.1 false 0 S_X8_takeNumber_0 = true := by decide +kernel
def C_X8_takeNumber (N : Nat) : Nat → List Value → mH → (Option Value → mH → Option (Int32 × mH)) → Option (Int32 × mH) := fun j as g k => kb j 100 (pr1 as fun b0 as => pp1 as fun b1 as => pe as ((f_X8_fail N b0 b1 g).bind fun p => k none p)) (kb j 108 (pr1 as fun b0 as => pe as ((f_X8_advance N b0 g).bind fun p => k none p)) (none))
theorem co_X8_takeNumber (N : Nat) (q : Int32 × mH) : clOK 6 q (C_X8_takeNumber N) := by
  intro j as g k e
  rcases kb_s e with ⟨rfl, e⟩ | e
  · obtain ⟨b0, r0, q0, f0⟩ := pr1_s e
    obtain ⟨b1, r1, q1, f1⟩ := pp1_s f0
    obtain ⟨qe, fe⟩ := pe_s f1
    obtain ⟨p, e1, e2⟩ := bnd_s fe
    subst qe
    subst q1
    subst q0
    exact ⟨_, _, _, _, 4, rfl, (by decide), m_X8_fail N e1, e2⟩
  rcases kb_s e with ⟨rfl, e⟩ | e
  · obtain ⟨b0, r0, q0, f0⟩ := pr1_s e
    obtain ⟨qe, fe⟩ := pe_s f0
    obtain ⟨p, e1, e2⟩ := bnd_s fe
    subst qe
    subst q0
    exact ⟨_, _, _, _, 5, rfl, (by decide), m_X8_advance N e1, e2⟩
  cases e
set_option maxRecDepth 100000 in
theorem m_X8_takeNumber (N : Nat) {a0 : Nat} {x1 : Int32} {x2 : Int32} {h : mH} {q : Int32 × mH} (hf : f_X8_takeNumber N a0 x1 x2 h = some q) : MM y_X8_takeNumber 6 [.ref a0, .int x1, .int x2] h (some (.int q.1)) q.2 := by
  refine MM.of (mFx (j := 103) rfl).2.2.2.1 (Nat.le_of_ble_eq_true rfl) (fun X => ?_)
  refine ev_ok (o := 8) (ini := false) (Cl := C_X8_takeNumber N) (Rc := RcI) (B := B_X8_takeNumber) (K := fun pc ls st g => none) rfl (fun e => by cases e) (by decide) (rcI_ok rfl) ?_ (co_X8_takeNumber N q) lb_X8_takeNumber 3000 0 S_X8_takeNumber_0 _ _ h ls_X8_takeNumber_0 hf
  intro pc ls st g e
  cases e
def f_X8_readStakes (N : Nat) (a0 : Nat) (a1 : Nat) (h : mH) : Option (mH) :=
  (gI h 0 a1 0).bind fun v1 =>
  if v1 = 0 then
    (rcv h 8 a0).bind fun _ =>
    (f_X8_takeWord N a0 (UInt32.ofNat 0) h).bind fun h2 =>
    (rcv h2 8 a0).bind fun _ =>
    (f_X8_takeNumber N a0 (jI 3) (jI 32) h2).bind fun p3 =>
    (pV p3.2 0 a1 0 (.int p3.1)).bind fun h4 =>
    some h4
  else
    (rcv h 8 a0).bind fun _ =>
    (f_X8_fail N a0 (jI 4) h).bind fun h5 =>
    (rcv h5 8 a0).bind fun _ =>
    (f_X8_takeWord N a0 (UInt32.ofNat 0) h5).bind fun h6 =>
    (rcv h6 8 a0).bind fun _ =>
    (f_X8_takeNumber N a0 (jI 3) (jI 32) h6).bind fun p7 =>
    (pV p7.2 0 a1 0 (.int p7.1)).bind fun h8 =>
    some h8
def y_X8_readStakes : mM := (yX8_readStakes, cX8_readStakes, 2, none)
def B_X8_readStakes : List (Nat × List mI) := [(12, [(.aload_n 0, 1, [0], []), (.ldc 55, 2, [1, 0], []), (.invokevirtual 81, 3, [0, 102, 1, 8, 24], []), (.aload_n 1, 1, [1], []), (.aload_n 0, 1, [0], []), (.iconst 3, 1, [], [3]), (.bipush 32, 2, [], [32]), (.invokevirtual 85, 3, [0, 103, 2, 8, 25], []), (.putfield 98, 3, [0, 0, 0, 1], []), (.return_, 1, [], [])])]
def S_X8_readStakes_0 : List mI := [(.aload_n 1, 1, [1], []), (.getfield 98, 3, [0, 0, 0, 1], []), (.ifCond .eq 8, 3, [12], []), (.aload_n 0, 1, [0], []), (.iconst 4, 1, [], [4]), (.invokevirtual 94, 3, [0, 100, 1, 8, 20], [])]
theorem lb_X8_readStakes : B_X8_readStakes.all (fun b => lst y_X8_readStakes.2.1 8 y_X8_readStakes.2.2.1 false b.1 b.2) = true := by decide +kernel
theorem ls_X8_readStakes_0 : lst y_X8_readStakes.2.1 8 y_X8_readStakes.2.2.1 false 0 S_X8_readStakes_0 = true := by decide +kernel
def C_X8_readStakes (N : Nat) : Nat → List Value → mH → (Option Value → mH → Option (mH)) → Option (mH) := fun j as g k => kb j 100 (pr1 as fun b0 as => pp1 as fun b1 as => pe as ((f_X8_fail N b0 b1 g).bind fun p => k none p)) (kb j 102 (pr1 as fun b0 as => psu as fun b1 as => pe as ((f_X8_takeWord N b0 b1 g).bind fun p => k none p)) (kb j 103 (pr1 as fun b0 as => pp1 as fun b1 as => pp1 as fun b2 as => pe as ((f_X8_takeNumber N b0 b1 b2 g).bind fun p => k (some (.int p.1)) p.2)) (none)))
theorem co_X8_readStakes (N : Nat) (q : mH) : clOK 7 q (C_X8_readStakes N) := by
  intro j as g k e
  rcases kb_s e with ⟨rfl, e⟩ | e
  · obtain ⟨b0, r0, q0, f0⟩ := pr1_s e
    obtain ⟨b1, r1, q1, f1⟩ := pp1_s f0
    obtain ⟨qe, fe⟩ := pe_s f1
    obtain ⟨p, e1, e2⟩ := bnd_s fe
    subst qe
    subst q1
    subst q0
    exact ⟨_, _, _, _, 4, rfl, (by decide), m_X8_fail N e1, e2⟩
  rcases kb_s e with ⟨rfl, e⟩ | e
  · obtain ⟨b0, r0, q0, f0⟩ := pr1_s e
    obtain ⟨b1, r1, q1, f1⟩ := psu_s f0
    obtain ⟨qe, fe⟩ := pe_s f1
    obtain ⟨p, e1, e2⟩ := bnd_s fe
    subst qe
    subst q1
    subst q0
    exact ⟨_, _, _, _, 6, rfl, (by decide), m_X8_takeWord N e1, e2⟩
  rcases kb_s e with ⟨rfl, e⟩ | e
  · obtain ⟨b0, r0, q0, f0⟩ := pr1_s e
    obtain ⟨b1, r1, q1, f1⟩ := pp1_s f0
    obtain ⟨b2, r2, q2, f2⟩ := pp1_s f1
    obtain ⟨qe, fe⟩ := pe_s f2
    obtain ⟨p, e1, e2⟩ := bnd_s fe
    subst qe
    subst q2
    subst q1
    subst q0
    exact ⟨_, _, _, _, 6, rfl, (by decide), m_X8_takeNumber N e1, e2⟩
  cases e
set_option maxRecDepth 100000 in
theorem m_X8_readStakes (N : Nat) {a0 : Nat} {a1 : Nat} {h : mH} {q : mH} (hf : f_X8_readStakes N a0 a1 h = some q) : MM y_X8_readStakes 7 [.ref a0, .ref a1] h none q := by
  refine MM.of (mFx (j := 94) rfl).2.2.2.1 (Nat.le_of_ble_eq_true rfl) (fun X => ?_)
  refine ev_ok (o := 8) (ini := false) (Cl := C_X8_readStakes N) (Rc := RcV) (B := B_X8_readStakes) (K := fun pc ls st g => none) rfl (fun e => by cases e) (by decide) (rcV_ok rfl) ?_ (co_X8_readStakes N q) lb_X8_readStakes 3000 0 S_X8_readStakes_0 _ _ h ls_X8_readStakes_0 hf
  intro pc ls st g e
  cases e
def f_X8_readRod (N : Nat) (a0 : Nat) (a1 : Nat) (h : mH) : Option (mH) :=
  (gI h 0 a1 1).bind fun v1 =>
  if v1 < (jI 6) then
    (gI h 0 a1 1).bind fun v2 =>
    let w3 := iMul v2 (jI 4)
    (rcv h 8 a0).bind fun _ =>
    (f_X8_takeWord N a0 (UInt32.ofNat 1) h).bind fun h4 =>
    (gR h4 0 a1 7).bind fun v5 =>
    (rcv h4 8 a0).bind fun _ =>
    (f_X8_takeNumber N a0 (jI 2) (jI 99) h4).bind fun p6 =>
    (stI 0 p6.2 v5 (iAdd w3 (jI 0)) p6.1).bind fun h7 =>
    (rcv h7 8 a0).bind fun _ =>
    (f_X8_takeWord N a0 (UInt32.ofNat 2) h7).bind fun h8 =>
    (gR h8 0 a1 7).bind fun v9 =>
    (rcv h8 8 a0).bind fun _ =>
    (f_X8_takeNumber N a0 (jI 1) (jI 9) h8).bind fun p10 =>
    (stI 0 p10.2 v9 (iAdd w3 (jI 1)) p10.1).bind fun h11 =>
    (rcv h11 8 a0).bind fun _ =>
    (f_X8_takeWord N a0 (UInt32.ofNat 3) h11).bind fun h12 =>
    (gR h12 0 a1 7).bind fun v13 =>
    (rcv h12 8 a0).bind fun _ =>
    (f_X8_takeNumber N a0 (jI 0) (jI 50) h12).bind fun p14 =>
    (stI 0 p14.2 v13 (iAdd w3 (jI 2)) p14.1).bind fun h15 =>
    (rcv h15 8 a0).bind fun _ =>
    (f_X8_takeWord N a0 (UInt32.ofNat 4) h15).bind fun h16 =>
    (gR h16 0 a1 7).bind fun v17 =>
    (rcv h16 8 a0).bind fun _ =>
    (f_X8_takeNumber N a0 (jI 0) (jI 99) h16).bind fun p18 =>
    (stI 0 p18.2 v17 (iAdd w3 (jI 3)) p18.1).bind fun h19 =>
    (gI h19 0 a1 1).bind fun v20 =>
    (pV h19 0 a1 1 (.int (iAdd v20 (jI 1)))).bind fun h21 =>
    some h21
  else
    (rcv h 8 a0).bind fun _ =>
    (f_X8_fail N a0 (jI 4) h).bind fun h22 =>
    some h22
def y_X8_readRod : mM := (yX8_readRod, cX8_readRod, 3, none)
def B_X8_readRod : List (Nat × List mI) := [(15, [(.aload_n 1, 1, [1], []), (.getfield 100, 3, [0, 1, 0, 5], []), (.iconst 4, 1, [], [4]), (.imul, 1, [], []), (.istore_n 2, 1, [2], []), (.aload_n 0, 1, [0], []), (.ldc 64, 2, [1, 1], []), (.invokevirtual 81, 3, [0, 102, 1, 8, 24], []), (.aload_n 1, 1, [1], []), (.getfield 103, 3, [0, 7, 2, 25], []), (.iload_n 2, 1, [2], []), (.iconst 0, 1, [], [0]), (.iadd, 1, [], []), (.aload_n 0, 1, [0], []), (.iconst 2, 1, [], [2]), (.bipush 99, 2, [], [99]), (.invokevirtual 85, 3, [0, 103, 2, 8, 25], []), (.iastore, 1, [], []), (.aload_n 0, 1, [0], []), (.ldc 107, 2, [1, 2], []), (.invokevirtual 81, 3, [0, 102, 1, 8, 24], []), (.aload_n 1, 1, [1], []), (.getfield 103, 3, [0, 7, 2, 25], []), (.iload_n 2, 1, [2], []), (.iconst 1, 1, [], [1]), (.iadd, 1, [], []), (.aload_n 0, 1, [0], []), (.iconst 1, 1, [], [1]), (.bipush 9, 2, [], [9]), (.invokevirtual 85, 3, [0, 103, 2, 8, 25], []), (.iastore, 1, [], []), (.aload_n 0, 1, [0], []), (.ldc 109, 2, [1, 3], []), (.invokevirtual 81, 3, [0, 102, 1, 8, 24], []), (.aload_n 1, 1, [1], []), (.getfield 103, 3, [0, 7, 2, 25], []), (.iload_n 2, 1, [2], []), (.iconst 2, 1, [], [2]), (.iadd, 1, [], []), (.aload_n 0, 1, [0], []), (.iconst 0, 1, [], [0]), (.bipush 50, 2, [], [50]), (.invokevirtual 85, 3, [0, 103, 2, 8, 25], []), (.iastore, 1, [], []), (.aload_n 0, 1, [0], []), (.ldc 111, 2, [1, 4], []), (.invokevirtual 81, 3, [0, 102, 1, 8, 24], []), (.aload_n 1, 1, [1], []), (.getfield 103, 3, [0, 7, 2, 25], []), (.iload_n 2, 1, [2], []), (.iconst 3, 1, [], [3]), (.iadd, 1, [], []), (.aload_n 0, 1, [0], []), (.iconst 0, 1, [], [0]), (.bipush 99, 2, [], [99]), (.invokevirtual 85, 3, [0, 103, 2, 8, 25], []), (.iastore, 1, [], []), (.aload_n 1, 1, [1], []), (.dup, 1, [], []), (.getfield 100, 3, [0, 1, 0, 5], []), (.iconst 1, 1, [], [1]), (.iadd, 1, [], []), (.putfield 100, 3, [0, 1, 0, 5], []), (.return_, 1, [], [])])]
def S_X8_readRod_0 : List mI := [(.aload_n 1, 1, [1], []), (.getfield 100, 3, [0, 1, 0, 5], []), (.bipush 6, 2, [], [6]), (.if_icmp .lt 9, 3, [15], []), (.aload_n 0, 1, [0], []), (.iconst 4, 1, [], [4]), (.invokevirtual 94, 3, [0, 100, 1, 8, 20], []), (.return_, 1, [], [])]
theorem lb_X8_readRod : B_X8_readRod.all (fun b => lst y_X8_readRod.2.1 8 y_X8_readRod.2.2.1 false b.1 b.2) = true := by decide +kernel
theorem ls_X8_readRod_0 : lst y_X8_readRod.2.1 8 y_X8_readRod.2.2.1 false 0 S_X8_readRod_0 = true := by decide +kernel
def C_X8_readRod (N : Nat) : Nat → List Value → mH → (Option Value → mH → Option (mH)) → Option (mH) := fun j as g k => kb j 100 (pr1 as fun b0 as => pp1 as fun b1 as => pe as ((f_X8_fail N b0 b1 g).bind fun p => k none p)) (kb j 102 (pr1 as fun b0 as => psu as fun b1 as => pe as ((f_X8_takeWord N b0 b1 g).bind fun p => k none p)) (kb j 103 (pr1 as fun b0 as => pp1 as fun b1 as => pp1 as fun b2 as => pe as ((f_X8_takeNumber N b0 b1 b2 g).bind fun p => k (some (.int p.1)) p.2)) (none)))
theorem co_X8_readRod (N : Nat) (q : mH) : clOK 7 q (C_X8_readRod N) := by
  intro j as g k e
  rcases kb_s e with ⟨rfl, e⟩ | e
  · obtain ⟨b0, r0, q0, f0⟩ := pr1_s e
    obtain ⟨b1, r1, q1, f1⟩ := pp1_s f0
    obtain ⟨qe, fe⟩ := pe_s f1
    obtain ⟨p, e1, e2⟩ := bnd_s fe
    subst qe
    subst q1
    subst q0
    exact ⟨_, _, _, _, 4, rfl, (by decide), m_X8_fail N e1, e2⟩
  rcases kb_s e with ⟨rfl, e⟩ | e
  · obtain ⟨b0, r0, q0, f0⟩ := pr1_s e
    obtain ⟨b1, r1, q1, f1⟩ := psu_s f0
    obtain ⟨qe, fe⟩ := pe_s f1
    obtain ⟨p, e1, e2⟩ := bnd_s fe
    subst qe
    subst q1
    subst q0
    exact ⟨_, _, _, _, 6, rfl, (by decide), m_X8_takeWord N e1, e2⟩
  rcases kb_s e with ⟨rfl, e⟩ | e
  · obtain ⟨b0, r0, q0, f0⟩ := pr1_s e
    obtain ⟨b1, r1, q1, f1⟩ := pp1_s f0
    obtain ⟨b2, r2, q2, f2⟩ := pp1_s f1
    obtain ⟨qe, fe⟩ := pe_s f2
    obtain ⟨p, e1, e2⟩ := bnd_s fe
    subst qe
    subst q2
    subst q1
    subst q0
    exact ⟨_, _, _, _, 6, rfl, (by decide), m_X8_takeNumber N e1, e2⟩
  cases e
set_option maxRecDepth 100000 in
theorem m_X8_readRod (N : Nat) {a0 : Nat} {a1 : Nat} {h : mH} {q : mH} (hf : f_X8_readRod N a0 a1 h = some q) : MM y_X8_readRod 7 [.ref a0, .ref a1] h none q := by
  refine MM.of (mFx (j := 95) rfl).2.2.2.1 (Nat.le_of_ble_eq_true rfl) (fun X => ?_)
  refine ev_ok (o := 8) (ini := false) (Cl := C_X8_readRod N) (Rc := RcV) (B := B_X8_readRod) (K := fun pc ls st g => none) rfl (fun e => by cases e) (by decide) (rcV_ok rfl) ?_ (co_X8_readRod N q) lb_X8_readRod 3000 0 S_X8_readRod_0 _ _ h ls_X8_readRod_0 hf
  intro pc ls st g e
  cases e
def f_X8_takeLeft (N : Nat) (a0 : Nat) (h : mH) : Option (Int32 × mH) :=
  (rcv h 8 a0).bind fun _ =>
  (f_X8_isWord N a0 (UInt32.ofNat 11) h).bind fun p1 =>
  if p1.1 = 0 then
    some (jI 0, p1.2)
  else
    (rcv p1.2 8 a0).bind fun _ =>
    (f_X8_takeWord N a0 (UInt32.ofNat 11) p1.2).bind fun h2 =>
    some (jI 1, h2)
def y_X8_takeLeft : mM := (yX8_takeLeft, cX8_takeLeft, 1, (some .int))
def B_X8_takeLeft : List (Nat × List mI) := [(11, [(.aload_n 0, 1, [0], []), (.ldc 136, 2, [1, 11], []), (.invokevirtual 81, 3, [0, 102, 1, 8, 24], []), (.iconst 1, 1, [], [1]), (.ireturn, 1, [], [])])]
def S_X8_takeLeft_0 : List mI := [(.aload_n 0, 1, [0], []), (.ldc 136, 2, [1, 11], []), (.invokevirtual 57, 3, [0, 101, 1, 8, 22], []), (.ifCond .ne 5, 3, [11], []), (.iconst 0, 1, [], [0]), (.ireturn, 1, [], [])]
theorem lb_X8_takeLeft : B_X8_takeLeft.all (fun b => lst y_X8_takeLeft.2.1 8 y_X8_takeLeft.2.2.1 false b.1 b.2) = true := by decide +kernel
theorem ls_X8_takeLeft_0 : lst y_X8_takeLeft.2.1 8 y_X8_takeLeft.2.2.1 false 0 S_X8_takeLeft_0 = true := by decide +kernel
def C_X8_takeLeft (N : Nat) : Nat → List Value → mH → (Option Value → mH → Option (Int32 × mH)) → Option (Int32 × mH) := fun j as g k => kb j 101 (pr1 as fun b0 as => psu as fun b1 as => pe as ((f_X8_isWord N b0 b1 g).bind fun p => k (some (.int p.1)) p.2)) (kb j 102 (pr1 as fun b0 as => psu as fun b1 as => pe as ((f_X8_takeWord N b0 b1 g).bind fun p => k none p)) (none))
theorem co_X8_takeLeft (N : Nat) (q : Int32 × mH) : clOK 7 q (C_X8_takeLeft N) := by
  intro j as g k e
  rcases kb_s e with ⟨rfl, e⟩ | e
  · obtain ⟨b0, r0, q0, f0⟩ := pr1_s e
    obtain ⟨b1, r1, q1, f1⟩ := psu_s f0
    obtain ⟨qe, fe⟩ := pe_s f1
    obtain ⟨p, e1, e2⟩ := bnd_s fe
    subst qe
    subst q1
    subst q0
    exact ⟨_, _, _, _, 5, rfl, (by decide), m_X8_isWord N e1, e2⟩
  rcases kb_s e with ⟨rfl, e⟩ | e
  · obtain ⟨b0, r0, q0, f0⟩ := pr1_s e
    obtain ⟨b1, r1, q1, f1⟩ := psu_s f0
    obtain ⟨qe, fe⟩ := pe_s f1
    obtain ⟨p, e1, e2⟩ := bnd_s fe
    subst qe
    subst q1
    subst q0
    exact ⟨_, _, _, _, 6, rfl, (by decide), m_X8_takeWord N e1, e2⟩
  cases e
set_option maxRecDepth 100000 in
theorem m_X8_takeLeft (N : Nat) {a0 : Nat} {h : mH} {q : Int32 × mH} (hf : f_X8_takeLeft N a0 h = some q) : MM y_X8_takeLeft 7 [.ref a0] h (some (.int q.1)) q.2 := by
  refine MM.of (mFx (j := 97) rfl).2.2.2.1 (Nat.le_of_ble_eq_true rfl) (fun X => ?_)
  refine ev_ok (o := 8) (ini := false) (Cl := C_X8_takeLeft N) (Rc := RcI) (B := B_X8_takeLeft) (K := fun pc ls st g => none) rfl (fun e => by cases e) (by decide) (rcI_ok rfl) ?_ (co_X8_takeLeft N q) lb_X8_takeLeft 3000 0 S_X8_takeLeft_0 _ _ h ls_X8_takeLeft_0 hf
  intro pc ls st g e
  cases e
def f_X8_takeLean (N : Nat) (a0 : Nat) (h : mH) : Option (Int32 × mH) :=
  (rcv h 8 a0).bind fun _ =>
  (f_X8_isWord N a0 (UInt32.ofNat 12) h).bind fun p1 =>
  if p1.1 = 0 then
    (rcv p1.2 8 a0).bind fun _ =>
    (f_X8_isWord N a0 (UInt32.ofNat 13) p1.2).bind fun p2 =>
    if p2.1 = 0 then
      some (jI 0, p2.2)
    else
      (rcv p2.2 8 a0).bind fun _ =>
      (f_X8_takeWord N a0 (UInt32.ofNat 13) p2.2).bind fun h3 =>
      (rcv h3 8 a0).bind fun _ =>
      (f_X8_takeNumber N a0 (jI 0) (jI 9) h3).bind fun p4 =>
      some (iNeg p4.1, p4.2)
  else
    (rcv p1.2 8 a0).bind fun _ =>
    (f_X8_takeWord N a0 (UInt32.ofNat 12) p1.2).bind fun h5 =>
    (rcv h5 8 a0).bind fun _ =>
    (f_X8_takeNumber N a0 (jI 0) (jI 9) h5).bind fun p6 =>
    some (p6.1, p6.2)
def y_X8_takeLean : mM := (yX8_takeLean, cX8_takeLean, 1, (some .int))
def B_X8_takeLean : List (Nat × List mI) := [(23, [(.aload_n 0, 1, [0], []), (.ldc 140, 2, [1, 13], []), (.invokevirtual 57, 3, [0, 101, 1, 8, 22], []), (.ifCond .eq 18, 3, [47], []), (.aload_n 0, 1, [0], []), (.ldc 140, 2, [1, 13], []), (.invokevirtual 81, 3, [0, 102, 1, 8, 24], []), (.aload_n 0, 1, [0], []), (.iconst 0, 1, [], [0]), (.bipush 9, 2, [], [9]), (.invokevirtual 85, 3, [0, 103, 2, 8, 25], []), (.ineg, 1, [], []), (.ireturn, 1, [], [])]), (47, [(.iconst 0, 1, [], [0]), (.ireturn, 1, [], [])])]
def S_X8_takeLean_0 : List mI := [(.aload_n 0, 1, [0], []), (.ldc 138, 2, [1, 12], []), (.invokevirtual 57, 3, [0, 101, 1, 8, 22], []), (.ifCond .eq 17, 3, [23], []), (.aload_n 0, 1, [0], []), (.ldc 138, 2, [1, 12], []), (.invokevirtual 81, 3, [0, 102, 1, 8, 24], []), (.aload_n 0, 1, [0], []), (.iconst 0, 1, [], [0]), (.bipush 9, 2, [], [9]), (.invokevirtual 85, 3, [0, 103, 2, 8, 25], []), (.ireturn, 1, [], [])]
theorem lb_X8_takeLean : B_X8_takeLean.all (fun b => lst y_X8_takeLean.2.1 8 y_X8_takeLean.2.2.1 false b.1 b.2) = true := by decide +kernel
theorem ls_X8_takeLean_0 : lst y_X8_takeLean.2.1 8 y_X8_takeLean.2.2.1 false 0 S_X8_takeLean_0 = true := by decide +kernel
def C_X8_takeLean (N : Nat) : Nat → List Value → mH → (Option Value → mH → Option (Int32 × mH)) → Option (Int32 × mH) := fun j as g k => kb j 101 (pr1 as fun b0 as => psu as fun b1 as => pe as ((f_X8_isWord N b0 b1 g).bind fun p => k (some (.int p.1)) p.2)) (kb j 102 (pr1 as fun b0 as => psu as fun b1 as => pe as ((f_X8_takeWord N b0 b1 g).bind fun p => k none p)) (kb j 103 (pr1 as fun b0 as => pp1 as fun b1 as => pp1 as fun b2 as => pe as ((f_X8_takeNumber N b0 b1 b2 g).bind fun p => k (some (.int p.1)) p.2)) (none)))
theorem co_X8_takeLean (N : Nat) (q : Int32 × mH) : clOK 7 q (C_X8_takeLean N) := by
  intro j as g k e
  rcases kb_s e with ⟨rfl, e⟩ | e
  · obtain ⟨b0, r0, q0, f0⟩ := pr1_s e
    obtain ⟨b1, r1, q1, f1⟩ := psu_s f0
    obtain ⟨qe, fe⟩ := pe_s f1
    obtain ⟨p, e1, e2⟩ := bnd_s fe
    subst qe
    subst q1
    subst q0
    exact ⟨_, _, _, _, 5, rfl, (by decide), m_X8_isWord N e1, e2⟩
  rcases kb_s e with ⟨rfl, e⟩ | e
  · obtain ⟨b0, r0, q0, f0⟩ := pr1_s e
    obtain ⟨b1, r1, q1, f1⟩ := psu_s f0
    obtain ⟨qe, fe⟩ := pe_s f1
    obtain ⟨p, e1, e2⟩ := bnd_s fe
    subst qe
    subst q1
    subst q0
    exact ⟨_, _, _, _, 6, rfl, (by decide), m_X8_takeWord N e1, e2⟩
  rcases kb_s e with ⟨rfl, e⟩ | e
  · obtain ⟨b0, r0, q0, f0⟩ := pr1_s e
    obtain ⟨b1, r1, q1, f1⟩ := pp1_s f0
    obtain ⟨b2, r2, q2, f2⟩ := pp1_s f1
    obtain ⟨qe, fe⟩ := pe_s f2
    obtain ⟨p, e1, e2⟩ := bnd_s fe
    subst qe
    subst q2
    subst q1
    subst q0
    exact ⟨_, _, _, _, 6, rfl, (by decide), m_X8_takeNumber N e1, e2⟩
  cases e
set_option maxRecDepth 100000 in
theorem m_X8_takeLean (N : Nat) {a0 : Nat} {h : mH} {q : Int32 × mH} (hf : f_X8_takeLean N a0 h = some q) : MM y_X8_takeLean 7 [.ref a0] h (some (.int q.1)) q.2 := by
  refine MM.of (mFx (j := 98) rfl).2.2.2.1 (Nat.le_of_ble_eq_true rfl) (fun X => ?_)
  refine ev_ok (o := 8) (ini := false) (Cl := C_X8_takeLean N) (Rc := RcI) (B := B_X8_takeLean) (K := fun pc ls st g => none) rfl (fun e => by cases e) (by decide) (rcI_ok rfl) ?_ (co_X8_takeLean N q) lb_X8_takeLean 3000 0 S_X8_takeLean_0 _ _ h ls_X8_takeLean_0 hf
  intro pc ls st g e
  cases e
def J_X8_readBand_194 (N : Nat) (a0 : Nat) (a1 : Nat) (x2 : Int32) (h : mH) : Option (mH) :=
  (gR h 0 a1 8).bind fun v1 =>
  (rcv h 8 a0).bind fun _ =>
  (f_X8_takeLeft N a0 h).bind fun p2 =>
  (stI 0 p2.2 v1 (iAdd x2 (jI 5)) p2.1).bind fun h3 =>
  (gR h3 0 a1 8).bind fun v4 =>
  (rcv h3 8 a0).bind fun _ =>
  (f_X8_takeLean N a0 h3).bind fun p5 =>
  (stI 0 p5.2 v4 (iAdd x2 (jI 6)) p5.1).bind fun h6 =>
  (gI h6 0 a1 2).bind fun v7 =>
  (pV h6 0 a1 2 (.int (iAdd v7 (jI 1)))).bind fun h8 =>
  some h8
def L_X8_readBand_153 (N : Nat) : Nat → Nat → Nat → Int32 → Int32 → Int32 → mH → Option (mH)
  | 0, _, _, _, _, _, _ => none
  | n + 1, a0, a1, x2, x3, x4, h =>
    if x4 < x3 then
      if x4 < (jI 4) then
        (gR h 0 a1 8).bind fun v1 =>
        (gI h 0 a1 1).bind fun v2 =>
        (rcv h 8 a0).bind fun _ =>
        (f_X8_takeNumber N a0 (jI 0) (iSub v2 (jI 1)) h).bind fun p3 =>
        (stI 0 p3.2 v1 (iAdd (iAdd x2 (jI 7)) x4) p3.1).bind fun h4 =>
        let w5 := iAdd x4 (jI 1)
        L_X8_readBand_153 N n a0 a1 x2 x3 w5 h4
      else
        J_X8_readBand_194 N a0 a1 x2 h
    else
      J_X8_readBand_194 N a0 a1 x2 h
def f_X8_readBand (N : Nat) (a0 : Nat) (a1 : Nat) (h : mH) : Option (mH) :=
  (gI h 0 a1 0).bind fun v1 =>
  if v1 = 0 then
    (rcv h 8 a0).bind fun _ =>
    (f_X8_fail N a0 (jI 3) h).bind fun h2 =>
    some h2
  else
    (gI h 0 a1 2).bind fun v3 =>
    if v3 < (jI 8) then
      (gI h 0 a1 2).bind fun v4 =>
      let w5 := iMul v4 (jI 11)
      (rcv h 8 a0).bind fun _ =>
      (f_X8_takeWord N a0 (UInt32.ofNat 5) h).bind fun h6 =>
      (rcv h6 8 a0).bind fun _ =>
      (f_X8_takeNumber N a0 (jI 1) (jI 4) h6).bind fun p7 =>
      (gR p7.2 0 a1 8).bind fun v8 =>
      (stI 0 p7.2 v8 (iAdd w5 (jI 0)) p7.1).bind fun h9 =>
      (rcv h9 8 a0).bind fun _ =>
      (f_X8_takeWord N a0 (UInt32.ofNat 6) h9).bind fun h10 =>
      (gR h10 0 a1 8).bind fun v11 =>
      (rcv h10 8 a0).bind fun _ =>
      (f_X8_takeNumber N a0 (jI 1) (jI 4) h10).bind fun p12 =>
      (stI 0 p12.2 v11 (iAdd w5 (jI 1)) p12.1).bind fun h13 =>
      (rcv h13 8 a0).bind fun _ =>
      (f_X8_takeWord N a0 (UInt32.ofNat 7) h13).bind fun h14 =>
      (gR h14 0 a1 8).bind fun v15 =>
      (rcv h14 8 a0).bind fun _ =>
      (f_X8_takeNumber N a0 (jI 1) (jI 4) h14).bind fun p16 =>
      (stI 0 p16.2 v15 (iAdd w5 (jI 2)) p16.1).bind fun h17 =>
      (rcv h17 8 a0).bind fun _ =>
      (f_X8_takeWord N a0 (UInt32.ofNat 8) h17).bind fun h18 =>
      (gR h18 0 a1 8).bind fun v19 =>
      (rcv h18 8 a0).bind fun _ =>
      (f_X8_takeNumber N a0 (jI 1) (jI 40) h18).bind fun p20 =>
      (stI 0 p20.2 v19 (iAdd w5 (jI 3)) p20.1).bind fun h21 =>
      (rcv h21 8 a0).bind fun _ =>
      (f_X8_takeWord N a0 (UInt32.ofNat 9) h21).bind fun h22 =>
      (gR h22 0 a1 8).bind fun v23 =>
      (gI h22 0 a1 0).bind fun v24 =>
      (rcv h22 8 a0).bind fun _ =>
      (f_X8_takeNumber N a0 (jI 0) (iSub v24 (jI 1)) h22).bind fun p25 =>
      (stI 0 p25.2 v23 (iAdd w5 (jI 4)) p25.1).bind fun h26 =>
      (rcv h26 8 a0).bind fun _ =>
      (f_X8_takeWord N a0 (UInt32.ofNat 10) h26).bind fun h27 =>
      L_X8_readBand_153 N N a0 a1 w5 p7.1 (jI 0) h27
    else
      (rcv h 8 a0).bind fun _ =>
      (f_X8_fail N a0 (jI 4) h).bind fun h28 =>
      some h28
def y_X8_readBand : mM := (yX8_readBand, cX8_readBand, 5, none)
def B_X8_readBand : List (Nat × List mI) := [(13, [(.aload_n 1, 1, [1], []), (.getfield 113, 3, [0, 2, 0, 9], []), (.bipush 8, 2, [], [8]), (.if_icmp .lt 9, 3, [28], []), (.aload_n 0, 1, [0], []), (.iconst 4, 1, [], [4]), (.invokevirtual 94, 3, [0, 100, 1, 8, 20], []), (.return_, 1, [], [])]), (28, [(.aload_n 1, 1, [1], []), (.getfield 113, 3, [0, 2, 0, 9], []), (.bipush 11, 2, [], [11]), (.imul, 1, [], []), (.istore_n 2, 1, [2], []), (.aload_n 0, 1, [0], []), (.ldc 69, 2, [1, 5], []), (.invokevirtual 81, 3, [0, 102, 1, 8, 24], []), (.aload_n 0, 1, [0], []), (.iconst 1, 1, [], [1]), (.iconst 4, 1, [], [4]), (.invokevirtual 85, 3, [0, 103, 2, 8, 25], []), (.istore_n 3, 1, [3], []), (.aload_n 1, 1, [1], []), (.getfield 116, 3, [0, 8, 2, 27], []), (.iload_n 2, 1, [2], []), (.iconst 0, 1, [], [0]), (.iadd, 1, [], []), (.iload_n 3, 1, [3], []), (.iastore, 1, [], []), (.aload_n 0, 1, [0], []), (.ldc 119, 2, [1, 6], []), (.invokevirtual 81, 3, [0, 102, 1, 8, 24], []), (.aload_n 1, 1, [1], []), (.getfield 116, 3, [0, 8, 2, 27], []), (.iload_n 2, 1, [2], []), (.iconst 1, 1, [], [1]), (.iadd, 1, [], []), (.aload_n 0, 1, [0], []), (.iconst 1, 1, [], [1]), (.iconst 4, 1, [], [4]), (.invokevirtual 85, 3, [0, 103, 2, 8, 25], []), (.iastore, 1, [], []), (.aload_n 0, 1, [0], []), (.ldc 121, 2, [1, 7], []), (.invokevirtual 81, 3, [0, 102, 1, 8, 24], []), (.aload_n 1, 1, [1], []), (.getfield 116, 3, [0, 8, 2, 27], []), (.iload_n 2, 1, [2], []), (.iconst 2, 1, [], [2]), (.iadd, 1, [], []), (.aload_n 0, 1, [0], []), (.iconst 1, 1, [], [1]), (.iconst 4, 1, [], [4]), (.invokevirtual 85, 3, [0, 103, 2, 8, 25], []), (.iastore, 1, [], []), (.aload_n 0, 1, [0], []), (.ldc 123, 2, [1, 8], []), (.invokevirtual 81, 3, [0, 102, 1, 8, 24], []), (.aload_n 1, 1, [1], []), (.getfield 116, 3, [0, 8, 2, 27], []), (.iload_n 2, 1, [2], []), (.iconst 3, 1, [], [3]), (.iadd, 1, [], []), (.aload_n 0, 1, [0], []), (.iconst 1, 1, [], [1]), (.bipush 40, 2, [], [40]), (.invokevirtual 85, 3, [0, 103, 2, 8, 25], []), (.iastore, 1, [], []), (.aload_n 0, 1, [0], []), (.ldc 125, 2, [1, 9], []), (.invokevirtual 81, 3, [0, 102, 1, 8, 24], []), (.aload_n 1, 1, [1], []), (.getfield 116, 3, [0, 8, 2, 27], []), (.iload_n 2, 1, [2], []), (.iconst 4, 1, [], [4]), (.iadd, 1, [], []), (.aload_n 0, 1, [0], []), (.iconst 0, 1, [], [0]), (.aload_n 1, 1, [1], []), (.getfield 98, 3, [0, 0, 0, 1], []), (.iconst 1, 1, [], [1]), (.isub, 1, [], []), (.invokevirtual 85, 3, [0, 103, 2, 8, 25], []), (.iastore, 1, [], []), (.aload_n 0, 1, [0], []), (.ldc 127, 2, [1, 10], []), (.invokevirtual 81, 3, [0, 102, 1, 8, 24], []), (.iconst 0, 1, [], [0]), (.istore 4, 2, [4], [])])]
def S_X8_readBand_0 : List mI := [(.aload_n 1, 1, [1], []), (.getfield 98, 3, [0, 0, 0, 1], []), (.ifCond .ne 9, 3, [13], []), (.aload_n 0, 1, [0], []), (.iconst 3, 1, [], [3]), (.invokevirtual 94, 3, [0, 100, 1, 8, 20], []), (.return_, 1, [], [])]
def S_X8_readBand_153 : List mI := [(.iload 4, 2, [4], []), (.iload_n 3, 1, [3], []), (.if_icmp .ge 38, 3, [194], []), (.iload 4, 2, [4], []), (.iconst 4, 1, [], [4]), (.if_icmp .ge 32, 3, [194], []), (.aload_n 1, 1, [1], []), (.getfield 116, 3, [0, 8, 2, 27], []), (.iload_n 2, 1, [2], []), (.bipush 7, 2, [], [7]), (.iadd, 1, [], []), (.iload 4, 2, [4], []), (.iadd, 1, [], []), (.aload_n 0, 1, [0], []), (.iconst 0, 1, [], [0]), (.aload_n 1, 1, [1], []), (.getfield 100, 3, [0, 1, 0, 5], []), (.iconst 1, 1, [], [1]), (.isub, 1, [], []), (.invokevirtual 85, 3, [0, 103, 2, 8, 25], []), (.iastore, 1, [], []), (.iinc 4 1, 3, [4], [1]), (.goto (-38), 3, [153], [])]
def S_X8_readBand_194 : List mI := [(.aload_n 1, 1, [1], []), (.getfield 116, 3, [0, 8, 2, 27], []), (.iload_n 2, 1, [2], []), (.iconst 5, 1, [], [5]), (.iadd, 1, [], []), (.aload_n 0, 1, [0], []), (.invokevirtual 129, 3, [0, 97, 0, 8, 28], []), (.iastore, 1, [], []), (.aload_n 1, 1, [1], []), (.getfield 116, 3, [0, 8, 2, 27], []), (.iload_n 2, 1, [2], []), (.bipush 6, 2, [], [6]), (.iadd, 1, [], []), (.aload_n 0, 1, [0], []), (.invokevirtual 133, 3, [0, 98, 0, 8, 29], []), (.iastore, 1, [], []), (.aload_n 1, 1, [1], []), (.dup, 1, [], []), (.getfield 113, 3, [0, 2, 0, 9], []), (.iconst 1, 1, [], [1]), (.iadd, 1, [], []), (.putfield 113, 3, [0, 2, 0, 9], []), (.return_, 1, [], [])]
theorem lb_X8_readBand : B_X8_readBand.all (fun b => lst y_X8_readBand.2.1 8 y_X8_readBand.2.2.1 false b.1 b.2) = true := by decide +kernel
theorem ls_X8_readBand_0 : lst y_X8_readBand.2.1 8 y_X8_readBand.2.2.1 false 0 S_X8_readBand_0 = true := by decide +kernel
theorem ls_X8_readBand_153 : lst y_X8_readBand.2.1 8 y_X8_readBand.2.2.1 false 153 S_X8_readBand_153 = true := by decide +kernel
theorem ls_X8_readBand_194 : lst y_X8_readBand.2.1 8 y_X8_readBand.2.2.1 false 194 S_X8_readBand_194 = true := by decide +kernel
def C_X8_readBand (N : Nat) : Nat → List Value → mH → (Option Value → mH → Option (mH)) → Option (mH) := fun j as g k => kb j 100 (pr1 as fun b0 as => pp1 as fun b1 as => pe as ((f_X8_fail N b0 b1 g).bind fun p => k none p)) (kb j 102 (pr1 as fun b0 as => psu as fun b1 as => pe as ((f_X8_takeWord N b0 b1 g).bind fun p => k none p)) (kb j 103 (pr1 as fun b0 as => pp1 as fun b1 as => pp1 as fun b2 as => pe as ((f_X8_takeNumber N b0 b1 b2 g).bind fun p => k (some (.int p.1)) p.2)) (kb j 97 (pr1 as fun b0 as => pe as ((f_X8_takeLeft N b0 g).bind fun p => k (some (.int p.1)) p.2)) (kb j 98 (pr1 as fun b0 as => pe as ((f_X8_takeLean N b0 g).bind fun p => k (some (.int p.1)) p.2)) (none)))))
theorem co_X8_readBand (N : Nat) (q : mH) : clOK 8 q (C_X8_readBand N) := by
  intro j as g k e
  rcases kb_s e with ⟨rfl, e⟩ | e
  · obtain ⟨b0, r0, q0, f0⟩ := pr1_s e
    obtain ⟨b1, r1, q1, f1⟩ := pp1_s f0
    obtain ⟨qe, fe⟩ := pe_s f1
    obtain ⟨p, e1, e2⟩ := bnd_s fe
    subst qe
    subst q1
    subst q0
    exact ⟨_, _, _, _, 4, rfl, (by decide), m_X8_fail N e1, e2⟩
  rcases kb_s e with ⟨rfl, e⟩ | e
  · obtain ⟨b0, r0, q0, f0⟩ := pr1_s e
    obtain ⟨b1, r1, q1, f1⟩ := psu_s f0
    obtain ⟨qe, fe⟩ := pe_s f1
    obtain ⟨p, e1, e2⟩ := bnd_s fe
    subst qe
    subst q1
    subst q0
    exact ⟨_, _, _, _, 6, rfl, (by decide), m_X8_takeWord N e1, e2⟩
  rcases kb_s e with ⟨rfl, e⟩ | e
  · obtain ⟨b0, r0, q0, f0⟩ := pr1_s e
    obtain ⟨b1, r1, q1, f1⟩ := pp1_s f0
    obtain ⟨b2, r2, q2, f2⟩ := pp1_s f1
    obtain ⟨qe, fe⟩ := pe_s f2
    obtain ⟨p, e1, e2⟩ := bnd_s fe
    subst qe
    subst q2
    subst q1
    subst q0
    exact ⟨_, _, _, _, 6, rfl, (by decide), m_X8_takeNumber N e1, e2⟩
  rcases kb_s e with ⟨rfl, e⟩ | e
  · obtain ⟨b0, r0, q0, f0⟩ := pr1_s e
    obtain ⟨qe, fe⟩ := pe_s f0
    obtain ⟨p, e1, e2⟩ := bnd_s fe
    subst qe
    subst q0
    exact ⟨_, _, _, _, 7, rfl, (by decide), m_X8_takeLeft N e1, e2⟩
  rcases kb_s e with ⟨rfl, e⟩ | e
  · obtain ⟨b0, r0, q0, f0⟩ := pr1_s e
    obtain ⟨qe, fe⟩ := pe_s f0
    obtain ⟨p, e1, e2⟩ := bnd_s fe
    subst qe
    subst q0
    exact ⟨_, _, _, _, 7, rfl, (by decide), m_X8_takeLean N e1, e2⟩
  cases e
set_option maxRecDepth 100000 in
theorem t_X8_readBand_194 {X : Nat × (Nat → Int32)} (N : Nat) {q : mH} (a0 : Nat) (a1 : Nat) (x2 : Int32) (h : mH) (hf : J_X8_readBand_194 N a0 a1 x2 h = some q) : MW X y_X8_readBand 8 194 [(0, .ref a0), (1, .ref a1), (2, .int x2)] [] h none q := by
  refine ev_ok (o := 8) (ini := false) (Cl := C_X8_readBand N) (Rc := RcV) (B := B_X8_readBand) (K := fun pc ls st g => none) rfl (fun e => by cases e) (by decide) (rcV_ok rfl) ?_ (co_X8_readBand N q) lb_X8_readBand 3000 194 S_X8_readBand_194 _ _ h ls_X8_readBand_194 hf
  intro pc ls st g e
  cases e
set_option maxRecDepth 100000 in
theorem t_X8_readBand_153 {X : Nat × (Nat → Int32)} (N : Nat) {q : mH} : ∀ (n : Nat) (a0 : Nat) (a1 : Nat) (x2 : Int32) (x3 : Int32) (x4 : Int32) (h : mH), L_X8_readBand_153 N n a0 a1 x2 x3 x4 h = some q → MW X y_X8_readBand 8 153 [(0, .ref a0), (1, .ref a1), (2, .int x2), (3, .int x3), (4, .int x4)] [] h none q := by
  intro n
  induction n with
  | zero => intro a0 a1 x2 x3 x4 h hf; cases hf
  | succ n ih =>
    intro a0 a1 x2 x3 x4 h hf
    refine ev_ok (o := 8) (ini := false) (Cl := C_X8_readBand N) (Rc := RcV) (B := B_X8_readBand) (K := fun pc ls st g => kb pc 153 (lgr 0 ls fun a0 => lgr 1 ls fun a1 => lgi 2 ls fun x2 => lgi 3 ls fun x3 => lgi 4 ls fun x4 => pe st (L_X8_readBand_153 N n a0 a1 x2 x3 x4 g)) (kb pc 194 (lgr 0 ls fun a0 => lgr 1 ls fun a1 => lgi 2 ls fun x2 => pe st (J_X8_readBand_194 N a0 a1 x2 g)) (none))) rfl (fun e => by cases e) (by decide) (rcV_ok rfl) ?_ (co_X8_readBand N q) lb_X8_readBand 3000 153 S_X8_readBand_153 _ _ h ls_X8_readBand_153 hf
    intro pc ls st g e
    rcases kb_s e with ⟨rfl, e⟩ | e
    · obtain ⟨a0, e0, f0⟩ := lgr_s e
      obtain ⟨a1, e1, f1⟩ := lgr_s f0
      obtain ⟨x2, e2, f2⟩ := lgi_s f1
      obtain ⟨x3, e3, f3⟩ := lgi_s f2
      obtain ⟨x4, e4, f4⟩ := lgi_s f3
      obtain ⟨qe, fe⟩ := pe_s f4
      subst qe
      exact MW.sub (List.forall_mem_cons.mpr ⟨lg_mem e0, List.forall_mem_cons.mpr ⟨lg_mem e1, List.forall_mem_cons.mpr ⟨lg_mem e2, List.forall_mem_cons.mpr ⟨lg_mem e3, List.forall_mem_cons.mpr ⟨lg_mem e4, fun _ h => absurd h List.not_mem_nil⟩⟩⟩⟩⟩) (ih a0 a1 x2 x3 x4 g fe)
    rcases kb_s e with ⟨rfl, e⟩ | e
    · obtain ⟨a0, e0, f0⟩ := lgr_s e
      obtain ⟨a1, e1, f1⟩ := lgr_s f0
      obtain ⟨x2, e2, f2⟩ := lgi_s f1
      obtain ⟨qe, fe⟩ := pe_s f2
      subst qe
      exact MW.sub (List.forall_mem_cons.mpr ⟨lg_mem e0, List.forall_mem_cons.mpr ⟨lg_mem e1, List.forall_mem_cons.mpr ⟨lg_mem e2, fun _ h => absurd h List.not_mem_nil⟩⟩⟩) (t_X8_readBand_194 N a0 a1 x2 g fe)
    cases e
set_option maxRecDepth 100000 in
theorem m_X8_readBand (N : Nat) {a0 : Nat} {a1 : Nat} {h : mH} {q : mH} (hf : f_X8_readBand N a0 a1 h = some q) : MM y_X8_readBand 8 [.ref a0, .ref a1] h none q := by
  refine MM.of (mFx (j := 96) rfl).2.2.2.1 (Nat.le_of_ble_eq_true rfl) (fun X => ?_)
  refine ev_ok (o := 8) (ini := false) (Cl := C_X8_readBand N) (Rc := RcV) (B := B_X8_readBand) (K := fun pc ls st g => kb pc 153 (lgr 0 ls fun a0 => lgr 1 ls fun a1 => lgi 2 ls fun x2 => lgi 3 ls fun x3 => lgi 4 ls fun x4 => pe st (L_X8_readBand_153 N N a0 a1 x2 x3 x4 g)) (none)) rfl (fun e => by cases e) (by decide) (rcV_ok rfl) ?_ (co_X8_readBand N q) lb_X8_readBand 3000 0 S_X8_readBand_0 _ _ h ls_X8_readBand_0 hf
  intro pc ls st g e
  rcases kb_s e with ⟨rfl, e⟩ | e
  · obtain ⟨a0, e0, f0⟩ := lgr_s e
    obtain ⟨a1, e1, f1⟩ := lgr_s f0
    obtain ⟨x2, e2, f2⟩ := lgi_s f1
    obtain ⟨x3, e3, f3⟩ := lgi_s f2
    obtain ⟨x4, e4, f4⟩ := lgi_s f3
    obtain ⟨qe, fe⟩ := pe_s f4
    subst qe
    exact MW.sub (List.forall_mem_cons.mpr ⟨lg_mem e0, List.forall_mem_cons.mpr ⟨lg_mem e1, List.forall_mem_cons.mpr ⟨lg_mem e2, List.forall_mem_cons.mpr ⟨lg_mem e3, List.forall_mem_cons.mpr ⟨lg_mem e4, fun _ h => absurd h List.not_mem_nil⟩⟩⟩⟩⟩) (t_X8_readBand_153 N N a0 a1 x2 x3 x4 g fe)
  cases e
def f_X8_readSlip (N : Nat) (a0 : Nat) (a1 : Nat) (h : mH) : Option (mH) :=
  (gI h 0 a1 3).bind fun v1 =>
  if v1 < (jI 8) then
    (gI h 0 a1 3).bind fun v2 =>
    let w3 := iMul v2 (jI 3)
    (rcv h 8 a0).bind fun _ =>
    (f_X8_takeWord N a0 (UInt32.ofNat 14) h).bind fun h4 =>
    (gI h4 0 a1 2).bind fun v5 =>
    (rcv h4 8 a0).bind fun _ =>
    (f_X8_takeNumber N a0 (jI 0) (iSub v5 (jI 1)) h4).bind fun p6 =>
    (gR p6.2 0 a1 9).bind fun v7 =>
    (stI 0 p6.2 v7 w3 p6.1).bind fun h8 =>
    (gR h8 0 a1 9).bind fun v9 =>
    (rcv h8 0 a1).bind fun _ =>
    (f_X0_ofBand N a1 p6.1 (jI 0) h8).bind fun p10 =>
    (rcv p10.2 8 a0).bind fun _ =>
    (f_X8_takeNumber N a0 (jI 0) (iSub p10.1 (jI 1)) p10.2).bind fun p11 =>
    (stI 0 p11.2 v9 (iAdd w3 (jI 1)) p11.1).bind fun h12 =>
    (gR h12 0 a1 9).bind fun v13 =>
    (rcv h12 0 a1).bind fun _ =>
    (f_X0_crossingsOf N a1 p6.1 h12).bind fun p14 =>
    (rcv p14.2 8 a0).bind fun _ =>
    (f_X8_takeNumber N a0 (jI 0) (iSub p14.1 (jI 1)) p14.2).bind fun p15 =>
    (stI 0 p15.2 v13 (iAdd w3 (jI 2)) p15.1).bind fun h16 =>
    (gI h16 0 a1 3).bind fun v17 =>
    (pV h16 0 a1 3 (.int (iAdd v17 (jI 1)))).bind fun h18 =>
    some h18
  else
    (rcv h 8 a0).bind fun _ =>
    (f_X8_fail N a0 (jI 4) h).bind fun h19 =>
    some h19
def y_X8_readSlip : mM := (yX8_readSlip, cX8_readSlip, 4, none)
def B_X8_readSlip : List (Nat × List mI) := [(15, [(.aload_n 1, 1, [1], []), (.getfield 142, 3, [0, 3, 0, 12], []), (.iconst 3, 1, [], [3]), (.imul, 1, [], []), (.istore_n 2, 1, [2], []), (.aload_n 0, 1, [0], []), (.ldc 74, 2, [1, 14], []), (.invokevirtual 81, 3, [0, 102, 1, 8, 24], []), (.aload_n 0, 1, [0], []), (.iconst 0, 1, [], [0]), (.aload_n 1, 1, [1], []), (.getfield 113, 3, [0, 2, 0, 9], []), (.iconst 1, 1, [], [1]), (.isub, 1, [], []), (.invokevirtual 85, 3, [0, 103, 2, 8, 25], []), (.istore_n 3, 1, [3], []), (.aload_n 1, 1, [1], []), (.getfield 145, 3, [0, 9, 2, 29], []), (.iload_n 2, 1, [2], []), (.iload_n 3, 1, [3], []), (.iastore, 1, [], []), (.aload_n 1, 1, [1], []), (.getfield 145, 3, [0, 9, 2, 29], []), (.iload_n 2, 1, [2], []), (.iconst 1, 1, [], [1]), (.iadd, 1, [], []), (.aload_n 0, 1, [0], []), (.iconst 0, 1, [], [0]), (.aload_n 1, 1, [1], []), (.iload_n 3, 1, [3], []), (.iconst 0, 1, [], [0]), (.invokevirtual 148, 3, [0, 9, 2, 0, 31], []), (.iconst 1, 1, [], [1]), (.isub, 1, [], []), (.invokevirtual 85, 3, [0, 103, 2, 8, 25], []), (.iastore, 1, [], []), (.aload_n 1, 1, [1], []), (.getfield 145, 3, [0, 9, 2, 29], []), (.iload_n 2, 1, [2], []), (.iconst 2, 1, [], [2]), (.iadd, 1, [], []), (.aload_n 0, 1, [0], []), (.iconst 0, 1, [], [0]), (.aload_n 1, 1, [1], []), (.iload_n 3, 1, [3], []), (.invokevirtual 151, 3, [0, 14, 1, 0, 32], []), (.iconst 1, 1, [], [1]), (.isub, 1, [], []), (.invokevirtual 85, 3, [0, 103, 2, 8, 25], []), (.iastore, 1, [], []), (.aload_n 1, 1, [1], []), (.dup, 1, [], []), (.getfield 142, 3, [0, 3, 0, 12], []), (.iconst 1, 1, [], [1]), (.iadd, 1, [], []), (.putfield 142, 3, [0, 3, 0, 12], []), (.return_, 1, [], [])])]
def S_X8_readSlip_0 : List mI := [(.aload_n 1, 1, [1], []), (.getfield 142, 3, [0, 3, 0, 12], []), (.bipush 8, 2, [], [8]), (.if_icmp .lt 9, 3, [15], []), (.aload_n 0, 1, [0], []), (.iconst 4, 1, [], [4]), (.invokevirtual 94, 3, [0, 100, 1, 8, 20], []), (.return_, 1, [], [])]
theorem lb_X8_readSlip : B_X8_readSlip.all (fun b => lst y_X8_readSlip.2.1 8 y_X8_readSlip.2.2.1 false b.1 b.2) = true := by decide +kernel
theorem ls_X8_readSlip_0 : lst y_X8_readSlip.2.1 8 y_X8_readSlip.2.2.1 false 0 S_X8_readSlip_0 = true := by decide +kernel
def C_X8_readSlip (N : Nat) : Nat → List Value → mH → (Option Value → mH → Option (mH)) → Option (mH) := fun j as g k => kb j 100 (pr1 as fun b0 as => pp1 as fun b1 as => pe as ((f_X8_fail N b0 b1 g).bind fun p => k none p)) (kb j 102 (pr1 as fun b0 as => psu as fun b1 as => pe as ((f_X8_takeWord N b0 b1 g).bind fun p => k none p)) (kb j 103 (pr1 as fun b0 as => pp1 as fun b1 as => pp1 as fun b2 as => pe as ((f_X8_takeNumber N b0 b1 b2 g).bind fun p => k (some (.int p.1)) p.2)) (kb j 9 (pr1 as fun b0 as => pp1 as fun b1 as => pp1 as fun b2 as => pe as ((f_X0_ofBand N b0 b1 b2 g).bind fun p => k (some (.int p.1)) p.2)) (kb j 14 (pr1 as fun b0 as => pp1 as fun b1 as => pe as ((f_X0_crossingsOf N b0 b1 g).bind fun p => k (some (.int p.1)) p.2)) (none)))))
theorem co_X8_readSlip (N : Nat) (q : mH) : clOK 7 q (C_X8_readSlip N) := by
  intro j as g k e
  rcases kb_s e with ⟨rfl, e⟩ | e
  · obtain ⟨b0, r0, q0, f0⟩ := pr1_s e
    obtain ⟨b1, r1, q1, f1⟩ := pp1_s f0
    obtain ⟨qe, fe⟩ := pe_s f1
    obtain ⟨p, e1, e2⟩ := bnd_s fe
    subst qe
    subst q1
    subst q0
    exact ⟨_, _, _, _, 4, rfl, (by decide), m_X8_fail N e1, e2⟩
  rcases kb_s e with ⟨rfl, e⟩ | e
  · obtain ⟨b0, r0, q0, f0⟩ := pr1_s e
    obtain ⟨b1, r1, q1, f1⟩ := psu_s f0
    obtain ⟨qe, fe⟩ := pe_s f1
    obtain ⟨p, e1, e2⟩ := bnd_s fe
    subst qe
    subst q1
    subst q0
    exact ⟨_, _, _, _, 6, rfl, (by decide), m_X8_takeWord N e1, e2⟩
  rcases kb_s e with ⟨rfl, e⟩ | e
  · obtain ⟨b0, r0, q0, f0⟩ := pr1_s e
    obtain ⟨b1, r1, q1, f1⟩ := pp1_s f0
    obtain ⟨b2, r2, q2, f2⟩ := pp1_s f1
    obtain ⟨qe, fe⟩ := pe_s f2
    obtain ⟨p, e1, e2⟩ := bnd_s fe
    subst qe
    subst q2
    subst q1
    subst q0
    exact ⟨_, _, _, _, 6, rfl, (by decide), m_X8_takeNumber N e1, e2⟩
  rcases kb_s e with ⟨rfl, e⟩ | e
  · obtain ⟨b0, r0, q0, f0⟩ := pr1_s e
    obtain ⟨b1, r1, q1, f1⟩ := pp1_s f0
    obtain ⟨b2, r2, q2, f2⟩ := pp1_s f1
    obtain ⟨qe, fe⟩ := pe_s f2
    obtain ⟨p, e1, e2⟩ := bnd_s fe
    subst qe
    subst q2
    subst q1
    subst q0
    exact ⟨_, _, _, _, 4, rfl, (by decide), m_X0_ofBand N e1, e2⟩
  rcases kb_s e with ⟨rfl, e⟩ | e
  · obtain ⟨b0, r0, q0, f0⟩ := pr1_s e
    obtain ⟨b1, r1, q1, f1⟩ := pp1_s f0
    obtain ⟨qe, fe⟩ := pe_s f1
    obtain ⟨p, e1, e2⟩ := bnd_s fe
    subst qe
    subst q1
    subst q0
    exact ⟨_, _, _, _, 5, rfl, (by decide), m_X0_crossingsOf N e1, e2⟩
  cases e
set_option maxRecDepth 100000 in
theorem m_X8_readSlip (N : Nat) {a0 : Nat} {a1 : Nat} {h : mH} {q : mH} (hf : f_X8_readSlip N a0 a1 h = some q) : MM y_X8_readSlip 7 [.ref a0, .ref a1] h none q := by
  refine MM.of (mFx (j := 99) rfl).2.2.2.1 (Nat.le_of_ble_eq_true rfl) (fun X => ?_)
  refine ev_ok (o := 8) (ini := false) (Cl := C_X8_readSlip N) (Rc := RcV) (B := B_X8_readSlip) (K := fun pc ls st g => none) rfl (fun e => by cases e) (by decide) (rcV_ok rfl) ?_ (co_X8_readSlip N q) lb_X8_readSlip 3000 0 S_X8_readSlip_0 _ _ h ls_X8_readSlip_0 hf
  intro pc ls st g e
  cases e
def f_X8_readLine (N : Nat) (a0 : Nat) (a1 : Nat) (h : mH) : Option (mH) :=
  (rcv h 8 a0).bind fun _ =>
  (f_X8_isWord N a0 (UInt32.ofNat 0) h).bind fun p1 =>
  if p1.1 = 0 then
    (rcv p1.2 8 a0).bind fun _ =>
    (f_X8_isWord N a0 (UInt32.ofNat 1) p1.2).bind fun p2 =>
    if p2.1 = 0 then
      (rcv p2.2 8 a0).bind fun _ =>
      (f_X8_isWord N a0 (UInt32.ofNat 5) p2.2).bind fun p3 =>
      if p3.1 = 0 then
        (rcv p3.2 8 a0).bind fun _ =>
        (f_X8_isWord N a0 (UInt32.ofNat 14) p3.2).bind fun p4 =>
        if p4.1 = 0 then
          (rcv p4.2 8 a0).bind fun _ =>
          (f_X8_isWord N a0 (UInt32.ofNat 15) p4.2).bind fun p5 =>
          if p5.1 = 0 then
            (rcv p5.2 8 a0).bind fun _ =>
            (f_X8_isWord N a0 (UInt32.ofNat 16) p5.2).bind fun p6 =>
            if p6.1 = 0 then
              (rcv p6.2 8 a0).bind fun _ =>
              (f_X8_fail N a0 (jI 2) p6.2).bind fun h7 =>
              some h7
            else
              (rcv p6.2 8 a0).bind fun _ =>
              (f_X8_takeWord N a0 (UInt32.ofNat 16) p6.2).bind fun h8 =>
              (rcv h8 8 a0).bind fun _ =>
              (f_X8_takeNumber N a0 (jI 1) (jI 999) h8).bind fun p9 =>
              (pV p9.2 0 a1 5 (.int p9.1)).bind fun h10 =>
              some h10
          else
            (rcv p5.2 8 a0).bind fun _ =>
            (f_X8_takeWord N a0 (UInt32.ofNat 15) p5.2).bind fun h11 =>
            (rcv h11 8 a0).bind fun _ =>
            (f_X8_takeNumber N a0 (jI 0) (jI 20) h11).bind fun p12 =>
            (pV p12.2 0 a1 4 (.int p12.1)).bind fun h13 =>
            some h13
        else
          (rcv p4.2 8 a0).bind fun _ =>
          (f_X8_readSlip N a0 a1 p4.2).bind fun h14 =>
          some h14
      else
        (rcv p3.2 8 a0).bind fun _ =>
        (f_X8_readBand N a0 a1 p3.2).bind fun h15 =>
        some h15
    else
      (rcv p2.2 8 a0).bind fun _ =>
      (f_X8_readRod N a0 a1 p2.2).bind fun h16 =>
      some h16
  else
    (rcv p1.2 8 a0).bind fun _ =>
    (f_X8_readStakes N a0 a1 p1.2).bind fun h17 =>
    some h17
def y_X8_readLine : mM := (yX8_readLine, cX8_readLine, 2, none)
def B_X8_readLine : List (Nat × List mI) := [(17, [(.aload_n 0, 1, [0], []), (.ldc 64, 2, [1, 1], []), (.invokevirtual 57, 3, [0, 101, 1, 8, 22], []), (.ifCond .eq 11, 3, [34], []), (.aload_n 0, 1, [0], []), (.aload_n 1, 1, [1], []), (.invokevirtual 66, 3, [0, 95, 1, 8, 26], []), (.goto 101, 3, [132], [])]), (34, [(.aload_n 0, 1, [0], []), (.ldc 69, 2, [1, 5], []), (.invokevirtual 57, 3, [0, 101, 1, 8, 22], []), (.ifCond .eq 11, 3, [51], []), (.aload_n 0, 1, [0], []), (.aload_n 1, 1, [1], []), (.invokevirtual 71, 3, [0, 96, 1, 8, 27], []), (.goto 84, 3, [132], [])]), (51, [(.aload_n 0, 1, [0], []), (.ldc 74, 2, [1, 14], []), (.invokevirtual 57, 3, [0, 101, 1, 8, 22], []), (.ifCond .eq 11, 3, [68], []), (.aload_n 0, 1, [0], []), (.aload_n 1, 1, [1], []), (.invokevirtual 76, 3, [0, 99, 1, 8, 30], []), (.goto 67, 3, [132], [])]), (68, [(.aload_n 0, 1, [0], []), (.ldc 79, 2, [1, 15], []), (.invokevirtual 57, 3, [0, 101, 1, 8, 22], []), (.ifCond .eq 23, 3, [97], []), (.aload_n 0, 1, [0], []), (.ldc 79, 2, [1, 15], []), (.invokevirtual 81, 3, [0, 102, 1, 8, 24], []), (.aload_n 1, 1, [1], []), (.aload_n 0, 1, [0], []), (.iconst 0, 1, [], [0]), (.bipush 20, 2, [], [20]), (.invokevirtual 85, 3, [0, 103, 2, 8, 25], []), (.putfield 88, 3, [0, 4, 0, 15], []), (.goto 38, 3, [132], [])]), (97, [(.aload_n 0, 1, [0], []), (.ldc 90, 2, [1, 16], []), (.invokevirtual 57, 3, [0, 101, 1, 8, 22], []), (.ifCond .eq 24, 3, [127], []), (.aload_n 0, 1, [0], []), (.ldc 90, 2, [1, 16], []), (.invokevirtual 81, 3, [0, 102, 1, 8, 24], []), (.aload_n 1, 1, [1], []), (.aload_n 0, 1, [0], []), (.iconst 1, 1, [], [1]), (.sipush 999, 3, [], [999]), (.invokevirtual 85, 3, [0, 103, 2, 8, 25], []), (.putfield 92, 3, [0, 5, 0, 18], []), (.goto 8, 3, [132], [])]), (127, [(.aload_n 0, 1, [0], []), (.iconst 2, 1, [], [2]), (.invokevirtual 94, 3, [0, 100, 1, 8, 20], [])]), (132, [(.return_, 1, [], [])])]
def S_X8_readLine_0 : List mI := [(.aload_n 0, 1, [0], []), (.ldc 55, 2, [1, 0], []), (.invokevirtual 57, 3, [0, 101, 1, 8, 22], []), (.ifCond .eq 11, 3, [17], []), (.aload_n 0, 1, [0], []), (.aload_n 1, 1, [1], []), (.invokevirtual 61, 3, [0, 94, 1, 8, 23], []), (.goto 118, 3, [132], [])]
theorem lb_X8_readLine : B_X8_readLine.all (fun b => lst y_X8_readLine.2.1 8 y_X8_readLine.2.2.1 false b.1 b.2) = true := by decide +kernel
theorem ls_X8_readLine_0 : lst y_X8_readLine.2.1 8 y_X8_readLine.2.2.1 false 0 S_X8_readLine_0 = true := by decide +kernel
def C_X8_readLine (N : Nat) : Nat → List Value → mH → (Option Value → mH → Option (mH)) → Option (mH) := fun j as g k => kb j 101 (pr1 as fun b0 as => psu as fun b1 as => pe as ((f_X8_isWord N b0 b1 g).bind fun p => k (some (.int p.1)) p.2)) (kb j 94 (pr1 as fun b0 as => pr1 as fun b1 as => pe as ((f_X8_readStakes N b0 b1 g).bind fun p => k none p)) (kb j 95 (pr1 as fun b0 as => pr1 as fun b1 as => pe as ((f_X8_readRod N b0 b1 g).bind fun p => k none p)) (kb j 96 (pr1 as fun b0 as => pr1 as fun b1 as => pe as ((f_X8_readBand N b0 b1 g).bind fun p => k none p)) (kb j 99 (pr1 as fun b0 as => pr1 as fun b1 as => pe as ((f_X8_readSlip N b0 b1 g).bind fun p => k none p)) (kb j 102 (pr1 as fun b0 as => psu as fun b1 as => pe as ((f_X8_takeWord N b0 b1 g).bind fun p => k none p)) (kb j 103 (pr1 as fun b0 as => pp1 as fun b1 as => pp1 as fun b2 as => pe as ((f_X8_takeNumber N b0 b1 b2 g).bind fun p => k (some (.int p.1)) p.2)) (kb j 100 (pr1 as fun b0 as => pp1 as fun b1 as => pe as ((f_X8_fail N b0 b1 g).bind fun p => k none p)) (none))))))))
theorem co_X8_readLine (N : Nat) (q : mH) : clOK 9 q (C_X8_readLine N) := by
  intro j as g k e
  rcases kb_s e with ⟨rfl, e⟩ | e
  · obtain ⟨b0, r0, q0, f0⟩ := pr1_s e
    obtain ⟨b1, r1, q1, f1⟩ := psu_s f0
    obtain ⟨qe, fe⟩ := pe_s f1
    obtain ⟨p, e1, e2⟩ := bnd_s fe
    subst qe
    subst q1
    subst q0
    exact ⟨_, _, _, _, 5, rfl, (by decide), m_X8_isWord N e1, e2⟩
  rcases kb_s e with ⟨rfl, e⟩ | e
  · obtain ⟨b0, r0, q0, f0⟩ := pr1_s e
    obtain ⟨b1, r1, q1, f1⟩ := pr1_s f0
    obtain ⟨qe, fe⟩ := pe_s f1
    obtain ⟨p, e1, e2⟩ := bnd_s fe
    subst qe
    subst q1
    subst q0
    exact ⟨_, _, _, _, 7, rfl, (by decide), m_X8_readStakes N e1, e2⟩
  rcases kb_s e with ⟨rfl, e⟩ | e
  · obtain ⟨b0, r0, q0, f0⟩ := pr1_s e
    obtain ⟨b1, r1, q1, f1⟩ := pr1_s f0
    obtain ⟨qe, fe⟩ := pe_s f1
    obtain ⟨p, e1, e2⟩ := bnd_s fe
    subst qe
    subst q1
    subst q0
    exact ⟨_, _, _, _, 7, rfl, (by decide), m_X8_readRod N e1, e2⟩
  rcases kb_s e with ⟨rfl, e⟩ | e
  · obtain ⟨b0, r0, q0, f0⟩ := pr1_s e
    obtain ⟨b1, r1, q1, f1⟩ := pr1_s f0
    obtain ⟨qe, fe⟩ := pe_s f1
    obtain ⟨p, e1, e2⟩ := bnd_s fe
    subst qe
    subst q1
    subst q0
    exact ⟨_, _, _, _, 8, rfl, (by decide), m_X8_readBand N e1, e2⟩
  rcases kb_s e with ⟨rfl, e⟩ | e
  · obtain ⟨b0, r0, q0, f0⟩ := pr1_s e
    obtain ⟨b1, r1, q1, f1⟩ := pr1_s f0
    obtain ⟨qe, fe⟩ := pe_s f1
    obtain ⟨p, e1, e2⟩ := bnd_s fe
    subst qe
    subst q1
    subst q0
    exact ⟨_, _, _, _, 7, rfl, (by decide), m_X8_readSlip N e1, e2⟩
  rcases kb_s e with ⟨rfl, e⟩ | e
  · obtain ⟨b0, r0, q0, f0⟩ := pr1_s e
    obtain ⟨b1, r1, q1, f1⟩ := psu_s f0
    obtain ⟨qe, fe⟩ := pe_s f1
    obtain ⟨p, e1, e2⟩ := bnd_s fe
    subst qe
    subst q1
    subst q0
    exact ⟨_, _, _, _, 6, rfl, (by decide), m_X8_takeWord N e1, e2⟩
  rcases kb_s e with ⟨rfl, e⟩ | e
  · obtain ⟨b0, r0, q0, f0⟩ := pr1_s e
    obtain ⟨b1, r1, q1, f1⟩ := pp1_s f0
    obtain ⟨b2, r2, q2, f2⟩ := pp1_s f1
    obtain ⟨qe, fe⟩ := pe_s f2
    obtain ⟨p, e1, e2⟩ := bnd_s fe
    subst qe
    subst q2
    subst q1
    subst q0
    exact ⟨_, _, _, _, 6, rfl, (by decide), m_X8_takeNumber N e1, e2⟩
  rcases kb_s e with ⟨rfl, e⟩ | e
  · obtain ⟨b0, r0, q0, f0⟩ := pr1_s e
    obtain ⟨b1, r1, q1, f1⟩ := pp1_s f0
    obtain ⟨qe, fe⟩ := pe_s f1
    obtain ⟨p, e1, e2⟩ := bnd_s fe
    subst qe
    subst q1
    subst q0
    exact ⟨_, _, _, _, 4, rfl, (by decide), m_X8_fail N e1, e2⟩
  cases e
set_option maxRecDepth 100000 in
theorem m_X8_readLine (N : Nat) {a0 : Nat} {a1 : Nat} {h : mH} {q : mH} (hf : f_X8_readLine N a0 a1 h = some q) : MM y_X8_readLine 9 [.ref a0, .ref a1] h none q := by
  refine MM.of (mFx (j := 93) rfl).2.2.2.1 (Nat.le_of_ble_eq_true rfl) (fun X => ?_)
  refine ev_ok (o := 8) (ini := false) (Cl := C_X8_readLine N) (Rc := RcV) (B := B_X8_readLine) (K := fun pc ls st g => none) rfl (fun e => by cases e) (by decide) (rcV_ok rfl) ?_ (co_X8_readLine N q) lb_X8_readLine 3000 0 S_X8_readLine_0 _ _ h ls_X8_readLine_0 hf
  intro pc ls st g e
  cases e
def f_X8_takeSign (N : Nat) (a0 : Nat) (h : mH) : Option (mH) :=
  (gI h 8 a0 0).bind fun v1 =>
  if v1 = 0 then
    (gI h 8 a0 6).bind fun v2 =>
    if v2 = (jI 3) then
      (rcv h 8 a0).bind fun _ =>
      (f_X8_advance N a0 h).bind fun h3 =>
      some h3
    else
      (rcv h 8 a0).bind fun _ =>
      (f_X8_fail N a0 (jI 2) h).bind fun h4 =>
      some h4
  else
    (rcv h 8 a0).bind fun _ =>
    (f_X8_fail N a0 (jI 2) h).bind fun h5 =>
    some h5
def y_X8_takeSign : mM := (yX8_takeSign, cX8_takeSign, 1, none)
def B_X8_takeSign : List (Nat × List mI) := [(22, [(.aload_n 0, 1, [0], []), (.iconst 2, 1, [], [2]), (.invokevirtual 94, 3, [0, 100, 1, 8, 20], [])]), (27, [(.return_, 1, [], [])])]
def S_X8_takeSign_0 : List mI := [(.aload_n 0, 1, [0], []), (.getfield 31, 3, [8, 0, 0, 30], []), (.ifCond .ne 18, 3, [22], []), (.aload_n 0, 1, [0], []), (.getfield 42, 3, [8, 6, 0, 38], []), (.iconst 3, 1, [], [3]), (.if_icmp .ne 10, 3, [22], []), (.aload_n 0, 1, [0], []), (.invokevirtual 39, 3, [0, 108, 0, 8, 16], []), (.goto 8, 3, [27], [])]
theorem lb_X8_takeSign : B_X8_takeSign.all (fun b => lst y_X8_takeSign.2.1 8 y_X8_takeSign.2.2.1 false b.1 b.2) = true := by decide +kernel
theorem ls_X8_takeSign_0 : lst y_X8_takeSign.2.1 8 y_X8_takeSign.2.2.1 false 0 S_X8_takeSign_0 = true := by decide +kernel
def C_X8_takeSign (N : Nat) : Nat → List Value → mH → (Option Value → mH → Option (mH)) → Option (mH) := fun j as g k => kb j 108 (pr1 as fun b0 as => pe as ((f_X8_advance N b0 g).bind fun p => k none p)) (kb j 100 (pr1 as fun b0 as => pp1 as fun b1 as => pe as ((f_X8_fail N b0 b1 g).bind fun p => k none p)) (none))
theorem co_X8_takeSign (N : Nat) (q : mH) : clOK 6 q (C_X8_takeSign N) := by
  intro j as g k e
  rcases kb_s e with ⟨rfl, e⟩ | e
  · obtain ⟨b0, r0, q0, f0⟩ := pr1_s e
    obtain ⟨qe, fe⟩ := pe_s f0
    obtain ⟨p, e1, e2⟩ := bnd_s fe
    subst qe
    subst q0
    exact ⟨_, _, _, _, 5, rfl, (by decide), m_X8_advance N e1, e2⟩
  rcases kb_s e with ⟨rfl, e⟩ | e
  · obtain ⟨b0, r0, q0, f0⟩ := pr1_s e
    obtain ⟨b1, r1, q1, f1⟩ := pp1_s f0
    obtain ⟨qe, fe⟩ := pe_s f1
    obtain ⟨p, e1, e2⟩ := bnd_s fe
    subst qe
    subst q1
    subst q0
    exact ⟨_, _, _, _, 4, rfl, (by decide), m_X8_fail N e1, e2⟩
  cases e
set_option maxRecDepth 100000 in
theorem m_X8_takeSign (N : Nat) {a0 : Nat} {h : mH} {q : mH} (hf : f_X8_takeSign N a0 h = some q) : MM y_X8_takeSign 6 [.ref a0] h none q := by
  refine MM.of (mFx (j := 104) rfl).2.2.2.1 (Nat.le_of_ble_eq_true rfl) (fun X => ?_)
  refine ev_ok (o := 8) (ini := false) (Cl := C_X8_takeSign N) (Rc := RcV) (B := B_X8_takeSign) (K := fun pc ls st g => none) rfl (fun e => by cases e) (by decide) (rcV_ok rfl) ?_ (co_X8_takeSign N q) lb_X8_takeSign 3000 0 S_X8_takeSign_0 _ _ h ls_X8_takeSign_0 hf
  intro pc ls st g e
  cases e
def L_X8_readBasket_41 (N : Nat) : Nat → Nat → Nat → Int32 → mH → Option (Int32 × mH)
  | 0, _, _, _, _ => none
  | n + 1, a0, a3, x4, h =>
    if x4 < (jI 500) then
      (gI h 8 a0 0).bind fun v1 =>
      if v1 = 0 then
        (gI h 8 a0 6).bind fun v2 =>
        if v2 = 0 then
          (gI h 8 a0 0).bind fun v3 =>
          if v3 = 0 then
            some (jI 1, h)
          else
            some (jI 0, h)
        else
          (rcv h 8 a0).bind fun _ =>
          (f_X8_readLine N a0 a3 h).bind fun h4 =>
          (rcv h4 8 a0).bind fun _ =>
          (f_X8_takeSign N a0 h4).bind fun h5 =>
          (gI h5 0 a3 6).bind fun v6 =>
          (pV h5 0 a3 6 (.int (iAdd v6 (jI 1)))).bind fun h7 =>
          let w8 := iAdd x4 (jI 1)
          L_X8_readBasket_41 N n a0 a3 w8 h7
      else
        (gI h 8 a0 0).bind fun v9 =>
        if v9 = 0 then
          some (jI 1, h)
        else
          some (jI 0, h)
    else
      (gI h 8 a0 0).bind fun v10 =>
      if v10 = 0 then
        some (jI 1, h)
      else
        some (jI 0, h)
def f_X8_readBasket (N : Nat) (a0 : Nat) (a1 : Nat) (x2 : Int32) (a3 : Nat) (h : mH) : Option (Int32 × mH) :=
  (pV h 8 a0 2 (.ref a1)).bind fun h1 =>
  (lnA h1 a1).bind fun v2 =>
  (pV h1 8 a0 3 (.int (iMin x2 v2))).bind fun h3 =>
  (pV h3 8 a0 5 (.int (jI 0))).bind fun h4 =>
  (pV h4 8 a0 0 (.int (jI 0))).bind fun h5 =>
  (pV h5 8 a0 1 (.int (jI (-1)))).bind fun h6 =>
  (rcv h6 0 a3).bind fun _ =>
  (f_X0_clear N a3 h6).bind fun h7 =>
  (rcv h7 8 a0).bind fun _ =>
  (f_X8_advance N a0 h7).bind fun h8 =>
  L_X8_readBasket_41 N N a0 a3 (jI 0) h8
def y_X8_readBasket : mM := (yX8_readBasket, cX8_readBasket, 5, (some .boolean))
def B_X8_readBasket : List (Nat × List mI) := [(88, [(.aload_n 0, 1, [0], []), (.getfield 31, 3, [8, 0, 0, 30], []), (.ifCond .ne 7, 3, [99], []), (.iconst 1, 1, [], [1]), (.goto 4, 3, [100], [])]), (99, [(.iconst 0, 1, [], [0])]), (100, [(.ireturn, 1, [], [])])]
def S_X8_readBasket_0 : List mI := [(.aload_n 0, 1, [0], []), (.aload_n 1, 1, [1], []), (.putfield 15, 3, [8, 2, 2, 34], []), (.aload_n 0, 1, [0], []), (.iload_n 2, 1, [2], []), (.aload_n 1, 1, [1], []), (.arraylength, 1, [0], []), (.invokestatic 19, 3, [7, 0, 0, 0, 12], []), (.putfield 25, 3, [8, 3, 0, 35], []), (.aload_n 0, 1, [0], []), (.iconst 0, 1, [], [0]), (.putfield 28, 3, [8, 5, 0, 37], []), (.aload_n 0, 1, [0], []), (.iconst 0, 1, [], [0]), (.putfield 31, 3, [8, 0, 0, 30], []), (.aload_n 0, 1, [0], []), (.iconst (-1), 1, [], [-1]), (.putfield 9, 3, [8, 1, 0, 32], []), (.aload_n 3, 1, [3], []), (.invokevirtual 34, 3, [0, 1, 0, 0, 15], []), (.aload_n 0, 1, [0], []), (.invokevirtual 39, 3, [0, 108, 0, 8, 16], []), (.iconst 0, 1, [], [0]), (.istore 4, 2, [4], [])]
def S_X8_readBasket_41 : List mI := [(.iload 4, 2, [4], []), (.sipush 500, 3, [], [500]), (.if_icmp .ge 42, 3, [88], []), (.aload_n 0, 1, [0], []), (.getfield 31, 3, [8, 0, 0, 30], []), (.ifCond .ne 35, 3, [88], []), (.aload_n 0, 1, [0], []), (.getfield 42, 3, [8, 6, 0, 38], []), (.ifCond .eq 28, 3, [88], []), (.aload_n 0, 1, [0], []), (.aload_n 3, 1, [3], []), (.invokevirtual 45, 3, [0, 93, 1, 8, 21], []), (.aload_n 0, 1, [0], []), (.invokevirtual 49, 3, [0, 104, 0, 8, 34], []), (.aload_n 3, 1, [3], []), (.dup, 1, [], []), (.getfield 52, 3, [0, 6, 0, 22], []), (.iconst 1, 1, [], [1]), (.iadd, 1, [], []), (.putfield 52, 3, [0, 6, 0, 22], []), (.iinc 4 1, 3, [4], [1]), (.goto (-44), 3, [41], [])]
theorem lb_X8_readBasket : B_X8_readBasket.all (fun b => lst y_X8_readBasket.2.1 8 y_X8_readBasket.2.2.1 false b.1 b.2) = true := by decide +kernel
theorem ls_X8_readBasket_0 : lst y_X8_readBasket.2.1 8 y_X8_readBasket.2.2.1 false 0 S_X8_readBasket_0 = true := by decide +kernel
theorem ls_X8_readBasket_41 : lst y_X8_readBasket.2.1 8 y_X8_readBasket.2.2.1 false 41 S_X8_readBasket_41 = true := by decide +kernel
def C_X8_readBasket (N : Nat) : Nat → List Value → mH → (Option Value → mH → Option (Int32 × mH)) → Option (Int32 × mH) := fun j as g k => kb j 1 (pr1 as fun b0 as => pe as ((f_X0_clear N b0 g).bind fun p => k none p)) (kb j 108 (pr1 as fun b0 as => pe as ((f_X8_advance N b0 g).bind fun p => k none p)) (kb j 93 (pr1 as fun b0 as => pr1 as fun b1 as => pe as ((f_X8_readLine N b0 b1 g).bind fun p => k none p)) (kb j 104 (pr1 as fun b0 as => pe as ((f_X8_takeSign N b0 g).bind fun p => k none p)) (none))))
theorem co_X8_readBasket (N : Nat) (q : Int32 × mH) : clOK 10 q (C_X8_readBasket N) := by
  intro j as g k e
  rcases kb_s e with ⟨rfl, e⟩ | e
  · obtain ⟨b0, r0, q0, f0⟩ := pr1_s e
    obtain ⟨qe, fe⟩ := pe_s f0
    obtain ⟨p, e1, e2⟩ := bnd_s fe
    subst qe
    subst q0
    exact ⟨_, _, _, _, 4, rfl, (by decide), m_X0_clear N e1, e2⟩
  rcases kb_s e with ⟨rfl, e⟩ | e
  · obtain ⟨b0, r0, q0, f0⟩ := pr1_s e
    obtain ⟨qe, fe⟩ := pe_s f0
    obtain ⟨p, e1, e2⟩ := bnd_s fe
    subst qe
    subst q0
    exact ⟨_, _, _, _, 5, rfl, (by decide), m_X8_advance N e1, e2⟩
  rcases kb_s e with ⟨rfl, e⟩ | e
  · obtain ⟨b0, r0, q0, f0⟩ := pr1_s e
    obtain ⟨b1, r1, q1, f1⟩ := pr1_s f0
    obtain ⟨qe, fe⟩ := pe_s f1
    obtain ⟨p, e1, e2⟩ := bnd_s fe
    subst qe
    subst q1
    subst q0
    exact ⟨_, _, _, _, 9, rfl, (by decide), m_X8_readLine N e1, e2⟩
  rcases kb_s e with ⟨rfl, e⟩ | e
  · obtain ⟨b0, r0, q0, f0⟩ := pr1_s e
    obtain ⟨qe, fe⟩ := pe_s f0
    obtain ⟨p, e1, e2⟩ := bnd_s fe
    subst qe
    subst q0
    exact ⟨_, _, _, _, 6, rfl, (by decide), m_X8_takeSign N e1, e2⟩
  cases e
set_option maxRecDepth 100000 in
theorem t_X8_readBasket_41 {X : Nat × (Nat → Int32)} (N : Nat) {q : Int32 × mH} : ∀ (n : Nat) (a0 : Nat) (a3 : Nat) (x4 : Int32) (h : mH), L_X8_readBasket_41 N n a0 a3 x4 h = some q → MW X y_X8_readBasket 10 41 [(0, .ref a0), (3, .ref a3), (4, .int x4)] [] h (some (.int q.1)) q.2 := by
  intro n
  induction n with
  | zero => intro a0 a3 x4 h hf; cases hf
  | succ n ih =>
    intro a0 a3 x4 h hf
    refine ev_ok (o := 8) (ini := false) (Cl := C_X8_readBasket N) (Rc := RcZ) (B := B_X8_readBasket) (K := fun pc ls st g => kb pc 41 (lgr 0 ls fun a0 => lgr 3 ls fun a3 => lgi 4 ls fun x4 => pe st (L_X8_readBasket_41 N n a0 a3 x4 g)) (none)) rfl (fun e => by cases e) (by decide) (rcZ_ok rfl) ?_ (co_X8_readBasket N q) lb_X8_readBasket 3000 41 S_X8_readBasket_41 _ _ h ls_X8_readBasket_41 hf
    intro pc ls st g e
    rcases kb_s e with ⟨rfl, e⟩ | e
    · obtain ⟨a0, e0, f0⟩ := lgr_s e
      obtain ⟨a3, e1, f1⟩ := lgr_s f0
      obtain ⟨x4, e2, f2⟩ := lgi_s f1
      obtain ⟨qe, fe⟩ := pe_s f2
      subst qe
      exact MW.sub (List.forall_mem_cons.mpr ⟨lg_mem e0, List.forall_mem_cons.mpr ⟨lg_mem e1, List.forall_mem_cons.mpr ⟨lg_mem e2, fun _ h => absurd h List.not_mem_nil⟩⟩⟩) (ih a0 a3 x4 g fe)
    cases e
set_option maxRecDepth 100000 in
theorem m_X8_readBasket (N : Nat) {a0 : Nat} {a1 : Nat} {x2 : Int32} {a3 : Nat} {h : mH} {q : Int32 × mH} (hf : f_X8_readBasket N a0 a1 x2 a3 h = some q) : MM y_X8_readBasket 10 [.ref a0, .ref a1, .int x2, .ref a3] h (some (.int q.1)) q.2 := by
  refine MM.of (mFx (j := 92) rfl).2.2.2.1 (Nat.le_of_ble_eq_true rfl) (fun X => ?_)
  refine ev_ok (o := 8) (ini := false) (Cl := C_X8_readBasket N) (Rc := RcZ) (B := B_X8_readBasket) (K := fun pc ls st g => kb pc 41 (lgr 0 ls fun a0 => lgr 3 ls fun a3 => lgi 4 ls fun x4 => pe st (L_X8_readBasket_41 N N a0 a3 x4 g)) (none)) rfl (fun e => by cases e) (by decide) (rcZ_ok rfl) ?_ (co_X8_readBasket N q) lb_X8_readBasket 3000 0 S_X8_readBasket_0 _ _ h ls_X8_readBasket_0 hf
  intro pc ls st g e
  rcases kb_s e with ⟨rfl, e⟩ | e
  · obtain ⟨a0, e0, f0⟩ := lgr_s e
    obtain ⟨a3, e1, f1⟩ := lgr_s f0
    obtain ⟨x4, e2, f2⟩ := lgi_s f1
    obtain ⟨qe, fe⟩ := pe_s f2
    subst qe
    exact MW.sub (List.forall_mem_cons.mpr ⟨lg_mem e0, List.forall_mem_cons.mpr ⟨lg_mem e1, List.forall_mem_cons.mpr ⟨lg_mem e2, fun _ h => absurd h List.not_mem_nil⟩⟩⟩) (t_X8_readBasket_41 N N a0 a3 x4 g fe)
  cases e
def f_X9_init (N : Nat) (a0 : Nat) (h : mH) : Option (mH) :=
  (nwA h 0 (jI 8)).bind fun h1 =>
  (pV h1 9 a0 0 (.ref h.1)).bind fun h2 =>
  (nwA h2 0 (jI 8)).bind fun h3 =>
  (pV h3 9 a0 1 (.ref h2.1)).bind fun h4 =>
  (nwA h4 0 (jI 8)).bind fun h5 =>
  (pV h5 9 a0 2 (.ref h4.1)).bind fun h6 =>
  (nwA h6 0 (jI 8)).bind fun h7 =>
  (pV h7 9 a0 3 (.ref h6.1)).bind fun h8 =>
  (nwA h8 0 (jI 5)).bind fun h9 =>
  (pV h9 9 a0 4 (.ref h8.1)).bind fun h10 =>
  (nwA h10 0 (jI 10)).bind fun h11 =>
  (pV h11 9 a0 5 (.ref h10.1)).bind fun h12 =>
  (nwA h12 0 (jI 16)).bind fun h13 =>
  (pV h13 9 a0 6 (.ref h12.1)).bind fun h14 =>
  some h14
def y_X9_init : mM := (yX9_init, cX9_init, 1, none)
def B_X9_init : List (Nat × List mI) := []
def S_X9_init_0 : List mI := [(.aload_n 0, 1, [0], []), (.invokespecial 3, 3, [5, 0, 0, 0, 5], []), (.aload_n 0, 1, [0], []), (.bipush 8, 2, [], [8]), (.newarray .int, 2, [0], []), (.putfield 11, 3, [9, 0, 2, 55], []), (.aload_n 0, 1, [0], []), (.bipush 8, 2, [], [8]), (.newarray .int, 2, [0], []), (.putfield 17, 3, [9, 1, 2, 56], []), (.aload_n 0, 1, [0], []), (.bipush 8, 2, [], [8]), (.newarray .int, 2, [0], []), (.putfield 20, 3, [9, 2, 2, 57], []), (.aload_n 0, 1, [0], []), (.bipush 8, 2, [], [8]), (.newarray .int, 2, [0], []), (.putfield 23, 3, [9, 3, 2, 58], []), (.aload_n 0, 1, [0], []), (.iconst 5, 1, [], [5]), (.newarray .int, 2, [0], []), (.putfield 26, 3, [9, 4, 2, 59], []), (.aload_n 0, 1, [0], []), (.bipush 10, 2, [], [10]), (.newarray .int, 2, [0], []), (.putfield 31, 3, [9, 5, 2, 60], []), (.aload_n 0, 1, [0], []), (.bipush 16, 2, [], [16]), (.newarray .int, 2, [0], []), (.putfield 34, 3, [9, 6, 2, 61], []), (.return_, 1, [], [])]
theorem lb_X9_init : B_X9_init.all (fun b => lst y_X9_init.2.1 9 y_X9_init.2.2.1 true b.1 b.2) = true := by decide +kernel
theorem ls_X9_init_0 : lst y_X9_init.2.1 9 y_X9_init.2.2.1 true 0 S_X9_init_0 = true := by decide +kernel
def C_X9_init (N : Nat) : Nat → List Value → mH → (Option Value → mH → Option (mH)) → Option (mH) := fun j as g k => none
theorem co_X9_init (N : Nat) (q : mH) : clOK 4 q (C_X9_init N) := by
  intro j as g k e
  cases e
set_option maxRecDepth 100000 in
theorem m_X9_init (N : Nat) {a0 : Nat} {h : mH} {q : mH} (hf : f_X9_init N a0 h = some q) : MM y_X9_init 4 [.ref a0] h none q := by
  refine MM.of (mFx (j := 109) rfl).2.2.2.1 (Nat.le_of_ble_eq_true rfl) (fun X => ?_)
  refine ev_ok (o := 9) (ini := true) (Cl := C_X9_init N) (Rc := RcV) (B := B_X9_init) (K := fun pc ls st g => none) rfl (fun _ => rfl) (by decide) (rcV_ok rfl) ?_ (co_X9_init N q) lb_X9_init 3000 0 S_X9_init_0 _ _ h ls_X9_init_0 hf
  intro pc ls st g e
  cases e
def f_X9_forgetWish (N : Nat) (a0 : Nat) (h : mH) : Option (mH) :=
  (pV h 9 a0 7 (.int (jI 0))).bind fun h1 =>
  some h1
def y_X9_forgetWish : mM := (yX9_forgetWish, cX9_forgetWish, 1, none)
def B_X9_forgetWish : List (Nat × List mI) := []
def S_X9_forgetWish_0 : List mI := [(.aload_n 0, 1, [0], []), (.iconst 0, 1, [], [0]), (.putfield 37, 3, [9, 7, 3, 62], []), (.return_, 1, [], [])]
theorem lb_X9_forgetWish : B_X9_forgetWish.all (fun b => lst y_X9_forgetWish.2.1 9 y_X9_forgetWish.2.2.1 false b.1 b.2) = true := by decide +kernel
theorem ls_X9_forgetWish_0 : lst y_X9_forgetWish.2.1 9 y_X9_forgetWish.2.2.1 false 0 S_X9_forgetWish_0 = true := by decide +kernel
def C_X9_forgetWish (N : Nat) : Nat → List Value → mH → (Option Value → mH → Option (mH)) → Option (mH) := fun j as g k => none
theorem co_X9_forgetWish (N : Nat) (q : mH) : clOK 4 q (C_X9_forgetWish N) := by
  intro j as g k e
  cases e
set_option maxRecDepth 100000 in
theorem m_X9_forgetWish (N : Nat) {a0 : Nat} {h : mH} {q : mH} (hf : f_X9_forgetWish N a0 h = some q) : MM y_X9_forgetWish 4 [.ref a0] h none q := by
  refine MM.of (mFx (j := 110) rfl).2.2.2.1 (Nat.le_of_ble_eq_true rfl) (fun X => ?_)
  refine ev_ok (o := 9) (ini := false) (Cl := C_X9_forgetWish N) (Rc := RcV) (B := B_X9_forgetWish) (K := fun pc ls st g => none) rfl (fun e => by cases e) (by decide) (rcV_ok rfl) ?_ (co_X9_forgetWish N q) lb_X9_forgetWish 3000 0 S_X9_forgetWish_0 _ _ h ls_X9_forgetWish_0 hf
  intro pc ls st g e
  cases e
def f_X9_forgetPrint (N : Nat) (a0 : Nat) (h : mH) : Option (mH) :=
  (pV h 9 a0 8 (.int (jI 0))).bind fun h1 =>
  some h1
def y_X9_forgetPrint : mM := (yX9_forgetPrint, cX9_forgetPrint, 1, none)
def B_X9_forgetPrint : List (Nat × List mI) := []
def S_X9_forgetPrint_0 : List mI := [(.aload_n 0, 1, [0], []), (.iconst 0, 1, [], [0]), (.putfield 41, 3, [9, 8, 3, 63], []), (.return_, 1, [], [])]
theorem lb_X9_forgetPrint : B_X9_forgetPrint.all (fun b => lst y_X9_forgetPrint.2.1 9 y_X9_forgetPrint.2.2.1 false b.1 b.2) = true := by decide +kernel
theorem ls_X9_forgetPrint_0 : lst y_X9_forgetPrint.2.1 9 y_X9_forgetPrint.2.2.1 false 0 S_X9_forgetPrint_0 = true := by decide +kernel
def C_X9_forgetPrint (N : Nat) : Nat → List Value → mH → (Option Value → mH → Option (mH)) → Option (mH) := fun j as g k => none
theorem co_X9_forgetPrint (N : Nat) (q : mH) : clOK 4 q (C_X9_forgetPrint N) := by
  intro j as g k e
  cases e
set_option maxRecDepth 100000 in
theorem m_X9_forgetPrint (N : Nat) {a0 : Nat} {h : mH} {q : mH} (hf : f_X9_forgetPrint N a0 h = some q) : MM y_X9_forgetPrint 4 [.ref a0] h none q := by
  refine MM.of (mFx (j := 111) rfl).2.2.2.1 (Nat.le_of_ble_eq_true rfl) (fun X => ?_)
  refine ev_ok (o := 9) (ini := false) (Cl := C_X9_forgetPrint N) (Rc := RcV) (B := B_X9_forgetPrint) (K := fun pc ls st g => none) rfl (fun e => by cases e) (by decide) (rcV_ok rfl) ?_ (co_X9_forgetPrint N q) lb_X9_forgetPrint 3000 0 S_X9_forgetPrint_0 _ _ h ls_X9_forgetPrint_0 hf
  intro pc ls st g e
  cases e
