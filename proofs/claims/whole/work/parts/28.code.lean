/-! printed by wip/whole/gen_code.py: the functions of methods 280 to 319 (leaves first), and their contracts -/
def L_X12_counts_75 (N : Nat) : Nat → Int32 → Int32 → Int32 → Int32 → Int32 → Int32 → mH → Option (Int32 × mH)
  | 0, _, _, _, _, _, _, _ => none
  | n + 1, x2, x3, x4, x5, x6, x7, h =>
    if x2 < x7 then
      some (x6, h)
    else
      if (iAdd x3 x4) = 0 then none else
      if (iRem x7 (iAdd x3 x4)) = x5 then
        let w1 := iAdd x6 (jI 1)
        let w2 := iAdd x7 (jI 1)
        L_X12_counts_75 N n x2 x3 x4 x5 w1 w2 h
      else
        let w3 := iAdd x6 (jI 0)
        let w4 := iAdd x7 (jI 1)
        L_X12_counts_75 N n x2 x3 x4 x5 w3 w4 h
def f_X12_counts (N : Nat) (a0 : Nat) (x1 : Int32) (x2 : Int32) (x3 : Int32) (x4 : Int32) (x5 : Int32) (h : mH) : Option (Int32 × mH) :=
  (pV h 12 a0 0 (.int (jI 0))).bind fun h1 =>
  (f_X12_within N x1.toInt64 (jL 3) (jL 999) h1).bind fun p2 =>
  if p2.1 = 0 then
    (rcv p2.2 12 a0).bind fun _ =>
    (f_X12_no N a0 (jI (-3)) p2.2).bind fun p3 =>
    some (p3.1, p3.2)
  else
    (f_X12_within N x2.toInt64 x1.toInt64 (jL 999) p2.2).bind fun p4 =>
    if p4.1 = 0 then
      (rcv p4.2 12 a0).bind fun _ =>
      (f_X12_no N a0 (jI (-3)) p4.2).bind fun p5 =>
      some (p5.1, p5.2)
    else
      (f_X12_within N x3.toInt64 (jL 1) (jL 9) p4.2).bind fun p6 =>
      if p6.1 = 0 then
        (rcv p6.2 12 a0).bind fun _ =>
        (f_X12_no N a0 (jI (-3)) p6.2).bind fun p7 =>
        some (p7.1, p7.2)
      else
        (f_X12_within N x4.toInt64 (jL 1) (jL 9) p6.2).bind fun p8 =>
        if p8.1 = 0 then
          (rcv p8.2 12 a0).bind fun _ =>
          (f_X12_no N a0 (jI (-3)) p8.2).bind fun p9 =>
          some (p9.1, p9.2)
        else
          if x5 < 0 then
            (rcv p8.2 12 a0).bind fun _ =>
            (f_X12_no N a0 (jI (-3)) p8.2).bind fun p10 =>
            some (p10.1, p10.2)
          else
            L_X12_counts_75 N N x2 x3 x4 x5 (jI 0) x1 p8.2
def y_X12_counts : mM := (yX12_counts, cX12_counts, 8, (some .int))
def B_X12_counts : List (Nat × List mI) := [(62, [(.aload_n 0, 1, [0], []), (.bipush (-3), 2, [], [-3]), (.invokevirtual 84, 3, [0, 224, 1, 12, 267], []), (.ireturn, 1, [], [])]), (69, [(.iconst 0, 1, [], [0]), (.istore 6, 2, [6], []), (.iload_n 1, 1, [1], []), (.istore 7, 2, [7], [])]), (99, [(.iconst 0, 1, [], [0])]), (100, [(.iadd, 1, [], []), (.istore 6, 2, [6], []), (.iinc 7 1, 3, [7], [1]), (.goto (-31), 3, [75], [])]), (109, [(.iload 6, 2, [6], []), (.ireturn, 1, [], [])])]
def S_X12_counts_0 : List mI := [(.aload_n 0, 1, [0], []), (.iconst 0, 1, [], [0]), (.putfield 1, 3, [12, 0, 0, 126], []), (.iload_n 1, 1, [1], []), (.i2l, 1, [], []), (.ldc2_w 179, 3, [5], [3]), (.ldc2_w 241, 3, [9], [999]), (.invokestatic 147, 3, [1, 225, 3, 0, 269], []), (.ifCond .eq 46, 3, [62], []), (.iload_n 2, 1, [2], []), (.i2l, 1, [], []), (.iload_n 1, 1, [1], []), (.i2l, 1, [], []), (.ldc2_w 241, 3, [9], [999]), (.invokestatic 147, 3, [1, 225, 3, 0, 269], []), (.ifCond .eq 33, 3, [62], []), (.iload_n 3, 1, [3], []), (.i2l, 1, [], []), (.lconst 1, 1, [], [1]), (.ldc2_w 243, 3, [10], [9]), (.invokestatic 147, 3, [1, 225, 3, 0, 269], []), (.ifCond .eq 21, 3, [62], []), (.iload 4, 2, [4], []), (.i2l, 1, [], []), (.lconst 1, 1, [], [1]), (.ldc2_w 243, 3, [10], [9]), (.invokestatic 147, 3, [1, 225, 3, 0, 269], []), (.ifCond .eq 8, 3, [62], []), (.iload 5, 2, [5], []), (.ifCond .ge 10, 3, [69], [])]
def S_X12_counts_75 : List mI := [(.iload 7, 2, [7], []), (.iload_n 2, 1, [2], []), (.if_icmp .gt 31, 3, [109], []), (.iload 6, 2, [6], []), (.iload 7, 2, [7], []), (.iload_n 3, 1, [3], []), (.iload 4, 2, [4], []), (.iadd, 1, [], []), (.irem, 1, [], []), (.iload 5, 2, [5], []), (.if_icmp .ne 7, 3, [99], []), (.iconst 1, 1, [], [1]), (.goto 4, 3, [100], [])]
theorem lb_X12_counts : B_X12_counts.all (fun b => lst y_X12_counts.2.1 12 y_X12_counts.2.2.1 false b.1 b.2) = true := by decide +kernel
theorem ls_X12_counts_0 : lst y_X12_counts.2.1 12 y_X12_counts.2.2.1 false 0 S_X12_counts_0 = true := by decide +kernel
theorem ls_X12_counts_75 : lst y_X12_counts.2.1 12 y_X12_counts.2.2.1 false 75 S_X12_counts_75 = true := by decide +kernel
def C_X12_counts (N : Nat) : Nat → List Value → mH → (Option Value → mH → Option (Int32 × mH)) → Option (Int32 × mH) := fun j as g k => kb j 225 (pl1 as fun b0 as => pl1 as fun b1 as => pl1 as fun b2 as => pe as ((f_X12_within N b0 b1 b2 g).bind fun p => k (some (.int p.1)) p.2)) (kb j 224 (pr1 as fun b0 as => pp1 as fun b1 as => pe as ((f_X12_no N b0 b1 g).bind fun p => k (some (.int p.1)) p.2)) (none))
theorem co_X12_counts (N : Nat) (q : Int32 × mH) : clOK 5 q (C_X12_counts N) := by
  intro j as g k e
  rcases kb_s e with ⟨rfl, e⟩ | e
  · obtain ⟨b0, r0, q0, f0⟩ := pl1_s e
    obtain ⟨b1, r1, q1, f1⟩ := pl1_s f0
    obtain ⟨b2, r2, q2, f2⟩ := pl1_s f1
    obtain ⟨qe, fe⟩ := pe_s f2
    obtain ⟨p, e1, e2⟩ := bnd_s fe
    subst qe
    subst q2
    subst q1
    subst q0
    exact ⟨_, _, _, _, 4, rfl, (by decide), m_X12_within N e1, e2⟩
  rcases kb_s e with ⟨rfl, e⟩ | e
  · obtain ⟨b0, r0, q0, f0⟩ := pr1_s e
    obtain ⟨b1, r1, q1, f1⟩ := pp1_s f0
    obtain ⟨qe, fe⟩ := pe_s f1
    obtain ⟨p, e1, e2⟩ := bnd_s fe
    subst qe
    subst q1
    subst q0
    exact ⟨_, _, _, _, 4, rfl, (by decide), m_X12_no N e1, e2⟩
  cases e
set_option maxRecDepth 100000 in
theorem t_X12_counts_75 {X : Nat × (Nat → Int32)} (N : Nat) {q : Int32 × mH} : ∀ (n : Nat) (x2 : Int32) (x3 : Int32) (x4 : Int32) (x5 : Int32) (x6 : Int32) (x7 : Int32) (h : mH), L_X12_counts_75 N n x2 x3 x4 x5 x6 x7 h = some q → MW X y_X12_counts 5 75 [(2, .int x2), (3, .int x3), (4, .int x4), (5, .int x5), (6, .int x6), (7, .int x7)] [] h (some (.int q.1)) q.2 := by
  intro n
  induction n with
  | zero => intro x2 x3 x4 x5 x6 x7 h hf; cases hf
  | succ n ih =>
    intro x2 x3 x4 x5 x6 x7 h hf
    refine ev_ok (o := 12) (ini := false) (Cl := C_X12_counts N) (Rc := RcI) (B := B_X12_counts) (K := fun pc ls st g => kb pc 75 (lgi 2 ls fun x2 => lgi 3 ls fun x3 => lgi 4 ls fun x4 => lgi 5 ls fun x5 => lgi 6 ls fun x6 => lgi 7 ls fun x7 => pe st (L_X12_counts_75 N n x2 x3 x4 x5 x6 x7 g)) (none)) rfl (fun e => by cases e) (by decide) (rcI_ok rfl) ?_ (co_X12_counts N q) lb_X12_counts 3000 75 S_X12_counts_75 _ _ h ls_X12_counts_75 hf
    intro pc ls st g e
    rcases kb_s e with ⟨rfl, e⟩ | e
    · obtain ⟨x2, e0, f0⟩ := lgi_s e
      obtain ⟨x3, e1, f1⟩ := lgi_s f0
      obtain ⟨x4, e2, f2⟩ := lgi_s f1
      obtain ⟨x5, e3, f3⟩ := lgi_s f2
      obtain ⟨x6, e4, f4⟩ := lgi_s f3
      obtain ⟨x7, e5, f5⟩ := lgi_s f4
      obtain ⟨qe, fe⟩ := pe_s f5
      subst qe
      exact MW.sub (List.forall_mem_cons.mpr ⟨lg_mem e0, List.forall_mem_cons.mpr ⟨lg_mem e1, List.forall_mem_cons.mpr ⟨lg_mem e2, List.forall_mem_cons.mpr ⟨lg_mem e3, List.forall_mem_cons.mpr ⟨lg_mem e4, List.forall_mem_cons.mpr ⟨lg_mem e5, fun _ h => absurd h List.not_mem_nil⟩⟩⟩⟩⟩⟩) (ih x2 x3 x4 x5 x6 x7 g fe)
    cases e
set_option maxRecDepth 100000 in
theorem m_X12_counts (N : Nat) {a0 : Nat} {x1 : Int32} {x2 : Int32} {x3 : Int32} {x4 : Int32} {x5 : Int32} {h : mH} {q : Int32 × mH} (hf : f_X12_counts N a0 x1 x2 x3 x4 x5 h = some q) : MM y_X12_counts 5 [.ref a0, .int x1, .int x2, .int x3, .int x4, .int x5] h (some (.int q.1)) q.2 := by
  refine MM.of (mFx (j := 273) rfl).2.2.2.1 (Nat.le_of_ble_eq_true rfl) (fun X => ?_)
  refine ev_ok (o := 12) (ini := false) (Cl := C_X12_counts N) (Rc := RcI) (B := B_X12_counts) (K := fun pc ls st g => kb pc 75 (lgi 2 ls fun x2 => lgi 3 ls fun x3 => lgi 4 ls fun x4 => lgi 5 ls fun x5 => lgi 6 ls fun x6 => lgi 7 ls fun x7 => pe st (L_X12_counts_75 N N x2 x3 x4 x5 x6 x7 g)) (none)) rfl (fun e => by cases e) (by decide) (rcI_ok rfl) ?_ (co_X12_counts N q) lb_X12_counts 3000 0 S_X12_counts_0 _ _ h ls_X12_counts_0 hf
  intro pc ls st g e
  rcases kb_s e with ⟨rfl, e⟩ | e
  · obtain ⟨x2, e0, f0⟩ := lgi_s e
    obtain ⟨x3, e1, f1⟩ := lgi_s f0
    obtain ⟨x4, e2, f2⟩ := lgi_s f1
    obtain ⟨x5, e3, f3⟩ := lgi_s f2
    obtain ⟨x6, e4, f4⟩ := lgi_s f3
    obtain ⟨x7, e5, f5⟩ := lgi_s f4
    obtain ⟨qe, fe⟩ := pe_s f5
    subst qe
    exact MW.sub (List.forall_mem_cons.mpr ⟨lg_mem e0, List.forall_mem_cons.mpr ⟨lg_mem e1, List.forall_mem_cons.mpr ⟨lg_mem e2, List.forall_mem_cons.mpr ⟨lg_mem e3, List.forall_mem_cons.mpr ⟨lg_mem e4, List.forall_mem_cons.mpr ⟨lg_mem e5, fun _ h => absurd h List.not_mem_nil⟩⟩⟩⟩⟩⟩) (t_X12_counts_75 N N x2 x3 x4 x5 x6 x7 g fe)
  cases e
def f_X12_total (N : Nat) (a0 : Nat) (h : mH) : Option (Int32 × mH) :=
  (pV h 12 a0 0 (.int (jI 0))).bind fun h1 =>
  (gR h1 12 a0 2).bind fun v2 =>
  (ldI 0 h1 v2 (jI 26)).bind fun v3 =>
  (rcv h1 12 a0).bind fun _ =>
  (f_X12_allAhead N a0 v3 h1).bind fun p4 =>
  some (p4.1, p4.2)
def y_X12_total : mM := (yX12_total, cX12_total, 1, (some .int))
def B_X12_total : List (Nat × List mI) := []
def S_X12_total_0 : List mI := [(.aload_n 0, 1, [0], []), (.iconst 0, 1, [], [0]), (.putfield 1, 3, [12, 0, 0, 126], []), (.aload_n 0, 1, [0], []), (.aload_n 0, 1, [0], []), (.getfield 17, 3, [12, 2, 2, 128], []), (.bipush 26, 2, [], [26]), (.iaload, 1, [0], []), (.invokevirtual 201, 3, [0, 257, 1, 12, 304], []), (.ireturn, 1, [], [])]
theorem lb_X12_total : B_X12_total.all (fun b => lst y_X12_total.2.1 12 y_X12_total.2.2.1 false b.1 b.2) = true := by decide +kernel
theorem ls_X12_total_0 : lst y_X12_total.2.1 12 y_X12_total.2.2.1 false 0 S_X12_total_0 = true := by decide +kernel
def C_X12_total (N : Nat) : Nat → List Value → mH → (Option Value → mH → Option (Int32 × mH)) → Option (Int32 × mH) := fun j as g k => kb j 257 (pr1 as fun b0 as => pp1 as fun b1 as => pe as ((f_X12_allAhead N b0 b1 g).bind fun p => k (some (.int p.1)) p.2)) (none)
theorem co_X12_total (N : Nat) (q : Int32 × mH) : clOK 6 q (C_X12_total N) := by
  intro j as g k e
  rcases kb_s e with ⟨rfl, e⟩ | e
  · obtain ⟨b0, r0, q0, f0⟩ := pr1_s e
    obtain ⟨b1, r1, q1, f1⟩ := pp1_s f0
    obtain ⟨qe, fe⟩ := pe_s f1
    obtain ⟨p, e1, e2⟩ := bnd_s fe
    subst qe
    subst q1
    subst q0
    exact ⟨_, _, _, _, 5, rfl, (by decide), m_X12_allAhead N e1, e2⟩
  cases e
set_option maxRecDepth 100000 in
theorem m_X12_total (N : Nat) {a0 : Nat} {h : mH} {q : Int32 × mH} (hf : f_X12_total N a0 h = some q) : MM y_X12_total 6 [.ref a0] h (some (.int q.1)) q.2 := by
  refine MM.of (mFx (j := 274) rfl).2.2.2.1 (Nat.le_of_ble_eq_true rfl) (fun X => ?_)
  refine ev_ok (o := 12) (ini := false) (Cl := C_X12_total N) (Rc := RcI) (B := B_X12_total) (K := fun pc ls st g => none) rfl (fun e => by cases e) (by decide) (rcI_ok rfl) ?_ (co_X12_total N q) lb_X12_total 3000 0 S_X12_total_0 _ _ h ls_X12_total_0 hf
  intro pc ls st g e
  cases e
def f_X12_undo (N : Nat) (a0 : Nat) (x1 : Int32) (x2 : Int32) (x3 : Int32) (x4 : Int32) (h : mH) : Option (Int32 × mH) :=
  (pV h 12 a0 0 (.int (jI 0))).bind fun h1 =>
  (rcv h1 12 a0).bind fun _ =>
  (f_X12_isCrossing N a0 x1 x2 x3 h1).bind fun p2 =>
  if p2.1 = 0 then
    (rcv p2.2 12 a0).bind fun _ =>
    (f_X12_no N a0 (jI (-2)) p2.2).bind fun p3 =>
    some (p3.1, p3.2)
  else
    if x4 = 0 then
      (rcv p2.2 12 a0).bind fun _ =>
      (f_X12_when N a0 x1 x2 x3 p2.2).bind fun p4 =>
      some (iAdd p4.1 (jI 1), p4.2)
    else
      (gR p2.2 12 a0 2).bind fun v5 =>
      (ldI 0 p2.2 v5 (jI 26)).bind fun v6 =>
      (rcv p2.2 12 a0).bind fun _ =>
      (f_X12_allAhead N a0 v6 p2.2).bind fun p7 =>
      (rcv p7.2 12 a0).bind fun _ =>
      (f_X12_when N a0 x1 x2 x3 p7.2).bind fun p8 =>
      some (iSub p7.1 p8.1, p8.2)
def y_X12_undo : mM := (yX12_undo, cX12_undo, 5, (some .int))
def B_X12_undo : List (Nat × List mI) := [(22, [(.iload 4, 2, [4], []), (.ifCond .eq 25, 3, [49], []), (.aload_n 0, 1, [0], []), (.aload_n 0, 1, [0], []), (.getfield 17, 3, [12, 2, 2, 128], []), (.bipush 26, 2, [], [26]), (.iaload, 1, [0], []), (.invokevirtual 201, 3, [0, 257, 1, 12, 304], []), (.aload_n 0, 1, [0], []), (.iload_n 1, 1, [1], []), (.iload_n 2, 1, [2], []), (.iload_n 3, 1, [3], []), (.invokevirtual 228, 3, [0, 258, 3, 12, 303], []), (.isub, 1, [], []), (.goto 12, 3, [58], [])]), (49, [(.aload_n 0, 1, [0], []), (.iload_n 1, 1, [1], []), (.iload_n 2, 1, [2], []), (.iload_n 3, 1, [3], []), (.invokevirtual 228, 3, [0, 258, 3, 12, 303], []), (.iconst 1, 1, [], [1]), (.iadd, 1, [], [])]), (58, [(.ireturn, 1, [], [])])]
def S_X12_undo_0 : List mI := [(.aload_n 0, 1, [0], []), (.iconst 0, 1, [], [0]), (.putfield 1, 3, [12, 0, 0, 126], []), (.aload_n 0, 1, [0], []), (.iload_n 1, 1, [1], []), (.iload_n 2, 1, [2], []), (.iload_n 3, 1, [3], []), (.invokevirtual 213, 3, [0, 263, 3, 12, 293], []), (.ifCond .ne 10, 3, [22], []), (.aload_n 0, 1, [0], []), (.bipush (-2), 2, [], [-2]), (.invokevirtual 84, 3, [0, 224, 1, 12, 267], []), (.ireturn, 1, [], [])]
theorem lb_X12_undo : B_X12_undo.all (fun b => lst y_X12_undo.2.1 12 y_X12_undo.2.2.1 false b.1 b.2) = true := by decide +kernel
theorem ls_X12_undo_0 : lst y_X12_undo.2.1 12 y_X12_undo.2.2.1 false 0 S_X12_undo_0 = true := by decide +kernel
def C_X12_undo (N : Nat) : Nat → List Value → mH → (Option Value → mH → Option (Int32 × mH)) → Option (Int32 × mH) := fun j as g k => kb j 263 (pr1 as fun b0 as => pp1 as fun b1 as => pp1 as fun b2 as => pp1 as fun b3 as => pe as ((f_X12_isCrossing N b0 b1 b2 b3 g).bind fun p => k (some (.int p.1)) p.2)) (kb j 224 (pr1 as fun b0 as => pp1 as fun b1 as => pe as ((f_X12_no N b0 b1 g).bind fun p => k (some (.int p.1)) p.2)) (kb j 257 (pr1 as fun b0 as => pp1 as fun b1 as => pe as ((f_X12_allAhead N b0 b1 g).bind fun p => k (some (.int p.1)) p.2)) (kb j 258 (pr1 as fun b0 as => pp1 as fun b1 as => pp1 as fun b2 as => pp1 as fun b3 as => pe as ((f_X12_when N b0 b1 b2 b3 g).bind fun p => k (some (.int p.1)) p.2)) (none))))
theorem co_X12_undo (N : Nat) (q : Int32 × mH) : clOK 7 q (C_X12_undo N) := by
  intro j as g k e
  rcases kb_s e with ⟨rfl, e⟩ | e
  · obtain ⟨b0, r0, q0, f0⟩ := pr1_s e
    obtain ⟨b1, r1, q1, f1⟩ := pp1_s f0
    obtain ⟨b2, r2, q2, f2⟩ := pp1_s f1
    obtain ⟨b3, r3, q3, f3⟩ := pp1_s f2
    obtain ⟨qe, fe⟩ := pe_s f3
    obtain ⟨p, e1, e2⟩ := bnd_s fe
    subst qe
    subst q3
    subst q2
    subst q1
    subst q0
    exact ⟨_, _, _, _, 6, rfl, (by decide), m_X12_isCrossing N e1, e2⟩
  rcases kb_s e with ⟨rfl, e⟩ | e
  · obtain ⟨b0, r0, q0, f0⟩ := pr1_s e
    obtain ⟨b1, r1, q1, f1⟩ := pp1_s f0
    obtain ⟨qe, fe⟩ := pe_s f1
    obtain ⟨p, e1, e2⟩ := bnd_s fe
    subst qe
    subst q1
    subst q0
    exact ⟨_, _, _, _, 4, rfl, (by decide), m_X12_no N e1, e2⟩
  rcases kb_s e with ⟨rfl, e⟩ | e
  · obtain ⟨b0, r0, q0, f0⟩ := pr1_s e
    obtain ⟨b1, r1, q1, f1⟩ := pp1_s f0
    obtain ⟨qe, fe⟩ := pe_s f1
    obtain ⟨p, e1, e2⟩ := bnd_s fe
    subst qe
    subst q1
    subst q0
    exact ⟨_, _, _, _, 5, rfl, (by decide), m_X12_allAhead N e1, e2⟩
  rcases kb_s e with ⟨rfl, e⟩ | e
  · obtain ⟨b0, r0, q0, f0⟩ := pr1_s e
    obtain ⟨b1, r1, q1, f1⟩ := pp1_s f0
    obtain ⟨b2, r2, q2, f2⟩ := pp1_s f1
    obtain ⟨b3, r3, q3, f3⟩ := pp1_s f2
    obtain ⟨qe, fe⟩ := pe_s f3
    obtain ⟨p, e1, e2⟩ := bnd_s fe
    subst qe
    subst q3
    subst q2
    subst q1
    subst q0
    exact ⟨_, _, _, _, 6, rfl, (by decide), m_X12_when N e1, e2⟩
  cases e
set_option maxRecDepth 100000 in
theorem m_X12_undo (N : Nat) {a0 : Nat} {x1 : Int32} {x2 : Int32} {x3 : Int32} {x4 : Int32} {h : mH} {q : Int32 × mH} (hf : f_X12_undo N a0 x1 x2 x3 x4 h = some q) : MM y_X12_undo 7 [.ref a0, .int x1, .int x2, .int x3, .int x4] h (some (.int q.1)) q.2 := by
  refine MM.of (mFx (j := 275) rfl).2.2.2.1 (Nat.le_of_ble_eq_true rfl) (fun X => ?_)
  refine ev_ok (o := 12) (ini := false) (Cl := C_X12_undo N) (Rc := RcI) (B := B_X12_undo) (K := fun pc ls st g => none) rfl (fun e => by cases e) (by decide) (rcI_ok rfl) ?_ (co_X12_undo N q) lb_X12_undo 3000 0 S_X12_undo_0 _ _ h ls_X12_undo_0 hf
  intro pc ls st g e
  cases e
def L_X12_mend_65 (N : Nat) : Nat → Nat → Int32 → Int32 → Int32 → Int32 → Int32 → mH → Option (Int32 × mH)
  | 0, _, _, _, _, _, _, _ => none
  | n + 1, a0, x1, x2, x3, x4, x5, h =>
    (gR h 12 a0 2).bind fun v1 =>
    (ldI 0 h v1 (iAdd (jI 27) x1)).bind fun v2 =>
    if x5 < v2 then
      (rcv h 12 a0).bind fun _ =>
      (f_X12_indexAt N a0 x1 x5 x2 x3 h).bind fun p3 =>
      (rcv p3.2 12 a0).bind fun _ =>
      (f_X12_when N a0 x1 x5 p3.1 p3.2).bind fun p4 =>
      if p4.1 < x4 then
        let w5 := iAdd x5 (jI 1)
        L_X12_mend_65 N n a0 x1 x2 x3 p4.1 w5 p4.2
      else
        let w6 := iAdd x5 (jI 1)
        L_X12_mend_65 N n a0 x1 x2 x3 x4 w6 p4.2
    else
      (gR h 12 a0 2).bind fun v7 =>
      (ldI 0 h v7 (jI 26)).bind fun v8 =>
      (rcv h 12 a0).bind fun _ =>
      (f_X12_allAhead N a0 v8 h).bind fun p9 =>
      some (iSub p9.1 x4, p9.2)
def f_X12_mend (N : Nat) (a0 : Nat) (x1 : Int32) (x2 : Int32) (x3 : Int32) (h : mH) : Option (Int32 × mH) :=
  (pV h 12 a0 0 (.int (jI 0))).bind fun h1 =>
  (rcv h1 12 a0).bind fun _ =>
  (f_X12_isBand N a0 x1 h1).bind fun p2 =>
  if p2.1 = 0 then
    (rcv p2.2 12 a0).bind fun _ =>
    (f_X12_no N a0 (jI (-2)) p2.2).bind fun p3 =>
    some (p3.1, p3.2)
  else
    (gR p2.2 12 a0 2).bind fun v4 =>
    (ldI 0 p2.2 v4 (iAdd (jI 51) x1)).bind fun v5 =>
    (f_X12_within N x2.toInt64 (jL 0) ((iSub v5 (jI 1)).toInt64) p2.2).bind fun p6 =>
    if p6.1 = 0 then
      (rcv p6.2 12 a0).bind fun _ =>
      (f_X12_no N a0 (jI (-2)) p6.2).bind fun p7 =>
      some (p7.1, p7.2)
    else
      (rcv p6.2 12 a0).bind fun _ =>
      (f_X12_isStake N a0 x3 p6.2).bind fun p8 =>
      if p8.1 = 0 then
        (rcv p8.2 12 a0).bind fun _ =>
        (f_X12_no N a0 (jI (-2)) p8.2).bind fun p9 =>
        some (p9.1, p9.2)
      else
        (gR p8.2 12 a0 2).bind fun v10 =>
        (ldI 0 p8.2 v10 (jI 26)).bind fun v11 =>
        (rcv p8.2 12 a0).bind fun _ =>
        (f_X12_allAhead N a0 v11 p8.2).bind fun p12 =>
        L_X12_mend_65 N N a0 x1 x2 x3 p12.1 (jI 0) p12.2
def y_X12_mend : mM := (yX12_mend, cX12_mend, 7, (some .int))
def B_X12_mend : List (Nat × List mI) := [(42, [(.aload_n 0, 1, [0], []), (.bipush (-2), 2, [], [-2]), (.invokevirtual 84, 3, [0, 224, 1, 12, 267], []), (.ireturn, 1, [], [])]), (49, [(.aload_n 0, 1, [0], []), (.aload_n 0, 1, [0], []), (.getfield 17, 3, [12, 2, 2, 128], []), (.bipush 26, 2, [], [26]), (.iaload, 1, [0], []), (.invokevirtual 201, 3, [0, 257, 1, 12, 304], []), (.istore 4, 2, [4], []), (.iconst 0, 1, [], [0]), (.istore 5, 2, [5], [])]), (109, [(.iload 4, 2, [4], [])]), (111, [(.istore 4, 2, [4], []), (.iinc 5 1, 3, [5], [1]), (.goto (-51), 3, [65], [])]), (119, [(.aload_n 0, 1, [0], []), (.aload_n 0, 1, [0], []), (.getfield 17, 3, [12, 2, 2, 128], []), (.bipush 26, 2, [], [26]), (.iaload, 1, [0], []), (.invokevirtual 201, 3, [0, 257, 1, 12, 304], []), (.iload 4, 2, [4], []), (.isub, 1, [], []), (.ireturn, 1, [], [])])]
def S_X12_mend_0 : List mI := [(.aload_n 0, 1, [0], []), (.iconst 0, 1, [], [0]), (.putfield 1, 3, [12, 0, 0, 126], []), (.aload_n 0, 1, [0], []), (.iload_n 1, 1, [1], []), (.invokevirtual 181, 3, [0, 247, 1, 12, 289], []), (.ifCond .eq 32, 3, [42], []), (.iload_n 2, 1, [2], []), (.i2l, 1, [], []), (.lconst 0, 1, [], [0]), (.aload_n 0, 1, [0], []), (.getfield 17, 3, [12, 2, 2, 128], []), (.bipush 51, 2, [], [51]), (.iload_n 1, 1, [1], []), (.iadd, 1, [], []), (.iaload, 1, [0], []), (.iconst 1, 1, [], [1]), (.isub, 1, [], []), (.i2l, 1, [], []), (.invokestatic 147, 3, [1, 225, 3, 0, 269], []), (.ifCond .eq 11, 3, [42], []), (.aload_n 0, 1, [0], []), (.iload_n 3, 1, [3], []), (.invokevirtual 235, 3, [0, 266, 1, 12, 306], []), (.ifCond .ne 10, 3, [49], [])]
def S_X12_mend_65 : List mI := [(.iload 5, 2, [5], []), (.aload_n 0, 1, [0], []), (.getfield 17, 3, [12, 2, 2, 128], []), (.bipush 27, 2, [], [27]), (.iload_n 1, 1, [1], []), (.iadd, 1, [], []), (.iaload, 1, [0], []), (.if_icmp .ge 43, 3, [119], []), (.aload_n 0, 1, [0], []), (.iload_n 1, 1, [1], []), (.iload 5, 2, [5], []), (.aload_n 0, 1, [0], []), (.iload_n 1, 1, [1], []), (.iload 5, 2, [5], []), (.iload_n 2, 1, [2], []), (.iload_n 3, 1, [3], []), (.invokevirtual 231, 3, [0, 265, 4, 12, 308], []), (.invokevirtual 228, 3, [0, 258, 3, 12, 303], []), (.istore 6, 2, [6], []), (.iload 6, 2, [6], []), (.iload 4, 2, [4], []), (.if_icmp .ge 8, 3, [109], []), (.iload 6, 2, [6], []), (.goto 5, 3, [111], [])]
theorem lb_X12_mend : B_X12_mend.all (fun b => lst y_X12_mend.2.1 12 y_X12_mend.2.2.1 false b.1 b.2) = true := by decide +kernel
theorem ls_X12_mend_0 : lst y_X12_mend.2.1 12 y_X12_mend.2.2.1 false 0 S_X12_mend_0 = true := by decide +kernel
theorem ls_X12_mend_65 : lst y_X12_mend.2.1 12 y_X12_mend.2.2.1 false 65 S_X12_mend_65 = true := by decide +kernel
def C_X12_mend (N : Nat) : Nat → List Value → mH → (Option Value → mH → Option (Int32 × mH)) → Option (Int32 × mH) := fun j as g k => kb j 247 (pr1 as fun b0 as => pp1 as fun b1 as => pe as ((f_X12_isBand N b0 b1 g).bind fun p => k (some (.int p.1)) p.2)) (kb j 225 (pl1 as fun b0 as => pl1 as fun b1 as => pl1 as fun b2 as => pe as ((f_X12_within N b0 b1 b2 g).bind fun p => k (some (.int p.1)) p.2)) (kb j 266 (pr1 as fun b0 as => pp1 as fun b1 as => pe as ((f_X12_isStake N b0 b1 g).bind fun p => k (some (.int p.1)) p.2)) (kb j 224 (pr1 as fun b0 as => pp1 as fun b1 as => pe as ((f_X12_no N b0 b1 g).bind fun p => k (some (.int p.1)) p.2)) (kb j 257 (pr1 as fun b0 as => pp1 as fun b1 as => pe as ((f_X12_allAhead N b0 b1 g).bind fun p => k (some (.int p.1)) p.2)) (kb j 265 (pr1 as fun b0 as => pp1 as fun b1 as => pp1 as fun b2 as => pp1 as fun b3 as => pp1 as fun b4 as => pe as ((f_X12_indexAt N b0 b1 b2 b3 b4 g).bind fun p => k (some (.int p.1)) p.2)) (kb j 258 (pr1 as fun b0 as => pp1 as fun b1 as => pp1 as fun b2 as => pp1 as fun b3 as => pe as ((f_X12_when N b0 b1 b2 b3 g).bind fun p => k (some (.int p.1)) p.2)) (none)))))))
theorem co_X12_mend (N : Nat) (q : Int32 × mH) : clOK 7 q (C_X12_mend N) := by
  intro j as g k e
  rcases kb_s e with ⟨rfl, e⟩ | e
  · obtain ⟨b0, r0, q0, f0⟩ := pr1_s e
    obtain ⟨b1, r1, q1, f1⟩ := pp1_s f0
    obtain ⟨qe, fe⟩ := pe_s f1
    obtain ⟨p, e1, e2⟩ := bnd_s fe
    subst qe
    subst q1
    subst q0
    exact ⟨_, _, _, _, 5, rfl, (by decide), m_X12_isBand N e1, e2⟩
  rcases kb_s e with ⟨rfl, e⟩ | e
  · obtain ⟨b0, r0, q0, f0⟩ := pl1_s e
    obtain ⟨b1, r1, q1, f1⟩ := pl1_s f0
    obtain ⟨b2, r2, q2, f2⟩ := pl1_s f1
    obtain ⟨qe, fe⟩ := pe_s f2
    obtain ⟨p, e1, e2⟩ := bnd_s fe
    subst qe
    subst q2
    subst q1
    subst q0
    exact ⟨_, _, _, _, 4, rfl, (by decide), m_X12_within N e1, e2⟩
  rcases kb_s e with ⟨rfl, e⟩ | e
  · obtain ⟨b0, r0, q0, f0⟩ := pr1_s e
    obtain ⟨b1, r1, q1, f1⟩ := pp1_s f0
    obtain ⟨qe, fe⟩ := pe_s f1
    obtain ⟨p, e1, e2⟩ := bnd_s fe
    subst qe
    subst q1
    subst q0
    exact ⟨_, _, _, _, 5, rfl, (by decide), m_X12_isStake N e1, e2⟩
  rcases kb_s e with ⟨rfl, e⟩ | e
  · obtain ⟨b0, r0, q0, f0⟩ := pr1_s e
    obtain ⟨b1, r1, q1, f1⟩ := pp1_s f0
    obtain ⟨qe, fe⟩ := pe_s f1
    obtain ⟨p, e1, e2⟩ := bnd_s fe
    subst qe
    subst q1
    subst q0
    exact ⟨_, _, _, _, 4, rfl, (by decide), m_X12_no N e1, e2⟩
  rcases kb_s e with ⟨rfl, e⟩ | e
  · obtain ⟨b0, r0, q0, f0⟩ := pr1_s e
    obtain ⟨b1, r1, q1, f1⟩ := pp1_s f0
    obtain ⟨qe, fe⟩ := pe_s f1
    obtain ⟨p, e1, e2⟩ := bnd_s fe
    subst qe
    subst q1
    subst q0
    exact ⟨_, _, _, _, 5, rfl, (by decide), m_X12_allAhead N e1, e2⟩
  rcases kb_s e with ⟨rfl, e⟩ | e
  · obtain ⟨b0, r0, q0, f0⟩ := pr1_s e
    obtain ⟨b1, r1, q1, f1⟩ := pp1_s f0
    obtain ⟨b2, r2, q2, f2⟩ := pp1_s f1
    obtain ⟨b3, r3, q3, f3⟩ := pp1_s f2
    obtain ⟨b4, r4, q4, f4⟩ := pp1_s f3
    obtain ⟨qe, fe⟩ := pe_s f4
    obtain ⟨p, e1, e2⟩ := bnd_s fe
    subst qe
    subst q4
    subst q3
    subst q2
    subst q1
    subst q0
    exact ⟨_, _, _, _, 5, rfl, (by decide), m_X12_indexAt N e1, e2⟩
  rcases kb_s e with ⟨rfl, e⟩ | e
  · obtain ⟨b0, r0, q0, f0⟩ := pr1_s e
    obtain ⟨b1, r1, q1, f1⟩ := pp1_s f0
    obtain ⟨b2, r2, q2, f2⟩ := pp1_s f1
    obtain ⟨b3, r3, q3, f3⟩ := pp1_s f2
    obtain ⟨qe, fe⟩ := pe_s f3
    obtain ⟨p, e1, e2⟩ := bnd_s fe
    subst qe
    subst q3
    subst q2
    subst q1
    subst q0
    exact ⟨_, _, _, _, 6, rfl, (by decide), m_X12_when N e1, e2⟩
  cases e
set_option maxRecDepth 100000 in
theorem t_X12_mend_65 {X : Nat × (Nat → Int32)} (N : Nat) {q : Int32 × mH} : ∀ (n : Nat) (a0 : Nat) (x1 : Int32) (x2 : Int32) (x3 : Int32) (x4 : Int32) (x5 : Int32) (h : mH), L_X12_mend_65 N n a0 x1 x2 x3 x4 x5 h = some q → MW X y_X12_mend 7 65 [(0, .ref a0), (1, .int x1), (2, .int x2), (3, .int x3), (4, .int x4), (5, .int x5)] [] h (some (.int q.1)) q.2 := by
  intro n
  induction n with
  | zero => intro a0 x1 x2 x3 x4 x5 h hf; cases hf
  | succ n ih =>
    intro a0 x1 x2 x3 x4 x5 h hf
    refine ev_ok (o := 12) (ini := false) (Cl := C_X12_mend N) (Rc := RcI) (B := B_X12_mend) (K := fun pc ls st g => kb pc 65 (lgr 0 ls fun a0 => lgi 1 ls fun x1 => lgi 2 ls fun x2 => lgi 3 ls fun x3 => lgi 4 ls fun x4 => lgi 5 ls fun x5 => pe st (L_X12_mend_65 N n a0 x1 x2 x3 x4 x5 g)) (none)) rfl (fun e => by cases e) (by decide) (rcI_ok rfl) ?_ (co_X12_mend N q) lb_X12_mend 3000 65 S_X12_mend_65 _ _ h ls_X12_mend_65 hf
    intro pc ls st g e
    rcases kb_s e with ⟨rfl, e⟩ | e
    · obtain ⟨a0, e0, f0⟩ := lgr_s e
      obtain ⟨x1, e1, f1⟩ := lgi_s f0
      obtain ⟨x2, e2, f2⟩ := lgi_s f1
      obtain ⟨x3, e3, f3⟩ := lgi_s f2
      obtain ⟨x4, e4, f4⟩ := lgi_s f3
      obtain ⟨x5, e5, f5⟩ := lgi_s f4
      obtain ⟨qe, fe⟩ := pe_s f5
      subst qe
      exact MW.sub (List.forall_mem_cons.mpr ⟨lg_mem e0, List.forall_mem_cons.mpr ⟨lg_mem e1, List.forall_mem_cons.mpr ⟨lg_mem e2, List.forall_mem_cons.mpr ⟨lg_mem e3, List.forall_mem_cons.mpr ⟨lg_mem e4, List.forall_mem_cons.mpr ⟨lg_mem e5, fun _ h => absurd h List.not_mem_nil⟩⟩⟩⟩⟩⟩) (ih a0 x1 x2 x3 x4 x5 g fe)
    cases e
set_option maxRecDepth 100000 in
theorem m_X12_mend (N : Nat) {a0 : Nat} {x1 : Int32} {x2 : Int32} {x3 : Int32} {h : mH} {q : Int32 × mH} (hf : f_X12_mend N a0 x1 x2 x3 h = some q) : MM y_X12_mend 7 [.ref a0, .int x1, .int x2, .int x3] h (some (.int q.1)) q.2 := by
  refine MM.of (mFx (j := 276) rfl).2.2.2.1 (Nat.le_of_ble_eq_true rfl) (fun X => ?_)
  refine ev_ok (o := 12) (ini := false) (Cl := C_X12_mend N) (Rc := RcI) (B := B_X12_mend) (K := fun pc ls st g => kb pc 65 (lgr 0 ls fun a0 => lgi 1 ls fun x1 => lgi 2 ls fun x2 => lgi 3 ls fun x3 => lgi 4 ls fun x4 => lgi 5 ls fun x5 => pe st (L_X12_mend_65 N N a0 x1 x2 x3 x4 x5 g)) (none)) rfl (fun e => by cases e) (by decide) (rcI_ok rfl) ?_ (co_X12_mend N q) lb_X12_mend 3000 0 S_X12_mend_0 _ _ h ls_X12_mend_0 hf
  intro pc ls st g e
  rcases kb_s e with ⟨rfl, e⟩ | e
  · obtain ⟨a0, e0, f0⟩ := lgr_s e
    obtain ⟨x1, e1, f1⟩ := lgi_s f0
    obtain ⟨x2, e2, f2⟩ := lgi_s f1
    obtain ⟨x3, e3, f3⟩ := lgi_s f2
    obtain ⟨x4, e4, f4⟩ := lgi_s f3
    obtain ⟨x5, e5, f5⟩ := lgi_s f4
    obtain ⟨qe, fe⟩ := pe_s f5
    subst qe
    exact MW.sub (List.forall_mem_cons.mpr ⟨lg_mem e0, List.forall_mem_cons.mpr ⟨lg_mem e1, List.forall_mem_cons.mpr ⟨lg_mem e2, List.forall_mem_cons.mpr ⟨lg_mem e3, List.forall_mem_cons.mpr ⟨lg_mem e4, List.forall_mem_cons.mpr ⟨lg_mem e5, fun _ h => absurd h List.not_mem_nil⟩⟩⟩⟩⟩⟩) (t_X12_mend_65 N N a0 x1 x2 x3 x4 x5 g fe)
  cases e
def L_X12_seamOf_4 (N : Nat) : Nat → Nat → Int32 → Int32 → Int32 → mH → Option (Int32 × mH)
  | 0, _, _, _, _, _ => none
  | n + 1, a0, x1, x2, x3, h =>
    (gR h 12 a0 2).bind fun v1 =>
    (ldI 0 h v1 (jI 0)).bind fun v2 =>
    if x3 < v2 then
      (gR h 12 a0 2).bind fun v3 =>
      (ldI 0 h v3 (iAdd (jI 27) x1)).bind fun v4 =>
      (gR h 12 a0 2).bind fun v5 =>
      (ldI 0 h v5 (iAdd (jI 51) x1)).bind fun v6 =>
      (rcv h 12 a0).bind fun _ =>
      (f_X12_isOverIn N a0 x1 (iSub (iMul v4 v6) (jI 1)) x3 h).bind fun p7 =>
      (rcv p7.2 12 a0).bind fun _ =>
      (f_X12_isOverIn N a0 (iAdd x1 (jI 1)) (jI 0) x3 p7.2).bind fun p8 =>
      if p7.1 = p8.1 then
        let w9 := iAdd x2 (jI 1)
        let w10 := iAdd x3 (jI 1)
        L_X12_seamOf_4 N n a0 x1 w9 w10 p8.2
      else
        let w11 := iAdd x2 (jI 0)
        let w12 := iAdd x3 (jI 1)
        L_X12_seamOf_4 N n a0 x1 w11 w12 p8.2
    else
      some (x2, h)
def f_X12_seamOf (N : Nat) (a0 : Nat) (x1 : Int32) (h : mH) : Option (Int32 × mH) :=
  L_X12_seamOf_4 N N a0 x1 (jI 0) (jI 0) h
def y_X12_seamOf : mM := (yX12_seamOf, cX12_seamOf, 4, (some .int))
def B_X12_seamOf : List (Nat × List mI) := [(58, [(.iconst 0, 1, [], [0])]), (59, [(.iadd, 1, [], []), (.istore_n 2, 1, [2], []), (.iinc 3 1, 3, [3], [1]), (.goto (-60), 3, [4], [])]), (67, [(.iload_n 2, 1, [2], []), (.ireturn, 1, [], [])])]
def S_X12_seamOf_0 : List mI := [(.iconst 0, 1, [], [0]), (.istore_n 2, 1, [2], []), (.iconst 0, 1, [], [0]), (.istore_n 3, 1, [3], [])]
def S_X12_seamOf_4 : List mI := [(.iload_n 3, 1, [3], []), (.aload_n 0, 1, [0], []), (.getfield 17, 3, [12, 2, 2, 128], []), (.iconst 0, 1, [], [0]), (.iaload, 1, [0], []), (.if_icmp .ge 56, 3, [67], []), (.iload_n 2, 1, [2], []), (.aload_n 0, 1, [0], []), (.iload_n 1, 1, [1], []), (.aload_n 0, 1, [0], []), (.getfield 17, 3, [12, 2, 2, 128], []), (.bipush 27, 2, [], [27]), (.iload_n 1, 1, [1], []), (.iadd, 1, [], []), (.iaload, 1, [0], []), (.aload_n 0, 1, [0], []), (.getfield 17, 3, [12, 2, 2, 128], []), (.bipush 51, 2, [], [51]), (.iload_n 1, 1, [1], []), (.iadd, 1, [], []), (.iaload, 1, [0], []), (.imul, 1, [], []), (.iconst 1, 1, [], [1]), (.isub, 1, [], []), (.iload_n 3, 1, [3], []), (.invokevirtual 238, 3, [0, 267, 3, 12, 307], []), (.aload_n 0, 1, [0], []), (.iload_n 1, 1, [1], []), (.iconst 1, 1, [], [1]), (.iadd, 1, [], []), (.iconst 0, 1, [], [0]), (.iload_n 3, 1, [3], []), (.invokevirtual 238, 3, [0, 267, 3, 12, 307], []), (.if_icmp .ne 7, 3, [58], []), (.iconst 1, 1, [], [1]), (.goto 4, 3, [59], [])]
theorem lb_X12_seamOf : B_X12_seamOf.all (fun b => lst y_X12_seamOf.2.1 12 y_X12_seamOf.2.2.1 false b.1 b.2) = true := by decide +kernel
theorem ls_X12_seamOf_0 : lst y_X12_seamOf.2.1 12 y_X12_seamOf.2.2.1 false 0 S_X12_seamOf_0 = true := by decide +kernel
theorem ls_X12_seamOf_4 : lst y_X12_seamOf.2.1 12 y_X12_seamOf.2.2.1 false 4 S_X12_seamOf_4 = true := by decide +kernel
def C_X12_seamOf (N : Nat) : Nat → List Value → mH → (Option Value → mH → Option (Int32 × mH)) → Option (Int32 × mH) := fun j as g k => kb j 267 (pr1 as fun b0 as => pp1 as fun b1 as => pp1 as fun b2 as => pp1 as fun b3 as => pe as ((f_X12_isOverIn N b0 b1 b2 b3 g).bind fun p => k (some (.int p.1)) p.2)) (none)
theorem co_X12_seamOf (N : Nat) (q : Int32 × mH) : clOK 7 q (C_X12_seamOf N) := by
  intro j as g k e
  rcases kb_s e with ⟨rfl, e⟩ | e
  · obtain ⟨b0, r0, q0, f0⟩ := pr1_s e
    obtain ⟨b1, r1, q1, f1⟩ := pp1_s f0
    obtain ⟨b2, r2, q2, f2⟩ := pp1_s f1
    obtain ⟨b3, r3, q3, f3⟩ := pp1_s f2
    obtain ⟨qe, fe⟩ := pe_s f3
    obtain ⟨p, e1, e2⟩ := bnd_s fe
    subst qe
    subst q3
    subst q2
    subst q1
    subst q0
    exact ⟨_, _, _, _, 6, rfl, (by decide), m_X12_isOverIn N e1, e2⟩
  cases e
set_option maxRecDepth 100000 in
theorem t_X12_seamOf_4 {X : Nat × (Nat → Int32)} (N : Nat) {q : Int32 × mH} : ∀ (n : Nat) (a0 : Nat) (x1 : Int32) (x2 : Int32) (x3 : Int32) (h : mH), L_X12_seamOf_4 N n a0 x1 x2 x3 h = some q → MW X y_X12_seamOf 7 4 [(0, .ref a0), (1, .int x1), (2, .int x2), (3, .int x3)] [] h (some (.int q.1)) q.2 := by
  intro n
  induction n with
  | zero => intro a0 x1 x2 x3 h hf; cases hf
  | succ n ih =>
    intro a0 x1 x2 x3 h hf
    refine ev_ok (o := 12) (ini := false) (Cl := C_X12_seamOf N) (Rc := RcI) (B := B_X12_seamOf) (K := fun pc ls st g => kb pc 4 (lgr 0 ls fun a0 => lgi 1 ls fun x1 => lgi 2 ls fun x2 => lgi 3 ls fun x3 => pe st (L_X12_seamOf_4 N n a0 x1 x2 x3 g)) (none)) rfl (fun e => by cases e) (by decide) (rcI_ok rfl) ?_ (co_X12_seamOf N q) lb_X12_seamOf 3000 4 S_X12_seamOf_4 _ _ h ls_X12_seamOf_4 hf
    intro pc ls st g e
    rcases kb_s e with ⟨rfl, e⟩ | e
    · obtain ⟨a0, e0, f0⟩ := lgr_s e
      obtain ⟨x1, e1, f1⟩ := lgi_s f0
      obtain ⟨x2, e2, f2⟩ := lgi_s f1
      obtain ⟨x3, e3, f3⟩ := lgi_s f2
      obtain ⟨qe, fe⟩ := pe_s f3
      subst qe
      exact MW.sub (List.forall_mem_cons.mpr ⟨lg_mem e0, List.forall_mem_cons.mpr ⟨lg_mem e1, List.forall_mem_cons.mpr ⟨lg_mem e2, List.forall_mem_cons.mpr ⟨lg_mem e3, fun _ h => absurd h List.not_mem_nil⟩⟩⟩⟩) (ih a0 x1 x2 x3 g fe)
    cases e
set_option maxRecDepth 100000 in
theorem m_X12_seamOf (N : Nat) {a0 : Nat} {x1 : Int32} {h : mH} {q : Int32 × mH} (hf : f_X12_seamOf N a0 x1 h = some q) : MM y_X12_seamOf 7 [.ref a0, .int x1] h (some (.int q.1)) q.2 := by
  refine MM.of (mFx (j := 277) rfl).2.2.2.1 (Nat.le_of_ble_eq_true rfl) (fun X => ?_)
  refine ev_ok (o := 12) (ini := false) (Cl := C_X12_seamOf N) (Rc := RcI) (B := B_X12_seamOf) (K := fun pc ls st g => kb pc 4 (lgr 0 ls fun a0 => lgi 1 ls fun x1 => lgi 2 ls fun x2 => lgi 3 ls fun x3 => pe st (L_X12_seamOf_4 N N a0 x1 x2 x3 g)) (none)) rfl (fun e => by cases e) (by decide) (rcI_ok rfl) ?_ (co_X12_seamOf N q) lb_X12_seamOf 3000 0 S_X12_seamOf_0 _ _ h ls_X12_seamOf_0 hf
  intro pc ls st g e
  rcases kb_s e with ⟨rfl, e⟩ | e
  · obtain ⟨a0, e0, f0⟩ := lgr_s e
    obtain ⟨x1, e1, f1⟩ := lgi_s f0
    obtain ⟨x2, e2, f2⟩ := lgi_s f1
    obtain ⟨x3, e3, f3⟩ := lgi_s f2
    obtain ⟨qe, fe⟩ := pe_s f3
    subst qe
    exact MW.sub (List.forall_mem_cons.mpr ⟨lg_mem e0, List.forall_mem_cons.mpr ⟨lg_mem e1, List.forall_mem_cons.mpr ⟨lg_mem e2, List.forall_mem_cons.mpr ⟨lg_mem e3, fun _ h => absurd h List.not_mem_nil⟩⟩⟩⟩) (t_X12_seamOf_4 N N a0 x1 x2 x3 g fe)
  cases e
def f_X12_seam (N : Nat) (a0 : Nat) (x1 : Int32) (h : mH) : Option (Int32 × mH) :=
  (pV h 12 a0 0 (.int (jI 0))).bind fun h1 =>
  (rcv h1 12 a0).bind fun _ =>
  (f_X12_isBand N a0 x1 h1).bind fun p2 =>
  if p2.1 = 0 then
    (rcv p2.2 12 a0).bind fun _ =>
    (f_X12_no N a0 (jI (-2)) p2.2).bind fun p3 =>
    some (p3.1, p3.2)
  else
    (gR p2.2 12 a0 2).bind fun v4 =>
    (ldI 0 p2.2 v4 (jI 26)).bind fun v5 =>
    if x1 = (iSub v5 (jI 1)) then
      some (jI (-1), p2.2)
    else
      (rcv p2.2 12 a0).bind fun _ =>
      (f_X12_seamOf N a0 x1 p2.2).bind fun p6 =>
      some (p6.1, p6.2)
def y_X12_seam : mM := (yX12_seam, cX12_seam, 2, (some .int))
def B_X12_seam : List (Nat × List mI) := [(20, [(.iload_n 1, 1, [1], []), (.aload_n 0, 1, [0], []), (.getfield 17, 3, [12, 2, 2, 128], []), (.bipush 26, 2, [], [26]), (.iaload, 1, [0], []), (.iconst 1, 1, [], [1]), (.isub, 1, [], []), (.if_icmp .ne 7, 3, [37], []), (.iconst (-1), 1, [], [-1]), (.goto 8, 3, [42], [])]), (37, [(.aload_n 0, 1, [0], []), (.iload_n 1, 1, [1], []), (.invokevirtual 250, 3, [0, 277, 1, 12, 318], [])]), (42, [(.ireturn, 1, [], [])])]
def S_X12_seam_0 : List mI := [(.aload_n 0, 1, [0], []), (.iconst 0, 1, [], [0]), (.putfield 1, 3, [12, 0, 0, 126], []), (.aload_n 0, 1, [0], []), (.iload_n 1, 1, [1], []), (.invokevirtual 181, 3, [0, 247, 1, 12, 289], []), (.ifCond .ne 10, 3, [20], []), (.aload_n 0, 1, [0], []), (.bipush (-2), 2, [], [-2]), (.invokevirtual 84, 3, [0, 224, 1, 12, 267], []), (.ireturn, 1, [], [])]
theorem lb_X12_seam : B_X12_seam.all (fun b => lst y_X12_seam.2.1 12 y_X12_seam.2.2.1 false b.1 b.2) = true := by decide +kernel
theorem ls_X12_seam_0 : lst y_X12_seam.2.1 12 y_X12_seam.2.2.1 false 0 S_X12_seam_0 = true := by decide +kernel
def C_X12_seam (N : Nat) : Nat → List Value → mH → (Option Value → mH → Option (Int32 × mH)) → Option (Int32 × mH) := fun j as g k => kb j 247 (pr1 as fun b0 as => pp1 as fun b1 as => pe as ((f_X12_isBand N b0 b1 g).bind fun p => k (some (.int p.1)) p.2)) (kb j 224 (pr1 as fun b0 as => pp1 as fun b1 as => pe as ((f_X12_no N b0 b1 g).bind fun p => k (some (.int p.1)) p.2)) (kb j 277 (pr1 as fun b0 as => pp1 as fun b1 as => pe as ((f_X12_seamOf N b0 b1 g).bind fun p => k (some (.int p.1)) p.2)) (none)))
theorem co_X12_seam (N : Nat) (q : Int32 × mH) : clOK 8 q (C_X12_seam N) := by
  intro j as g k e
  rcases kb_s e with ⟨rfl, e⟩ | e
  · obtain ⟨b0, r0, q0, f0⟩ := pr1_s e
    obtain ⟨b1, r1, q1, f1⟩ := pp1_s f0
    obtain ⟨qe, fe⟩ := pe_s f1
    obtain ⟨p, e1, e2⟩ := bnd_s fe
    subst qe
    subst q1
    subst q0
    exact ⟨_, _, _, _, 5, rfl, (by decide), m_X12_isBand N e1, e2⟩
  rcases kb_s e with ⟨rfl, e⟩ | e
  · obtain ⟨b0, r0, q0, f0⟩ := pr1_s e
    obtain ⟨b1, r1, q1, f1⟩ := pp1_s f0
    obtain ⟨qe, fe⟩ := pe_s f1
    obtain ⟨p, e1, e2⟩ := bnd_s fe
    subst qe
    subst q1
    subst q0
    exact ⟨_, _, _, _, 4, rfl, (by decide), m_X12_no N e1, e2⟩
  rcases kb_s e with ⟨rfl, e⟩ | e
  · obtain ⟨b0, r0, q0, f0⟩ := pr1_s e
    obtain ⟨b1, r1, q1, f1⟩ := pp1_s f0
    obtain ⟨qe, fe⟩ := pe_s f1
    obtain ⟨p, e1, e2⟩ := bnd_s fe
    subst qe
    subst q1
    subst q0
    exact ⟨_, _, _, _, 7, rfl, (by decide), m_X12_seamOf N e1, e2⟩
  cases e
set_option maxRecDepth 100000 in
theorem m_X12_seam (N : Nat) {a0 : Nat} {x1 : Int32} {h : mH} {q : Int32 × mH} (hf : f_X12_seam N a0 x1 h = some q) : MM y_X12_seam 8 [.ref a0, .int x1] h (some (.int q.1)) q.2 := by
  refine MM.of (mFx (j := 278) rfl).2.2.2.1 (Nat.le_of_ble_eq_true rfl) (fun X => ?_)
  refine ev_ok (o := 12) (ini := false) (Cl := C_X12_seam N) (Rc := RcI) (B := B_X12_seam) (K := fun pc ls st g => none) rfl (fun e => by cases e) (by decide) (rcI_ok rfl) ?_ (co_X12_seam N q) lb_X12_seam 3000 0 S_X12_seam_0 _ _ h ls_X12_seam_0 hf
  intro pc ls st g e
  cases e
def L_X12_turn_55 (N : Nat) : Nat → Nat → Int32 → Int32 → Int32 → Int32 → Int32 → mH → Option (Int32 × mH)
  | 0, _, _, _, _, _, _, _ => none
  | n + 1, a0, x1, x2, x3, x4, x5, h =>
    (gR h 12 a0 2).bind fun v1 =>
    (ldI 0 h v1 (jI 0)).bind fun v2 =>
    if x5 < v2 then
      (gR h 12 a0 2).bind fun v3 =>
      (stI 0 h v3 (iAdd (iAdd (jI 59) x1) (jI 1)) x5).bind fun h4 =>
      (rcv h4 12 a0).bind fun _ =>
      (f_X12_seamOf N a0 x1 h4).bind fun p5 =>
      if x4 = (jI (-1)) then
        let w6 := iAdd x5 (jI 1)
        L_X12_turn_55 N n a0 x1 x2 x5 p5.1 w6 p5.2
      else
        if p5.1 < x4 then
          let w7 := iAdd x5 (jI 1)
          L_X12_turn_55 N n a0 x1 x2 x5 p5.1 w7 p5.2
        else
          let w8 := iAdd x5 (jI 1)
          L_X12_turn_55 N n a0 x1 x2 x3 x4 w8 p5.2
    else
      (gR h 12 a0 2).bind fun v9 =>
      (stI 0 h v9 (iAdd (iAdd (jI 59) x1) (jI 1)) x2).bind fun h10 =>
      some (x3, h10)
def f_X12_turn (N : Nat) (a0 : Nat) (x1 : Int32) (h : mH) : Option (Int32 × mH) :=
  (pV h 12 a0 0 (.int (jI 0))).bind fun h1 =>
  (rcv h1 12 a0).bind fun _ =>
  (f_X12_isBand N a0 x1 h1).bind fun p2 =>
  if p2.1 = 0 then
    (rcv p2.2 12 a0).bind fun _ =>
    (f_X12_no N a0 (jI (-2)) p2.2).bind fun p3 =>
    some (p3.1, p3.2)
  else
    (gR p2.2 12 a0 2).bind fun v4 =>
    (ldI 0 p2.2 v4 (jI 26)).bind fun v5 =>
    if x1 = (iSub v5 (jI 1)) then
      some (jI (-1), p2.2)
    else
      (gR p2.2 12 a0 2).bind fun v6 =>
      (ldI 0 p2.2 v6 (iAdd (iAdd (jI 59) x1) (jI 1))).bind fun v7 =>
      L_X12_turn_55 N N a0 x1 v7 (jI 0) (jI (-1)) (jI 0) p2.2
def y_X12_turn : mM := (yX12_turn, cX12_turn, 7, (some .int))
def B_X12_turn : List (Nat × List mI) := [(20, [(.iload_n 1, 1, [1], []), (.aload_n 0, 1, [0], []), (.getfield 17, 3, [12, 2, 2, 128], []), (.bipush 26, 2, [], [26]), (.iaload, 1, [0], []), (.iconst 1, 1, [], [1]), (.isub, 1, [], []), (.if_icmp .ne 5, 3, [35], []), (.iconst (-1), 1, [], [-1]), (.ireturn, 1, [], [])]), (35, [(.aload_n 0, 1, [0], []), (.getfield 17, 3, [12, 2, 2, 128], []), (.bipush 59, 2, [], [59]), (.iload_n 1, 1, [1], []), (.iadd, 1, [], []), (.iconst 1, 1, [], [1]), (.iadd, 1, [], []), (.iaload, 1, [0], []), (.istore_n 2, 1, [2], []), (.iconst 0, 1, [], [0]), (.istore_n 3, 1, [3], []), (.iconst (-1), 1, [], [-1]), (.istore 4, 2, [4], []), (.iconst 0, 1, [], [0]), (.istore 5, 2, [5], [])]), (102, [(.iload 6, 2, [6], []), (.istore 4, 2, [4], []), (.iload 5, 2, [5], []), (.istore_n 3, 1, [3], [])]), (109, [(.iinc 5 1, 3, [5], [1]), (.goto (-57), 3, [55], [])]), (115, [(.aload_n 0, 1, [0], []), (.getfield 17, 3, [12, 2, 2, 128], []), (.bipush 59, 2, [], [59]), (.iload_n 1, 1, [1], []), (.iadd, 1, [], []), (.iconst 1, 1, [], [1]), (.iadd, 1, [], []), (.iload_n 2, 1, [2], []), (.iastore, 1, [], []), (.iload_n 3, 1, [3], []), (.ireturn, 1, [], [])])]
def S_X12_turn_0 : List mI := [(.aload_n 0, 1, [0], []), (.iconst 0, 1, [], [0]), (.putfield 1, 3, [12, 0, 0, 126], []), (.aload_n 0, 1, [0], []), (.iload_n 1, 1, [1], []), (.invokevirtual 181, 3, [0, 247, 1, 12, 289], []), (.ifCond .ne 10, 3, [20], []), (.aload_n 0, 1, [0], []), (.bipush (-2), 2, [], [-2]), (.invokevirtual 84, 3, [0, 224, 1, 12, 267], []), (.ireturn, 1, [], [])]
def S_X12_turn_55 : List mI := [(.iload 5, 2, [5], []), (.aload_n 0, 1, [0], []), (.getfield 17, 3, [12, 2, 2, 128], []), (.iconst 0, 1, [], [0]), (.iaload, 1, [0], []), (.if_icmp .ge 52, 3, [115], []), (.aload_n 0, 1, [0], []), (.getfield 17, 3, [12, 2, 2, 128], []), (.bipush 59, 2, [], [59]), (.iload_n 1, 1, [1], []), (.iadd, 1, [], []), (.iconst 1, 1, [], [1]), (.iadd, 1, [], []), (.iload 5, 2, [5], []), (.iastore, 1, [], []), (.aload_n 0, 1, [0], []), (.iload_n 1, 1, [1], []), (.invokevirtual 250, 3, [0, 277, 1, 12, 318], []), (.istore 6, 2, [6], []), (.iload 4, 2, [4], []), (.iconst (-1), 1, [], [-1]), (.if_icmp .eq 13, 3, [102], []), (.iload 6, 2, [6], []), (.iload 4, 2, [4], []), (.if_icmp .lt 6, 3, [102], []), (.goto 10, 3, [109], [])]
theorem lb_X12_turn : B_X12_turn.all (fun b => lst y_X12_turn.2.1 12 y_X12_turn.2.2.1 false b.1 b.2) = true := by decide +kernel
theorem ls_X12_turn_0 : lst y_X12_turn.2.1 12 y_X12_turn.2.2.1 false 0 S_X12_turn_0 = true := by decide +kernel
theorem ls_X12_turn_55 : lst y_X12_turn.2.1 12 y_X12_turn.2.2.1 false 55 S_X12_turn_55 = true := by decide +kernel
def C_X12_turn (N : Nat) : Nat → List Value → mH → (Option Value → mH → Option (Int32 × mH)) → Option (Int32 × mH) := fun j as g k => kb j 247 (pr1 as fun b0 as => pp1 as fun b1 as => pe as ((f_X12_isBand N b0 b1 g).bind fun p => k (some (.int p.1)) p.2)) (kb j 224 (pr1 as fun b0 as => pp1 as fun b1 as => pe as ((f_X12_no N b0 b1 g).bind fun p => k (some (.int p.1)) p.2)) (kb j 277 (pr1 as fun b0 as => pp1 as fun b1 as => pe as ((f_X12_seamOf N b0 b1 g).bind fun p => k (some (.int p.1)) p.2)) (none)))
theorem co_X12_turn (N : Nat) (q : Int32 × mH) : clOK 8 q (C_X12_turn N) := by
  intro j as g k e
  rcases kb_s e with ⟨rfl, e⟩ | e
  · obtain ⟨b0, r0, q0, f0⟩ := pr1_s e
    obtain ⟨b1, r1, q1, f1⟩ := pp1_s f0
    obtain ⟨qe, fe⟩ := pe_s f1
    obtain ⟨p, e1, e2⟩ := bnd_s fe
    subst qe
    subst q1
    subst q0
    exact ⟨_, _, _, _, 5, rfl, (by decide), m_X12_isBand N e1, e2⟩
  rcases kb_s e with ⟨rfl, e⟩ | e
  · obtain ⟨b0, r0, q0, f0⟩ := pr1_s e
    obtain ⟨b1, r1, q1, f1⟩ := pp1_s f0
    obtain ⟨qe, fe⟩ := pe_s f1
    obtain ⟨p, e1, e2⟩ := bnd_s fe
    subst qe
    subst q1
    subst q0
    exact ⟨_, _, _, _, 4, rfl, (by decide), m_X12_no N e1, e2⟩
  rcases kb_s e with ⟨rfl, e⟩ | e
  · obtain ⟨b0, r0, q0, f0⟩ := pr1_s e
    obtain ⟨b1, r1, q1, f1⟩ := pp1_s f0
    obtain ⟨qe, fe⟩ := pe_s f1
    obtain ⟨p, e1, e2⟩ := bnd_s fe
    subst qe
    subst q1
    subst q0
    exact ⟨_, _, _, _, 7, rfl, (by decide), m_X12_seamOf N e1, e2⟩
  cases e
set_option maxRecDepth 100000 in
theorem t_X12_turn_55 {X : Nat × (Nat → Int32)} (N : Nat) {q : Int32 × mH} : ∀ (n : Nat) (a0 : Nat) (x1 : Int32) (x2 : Int32) (x3 : Int32) (x4 : Int32) (x5 : Int32) (h : mH), L_X12_turn_55 N n a0 x1 x2 x3 x4 x5 h = some q → MW X y_X12_turn 8 55 [(0, .ref a0), (1, .int x1), (2, .int x2), (3, .int x3), (4, .int x4), (5, .int x5)] [] h (some (.int q.1)) q.2 := by
  intro n
  induction n with
  | zero => intro a0 x1 x2 x3 x4 x5 h hf; cases hf
  | succ n ih =>
    intro a0 x1 x2 x3 x4 x5 h hf
    refine ev_ok (o := 12) (ini := false) (Cl := C_X12_turn N) (Rc := RcI) (B := B_X12_turn) (K := fun pc ls st g => kb pc 55 (lgr 0 ls fun a0 => lgi 1 ls fun x1 => lgi 2 ls fun x2 => lgi 3 ls fun x3 => lgi 4 ls fun x4 => lgi 5 ls fun x5 => pe st (L_X12_turn_55 N n a0 x1 x2 x3 x4 x5 g)) (none)) rfl (fun e => by cases e) (by decide) (rcI_ok rfl) ?_ (co_X12_turn N q) lb_X12_turn 3000 55 S_X12_turn_55 _ _ h ls_X12_turn_55 hf
    intro pc ls st g e
    rcases kb_s e with ⟨rfl, e⟩ | e
    · obtain ⟨a0, e0, f0⟩ := lgr_s e
      obtain ⟨x1, e1, f1⟩ := lgi_s f0
      obtain ⟨x2, e2, f2⟩ := lgi_s f1
      obtain ⟨x3, e3, f3⟩ := lgi_s f2
      obtain ⟨x4, e4, f4⟩ := lgi_s f3
      obtain ⟨x5, e5, f5⟩ := lgi_s f4
      obtain ⟨qe, fe⟩ := pe_s f5
      subst qe
      exact MW.sub (List.forall_mem_cons.mpr ⟨lg_mem e0, List.forall_mem_cons.mpr ⟨lg_mem e1, List.forall_mem_cons.mpr ⟨lg_mem e2, List.forall_mem_cons.mpr ⟨lg_mem e3, List.forall_mem_cons.mpr ⟨lg_mem e4, List.forall_mem_cons.mpr ⟨lg_mem e5, fun _ h => absurd h List.not_mem_nil⟩⟩⟩⟩⟩⟩) (ih a0 x1 x2 x3 x4 x5 g fe)
    cases e
set_option maxRecDepth 100000 in
theorem m_X12_turn (N : Nat) {a0 : Nat} {x1 : Int32} {h : mH} {q : Int32 × mH} (hf : f_X12_turn N a0 x1 h = some q) : MM y_X12_turn 8 [.ref a0, .int x1] h (some (.int q.1)) q.2 := by
  refine MM.of (mFx (j := 279) rfl).2.2.2.1 (Nat.le_of_ble_eq_true rfl) (fun X => ?_)
  refine ev_ok (o := 12) (ini := false) (Cl := C_X12_turn N) (Rc := RcI) (B := B_X12_turn) (K := fun pc ls st g => kb pc 55 (lgr 0 ls fun a0 => lgi 1 ls fun x1 => lgi 2 ls fun x2 => lgi 3 ls fun x3 => lgi 4 ls fun x4 => lgi 5 ls fun x5 => pe st (L_X12_turn_55 N N a0 x1 x2 x3 x4 x5 g)) (none)) rfl (fun e => by cases e) (by decide) (rcI_ok rfl) ?_ (co_X12_turn N q) lb_X12_turn 3000 0 S_X12_turn_0 _ _ h ls_X12_turn_0 hf
  intro pc ls st g e
  rcases kb_s e with ⟨rfl, e⟩ | e
  · obtain ⟨a0, e0, f0⟩ := lgr_s e
    obtain ⟨x1, e1, f1⟩ := lgi_s f0
    obtain ⟨x2, e2, f2⟩ := lgi_s f1
    obtain ⟨x3, e3, f3⟩ := lgi_s f2
    obtain ⟨x4, e4, f4⟩ := lgi_s f3
    obtain ⟨x5, e5, f5⟩ := lgi_s f4
    obtain ⟨qe, fe⟩ := pe_s f5
    subst qe
    exact MW.sub (List.forall_mem_cons.mpr ⟨lg_mem e0, List.forall_mem_cons.mpr ⟨lg_mem e1, List.forall_mem_cons.mpr ⟨lg_mem e2, List.forall_mem_cons.mpr ⟨lg_mem e3, List.forall_mem_cons.mpr ⟨lg_mem e4, List.forall_mem_cons.mpr ⟨lg_mem e5, fun _ h => absurd h List.not_mem_nil⟩⟩⟩⟩⟩⟩) (t_X12_turn_55 N N a0 x1 x2 x3 x4 x5 g fe)
  cases e
def L_X12_spiral_82 (N : Nat) (k65 : Nat → Int32 → Int32 → Int32 → Int32 → mH → Option (Int32 × mH)) : Nat → Nat → Int32 → Int32 → Int32 → Int32 → Int32 → Int32 → mH → Option (Int32 × mH)
  | 0, _, _, _, _, _, _, _, _ => none
  | n + 1, a0, x1, x2, x3, x4, x5, x6, h =>
    (gR h 12 a0 2).bind fun v1 =>
    (ldI 0 h v1 (jI 0)).bind fun v2 =>
    if x6 < v2 then
      if x5 = 0 then
        if x5 = 0 then
          let w3 := iAdd x4 (jI 1)
          k65 a0 x1 x2 x3 w3 h
        else
          some (x4, h)
      else
        (rcv h 12 a0).bind fun _ =>
        (f_X12_indexAt N a0 x1 x2 (iAdd x3 (jI 1)) x6 h).bind fun p4 =>
        (rcv p4.2 12 a0).bind fun _ =>
        (f_X12_isOver N a0 x1 x2 p4.1 p4.2).bind fun p5 =>
        (gR p5.2 12 a0 2).bind fun v6 =>
        (ldI 0 p5.2 v6 (jI 0)).bind fun v7 =>
        (f_X12_round N (iSub x6 x4) v7 p5.2).bind fun p8 =>
        (rcv p8.2 12 a0).bind fun _ =>
        (f_X12_indexAt N a0 x1 x2 x3 p8.1 p8.2).bind fun p9 =>
        (rcv p9.2 12 a0).bind fun _ =>
        (f_X12_isOver N a0 x1 x2 p9.1 p9.2).bind fun p10 =>
        if p5.1 = p10.1 then
          let w11 := iAdd x6 (jI 1)
          L_X12_spiral_82 N k65 n a0 x1 x2 x3 x4 (jI 1) w11 p10.2
        else
          let w12 := iAdd x6 (jI 1)
          L_X12_spiral_82 N k65 n a0 x1 x2 x3 x4 (jI 0) w12 p10.2
    else
      if x5 = 0 then
        let w13 := iAdd x4 (jI 1)
        k65 a0 x1 x2 x3 w13 h
      else
        some (x4, h)
def L_X12_spiral_65 (N : Nat) : Nat → Nat → Int32 → Int32 → Int32 → Int32 → mH → Option (Int32 × mH)
  | 0, _, _, _, _, _, _ => none
  | n + 1, a0, x1, x2, x3, x4, h =>
    (gR h 12 a0 2).bind fun v1 =>
    (ldI 0 h v1 (jI 0)).bind fun v2 =>
    if x4 < v2 then
      L_X12_spiral_82 N (L_X12_spiral_65 N n) N a0 x1 x2 x3 x4 (jI 1) (jI 0) h
    else
      some (jI (-1), h)
def f_X12_spiral (N : Nat) (a0 : Nat) (x1 : Int32) (x2 : Int32) (x3 : Int32) (h : mH) : Option (Int32 × mH) :=
  (pV h 12 a0 0 (.int (jI 0))).bind fun h1 =>
  (rcv h1 12 a0).bind fun _ =>
  (f_X12_isBand N a0 x1 h1).bind fun p2 =>
  if p2.1 = 0 then
    (rcv p2.2 12 a0).bind fun _ =>
    (f_X12_no N a0 (jI (-2)) p2.2).bind fun p3 =>
    some (p3.1, p3.2)
  else
    (gR p2.2 12 a0 2).bind fun v4 =>
    (ldI 0 p2.2 v4 (iAdd (jI 27) x1)).bind fun v5 =>
    (f_X12_within N x2.toInt64 (jL 0) ((iSub v5 (jI 1)).toInt64) p2.2).bind fun p6 =>
    if p6.1 = 0 then
      (rcv p6.2 12 a0).bind fun _ =>
      (f_X12_no N a0 (jI (-2)) p6.2).bind fun p7 =>
      some (p7.1, p7.2)
    else
      (gR p6.2 12 a0 2).bind fun v8 =>
      (ldI 0 p6.2 v8 (iAdd (jI 51) x1)).bind fun v9 =>
      (f_X12_within N x3.toInt64 (jL 0) ((iSub v9 (jI 2)).toInt64) p6.2).bind fun p10 =>
      if p10.1 = 0 then
        (rcv p10.2 12 a0).bind fun _ =>
        (f_X12_no N a0 (jI (-2)) p10.2).bind fun p11 =>
        some (p11.1, p11.2)
      else
        L_X12_spiral_65 N N a0 x1 x2 x3 (jI 0) p10.2
def y_X12_spiral : mM := (yX12_spiral, cX12_spiral, 7, (some .int))
def B_X12_spiral : List (Nat × List mI) := [(55, [(.aload_n 0, 1, [0], []), (.bipush (-2), 2, [], [-2]), (.invokevirtual 84, 3, [0, 224, 1, 12, 267], []), (.ireturn, 1, [], [])]), (62, [(.iconst 0, 1, [], [0]), (.istore 4, 2, [4], [])]), (149, [(.iconst 0, 1, [], [0])]), (150, [(.istore 5, 2, [5], []), (.iinc 6 1, 3, [6], [1]), (.goto (-73), 3, [82], [])]), (158, [(.iload 5, 2, [5], []), (.ifCond .eq 6, 3, [166], []), (.iload 4, 2, [4], []), (.ireturn, 1, [], [])]), (166, [(.iinc 4 1, 3, [4], [1]), (.goto (-104), 3, [65], [])]), (172, [(.iconst (-1), 1, [], [-1]), (.ireturn, 1, [], [])])]
def S_X12_spiral_0 : List mI := [(.aload_n 0, 1, [0], []), (.iconst 0, 1, [], [0]), (.putfield 1, 3, [12, 0, 0, 126], []), (.aload_n 0, 1, [0], []), (.iload_n 1, 1, [1], []), (.invokevirtual 181, 3, [0, 247, 1, 12, 289], []), (.ifCond .eq 45, 3, [55], []), (.iload_n 2, 1, [2], []), (.i2l, 1, [], []), (.lconst 0, 1, [], [0]), (.aload_n 0, 1, [0], []), (.getfield 17, 3, [12, 2, 2, 128], []), (.bipush 27, 2, [], [27]), (.iload_n 1, 1, [1], []), (.iadd, 1, [], []), (.iaload, 1, [0], []), (.iconst 1, 1, [], [1]), (.isub, 1, [], []), (.i2l, 1, [], []), (.invokestatic 147, 3, [1, 225, 3, 0, 269], []), (.ifCond .eq 24, 3, [55], []), (.iload_n 3, 1, [3], []), (.i2l, 1, [], []), (.lconst 0, 1, [], [0]), (.aload_n 0, 1, [0], []), (.getfield 17, 3, [12, 2, 2, 128], []), (.bipush 51, 2, [], [51]), (.iload_n 1, 1, [1], []), (.iadd, 1, [], []), (.iaload, 1, [0], []), (.iconst 2, 1, [], [2]), (.isub, 1, [], []), (.i2l, 1, [], []), (.invokestatic 147, 3, [1, 225, 3, 0, 269], []), (.ifCond .ne 10, 3, [62], [])]
def S_X12_spiral_65 : List mI := [(.iload 4, 2, [4], []), (.aload_n 0, 1, [0], []), (.getfield 17, 3, [12, 2, 2, 128], []), (.iconst 0, 1, [], [0]), (.iaload, 1, [0], []), (.if_icmp .ge 99, 3, [172], []), (.iconst 1, 1, [], [1]), (.istore 5, 2, [5], []), (.iconst 0, 1, [], [0]), (.istore 6, 2, [6], [])]
def S_X12_spiral_82 : List mI := [(.iload 6, 2, [6], []), (.aload_n 0, 1, [0], []), (.getfield 17, 3, [12, 2, 2, 128], []), (.iconst 0, 1, [], [0]), (.iaload, 1, [0], []), (.if_icmp .ge 68, 3, [158], []), (.iload 5, 2, [5], []), (.ifCond .eq 63, 3, [158], []), (.aload_n 0, 1, [0], []), (.iload_n 1, 1, [1], []), (.iload_n 2, 1, [2], []), (.aload_n 0, 1, [0], []), (.iload_n 1, 1, [1], []), (.iload_n 2, 1, [2], []), (.iload_n 3, 1, [3], []), (.iconst 1, 1, [], [1]), (.iadd, 1, [], []), (.iload 6, 2, [6], []), (.invokevirtual 231, 3, [0, 265, 4, 12, 308], []), (.invokevirtual 225, 3, [0, 256, 3, 12, 301], []), (.aload_n 0, 1, [0], []), (.iload_n 1, 1, [1], []), (.iload_n 2, 1, [2], []), (.aload_n 0, 1, [0], []), (.iload_n 1, 1, [1], []), (.iload_n 2, 1, [2], []), (.iload_n 3, 1, [3], []), (.iload 6, 2, [6], []), (.iload 4, 2, [4], []), (.isub, 1, [], []), (.aload_n 0, 1, [0], []), (.getfield 17, 3, [12, 2, 2, 128], []), (.iconst 0, 1, [], [0]), (.iaload, 1, [0], []), (.invokestatic 191, 3, [1, 253, 2, 0, 300], []), (.invokevirtual 231, 3, [0, 265, 4, 12, 308], []), (.invokevirtual 225, 3, [0, 256, 3, 12, 301], []), (.if_icmp .ne 7, 3, [149], []), (.iconst 1, 1, [], [1]), (.goto 4, 3, [150], [])]
theorem lb_X12_spiral : B_X12_spiral.all (fun b => lst y_X12_spiral.2.1 12 y_X12_spiral.2.2.1 false b.1 b.2) = true := by decide +kernel
theorem ls_X12_spiral_0 : lst y_X12_spiral.2.1 12 y_X12_spiral.2.2.1 false 0 S_X12_spiral_0 = true := by decide +kernel
theorem ls_X12_spiral_65 : lst y_X12_spiral.2.1 12 y_X12_spiral.2.2.1 false 65 S_X12_spiral_65 = true := by decide +kernel
theorem ls_X12_spiral_82 : lst y_X12_spiral.2.1 12 y_X12_spiral.2.2.1 false 82 S_X12_spiral_82 = true := by decide +kernel
def C_X12_spiral (N : Nat) : Nat → List Value → mH → (Option Value → mH → Option (Int32 × mH)) → Option (Int32 × mH) := fun j as g k => kb j 247 (pr1 as fun b0 as => pp1 as fun b1 as => pe as ((f_X12_isBand N b0 b1 g).bind fun p => k (some (.int p.1)) p.2)) (kb j 225 (pl1 as fun b0 as => pl1 as fun b1 as => pl1 as fun b2 as => pe as ((f_X12_within N b0 b1 b2 g).bind fun p => k (some (.int p.1)) p.2)) (kb j 224 (pr1 as fun b0 as => pp1 as fun b1 as => pe as ((f_X12_no N b0 b1 g).bind fun p => k (some (.int p.1)) p.2)) (kb j 265 (pr1 as fun b0 as => pp1 as fun b1 as => pp1 as fun b2 as => pp1 as fun b3 as => pp1 as fun b4 as => pe as ((f_X12_indexAt N b0 b1 b2 b3 b4 g).bind fun p => k (some (.int p.1)) p.2)) (kb j 256 (pr1 as fun b0 as => pp1 as fun b1 as => pp1 as fun b2 as => pp1 as fun b3 as => pe as ((f_X12_isOver N b0 b1 b2 b3 g).bind fun p => k (some (.int p.1)) p.2)) (kb j 253 (pp1 as fun b0 as => pp1 as fun b1 as => pe as ((f_X12_round N b0 b1 g).bind fun p => k (some (.int p.1)) p.2)) (none))))))
theorem co_X12_spiral (N : Nat) (q : Int32 × mH) : clOK 6 q (C_X12_spiral N) := by
  intro j as g k e
  rcases kb_s e with ⟨rfl, e⟩ | e
  · obtain ⟨b0, r0, q0, f0⟩ := pr1_s e
    obtain ⟨b1, r1, q1, f1⟩ := pp1_s f0
    obtain ⟨qe, fe⟩ := pe_s f1
    obtain ⟨p, e1, e2⟩ := bnd_s fe
    subst qe
    subst q1
    subst q0
    exact ⟨_, _, _, _, 5, rfl, (by decide), m_X12_isBand N e1, e2⟩
  rcases kb_s e with ⟨rfl, e⟩ | e
  · obtain ⟨b0, r0, q0, f0⟩ := pl1_s e
    obtain ⟨b1, r1, q1, f1⟩ := pl1_s f0
    obtain ⟨b2, r2, q2, f2⟩ := pl1_s f1
    obtain ⟨qe, fe⟩ := pe_s f2
    obtain ⟨p, e1, e2⟩ := bnd_s fe
    subst qe
    subst q2
    subst q1
    subst q0
    exact ⟨_, _, _, _, 4, rfl, (by decide), m_X12_within N e1, e2⟩
  rcases kb_s e with ⟨rfl, e⟩ | e
  · obtain ⟨b0, r0, q0, f0⟩ := pr1_s e
    obtain ⟨b1, r1, q1, f1⟩ := pp1_s f0
    obtain ⟨qe, fe⟩ := pe_s f1
    obtain ⟨p, e1, e2⟩ := bnd_s fe
    subst qe
    subst q1
    subst q0
    exact ⟨_, _, _, _, 4, rfl, (by decide), m_X12_no N e1, e2⟩
  rcases kb_s e with ⟨rfl, e⟩ | e
  · obtain ⟨b0, r0, q0, f0⟩ := pr1_s e
    obtain ⟨b1, r1, q1, f1⟩ := pp1_s f0
    obtain ⟨b2, r2, q2, f2⟩ := pp1_s f1
    obtain ⟨b3, r3, q3, f3⟩ := pp1_s f2
    obtain ⟨b4, r4, q4, f4⟩ := pp1_s f3
    obtain ⟨qe, fe⟩ := pe_s f4
    obtain ⟨p, e1, e2⟩ := bnd_s fe
    subst qe
    subst q4
    subst q3
    subst q2
    subst q1
    subst q0
    exact ⟨_, _, _, _, 5, rfl, (by decide), m_X12_indexAt N e1, e2⟩
  rcases kb_s e with ⟨rfl, e⟩ | e
  · obtain ⟨b0, r0, q0, f0⟩ := pr1_s e
    obtain ⟨b1, r1, q1, f1⟩ := pp1_s f0
    obtain ⟨b2, r2, q2, f2⟩ := pp1_s f1
    obtain ⟨b3, r3, q3, f3⟩ := pp1_s f2
    obtain ⟨qe, fe⟩ := pe_s f3
    obtain ⟨p, e1, e2⟩ := bnd_s fe
    subst qe
    subst q3
    subst q2
    subst q1
    subst q0
    exact ⟨_, _, _, _, 5, rfl, (by decide), m_X12_isOver N e1, e2⟩
  rcases kb_s e with ⟨rfl, e⟩ | e
  · obtain ⟨b0, r0, q0, f0⟩ := pp1_s e
    obtain ⟨b1, r1, q1, f1⟩ := pp1_s f0
    obtain ⟨qe, fe⟩ := pe_s f1
    obtain ⟨p, e1, e2⟩ := bnd_s fe
    subst qe
    subst q1
    subst q0
    exact ⟨_, _, _, _, 4, rfl, (by decide), m_X12_round N e1, e2⟩
  cases e
set_option maxRecDepth 100000 in
theorem t_X12_spiral_82 {X : Nat × (Nat → Int32)} (N : Nat) {q : Int32 × mH} {k65 : Nat → Int32 → Int32 → Int32 → Int32 → mH → Option (Int32 × mH)} (hk65 : ∀ (a0 : Nat) (x1 : Int32) (x2 : Int32) (x3 : Int32) (x4 : Int32) g, k65 a0 x1 x2 x3 x4 g = some q → MW X y_X12_spiral 6 65 [(0, .ref a0), (1, .int x1), (2, .int x2), (3, .int x3), (4, .int x4)] [] g (some (.int q.1)) q.2) : ∀ (n : Nat) (a0 : Nat) (x1 : Int32) (x2 : Int32) (x3 : Int32) (x4 : Int32) (x5 : Int32) (x6 : Int32) (h : mH), L_X12_spiral_82 N k65 n a0 x1 x2 x3 x4 x5 x6 h = some q → MW X y_X12_spiral 6 82 [(0, .ref a0), (1, .int x1), (2, .int x2), (3, .int x3), (4, .int x4), (5, .int x5), (6, .int x6)] [] h (some (.int q.1)) q.2 := by
  intro n
  induction n with
  | zero => intro a0 x1 x2 x3 x4 x5 x6 h hf; cases hf
  | succ n ih =>
    intro a0 x1 x2 x3 x4 x5 x6 h hf
    refine ev_ok (o := 12) (ini := false) (Cl := C_X12_spiral N) (Rc := RcI) (B := B_X12_spiral) (K := fun pc ls st g => kb pc 65 (lgr 0 ls fun a0 => lgi 1 ls fun x1 => lgi 2 ls fun x2 => lgi 3 ls fun x3 => lgi 4 ls fun x4 => pe st (k65 a0 x1 x2 x3 x4 g)) (kb pc 82 (lgr 0 ls fun a0 => lgi 1 ls fun x1 => lgi 2 ls fun x2 => lgi 3 ls fun x3 => lgi 4 ls fun x4 => lgi 5 ls fun x5 => lgi 6 ls fun x6 => pe st (L_X12_spiral_82 N k65 n a0 x1 x2 x3 x4 x5 x6 g)) (none))) rfl (fun e => by cases e) (by decide) (rcI_ok rfl) ?_ (co_X12_spiral N q) lb_X12_spiral 3000 82 S_X12_spiral_82 _ _ h ls_X12_spiral_82 hf
    intro pc ls st g e
    rcases kb_s e with ⟨rfl, e⟩ | e
    · obtain ⟨a0, e0, f0⟩ := lgr_s e
      obtain ⟨x1, e1, f1⟩ := lgi_s f0
      obtain ⟨x2, e2, f2⟩ := lgi_s f1
      obtain ⟨x3, e3, f3⟩ := lgi_s f2
      obtain ⟨x4, e4, f4⟩ := lgi_s f3
      obtain ⟨qe, fe⟩ := pe_s f4
      subst qe
      exact MW.sub (List.forall_mem_cons.mpr ⟨lg_mem e0, List.forall_mem_cons.mpr ⟨lg_mem e1, List.forall_mem_cons.mpr ⟨lg_mem e2, List.forall_mem_cons.mpr ⟨lg_mem e3, List.forall_mem_cons.mpr ⟨lg_mem e4, fun _ h => absurd h List.not_mem_nil⟩⟩⟩⟩⟩) (hk65 a0 x1 x2 x3 x4 g fe)
    rcases kb_s e with ⟨rfl, e⟩ | e
    · obtain ⟨a0, e0, f0⟩ := lgr_s e
      obtain ⟨x1, e1, f1⟩ := lgi_s f0
      obtain ⟨x2, e2, f2⟩ := lgi_s f1
      obtain ⟨x3, e3, f3⟩ := lgi_s f2
      obtain ⟨x4, e4, f4⟩ := lgi_s f3
      obtain ⟨x5, e5, f5⟩ := lgi_s f4
      obtain ⟨x6, e6, f6⟩ := lgi_s f5
      obtain ⟨qe, fe⟩ := pe_s f6
      subst qe
      exact MW.sub (List.forall_mem_cons.mpr ⟨lg_mem e0, List.forall_mem_cons.mpr ⟨lg_mem e1, List.forall_mem_cons.mpr ⟨lg_mem e2, List.forall_mem_cons.mpr ⟨lg_mem e3, List.forall_mem_cons.mpr ⟨lg_mem e4, List.forall_mem_cons.mpr ⟨lg_mem e5, List.forall_mem_cons.mpr ⟨lg_mem e6, fun _ h => absurd h List.not_mem_nil⟩⟩⟩⟩⟩⟩⟩) (ih a0 x1 x2 x3 x4 x5 x6 g fe)
    cases e
set_option maxRecDepth 100000 in
theorem t_X12_spiral_65 {X : Nat × (Nat → Int32)} (N : Nat) {q : Int32 × mH} : ∀ (n : Nat) (a0 : Nat) (x1 : Int32) (x2 : Int32) (x3 : Int32) (x4 : Int32) (h : mH), L_X12_spiral_65 N n a0 x1 x2 x3 x4 h = some q → MW X y_X12_spiral 6 65 [(0, .ref a0), (1, .int x1), (2, .int x2), (3, .int x3), (4, .int x4)] [] h (some (.int q.1)) q.2 := by
  intro n
  induction n with
  | zero => intro a0 x1 x2 x3 x4 h hf; cases hf
  | succ n ih =>
    intro a0 x1 x2 x3 x4 h hf
    refine ev_ok (o := 12) (ini := false) (Cl := C_X12_spiral N) (Rc := RcI) (B := B_X12_spiral) (K := fun pc ls st g => kb pc 82 (lgr 0 ls fun a0 => lgi 1 ls fun x1 => lgi 2 ls fun x2 => lgi 3 ls fun x3 => lgi 4 ls fun x4 => lgi 5 ls fun x5 => lgi 6 ls fun x6 => pe st (L_X12_spiral_82 N (L_X12_spiral_65 N n) N a0 x1 x2 x3 x4 x5 x6 g)) (none)) rfl (fun e => by cases e) (by decide) (rcI_ok rfl) ?_ (co_X12_spiral N q) lb_X12_spiral 3000 65 S_X12_spiral_65 _ _ h ls_X12_spiral_65 hf
    intro pc ls st g e
    rcases kb_s e with ⟨rfl, e⟩ | e
    · obtain ⟨a0, e0, f0⟩ := lgr_s e
      obtain ⟨x1, e1, f1⟩ := lgi_s f0
      obtain ⟨x2, e2, f2⟩ := lgi_s f1
      obtain ⟨x3, e3, f3⟩ := lgi_s f2
      obtain ⟨x4, e4, f4⟩ := lgi_s f3
      obtain ⟨x5, e5, f5⟩ := lgi_s f4
      obtain ⟨x6, e6, f6⟩ := lgi_s f5
      obtain ⟨qe, fe⟩ := pe_s f6
      subst qe
      exact MW.sub (List.forall_mem_cons.mpr ⟨lg_mem e0, List.forall_mem_cons.mpr ⟨lg_mem e1, List.forall_mem_cons.mpr ⟨lg_mem e2, List.forall_mem_cons.mpr ⟨lg_mem e3, List.forall_mem_cons.mpr ⟨lg_mem e4, List.forall_mem_cons.mpr ⟨lg_mem e5, List.forall_mem_cons.mpr ⟨lg_mem e6, fun _ h => absurd h List.not_mem_nil⟩⟩⟩⟩⟩⟩⟩) (t_X12_spiral_82 N (fun a0 x1 x2 x3 x4 g e => ih a0 x1 x2 x3 x4 g e) N a0 x1 x2 x3 x4 x5 x6 g fe)
    cases e
set_option maxRecDepth 100000 in
theorem m_X12_spiral (N : Nat) {a0 : Nat} {x1 : Int32} {x2 : Int32} {x3 : Int32} {h : mH} {q : Int32 × mH} (hf : f_X12_spiral N a0 x1 x2 x3 h = some q) : MM y_X12_spiral 6 [.ref a0, .int x1, .int x2, .int x3] h (some (.int q.1)) q.2 := by
  refine MM.of (mFx (j := 280) rfl).2.2.2.1 (Nat.le_of_ble_eq_true rfl) (fun X => ?_)
  refine ev_ok (o := 12) (ini := false) (Cl := C_X12_spiral N) (Rc := RcI) (B := B_X12_spiral) (K := fun pc ls st g => kb pc 65 (lgr 0 ls fun a0 => lgi 1 ls fun x1 => lgi 2 ls fun x2 => lgi 3 ls fun x3 => lgi 4 ls fun x4 => pe st (L_X12_spiral_65 N N a0 x1 x2 x3 x4 g)) (none)) rfl (fun e => by cases e) (by decide) (rcI_ok rfl) ?_ (co_X12_spiral N q) lb_X12_spiral 3000 0 S_X12_spiral_0 _ _ h ls_X12_spiral_0 hf
  intro pc ls st g e
  rcases kb_s e with ⟨rfl, e⟩ | e
  · obtain ⟨a0, e0, f0⟩ := lgr_s e
    obtain ⟨x1, e1, f1⟩ := lgi_s f0
    obtain ⟨x2, e2, f2⟩ := lgi_s f1
    obtain ⟨x3, e3, f3⟩ := lgi_s f2
    obtain ⟨x4, e4, f4⟩ := lgi_s f3
    obtain ⟨qe, fe⟩ := pe_s f4
    subst qe
    exact MW.sub (List.forall_mem_cons.mpr ⟨lg_mem e0, List.forall_mem_cons.mpr ⟨lg_mem e1, List.forall_mem_cons.mpr ⟨lg_mem e2, List.forall_mem_cons.mpr ⟨lg_mem e3, List.forall_mem_cons.mpr ⟨lg_mem e4, fun _ h => absurd h List.not_mem_nil⟩⟩⟩⟩⟩) (t_X12_spiral_65 N N a0 x1 x2 x3 x4 g fe)
  cases e
def L_X12_isRowAlike_3 (N : Nat) : Nat → Nat → Int32 → Int32 → Int32 → Int32 → mH → Option (Int32 × mH)
  | 0, _, _, _, _, _, _ => none
  | n + 1, a0, x1, x2, x3, x4, h =>
    (gR h 12 a0 2).bind fun v1 =>
    (ldI 0 h v1 (jI 0)).bind fun v2 =>
    if x4 < v2 then
      (rcv h 12 a0).bind fun _ =>
      (f_X12_isOverIn N a0 x1 x2 x4 h).bind fun p3 =>
      (rcv p3.2 12 a0).bind fun _ =>
      (f_X12_isOverIn N a0 x1 x3 x4 p3.2).bind fun p4 =>
      if p3.1 = p4.1 then
        let w5 := iAdd x4 (jI 1)
        L_X12_isRowAlike_3 N n a0 x1 x2 x3 w5 p4.2
      else
        some (jI 0, p4.2)
    else
      some (jI 1, h)
def f_X12_isRowAlike (N : Nat) (a0 : Nat) (x1 : Int32) (x2 : Int32) (x3 : Int32) (h : mH) : Option (Int32 × mH) :=
  L_X12_isRowAlike_3 N N a0 x1 x2 x3 (jI 0) h
def y_X12_isRowAlike : mM := (yX12_isRowAlike, cX12_isRowAlike, 5, (some .boolean))
def B_X12_isRowAlike : List (Nat × List mI) := [(35, [(.iinc 4 1, 3, [4], [1]), (.goto (-35), 3, [3], [])]), (41, [(.iconst 1, 1, [], [1]), (.ireturn, 1, [], [])])]
def S_X12_isRowAlike_0 : List mI := [(.iconst 0, 1, [], [0]), (.istore 4, 2, [4], [])]
def S_X12_isRowAlike_3 : List mI := [(.iload 4, 2, [4], []), (.aload_n 0, 1, [0], []), (.getfield 17, 3, [12, 2, 2, 128], []), (.iconst 0, 1, [], [0]), (.iaload, 1, [0], []), (.if_icmp .ge 30, 3, [41], []), (.aload_n 0, 1, [0], []), (.iload_n 1, 1, [1], []), (.iload_n 2, 1, [2], []), (.iload 4, 2, [4], []), (.invokevirtual 238, 3, [0, 267, 3, 12, 307], []), (.aload_n 0, 1, [0], []), (.iload_n 1, 1, [1], []), (.iload_n 3, 1, [3], []), (.iload 4, 2, [4], []), (.invokevirtual 238, 3, [0, 267, 3, 12, 307], []), (.if_icmp .eq 5, 3, [35], []), (.iconst 0, 1, [], [0]), (.ireturn, 1, [], [])]
theorem lb_X12_isRowAlike : B_X12_isRowAlike.all (fun b => lst y_X12_isRowAlike.2.1 12 y_X12_isRowAlike.2.2.1 false b.1 b.2) = true := by decide +kernel
theorem ls_X12_isRowAlike_0 : lst y_X12_isRowAlike.2.1 12 y_X12_isRowAlike.2.2.1 false 0 S_X12_isRowAlike_0 = true := by decide +kernel
theorem ls_X12_isRowAlike_3 : lst y_X12_isRowAlike.2.1 12 y_X12_isRowAlike.2.2.1 false 3 S_X12_isRowAlike_3 = true := by decide +kernel
def C_X12_isRowAlike (N : Nat) : Nat → List Value → mH → (Option Value → mH → Option (Int32 × mH)) → Option (Int32 × mH) := fun j as g k => kb j 267 (pr1 as fun b0 as => pp1 as fun b1 as => pp1 as fun b2 as => pp1 as fun b3 as => pe as ((f_X12_isOverIn N b0 b1 b2 b3 g).bind fun p => k (some (.int p.1)) p.2)) (none)
theorem co_X12_isRowAlike (N : Nat) (q : Int32 × mH) : clOK 7 q (C_X12_isRowAlike N) := by
  intro j as g k e
  rcases kb_s e with ⟨rfl, e⟩ | e
  · obtain ⟨b0, r0, q0, f0⟩ := pr1_s e
    obtain ⟨b1, r1, q1, f1⟩ := pp1_s f0
    obtain ⟨b2, r2, q2, f2⟩ := pp1_s f1
    obtain ⟨b3, r3, q3, f3⟩ := pp1_s f2
    obtain ⟨qe, fe⟩ := pe_s f3
    obtain ⟨p, e1, e2⟩ := bnd_s fe
    subst qe
    subst q3
    subst q2
    subst q1
    subst q0
    exact ⟨_, _, _, _, 6, rfl, (by decide), m_X12_isOverIn N e1, e2⟩
  cases e
set_option maxRecDepth 100000 in
theorem t_X12_isRowAlike_3 {X : Nat × (Nat → Int32)} (N : Nat) {q : Int32 × mH} : ∀ (n : Nat) (a0 : Nat) (x1 : Int32) (x2 : Int32) (x3 : Int32) (x4 : Int32) (h : mH), L_X12_isRowAlike_3 N n a0 x1 x2 x3 x4 h = some q → MW X y_X12_isRowAlike 7 3 [(0, .ref a0), (1, .int x1), (2, .int x2), (3, .int x3), (4, .int x4)] [] h (some (.int q.1)) q.2 := by
  intro n
  induction n with
  | zero => intro a0 x1 x2 x3 x4 h hf; cases hf
  | succ n ih =>
    intro a0 x1 x2 x3 x4 h hf
    refine ev_ok (o := 12) (ini := false) (Cl := C_X12_isRowAlike N) (Rc := RcZ) (B := B_X12_isRowAlike) (K := fun pc ls st g => kb pc 3 (lgr 0 ls fun a0 => lgi 1 ls fun x1 => lgi 2 ls fun x2 => lgi 3 ls fun x3 => lgi 4 ls fun x4 => pe st (L_X12_isRowAlike_3 N n a0 x1 x2 x3 x4 g)) (none)) rfl (fun e => by cases e) (by decide) (rcZ_ok rfl) ?_ (co_X12_isRowAlike N q) lb_X12_isRowAlike 3000 3 S_X12_isRowAlike_3 _ _ h ls_X12_isRowAlike_3 hf
    intro pc ls st g e
    rcases kb_s e with ⟨rfl, e⟩ | e
    · obtain ⟨a0, e0, f0⟩ := lgr_s e
      obtain ⟨x1, e1, f1⟩ := lgi_s f0
      obtain ⟨x2, e2, f2⟩ := lgi_s f1
      obtain ⟨x3, e3, f3⟩ := lgi_s f2
      obtain ⟨x4, e4, f4⟩ := lgi_s f3
      obtain ⟨qe, fe⟩ := pe_s f4
      subst qe
      exact MW.sub (List.forall_mem_cons.mpr ⟨lg_mem e0, List.forall_mem_cons.mpr ⟨lg_mem e1, List.forall_mem_cons.mpr ⟨lg_mem e2, List.forall_mem_cons.mpr ⟨lg_mem e3, List.forall_mem_cons.mpr ⟨lg_mem e4, fun _ h => absurd h List.not_mem_nil⟩⟩⟩⟩⟩) (ih a0 x1 x2 x3 x4 g fe)
    cases e
set_option maxRecDepth 100000 in
theorem m_X12_isRowAlike (N : Nat) {a0 : Nat} {x1 : Int32} {x2 : Int32} {x3 : Int32} {h : mH} {q : Int32 × mH} (hf : f_X12_isRowAlike N a0 x1 x2 x3 h = some q) : MM y_X12_isRowAlike 7 [.ref a0, .int x1, .int x2, .int x3] h (some (.int q.1)) q.2 := by
  refine MM.of (mFx (j := 281) rfl).2.2.2.1 (Nat.le_of_ble_eq_true rfl) (fun X => ?_)
  refine ev_ok (o := 12) (ini := false) (Cl := C_X12_isRowAlike N) (Rc := RcZ) (B := B_X12_isRowAlike) (K := fun pc ls st g => kb pc 3 (lgr 0 ls fun a0 => lgi 1 ls fun x1 => lgi 2 ls fun x2 => lgi 3 ls fun x3 => lgi 4 ls fun x4 => pe st (L_X12_isRowAlike_3 N N a0 x1 x2 x3 x4 g)) (none)) rfl (fun e => by cases e) (by decide) (rcZ_ok rfl) ?_ (co_X12_isRowAlike N q) lb_X12_isRowAlike 3000 0 S_X12_isRowAlike_0 _ _ h ls_X12_isRowAlike_0 hf
  intro pc ls st g e
  rcases kb_s e with ⟨rfl, e⟩ | e
  · obtain ⟨a0, e0, f0⟩ := lgr_s e
    obtain ⟨x1, e1, f1⟩ := lgi_s f0
    obtain ⟨x2, e2, f2⟩ := lgi_s f1
    obtain ⟨x3, e3, f3⟩ := lgi_s f2
    obtain ⟨x4, e4, f4⟩ := lgi_s f3
    obtain ⟨qe, fe⟩ := pe_s f4
    subst qe
    exact MW.sub (List.forall_mem_cons.mpr ⟨lg_mem e0, List.forall_mem_cons.mpr ⟨lg_mem e1, List.forall_mem_cons.mpr ⟨lg_mem e2, List.forall_mem_cons.mpr ⟨lg_mem e3, List.forall_mem_cons.mpr ⟨lg_mem e4, fun _ h => absurd h List.not_mem_nil⟩⟩⟩⟩⟩) (t_X12_isRowAlike_3 N N a0 x1 x2 x3 x4 g fe)
  cases e
def J_X12_repeats_93 (N : Nat) (k50 : Nat → Int32 → Int32 → Int32 → mH → Option (Int32 × mH)) (a0 : Nat) (x1 : Int32) (x2 : Int32) (x3 : Int32) (x4 : Int32) (h : mH) : Option (Int32 × mH) :=
  if x4 = 0 then
    (gR h 12 a0 2).bind fun v1 =>
    (ldI 0 h v1 (iAdd (jI 27) x1)).bind fun v2 =>
    let w3 := iAdd x3 v2
    k50 a0 x1 x2 w3 h
  else
    some (x3, h)
def L_X12_repeats_61 (N : Nat) (k50 : Nat → Int32 → Int32 → Int32 → mH → Option (Int32 × mH)) : Nat → Nat → Int32 → Int32 → Int32 → Int32 → Int32 → mH → Option (Int32 × mH)
  | 0, _, _, _, _, _, _, _ => none
  | n + 1, a0, x1, x2, x3, x4, x5, h =>
    if (iAdd x5 x3) < x2 then
      if x4 = 0 then
        J_X12_repeats_93 N k50 a0 x1 x2 x3 x4 h
      else
        (rcv h 12 a0).bind fun _ =>
        (f_X12_isRowAlike N a0 x1 x5 (iAdd x5 x3) h).bind fun p1 =>
        let w2 := iAdd x5 (jI 1)
        L_X12_repeats_61 N k50 n a0 x1 x2 x3 p1.1 w2 p1.2
    else
      J_X12_repeats_93 N k50 a0 x1 x2 x3 x4 h
def L_X12_repeats_50 (N : Nat) : Nat → Nat → Int32 → Int32 → Int32 → mH → Option (Int32 × mH)
  | 0, _, _, _, _, _ => none
  | n + 1, a0, x1, x2, x3, h =>
    if x3 < x2 then
      L_X12_repeats_61 N (L_X12_repeats_50 N n) N a0 x1 x2 x3 (jI 1) (jI 0) h
    else
      some (x2, h)
def f_X12_repeats (N : Nat) (a0 : Nat) (x1 : Int32) (h : mH) : Option (Int32 × mH) :=
  (pV h 12 a0 0 (.int (jI 0))).bind fun h1 =>
  (rcv h1 12 a0).bind fun _ =>
  (f_X12_isBand N a0 x1 h1).bind fun p2 =>
  if p2.1 = 0 then
    (rcv p2.2 12 a0).bind fun _ =>
    (f_X12_no N a0 (jI (-2)) p2.2).bind fun p3 =>
    some (p3.1, p3.2)
  else
    (gR p2.2 12 a0 2).bind fun v4 =>
    (ldI 0 p2.2 v4 (iAdd (jI 27) x1)).bind fun v5 =>
    (gR p2.2 12 a0 2).bind fun v6 =>
    (ldI 0 p2.2 v6 (iAdd (jI 51) x1)).bind fun v7 =>
    let w8 := iMul v5 v7
    (gR p2.2 12 a0 2).bind fun v9 =>
    (ldI 0 p2.2 v9 (iAdd (jI 27) x1)).bind fun v10 =>
    L_X12_repeats_50 N N a0 x1 w8 v10 p2.2
def y_X12_repeats : mM := (yX12_repeats, cX12_repeats, 6, (some .int))
def B_X12_repeats : List (Nat × List mI) := [(20, [(.aload_n 0, 1, [0], []), (.getfield 17, 3, [12, 2, 2, 128], []), (.bipush 27, 2, [], [27]), (.iload_n 1, 1, [1], []), (.iadd, 1, [], []), (.iaload, 1, [0], []), (.aload_n 0, 1, [0], []), (.getfield 17, 3, [12, 2, 2, 128], []), (.bipush 51, 2, [], [51]), (.iload_n 1, 1, [1], []), (.iadd, 1, [], []), (.iaload, 1, [0], []), (.imul, 1, [], []), (.istore_n 2, 1, [2], []), (.aload_n 0, 1, [0], []), (.getfield 17, 3, [12, 2, 2, 128], []), (.bipush 27, 2, [], [27]), (.iload_n 1, 1, [1], []), (.iadd, 1, [], []), (.iaload, 1, [0], []), (.istore_n 3, 1, [3], [])]), (100, [(.iload_n 3, 1, [3], []), (.aload_n 0, 1, [0], []), (.getfield 17, 3, [12, 2, 2, 128], []), (.bipush 27, 2, [], [27]), (.iload_n 1, 1, [1], []), (.iadd, 1, [], []), (.iaload, 1, [0], []), (.iadd, 1, [], []), (.istore_n 3, 1, [3], []), (.goto (-62), 3, [50], [])]), (115, [(.iload_n 2, 1, [2], []), (.ireturn, 1, [], [])])]
def S_X12_repeats_0 : List mI := [(.aload_n 0, 1, [0], []), (.iconst 0, 1, [], [0]), (.putfield 1, 3, [12, 0, 0, 126], []), (.aload_n 0, 1, [0], []), (.iload_n 1, 1, [1], []), (.invokevirtual 181, 3, [0, 247, 1, 12, 289], []), (.ifCond .ne 10, 3, [20], []), (.aload_n 0, 1, [0], []), (.bipush (-2), 2, [], [-2]), (.invokevirtual 84, 3, [0, 224, 1, 12, 267], []), (.ireturn, 1, [], [])]
def S_X12_repeats_50 : List mI := [(.iload_n 3, 1, [3], []), (.iload_n 2, 1, [2], []), (.if_icmp .ge 63, 3, [115], []), (.iconst 1, 1, [], [1]), (.istore 4, 2, [4], []), (.iconst 0, 1, [], [0]), (.istore 5, 2, [5], [])]
def S_X12_repeats_61 : List mI := [(.iload 5, 2, [5], []), (.iload_n 3, 1, [3], []), (.iadd, 1, [], []), (.iload_n 2, 1, [2], []), (.if_icmp .ge 27, 3, [93], []), (.iload 4, 2, [4], []), (.ifCond .eq 22, 3, [93], []), (.aload_n 0, 1, [0], []), (.iload_n 1, 1, [1], []), (.iload 5, 2, [5], []), (.iload 5, 2, [5], []), (.iload_n 3, 1, [3], []), (.iadd, 1, [], []), (.invokevirtual 253, 3, [0, 281, 3, 12, 322], []), (.istore 4, 2, [4], []), (.iinc 5 1, 3, [5], [1]), (.goto (-29), 3, [61], [])]
def S_X12_repeats_93 : List mI := [(.iload 4, 2, [4], []), (.ifCond .eq 5, 3, [100], []), (.iload_n 3, 1, [3], []), (.ireturn, 1, [], [])]
theorem lb_X12_repeats : B_X12_repeats.all (fun b => lst y_X12_repeats.2.1 12 y_X12_repeats.2.2.1 false b.1 b.2) = true := by decide +kernel
theorem ls_X12_repeats_0 : lst y_X12_repeats.2.1 12 y_X12_repeats.2.2.1 false 0 S_X12_repeats_0 = true := by decide +kernel
theorem ls_X12_repeats_50 : lst y_X12_repeats.2.1 12 y_X12_repeats.2.2.1 false 50 S_X12_repeats_50 = true := by decide +kernel
theorem ls_X12_repeats_61 : lst y_X12_repeats.2.1 12 y_X12_repeats.2.2.1 false 61 S_X12_repeats_61 = true := by decide +kernel
theorem ls_X12_repeats_93 : lst y_X12_repeats.2.1 12 y_X12_repeats.2.2.1 false 93 S_X12_repeats_93 = true := by decide +kernel
def C_X12_repeats (N : Nat) : Nat → List Value → mH → (Option Value → mH → Option (Int32 × mH)) → Option (Int32 × mH) := fun j as g k => kb j 247 (pr1 as fun b0 as => pp1 as fun b1 as => pe as ((f_X12_isBand N b0 b1 g).bind fun p => k (some (.int p.1)) p.2)) (kb j 224 (pr1 as fun b0 as => pp1 as fun b1 as => pe as ((f_X12_no N b0 b1 g).bind fun p => k (some (.int p.1)) p.2)) (kb j 281 (pr1 as fun b0 as => pp1 as fun b1 as => pp1 as fun b2 as => pp1 as fun b3 as => pe as ((f_X12_isRowAlike N b0 b1 b2 b3 g).bind fun p => k (some (.int p.1)) p.2)) (none)))
theorem co_X12_repeats (N : Nat) (q : Int32 × mH) : clOK 8 q (C_X12_repeats N) := by
  intro j as g k e
  rcases kb_s e with ⟨rfl, e⟩ | e
  · obtain ⟨b0, r0, q0, f0⟩ := pr1_s e
    obtain ⟨b1, r1, q1, f1⟩ := pp1_s f0
    obtain ⟨qe, fe⟩ := pe_s f1
    obtain ⟨p, e1, e2⟩ := bnd_s fe
    subst qe
    subst q1
    subst q0
    exact ⟨_, _, _, _, 5, rfl, (by decide), m_X12_isBand N e1, e2⟩
  rcases kb_s e with ⟨rfl, e⟩ | e
  · obtain ⟨b0, r0, q0, f0⟩ := pr1_s e
    obtain ⟨b1, r1, q1, f1⟩ := pp1_s f0
    obtain ⟨qe, fe⟩ := pe_s f1
    obtain ⟨p, e1, e2⟩ := bnd_s fe
    subst qe
    subst q1
    subst q0
    exact ⟨_, _, _, _, 4, rfl, (by decide), m_X12_no N e1, e2⟩
  rcases kb_s e with ⟨rfl, e⟩ | e
  · obtain ⟨b0, r0, q0, f0⟩ := pr1_s e
    obtain ⟨b1, r1, q1, f1⟩ := pp1_s f0
    obtain ⟨b2, r2, q2, f2⟩ := pp1_s f1
    obtain ⟨b3, r3, q3, f3⟩ := pp1_s f2
    obtain ⟨qe, fe⟩ := pe_s f3
    obtain ⟨p, e1, e2⟩ := bnd_s fe
    subst qe
    subst q3
    subst q2
    subst q1
    subst q0
    exact ⟨_, _, _, _, 7, rfl, (by decide), m_X12_isRowAlike N e1, e2⟩
  cases e
set_option maxRecDepth 100000 in
theorem t_X12_repeats_93 {X : Nat × (Nat → Int32)} (N : Nat) {q : Int32 × mH} {k50 : Nat → Int32 → Int32 → Int32 → mH → Option (Int32 × mH)} (hk50 : ∀ (a0 : Nat) (x1 : Int32) (x2 : Int32) (x3 : Int32) g, k50 a0 x1 x2 x3 g = some q → MW X y_X12_repeats 8 50 [(0, .ref a0), (1, .int x1), (2, .int x2), (3, .int x3)] [] g (some (.int q.1)) q.2) (a0 : Nat) (x1 : Int32) (x2 : Int32) (x3 : Int32) (x4 : Int32) (h : mH) (hf : J_X12_repeats_93 N k50 a0 x1 x2 x3 x4 h = some q) : MW X y_X12_repeats 8 93 [(0, .ref a0), (1, .int x1), (2, .int x2), (3, .int x3), (4, .int x4)] [] h (some (.int q.1)) q.2 := by
  refine ev_ok (o := 12) (ini := false) (Cl := C_X12_repeats N) (Rc := RcI) (B := B_X12_repeats) (K := fun pc ls st g => kb pc 50 (lgr 0 ls fun a0 => lgi 1 ls fun x1 => lgi 2 ls fun x2 => lgi 3 ls fun x3 => pe st (k50 a0 x1 x2 x3 g)) (none)) rfl (fun e => by cases e) (by decide) (rcI_ok rfl) ?_ (co_X12_repeats N q) lb_X12_repeats 3000 93 S_X12_repeats_93 _ _ h ls_X12_repeats_93 hf
  intro pc ls st g e
  rcases kb_s e with ⟨rfl, e⟩ | e
  · obtain ⟨a0, e0, f0⟩ := lgr_s e
    obtain ⟨x1, e1, f1⟩ := lgi_s f0
    obtain ⟨x2, e2, f2⟩ := lgi_s f1
    obtain ⟨x3, e3, f3⟩ := lgi_s f2
    obtain ⟨qe, fe⟩ := pe_s f3
    subst qe
    exact MW.sub (List.forall_mem_cons.mpr ⟨lg_mem e0, List.forall_mem_cons.mpr ⟨lg_mem e1, List.forall_mem_cons.mpr ⟨lg_mem e2, List.forall_mem_cons.mpr ⟨lg_mem e3, fun _ h => absurd h List.not_mem_nil⟩⟩⟩⟩) (hk50 a0 x1 x2 x3 g fe)
  cases e
set_option maxRecDepth 100000 in
theorem t_X12_repeats_61 {X : Nat × (Nat → Int32)} (N : Nat) {q : Int32 × mH} {k50 : Nat → Int32 → Int32 → Int32 → mH → Option (Int32 × mH)} (hk50 : ∀ (a0 : Nat) (x1 : Int32) (x2 : Int32) (x3 : Int32) g, k50 a0 x1 x2 x3 g = some q → MW X y_X12_repeats 8 50 [(0, .ref a0), (1, .int x1), (2, .int x2), (3, .int x3)] [] g (some (.int q.1)) q.2) : ∀ (n : Nat) (a0 : Nat) (x1 : Int32) (x2 : Int32) (x3 : Int32) (x4 : Int32) (x5 : Int32) (h : mH), L_X12_repeats_61 N k50 n a0 x1 x2 x3 x4 x5 h = some q → MW X y_X12_repeats 8 61 [(0, .ref a0), (1, .int x1), (2, .int x2), (3, .int x3), (4, .int x4), (5, .int x5)] [] h (some (.int q.1)) q.2 := by
  intro n
  induction n with
  | zero => intro a0 x1 x2 x3 x4 x5 h hf; cases hf
  | succ n ih =>
    intro a0 x1 x2 x3 x4 x5 h hf
    refine ev_ok (o := 12) (ini := false) (Cl := C_X12_repeats N) (Rc := RcI) (B := B_X12_repeats) (K := fun pc ls st g => kb pc 61 (lgr 0 ls fun a0 => lgi 1 ls fun x1 => lgi 2 ls fun x2 => lgi 3 ls fun x3 => lgi 4 ls fun x4 => lgi 5 ls fun x5 => pe st (L_X12_repeats_61 N k50 n a0 x1 x2 x3 x4 x5 g)) (kb pc 93 (lgr 0 ls fun a0 => lgi 1 ls fun x1 => lgi 2 ls fun x2 => lgi 3 ls fun x3 => lgi 4 ls fun x4 => pe st (J_X12_repeats_93 N k50 a0 x1 x2 x3 x4 g)) (none))) rfl (fun e => by cases e) (by decide) (rcI_ok rfl) ?_ (co_X12_repeats N q) lb_X12_repeats 3000 61 S_X12_repeats_61 _ _ h ls_X12_repeats_61 hf
    intro pc ls st g e
    rcases kb_s e with ⟨rfl, e⟩ | e
    · obtain ⟨a0, e0, f0⟩ := lgr_s e
      obtain ⟨x1, e1, f1⟩ := lgi_s f0
      obtain ⟨x2, e2, f2⟩ := lgi_s f1
      obtain ⟨x3, e3, f3⟩ := lgi_s f2
      obtain ⟨x4, e4, f4⟩ := lgi_s f3
      obtain ⟨x5, e5, f5⟩ := lgi_s f4
      obtain ⟨qe, fe⟩ := pe_s f5
      subst qe
      exact MW.sub (List.forall_mem_cons.mpr ⟨lg_mem e0, List.forall_mem_cons.mpr ⟨lg_mem e1, List.forall_mem_cons.mpr ⟨lg_mem e2, List.forall_mem_cons.mpr ⟨lg_mem e3, List.forall_mem_cons.mpr ⟨lg_mem e4, List.forall_mem_cons.mpr ⟨lg_mem e5, fun _ h => absurd h List.not_mem_nil⟩⟩⟩⟩⟩⟩) (ih a0 x1 x2 x3 x4 x5 g fe)
    rcases kb_s e with ⟨rfl, e⟩ | e
    · obtain ⟨a0, e0, f0⟩ := lgr_s e
      obtain ⟨x1, e1, f1⟩ := lgi_s f0
      obtain ⟨x2, e2, f2⟩ := lgi_s f1
      obtain ⟨x3, e3, f3⟩ := lgi_s f2
      obtain ⟨x4, e4, f4⟩ := lgi_s f3
      obtain ⟨qe, fe⟩ := pe_s f4
      subst qe
      exact MW.sub (List.forall_mem_cons.mpr ⟨lg_mem e0, List.forall_mem_cons.mpr ⟨lg_mem e1, List.forall_mem_cons.mpr ⟨lg_mem e2, List.forall_mem_cons.mpr ⟨lg_mem e3, List.forall_mem_cons.mpr ⟨lg_mem e4, fun _ h => absurd h List.not_mem_nil⟩⟩⟩⟩⟩) (t_X12_repeats_93 N hk50 a0 x1 x2 x3 x4 g fe)
    cases e
set_option maxRecDepth 100000 in
theorem t_X12_repeats_50 {X : Nat × (Nat → Int32)} (N : Nat) {q : Int32 × mH} : ∀ (n : Nat) (a0 : Nat) (x1 : Int32) (x2 : Int32) (x3 : Int32) (h : mH), L_X12_repeats_50 N n a0 x1 x2 x3 h = some q → MW X y_X12_repeats 8 50 [(0, .ref a0), (1, .int x1), (2, .int x2), (3, .int x3)] [] h (some (.int q.1)) q.2 := by
  intro n
  induction n with
  | zero => intro a0 x1 x2 x3 h hf; cases hf
  | succ n ih =>
    intro a0 x1 x2 x3 h hf
    refine ev_ok (o := 12) (ini := false) (Cl := C_X12_repeats N) (Rc := RcI) (B := B_X12_repeats) (K := fun pc ls st g => kb pc 61 (lgr 0 ls fun a0 => lgi 1 ls fun x1 => lgi 2 ls fun x2 => lgi 3 ls fun x3 => lgi 4 ls fun x4 => lgi 5 ls fun x5 => pe st (L_X12_repeats_61 N (L_X12_repeats_50 N n) N a0 x1 x2 x3 x4 x5 g)) (none)) rfl (fun e => by cases e) (by decide) (rcI_ok rfl) ?_ (co_X12_repeats N q) lb_X12_repeats 3000 50 S_X12_repeats_50 _ _ h ls_X12_repeats_50 hf
    intro pc ls st g e
    rcases kb_s e with ⟨rfl, e⟩ | e
    · obtain ⟨a0, e0, f0⟩ := lgr_s e
      obtain ⟨x1, e1, f1⟩ := lgi_s f0
      obtain ⟨x2, e2, f2⟩ := lgi_s f1
      obtain ⟨x3, e3, f3⟩ := lgi_s f2
      obtain ⟨x4, e4, f4⟩ := lgi_s f3
      obtain ⟨x5, e5, f5⟩ := lgi_s f4
      obtain ⟨qe, fe⟩ := pe_s f5
      subst qe
      exact MW.sub (List.forall_mem_cons.mpr ⟨lg_mem e0, List.forall_mem_cons.mpr ⟨lg_mem e1, List.forall_mem_cons.mpr ⟨lg_mem e2, List.forall_mem_cons.mpr ⟨lg_mem e3, List.forall_mem_cons.mpr ⟨lg_mem e4, List.forall_mem_cons.mpr ⟨lg_mem e5, fun _ h => absurd h List.not_mem_nil⟩⟩⟩⟩⟩⟩) (t_X12_repeats_61 N (fun a0 x1 x2 x3 g e => ih a0 x1 x2 x3 g e) N a0 x1 x2 x3 x4 x5 g fe)
    cases e
set_option maxRecDepth 100000 in
theorem m_X12_repeats (N : Nat) {a0 : Nat} {x1 : Int32} {h : mH} {q : Int32 × mH} (hf : f_X12_repeats N a0 x1 h = some q) : MM y_X12_repeats 8 [.ref a0, .int x1] h (some (.int q.1)) q.2 := by
  refine MM.of (mFx (j := 282) rfl).2.2.2.1 (Nat.le_of_ble_eq_true rfl) (fun X => ?_)
  refine ev_ok (o := 12) (ini := false) (Cl := C_X12_repeats N) (Rc := RcI) (B := B_X12_repeats) (K := fun pc ls st g => kb pc 50 (lgr 0 ls fun a0 => lgi 1 ls fun x1 => lgi 2 ls fun x2 => lgi 3 ls fun x3 => pe st (L_X12_repeats_50 N N a0 x1 x2 x3 g)) (none)) rfl (fun e => by cases e) (by decide) (rcI_ok rfl) ?_ (co_X12_repeats N q) lb_X12_repeats 3000 0 S_X12_repeats_0 _ _ h ls_X12_repeats_0 hf
  intro pc ls st g e
  rcases kb_s e with ⟨rfl, e⟩ | e
  · obtain ⟨a0, e0, f0⟩ := lgr_s e
    obtain ⟨x1, e1, f1⟩ := lgi_s f0
    obtain ⟨x2, e2, f2⟩ := lgi_s f1
    obtain ⟨x3, e3, f3⟩ := lgi_s f2
    obtain ⟨qe, fe⟩ := pe_s f3
    subst qe
    exact MW.sub (List.forall_mem_cons.mpr ⟨lg_mem e0, List.forall_mem_cons.mpr ⟨lg_mem e1, List.forall_mem_cons.mpr ⟨lg_mem e2, List.forall_mem_cons.mpr ⟨lg_mem e3, fun _ h => absurd h List.not_mem_nil⟩⟩⟩⟩) (t_X12_repeats_50 N N a0 x1 x2 x3 g fe)
  cases e
def L_X12_colour_54 (N : Nat) (k37 : Nat → Int32 → Int32 → Int32 → Int32 → Int32 → Int32 → mH → Option (Int32 × mH)) : Nat → Nat → Int32 → Int32 → Int32 → Int32 → Int32 → Int32 → Int32 → Int32 → mH → Option (Int32 × mH)
  | 0, _, _, _, _, _, _, _, _, _, _ => none
  | n + 1, a0, x1, x2, x3, x4, x5, x6, x7, x8, h =>
    (gR h 12 a0 2).bind fun v1 =>
    (ldI 0 h v1 (iAdd (jI 27) x1)).bind fun v2 =>
    (gR h 12 a0 2).bind fun v3 =>
    (ldI 0 h v3 (iAdd (jI 51) x1)).bind fun v4 =>
    if x8 < (iMul v2 v4) then
      (gR h 12 a0 2).bind fun v5 =>
      (ldI 0 h v5 (iAdd (jI 27) x1)).bind fun v6 =>
      if v6 = 0 then none else
      (rcv h 12 a0).bind fun _ =>
      (f_X12_kindOf N a0 x1 (iRem x8 v6) h).bind fun p7 =>
      if p7.1 = x6 then
        (rcv p7.2 12 a0).bind fun _ =>
        (f_X12_isOverIn N a0 x1 x8 x2 p7.2).bind fun p8 =>
        if p8.1 = x3 then
          let w9 := iAdd x7 (jI 0)
          let w10 := iAdd x8 (jI 1)
          L_X12_colour_54 N k37 n a0 x1 x2 x3 x4 x5 x6 w9 w10 p8.2
        else
          let w11 := iAdd x7 (jI 1)
          let w12 := iAdd x8 (jI 1)
          L_X12_colour_54 N k37 n a0 x1 x2 x3 x4 x5 x6 w11 w12 p8.2
      else
        let w13 := iAdd x7 (jI 0)
        let w14 := iAdd x8 (jI 1)
        L_X12_colour_54 N k37 n a0 x1 x2 x3 x4 x5 x6 w13 w14 p7.2
    else
      if x5 < x7 then
        let w15 := iAdd x6 (jI 1)
        k37 a0 x1 x2 x3 x6 x7 w15 h
      else
        let w16 := iAdd x6 (jI 1)
        k37 a0 x1 x2 x3 x4 x5 w16 h
def L_X12_colour_37 (N : Nat) : Nat → Nat → Int32 → Int32 → Int32 → Int32 → Int32 → Int32 → mH → Option (Int32 × mH)
  | 0, _, _, _, _, _, _, _, _ => none
  | n + 1, a0, x1, x2, x3, x4, x5, x6, h =>
    (gR h 12 a0 2).bind fun v1 =>
    (ldI 0 h v1 (jI 1)).bind fun v2 =>
    if x6 < v2 then
      L_X12_colour_54 N (L_X12_colour_37 N n) N a0 x1 x2 x3 x4 x5 x6 (jI 0) (jI 0) h
    else
      some (x4, h)
def f_X12_colour (N : Nat) (a0 : Nat) (x1 : Int32) (x2 : Int32) (x3 : Int32) (h : mH) : Option (Int32 × mH) :=
  (pV h 12 a0 0 (.int (jI 0))).bind fun h1 =>
  (rcv h1 12 a0).bind fun _ =>
  (f_X12_isBand N a0 x1 h1).bind fun p2 =>
  if p2.1 = 0 then
    (rcv p2.2 12 a0).bind fun _ =>
    (f_X12_no N a0 (jI (-2)) p2.2).bind fun p3 =>
    some (p3.1, p3.2)
  else
    (rcv p2.2 12 a0).bind fun _ =>
    (f_X12_isStake N a0 x2 p2.2).bind fun p4 =>
    if p4.1 = 0 then
      (rcv p4.2 12 a0).bind fun _ =>
      (f_X12_no N a0 (jI (-2)) p4.2).bind fun p5 =>
      some (p5.1, p5.2)
    else
      L_X12_colour_37 N N a0 x1 x2 x3 (jI (-1)) (jI 0) (jI 0) p4.2
def y_X12_colour : mM := (yX12_colour, cX12_colour, 9, (some .int))
def B_X12_colour : List (Nat × List mI) := [(21, [(.aload_n 0, 1, [0], []), (.bipush (-2), 2, [], [-2]), (.invokevirtual 84, 3, [0, 224, 1, 12, 267], []), (.ireturn, 1, [], [])]), (28, [(.iconst (-1), 1, [], [-1]), (.istore 4, 2, [4], []), (.iconst 0, 1, [], [0]), (.istore 5, 2, [5], []), (.iconst 0, 1, [], [0]), (.istore 6, 2, [6], [])]), (118, [(.iconst 0, 1, [], [0])]), (119, [(.iadd, 1, [], []), (.istore 7, 2, [7], []), (.iinc 8 1, 3, [8], [1]), (.goto (-71), 3, [54], [])]), (128, [(.iload 7, 2, [7], []), (.iload 5, 2, [5], []), (.if_icmp .gt 6, 3, [138], []), (.goto 11, 3, [146], [])]), (138, [(.iload 7, 2, [7], []), (.istore 5, 2, [5], []), (.iload 6, 2, [6], []), (.istore 4, 2, [4], [])]), (146, [(.iinc 6 1, 3, [6], [1]), (.goto (-112), 3, [37], [])]), (152, [(.iload 4, 2, [4], []), (.ireturn, 1, [], [])])]
def S_X12_colour_0 : List mI := [(.aload_n 0, 1, [0], []), (.iconst 0, 1, [], [0]), (.putfield 1, 3, [12, 0, 0, 126], []), (.aload_n 0, 1, [0], []), (.iload_n 1, 1, [1], []), (.invokevirtual 181, 3, [0, 247, 1, 12, 289], []), (.ifCond .eq 11, 3, [21], []), (.aload_n 0, 1, [0], []), (.iload_n 2, 1, [2], []), (.invokevirtual 235, 3, [0, 266, 1, 12, 306], []), (.ifCond .ne 10, 3, [28], [])]
def S_X12_colour_37 : List mI := [(.iload 6, 2, [6], []), (.aload_n 0, 1, [0], []), (.getfield 17, 3, [12, 2, 2, 128], []), (.iconst 1, 1, [], [1]), (.iaload, 1, [0], []), (.if_icmp .ge 107, 3, [152], []), (.iconst 0, 1, [], [0]), (.istore 7, 2, [7], []), (.iconst 0, 1, [], [0]), (.istore 8, 2, [8], [])]
def S_X12_colour_54 : List mI := [(.iload 8, 2, [8], []), (.aload_n 0, 1, [0], []), (.getfield 17, 3, [12, 2, 2, 128], []), (.bipush 27, 2, [], [27]), (.iload_n 1, 1, [1], []), (.iadd, 1, [], []), (.iaload, 1, [0], []), (.aload_n 0, 1, [0], []), (.getfield 17, 3, [12, 2, 2, 128], []), (.bipush 51, 2, [], [51]), (.iload_n 1, 1, [1], []), (.iadd, 1, [], []), (.iaload, 1, [0], []), (.imul, 1, [], []), (.if_icmp .ge 53, 3, [128], []), (.iload 7, 2, [7], []), (.aload_n 0, 1, [0], []), (.iload_n 1, 1, [1], []), (.iload 8, 2, [8], []), (.aload_n 0, 1, [0], []), (.getfield 17, 3, [12, 2, 2, 128], []), (.bipush 27, 2, [], [27]), (.iload_n 1, 1, [1], []), (.iadd, 1, [], []), (.iaload, 1, [0], []), (.irem, 1, [], []), (.invokevirtual 207, 3, [0, 261, 2, 12, 296], []), (.iload 6, 2, [6], []), (.if_icmp .ne 19, 3, [118], []), (.aload_n 0, 1, [0], []), (.iload_n 1, 1, [1], []), (.iload 8, 2, [8], []), (.iload_n 2, 1, [2], []), (.invokevirtual 238, 3, [0, 267, 3, 12, 307], []), (.iload_n 3, 1, [3], []), (.if_icmp .eq 7, 3, [118], []), (.iconst 1, 1, [], [1]), (.goto 4, 3, [119], [])]
theorem lb_X12_colour : B_X12_colour.all (fun b => lst y_X12_colour.2.1 12 y_X12_colour.2.2.1 false b.1 b.2) = true := by decide +kernel
theorem ls_X12_colour_0 : lst y_X12_colour.2.1 12 y_X12_colour.2.2.1 false 0 S_X12_colour_0 = true := by decide +kernel
theorem ls_X12_colour_37 : lst y_X12_colour.2.1 12 y_X12_colour.2.2.1 false 37 S_X12_colour_37 = true := by decide +kernel
theorem ls_X12_colour_54 : lst y_X12_colour.2.1 12 y_X12_colour.2.2.1 false 54 S_X12_colour_54 = true := by decide +kernel
def C_X12_colour (N : Nat) : Nat → List Value → mH → (Option Value → mH → Option (Int32 × mH)) → Option (Int32 × mH) := fun j as g k => kb j 247 (pr1 as fun b0 as => pp1 as fun b1 as => pe as ((f_X12_isBand N b0 b1 g).bind fun p => k (some (.int p.1)) p.2)) (kb j 266 (pr1 as fun b0 as => pp1 as fun b1 as => pe as ((f_X12_isStake N b0 b1 g).bind fun p => k (some (.int p.1)) p.2)) (kb j 224 (pr1 as fun b0 as => pp1 as fun b1 as => pe as ((f_X12_no N b0 b1 g).bind fun p => k (some (.int p.1)) p.2)) (kb j 261 (pr1 as fun b0 as => pp1 as fun b1 as => pp1 as fun b2 as => pe as ((f_X12_kindOf N b0 b1 b2 g).bind fun p => k (some (.int p.1)) p.2)) (kb j 267 (pr1 as fun b0 as => pp1 as fun b1 as => pp1 as fun b2 as => pp1 as fun b3 as => pe as ((f_X12_isOverIn N b0 b1 b2 b3 g).bind fun p => k (some (.int p.1)) p.2)) (none)))))
theorem co_X12_colour (N : Nat) (q : Int32 × mH) : clOK 7 q (C_X12_colour N) := by
  intro j as g k e
  rcases kb_s e with ⟨rfl, e⟩ | e
  · obtain ⟨b0, r0, q0, f0⟩ := pr1_s e
    obtain ⟨b1, r1, q1, f1⟩ := pp1_s f0
    obtain ⟨qe, fe⟩ := pe_s f1
    obtain ⟨p, e1, e2⟩ := bnd_s fe
    subst qe
    subst q1
    subst q0
    exact ⟨_, _, _, _, 5, rfl, (by decide), m_X12_isBand N e1, e2⟩
  rcases kb_s e with ⟨rfl, e⟩ | e
  · obtain ⟨b0, r0, q0, f0⟩ := pr1_s e
    obtain ⟨b1, r1, q1, f1⟩ := pp1_s f0
    obtain ⟨qe, fe⟩ := pe_s f1
    obtain ⟨p, e1, e2⟩ := bnd_s fe
    subst qe
    subst q1
    subst q0
    exact ⟨_, _, _, _, 5, rfl, (by decide), m_X12_isStake N e1, e2⟩
  rcases kb_s e with ⟨rfl, e⟩ | e
  · obtain ⟨b0, r0, q0, f0⟩ := pr1_s e
    obtain ⟨b1, r1, q1, f1⟩ := pp1_s f0
    obtain ⟨qe, fe⟩ := pe_s f1
    obtain ⟨p, e1, e2⟩ := bnd_s fe
    subst qe
    subst q1
    subst q0
    exact ⟨_, _, _, _, 4, rfl, (by decide), m_X12_no N e1, e2⟩
  rcases kb_s e with ⟨rfl, e⟩ | e
  · obtain ⟨b0, r0, q0, f0⟩ := pr1_s e
    obtain ⟨b1, r1, q1, f1⟩ := pp1_s f0
    obtain ⟨b2, r2, q2, f2⟩ := pp1_s f1
    obtain ⟨qe, fe⟩ := pe_s f2
    obtain ⟨p, e1, e2⟩ := bnd_s fe
    subst qe
    subst q2
    subst q1
    subst q0
    exact ⟨_, _, _, _, 4, rfl, (by decide), m_X12_kindOf N e1, e2⟩
  rcases kb_s e with ⟨rfl, e⟩ | e
  · obtain ⟨b0, r0, q0, f0⟩ := pr1_s e
    obtain ⟨b1, r1, q1, f1⟩ := pp1_s f0
    obtain ⟨b2, r2, q2, f2⟩ := pp1_s f1
    obtain ⟨b3, r3, q3, f3⟩ := pp1_s f2
    obtain ⟨qe, fe⟩ := pe_s f3
    obtain ⟨p, e1, e2⟩ := bnd_s fe
    subst qe
    subst q3
    subst q2
    subst q1
    subst q0
    exact ⟨_, _, _, _, 6, rfl, (by decide), m_X12_isOverIn N e1, e2⟩
  cases e
set_option maxRecDepth 100000 in
theorem t_X12_colour_54 {X : Nat × (Nat → Int32)} (N : Nat) {q : Int32 × mH} {k37 : Nat → Int32 → Int32 → Int32 → Int32 → Int32 → Int32 → mH → Option (Int32 × mH)} (hk37 : ∀ (a0 : Nat) (x1 : Int32) (x2 : Int32) (x3 : Int32) (x4 : Int32) (x5 : Int32) (x6 : Int32) g, k37 a0 x1 x2 x3 x4 x5 x6 g = some q → MW X y_X12_colour 7 37 [(0, .ref a0), (1, .int x1), (2, .int x2), (3, .int x3), (4, .int x4), (5, .int x5), (6, .int x6)] [] g (some (.int q.1)) q.2) : ∀ (n : Nat) (a0 : Nat) (x1 : Int32) (x2 : Int32) (x3 : Int32) (x4 : Int32) (x5 : Int32) (x6 : Int32) (x7 : Int32) (x8 : Int32) (h : mH), L_X12_colour_54 N k37 n a0 x1 x2 x3 x4 x5 x6 x7 x8 h = some q → MW X y_X12_colour 7 54 [(0, .ref a0), (1, .int x1), (2, .int x2), (3, .int x3), (4, .int x4), (5, .int x5), (6, .int x6), (7, .int x7), (8, .int x8)] [] h (some (.int q.1)) q.2 := by
  intro n
  induction n with
  | zero => intro a0 x1 x2 x3 x4 x5 x6 x7 x8 h hf; cases hf
  | succ n ih =>
    intro a0 x1 x2 x3 x4 x5 x6 x7 x8 h hf
    refine ev_ok (o := 12) (ini := false) (Cl := C_X12_colour N) (Rc := RcI) (B := B_X12_colour) (K := fun pc ls st g => kb pc 37 (lgr 0 ls fun a0 => lgi 1 ls fun x1 => lgi 2 ls fun x2 => lgi 3 ls fun x3 => lgi 4 ls fun x4 => lgi 5 ls fun x5 => lgi 6 ls fun x6 => pe st (k37 a0 x1 x2 x3 x4 x5 x6 g)) (kb pc 54 (lgr 0 ls fun a0 => lgi 1 ls fun x1 => lgi 2 ls fun x2 => lgi 3 ls fun x3 => lgi 4 ls fun x4 => lgi 5 ls fun x5 => lgi 6 ls fun x6 => lgi 7 ls fun x7 => lgi 8 ls fun x8 => pe st (L_X12_colour_54 N k37 n a0 x1 x2 x3 x4 x5 x6 x7 x8 g)) (none))) rfl (fun e => by cases e) (by decide) (rcI_ok rfl) ?_ (co_X12_colour N q) lb_X12_colour 3000 54 S_X12_colour_54 _ _ h ls_X12_colour_54 hf
    intro pc ls st g e
    rcases kb_s e with ⟨rfl, e⟩ | e
    · obtain ⟨a0, e0, f0⟩ := lgr_s e
      obtain ⟨x1, e1, f1⟩ := lgi_s f0
      obtain ⟨x2, e2, f2⟩ := lgi_s f1
      obtain ⟨x3, e3, f3⟩ := lgi_s f2
      obtain ⟨x4, e4, f4⟩ := lgi_s f3
      obtain ⟨x5, e5, f5⟩ := lgi_s f4
      obtain ⟨x6, e6, f6⟩ := lgi_s f5
      obtain ⟨qe, fe⟩ := pe_s f6
      subst qe
      exact MW.sub (List.forall_mem_cons.mpr ⟨lg_mem e0, List.forall_mem_cons.mpr ⟨lg_mem e1, List.forall_mem_cons.mpr ⟨lg_mem e2, List.forall_mem_cons.mpr ⟨lg_mem e3, List.forall_mem_cons.mpr ⟨lg_mem e4, List.forall_mem_cons.mpr ⟨lg_mem e5, List.forall_mem_cons.mpr ⟨lg_mem e6, fun _ h => absurd h List.not_mem_nil⟩⟩⟩⟩⟩⟩⟩) (hk37 a0 x1 x2 x3 x4 x5 x6 g fe)
    rcases kb_s e with ⟨rfl, e⟩ | e
    · obtain ⟨a0, e0, f0⟩ := lgr_s e
      obtain ⟨x1, e1, f1⟩ := lgi_s f0
      obtain ⟨x2, e2, f2⟩ := lgi_s f1
      obtain ⟨x3, e3, f3⟩ := lgi_s f2
      obtain ⟨x4, e4, f4⟩ := lgi_s f3
      obtain ⟨x5, e5, f5⟩ := lgi_s f4
      obtain ⟨x6, e6, f6⟩ := lgi_s f5
      obtain ⟨x7, e7, f7⟩ := lgi_s f6
      obtain ⟨x8, e8, f8⟩ := lgi_s f7
      obtain ⟨qe, fe⟩ := pe_s f8
      subst qe
      exact MW.sub (List.forall_mem_cons.mpr ⟨lg_mem e0, List.forall_mem_cons.mpr ⟨lg_mem e1, List.forall_mem_cons.mpr ⟨lg_mem e2, List.forall_mem_cons.mpr ⟨lg_mem e3, List.forall_mem_cons.mpr ⟨lg_mem e4, List.forall_mem_cons.mpr ⟨lg_mem e5, List.forall_mem_cons.mpr ⟨lg_mem e6, List.forall_mem_cons.mpr ⟨lg_mem e7, List.forall_mem_cons.mpr ⟨lg_mem e8, fun _ h => absurd h List.not_mem_nil⟩⟩⟩⟩⟩⟩⟩⟩⟩) (ih a0 x1 x2 x3 x4 x5 x6 x7 x8 g fe)
    cases e
set_option maxRecDepth 100000 in
theorem t_X12_colour_37 {X : Nat × (Nat → Int32)} (N : Nat) {q : Int32 × mH} : ∀ (n : Nat) (a0 : Nat) (x1 : Int32) (x2 : Int32) (x3 : Int32) (x4 : Int32) (x5 : Int32) (x6 : Int32) (h : mH), L_X12_colour_37 N n a0 x1 x2 x3 x4 x5 x6 h = some q → MW X y_X12_colour 7 37 [(0, .ref a0), (1, .int x1), (2, .int x2), (3, .int x3), (4, .int x4), (5, .int x5), (6, .int x6)] [] h (some (.int q.1)) q.2 := by
  intro n
  induction n with
  | zero => intro a0 x1 x2 x3 x4 x5 x6 h hf; cases hf
  | succ n ih =>
    intro a0 x1 x2 x3 x4 x5 x6 h hf
    refine ev_ok (o := 12) (ini := false) (Cl := C_X12_colour N) (Rc := RcI) (B := B_X12_colour) (K := fun pc ls st g => kb pc 54 (lgr 0 ls fun a0 => lgi 1 ls fun x1 => lgi 2 ls fun x2 => lgi 3 ls fun x3 => lgi 4 ls fun x4 => lgi 5 ls fun x5 => lgi 6 ls fun x6 => lgi 7 ls fun x7 => lgi 8 ls fun x8 => pe st (L_X12_colour_54 N (L_X12_colour_37 N n) N a0 x1 x2 x3 x4 x5 x6 x7 x8 g)) (none)) rfl (fun e => by cases e) (by decide) (rcI_ok rfl) ?_ (co_X12_colour N q) lb_X12_colour 3000 37 S_X12_colour_37 _ _ h ls_X12_colour_37 hf
    intro pc ls st g e
    rcases kb_s e with ⟨rfl, e⟩ | e
    · obtain ⟨a0, e0, f0⟩ := lgr_s e
      obtain ⟨x1, e1, f1⟩ := lgi_s f0
      obtain ⟨x2, e2, f2⟩ := lgi_s f1
      obtain ⟨x3, e3, f3⟩ := lgi_s f2
      obtain ⟨x4, e4, f4⟩ := lgi_s f3
      obtain ⟨x5, e5, f5⟩ := lgi_s f4
      obtain ⟨x6, e6, f6⟩ := lgi_s f5
      obtain ⟨x7, e7, f7⟩ := lgi_s f6
      obtain ⟨x8, e8, f8⟩ := lgi_s f7
      obtain ⟨qe, fe⟩ := pe_s f8
      subst qe
      exact MW.sub (List.forall_mem_cons.mpr ⟨lg_mem e0, List.forall_mem_cons.mpr ⟨lg_mem e1, List.forall_mem_cons.mpr ⟨lg_mem e2, List.forall_mem_cons.mpr ⟨lg_mem e3, List.forall_mem_cons.mpr ⟨lg_mem e4, List.forall_mem_cons.mpr ⟨lg_mem e5, List.forall_mem_cons.mpr ⟨lg_mem e6, List.forall_mem_cons.mpr ⟨lg_mem e7, List.forall_mem_cons.mpr ⟨lg_mem e8, fun _ h => absurd h List.not_mem_nil⟩⟩⟩⟩⟩⟩⟩⟩⟩) (t_X12_colour_54 N (fun a0 x1 x2 x3 x4 x5 x6 g e => ih a0 x1 x2 x3 x4 x5 x6 g e) N a0 x1 x2 x3 x4 x5 x6 x7 x8 g fe)
    cases e
set_option maxRecDepth 100000 in
theorem m_X12_colour (N : Nat) {a0 : Nat} {x1 : Int32} {x2 : Int32} {x3 : Int32} {h : mH} {q : Int32 × mH} (hf : f_X12_colour N a0 x1 x2 x3 h = some q) : MM y_X12_colour 7 [.ref a0, .int x1, .int x2, .int x3] h (some (.int q.1)) q.2 := by
  refine MM.of (mFx (j := 283) rfl).2.2.2.1 (Nat.le_of_ble_eq_true rfl) (fun X => ?_)
  refine ev_ok (o := 12) (ini := false) (Cl := C_X12_colour N) (Rc := RcI) (B := B_X12_colour) (K := fun pc ls st g => kb pc 37 (lgr 0 ls fun a0 => lgi 1 ls fun x1 => lgi 2 ls fun x2 => lgi 3 ls fun x3 => lgi 4 ls fun x4 => lgi 5 ls fun x5 => lgi 6 ls fun x6 => pe st (L_X12_colour_37 N N a0 x1 x2 x3 x4 x5 x6 g)) (none)) rfl (fun e => by cases e) (by decide) (rcI_ok rfl) ?_ (co_X12_colour N q) lb_X12_colour 3000 0 S_X12_colour_0 _ _ h ls_X12_colour_0 hf
  intro pc ls st g e
  rcases kb_s e with ⟨rfl, e⟩ | e
  · obtain ⟨a0, e0, f0⟩ := lgr_s e
    obtain ⟨x1, e1, f1⟩ := lgi_s f0
    obtain ⟨x2, e2, f2⟩ := lgi_s f1
    obtain ⟨x3, e3, f3⟩ := lgi_s f2
    obtain ⟨x4, e4, f4⟩ := lgi_s f3
    obtain ⟨x5, e5, f5⟩ := lgi_s f4
    obtain ⟨x6, e6, f6⟩ := lgi_s f5
    obtain ⟨qe, fe⟩ := pe_s f6
    subst qe
    exact MW.sub (List.forall_mem_cons.mpr ⟨lg_mem e0, List.forall_mem_cons.mpr ⟨lg_mem e1, List.forall_mem_cons.mpr ⟨lg_mem e2, List.forall_mem_cons.mpr ⟨lg_mem e3, List.forall_mem_cons.mpr ⟨lg_mem e4, List.forall_mem_cons.mpr ⟨lg_mem e5, List.forall_mem_cons.mpr ⟨lg_mem e6, fun _ h => absurd h List.not_mem_nil⟩⟩⟩⟩⟩⟩⟩) (t_X12_colour_37 N N a0 x1 x2 x3 x4 x5 x6 g fe)
  cases e
def J_X12_floats_110 (N : Nat) (k64 : Nat → Int32 → Int32 → Int32 → Int32 → Int32 → Int32 → mH → Option (Int32 × mH)) (a0 : Nat) (x1 : Int32) (x2 : Int32) (x3 : Int32) (x4 : Int32) (x6 : Int32) (s_0 : Int32) (h : mH) : Option (Int32 × mH) :=
  if s_0 = (iAdd x2 (jI 1)) then
    let w1 := iAdd x3 (jI 1)
    let w2 := iAdd x6 (jI 1)
    k64 a0 x1 x2 w1 x4 s_0 w2 h
  else
    let w3 := iAdd x3 (jI 0)
    let w4 := iAdd x6 (jI 1)
    k64 a0 x1 x2 w3 x4 s_0 w4 h
def L_X12_floats_64 (N : Nat) (k44 : Nat → Int32 → Int32 → Int32 → Int32 → mH → Option (Int32 × mH)) : Nat → Nat → Int32 → Int32 → Int32 → Int32 → Int32 → Int32 → mH → Option (Int32 × mH)
  | 0, _, _, _, _, _, _, _, _ => none
  | n + 1, a0, x1, x2, x3, x4, x5, x6, h =>
    (rcv h 12 a0).bind fun _ =>
    (f_X12_crossingsOf N a0 x1 h).bind fun p1 =>
    if x6 < p1.1 then
      if 0 < x6 then
        (rcv p1.2 12 a0).bind fun _ =>
        (f_X12_isOver N a0 x1 x4 x6 p1.2).bind fun p2 =>
        (rcv p2.2 12 a0).bind fun _ =>
        (f_X12_isOver N a0 x1 x4 (iSub x6 (jI 1)) p2.2).bind fun p3 =>
        if p2.1 = p3.1 then
          J_X12_floats_110 N (L_X12_floats_64 N k44 n) a0 x1 x2 x3 x4 x6 (iAdd x5 (jI 1)) p3.2
        else
          J_X12_floats_110 N (L_X12_floats_64 N k44 n) a0 x1 x2 x3 x4 x6 (jI 1) p3.2
      else
        J_X12_floats_110 N (L_X12_floats_64 N k44 n) a0 x1 x2 x3 x4 x6 (jI 1) p1.2
    else
      let w4 := iAdd x4 (jI 1)
      k44 a0 x1 x2 x3 w4 p1.2
def L_X12_floats_44 (N : Nat) : Nat → Nat → Int32 → Int32 → Int32 → Int32 → mH → Option (Int32 × mH)
  | 0, _, _, _, _, _, _ => none
  | n + 1, a0, x1, x2, x3, x4, h =>
    (gR h 12 a0 2).bind fun v1 =>
    (ldI 0 h v1 (iAdd (jI 27) x1)).bind fun v2 =>
    if x4 < v2 then
      L_X12_floats_64 N (L_X12_floats_44 N n) N a0 x1 x2 x3 x4 (jI 0) (jI 0) h
    else
      some (x3, h)
def f_X12_floats (N : Nat) (a0 : Nat) (x1 : Int32) (x2 : Int32) (h : mH) : Option (Int32 × mH) :=
  (pV h 12 a0 0 (.int (jI 0))).bind fun h1 =>
  (rcv h1 12 a0).bind fun _ =>
  (f_X12_isBand N a0 x1 h1).bind fun p2 =>
  if p2.1 = 0 then
    (rcv p2.2 12 a0).bind fun _ =>
    (f_X12_no N a0 (jI (-2)) p2.2).bind fun p3 =>
    some (p3.1, p3.2)
  else
    (f_X12_within N x2.toInt64 (jL 1) (jL 9999) p2.2).bind fun p4 =>
    if p4.1 = 0 then
      (rcv p4.2 12 a0).bind fun _ =>
      (f_X12_no N a0 (jI (-3)) p4.2).bind fun p5 =>
      some (p5.1, p5.2)
    else
      L_X12_floats_44 N N a0 x1 x2 (jI 0) (jI 0) p4.2
def y_X12_floats : mM := (yX12_floats, cX12_floats, 7, (some .int))
def B_X12_floats : List (Nat × List mI) := [(20, [(.iload_n 2, 1, [2], []), (.i2l, 1, [], []), (.lconst 1, 1, [], [1]), (.ldc2_w 256, 3, [12], [9999]), (.invokestatic 147, 3, [1, 225, 3, 0, 269], []), (.ifCond .ne 10, 3, [39], []), (.aload_n 0, 1, [0], []), (.bipush (-3), 2, [], [-3]), (.invokevirtual 84, 3, [0, 224, 1, 12, 267], []), (.ireturn, 1, [], [])]), (39, [(.iconst 0, 1, [], [0]), (.istore_n 3, 1, [3], []), (.iconst 0, 1, [], [0]), (.istore 4, 2, [4], [])]), (109, [(.iconst 1, 1, [], [1])]), (125, [(.iconst 0, 1, [], [0])]), (126, [(.iadd, 1, [], []), (.istore_n 3, 1, [3], []), (.iinc 6 1, 3, [6], [1]), (.goto (-67), 3, [64], [])]), (134, [(.iinc 4 1, 3, [4], [1]), (.goto (-93), 3, [44], [])]), (140, [(.iload_n 3, 1, [3], []), (.ireturn, 1, [], [])])]
def S_X12_floats_0 : List mI := [(.aload_n 0, 1, [0], []), (.iconst 0, 1, [], [0]), (.putfield 1, 3, [12, 0, 0, 126], []), (.aload_n 0, 1, [0], []), (.iload_n 1, 1, [1], []), (.invokevirtual 181, 3, [0, 247, 1, 12, 289], []), (.ifCond .ne 10, 3, [20], []), (.aload_n 0, 1, [0], []), (.bipush (-2), 2, [], [-2]), (.invokevirtual 84, 3, [0, 224, 1, 12, 267], []), (.ireturn, 1, [], [])]
def S_X12_floats_44 : List mI := [(.iload 4, 2, [4], []), (.aload_n 0, 1, [0], []), (.getfield 17, 3, [12, 2, 2, 128], []), (.bipush 27, 2, [], [27]), (.iload_n 1, 1, [1], []), (.iadd, 1, [], []), (.iaload, 1, [0], []), (.if_icmp .ge 85, 3, [140], []), (.iconst 0, 1, [], [0]), (.istore 5, 2, [5], []), (.iconst 0, 1, [], [0]), (.istore 6, 2, [6], [])]
def S_X12_floats_64 : List mI := [(.iload 6, 2, [6], []), (.aload_n 0, 1, [0], []), (.iload_n 1, 1, [1], []), (.invokevirtual 198, 3, [0, 252, 1, 12, 294], []), (.if_icmp .ge 63, 3, [134], []), (.iload 6, 2, [6], []), (.ifCond .le 33, 3, [109], []), (.aload_n 0, 1, [0], []), (.iload_n 1, 1, [1], []), (.iload 4, 2, [4], []), (.iload 6, 2, [6], []), (.invokevirtual 225, 3, [0, 256, 3, 12, 301], []), (.aload_n 0, 1, [0], []), (.iload_n 1, 1, [1], []), (.iload 4, 2, [4], []), (.iload 6, 2, [6], []), (.iconst 1, 1, [], [1]), (.isub, 1, [], []), (.invokevirtual 225, 3, [0, 256, 3, 12, 301], []), (.if_icmp .ne 10, 3, [109], []), (.iload 5, 2, [5], []), (.iconst 1, 1, [], [1]), (.iadd, 1, [], []), (.goto 4, 3, [110], [])]
def S_X12_floats_110 : List mI := [(.istore 5, 2, [5], []), (.iload_n 3, 1, [3], []), (.iload 5, 2, [5], []), (.iload_n 2, 1, [2], []), (.iconst 1, 1, [], [1]), (.iadd, 1, [], []), (.if_icmp .ne 7, 3, [125], []), (.iconst 1, 1, [], [1]), (.goto 4, 3, [126], [])]
theorem lb_X12_floats : B_X12_floats.all (fun b => lst y_X12_floats.2.1 12 y_X12_floats.2.2.1 false b.1 b.2) = true := by decide +kernel
theorem ls_X12_floats_0 : lst y_X12_floats.2.1 12 y_X12_floats.2.2.1 false 0 S_X12_floats_0 = true := by decide +kernel
theorem ls_X12_floats_44 : lst y_X12_floats.2.1 12 y_X12_floats.2.2.1 false 44 S_X12_floats_44 = true := by decide +kernel
theorem ls_X12_floats_64 : lst y_X12_floats.2.1 12 y_X12_floats.2.2.1 false 64 S_X12_floats_64 = true := by decide +kernel
theorem ls_X12_floats_110 : lst y_X12_floats.2.1 12 y_X12_floats.2.2.1 false 110 S_X12_floats_110 = true := by decide +kernel
def C_X12_floats (N : Nat) : Nat → List Value → mH → (Option Value → mH → Option (Int32 × mH)) → Option (Int32 × mH) := fun j as g k => kb j 247 (pr1 as fun b0 as => pp1 as fun b1 as => pe as ((f_X12_isBand N b0 b1 g).bind fun p => k (some (.int p.1)) p.2)) (kb j 224 (pr1 as fun b0 as => pp1 as fun b1 as => pe as ((f_X12_no N b0 b1 g).bind fun p => k (some (.int p.1)) p.2)) (kb j 225 (pl1 as fun b0 as => pl1 as fun b1 as => pl1 as fun b2 as => pe as ((f_X12_within N b0 b1 b2 g).bind fun p => k (some (.int p.1)) p.2)) (kb j 252 (pr1 as fun b0 as => pp1 as fun b1 as => pe as ((f_X12_crossingsOf N b0 b1 g).bind fun p => k (some (.int p.1)) p.2)) (kb j 256 (pr1 as fun b0 as => pp1 as fun b1 as => pp1 as fun b2 as => pp1 as fun b3 as => pe as ((f_X12_isOver N b0 b1 b2 b3 g).bind fun p => k (some (.int p.1)) p.2)) (none)))))
theorem co_X12_floats (N : Nat) (q : Int32 × mH) : clOK 6 q (C_X12_floats N) := by
  intro j as g k e
  rcases kb_s e with ⟨rfl, e⟩ | e
  · obtain ⟨b0, r0, q0, f0⟩ := pr1_s e
    obtain ⟨b1, r1, q1, f1⟩ := pp1_s f0
    obtain ⟨qe, fe⟩ := pe_s f1
    obtain ⟨p, e1, e2⟩ := bnd_s fe
    subst qe
    subst q1
    subst q0
    exact ⟨_, _, _, _, 5, rfl, (by decide), m_X12_isBand N e1, e2⟩
  rcases kb_s e with ⟨rfl, e⟩ | e
  · obtain ⟨b0, r0, q0, f0⟩ := pr1_s e
    obtain ⟨b1, r1, q1, f1⟩ := pp1_s f0
    obtain ⟨qe, fe⟩ := pe_s f1
    obtain ⟨p, e1, e2⟩ := bnd_s fe
    subst qe
    subst q1
    subst q0
    exact ⟨_, _, _, _, 4, rfl, (by decide), m_X12_no N e1, e2⟩
  rcases kb_s e with ⟨rfl, e⟩ | e
  · obtain ⟨b0, r0, q0, f0⟩ := pl1_s e
    obtain ⟨b1, r1, q1, f1⟩ := pl1_s f0
    obtain ⟨b2, r2, q2, f2⟩ := pl1_s f1
    obtain ⟨qe, fe⟩ := pe_s f2
    obtain ⟨p, e1, e2⟩ := bnd_s fe
    subst qe
    subst q2
    subst q1
    subst q0
    exact ⟨_, _, _, _, 4, rfl, (by decide), m_X12_within N e1, e2⟩
  rcases kb_s e with ⟨rfl, e⟩ | e
  · obtain ⟨b0, r0, q0, f0⟩ := pr1_s e
    obtain ⟨b1, r1, q1, f1⟩ := pp1_s f0
    obtain ⟨qe, fe⟩ := pe_s f1
    obtain ⟨p, e1, e2⟩ := bnd_s fe
    subst qe
    subst q1
    subst q0
    exact ⟨_, _, _, _, 4, rfl, (by decide), m_X12_crossingsOf N e1, e2⟩
  rcases kb_s e with ⟨rfl, e⟩ | e
  · obtain ⟨b0, r0, q0, f0⟩ := pr1_s e
    obtain ⟨b1, r1, q1, f1⟩ := pp1_s f0
    obtain ⟨b2, r2, q2, f2⟩ := pp1_s f1
    obtain ⟨b3, r3, q3, f3⟩ := pp1_s f2
    obtain ⟨qe, fe⟩ := pe_s f3
    obtain ⟨p, e1, e2⟩ := bnd_s fe
    subst qe
    subst q3
    subst q2
    subst q1
    subst q0
    exact ⟨_, _, _, _, 5, rfl, (by decide), m_X12_isOver N e1, e2⟩
  cases e
set_option maxRecDepth 100000 in
theorem t_X12_floats_110 {X : Nat × (Nat → Int32)} (N : Nat) {q : Int32 × mH} {k64 : Nat → Int32 → Int32 → Int32 → Int32 → Int32 → Int32 → mH → Option (Int32 × mH)} (hk64 : ∀ (a0 : Nat) (x1 : Int32) (x2 : Int32) (x3 : Int32) (x4 : Int32) (x5 : Int32) (x6 : Int32) g, k64 a0 x1 x2 x3 x4 x5 x6 g = some q → MW X y_X12_floats 6 64 [(0, .ref a0), (1, .int x1), (2, .int x2), (3, .int x3), (4, .int x4), (5, .int x5), (6, .int x6)] [] g (some (.int q.1)) q.2) (a0 : Nat) (x1 : Int32) (x2 : Int32) (x3 : Int32) (x4 : Int32) (x6 : Int32) (s_0 : Int32) (h : mH) (hf : J_X12_floats_110 N k64 a0 x1 x2 x3 x4 x6 s_0 h = some q) : MW X y_X12_floats 6 110 [(0, .ref a0), (1, .int x1), (2, .int x2), (3, .int x3), (4, .int x4), (6, .int x6)] [.int s_0] h (some (.int q.1)) q.2 := by
  refine ev_ok (o := 12) (ini := false) (Cl := C_X12_floats N) (Rc := RcI) (B := B_X12_floats) (K := fun pc ls st g => kb pc 64 (lgr 0 ls fun a0 => lgi 1 ls fun x1 => lgi 2 ls fun x2 => lgi 3 ls fun x3 => lgi 4 ls fun x4 => lgi 5 ls fun x5 => lgi 6 ls fun x6 => pe st (k64 a0 x1 x2 x3 x4 x5 x6 g)) (none)) rfl (fun e => by cases e) (by decide) (rcI_ok rfl) ?_ (co_X12_floats N q) lb_X12_floats 3000 110 S_X12_floats_110 _ _ h ls_X12_floats_110 hf
  intro pc ls st g e
  rcases kb_s e with ⟨rfl, e⟩ | e
  · obtain ⟨a0, e0, f0⟩ := lgr_s e
    obtain ⟨x1, e1, f1⟩ := lgi_s f0
    obtain ⟨x2, e2, f2⟩ := lgi_s f1
    obtain ⟨x3, e3, f3⟩ := lgi_s f2
    obtain ⟨x4, e4, f4⟩ := lgi_s f3
    obtain ⟨x5, e5, f5⟩ := lgi_s f4
    obtain ⟨x6, e6, f6⟩ := lgi_s f5
    obtain ⟨qe, fe⟩ := pe_s f6
    subst qe
    exact MW.sub (List.forall_mem_cons.mpr ⟨lg_mem e0, List.forall_mem_cons.mpr ⟨lg_mem e1, List.forall_mem_cons.mpr ⟨lg_mem e2, List.forall_mem_cons.mpr ⟨lg_mem e3, List.forall_mem_cons.mpr ⟨lg_mem e4, List.forall_mem_cons.mpr ⟨lg_mem e5, List.forall_mem_cons.mpr ⟨lg_mem e6, fun _ h => absurd h List.not_mem_nil⟩⟩⟩⟩⟩⟩⟩) (hk64 a0 x1 x2 x3 x4 x5 x6 g fe)
  cases e
set_option maxRecDepth 100000 in
theorem t_X12_floats_64 {X : Nat × (Nat → Int32)} (N : Nat) {q : Int32 × mH} {k44 : Nat → Int32 → Int32 → Int32 → Int32 → mH → Option (Int32 × mH)} (hk44 : ∀ (a0 : Nat) (x1 : Int32) (x2 : Int32) (x3 : Int32) (x4 : Int32) g, k44 a0 x1 x2 x3 x4 g = some q → MW X y_X12_floats 6 44 [(0, .ref a0), (1, .int x1), (2, .int x2), (3, .int x3), (4, .int x4)] [] g (some (.int q.1)) q.2) : ∀ (n : Nat) (a0 : Nat) (x1 : Int32) (x2 : Int32) (x3 : Int32) (x4 : Int32) (x5 : Int32) (x6 : Int32) (h : mH), L_X12_floats_64 N k44 n a0 x1 x2 x3 x4 x5 x6 h = some q → MW X y_X12_floats 6 64 [(0, .ref a0), (1, .int x1), (2, .int x2), (3, .int x3), (4, .int x4), (5, .int x5), (6, .int x6)] [] h (some (.int q.1)) q.2 := by
  intro n
  induction n with
  | zero => intro a0 x1 x2 x3 x4 x5 x6 h hf; cases hf
  | succ n ih =>
    intro a0 x1 x2 x3 x4 x5 x6 h hf
    refine ev_ok (o := 12) (ini := false) (Cl := C_X12_floats N) (Rc := RcI) (B := B_X12_floats) (K := fun pc ls st g => kb pc 44 (lgr 0 ls fun a0 => lgi 1 ls fun x1 => lgi 2 ls fun x2 => lgi 3 ls fun x3 => lgi 4 ls fun x4 => pe st (k44 a0 x1 x2 x3 x4 g)) (kb pc 110 (lgr 0 ls fun a0 => lgi 1 ls fun x1 => lgi 2 ls fun x2 => lgi 3 ls fun x3 => lgi 4 ls fun x4 => lgi 6 ls fun x6 => pp1 st fun s_0 st => pe st (J_X12_floats_110 N (L_X12_floats_64 N k44 n) a0 x1 x2 x3 x4 x6 s_0 g)) (none))) rfl (fun e => by cases e) (by decide) (rcI_ok rfl) ?_ (co_X12_floats N q) lb_X12_floats 3000 64 S_X12_floats_64 _ _ h ls_X12_floats_64 hf
    intro pc ls st g e
    rcases kb_s e with ⟨rfl, e⟩ | e
    · obtain ⟨a0, e0, f0⟩ := lgr_s e
      obtain ⟨x1, e1, f1⟩ := lgi_s f0
      obtain ⟨x2, e2, f2⟩ := lgi_s f1
      obtain ⟨x3, e3, f3⟩ := lgi_s f2
      obtain ⟨x4, e4, f4⟩ := lgi_s f3
      obtain ⟨qe, fe⟩ := pe_s f4
      subst qe
      exact MW.sub (List.forall_mem_cons.mpr ⟨lg_mem e0, List.forall_mem_cons.mpr ⟨lg_mem e1, List.forall_mem_cons.mpr ⟨lg_mem e2, List.forall_mem_cons.mpr ⟨lg_mem e3, List.forall_mem_cons.mpr ⟨lg_mem e4, fun _ h => absurd h List.not_mem_nil⟩⟩⟩⟩⟩) (hk44 a0 x1 x2 x3 x4 g fe)
    rcases kb_s e with ⟨rfl, e⟩ | e
    · obtain ⟨a0, e0, f0⟩ := lgr_s e
      obtain ⟨x1, e1, f1⟩ := lgi_s f0
      obtain ⟨x2, e2, f2⟩ := lgi_s f1
      obtain ⟨x3, e3, f3⟩ := lgi_s f2
      obtain ⟨x4, e4, f4⟩ := lgi_s f3
      obtain ⟨x6, e5, f5⟩ := lgi_s f4
      obtain ⟨s_0, r0, q0, g0⟩ := pp1_s f5
      obtain ⟨qe, fe⟩ := pe_s g0
      subst qe
      subst q0
      exact MW.sub (List.forall_mem_cons.mpr ⟨lg_mem e0, List.forall_mem_cons.mpr ⟨lg_mem e1, List.forall_mem_cons.mpr ⟨lg_mem e2, List.forall_mem_cons.mpr ⟨lg_mem e3, List.forall_mem_cons.mpr ⟨lg_mem e4, List.forall_mem_cons.mpr ⟨lg_mem e5, fun _ h => absurd h List.not_mem_nil⟩⟩⟩⟩⟩⟩) (t_X12_floats_110 N (fun a0 x1 x2 x3 x4 x5 x6 g e => ih a0 x1 x2 x3 x4 x5 x6 g e) a0 x1 x2 x3 x4 x6 s_0 g fe)
    cases e
set_option maxRecDepth 100000 in
theorem t_X12_floats_44 {X : Nat × (Nat → Int32)} (N : Nat) {q : Int32 × mH} : ∀ (n : Nat) (a0 : Nat) (x1 : Int32) (x2 : Int32) (x3 : Int32) (x4 : Int32) (h : mH), L_X12_floats_44 N n a0 x1 x2 x3 x4 h = some q → MW X y_X12_floats 6 44 [(0, .ref a0), (1, .int x1), (2, .int x2), (3, .int x3), (4, .int x4)] [] h (some (.int q.1)) q.2 := by
  intro n
  induction n with
  | zero => intro a0 x1 x2 x3 x4 h hf; cases hf
  | succ n ih =>
    intro a0 x1 x2 x3 x4 h hf
    refine ev_ok (o := 12) (ini := false) (Cl := C_X12_floats N) (Rc := RcI) (B := B_X12_floats) (K := fun pc ls st g => kb pc 64 (lgr 0 ls fun a0 => lgi 1 ls fun x1 => lgi 2 ls fun x2 => lgi 3 ls fun x3 => lgi 4 ls fun x4 => lgi 5 ls fun x5 => lgi 6 ls fun x6 => pe st (L_X12_floats_64 N (L_X12_floats_44 N n) N a0 x1 x2 x3 x4 x5 x6 g)) (none)) rfl (fun e => by cases e) (by decide) (rcI_ok rfl) ?_ (co_X12_floats N q) lb_X12_floats 3000 44 S_X12_floats_44 _ _ h ls_X12_floats_44 hf
    intro pc ls st g e
    rcases kb_s e with ⟨rfl, e⟩ | e
    · obtain ⟨a0, e0, f0⟩ := lgr_s e
      obtain ⟨x1, e1, f1⟩ := lgi_s f0
      obtain ⟨x2, e2, f2⟩ := lgi_s f1
      obtain ⟨x3, e3, f3⟩ := lgi_s f2
      obtain ⟨x4, e4, f4⟩ := lgi_s f3
      obtain ⟨x5, e5, f5⟩ := lgi_s f4
      obtain ⟨x6, e6, f6⟩ := lgi_s f5
      obtain ⟨qe, fe⟩ := pe_s f6
      subst qe
      exact MW.sub (List.forall_mem_cons.mpr ⟨lg_mem e0, List.forall_mem_cons.mpr ⟨lg_mem e1, List.forall_mem_cons.mpr ⟨lg_mem e2, List.forall_mem_cons.mpr ⟨lg_mem e3, List.forall_mem_cons.mpr ⟨lg_mem e4, List.forall_mem_cons.mpr ⟨lg_mem e5, List.forall_mem_cons.mpr ⟨lg_mem e6, fun _ h => absurd h List.not_mem_nil⟩⟩⟩⟩⟩⟩⟩) (t_X12_floats_64 N (fun a0 x1 x2 x3 x4 g e => ih a0 x1 x2 x3 x4 g e) N a0 x1 x2 x3 x4 x5 x6 g fe)
    cases e
set_option maxRecDepth 100000 in
theorem m_X12_floats (N : Nat) {a0 : Nat} {x1 : Int32} {x2 : Int32} {h : mH} {q : Int32 × mH} (hf : f_X12_floats N a0 x1 x2 h = some q) : MM y_X12_floats 6 [.ref a0, .int x1, .int x2] h (some (.int q.1)) q.2 := by
  refine MM.of (mFx (j := 284) rfl).2.2.2.1 (Nat.le_of_ble_eq_true rfl) (fun X => ?_)
  refine ev_ok (o := 12) (ini := false) (Cl := C_X12_floats N) (Rc := RcI) (B := B_X12_floats) (K := fun pc ls st g => kb pc 44 (lgr 0 ls fun a0 => lgi 1 ls fun x1 => lgi 2 ls fun x2 => lgi 3 ls fun x3 => lgi 4 ls fun x4 => pe st (L_X12_floats_44 N N a0 x1 x2 x3 x4 g)) (none)) rfl (fun e => by cases e) (by decide) (rcI_ok rfl) ?_ (co_X12_floats N q) lb_X12_floats 3000 0 S_X12_floats_0 _ _ h ls_X12_floats_0 hf
  intro pc ls st g e
  rcases kb_s e with ⟨rfl, e⟩ | e
  · obtain ⟨a0, e0, f0⟩ := lgr_s e
    obtain ⟨x1, e1, f1⟩ := lgi_s f0
    obtain ⟨x2, e2, f2⟩ := lgi_s f1
    obtain ⟨x3, e3, f3⟩ := lgi_s f2
    obtain ⟨x4, e4, f4⟩ := lgi_s f3
    obtain ⟨qe, fe⟩ := pe_s f4
    subst qe
    exact MW.sub (List.forall_mem_cons.mpr ⟨lg_mem e0, List.forall_mem_cons.mpr ⟨lg_mem e1, List.forall_mem_cons.mpr ⟨lg_mem e2, List.forall_mem_cons.mpr ⟨lg_mem e3, List.forall_mem_cons.mpr ⟨lg_mem e4, fun _ h => absurd h List.not_mem_nil⟩⟩⟩⟩⟩) (t_X12_floats_44 N N a0 x1 x2 x3 x4 g fe)
  cases e
def J_X12_learner_239 (N : Nat) (k124 : Nat → Int32 → Int32 → Int32 → Int32 → Int32 → Int32 → Int32 → Int32 → Int32 → Int32 → mH → Option (Int32 × mH)) (a0 : Nat) (x1 : Int32) (x3 : Int32) (x4 : Int32) (x5 : Int32) (x6 : Int32) (x7 : Int32) (x8 : Int32) (x9 : Int32) (x10 : Int32) (x11 : Int32) (s_0 : Int32) (s_1 : Int32) (h : mH) : Option (Int32 × mH) :=
  if s_0 = s_1 then
    let w1 := iAdd x11 (jI 1)
    k124 a0 x1 x3 x4 x5 x6 x7 x8 x9 x10 w1 h
  else
    let w2 := iAdd x8 (jI 1)
    if x9 = (jI (-1)) then
      (rcv h 12 a0).bind fun _ =>
      (f_X12_when N a0 x1 x11 x10 h).bind fun p3 =>
      let w4 := iAdd x11 (jI 1)
      k124 a0 x1 x3 x4 x5 x6 x7 w2 p3.1 x10 w4 p3.2
    else
      let w5 := iAdd x11 (jI 1)
      k124 a0 x1 x3 x4 x5 x6 x7 w2 x9 x10 w5 h
def J_X12_learner_209 (N : Nat) (k124 : Nat → Int32 → Int32 → Int32 → Int32 → Int32 → Int32 → Int32 → Int32 → Int32 → Int32 → mH → Option (Int32 × mH)) (a0 : Nat) (x1 : Int32) (x3 : Int32) (x4 : Int32) (x5 : Int32) (x6 : Int32) (x7 : Int32) (x8 : Int32) (x9 : Int32) (x10 : Int32) (x11 : Int32) (x12 : Int32) (s_0 : Int32) (h : mH) : Option (Int32 × mH) :=
  (gR h 12 a0 16).bind fun v1 =>
  (ldI 0 h v1 x11).bind fun v2 =>
  if x5 = 0 then none else
  (gR h 12 a0 2).bind fun v3 =>
  (ldI 0 h v3 (iAdd (jI 35) x1)).bind fun v4 =>
  if (iRem (iAdd x12 v2) x5) < v4 then
    J_X12_learner_239 N k124 a0 x1 x3 x4 x5 x6 x7 x8 x9 x10 x11 s_0 (jI 1) h
  else
    J_X12_learner_239 N k124 a0 x1 x3 x4 x5 x6 x7 x8 x9 x10 x11 s_0 (jI 0) h
def J_X12_learner_176 (N : Nat) (k124 : Nat → Int32 → Int32 → Int32 → Int32 → Int32 → Int32 → Int32 → Int32 → Int32 → Int32 → mH → Option (Int32 × mH)) (a0 : Nat) (x1 : Int32) (x3 : Int32) (x4 : Int32) (x5 : Int32) (x6 : Int32) (x7 : Int32) (x8 : Int32) (x9 : Int32) (x10 : Int32) (x11 : Int32) (h : mH) : Option (Int32 × mH) :=
  (rcv h 12 a0).bind fun _ =>
  (f_X12_placeIn N a0 x1 x11 x10 h).bind fun p1 =>
  if x5 = 0 then none else
  (gR p1.2 12 a0 2).bind fun v2 =>
  (ldI 0 p1.2 v2 (iAdd (jI 35) x1)).bind fun v3 =>
  if (iRem p1.1 x5) < v3 then
    J_X12_learner_209 N k124 a0 x1 x3 x4 x5 x6 x7 x8 x9 x10 x11 p1.1 (jI 1) p1.2
  else
    J_X12_learner_209 N k124 a0 x1 x3 x4 x5 x6 x7 x8 x9 x10 x11 p1.1 (jI 0) p1.2
def L_X12_learner_124 (N : Nat) (k111 : Nat → Int32 → Int32 → Int32 → Int32 → Int32 → Int32 → Int32 → Int32 → Int32 → mH → Option (Int32 × mH)) : Nat → Nat → Int32 → Int32 → Int32 → Int32 → Int32 → Int32 → Int32 → Int32 → Int32 → Int32 → mH → Option (Int32 × mH)
  | 0, _, _, _, _, _, _, _, _, _, _, _, _ => none
  | n + 1, a0, x1, x3, x4, x5, x6, x7, x8, x9, x10, x11, h =>
    (gR h 12 a0 2).bind fun v1 =>
    (ldI 0 h v1 (iAdd (jI 27) x1)).bind fun v2 =>
    if x11 < v2 then
      let w3 := iAdd (iMul (jI 1103515245) x6) (jI 12345)
      if (jI 100) = 0 then none else
      if (iRem (iUsr w3 (jI 16)) (jI 100)) < x3 then
        let w4 := iAdd x7 (jI 1)
        (gR h 12 a0 16).bind fun v5 =>
        (ldI 0 h v5 x11).bind fun v6 =>
        (stI 0 h v5 x11 (iAdd v6 (jI 1))).bind fun h7 =>
        J_X12_learner_176 N (L_X12_learner_124 N k111 n) a0 x1 x3 x4 x5 w3 w4 x8 x9 x10 x11 h7
      else
        J_X12_learner_176 N (L_X12_learner_124 N k111 n) a0 x1 x3 x4 x5 w3 x7 x8 x9 x10 x11 h
    else
      let w8 := iAdd x10 (jI 1)
      k111 a0 x1 x3 x4 x5 x6 x7 x8 x9 w8 h
def L_X12_learner_111 (N : Nat) : Nat → Nat → Int32 → Int32 → Int32 → Int32 → Int32 → Int32 → Int32 → Int32 → Int32 → mH → Option (Int32 × mH)
  | 0, _, _, _, _, _, _, _, _, _, _, _ => none
  | n + 1, a0, x1, x3, x4, x5, x6, x7, x8, x9, x10, h =>
    (rcv h 12 a0).bind fun _ =>
    (f_X12_crossingsOf N a0 x1 h).bind fun p1 =>
    if x10 < p1.1 then
      L_X12_learner_124 N (L_X12_learner_111 N n) N a0 x1 x3 x4 x5 x6 x7 x8 x9 x10 (jI 0) p1.2
    else
      if x4 = 0 then
        some (x7, p1.2)
      else
        if x4 = (jI 1) then
          some (x8, p1.2)
        else
          some (x9, p1.2)
def L_X12_learner_55 (N : Nat) : Nat → Nat → Int32 → Int32 → Int32 → Int32 → Int32 → mH → Option (Int32 × mH)
  | 0, _, _, _, _, _, _, _ => none
  | n + 1, a0, x1, x2, x3, x4, x5, h =>
    if x5 < (jI 4) then
      (gR h 12 a0 16).bind fun v1 =>
      (stI 0 h v1 x5 (jI 0)).bind fun h2 =>
      let w3 := iAdd x5 (jI 1)
      L_X12_learner_55 N n a0 x1 x2 x3 x4 w3 h2
    else
      (gR h 12 a0 2).bind fun v4 =>
      (ldI 0 h v4 (iAdd (jI 35) x1)).bind fun v5 =>
      (gR h 12 a0 2).bind fun v6 =>
      (ldI 0 h v6 (iAdd (jI 43) x1)).bind fun v7 =>
      let w8 := iAdd v5 v7
      L_X12_learner_111 N N a0 x1 x3 x4 w8 x2 (jI 0) (jI 0) (jI (-1)) (jI 0) h
def f_X12_learner (N : Nat) (a0 : Nat) (x1 : Int32) (x2 : Int32) (x3 : Int32) (x4 : Int32) (h : mH) : Option (Int32 × mH) :=
  (pV h 12 a0 0 (.int (jI 0))).bind fun h1 =>
  (rcv h1 12 a0).bind fun _ =>
  (f_X12_isBand N a0 x1 h1).bind fun p2 =>
  if p2.1 = 0 then
    (rcv p2.2 12 a0).bind fun _ =>
    (f_X12_no N a0 (jI (-2)) p2.2).bind fun p3 =>
    some (p3.1, p3.2)
  else
    (f_X12_within N x4.toInt64 (jL 0) (jL 2) p2.2).bind fun p4 =>
    if p4.1 = 0 then
      (rcv p4.2 12 a0).bind fun _ =>
      (f_X12_no N a0 (jI (-2)) p4.2).bind fun p5 =>
      some (p5.1, p5.2)
    else
      (f_X12_within N x3.toInt64 (jL 0) (jL 100) p4.2).bind fun p6 =>
      if p6.1 = 0 then
        (rcv p6.2 12 a0).bind fun _ =>
        (f_X12_no N a0 (jI (-3)) p6.2).bind fun p7 =>
        some (p7.1, p7.2)
      else
        L_X12_learner_55 N N a0 x1 x2 x3 x4 (jI 0) p6.2
def y_X12_learner : mM := (yX12_learner, cX12_learner, 13, (some .int))
def B_X12_learner : List (Nat × List mI) := [(26, [(.aload_n 0, 1, [0], []), (.bipush (-2), 2, [], [-2]), (.invokevirtual 84, 3, [0, 224, 1, 12, 267], []), (.ireturn, 1, [], [])]), (33, [(.iload_n 3, 1, [3], []), (.i2l, 1, [], []), (.lconst 0, 1, [], [0]), (.ldc2_w 258, 3, [13], [100]), (.invokestatic 147, 3, [1, 225, 3, 0, 269], []), (.ifCond .ne 10, 3, [52], []), (.aload_n 0, 1, [0], []), (.bipush (-3), 2, [], [-3]), (.invokevirtual 84, 3, [0, 224, 1, 12, 267], []), (.ireturn, 1, [], [])]), (52, [(.iconst 0, 1, [], [0]), (.istore 5, 2, [5], [])]), (75, [(.aload_n 0, 1, [0], []), (.getfield 17, 3, [12, 2, 2, 128], []), (.bipush 35, 2, [], [35]), (.iload_n 1, 1, [1], []), (.iadd, 1, [], []), (.iaload, 1, [0], []), (.aload_n 0, 1, [0], []), (.getfield 17, 3, [12, 2, 2, 128], []), (.bipush 43, 2, [], [43]), (.iload_n 1, 1, [1], []), (.iadd, 1, [], []), (.iaload, 1, [0], []), (.iadd, 1, [], []), (.istore 5, 2, [5], []), (.iload_n 2, 1, [2], []), (.istore 6, 2, [6], []), (.iconst 0, 1, [], [0]), (.istore 7, 2, [7], []), (.iconst 0, 1, [], [0]), (.istore 8, 2, [8], []), (.iconst (-1), 1, [], [-1]), (.istore 9, 2, [9], []), (.iconst 0, 1, [], [0]), (.istore 10, 2, [10], [])]), (208, [(.iconst 0, 1, [], [0])]), (238, [(.iconst 0, 1, [], [0])]), (245, [(.iinc 8 1, 3, [8], [1]), (.iload 9, 2, [9], []), (.iconst (-1), 1, [], [-1]), (.if_icmp .ne 15, 3, [266], []), (.aload_n 0, 1, [0], []), (.iload_n 1, 1, [1], []), (.iload 11, 2, [11], []), (.iload 10, 2, [10], []), (.invokevirtual 228, 3, [0, 258, 3, 12, 303], []), (.goto 5, 3, [268], [])]), (266, [(.iload 9, 2, [9], [])]), (268, [(.istore 9, 2, [9], [])]), (270, [(.iinc 11 1, 3, [11], [1]), (.goto (-149), 3, [124], [])]), (276, [(.iinc 10 1, 3, [10], [1]), (.goto (-168), 3, [111], [])]), (282, [(.iload 4, 2, [4], []), (.ifCond .ne 8, 3, [292], []), (.iload 7, 2, [7], []), (.goto 16, 3, [305], [])]), (292, [(.iload 4, 2, [4], []), (.iconst 1, 1, [], [1]), (.if_icmp .ne 8, 3, [303], []), (.iload 8, 2, [8], []), (.goto 5, 3, [305], [])]), (303, [(.iload 9, 2, [9], [])]), (305, [(.ireturn, 1, [], [])])]
def S_X12_learner_0 : List mI := [(.aload_n 0, 1, [0], []), (.iconst 0, 1, [], [0]), (.putfield 1, 3, [12, 0, 0, 126], []), (.aload_n 0, 1, [0], []), (.iload_n 1, 1, [1], []), (.invokevirtual 181, 3, [0, 247, 1, 12, 289], []), (.ifCond .eq 16, 3, [26], []), (.iload 4, 2, [4], []), (.i2l, 1, [], []), (.lconst 0, 1, [], [0]), (.ldc2_w 245, 3, [11], [2]), (.invokestatic 147, 3, [1, 225, 3, 0, 269], []), (.ifCond .ne 10, 3, [33], [])]
def S_X12_learner_55 : List mI := [(.iload 5, 2, [5], []), (.iconst 4, 1, [], [4]), (.if_icmp .ge 17, 3, [75], []), (.aload_n 0, 1, [0], []), (.getfield 33, 3, [12, 16, 2, 142], []), (.iload 5, 2, [5], []), (.iconst 0, 1, [], [0]), (.iastore, 1, [], []), (.iinc 5 1, 3, [5], [1]), (.goto (-17), 3, [55], [])]
def S_X12_learner_111 : List mI := [(.iload 10, 2, [10], []), (.aload_n 0, 1, [0], []), (.iload_n 1, 1, [1], []), (.invokevirtual 198, 3, [0, 252, 1, 12, 294], []), (.if_icmp .ge 164, 3, [282], []), (.iconst 0, 1, [], [0]), (.istore 11, 2, [11], [])]
def S_X12_learner_124 : List mI := [(.iload 11, 2, [11], []), (.aload_n 0, 1, [0], []), (.getfield 17, 3, [12, 2, 2, 128], []), (.bipush 27, 2, [], [27]), (.iload_n 1, 1, [1], []), (.iadd, 1, [], []), (.iaload, 1, [0], []), (.if_icmp .ge 141, 3, [276], []), (.ldc_w 260, 3, [10], [1103515245]), (.iload 6, 2, [6], []), (.imul, 1, [], []), (.sipush 12345, 3, [], [12345]), (.iadd, 1, [], []), (.istore 6, 2, [6], []), (.iload 6, 2, [6], []), (.bipush 16, 2, [], [16]), (.iushr, 1, [], []), (.bipush 100, 2, [], [100]), (.irem, 1, [], []), (.iload_n 3, 1, [3], []), (.if_icmp .ge 17, 3, [176], []), (.iinc 7 1, 3, [7], [1]), (.aload_n 0, 1, [0], []), (.getfield 33, 3, [12, 16, 2, 142], []), (.iload 11, 2, [11], []), (.dup2, 1, [], []), (.iaload, 1, [0], []), (.iconst 1, 1, [], [1]), (.iadd, 1, [], []), (.iastore, 1, [], [])]
def S_X12_learner_176 : List mI := [(.aload_n 0, 1, [0], []), (.iload_n 1, 1, [1], []), (.iload 11, 2, [11], []), (.iload 10, 2, [10], []), (.invokevirtual 194, 3, [0, 255, 3, 12, 302], []), (.istore 12, 2, [12], []), (.iload 12, 2, [12], []), (.iload 5, 2, [5], []), (.irem, 1, [], []), (.aload_n 0, 1, [0], []), (.getfield 17, 3, [12, 2, 2, 128], []), (.bipush 35, 2, [], [35]), (.iload_n 1, 1, [1], []), (.iadd, 1, [], []), (.iaload, 1, [0], []), (.if_icmp .ge 7, 3, [208], []), (.iconst 1, 1, [], [1]), (.goto 4, 3, [209], [])]
def S_X12_learner_209 : List mI := [(.iload 12, 2, [12], []), (.aload_n 0, 1, [0], []), (.getfield 33, 3, [12, 16, 2, 142], []), (.iload 11, 2, [11], []), (.iaload, 1, [0], []), (.iadd, 1, [], []), (.iload 5, 2, [5], []), (.irem, 1, [], []), (.aload_n 0, 1, [0], []), (.getfield 17, 3, [12, 2, 2, 128], []), (.bipush 35, 2, [], [35]), (.iload_n 1, 1, [1], []), (.iadd, 1, [], []), (.iaload, 1, [0], []), (.if_icmp .ge 7, 3, [238], []), (.iconst 1, 1, [], [1]), (.goto 4, 3, [239], [])]
def S_X12_learner_239 : List mI := [(.if_icmp .ne 6, 3, [245], []), (.goto 28, 3, [270], [])]
theorem lb_X12_learner : B_X12_learner.all (fun b => lst y_X12_learner.2.1 12 y_X12_learner.2.2.1 false b.1 b.2) = true := by decide +kernel
theorem ls_X12_learner_0 : lst y_X12_learner.2.1 12 y_X12_learner.2.2.1 false 0 S_X12_learner_0 = true := by decide +kernel
theorem ls_X12_learner_55 : lst y_X12_learner.2.1 12 y_X12_learner.2.2.1 false 55 S_X12_learner_55 = true := by decide +kernel
theorem ls_X12_learner_111 : lst y_X12_learner.2.1 12 y_X12_learner.2.2.1 false 111 S_X12_learner_111 = true := by decide +kernel
theorem ls_X12_learner_124 : lst y_X12_learner.2.1 12 y_X12_learner.2.2.1 false 124 S_X12_learner_124 = true := by decide +kernel
theorem ls_X12_learner_176 : lst y_X12_learner.2.1 12 y_X12_learner.2.2.1 false 176 S_X12_learner_176 = true := by decide +kernel
theorem ls_X12_learner_209 : lst y_X12_learner.2.1 12 y_X12_learner.2.2.1 false 209 S_X12_learner_209 = true := by decide +kernel
theorem ls_X12_learner_239 : lst y_X12_learner.2.1 12 y_X12_learner.2.2.1 false 239 S_X12_learner_239 = true := by decide +kernel
def C_X12_learner (N : Nat) : Nat → List Value → mH → (Option Value → mH → Option (Int32 × mH)) → Option (Int32 × mH) := fun j as g k => kb j 247 (pr1 as fun b0 as => pp1 as fun b1 as => pe as ((f_X12_isBand N b0 b1 g).bind fun p => k (some (.int p.1)) p.2)) (kb j 225 (pl1 as fun b0 as => pl1 as fun b1 as => pl1 as fun b2 as => pe as ((f_X12_within N b0 b1 b2 g).bind fun p => k (some (.int p.1)) p.2)) (kb j 224 (pr1 as fun b0 as => pp1 as fun b1 as => pe as ((f_X12_no N b0 b1 g).bind fun p => k (some (.int p.1)) p.2)) (kb j 252 (pr1 as fun b0 as => pp1 as fun b1 as => pe as ((f_X12_crossingsOf N b0 b1 g).bind fun p => k (some (.int p.1)) p.2)) (kb j 255 (pr1 as fun b0 as => pp1 as fun b1 as => pp1 as fun b2 as => pp1 as fun b3 as => pe as ((f_X12_placeIn N b0 b1 b2 b3 g).bind fun p => k (some (.int p.1)) p.2)) (kb j 258 (pr1 as fun b0 as => pp1 as fun b1 as => pp1 as fun b2 as => pp1 as fun b3 as => pe as ((f_X12_when N b0 b1 b2 b3 g).bind fun p => k (some (.int p.1)) p.2)) (none))))))
theorem co_X12_learner (N : Nat) (q : Int32 × mH) : clOK 7 q (C_X12_learner N) := by
  intro j as g k e
  rcases kb_s e with ⟨rfl, e⟩ | e
  · obtain ⟨b0, r0, q0, f0⟩ := pr1_s e
    obtain ⟨b1, r1, q1, f1⟩ := pp1_s f0
    obtain ⟨qe, fe⟩ := pe_s f1
    obtain ⟨p, e1, e2⟩ := bnd_s fe
    subst qe
    subst q1
    subst q0
    exact ⟨_, _, _, _, 5, rfl, (by decide), m_X12_isBand N e1, e2⟩
  rcases kb_s e with ⟨rfl, e⟩ | e
  · obtain ⟨b0, r0, q0, f0⟩ := pl1_s e
    obtain ⟨b1, r1, q1, f1⟩ := pl1_s f0
    obtain ⟨b2, r2, q2, f2⟩ := pl1_s f1
    obtain ⟨qe, fe⟩ := pe_s f2
    obtain ⟨p, e1, e2⟩ := bnd_s fe
    subst qe
    subst q2
    subst q1
    subst q0
    exact ⟨_, _, _, _, 4, rfl, (by decide), m_X12_within N e1, e2⟩
  rcases kb_s e with ⟨rfl, e⟩ | e
  · obtain ⟨b0, r0, q0, f0⟩ := pr1_s e
    obtain ⟨b1, r1, q1, f1⟩ := pp1_s f0
    obtain ⟨qe, fe⟩ := pe_s f1
    obtain ⟨p, e1, e2⟩ := bnd_s fe
    subst qe
    subst q1
    subst q0
    exact ⟨_, _, _, _, 4, rfl, (by decide), m_X12_no N e1, e2⟩
  rcases kb_s e with ⟨rfl, e⟩ | e
  · obtain ⟨b0, r0, q0, f0⟩ := pr1_s e
    obtain ⟨b1, r1, q1, f1⟩ := pp1_s f0
    obtain ⟨qe, fe⟩ := pe_s f1
    obtain ⟨p, e1, e2⟩ := bnd_s fe
    subst qe
    subst q1
    subst q0
    exact ⟨_, _, _, _, 4, rfl, (by decide), m_X12_crossingsOf N e1, e2⟩
  rcases kb_s e with ⟨rfl, e⟩ | e
  · obtain ⟨b0, r0, q0, f0⟩ := pr1_s e
    obtain ⟨b1, r1, q1, f1⟩ := pp1_s f0
    obtain ⟨b2, r2, q2, f2⟩ := pp1_s f1
    obtain ⟨b3, r3, q3, f3⟩ := pp1_s f2
    obtain ⟨qe, fe⟩ := pe_s f3
    obtain ⟨p, e1, e2⟩ := bnd_s fe
    subst qe
    subst q3
    subst q2
    subst q1
    subst q0
    exact ⟨_, _, _, _, 4, rfl, (by decide), m_X12_placeIn N e1, e2⟩
  rcases kb_s e with ⟨rfl, e⟩ | e
  · obtain ⟨b0, r0, q0, f0⟩ := pr1_s e
    obtain ⟨b1, r1, q1, f1⟩ := pp1_s f0
    obtain ⟨b2, r2, q2, f2⟩ := pp1_s f1
    obtain ⟨b3, r3, q3, f3⟩ := pp1_s f2
    obtain ⟨qe, fe⟩ := pe_s f3
    obtain ⟨p, e1, e2⟩ := bnd_s fe
    subst qe
    subst q3
    subst q2
    subst q1
    subst q0
    exact ⟨_, _, _, _, 6, rfl, (by decide), m_X12_when N e1, e2⟩
  cases e
set_option maxRecDepth 100000 in
theorem t_X12_learner_239 {X : Nat × (Nat → Int32)} (N : Nat) {q : Int32 × mH} {k124 : Nat → Int32 → Int32 → Int32 → Int32 → Int32 → Int32 → Int32 → Int32 → Int32 → Int32 → mH → Option (Int32 × mH)} (hk124 : ∀ (a0 : Nat) (x1 : Int32) (x3 : Int32) (x4 : Int32) (x5 : Int32) (x6 : Int32) (x7 : Int32) (x8 : Int32) (x9 : Int32) (x10 : Int32) (x11 : Int32) g, k124 a0 x1 x3 x4 x5 x6 x7 x8 x9 x10 x11 g = some q → MW X y_X12_learner 7 124 [(0, .ref a0), (1, .int x1), (3, .int x3), (4, .int x4), (5, .int x5), (6, .int x6), (7, .int x7), (8, .int x8), (9, .int x9), (10, .int x10), (11, .int x11)] [] g (some (.int q.1)) q.2) (a0 : Nat) (x1 : Int32) (x3 : Int32) (x4 : Int32) (x5 : Int32) (x6 : Int32) (x7 : Int32) (x8 : Int32) (x9 : Int32) (x10 : Int32) (x11 : Int32) (s_0 : Int32) (s_1 : Int32) (h : mH) (hf : J_X12_learner_239 N k124 a0 x1 x3 x4 x5 x6 x7 x8 x9 x10 x11 s_0 s_1 h = some q) : MW X y_X12_learner 7 239 [(0, .ref a0), (1, .int x1), (3, .int x3), (4, .int x4), (5, .int x5), (6, .int x6), (7, .int x7), (8, .int x8), (9, .int x9), (10, .int x10), (11, .int x11)] [.int s_1, .int s_0] h (some (.int q.1)) q.2 := by
  refine ev_ok (o := 12) (ini := false) (Cl := C_X12_learner N) (Rc := RcI) (B := B_X12_learner) (K := fun pc ls st g => kb pc 124 (lgr 0 ls fun a0 => lgi 1 ls fun x1 => lgi 3 ls fun x3 => lgi 4 ls fun x4 => lgi 5 ls fun x5 => lgi 6 ls fun x6 => lgi 7 ls fun x7 => lgi 8 ls fun x8 => lgi 9 ls fun x9 => lgi 10 ls fun x10 => lgi 11 ls fun x11 => pe st (k124 a0 x1 x3 x4 x5 x6 x7 x8 x9 x10 x11 g)) (none)) rfl (fun e => by cases e) (by decide) (rcI_ok rfl) ?_ (co_X12_learner N q) lb_X12_learner 3000 239 S_X12_learner_239 _ _ h ls_X12_learner_239 hf
  intro pc ls st g e
  rcases kb_s e with ⟨rfl, e⟩ | e
  · obtain ⟨a0, e0, f0⟩ := lgr_s e
    obtain ⟨x1, e1, f1⟩ := lgi_s f0
    obtain ⟨x3, e2, f2⟩ := lgi_s f1
    obtain ⟨x4, e3, f3⟩ := lgi_s f2
    obtain ⟨x5, e4, f4⟩ := lgi_s f3
    obtain ⟨x6, e5, f5⟩ := lgi_s f4
    obtain ⟨x7, e6, f6⟩ := lgi_s f5
    obtain ⟨x8, e7, f7⟩ := lgi_s f6
    obtain ⟨x9, e8, f8⟩ := lgi_s f7
    obtain ⟨x10, e9, f9⟩ := lgi_s f8
    obtain ⟨x11, e10, f10⟩ := lgi_s f9
    obtain ⟨qe, fe⟩ := pe_s f10
    subst qe
    exact MW.sub (List.forall_mem_cons.mpr ⟨lg_mem e0, List.forall_mem_cons.mpr ⟨lg_mem e1, List.forall_mem_cons.mpr ⟨lg_mem e2, List.forall_mem_cons.mpr ⟨lg_mem e3, List.forall_mem_cons.mpr ⟨lg_mem e4, List.forall_mem_cons.mpr ⟨lg_mem e5, List.forall_mem_cons.mpr ⟨lg_mem e6, List.forall_mem_cons.mpr ⟨lg_mem e7, List.forall_mem_cons.mpr ⟨lg_mem e8, List.forall_mem_cons.mpr ⟨lg_mem e9, List.forall_mem_cons.mpr ⟨lg_mem e10, fun _ h => absurd h List.not_mem_nil⟩⟩⟩⟩⟩⟩⟩⟩⟩⟩⟩) (hk124 a0 x1 x3 x4 x5 x6 x7 x8 x9 x10 x11 g fe)
  cases e
set_option maxRecDepth 100000 in
theorem t_X12_learner_209 {X : Nat × (Nat → Int32)} (N : Nat) {q : Int32 × mH} {k124 : Nat → Int32 → Int32 → Int32 → Int32 → Int32 → Int32 → Int32 → Int32 → Int32 → Int32 → mH → Option (Int32 × mH)} (hk124 : ∀ (a0 : Nat) (x1 : Int32) (x3 : Int32) (x4 : Int32) (x5 : Int32) (x6 : Int32) (x7 : Int32) (x8 : Int32) (x9 : Int32) (x10 : Int32) (x11 : Int32) g, k124 a0 x1 x3 x4 x5 x6 x7 x8 x9 x10 x11 g = some q → MW X y_X12_learner 7 124 [(0, .ref a0), (1, .int x1), (3, .int x3), (4, .int x4), (5, .int x5), (6, .int x6), (7, .int x7), (8, .int x8), (9, .int x9), (10, .int x10), (11, .int x11)] [] g (some (.int q.1)) q.2) (a0 : Nat) (x1 : Int32) (x3 : Int32) (x4 : Int32) (x5 : Int32) (x6 : Int32) (x7 : Int32) (x8 : Int32) (x9 : Int32) (x10 : Int32) (x11 : Int32) (x12 : Int32) (s_0 : Int32) (h : mH) (hf : J_X12_learner_209 N k124 a0 x1 x3 x4 x5 x6 x7 x8 x9 x10 x11 x12 s_0 h = some q) : MW X y_X12_learner 7 209 [(0, .ref a0), (1, .int x1), (3, .int x3), (4, .int x4), (5, .int x5), (6, .int x6), (7, .int x7), (8, .int x8), (9, .int x9), (10, .int x10), (11, .int x11), (12, .int x12)] [.int s_0] h (some (.int q.1)) q.2 := by
  refine ev_ok (o := 12) (ini := false) (Cl := C_X12_learner N) (Rc := RcI) (B := B_X12_learner) (K := fun pc ls st g => kb pc 239 (lgr 0 ls fun a0 => lgi 1 ls fun x1 => lgi 3 ls fun x3 => lgi 4 ls fun x4 => lgi 5 ls fun x5 => lgi 6 ls fun x6 => lgi 7 ls fun x7 => lgi 8 ls fun x8 => lgi 9 ls fun x9 => lgi 10 ls fun x10 => lgi 11 ls fun x11 => pp1 st fun s_1 st => pp1 st fun s_0 st => pe st (J_X12_learner_239 N k124 a0 x1 x3 x4 x5 x6 x7 x8 x9 x10 x11 s_0 s_1 g)) (none)) rfl (fun e => by cases e) (by decide) (rcI_ok rfl) ?_ (co_X12_learner N q) lb_X12_learner 3000 209 S_X12_learner_209 _ _ h ls_X12_learner_209 hf
  intro pc ls st g e
  rcases kb_s e with ⟨rfl, e⟩ | e
  · obtain ⟨a0, e0, f0⟩ := lgr_s e
    obtain ⟨x1, e1, f1⟩ := lgi_s f0
    obtain ⟨x3, e2, f2⟩ := lgi_s f1
    obtain ⟨x4, e3, f3⟩ := lgi_s f2
    obtain ⟨x5, e4, f4⟩ := lgi_s f3
    obtain ⟨x6, e5, f5⟩ := lgi_s f4
    obtain ⟨x7, e6, f6⟩ := lgi_s f5
    obtain ⟨x8, e7, f7⟩ := lgi_s f6
    obtain ⟨x9, e8, f8⟩ := lgi_s f7
    obtain ⟨x10, e9, f9⟩ := lgi_s f8
    obtain ⟨x11, e10, f10⟩ := lgi_s f9
    obtain ⟨s_1, r0, q0, g0⟩ := pp1_s f10
    obtain ⟨s_0, r1, q1, g1⟩ := pp1_s g0
    obtain ⟨qe, fe⟩ := pe_s g1
    subst qe
    subst q1
    subst q0
    exact MW.sub (List.forall_mem_cons.mpr ⟨lg_mem e0, List.forall_mem_cons.mpr ⟨lg_mem e1, List.forall_mem_cons.mpr ⟨lg_mem e2, List.forall_mem_cons.mpr ⟨lg_mem e3, List.forall_mem_cons.mpr ⟨lg_mem e4, List.forall_mem_cons.mpr ⟨lg_mem e5, List.forall_mem_cons.mpr ⟨lg_mem e6, List.forall_mem_cons.mpr ⟨lg_mem e7, List.forall_mem_cons.mpr ⟨lg_mem e8, List.forall_mem_cons.mpr ⟨lg_mem e9, List.forall_mem_cons.mpr ⟨lg_mem e10, fun _ h => absurd h List.not_mem_nil⟩⟩⟩⟩⟩⟩⟩⟩⟩⟩⟩) (t_X12_learner_239 N hk124 a0 x1 x3 x4 x5 x6 x7 x8 x9 x10 x11 s_0 s_1 g fe)
  cases e
set_option maxRecDepth 100000 in
theorem t_X12_learner_176 {X : Nat × (Nat → Int32)} (N : Nat) {q : Int32 × mH} {k124 : Nat → Int32 → Int32 → Int32 → Int32 → Int32 → Int32 → Int32 → Int32 → Int32 → Int32 → mH → Option (Int32 × mH)} (hk124 : ∀ (a0 : Nat) (x1 : Int32) (x3 : Int32) (x4 : Int32) (x5 : Int32) (x6 : Int32) (x7 : Int32) (x8 : Int32) (x9 : Int32) (x10 : Int32) (x11 : Int32) g, k124 a0 x1 x3 x4 x5 x6 x7 x8 x9 x10 x11 g = some q → MW X y_X12_learner 7 124 [(0, .ref a0), (1, .int x1), (3, .int x3), (4, .int x4), (5, .int x5), (6, .int x6), (7, .int x7), (8, .int x8), (9, .int x9), (10, .int x10), (11, .int x11)] [] g (some (.int q.1)) q.2) (a0 : Nat) (x1 : Int32) (x3 : Int32) (x4 : Int32) (x5 : Int32) (x6 : Int32) (x7 : Int32) (x8 : Int32) (x9 : Int32) (x10 : Int32) (x11 : Int32) (h : mH) (hf : J_X12_learner_176 N k124 a0 x1 x3 x4 x5 x6 x7 x8 x9 x10 x11 h = some q) : MW X y_X12_learner 7 176 [(0, .ref a0), (1, .int x1), (3, .int x3), (4, .int x4), (5, .int x5), (6, .int x6), (7, .int x7), (8, .int x8), (9, .int x9), (10, .int x10), (11, .int x11)] [] h (some (.int q.1)) q.2 := by
  refine ev_ok (o := 12) (ini := false) (Cl := C_X12_learner N) (Rc := RcI) (B := B_X12_learner) (K := fun pc ls st g => kb pc 209 (lgr 0 ls fun a0 => lgi 1 ls fun x1 => lgi 3 ls fun x3 => lgi 4 ls fun x4 => lgi 5 ls fun x5 => lgi 6 ls fun x6 => lgi 7 ls fun x7 => lgi 8 ls fun x8 => lgi 9 ls fun x9 => lgi 10 ls fun x10 => lgi 11 ls fun x11 => lgi 12 ls fun x12 => pp1 st fun s_0 st => pe st (J_X12_learner_209 N k124 a0 x1 x3 x4 x5 x6 x7 x8 x9 x10 x11 x12 s_0 g)) (none)) rfl (fun e => by cases e) (by decide) (rcI_ok rfl) ?_ (co_X12_learner N q) lb_X12_learner 3000 176 S_X12_learner_176 _ _ h ls_X12_learner_176 hf
  intro pc ls st g e
  rcases kb_s e with ⟨rfl, e⟩ | e
  · obtain ⟨a0, e0, f0⟩ := lgr_s e
    obtain ⟨x1, e1, f1⟩ := lgi_s f0
    obtain ⟨x3, e2, f2⟩ := lgi_s f1
    obtain ⟨x4, e3, f3⟩ := lgi_s f2
    obtain ⟨x5, e4, f4⟩ := lgi_s f3
    obtain ⟨x6, e5, f5⟩ := lgi_s f4
    obtain ⟨x7, e6, f6⟩ := lgi_s f5
    obtain ⟨x8, e7, f7⟩ := lgi_s f6
    obtain ⟨x9, e8, f8⟩ := lgi_s f7
    obtain ⟨x10, e9, f9⟩ := lgi_s f8
    obtain ⟨x11, e10, f10⟩ := lgi_s f9
    obtain ⟨x12, e11, f11⟩ := lgi_s f10
    obtain ⟨s_0, r0, q0, g0⟩ := pp1_s f11
    obtain ⟨qe, fe⟩ := pe_s g0
    subst qe
    subst q0
    exact MW.sub (List.forall_mem_cons.mpr ⟨lg_mem e0, List.forall_mem_cons.mpr ⟨lg_mem e1, List.forall_mem_cons.mpr ⟨lg_mem e2, List.forall_mem_cons.mpr ⟨lg_mem e3, List.forall_mem_cons.mpr ⟨lg_mem e4, List.forall_mem_cons.mpr ⟨lg_mem e5, List.forall_mem_cons.mpr ⟨lg_mem e6, List.forall_mem_cons.mpr ⟨lg_mem e7, List.forall_mem_cons.mpr ⟨lg_mem e8, List.forall_mem_cons.mpr ⟨lg_mem e9, List.forall_mem_cons.mpr ⟨lg_mem e10, List.forall_mem_cons.mpr ⟨lg_mem e11, fun _ h => absurd h List.not_mem_nil⟩⟩⟩⟩⟩⟩⟩⟩⟩⟩⟩⟩) (t_X12_learner_209 N hk124 a0 x1 x3 x4 x5 x6 x7 x8 x9 x10 x11 x12 s_0 g fe)
  cases e
set_option maxRecDepth 100000 in
theorem t_X12_learner_124 {X : Nat × (Nat → Int32)} (N : Nat) {q : Int32 × mH} {k111 : Nat → Int32 → Int32 → Int32 → Int32 → Int32 → Int32 → Int32 → Int32 → Int32 → mH → Option (Int32 × mH)} (hk111 : ∀ (a0 : Nat) (x1 : Int32) (x3 : Int32) (x4 : Int32) (x5 : Int32) (x6 : Int32) (x7 : Int32) (x8 : Int32) (x9 : Int32) (x10 : Int32) g, k111 a0 x1 x3 x4 x5 x6 x7 x8 x9 x10 g = some q → MW X y_X12_learner 7 111 [(0, .ref a0), (1, .int x1), (3, .int x3), (4, .int x4), (5, .int x5), (6, .int x6), (7, .int x7), (8, .int x8), (9, .int x9), (10, .int x10)] [] g (some (.int q.1)) q.2) : ∀ (n : Nat) (a0 : Nat) (x1 : Int32) (x3 : Int32) (x4 : Int32) (x5 : Int32) (x6 : Int32) (x7 : Int32) (x8 : Int32) (x9 : Int32) (x10 : Int32) (x11 : Int32) (h : mH), L_X12_learner_124 N k111 n a0 x1 x3 x4 x5 x6 x7 x8 x9 x10 x11 h = some q → MW X y_X12_learner 7 124 [(0, .ref a0), (1, .int x1), (3, .int x3), (4, .int x4), (5, .int x5), (6, .int x6), (7, .int x7), (8, .int x8), (9, .int x9), (10, .int x10), (11, .int x11)] [] h (some (.int q.1)) q.2 := by
  intro n
  induction n with
  | zero => intro a0 x1 x3 x4 x5 x6 x7 x8 x9 x10 x11 h hf; cases hf
  | succ n ih =>
    intro a0 x1 x3 x4 x5 x6 x7 x8 x9 x10 x11 h hf
    refine ev_ok (o := 12) (ini := false) (Cl := C_X12_learner N) (Rc := RcI) (B := B_X12_learner) (K := fun pc ls st g => kb pc 111 (lgr 0 ls fun a0 => lgi 1 ls fun x1 => lgi 3 ls fun x3 => lgi 4 ls fun x4 => lgi 5 ls fun x5 => lgi 6 ls fun x6 => lgi 7 ls fun x7 => lgi 8 ls fun x8 => lgi 9 ls fun x9 => lgi 10 ls fun x10 => pe st (k111 a0 x1 x3 x4 x5 x6 x7 x8 x9 x10 g)) (kb pc 176 (lgr 0 ls fun a0 => lgi 1 ls fun x1 => lgi 3 ls fun x3 => lgi 4 ls fun x4 => lgi 5 ls fun x5 => lgi 6 ls fun x6 => lgi 7 ls fun x7 => lgi 8 ls fun x8 => lgi 9 ls fun x9 => lgi 10 ls fun x10 => lgi 11 ls fun x11 => pe st (J_X12_learner_176 N (L_X12_learner_124 N k111 n) a0 x1 x3 x4 x5 x6 x7 x8 x9 x10 x11 g)) (none))) rfl (fun e => by cases e) (by decide) (rcI_ok rfl) ?_ (co_X12_learner N q) lb_X12_learner 3000 124 S_X12_learner_124 _ _ h ls_X12_learner_124 hf
    intro pc ls st g e
    rcases kb_s e with ⟨rfl, e⟩ | e
    · obtain ⟨a0, e0, f0⟩ := lgr_s e
      obtain ⟨x1, e1, f1⟩ := lgi_s f0
      obtain ⟨x3, e2, f2⟩ := lgi_s f1
      obtain ⟨x4, e3, f3⟩ := lgi_s f2
      obtain ⟨x5, e4, f4⟩ := lgi_s f3
      obtain ⟨x6, e5, f5⟩ := lgi_s f4
      obtain ⟨x7, e6, f6⟩ := lgi_s f5
      obtain ⟨x8, e7, f7⟩ := lgi_s f6
      obtain ⟨x9, e8, f8⟩ := lgi_s f7
      obtain ⟨x10, e9, f9⟩ := lgi_s f8
      obtain ⟨qe, fe⟩ := pe_s f9
      subst qe
      exact MW.sub (List.forall_mem_cons.mpr ⟨lg_mem e0, List.forall_mem_cons.mpr ⟨lg_mem e1, List.forall_mem_cons.mpr ⟨lg_mem e2, List.forall_mem_cons.mpr ⟨lg_mem e3, List.forall_mem_cons.mpr ⟨lg_mem e4, List.forall_mem_cons.mpr ⟨lg_mem e5, List.forall_mem_cons.mpr ⟨lg_mem e6, List.forall_mem_cons.mpr ⟨lg_mem e7, List.forall_mem_cons.mpr ⟨lg_mem e8, List.forall_mem_cons.mpr ⟨lg_mem e9, fun _ h => absurd h List.not_mem_nil⟩⟩⟩⟩⟩⟩⟩⟩⟩⟩) (hk111 a0 x1 x3 x4 x5 x6 x7 x8 x9 x10 g fe)
    rcases kb_s e with ⟨rfl, e⟩ | e
    · obtain ⟨a0, e0, f0⟩ := lgr_s e
      obtain ⟨x1, e1, f1⟩ := lgi_s f0
      obtain ⟨x3, e2, f2⟩ := lgi_s f1
      obtain ⟨x4, e3, f3⟩ := lgi_s f2
      obtain ⟨x5, e4, f4⟩ := lgi_s f3
      obtain ⟨x6, e5, f5⟩ := lgi_s f4
      obtain ⟨x7, e6, f6⟩ := lgi_s f5
      obtain ⟨x8, e7, f7⟩ := lgi_s f6
      obtain ⟨x9, e8, f8⟩ := lgi_s f7
      obtain ⟨x10, e9, f9⟩ := lgi_s f8
      obtain ⟨x11, e10, f10⟩ := lgi_s f9
      obtain ⟨qe, fe⟩ := pe_s f10
      subst qe
      exact MW.sub (List.forall_mem_cons.mpr ⟨lg_mem e0, List.forall_mem_cons.mpr ⟨lg_mem e1, List.forall_mem_cons.mpr ⟨lg_mem e2, List.forall_mem_cons.mpr ⟨lg_mem e3, List.forall_mem_cons.mpr ⟨lg_mem e4, List.forall_mem_cons.mpr ⟨lg_mem e5, List.forall_mem_cons.mpr ⟨lg_mem e6, List.forall_mem_cons.mpr ⟨lg_mem e7, List.forall_mem_cons.mpr ⟨lg_mem e8, List.forall_mem_cons.mpr ⟨lg_mem e9, List.forall_mem_cons.mpr ⟨lg_mem e10, fun _ h => absurd h List.not_mem_nil⟩⟩⟩⟩⟩⟩⟩⟩⟩⟩⟩) (t_X12_learner_176 N (fun a0 x1 x3 x4 x5 x6 x7 x8 x9 x10 x11 g e => ih a0 x1 x3 x4 x5 x6 x7 x8 x9 x10 x11 g e) a0 x1 x3 x4 x5 x6 x7 x8 x9 x10 x11 g fe)
    cases e
set_option maxRecDepth 100000 in
theorem t_X12_learner_111 {X : Nat × (Nat → Int32)} (N : Nat) {q : Int32 × mH} : ∀ (n : Nat) (a0 : Nat) (x1 : Int32) (x3 : Int32) (x4 : Int32) (x5 : Int32) (x6 : Int32) (x7 : Int32) (x8 : Int32) (x9 : Int32) (x10 : Int32) (h : mH), L_X12_learner_111 N n a0 x1 x3 x4 x5 x6 x7 x8 x9 x10 h = some q → MW X y_X12_learner 7 111 [(0, .ref a0), (1, .int x1), (3, .int x3), (4, .int x4), (5, .int x5), (6, .int x6), (7, .int x7), (8, .int x8), (9, .int x9), (10, .int x10)] [] h (some (.int q.1)) q.2 := by
  intro n
  induction n with
  | zero => intro a0 x1 x3 x4 x5 x6 x7 x8 x9 x10 h hf; cases hf
  | succ n ih =>
    intro a0 x1 x3 x4 x5 x6 x7 x8 x9 x10 h hf
    refine ev_ok (o := 12) (ini := false) (Cl := C_X12_learner N) (Rc := RcI) (B := B_X12_learner) (K := fun pc ls st g => kb pc 124 (lgr 0 ls fun a0 => lgi 1 ls fun x1 => lgi 3 ls fun x3 => lgi 4 ls fun x4 => lgi 5 ls fun x5 => lgi 6 ls fun x6 => lgi 7 ls fun x7 => lgi 8 ls fun x8 => lgi 9 ls fun x9 => lgi 10 ls fun x10 => lgi 11 ls fun x11 => pe st (L_X12_learner_124 N (L_X12_learner_111 N n) N a0 x1 x3 x4 x5 x6 x7 x8 x9 x10 x11 g)) (none)) rfl (fun e => by cases e) (by decide) (rcI_ok rfl) ?_ (co_X12_learner N q) lb_X12_learner 3000 111 S_X12_learner_111 _ _ h ls_X12_learner_111 hf
    intro pc ls st g e
    rcases kb_s e with ⟨rfl, e⟩ | e
    · obtain ⟨a0, e0, f0⟩ := lgr_s e
      obtain ⟨x1, e1, f1⟩ := lgi_s f0
      obtain ⟨x3, e2, f2⟩ := lgi_s f1
      obtain ⟨x4, e3, f3⟩ := lgi_s f2
      obtain ⟨x5, e4, f4⟩ := lgi_s f3
      obtain ⟨x6, e5, f5⟩ := lgi_s f4
      obtain ⟨x7, e6, f6⟩ := lgi_s f5
      obtain ⟨x8, e7, f7⟩ := lgi_s f6
      obtain ⟨x9, e8, f8⟩ := lgi_s f7
      obtain ⟨x10, e9, f9⟩ := lgi_s f8
      obtain ⟨x11, e10, f10⟩ := lgi_s f9
      obtain ⟨qe, fe⟩ := pe_s f10
      subst qe
      exact MW.sub (List.forall_mem_cons.mpr ⟨lg_mem e0, List.forall_mem_cons.mpr ⟨lg_mem e1, List.forall_mem_cons.mpr ⟨lg_mem e2, List.forall_mem_cons.mpr ⟨lg_mem e3, List.forall_mem_cons.mpr ⟨lg_mem e4, List.forall_mem_cons.mpr ⟨lg_mem e5, List.forall_mem_cons.mpr ⟨lg_mem e6, List.forall_mem_cons.mpr ⟨lg_mem e7, List.forall_mem_cons.mpr ⟨lg_mem e8, List.forall_mem_cons.mpr ⟨lg_mem e9, List.forall_mem_cons.mpr ⟨lg_mem e10, fun _ h => absurd h List.not_mem_nil⟩⟩⟩⟩⟩⟩⟩⟩⟩⟩⟩) (t_X12_learner_124 N (fun a0 x1 x3 x4 x5 x6 x7 x8 x9 x10 g e => ih a0 x1 x3 x4 x5 x6 x7 x8 x9 x10 g e) N a0 x1 x3 x4 x5 x6 x7 x8 x9 x10 x11 g fe)
    cases e
set_option maxRecDepth 100000 in
theorem t_X12_learner_55 {X : Nat × (Nat → Int32)} (N : Nat) {q : Int32 × mH} : ∀ (n : Nat) (a0 : Nat) (x1 : Int32) (x2 : Int32) (x3 : Int32) (x4 : Int32) (x5 : Int32) (h : mH), L_X12_learner_55 N n a0 x1 x2 x3 x4 x5 h = some q → MW X y_X12_learner 7 55 [(0, .ref a0), (1, .int x1), (2, .int x2), (3, .int x3), (4, .int x4), (5, .int x5)] [] h (some (.int q.1)) q.2 := by
  intro n
  induction n with
  | zero => intro a0 x1 x2 x3 x4 x5 h hf; cases hf
  | succ n ih =>
    intro a0 x1 x2 x3 x4 x5 h hf
    refine ev_ok (o := 12) (ini := false) (Cl := C_X12_learner N) (Rc := RcI) (B := B_X12_learner) (K := fun pc ls st g => kb pc 55 (lgr 0 ls fun a0 => lgi 1 ls fun x1 => lgi 2 ls fun x2 => lgi 3 ls fun x3 => lgi 4 ls fun x4 => lgi 5 ls fun x5 => pe st (L_X12_learner_55 N n a0 x1 x2 x3 x4 x5 g)) (kb pc 111 (lgr 0 ls fun a0 => lgi 1 ls fun x1 => lgi 3 ls fun x3 => lgi 4 ls fun x4 => lgi 5 ls fun x5 => lgi 6 ls fun x6 => lgi 7 ls fun x7 => lgi 8 ls fun x8 => lgi 9 ls fun x9 => lgi 10 ls fun x10 => pe st (L_X12_learner_111 N N a0 x1 x3 x4 x5 x6 x7 x8 x9 x10 g)) (none))) rfl (fun e => by cases e) (by decide) (rcI_ok rfl) ?_ (co_X12_learner N q) lb_X12_learner 3000 55 S_X12_learner_55 _ _ h ls_X12_learner_55 hf
    intro pc ls st g e
    rcases kb_s e with ⟨rfl, e⟩ | e
    · obtain ⟨a0, e0, f0⟩ := lgr_s e
      obtain ⟨x1, e1, f1⟩ := lgi_s f0
      obtain ⟨x2, e2, f2⟩ := lgi_s f1
      obtain ⟨x3, e3, f3⟩ := lgi_s f2
      obtain ⟨x4, e4, f4⟩ := lgi_s f3
      obtain ⟨x5, e5, f5⟩ := lgi_s f4
      obtain ⟨qe, fe⟩ := pe_s f5
      subst qe
      exact MW.sub (List.forall_mem_cons.mpr ⟨lg_mem e0, List.forall_mem_cons.mpr ⟨lg_mem e1, List.forall_mem_cons.mpr ⟨lg_mem e2, List.forall_mem_cons.mpr ⟨lg_mem e3, List.forall_mem_cons.mpr ⟨lg_mem e4, List.forall_mem_cons.mpr ⟨lg_mem e5, fun _ h => absurd h List.not_mem_nil⟩⟩⟩⟩⟩⟩) (ih a0 x1 x2 x3 x4 x5 g fe)
    rcases kb_s e with ⟨rfl, e⟩ | e
    · obtain ⟨a0, e0, f0⟩ := lgr_s e
      obtain ⟨x1, e1, f1⟩ := lgi_s f0
      obtain ⟨x3, e2, f2⟩ := lgi_s f1
      obtain ⟨x4, e3, f3⟩ := lgi_s f2
      obtain ⟨x5, e4, f4⟩ := lgi_s f3
      obtain ⟨x6, e5, f5⟩ := lgi_s f4
      obtain ⟨x7, e6, f6⟩ := lgi_s f5
      obtain ⟨x8, e7, f7⟩ := lgi_s f6
      obtain ⟨x9, e8, f8⟩ := lgi_s f7
      obtain ⟨x10, e9, f9⟩ := lgi_s f8
      obtain ⟨qe, fe⟩ := pe_s f9
      subst qe
      exact MW.sub (List.forall_mem_cons.mpr ⟨lg_mem e0, List.forall_mem_cons.mpr ⟨lg_mem e1, List.forall_mem_cons.mpr ⟨lg_mem e2, List.forall_mem_cons.mpr ⟨lg_mem e3, List.forall_mem_cons.mpr ⟨lg_mem e4, List.forall_mem_cons.mpr ⟨lg_mem e5, List.forall_mem_cons.mpr ⟨lg_mem e6, List.forall_mem_cons.mpr ⟨lg_mem e7, List.forall_mem_cons.mpr ⟨lg_mem e8, List.forall_mem_cons.mpr ⟨lg_mem e9, fun _ h => absurd h List.not_mem_nil⟩⟩⟩⟩⟩⟩⟩⟩⟩⟩) (t_X12_learner_111 N N a0 x1 x3 x4 x5 x6 x7 x8 x9 x10 g fe)
    cases e
set_option maxRecDepth 100000 in
theorem m_X12_learner (N : Nat) {a0 : Nat} {x1 : Int32} {x2 : Int32} {x3 : Int32} {x4 : Int32} {h : mH} {q : Int32 × mH} (hf : f_X12_learner N a0 x1 x2 x3 x4 h = some q) : MM y_X12_learner 7 [.ref a0, .int x1, .int x2, .int x3, .int x4] h (some (.int q.1)) q.2 := by
  refine MM.of (mFx (j := 285) rfl).2.2.2.1 (Nat.le_of_ble_eq_true rfl) (fun X => ?_)
  refine ev_ok (o := 12) (ini := false) (Cl := C_X12_learner N) (Rc := RcI) (B := B_X12_learner) (K := fun pc ls st g => kb pc 55 (lgr 0 ls fun a0 => lgi 1 ls fun x1 => lgi 2 ls fun x2 => lgi 3 ls fun x3 => lgi 4 ls fun x4 => lgi 5 ls fun x5 => pe st (L_X12_learner_55 N N a0 x1 x2 x3 x4 x5 g)) (none)) rfl (fun e => by cases e) (by decide) (rcI_ok rfl) ?_ (co_X12_learner N q) lb_X12_learner 3000 0 S_X12_learner_0 _ _ h ls_X12_learner_0 hf
  intro pc ls st g e
  rcases kb_s e with ⟨rfl, e⟩ | e
  · obtain ⟨a0, e0, f0⟩ := lgr_s e
    obtain ⟨x1, e1, f1⟩ := lgi_s f0
    obtain ⟨x2, e2, f2⟩ := lgi_s f1
    obtain ⟨x3, e3, f3⟩ := lgi_s f2
    obtain ⟨x4, e4, f4⟩ := lgi_s f3
    obtain ⟨x5, e5, f5⟩ := lgi_s f4
    obtain ⟨qe, fe⟩ := pe_s f5
    subst qe
    exact MW.sub (List.forall_mem_cons.mpr ⟨lg_mem e0, List.forall_mem_cons.mpr ⟨lg_mem e1, List.forall_mem_cons.mpr ⟨lg_mem e2, List.forall_mem_cons.mpr ⟨lg_mem e3, List.forall_mem_cons.mpr ⟨lg_mem e4, List.forall_mem_cons.mpr ⟨lg_mem e5, fun _ h => absurd h List.not_mem_nil⟩⟩⟩⟩⟩⟩) (t_X12_learner_55 N N a0 x1 x2 x3 x4 x5 g fe)
  cases e
def J_X12_readsPicture_151 (N : Nat) (k50 : Nat → Int32 → Int32 → Int32 → Int32 → Int32 → mH → Option (Int32 × mH)) (a0 : Nat) (x1 : Int32) (x2 : Int32) (x3 : Int32) (x4 : Int32) (x5 : Int32) (s_0 : Int32) (h : mH) : Option (Int32 × mH) :=
  if s_0 = 0 then
    (rcv h 12 a0).bind fun _ =>
    (f_X12_no N a0 (jI (-9)) h).bind fun p1 =>
    some (p1.1, p1.2)
  else
    let w2 := iAdd x5 (jI 1)
    k50 a0 x1 x2 x3 x4 w2 h
def L_X12_readsPicture_200 (N : Nat) (k190 : Nat → Int32 → Int32 → Int32 → Int32 → mH → Option (Int32 × mH)) : Nat → Nat → Int32 → Int32 → Int32 → Int32 → Int32 → mH → Option (Int32 × mH)
  | 0, _, _, _, _, _, _, _ => none
  | n + 1, a0, x1, x4, x5, x6, x7, h =>
    (gR h 12 a0 2).bind fun v1 =>
    (ldI 0 h v1 (jI 0)).bind fun v2 =>
    if x7 < v2 then
      (gR h 12 a0 2).bind fun v3 =>
      (gR h 12 a0 4).bind fun v4 =>
      (ldI 0 h v4 (iAdd (iMul x6 x4) x7)).bind fun v5 =>
      (stI 0 h v3 (iAdd (iAdd x1 (iMul (jI 32) x6)) x7) v5).bind fun h6 =>
      let w7 := iAdd x7 (jI 1)
      L_X12_readsPicture_200 N k190 n a0 x1 x4 x5 x6 w7 h6
    else
      let w8 := iAdd x6 (jI 1)
      k190 a0 x1 x4 x5 w8 h
def L_X12_readsPicture_190 (N : Nat) : Nat → Nat → Int32 → Int32 → Int32 → Int32 → mH → Option (Int32 × mH)
  | 0, _, _, _, _, _, _ => none
  | n + 1, a0, x1, x4, x5, x6, h =>
    if x6 < x5 then
      L_X12_readsPicture_200 N (L_X12_readsPicture_190 N n) N a0 x1 x4 x5 x6 (jI 0) h
    else
      some (x5, h)
def L_X12_readsPicture_50 (N : Nat) : Nat → Nat → Int32 → Int32 → Int32 → Int32 → Int32 → mH → Option (Int32 × mH)
  | 0, _, _, _, _, _, _, _ => none
  | n + 1, a0, x1, x2, x3, x4, x5, h =>
    if x5 < x2 then
      (gR h 12 a0 4).bind fun v1 =>
      (ldI 0 h v1 x5).bind fun v2 =>
      if x4 = 0 then none else
      if (iRem x5 x4) = (iSub x4 (jI 1)) then
        if v2 = (jI 59) then
          J_X12_readsPicture_151 N (L_X12_readsPicture_50 N n) a0 x1 x2 x3 x4 x5 (jI 1) h
        else
          J_X12_readsPicture_151 N (L_X12_readsPicture_50 N n) a0 x1 x2 x3 x4 x5 (jI 0) h
      else
        if x3 = 0 then
          if v2 = (jI 111) then
            J_X12_readsPicture_151 N (L_X12_readsPicture_50 N n) a0 x1 x2 x3 x4 x5 (jI 1) h
          else
            if v2 = (jI 117) then
              J_X12_readsPicture_151 N (L_X12_readsPicture_50 N n) a0 x1 x2 x3 x4 x5 (jI 1) h
            else
              if v2 = (jI 63) then
                J_X12_readsPicture_151 N (L_X12_readsPicture_50 N n) a0 x1 x2 x3 x4 x5 (jI 1) h
              else
                J_X12_readsPicture_151 N (L_X12_readsPicture_50 N n) a0 x1 x2 x3 x4 x5 (jI 0) h
        else
          if v2 < (jI 48) then
            if v2 = (jI 46) then
              J_X12_readsPicture_151 N (L_X12_readsPicture_50 N n) a0 x1 x2 x3 x4 x5 (jI 1) h
            else
              J_X12_readsPicture_151 N (L_X12_readsPicture_50 N n) a0 x1 x2 x3 x4 x5 (jI 0) h
          else
            if (jI 53) < v2 then
              if v2 = (jI 46) then
                J_X12_readsPicture_151 N (L_X12_readsPicture_50 N n) a0 x1 x2 x3 x4 x5 (jI 1) h
              else
                J_X12_readsPicture_151 N (L_X12_readsPicture_50 N n) a0 x1 x2 x3 x4 x5 (jI 0) h
            else
              J_X12_readsPicture_151 N (L_X12_readsPicture_50 N n) a0 x1 x2 x3 x4 x5 (jI 1) h
    else
      if x4 = 0 then none else
      let w3 := iDiv x2 x4
      (gR h 12 a0 2).bind fun v4 =>
      (stI 0 h v4 (iSub x1 (jI 1)) w3).bind fun h5 =>
      L_X12_readsPicture_190 N N a0 x1 x4 w3 (jI 0) h5
def f_X12_readsPicture (N : Nat) (a0 : Nat) (x1 : Int32) (x2 : Int32) (x3 : Int32) (h : mH) : Option (Int32 × mH) :=
  (pV h 12 a0 9 (.int x2)).bind fun h1 =>
  (pV h1 12 a0 6 (.int (jI 0))).bind fun h2 =>
  (gR h2 12 a0 2).bind fun v3 =>
  (ldI 0 h2 v3 (jI 0)).bind fun v4 =>
  let w5 := iAdd v4 (jI 1)
  if x2 = 0 then
    (rcv h2 12 a0).bind fun _ =>
    (f_X12_no N a0 (jI (-9)) h2).bind fun p6 =>
    some (p6.1, p6.2)
  else
    if w5 = 0 then none else
    if (iRem x2 w5) = 0 then
      if w5 = 0 then none else
      if (jI 8) < (iDiv x2 w5) then
        (rcv h2 12 a0).bind fun _ =>
        (f_X12_no N a0 (jI (-9)) h2).bind fun p7 =>
        some (p7.1, p7.2)
      else
        L_X12_readsPicture_50 N N a0 x1 x2 x3 w5 (jI 0) h2
    else
      (rcv h2 12 a0).bind fun _ =>
      (f_X12_no N a0 (jI (-9)) h2).bind fun p8 =>
      some (p8.1, p8.2)
def y_X12_readsPicture : mM := (yX12_readsPicture, cX12_readsPicture, 8, (some .int))
def B_X12_readsPicture : List (Nat × List mI) := [(40, [(.aload_n 0, 1, [0], []), (.bipush (-9), 2, [], [-9]), (.invokevirtual 84, 3, [0, 224, 1, 12, 267], []), (.ireturn, 1, [], [])]), (47, [(.iconst 0, 1, [], [0]), (.istore 5, 2, [5], [])]), (88, [(.iconst 0, 1, [], [0]), (.goto 62, 3, [151], [])]), (92, [(.iload_n 3, 1, [3], []), (.ifCond .eq 32, 3, [125], []), (.iload 6, 2, [6], []), (.bipush 48, 2, [], [48]), (.if_icmp .lt 10, 3, [110], []), (.iload 6, 2, [6], []), (.bipush 53, 2, [], [53]), (.if_icmp .le 10, 3, [117], [])]), (110, [(.iload 6, 2, [6], []), (.bipush 46, 2, [], [46]), (.if_icmp .ne 7, 3, [121], [])]), (117, [(.iconst 1, 1, [], [1]), (.goto 33, 3, [151], [])]), (121, [(.iconst 0, 1, [], [0]), (.goto 29, 3, [151], [])]), (125, [(.iload 6, 2, [6], []), (.bipush 111, 2, [], [111]), (.if_icmp .eq 17, 3, [146], []), (.iload 6, 2, [6], []), (.bipush 117, 2, [], [117]), (.if_icmp .eq 10, 3, [146], []), (.iload 6, 2, [6], []), (.bipush 63, 2, [], [63]), (.if_icmp .ne 7, 3, [150], [])]), (146, [(.iconst 1, 1, [], [1]), (.goto 4, 3, [151], [])]), (150, [(.iconst 0, 1, [], [0])]), (165, [(.iinc 5 1, 3, [5], [1]), (.goto (-118), 3, [50], [])]), (171, [(.iload_n 2, 1, [2], []), (.iload 4, 2, [4], []), (.idiv, 1, [], []), (.istore 5, 2, [5], []), (.aload_n 0, 1, [0], []), (.getfield 17, 3, [12, 2, 2, 128], []), (.iload_n 1, 1, [1], []), (.iconst 1, 1, [], [1]), (.isub, 1, [], []), (.iload 5, 2, [5], []), (.iastore, 1, [], []), (.iconst 0, 1, [], [0]), (.istore 6, 2, [6], [])]), (245, [(.iinc 6 1, 3, [6], [1]), (.goto (-58), 3, [190], [])]), (251, [(.iload 5, 2, [5], []), (.ireturn, 1, [], [])])]
def S_X12_readsPicture_0 : List mI := [(.aload_n 0, 1, [0], []), (.iload_n 2, 1, [2], []), (.putfield 88, 3, [12, 9, 0, 135], []), (.aload_n 0, 1, [0], []), (.iconst 0, 1, [], [0]), (.putfield 81, 3, [12, 6, 0, 132], []), (.aload_n 0, 1, [0], []), (.getfield 17, 3, [12, 2, 2, 128], []), (.iconst 0, 1, [], [0]), (.iaload, 1, [0], []), (.iconst 1, 1, [], [1]), (.iadd, 1, [], []), (.istore 4, 2, [4], []), (.iload_n 2, 1, [2], []), (.ifCond .eq 19, 3, [40], []), (.iload_n 2, 1, [2], []), (.iload 4, 2, [4], []), (.irem, 1, [], []), (.ifCond .ne 12, 3, [40], []), (.iload_n 2, 1, [2], []), (.iload 4, 2, [4], []), (.idiv, 1, [], []), (.bipush 8, 2, [], [8]), (.if_icmp .le 10, 3, [47], [])]
def S_X12_readsPicture_50 : List mI := [(.iload 5, 2, [5], []), (.iload_n 2, 1, [2], []), (.if_icmp .ge 118, 3, [171], []), (.aload_n 0, 1, [0], []), (.getfield 24, 3, [12, 4, 2, 130], []), (.iload 5, 2, [5], []), (.iaload, 1, [0], []), (.istore 6, 2, [6], []), (.iload 5, 2, [5], []), (.iload 4, 2, [4], []), (.irem, 1, [], []), (.iload 4, 2, [4], []), (.iconst 1, 1, [], [1]), (.isub, 1, [], []), (.if_icmp .ne 18, 3, [92], []), (.iload 6, 2, [6], []), (.bipush 59, 2, [], [59]), (.if_icmp .ne 7, 3, [88], []), (.iconst 1, 1, [], [1]), (.goto 66, 3, [151], [])]
def S_X12_readsPicture_151 : List mI := [(.istore 7, 2, [7], []), (.iload 7, 2, [7], []), (.ifCond .ne 10, 3, [165], []), (.aload_n 0, 1, [0], []), (.bipush (-9), 2, [], [-9]), (.invokevirtual 84, 3, [0, 224, 1, 12, 267], []), (.ireturn, 1, [], [])]
def S_X12_readsPicture_190 : List mI := [(.iload 6, 2, [6], []), (.iload 5, 2, [5], []), (.if_icmp .ge 57, 3, [251], []), (.iconst 0, 1, [], [0]), (.istore 7, 2, [7], [])]
def S_X12_readsPicture_200 : List mI := [(.iload 7, 2, [7], []), (.aload_n 0, 1, [0], []), (.getfield 17, 3, [12, 2, 2, 128], []), (.iconst 0, 1, [], [0]), (.iaload, 1, [0], []), (.if_icmp .ge 37, 3, [245], []), (.aload_n 0, 1, [0], []), (.getfield 17, 3, [12, 2, 2, 128], []), (.iload_n 1, 1, [1], []), (.bipush 32, 2, [], [32]), (.iload 6, 2, [6], []), (.imul, 1, [], []), (.iadd, 1, [], []), (.iload 7, 2, [7], []), (.iadd, 1, [], []), (.aload_n 0, 1, [0], []), (.getfield 24, 3, [12, 4, 2, 130], []), (.iload 6, 2, [6], []), (.iload 4, 2, [4], []), (.imul, 1, [], []), (.iload 7, 2, [7], []), (.iadd, 1, [], []), (.iaload, 1, [0], []), (.iastore, 1, [], []), (.iinc 7 1, 3, [7], [1]), (.goto (-42), 3, [200], [])]
theorem lb_X12_readsPicture : B_X12_readsPicture.all (fun b => lst y_X12_readsPicture.2.1 12 y_X12_readsPicture.2.2.1 false b.1 b.2) = true := by decide +kernel
theorem ls_X12_readsPicture_0 : lst y_X12_readsPicture.2.1 12 y_X12_readsPicture.2.2.1 false 0 S_X12_readsPicture_0 = true := by decide +kernel
theorem ls_X12_readsPicture_50 : lst y_X12_readsPicture.2.1 12 y_X12_readsPicture.2.2.1 false 50 S_X12_readsPicture_50 = true := by decide +kernel
theorem ls_X12_readsPicture_151 : lst y_X12_readsPicture.2.1 12 y_X12_readsPicture.2.2.1 false 151 S_X12_readsPicture_151 = true := by decide +kernel
theorem ls_X12_readsPicture_190 : lst y_X12_readsPicture.2.1 12 y_X12_readsPicture.2.2.1 false 190 S_X12_readsPicture_190 = true := by decide +kernel
theorem ls_X12_readsPicture_200 : lst y_X12_readsPicture.2.1 12 y_X12_readsPicture.2.2.1 false 200 S_X12_readsPicture_200 = true := by decide +kernel
def C_X12_readsPicture (N : Nat) : Nat → List Value → mH → (Option Value → mH → Option (Int32 × mH)) → Option (Int32 × mH) := fun j as g k => kb j 224 (pr1 as fun b0 as => pp1 as fun b1 as => pe as ((f_X12_no N b0 b1 g).bind fun p => k (some (.int p.1)) p.2)) (none)
theorem co_X12_readsPicture (N : Nat) (q : Int32 × mH) : clOK 5 q (C_X12_readsPicture N) := by
  intro j as g k e
  rcases kb_s e with ⟨rfl, e⟩ | e
  · obtain ⟨b0, r0, q0, f0⟩ := pr1_s e
    obtain ⟨b1, r1, q1, f1⟩ := pp1_s f0
    obtain ⟨qe, fe⟩ := pe_s f1
    obtain ⟨p, e1, e2⟩ := bnd_s fe
    subst qe
    subst q1
    subst q0
    exact ⟨_, _, _, _, 4, rfl, (by decide), m_X12_no N e1, e2⟩
  cases e
set_option maxRecDepth 100000 in
theorem t_X12_readsPicture_151 {X : Nat × (Nat → Int32)} (N : Nat) {q : Int32 × mH} {k50 : Nat → Int32 → Int32 → Int32 → Int32 → Int32 → mH → Option (Int32 × mH)} (hk50 : ∀ (a0 : Nat) (x1 : Int32) (x2 : Int32) (x3 : Int32) (x4 : Int32) (x5 : Int32) g, k50 a0 x1 x2 x3 x4 x5 g = some q → MW X y_X12_readsPicture 5 50 [(0, .ref a0), (1, .int x1), (2, .int x2), (3, .int x3), (4, .int x4), (5, .int x5)] [] g (some (.int q.1)) q.2) (a0 : Nat) (x1 : Int32) (x2 : Int32) (x3 : Int32) (x4 : Int32) (x5 : Int32) (s_0 : Int32) (h : mH) (hf : J_X12_readsPicture_151 N k50 a0 x1 x2 x3 x4 x5 s_0 h = some q) : MW X y_X12_readsPicture 5 151 [(0, .ref a0), (1, .int x1), (2, .int x2), (3, .int x3), (4, .int x4), (5, .int x5)] [.int s_0] h (some (.int q.1)) q.2 := by
  refine ev_ok (o := 12) (ini := false) (Cl := C_X12_readsPicture N) (Rc := RcI) (B := B_X12_readsPicture) (K := fun pc ls st g => kb pc 50 (lgr 0 ls fun a0 => lgi 1 ls fun x1 => lgi 2 ls fun x2 => lgi 3 ls fun x3 => lgi 4 ls fun x4 => lgi 5 ls fun x5 => pe st (k50 a0 x1 x2 x3 x4 x5 g)) (none)) rfl (fun e => by cases e) (by decide) (rcI_ok rfl) ?_ (co_X12_readsPicture N q) lb_X12_readsPicture 3000 151 S_X12_readsPicture_151 _ _ h ls_X12_readsPicture_151 hf
  intro pc ls st g e
  rcases kb_s e with ⟨rfl, e⟩ | e
  · obtain ⟨a0, e0, f0⟩ := lgr_s e
    obtain ⟨x1, e1, f1⟩ := lgi_s f0
    obtain ⟨x2, e2, f2⟩ := lgi_s f1
    obtain ⟨x3, e3, f3⟩ := lgi_s f2
    obtain ⟨x4, e4, f4⟩ := lgi_s f3
    obtain ⟨x5, e5, f5⟩ := lgi_s f4
    obtain ⟨qe, fe⟩ := pe_s f5
    subst qe
    exact MW.sub (List.forall_mem_cons.mpr ⟨lg_mem e0, List.forall_mem_cons.mpr ⟨lg_mem e1, List.forall_mem_cons.mpr ⟨lg_mem e2, List.forall_mem_cons.mpr ⟨lg_mem e3, List.forall_mem_cons.mpr ⟨lg_mem e4, List.forall_mem_cons.mpr ⟨lg_mem e5, fun _ h => absurd h List.not_mem_nil⟩⟩⟩⟩⟩⟩) (hk50 a0 x1 x2 x3 x4 x5 g fe)
  cases e
set_option maxRecDepth 100000 in
theorem t_X12_readsPicture_200 {X : Nat × (Nat → Int32)} (N : Nat) {q : Int32 × mH} {k190 : Nat → Int32 → Int32 → Int32 → Int32 → mH → Option (Int32 × mH)} (hk190 : ∀ (a0 : Nat) (x1 : Int32) (x4 : Int32) (x5 : Int32) (x6 : Int32) g, k190 a0 x1 x4 x5 x6 g = some q → MW X y_X12_readsPicture 5 190 [(0, .ref a0), (1, .int x1), (4, .int x4), (5, .int x5), (6, .int x6)] [] g (some (.int q.1)) q.2) : ∀ (n : Nat) (a0 : Nat) (x1 : Int32) (x4 : Int32) (x5 : Int32) (x6 : Int32) (x7 : Int32) (h : mH), L_X12_readsPicture_200 N k190 n a0 x1 x4 x5 x6 x7 h = some q → MW X y_X12_readsPicture 5 200 [(0, .ref a0), (1, .int x1), (4, .int x4), (5, .int x5), (6, .int x6), (7, .int x7)] [] h (some (.int q.1)) q.2 := by
  intro n
  induction n with
  | zero => intro a0 x1 x4 x5 x6 x7 h hf; cases hf
  | succ n ih =>
    intro a0 x1 x4 x5 x6 x7 h hf
    refine ev_ok (o := 12) (ini := false) (Cl := C_X12_readsPicture N) (Rc := RcI) (B := B_X12_readsPicture) (K := fun pc ls st g => kb pc 190 (lgr 0 ls fun a0 => lgi 1 ls fun x1 => lgi 4 ls fun x4 => lgi 5 ls fun x5 => lgi 6 ls fun x6 => pe st (k190 a0 x1 x4 x5 x6 g)) (kb pc 200 (lgr 0 ls fun a0 => lgi 1 ls fun x1 => lgi 4 ls fun x4 => lgi 5 ls fun x5 => lgi 6 ls fun x6 => lgi 7 ls fun x7 => pe st (L_X12_readsPicture_200 N k190 n a0 x1 x4 x5 x6 x7 g)) (none))) rfl (fun e => by cases e) (by decide) (rcI_ok rfl) ?_ (co_X12_readsPicture N q) lb_X12_readsPicture 3000 200 S_X12_readsPicture_200 _ _ h ls_X12_readsPicture_200 hf
    intro pc ls st g e
    rcases kb_s e with ⟨rfl, e⟩ | e
    · obtain ⟨a0, e0, f0⟩ := lgr_s e
      obtain ⟨x1, e1, f1⟩ := lgi_s f0
      obtain ⟨x4, e2, f2⟩ := lgi_s f1
      obtain ⟨x5, e3, f3⟩ := lgi_s f2
      obtain ⟨x6, e4, f4⟩ := lgi_s f3
      obtain ⟨qe, fe⟩ := pe_s f4
      subst qe
      exact MW.sub (List.forall_mem_cons.mpr ⟨lg_mem e0, List.forall_mem_cons.mpr ⟨lg_mem e1, List.forall_mem_cons.mpr ⟨lg_mem e2, List.forall_mem_cons.mpr ⟨lg_mem e3, List.forall_mem_cons.mpr ⟨lg_mem e4, fun _ h => absurd h List.not_mem_nil⟩⟩⟩⟩⟩) (hk190 a0 x1 x4 x5 x6 g fe)
    rcases kb_s e with ⟨rfl, e⟩ | e
    · obtain ⟨a0, e0, f0⟩ := lgr_s e
      obtain ⟨x1, e1, f1⟩ := lgi_s f0
      obtain ⟨x4, e2, f2⟩ := lgi_s f1
      obtain ⟨x5, e3, f3⟩ := lgi_s f2
      obtain ⟨x6, e4, f4⟩ := lgi_s f3
      obtain ⟨x7, e5, f5⟩ := lgi_s f4
      obtain ⟨qe, fe⟩ := pe_s f5
      subst qe
      exact MW.sub (List.forall_mem_cons.mpr ⟨lg_mem e0, List.forall_mem_cons.mpr ⟨lg_mem e1, List.forall_mem_cons.mpr ⟨lg_mem e2, List.forall_mem_cons.mpr ⟨lg_mem e3, List.forall_mem_cons.mpr ⟨lg_mem e4, List.forall_mem_cons.mpr ⟨lg_mem e5, fun _ h => absurd h List.not_mem_nil⟩⟩⟩⟩⟩⟩) (ih a0 x1 x4 x5 x6 x7 g fe)
    cases e
set_option maxRecDepth 100000 in
theorem t_X12_readsPicture_190 {X : Nat × (Nat → Int32)} (N : Nat) {q : Int32 × mH} : ∀ (n : Nat) (a0 : Nat) (x1 : Int32) (x4 : Int32) (x5 : Int32) (x6 : Int32) (h : mH), L_X12_readsPicture_190 N n a0 x1 x4 x5 x6 h = some q → MW X y_X12_readsPicture 5 190 [(0, .ref a0), (1, .int x1), (4, .int x4), (5, .int x5), (6, .int x6)] [] h (some (.int q.1)) q.2 := by
  intro n
  induction n with
  | zero => intro a0 x1 x4 x5 x6 h hf; cases hf
  | succ n ih =>
    intro a0 x1 x4 x5 x6 h hf
    refine ev_ok (o := 12) (ini := false) (Cl := C_X12_readsPicture N) (Rc := RcI) (B := B_X12_readsPicture) (K := fun pc ls st g => kb pc 200 (lgr 0 ls fun a0 => lgi 1 ls fun x1 => lgi 4 ls fun x4 => lgi 5 ls fun x5 => lgi 6 ls fun x6 => lgi 7 ls fun x7 => pe st (L_X12_readsPicture_200 N (L_X12_readsPicture_190 N n) N a0 x1 x4 x5 x6 x7 g)) (none)) rfl (fun e => by cases e) (by decide) (rcI_ok rfl) ?_ (co_X12_readsPicture N q) lb_X12_readsPicture 3000 190 S_X12_readsPicture_190 _ _ h ls_X12_readsPicture_190 hf
    intro pc ls st g e
    rcases kb_s e with ⟨rfl, e⟩ | e
    · obtain ⟨a0, e0, f0⟩ := lgr_s e
      obtain ⟨x1, e1, f1⟩ := lgi_s f0
      obtain ⟨x4, e2, f2⟩ := lgi_s f1
      obtain ⟨x5, e3, f3⟩ := lgi_s f2
      obtain ⟨x6, e4, f4⟩ := lgi_s f3
      obtain ⟨x7, e5, f5⟩ := lgi_s f4
      obtain ⟨qe, fe⟩ := pe_s f5
      subst qe
      exact MW.sub (List.forall_mem_cons.mpr ⟨lg_mem e0, List.forall_mem_cons.mpr ⟨lg_mem e1, List.forall_mem_cons.mpr ⟨lg_mem e2, List.forall_mem_cons.mpr ⟨lg_mem e3, List.forall_mem_cons.mpr ⟨lg_mem e4, List.forall_mem_cons.mpr ⟨lg_mem e5, fun _ h => absurd h List.not_mem_nil⟩⟩⟩⟩⟩⟩) (t_X12_readsPicture_200 N (fun a0 x1 x4 x5 x6 g e => ih a0 x1 x4 x5 x6 g e) N a0 x1 x4 x5 x6 x7 g fe)
    cases e
set_option maxRecDepth 100000 in
theorem t_X12_readsPicture_50 {X : Nat × (Nat → Int32)} (N : Nat) {q : Int32 × mH} : ∀ (n : Nat) (a0 : Nat) (x1 : Int32) (x2 : Int32) (x3 : Int32) (x4 : Int32) (x5 : Int32) (h : mH), L_X12_readsPicture_50 N n a0 x1 x2 x3 x4 x5 h = some q → MW X y_X12_readsPicture 5 50 [(0, .ref a0), (1, .int x1), (2, .int x2), (3, .int x3), (4, .int x4), (5, .int x5)] [] h (some (.int q.1)) q.2 := by
  intro n
  induction n with
  | zero => intro a0 x1 x2 x3 x4 x5 h hf; cases hf
  | succ n ih =>
    intro a0 x1 x2 x3 x4 x5 h hf
    refine ev_ok (o := 12) (ini := false) (Cl := C_X12_readsPicture N) (Rc := RcI) (B := B_X12_readsPicture) (K := fun pc ls st g => kb pc 151 (lgr 0 ls fun a0 => lgi 1 ls fun x1 => lgi 2 ls fun x2 => lgi 3 ls fun x3 => lgi 4 ls fun x4 => lgi 5 ls fun x5 => pp1 st fun s_0 st => pe st (J_X12_readsPicture_151 N (L_X12_readsPicture_50 N n) a0 x1 x2 x3 x4 x5 s_0 g)) (kb pc 190 (lgr 0 ls fun a0 => lgi 1 ls fun x1 => lgi 4 ls fun x4 => lgi 5 ls fun x5 => lgi 6 ls fun x6 => pe st (L_X12_readsPicture_190 N N a0 x1 x4 x5 x6 g)) (none))) rfl (fun e => by cases e) (by decide) (rcI_ok rfl) ?_ (co_X12_readsPicture N q) lb_X12_readsPicture 3000 50 S_X12_readsPicture_50 _ _ h ls_X12_readsPicture_50 hf
    intro pc ls st g e
    rcases kb_s e with ⟨rfl, e⟩ | e
    · obtain ⟨a0, e0, f0⟩ := lgr_s e
      obtain ⟨x1, e1, f1⟩ := lgi_s f0
      obtain ⟨x2, e2, f2⟩ := lgi_s f1
      obtain ⟨x3, e3, f3⟩ := lgi_s f2
      obtain ⟨x4, e4, f4⟩ := lgi_s f3
      obtain ⟨x5, e5, f5⟩ := lgi_s f4
      obtain ⟨s_0, r0, q0, g0⟩ := pp1_s f5
      obtain ⟨qe, fe⟩ := pe_s g0
      subst qe
      subst q0
      exact MW.sub (List.forall_mem_cons.mpr ⟨lg_mem e0, List.forall_mem_cons.mpr ⟨lg_mem e1, List.forall_mem_cons.mpr ⟨lg_mem e2, List.forall_mem_cons.mpr ⟨lg_mem e3, List.forall_mem_cons.mpr ⟨lg_mem e4, List.forall_mem_cons.mpr ⟨lg_mem e5, fun _ h => absurd h List.not_mem_nil⟩⟩⟩⟩⟩⟩) (t_X12_readsPicture_151 N (fun a0 x1 x2 x3 x4 x5 g e => ih a0 x1 x2 x3 x4 x5 g e) a0 x1 x2 x3 x4 x5 s_0 g fe)
    rcases kb_s e with ⟨rfl, e⟩ | e
    · obtain ⟨a0, e0, f0⟩ := lgr_s e
      obtain ⟨x1, e1, f1⟩ := lgi_s f0
      obtain ⟨x4, e2, f2⟩ := lgi_s f1
      obtain ⟨x5, e3, f3⟩ := lgi_s f2
      obtain ⟨x6, e4, f4⟩ := lgi_s f3
      obtain ⟨qe, fe⟩ := pe_s f4
      subst qe
      exact MW.sub (List.forall_mem_cons.mpr ⟨lg_mem e0, List.forall_mem_cons.mpr ⟨lg_mem e1, List.forall_mem_cons.mpr ⟨lg_mem e2, List.forall_mem_cons.mpr ⟨lg_mem e3, List.forall_mem_cons.mpr ⟨lg_mem e4, fun _ h => absurd h List.not_mem_nil⟩⟩⟩⟩⟩) (t_X12_readsPicture_190 N N a0 x1 x4 x5 x6 g fe)
    cases e
set_option maxRecDepth 100000 in
theorem m_X12_readsPicture (N : Nat) {a0 : Nat} {x1 : Int32} {x2 : Int32} {x3 : Int32} {h : mH} {q : Int32 × mH} (hf : f_X12_readsPicture N a0 x1 x2 x3 h = some q) : MM y_X12_readsPicture 5 [.ref a0, .int x1, .int x2, .int x3] h (some (.int q.1)) q.2 := by
  refine MM.of (mFx (j := 286) rfl).2.2.2.1 (Nat.le_of_ble_eq_true rfl) (fun X => ?_)
  refine ev_ok (o := 12) (ini := false) (Cl := C_X12_readsPicture N) (Rc := RcI) (B := B_X12_readsPicture) (K := fun pc ls st g => kb pc 50 (lgr 0 ls fun a0 => lgi 1 ls fun x1 => lgi 2 ls fun x2 => lgi 3 ls fun x3 => lgi 4 ls fun x4 => lgi 5 ls fun x5 => pe st (L_X12_readsPicture_50 N N a0 x1 x2 x3 x4 x5 g)) (none)) rfl (fun e => by cases e) (by decide) (rcI_ok rfl) ?_ (co_X12_readsPicture N q) lb_X12_readsPicture 3000 0 S_X12_readsPicture_0 _ _ h ls_X12_readsPicture_0 hf
  intro pc ls st g e
  rcases kb_s e with ⟨rfl, e⟩ | e
  · obtain ⟨a0, e0, f0⟩ := lgr_s e
    obtain ⟨x1, e1, f1⟩ := lgi_s f0
    obtain ⟨x2, e2, f2⟩ := lgi_s f1
    obtain ⟨x3, e3, f3⟩ := lgi_s f2
    obtain ⟨x4, e4, f4⟩ := lgi_s f3
    obtain ⟨x5, e5, f5⟩ := lgi_s f4
    obtain ⟨qe, fe⟩ := pe_s f5
    subst qe
    exact MW.sub (List.forall_mem_cons.mpr ⟨lg_mem e0, List.forall_mem_cons.mpr ⟨lg_mem e1, List.forall_mem_cons.mpr ⟨lg_mem e2, List.forall_mem_cons.mpr ⟨lg_mem e3, List.forall_mem_cons.mpr ⟨lg_mem e4, List.forall_mem_cons.mpr ⟨lg_mem e5, fun _ h => absurd h List.not_mem_nil⟩⟩⟩⟩⟩⟩) (t_X12_readsPicture_50 N N a0 x1 x2 x3 x4 x5 g fe)
  cases e
def f_X12_wish (N : Nat) (a0 : Nat) (x1 : Int32) (h : mH) : Option (Int32 × mH) :=
  (pV h 12 a0 0 (.int (jI 0))).bind fun h1 =>
  (gR h1 12 a0 2).bind fun v2 =>
  (ldI 0 h1 v2 (jI 0)).bind fun v3 =>
  if v3 = 0 then
    (rcv h1 12 a0).bind fun _ =>
    (f_X12_no N a0 (jI (-5)) h1).bind fun p4 =>
    some (p4.1, p4.2)
  else
    (gI h1 12 a0 6).bind fun v5 =>
    (f_X12_within N x1.toInt64 (jL 0) v5.toInt64 h1).bind fun p6 =>
    if p6.1 = 0 then
      (rcv p6.2 12 a0).bind fun _ =>
      (f_X12_no N a0 (jI (-3)) p6.2).bind fun p7 =>
      some (p7.1, p7.2)
    else
      (rcv p6.2 12 a0).bind fun _ =>
      (f_X12_readsPicture N a0 (jI 144) x1 (jI 1) p6.2).bind fun p8 =>
      some (p8.1, p8.2)
def y_X12_wish : mM := (yX12_wish, cX12_wish, 2, (some .int))
def B_X12_wish : List (Nat × List mI) := [(21, [(.iload_n 1, 1, [1], []), (.i2l, 1, [], []), (.lconst 0, 1, [], [0]), (.aload_n 0, 1, [0], []), (.getfield 81, 3, [12, 6, 0, 132], []), (.i2l, 1, [], []), (.invokestatic 147, 3, [1, 225, 3, 0, 269], []), (.ifCond .ne 10, 3, [42], []), (.aload_n 0, 1, [0], []), (.bipush (-3), 2, [], [-3]), (.invokevirtual 84, 3, [0, 224, 1, 12, 267], []), (.ireturn, 1, [], [])]), (42, [(.aload_n 0, 1, [0], []), (.sipush 144, 3, [], [144]), (.iload_n 1, 1, [1], []), (.iconst 1, 1, [], [1]), (.invokevirtual 261, 3, [0, 286, 3, 12, 327], []), (.ireturn, 1, [], [])])]
def S_X12_wish_0 : List mI := [(.aload_n 0, 1, [0], []), (.iconst 0, 1, [], [0]), (.putfield 1, 3, [12, 0, 0, 126], []), (.aload_n 0, 1, [0], []), (.getfield 17, 3, [12, 2, 2, 128], []), (.iconst 0, 1, [], [0]), (.iaload, 1, [0], []), (.ifCond .ne 10, 3, [21], []), (.aload_n 0, 1, [0], []), (.bipush (-5), 2, [], [-5]), (.invokevirtual 84, 3, [0, 224, 1, 12, 267], []), (.ireturn, 1, [], [])]
theorem lb_X12_wish : B_X12_wish.all (fun b => lst y_X12_wish.2.1 12 y_X12_wish.2.2.1 false b.1 b.2) = true := by decide +kernel
theorem ls_X12_wish_0 : lst y_X12_wish.2.1 12 y_X12_wish.2.2.1 false 0 S_X12_wish_0 = true := by decide +kernel
def C_X12_wish (N : Nat) : Nat → List Value → mH → (Option Value → mH → Option (Int32 × mH)) → Option (Int32 × mH) := fun j as g k => kb j 224 (pr1 as fun b0 as => pp1 as fun b1 as => pe as ((f_X12_no N b0 b1 g).bind fun p => k (some (.int p.1)) p.2)) (kb j 225 (pl1 as fun b0 as => pl1 as fun b1 as => pl1 as fun b2 as => pe as ((f_X12_within N b0 b1 b2 g).bind fun p => k (some (.int p.1)) p.2)) (kb j 286 (pr1 as fun b0 as => pp1 as fun b1 as => pp1 as fun b2 as => pp1 as fun b3 as => pe as ((f_X12_readsPicture N b0 b1 b2 b3 g).bind fun p => k (some (.int p.1)) p.2)) (none)))
theorem co_X12_wish (N : Nat) (q : Int32 × mH) : clOK 6 q (C_X12_wish N) := by
  intro j as g k e
  rcases kb_s e with ⟨rfl, e⟩ | e
  · obtain ⟨b0, r0, q0, f0⟩ := pr1_s e
    obtain ⟨b1, r1, q1, f1⟩ := pp1_s f0
    obtain ⟨qe, fe⟩ := pe_s f1
    obtain ⟨p, e1, e2⟩ := bnd_s fe
    subst qe
    subst q1
    subst q0
    exact ⟨_, _, _, _, 4, rfl, (by decide), m_X12_no N e1, e2⟩
  rcases kb_s e with ⟨rfl, e⟩ | e
  · obtain ⟨b0, r0, q0, f0⟩ := pl1_s e
    obtain ⟨b1, r1, q1, f1⟩ := pl1_s f0
    obtain ⟨b2, r2, q2, f2⟩ := pl1_s f1
    obtain ⟨qe, fe⟩ := pe_s f2
    obtain ⟨p, e1, e2⟩ := bnd_s fe
    subst qe
    subst q2
    subst q1
    subst q0
    exact ⟨_, _, _, _, 4, rfl, (by decide), m_X12_within N e1, e2⟩
  rcases kb_s e with ⟨rfl, e⟩ | e
  · obtain ⟨b0, r0, q0, f0⟩ := pr1_s e
    obtain ⟨b1, r1, q1, f1⟩ := pp1_s f0
    obtain ⟨b2, r2, q2, f2⟩ := pp1_s f1
    obtain ⟨b3, r3, q3, f3⟩ := pp1_s f2
    obtain ⟨qe, fe⟩ := pe_s f3
    obtain ⟨p, e1, e2⟩ := bnd_s fe
    subst qe
    subst q3
    subst q2
    subst q1
    subst q0
    exact ⟨_, _, _, _, 5, rfl, (by decide), m_X12_readsPicture N e1, e2⟩
  cases e
set_option maxRecDepth 100000 in
theorem m_X12_wish (N : Nat) {a0 : Nat} {x1 : Int32} {h : mH} {q : Int32 × mH} (hf : f_X12_wish N a0 x1 h = some q) : MM y_X12_wish 6 [.ref a0, .int x1] h (some (.int q.1)) q.2 := by
  refine MM.of (mFx (j := 287) rfl).2.2.2.1 (Nat.le_of_ble_eq_true rfl) (fun X => ?_)
  refine ev_ok (o := 12) (ini := false) (Cl := C_X12_wish N) (Rc := RcI) (B := B_X12_wish) (K := fun pc ls st g => none) rfl (fun e => by cases e) (by decide) (rcI_ok rfl) ?_ (co_X12_wish N q) lb_X12_wish 3000 0 S_X12_wish_0 _ _ h ls_X12_wish_0 hf
  intro pc ls st g e
  cases e
def f_X12_print (N : Nat) (a0 : Nat) (x1 : Int32) (h : mH) : Option (Int32 × mH) :=
  (pV h 12 a0 0 (.int (jI 0))).bind fun h1 =>
  (gR h1 12 a0 2).bind fun v2 =>
  (ldI 0 h1 v2 (jI 0)).bind fun v3 =>
  if v3 = 0 then
    (rcv h1 12 a0).bind fun _ =>
    (f_X12_no N a0 (jI (-5)) h1).bind fun p4 =>
    some (p4.1, p4.2)
  else
    (gI h1 12 a0 6).bind fun v5 =>
    (f_X12_within N x1.toInt64 (jL 0) v5.toInt64 h1).bind fun p6 =>
    if p6.1 = 0 then
      (rcv p6.2 12 a0).bind fun _ =>
      (f_X12_no N a0 (jI (-3)) p6.2).bind fun p7 =>
      some (p7.1, p7.2)
    else
      (rcv p6.2 12 a0).bind fun _ =>
      (f_X12_readsPicture N a0 (jI 401) x1 (jI 0) p6.2).bind fun p8 =>
      some (p8.1, p8.2)
def y_X12_print : mM := (yX12_print, cX12_print, 2, (some .int))
def B_X12_print : List (Nat × List mI) := [(21, [(.iload_n 1, 1, [1], []), (.i2l, 1, [], []), (.lconst 0, 1, [], [0]), (.aload_n 0, 1, [0], []), (.getfield 81, 3, [12, 6, 0, 132], []), (.i2l, 1, [], []), (.invokestatic 147, 3, [1, 225, 3, 0, 269], []), (.ifCond .ne 10, 3, [42], []), (.aload_n 0, 1, [0], []), (.bipush (-3), 2, [], [-3]), (.invokevirtual 84, 3, [0, 224, 1, 12, 267], []), (.ireturn, 1, [], [])]), (42, [(.aload_n 0, 1, [0], []), (.sipush 401, 3, [], [401]), (.iload_n 1, 1, [1], []), (.iconst 0, 1, [], [0]), (.invokevirtual 261, 3, [0, 286, 3, 12, 327], []), (.ireturn, 1, [], [])])]
def S_X12_print_0 : List mI := [(.aload_n 0, 1, [0], []), (.iconst 0, 1, [], [0]), (.putfield 1, 3, [12, 0, 0, 126], []), (.aload_n 0, 1, [0], []), (.getfield 17, 3, [12, 2, 2, 128], []), (.iconst 0, 1, [], [0]), (.iaload, 1, [0], []), (.ifCond .ne 10, 3, [21], []), (.aload_n 0, 1, [0], []), (.bipush (-5), 2, [], [-5]), (.invokevirtual 84, 3, [0, 224, 1, 12, 267], []), (.ireturn, 1, [], [])]
theorem lb_X12_print : B_X12_print.all (fun b => lst y_X12_print.2.1 12 y_X12_print.2.2.1 false b.1 b.2) = true := by decide +kernel
theorem ls_X12_print_0 : lst y_X12_print.2.1 12 y_X12_print.2.2.1 false 0 S_X12_print_0 = true := by decide +kernel
def C_X12_print (N : Nat) : Nat → List Value → mH → (Option Value → mH → Option (Int32 × mH)) → Option (Int32 × mH) := fun j as g k => kb j 224 (pr1 as fun b0 as => pp1 as fun b1 as => pe as ((f_X12_no N b0 b1 g).bind fun p => k (some (.int p.1)) p.2)) (kb j 225 (pl1 as fun b0 as => pl1 as fun b1 as => pl1 as fun b2 as => pe as ((f_X12_within N b0 b1 b2 g).bind fun p => k (some (.int p.1)) p.2)) (kb j 286 (pr1 as fun b0 as => pp1 as fun b1 as => pp1 as fun b2 as => pp1 as fun b3 as => pe as ((f_X12_readsPicture N b0 b1 b2 b3 g).bind fun p => k (some (.int p.1)) p.2)) (none)))
theorem co_X12_print (N : Nat) (q : Int32 × mH) : clOK 6 q (C_X12_print N) := by
  intro j as g k e
  rcases kb_s e with ⟨rfl, e⟩ | e
  · obtain ⟨b0, r0, q0, f0⟩ := pr1_s e
    obtain ⟨b1, r1, q1, f1⟩ := pp1_s f0
    obtain ⟨qe, fe⟩ := pe_s f1
    obtain ⟨p, e1, e2⟩ := bnd_s fe
    subst qe
    subst q1
    subst q0
    exact ⟨_, _, _, _, 4, rfl, (by decide), m_X12_no N e1, e2⟩
  rcases kb_s e with ⟨rfl, e⟩ | e
  · obtain ⟨b0, r0, q0, f0⟩ := pl1_s e
    obtain ⟨b1, r1, q1, f1⟩ := pl1_s f0
    obtain ⟨b2, r2, q2, f2⟩ := pl1_s f1
    obtain ⟨qe, fe⟩ := pe_s f2
    obtain ⟨p, e1, e2⟩ := bnd_s fe
    subst qe
    subst q2
    subst q1
    subst q0
    exact ⟨_, _, _, _, 4, rfl, (by decide), m_X12_within N e1, e2⟩
  rcases kb_s e with ⟨rfl, e⟩ | e
  · obtain ⟨b0, r0, q0, f0⟩ := pr1_s e
    obtain ⟨b1, r1, q1, f1⟩ := pp1_s f0
    obtain ⟨b2, r2, q2, f2⟩ := pp1_s f1
    obtain ⟨b3, r3, q3, f3⟩ := pp1_s f2
    obtain ⟨qe, fe⟩ := pe_s f3
    obtain ⟨p, e1, e2⟩ := bnd_s fe
    subst qe
    subst q3
    subst q2
    subst q1
    subst q0
    exact ⟨_, _, _, _, 5, rfl, (by decide), m_X12_readsPicture N e1, e2⟩
  cases e
set_option maxRecDepth 100000 in
theorem m_X12_print (N : Nat) {a0 : Nat} {x1 : Int32} {h : mH} {q : Int32 × mH} (hf : f_X12_print N a0 x1 h = some q) : MM y_X12_print 6 [.ref a0, .int x1] h (some (.int q.1)) q.2 := by
  refine MM.of (mFx (j := 288) rfl).2.2.2.1 (Nat.le_of_ble_eq_true rfl) (fun X => ?_)
  refine ev_ok (o := 12) (ini := false) (Cl := C_X12_print N) (Rc := RcI) (B := B_X12_print) (K := fun pc ls st g => none) rfl (fun e => by cases e) (by decide) (rcI_ok rfl) ?_ (co_X12_print N q) lb_X12_print 3000 0 S_X12_print_0 _ _ h ls_X12_print_0 hf
  intro pc ls st g e
  cases e
def J_X12_strokeOver_34 (N : Nat) (a0 : Nat) (x1 : Int32) (s_0 : Int32) (h : mH) : Option (Int32 × mH) :=
  (gI h 12 a0 17).bind fun v1 =>
  if v1 = 0 then none else
  (gR h 12 a0 2).bind fun v2 =>
  (ldI 0 h v2 (jI 0)).bind fun v3 =>
  (gR h 12 a0 2).bind fun v4 =>
  (ldI 0 h v4 (jI 0)).bind fun v5 =>
  (f_X12_round N s_0 v5 h).bind fun p6 =>
  let w7 := iAdd (iMul (iDiv x1 v1) v3) p6.1
  (gI p6.2 12 a0 18).bind fun v8 =>
  (gI p6.2 12 a0 19).bind fun v9 =>
  if (iAdd v8 v9) = 0 then none else
  (gI p6.2 12 a0 18).bind fun v10 =>
  if (iRem w7 (iAdd v8 v9)) < v10 then
    some (jI 1, p6.2)
  else
    some (jI 0, p6.2)
def f_X12_strokeOver (N : Nat) (a0 : Nat) (x1 : Int32) (x2 : Int32) (h : mH) : Option (Int32 × mH) :=
  (gI h 12 a0 17).bind fun v1 =>
  if v1 = 0 then none else
  let w2 := iRem x1 v1
  (gI h 12 a0 21).bind fun v3 =>
  if v3 = (jI 1) then
    (gI h 12 a0 20).bind fun v4 =>
    J_X12_strokeOver_34 N a0 x1 (iSub (iSub v4 w2) x2) h
  else
    (gI h 12 a0 20).bind fun v5 =>
    J_X12_strokeOver_34 N a0 x1 (iSub (iSub x2 v5) w2) h
def y_X12_strokeOver : mM := (yX12_strokeOver, cX12_strokeOver, 6, (some .boolean))
def B_X12_strokeOver : List (Nat × List mI) := [(26, [(.iload_n 2, 1, [2], []), (.aload_n 0, 1, [0], []), (.getfield 271, 3, [12, 20, 0, 146], []), (.isub, 1, [], []), (.iload_n 3, 1, [3], []), (.isub, 1, [], [])]), (86, [(.iconst 0, 1, [], [0])]), (87, [(.ireturn, 1, [], [])])]
def S_X12_strokeOver_0 : List mI := [(.iload_n 1, 1, [1], []), (.aload_n 0, 1, [0], []), (.getfield 265, 3, [12, 17, 0, 143], []), (.irem, 1, [], []), (.istore_n 3, 1, [3], []), (.aload_n 0, 1, [0], []), (.getfield 268, 3, [12, 21, 0, 147], []), (.iconst 1, 1, [], [1]), (.if_icmp .ne 14, 3, [26], []), (.aload_n 0, 1, [0], []), (.getfield 271, 3, [12, 20, 0, 146], []), (.iload_n 3, 1, [3], []), (.isub, 1, [], []), (.iload_n 2, 1, [2], []), (.isub, 1, [], []), (.goto 11, 3, [34], [])]
def S_X12_strokeOver_34 : List mI := [(.istore 4, 2, [4], []), (.iload_n 1, 1, [1], []), (.aload_n 0, 1, [0], []), (.getfield 265, 3, [12, 17, 0, 143], []), (.idiv, 1, [], []), (.aload_n 0, 1, [0], []), (.getfield 17, 3, [12, 2, 2, 128], []), (.iconst 0, 1, [], [0]), (.iaload, 1, [0], []), (.imul, 1, [], []), (.iload 4, 2, [4], []), (.aload_n 0, 1, [0], []), (.getfield 17, 3, [12, 2, 2, 128], []), (.iconst 0, 1, [], [0]), (.iaload, 1, [0], []), (.invokestatic 191, 3, [1, 253, 2, 0, 300], []), (.iadd, 1, [], []), (.istore 5, 2, [5], []), (.iload 5, 2, [5], []), (.aload_n 0, 1, [0], []), (.getfield 274, 3, [12, 18, 0, 144], []), (.aload_n 0, 1, [0], []), (.getfield 277, 3, [12, 19, 0, 145], []), (.iadd, 1, [], []), (.irem, 1, [], []), (.aload_n 0, 1, [0], []), (.getfield 274, 3, [12, 18, 0, 144], []), (.if_icmp .ge 7, 3, [86], []), (.iconst 1, 1, [], [1]), (.goto 4, 3, [87], [])]
theorem lb_X12_strokeOver : B_X12_strokeOver.all (fun b => lst y_X12_strokeOver.2.1 12 y_X12_strokeOver.2.2.1 false b.1 b.2) = true := by decide +kernel
theorem ls_X12_strokeOver_0 : lst y_X12_strokeOver.2.1 12 y_X12_strokeOver.2.2.1 false 0 S_X12_strokeOver_0 = true := by decide +kernel
theorem ls_X12_strokeOver_34 : lst y_X12_strokeOver.2.1 12 y_X12_strokeOver.2.2.1 false 34 S_X12_strokeOver_34 = true := by decide +kernel
def C_X12_strokeOver (N : Nat) : Nat → List Value → mH → (Option Value → mH → Option (Int32 × mH)) → Option (Int32 × mH) := fun j as g k => kb j 253 (pp1 as fun b0 as => pp1 as fun b1 as => pe as ((f_X12_round N b0 b1 g).bind fun p => k (some (.int p.1)) p.2)) (none)
theorem co_X12_strokeOver (N : Nat) (q : Int32 × mH) : clOK 5 q (C_X12_strokeOver N) := by
  intro j as g k e
  rcases kb_s e with ⟨rfl, e⟩ | e
  · obtain ⟨b0, r0, q0, f0⟩ := pp1_s e
    obtain ⟨b1, r1, q1, f1⟩ := pp1_s f0
    obtain ⟨qe, fe⟩ := pe_s f1
    obtain ⟨p, e1, e2⟩ := bnd_s fe
    subst qe
    subst q1
    subst q0
    exact ⟨_, _, _, _, 4, rfl, (by decide), m_X12_round N e1, e2⟩
  cases e
set_option maxRecDepth 100000 in
theorem t_X12_strokeOver_34 {X : Nat × (Nat → Int32)} (N : Nat) {q : Int32 × mH} (a0 : Nat) (x1 : Int32) (s_0 : Int32) (h : mH) (hf : J_X12_strokeOver_34 N a0 x1 s_0 h = some q) : MW X y_X12_strokeOver 5 34 [(0, .ref a0), (1, .int x1)] [.int s_0] h (some (.int q.1)) q.2 := by
  refine ev_ok (o := 12) (ini := false) (Cl := C_X12_strokeOver N) (Rc := RcZ) (B := B_X12_strokeOver) (K := fun pc ls st g => none) rfl (fun e => by cases e) (by decide) (rcZ_ok rfl) ?_ (co_X12_strokeOver N q) lb_X12_strokeOver 3000 34 S_X12_strokeOver_34 _ _ h ls_X12_strokeOver_34 hf
  intro pc ls st g e
  cases e
set_option maxRecDepth 100000 in
theorem m_X12_strokeOver (N : Nat) {a0 : Nat} {x1 : Int32} {x2 : Int32} {h : mH} {q : Int32 × mH} (hf : f_X12_strokeOver N a0 x1 x2 h = some q) : MM y_X12_strokeOver 5 [.ref a0, .int x1, .int x2] h (some (.int q.1)) q.2 := by
  refine MM.of (mFx (j := 289) rfl).2.2.2.1 (Nat.le_of_ble_eq_true rfl) (fun X => ?_)
  refine ev_ok (o := 12) (ini := false) (Cl := C_X12_strokeOver N) (Rc := RcZ) (B := B_X12_strokeOver) (K := fun pc ls st g => kb pc 34 (lgr 0 ls fun a0 => lgi 1 ls fun x1 => pp1 st fun s_0 st => pe st (J_X12_strokeOver_34 N a0 x1 s_0 g)) (none)) rfl (fun e => by cases e) (by decide) (rcZ_ok rfl) ?_ (co_X12_strokeOver N q) lb_X12_strokeOver 3000 0 S_X12_strokeOver_0 _ _ h ls_X12_strokeOver_0 hf
  intro pc ls st g e
  rcases kb_s e with ⟨rfl, e⟩ | e
  · obtain ⟨a0, e0, f0⟩ := lgr_s e
    obtain ⟨x1, e1, f1⟩ := lgi_s f0
    obtain ⟨s_0, r0, q0, g0⟩ := pp1_s f1
    obtain ⟨qe, fe⟩ := pe_s g0
    subst qe
    subst q0
    exact MW.sub (List.forall_mem_cons.mpr ⟨lg_mem e0, List.forall_mem_cons.mpr ⟨lg_mem e1, fun _ h => absurd h List.not_mem_nil⟩⟩) (t_X12_strokeOver_34 N a0 x1 s_0 g fe)
  cases e
def J_X12_makes_141 (N : Nat) (k57 : Nat → Int32 → Int32 → mH → Option (Int32 × mH)) (a0 : Nat) (x1 : Int32) (x2 : Int32) (x3 : Int32) (h : mH) : Option (Int32 × mH) :=
  (gR h 12 a0 22).bind fun v1 =>
  (gI h 12 a0 17).bind fun v2 =>
  if v2 = 0 then none else
  (stI 0 h v1 (iRem x1 v2) (iSub x3 (jI 48))).bind fun h3 =>
  let w4 := iAdd x2 (jI 1)
  k57 a0 x1 w4 h3
def L_X12_makes_57 (N : Nat) (k43 : Nat → Int32 → mH → Option (Int32 × mH)) : Nat → Nat → Int32 → Int32 → mH → Option (Int32 × mH)
  | 0, _, _, _, _ => none
  | n + 1, a0, x1, x2, h =>
    (gR h 12 a0 2).bind fun v1 =>
    (ldI 0 h v1 (jI 0)).bind fun v2 =>
    if x2 < v2 then
      (gR h 12 a0 2).bind fun v3 =>
      (ldI 0 h v3 (iAdd (iAdd (jI 144) (iMul (jI 32) x1)) x2)).bind fun v4 =>
      (rcv h 12 a0).bind fun _ =>
      (f_X12_strokeOver N a0 x1 x2 h).bind fun p5 =>
      if p5.1 = 0 then
        if v4 = (jI 46) then
          let w6 := iAdd x2 (jI 1)
          L_X12_makes_57 N k43 n a0 x1 w6 p5.2
        else
          some (jI 0, p5.2)
      else
        if v4 = (jI 46) then
          some (jI 0, p5.2)
        else
          (gR p5.2 12 a0 22).bind fun v7 =>
          (gI p5.2 12 a0 17).bind fun v8 =>
          if v8 = 0 then none else
          (ldI 0 p5.2 v7 (iRem x1 v8)).bind fun v9 =>
          if v9 = (jI (-1)) then
            J_X12_makes_141 N (L_X12_makes_57 N k43 n) a0 x1 x2 v4 p5.2
          else
            (gR p5.2 12 a0 22).bind fun v10 =>
            (gI p5.2 12 a0 17).bind fun v11 =>
            if v11 = 0 then none else
            (ldI 0 p5.2 v10 (iRem x1 v11)).bind fun v12 =>
            if v12 = (iSub v4 (jI 48)) then
              J_X12_makes_141 N (L_X12_makes_57 N k43 n) a0 x1 x2 v4 p5.2
            else
              some (jI 0, p5.2)
    else
      let w13 := iAdd x1 (jI 1)
      k43 a0 w13 h
def L_X12_makes_43 (N : Nat) : Nat → Nat → Int32 → mH → Option (Int32 × mH)
  | 0, _, _, _ => none
  | n + 1, a0, x1, h =>
    (gR h 12 a0 2).bind fun v1 =>
    (ldI 0 h v1 (jI 143)).bind fun v2 =>
    if x1 < v2 then
      L_X12_makes_57 N (L_X12_makes_43 N n) N a0 x1 (jI 0) h
    else
      some (jI 1, h)
def L_X12_makes_20 (N : Nat) : Nat → Nat → Int32 → mH → Option (Int32 × mH)
  | 0, _, _, _ => none
  | n + 1, a0, x1, h =>
    (gI h 12 a0 17).bind fun v1 =>
    if x1 < v1 then
      (gR h 12 a0 22).bind fun v2 =>
      (stI 0 h v2 x1 (jI (-1))).bind fun h3 =>
      let w4 := iAdd x1 (jI 1)
      L_X12_makes_20 N n a0 w4 h3
    else
      L_X12_makes_43 N N a0 (jI 0) h
def f_X12_makes (N : Nat) (a0 : Nat) (h : mH) : Option (Int32 × mH) :=
  (gR h 12 a0 2).bind fun v1 =>
  (ldI 0 h v1 (jI 143)).bind fun v2 =>
  (gI h 12 a0 17).bind fun v3 =>
  if v3 = 0 then none else
  if (iRem v2 v3) = 0 then
    L_X12_makes_20 N N a0 (jI 0) h
  else
    some (jI 0, h)
def y_X12_makes : mM := (yX12_makes, cX12_makes, 4, (some .boolean))
def B_X12_makes : List (Nat × List mI) := [(18, [(.iconst 0, 1, [], [0]), (.istore_n 1, 1, [1], [])]), (41, [(.iconst 0, 1, [], [0]), (.istore_n 1, 1, [1], [])]), (100, [(.iload_n 3, 1, [3], []), (.bipush 46, 2, [], [46]), (.if_icmp .eq 36, 3, [139], []), (.aload_n 0, 1, [0], []), (.getfield 36, 3, [12, 22, 2, 148], []), (.iload_n 1, 1, [1], []), (.aload_n 0, 1, [0], []), (.getfield 265, 3, [12, 17, 0, 143], []), (.irem, 1, [], []), (.iaload, 1, [0], []), (.iconst (-1), 1, [], [-1]), (.if_icmp .eq 23, 3, [141], []), (.aload_n 0, 1, [0], []), (.getfield 36, 3, [12, 22, 2, 148], []), (.iload_n 1, 1, [1], []), (.aload_n 0, 1, [0], []), (.getfield 265, 3, [12, 17, 0, 143], []), (.irem, 1, [], []), (.iaload, 1, [0], []), (.iload_n 3, 1, [3], []), (.bipush 48, 2, [], [48]), (.isub, 1, [], []), (.if_icmp .eq 5, 3, [141], [])]), (139, [(.iconst 0, 1, [], [0]), (.ireturn, 1, [], [])]), (156, [(.iinc 2 1, 3, [2], [1]), (.goto (-102), 3, [57], [])]), (162, [(.iinc 1 1, 3, [1], [1]), (.goto (-122), 3, [43], [])]), (168, [(.iconst 1, 1, [], [1]), (.ireturn, 1, [], [])])]
def S_X12_makes_0 : List mI := [(.aload_n 0, 1, [0], []), (.getfield 17, 3, [12, 2, 2, 128], []), (.sipush 143, 3, [], [143]), (.iaload, 1, [0], []), (.aload_n 0, 1, [0], []), (.getfield 265, 3, [12, 17, 0, 143], []), (.irem, 1, [], []), (.ifCond .eq 5, 3, [18], []), (.iconst 0, 1, [], [0]), (.ireturn, 1, [], [])]
def S_X12_makes_20 : List mI := [(.iload_n 1, 1, [1], []), (.aload_n 0, 1, [0], []), (.getfield 265, 3, [12, 17, 0, 143], []), (.if_icmp .ge 16, 3, [41], []), (.aload_n 0, 1, [0], []), (.getfield 36, 3, [12, 22, 2, 148], []), (.iload_n 1, 1, [1], []), (.iconst (-1), 1, [], [-1]), (.iastore, 1, [], []), (.iinc 1 1, 3, [1], [1]), (.goto (-18), 3, [20], [])]
def S_X12_makes_43 : List mI := [(.iload_n 1, 1, [1], []), (.aload_n 0, 1, [0], []), (.getfield 17, 3, [12, 2, 2, 128], []), (.sipush 143, 3, [], [143]), (.iaload, 1, [0], []), (.if_icmp .ge 116, 3, [168], []), (.iconst 0, 1, [], [0]), (.istore_n 2, 1, [2], [])]
def S_X12_makes_57 : List mI := [(.iload_n 2, 1, [2], []), (.aload_n 0, 1, [0], []), (.getfield 17, 3, [12, 2, 2, 128], []), (.iconst 0, 1, [], [0]), (.iaload, 1, [0], []), (.if_icmp .ge 98, 3, [162], []), (.aload_n 0, 1, [0], []), (.getfield 17, 3, [12, 2, 2, 128], []), (.sipush 144, 3, [], [144]), (.bipush 32, 2, [], [32]), (.iload_n 1, 1, [1], []), (.imul, 1, [], []), (.iadd, 1, [], []), (.iload_n 2, 1, [2], []), (.iadd, 1, [], []), (.iaload, 1, [0], []), (.istore_n 3, 1, [3], []), (.aload_n 0, 1, [0], []), (.iload_n 1, 1, [1], []), (.iload_n 2, 1, [2], []), (.invokevirtual 280, 3, [0, 289, 2, 12, 332], []), (.ifCond .ne 11, 3, [100], []), (.iload_n 3, 1, [3], []), (.bipush 46, 2, [], [46]), (.if_icmp .eq 61, 3, [156], []), (.iconst 0, 1, [], [0]), (.ireturn, 1, [], [])]
def S_X12_makes_141 : List mI := [(.aload_n 0, 1, [0], []), (.getfield 36, 3, [12, 22, 2, 148], []), (.iload_n 1, 1, [1], []), (.aload_n 0, 1, [0], []), (.getfield 265, 3, [12, 17, 0, 143], []), (.irem, 1, [], []), (.iload_n 3, 1, [3], []), (.bipush 48, 2, [], [48]), (.isub, 1, [], []), (.iastore, 1, [], [])]
theorem lb_X12_makes : B_X12_makes.all (fun b => lst y_X12_makes.2.1 12 y_X12_makes.2.2.1 false b.1 b.2) = true := by decide +kernel
theorem ls_X12_makes_0 : lst y_X12_makes.2.1 12 y_X12_makes.2.2.1 false 0 S_X12_makes_0 = true := by decide +kernel
theorem ls_X12_makes_20 : lst y_X12_makes.2.1 12 y_X12_makes.2.2.1 false 20 S_X12_makes_20 = true := by decide +kernel
theorem ls_X12_makes_43 : lst y_X12_makes.2.1 12 y_X12_makes.2.2.1 false 43 S_X12_makes_43 = true := by decide +kernel
theorem ls_X12_makes_57 : lst y_X12_makes.2.1 12 y_X12_makes.2.2.1 false 57 S_X12_makes_57 = true := by decide +kernel
theorem ls_X12_makes_141 : lst y_X12_makes.2.1 12 y_X12_makes.2.2.1 false 141 S_X12_makes_141 = true := by decide +kernel
def C_X12_makes (N : Nat) : Nat → List Value → mH → (Option Value → mH → Option (Int32 × mH)) → Option (Int32 × mH) := fun j as g k => kb j 289 (pr1 as fun b0 as => pp1 as fun b1 as => pp1 as fun b2 as => pe as ((f_X12_strokeOver N b0 b1 b2 g).bind fun p => k (some (.int p.1)) p.2)) (none)
theorem co_X12_makes (N : Nat) (q : Int32 × mH) : clOK 6 q (C_X12_makes N) := by
  intro j as g k e
  rcases kb_s e with ⟨rfl, e⟩ | e
  · obtain ⟨b0, r0, q0, f0⟩ := pr1_s e
    obtain ⟨b1, r1, q1, f1⟩ := pp1_s f0
    obtain ⟨b2, r2, q2, f2⟩ := pp1_s f1
    obtain ⟨qe, fe⟩ := pe_s f2
    obtain ⟨p, e1, e2⟩ := bnd_s fe
    subst qe
    subst q2
    subst q1
    subst q0
    exact ⟨_, _, _, _, 5, rfl, (by decide), m_X12_strokeOver N e1, e2⟩
  cases e
set_option maxRecDepth 100000 in
theorem t_X12_makes_141 {X : Nat × (Nat → Int32)} (N : Nat) {q : Int32 × mH} {k57 : Nat → Int32 → Int32 → mH → Option (Int32 × mH)} (hk57 : ∀ (a0 : Nat) (x1 : Int32) (x2 : Int32) g, k57 a0 x1 x2 g = some q → MW X y_X12_makes 6 57 [(0, .ref a0), (1, .int x1), (2, .int x2)] [] g (some (.int q.1)) q.2) (a0 : Nat) (x1 : Int32) (x2 : Int32) (x3 : Int32) (h : mH) (hf : J_X12_makes_141 N k57 a0 x1 x2 x3 h = some q) : MW X y_X12_makes 6 141 [(0, .ref a0), (1, .int x1), (2, .int x2), (3, .int x3)] [] h (some (.int q.1)) q.2 := by
  refine ev_ok (o := 12) (ini := false) (Cl := C_X12_makes N) (Rc := RcZ) (B := B_X12_makes) (K := fun pc ls st g => kb pc 57 (lgr 0 ls fun a0 => lgi 1 ls fun x1 => lgi 2 ls fun x2 => pe st (k57 a0 x1 x2 g)) (none)) rfl (fun e => by cases e) (by decide) (rcZ_ok rfl) ?_ (co_X12_makes N q) lb_X12_makes 3000 141 S_X12_makes_141 _ _ h ls_X12_makes_141 hf
  intro pc ls st g e
  rcases kb_s e with ⟨rfl, e⟩ | e
  · obtain ⟨a0, e0, f0⟩ := lgr_s e
    obtain ⟨x1, e1, f1⟩ := lgi_s f0
    obtain ⟨x2, e2, f2⟩ := lgi_s f1
    obtain ⟨qe, fe⟩ := pe_s f2
    subst qe
    exact MW.sub (List.forall_mem_cons.mpr ⟨lg_mem e0, List.forall_mem_cons.mpr ⟨lg_mem e1, List.forall_mem_cons.mpr ⟨lg_mem e2, fun _ h => absurd h List.not_mem_nil⟩⟩⟩) (hk57 a0 x1 x2 g fe)
  cases e
set_option maxRecDepth 100000 in
theorem t_X12_makes_57 {X : Nat × (Nat → Int32)} (N : Nat) {q : Int32 × mH} {k43 : Nat → Int32 → mH → Option (Int32 × mH)} (hk43 : ∀ (a0 : Nat) (x1 : Int32) g, k43 a0 x1 g = some q → MW X y_X12_makes 6 43 [(0, .ref a0), (1, .int x1)] [] g (some (.int q.1)) q.2) : ∀ (n : Nat) (a0 : Nat) (x1 : Int32) (x2 : Int32) (h : mH), L_X12_makes_57 N k43 n a0 x1 x2 h = some q → MW X y_X12_makes 6 57 [(0, .ref a0), (1, .int x1), (2, .int x2)] [] h (some (.int q.1)) q.2 := by
  intro n
  induction n with
  | zero => intro a0 x1 x2 h hf; cases hf
  | succ n ih =>
    intro a0 x1 x2 h hf
    refine ev_ok (o := 12) (ini := false) (Cl := C_X12_makes N) (Rc := RcZ) (B := B_X12_makes) (K := fun pc ls st g => kb pc 43 (lgr 0 ls fun a0 => lgi 1 ls fun x1 => pe st (k43 a0 x1 g)) (kb pc 57 (lgr 0 ls fun a0 => lgi 1 ls fun x1 => lgi 2 ls fun x2 => pe st (L_X12_makes_57 N k43 n a0 x1 x2 g)) (kb pc 141 (lgr 0 ls fun a0 => lgi 1 ls fun x1 => lgi 2 ls fun x2 => lgi 3 ls fun x3 => pe st (J_X12_makes_141 N (L_X12_makes_57 N k43 n) a0 x1 x2 x3 g)) (none)))) rfl (fun e => by cases e) (by decide) (rcZ_ok rfl) ?_ (co_X12_makes N q) lb_X12_makes 3000 57 S_X12_makes_57 _ _ h ls_X12_makes_57 hf
    intro pc ls st g e
    rcases kb_s e with ⟨rfl, e⟩ | e
    · obtain ⟨a0, e0, f0⟩ := lgr_s e
      obtain ⟨x1, e1, f1⟩ := lgi_s f0
      obtain ⟨qe, fe⟩ := pe_s f1
      subst qe
      exact MW.sub (List.forall_mem_cons.mpr ⟨lg_mem e0, List.forall_mem_cons.mpr ⟨lg_mem e1, fun _ h => absurd h List.not_mem_nil⟩⟩) (hk43 a0 x1 g fe)
    rcases kb_s e with ⟨rfl, e⟩ | e
    · obtain ⟨a0, e0, f0⟩ := lgr_s e
      obtain ⟨x1, e1, f1⟩ := lgi_s f0
      obtain ⟨x2, e2, f2⟩ := lgi_s f1
      obtain ⟨qe, fe⟩ := pe_s f2
      subst qe
      exact MW.sub (List.forall_mem_cons.mpr ⟨lg_mem e0, List.forall_mem_cons.mpr ⟨lg_mem e1, List.forall_mem_cons.mpr ⟨lg_mem e2, fun _ h => absurd h List.not_mem_nil⟩⟩⟩) (ih a0 x1 x2 g fe)
    rcases kb_s e with ⟨rfl, e⟩ | e
    · obtain ⟨a0, e0, f0⟩ := lgr_s e
      obtain ⟨x1, e1, f1⟩ := lgi_s f0
      obtain ⟨x2, e2, f2⟩ := lgi_s f1
      obtain ⟨x3, e3, f3⟩ := lgi_s f2
      obtain ⟨qe, fe⟩ := pe_s f3
      subst qe
      exact MW.sub (List.forall_mem_cons.mpr ⟨lg_mem e0, List.forall_mem_cons.mpr ⟨lg_mem e1, List.forall_mem_cons.mpr ⟨lg_mem e2, List.forall_mem_cons.mpr ⟨lg_mem e3, fun _ h => absurd h List.not_mem_nil⟩⟩⟩⟩) (t_X12_makes_141 N (fun a0 x1 x2 g e => ih a0 x1 x2 g e) a0 x1 x2 x3 g fe)
    cases e
set_option maxRecDepth 100000 in
theorem t_X12_makes_43 {X : Nat × (Nat → Int32)} (N : Nat) {q : Int32 × mH} : ∀ (n : Nat) (a0 : Nat) (x1 : Int32) (h : mH), L_X12_makes_43 N n a0 x1 h = some q → MW X y_X12_makes 6 43 [(0, .ref a0), (1, .int x1)] [] h (some (.int q.1)) q.2 := by
  intro n
  induction n with
  | zero => intro a0 x1 h hf; cases hf
  | succ n ih =>
    intro a0 x1 h hf
    refine ev_ok (o := 12) (ini := false) (Cl := C_X12_makes N) (Rc := RcZ) (B := B_X12_makes) (K := fun pc ls st g => kb pc 57 (lgr 0 ls fun a0 => lgi 1 ls fun x1 => lgi 2 ls fun x2 => pe st (L_X12_makes_57 N (L_X12_makes_43 N n) N a0 x1 x2 g)) (none)) rfl (fun e => by cases e) (by decide) (rcZ_ok rfl) ?_ (co_X12_makes N q) lb_X12_makes 3000 43 S_X12_makes_43 _ _ h ls_X12_makes_43 hf
    intro pc ls st g e
    rcases kb_s e with ⟨rfl, e⟩ | e
    · obtain ⟨a0, e0, f0⟩ := lgr_s e
      obtain ⟨x1, e1, f1⟩ := lgi_s f0
      obtain ⟨x2, e2, f2⟩ := lgi_s f1
      obtain ⟨qe, fe⟩ := pe_s f2
      subst qe
      exact MW.sub (List.forall_mem_cons.mpr ⟨lg_mem e0, List.forall_mem_cons.mpr ⟨lg_mem e1, List.forall_mem_cons.mpr ⟨lg_mem e2, fun _ h => absurd h List.not_mem_nil⟩⟩⟩) (t_X12_makes_57 N (fun a0 x1 g e => ih a0 x1 g e) N a0 x1 x2 g fe)
    cases e
set_option maxRecDepth 100000 in
theorem t_X12_makes_20 {X : Nat × (Nat → Int32)} (N : Nat) {q : Int32 × mH} : ∀ (n : Nat) (a0 : Nat) (x1 : Int32) (h : mH), L_X12_makes_20 N n a0 x1 h = some q → MW X y_X12_makes 6 20 [(0, .ref a0), (1, .int x1)] [] h (some (.int q.1)) q.2 := by
  intro n
  induction n with
  | zero => intro a0 x1 h hf; cases hf
  | succ n ih =>
    intro a0 x1 h hf
    refine ev_ok (o := 12) (ini := false) (Cl := C_X12_makes N) (Rc := RcZ) (B := B_X12_makes) (K := fun pc ls st g => kb pc 20 (lgr 0 ls fun a0 => lgi 1 ls fun x1 => pe st (L_X12_makes_20 N n a0 x1 g)) (kb pc 43 (lgr 0 ls fun a0 => lgi 1 ls fun x1 => pe st (L_X12_makes_43 N N a0 x1 g)) (none))) rfl (fun e => by cases e) (by decide) (rcZ_ok rfl) ?_ (co_X12_makes N q) lb_X12_makes 3000 20 S_X12_makes_20 _ _ h ls_X12_makes_20 hf
    intro pc ls st g e
    rcases kb_s e with ⟨rfl, e⟩ | e
    · obtain ⟨a0, e0, f0⟩ := lgr_s e
      obtain ⟨x1, e1, f1⟩ := lgi_s f0
      obtain ⟨qe, fe⟩ := pe_s f1
      subst qe
      exact MW.sub (List.forall_mem_cons.mpr ⟨lg_mem e0, List.forall_mem_cons.mpr ⟨lg_mem e1, fun _ h => absurd h List.not_mem_nil⟩⟩) (ih a0 x1 g fe)
    rcases kb_s e with ⟨rfl, e⟩ | e
    · obtain ⟨a0, e0, f0⟩ := lgr_s e
      obtain ⟨x1, e1, f1⟩ := lgi_s f0
      obtain ⟨qe, fe⟩ := pe_s f1
      subst qe
      exact MW.sub (List.forall_mem_cons.mpr ⟨lg_mem e0, List.forall_mem_cons.mpr ⟨lg_mem e1, fun _ h => absurd h List.not_mem_nil⟩⟩) (t_X12_makes_43 N N a0 x1 g fe)
    cases e
set_option maxRecDepth 100000 in
theorem m_X12_makes (N : Nat) {a0 : Nat} {h : mH} {q : Int32 × mH} (hf : f_X12_makes N a0 h = some q) : MM y_X12_makes 6 [.ref a0] h (some (.int q.1)) q.2 := by
  refine MM.of (mFx (j := 290) rfl).2.2.2.1 (Nat.le_of_ble_eq_true rfl) (fun X => ?_)
  refine ev_ok (o := 12) (ini := false) (Cl := C_X12_makes N) (Rc := RcZ) (B := B_X12_makes) (K := fun pc ls st g => kb pc 20 (lgr 0 ls fun a0 => lgi 1 ls fun x1 => pe st (L_X12_makes_20 N N a0 x1 g)) (none)) rfl (fun e => by cases e) (by decide) (rcZ_ok rfl) ?_ (co_X12_makes N q) lb_X12_makes 3000 0 S_X12_makes_0 _ _ h ls_X12_makes_0 hf
  intro pc ls st g e
  rcases kb_s e with ⟨rfl, e⟩ | e
  · obtain ⟨a0, e0, f0⟩ := lgr_s e
    obtain ⟨x1, e1, f1⟩ := lgi_s f0
    obtain ⟨qe, fe⟩ := pe_s f1
    subst qe
    exact MW.sub (List.forall_mem_cons.mpr ⟨lg_mem e0, List.forall_mem_cons.mpr ⟨lg_mem e1, fun _ h => absurd h List.not_mem_nil⟩⟩) (t_X12_makes_20 N N a0 x1 g fe)
  cases e
def J_X12_mistakes_113 (N : Nat) (k19 : Nat → Int32 → Int32 → Int32 → Int32 → mH → Option (Int32 × mH)) (a0 : Nat) (x1 : Int32) (x3 : Int32) (x4 : Int32) (s_0 : Int32) (s_1 : Int32) (s_2 : Int32) (h : mH) : Option (Int32 × mH) :=
  if s_1 = s_2 then
    let w1 := iAdd s_0 (jI 0)
    let w2 := iAdd x4 (jI 1)
    k19 a0 x1 w1 x3 w2 h
  else
    let w3 := iAdd s_0 (jI 1)
    let w4 := iAdd x4 (jI 1)
    k19 a0 x1 w3 x3 w4 h
def J_X12_mistakes_96 (N : Nat) (k19 : Nat → Int32 → Int32 → Int32 → Int32 → mH → Option (Int32 × mH)) (a0 : Nat) (x1 : Int32) (x3 : Int32) (x4 : Int32) (s_0 : Int32) (s_1 : Int32) (s_2 : Int32) (h : mH) : Option (Int32 × mH) :=
  if s_1 = s_2 then
    if x1 = 0 then
      J_X12_mistakes_113 N k19 a0 x1 x3 x4 s_0 (jI 1) (jI 1) h
    else
      J_X12_mistakes_113 N k19 a0 x1 x3 x4 s_0 (jI 1) (jI 0) h
  else
    if x1 = 0 then
      J_X12_mistakes_113 N k19 a0 x1 x3 x4 s_0 (jI 0) (jI 1) h
    else
      J_X12_mistakes_113 N k19 a0 x1 x3 x4 s_0 (jI 0) (jI 0) h
def J_X12_mistakes_62 (N : Nat) (k19 : Nat → Int32 → Int32 → Int32 → Int32 → mH → Option (Int32 × mH)) (a0 : Nat) (x1 : Int32) (x2 : Int32) (x3 : Int32) (x4 : Int32) (s_0 : Nat) (s_1 : Int32) (s_2 : Int32) (h : mH) : Option (Int32 × mH) :=
  (ldI 0 h s_0 (iAdd s_1 s_2)).bind fun v1 =>
  if v1 = (jI 63) then
    let w2 := iAdd x4 (jI 1)
    k19 a0 x1 x2 x3 w2 h
  else
    (rcv h 12 a0).bind fun _ =>
    (f_X12_strokeOver N a0 x3 x4 h).bind fun p3 =>
    if v1 = (jI 111) then
      J_X12_mistakes_96 N k19 a0 x1 x3 x4 x2 p3.1 (jI 1) p3.2
    else
      J_X12_mistakes_96 N k19 a0 x1 x3 x4 x2 p3.1 (jI 0) p3.2
def L_X12_mistakes_19 (N : Nat) (k4 : Nat → Int32 → Int32 → Int32 → mH → Option (Int32 × mH)) : Nat → Nat → Int32 → Int32 → Int32 → Int32 → mH → Option (Int32 × mH)
  | 0, _, _, _, _, _, _ => none
  | n + 1, a0, x1, x2, x3, x4, h =>
    (gR h 12 a0 2).bind fun v1 =>
    (ldI 0 h v1 (jI 0)).bind fun v2 =>
    if x4 < v2 then
      (gR h 12 a0 2).bind fun v3 =>
      if x1 = 0 then
        J_X12_mistakes_62 N (L_X12_mistakes_19 N k4 n) a0 x1 x2 x3 x4 v3 (iAdd (jI 401) (iMul (jI 32) x3)) x4 h
      else
        (gR h 12 a0 2).bind fun v4 =>
        (ldI 0 h v4 (jI 0)).bind fun v5 =>
        J_X12_mistakes_62 N (L_X12_mistakes_19 N k4 n) a0 x1 x2 x3 x4 v3 (iAdd (jI 401) (iMul (jI 32) x3)) (iSub (iSub v5 (jI 1)) x4) h
    else
      let w6 := iAdd x3 (jI 1)
      k4 a0 x1 x2 w6 h
def L_X12_mistakes_4 (N : Nat) : Nat → Nat → Int32 → Int32 → Int32 → mH → Option (Int32 × mH)
  | 0, _, _, _, _, _ => none
  | n + 1, a0, x1, x2, x3, h =>
    (gR h 12 a0 2).bind fun v1 =>
    (ldI 0 h v1 (jI 400)).bind fun v2 =>
    if x3 < v2 then
      L_X12_mistakes_19 N (L_X12_mistakes_4 N n) N a0 x1 x2 x3 (jI 0) h
    else
      some (x2, h)
def f_X12_mistakes (N : Nat) (a0 : Nat) (x1 : Int32) (h : mH) : Option (Int32 × mH) :=
  L_X12_mistakes_4 N N a0 x1 (jI 0) (jI 0) h
def y_X12_mistakes : mM := (yX12_mistakes, cX12_mistakes, 6, (some .int))
def B_X12_mistakes : List (Nat × List mI) := [(51, [(.aload_n 0, 1, [0], []), (.getfield 17, 3, [12, 2, 2, 128], []), (.iconst 0, 1, [], [0]), (.iaload, 1, [0], []), (.iconst 1, 1, [], [1]), (.isub, 1, [], []), (.iload 4, 2, [4], []), (.isub, 1, [], [])]), (76, [(.iload_n 2, 1, [2], []), (.aload_n 0, 1, [0], []), (.iload_n 3, 1, [3], []), (.iload 4, 2, [4], []), (.invokevirtual 280, 3, [0, 289, 2, 12, 332], []), (.iload 5, 2, [5], []), (.bipush 111, 2, [], [111]), (.if_icmp .ne 7, 3, [95], []), (.iconst 1, 1, [], [1]), (.goto 4, 3, [96], [])]), (95, [(.iconst 0, 1, [], [0])]), (103, [(.iconst 0, 1, [], [0])]), (104, [(.iload_n 1, 1, [1], []), (.ifCond .ne 7, 3, [112], []), (.iconst 1, 1, [], [1]), (.goto 4, 3, [113], [])]), (112, [(.iconst 0, 1, [], [0])]), (120, [(.iconst 1, 1, [], [1])]), (121, [(.iadd, 1, [], []), (.istore_n 2, 1, [2], [])]), (123, [(.iinc 4 1, 3, [4], [1]), (.goto (-107), 3, [19], [])]), (129, [(.iinc 3 1, 3, [3], [1]), (.goto (-128), 3, [4], [])]), (135, [(.iload_n 2, 1, [2], []), (.ireturn, 1, [], [])])]
def S_X12_mistakes_0 : List mI := [(.iconst 0, 1, [], [0]), (.istore_n 2, 1, [2], []), (.iconst 0, 1, [], [0]), (.istore_n 3, 1, [3], [])]
def S_X12_mistakes_4 : List mI := [(.iload_n 3, 1, [3], []), (.aload_n 0, 1, [0], []), (.getfield 17, 3, [12, 2, 2, 128], []), (.sipush 400, 3, [], [400]), (.iaload, 1, [0], []), (.if_icmp .ge 122, 3, [135], []), (.iconst 0, 1, [], [0]), (.istore 4, 2, [4], [])]
def S_X12_mistakes_19 : List mI := [(.iload 4, 2, [4], []), (.aload_n 0, 1, [0], []), (.getfield 17, 3, [12, 2, 2, 128], []), (.iconst 0, 1, [], [0]), (.iaload, 1, [0], []), (.if_icmp .ge 102, 3, [129], []), (.aload_n 0, 1, [0], []), (.getfield 17, 3, [12, 2, 2, 128], []), (.sipush 401, 3, [], [401]), (.bipush 32, 2, [], [32]), (.iload_n 3, 1, [3], []), (.imul, 1, [], []), (.iadd, 1, [], []), (.iload_n 1, 1, [1], []), (.ifCond .ne 8, 3, [51], []), (.iload 4, 2, [4], []), (.goto 14, 3, [62], [])]
def S_X12_mistakes_62 : List mI := [(.iadd, 1, [], []), (.iaload, 1, [0], []), (.istore 5, 2, [5], []), (.iload 5, 2, [5], []), (.bipush 63, 2, [], [63]), (.if_icmp .ne 6, 3, [76], []), (.goto 50, 3, [123], [])]
def S_X12_mistakes_96 : List mI := [(.if_icmp .ne 7, 3, [103], []), (.iconst 1, 1, [], [1]), (.goto 4, 3, [104], [])]
def S_X12_mistakes_113 : List mI := [(.if_icmp .ne 7, 3, [120], []), (.iconst 0, 1, [], [0]), (.goto 4, 3, [121], [])]
theorem lb_X12_mistakes : B_X12_mistakes.all (fun b => lst y_X12_mistakes.2.1 12 y_X12_mistakes.2.2.1 false b.1 b.2) = true := by decide +kernel
theorem ls_X12_mistakes_0 : lst y_X12_mistakes.2.1 12 y_X12_mistakes.2.2.1 false 0 S_X12_mistakes_0 = true := by decide +kernel
theorem ls_X12_mistakes_4 : lst y_X12_mistakes.2.1 12 y_X12_mistakes.2.2.1 false 4 S_X12_mistakes_4 = true := by decide +kernel
theorem ls_X12_mistakes_19 : lst y_X12_mistakes.2.1 12 y_X12_mistakes.2.2.1 false 19 S_X12_mistakes_19 = true := by decide +kernel
theorem ls_X12_mistakes_62 : lst y_X12_mistakes.2.1 12 y_X12_mistakes.2.2.1 false 62 S_X12_mistakes_62 = true := by decide +kernel
theorem ls_X12_mistakes_96 : lst y_X12_mistakes.2.1 12 y_X12_mistakes.2.2.1 false 96 S_X12_mistakes_96 = true := by decide +kernel
theorem ls_X12_mistakes_113 : lst y_X12_mistakes.2.1 12 y_X12_mistakes.2.2.1 false 113 S_X12_mistakes_113 = true := by decide +kernel
def C_X12_mistakes (N : Nat) : Nat → List Value → mH → (Option Value → mH → Option (Int32 × mH)) → Option (Int32 × mH) := fun j as g k => kb j 289 (pr1 as fun b0 as => pp1 as fun b1 as => pp1 as fun b2 as => pe as ((f_X12_strokeOver N b0 b1 b2 g).bind fun p => k (some (.int p.1)) p.2)) (none)
theorem co_X12_mistakes (N : Nat) (q : Int32 × mH) : clOK 6 q (C_X12_mistakes N) := by
  intro j as g k e
  rcases kb_s e with ⟨rfl, e⟩ | e
  · obtain ⟨b0, r0, q0, f0⟩ := pr1_s e
    obtain ⟨b1, r1, q1, f1⟩ := pp1_s f0
    obtain ⟨b2, r2, q2, f2⟩ := pp1_s f1
    obtain ⟨qe, fe⟩ := pe_s f2
    obtain ⟨p, e1, e2⟩ := bnd_s fe
    subst qe
    subst q2
    subst q1
    subst q0
    exact ⟨_, _, _, _, 5, rfl, (by decide), m_X12_strokeOver N e1, e2⟩
  cases e
set_option maxRecDepth 100000 in
theorem t_X12_mistakes_113 {X : Nat × (Nat → Int32)} (N : Nat) {q : Int32 × mH} {k19 : Nat → Int32 → Int32 → Int32 → Int32 → mH → Option (Int32 × mH)} (hk19 : ∀ (a0 : Nat) (x1 : Int32) (x2 : Int32) (x3 : Int32) (x4 : Int32) g, k19 a0 x1 x2 x3 x4 g = some q → MW X y_X12_mistakes 6 19 [(0, .ref a0), (1, .int x1), (2, .int x2), (3, .int x3), (4, .int x4)] [] g (some (.int q.1)) q.2) (a0 : Nat) (x1 : Int32) (x3 : Int32) (x4 : Int32) (s_0 : Int32) (s_1 : Int32) (s_2 : Int32) (h : mH) (hf : J_X12_mistakes_113 N k19 a0 x1 x3 x4 s_0 s_1 s_2 h = some q) : MW X y_X12_mistakes 6 113 [(0, .ref a0), (1, .int x1), (3, .int x3), (4, .int x4)] [.int s_2, .int s_1, .int s_0] h (some (.int q.1)) q.2 := by
  refine ev_ok (o := 12) (ini := false) (Cl := C_X12_mistakes N) (Rc := RcI) (B := B_X12_mistakes) (K := fun pc ls st g => kb pc 19 (lgr 0 ls fun a0 => lgi 1 ls fun x1 => lgi 2 ls fun x2 => lgi 3 ls fun x3 => lgi 4 ls fun x4 => pe st (k19 a0 x1 x2 x3 x4 g)) (none)) rfl (fun e => by cases e) (by decide) (rcI_ok rfl) ?_ (co_X12_mistakes N q) lb_X12_mistakes 3000 113 S_X12_mistakes_113 _ _ h ls_X12_mistakes_113 hf
  intro pc ls st g e
  rcases kb_s e with ⟨rfl, e⟩ | e
  · obtain ⟨a0, e0, f0⟩ := lgr_s e
    obtain ⟨x1, e1, f1⟩ := lgi_s f0
    obtain ⟨x2, e2, f2⟩ := lgi_s f1
    obtain ⟨x3, e3, f3⟩ := lgi_s f2
    obtain ⟨x4, e4, f4⟩ := lgi_s f3
    obtain ⟨qe, fe⟩ := pe_s f4
    subst qe
    exact MW.sub (List.forall_mem_cons.mpr ⟨lg_mem e0, List.forall_mem_cons.mpr ⟨lg_mem e1, List.forall_mem_cons.mpr ⟨lg_mem e2, List.forall_mem_cons.mpr ⟨lg_mem e3, List.forall_mem_cons.mpr ⟨lg_mem e4, fun _ h => absurd h List.not_mem_nil⟩⟩⟩⟩⟩) (hk19 a0 x1 x2 x3 x4 g fe)
  cases e
set_option maxRecDepth 100000 in
theorem t_X12_mistakes_96 {X : Nat × (Nat → Int32)} (N : Nat) {q : Int32 × mH} {k19 : Nat → Int32 → Int32 → Int32 → Int32 → mH → Option (Int32 × mH)} (hk19 : ∀ (a0 : Nat) (x1 : Int32) (x2 : Int32) (x3 : Int32) (x4 : Int32) g, k19 a0 x1 x2 x3 x4 g = some q → MW X y_X12_mistakes 6 19 [(0, .ref a0), (1, .int x1), (2, .int x2), (3, .int x3), (4, .int x4)] [] g (some (.int q.1)) q.2) (a0 : Nat) (x1 : Int32) (x3 : Int32) (x4 : Int32) (s_0 : Int32) (s_1 : Int32) (s_2 : Int32) (h : mH) (hf : J_X12_mistakes_96 N k19 a0 x1 x3 x4 s_0 s_1 s_2 h = some q) : MW X y_X12_mistakes 6 96 [(0, .ref a0), (1, .int x1), (3, .int x3), (4, .int x4)] [.int s_2, .int s_1, .int s_0] h (some (.int q.1)) q.2 := by
  refine ev_ok (o := 12) (ini := false) (Cl := C_X12_mistakes N) (Rc := RcI) (B := B_X12_mistakes) (K := fun pc ls st g => kb pc 113 (lgr 0 ls fun a0 => lgi 1 ls fun x1 => lgi 3 ls fun x3 => lgi 4 ls fun x4 => pp1 st fun s_2 st => pp1 st fun s_1 st => pp1 st fun s_0 st => pe st (J_X12_mistakes_113 N k19 a0 x1 x3 x4 s_0 s_1 s_2 g)) (none)) rfl (fun e => by cases e) (by decide) (rcI_ok rfl) ?_ (co_X12_mistakes N q) lb_X12_mistakes 3000 96 S_X12_mistakes_96 _ _ h ls_X12_mistakes_96 hf
  intro pc ls st g e
  rcases kb_s e with ⟨rfl, e⟩ | e
  · obtain ⟨a0, e0, f0⟩ := lgr_s e
    obtain ⟨x1, e1, f1⟩ := lgi_s f0
    obtain ⟨x3, e2, f2⟩ := lgi_s f1
    obtain ⟨x4, e3, f3⟩ := lgi_s f2
    obtain ⟨s_2, r0, q0, g0⟩ := pp1_s f3
    obtain ⟨s_1, r1, q1, g1⟩ := pp1_s g0
    obtain ⟨s_0, r2, q2, g2⟩ := pp1_s g1
    obtain ⟨qe, fe⟩ := pe_s g2
    subst qe
    subst q2
    subst q1
    subst q0
    exact MW.sub (List.forall_mem_cons.mpr ⟨lg_mem e0, List.forall_mem_cons.mpr ⟨lg_mem e1, List.forall_mem_cons.mpr ⟨lg_mem e2, List.forall_mem_cons.mpr ⟨lg_mem e3, fun _ h => absurd h List.not_mem_nil⟩⟩⟩⟩) (t_X12_mistakes_113 N hk19 a0 x1 x3 x4 s_0 s_1 s_2 g fe)
  cases e
set_option maxRecDepth 100000 in
theorem t_X12_mistakes_62 {X : Nat × (Nat → Int32)} (N : Nat) {q : Int32 × mH} {k19 : Nat → Int32 → Int32 → Int32 → Int32 → mH → Option (Int32 × mH)} (hk19 : ∀ (a0 : Nat) (x1 : Int32) (x2 : Int32) (x3 : Int32) (x4 : Int32) g, k19 a0 x1 x2 x3 x4 g = some q → MW X y_X12_mistakes 6 19 [(0, .ref a0), (1, .int x1), (2, .int x2), (3, .int x3), (4, .int x4)] [] g (some (.int q.1)) q.2) (a0 : Nat) (x1 : Int32) (x2 : Int32) (x3 : Int32) (x4 : Int32) (s_0 : Nat) (s_1 : Int32) (s_2 : Int32) (h : mH) (hf : J_X12_mistakes_62 N k19 a0 x1 x2 x3 x4 s_0 s_1 s_2 h = some q) : MW X y_X12_mistakes 6 62 [(0, .ref a0), (1, .int x1), (2, .int x2), (3, .int x3), (4, .int x4)] [.int s_2, .int s_1, .ref s_0] h (some (.int q.1)) q.2 := by
  refine ev_ok (o := 12) (ini := false) (Cl := C_X12_mistakes N) (Rc := RcI) (B := B_X12_mistakes) (K := fun pc ls st g => kb pc 19 (lgr 0 ls fun a0 => lgi 1 ls fun x1 => lgi 2 ls fun x2 => lgi 3 ls fun x3 => lgi 4 ls fun x4 => pe st (k19 a0 x1 x2 x3 x4 g)) (kb pc 96 (lgr 0 ls fun a0 => lgi 1 ls fun x1 => lgi 3 ls fun x3 => lgi 4 ls fun x4 => pp1 st fun s_2 st => pp1 st fun s_1 st => pp1 st fun s_0 st => pe st (J_X12_mistakes_96 N k19 a0 x1 x3 x4 s_0 s_1 s_2 g)) (none))) rfl (fun e => by cases e) (by decide) (rcI_ok rfl) ?_ (co_X12_mistakes N q) lb_X12_mistakes 3000 62 S_X12_mistakes_62 _ _ h ls_X12_mistakes_62 hf
  intro pc ls st g e
  rcases kb_s e with ⟨rfl, e⟩ | e
  · obtain ⟨a0, e0, f0⟩ := lgr_s e
    obtain ⟨x1, e1, f1⟩ := lgi_s f0
    obtain ⟨x2, e2, f2⟩ := lgi_s f1
    obtain ⟨x3, e3, f3⟩ := lgi_s f2
    obtain ⟨x4, e4, f4⟩ := lgi_s f3
    obtain ⟨qe, fe⟩ := pe_s f4
    subst qe
    exact MW.sub (List.forall_mem_cons.mpr ⟨lg_mem e0, List.forall_mem_cons.mpr ⟨lg_mem e1, List.forall_mem_cons.mpr ⟨lg_mem e2, List.forall_mem_cons.mpr ⟨lg_mem e3, List.forall_mem_cons.mpr ⟨lg_mem e4, fun _ h => absurd h List.not_mem_nil⟩⟩⟩⟩⟩) (hk19 a0 x1 x2 x3 x4 g fe)
  rcases kb_s e with ⟨rfl, e⟩ | e
  · obtain ⟨a0, e0, f0⟩ := lgr_s e
    obtain ⟨x1, e1, f1⟩ := lgi_s f0
    obtain ⟨x3, e2, f2⟩ := lgi_s f1
    obtain ⟨x4, e3, f3⟩ := lgi_s f2
    obtain ⟨s_2, r0, q0, g0⟩ := pp1_s f3
    obtain ⟨s_1, r1, q1, g1⟩ := pp1_s g0
    obtain ⟨s_0, r2, q2, g2⟩ := pp1_s g1
    obtain ⟨qe, fe⟩ := pe_s g2
    subst qe
    subst q2
    subst q1
    subst q0
    exact MW.sub (List.forall_mem_cons.mpr ⟨lg_mem e0, List.forall_mem_cons.mpr ⟨lg_mem e1, List.forall_mem_cons.mpr ⟨lg_mem e2, List.forall_mem_cons.mpr ⟨lg_mem e3, fun _ h => absurd h List.not_mem_nil⟩⟩⟩⟩) (t_X12_mistakes_96 N hk19 a0 x1 x3 x4 s_0 s_1 s_2 g fe)
  cases e
set_option maxRecDepth 100000 in
theorem t_X12_mistakes_19 {X : Nat × (Nat → Int32)} (N : Nat) {q : Int32 × mH} {k4 : Nat → Int32 → Int32 → Int32 → mH → Option (Int32 × mH)} (hk4 : ∀ (a0 : Nat) (x1 : Int32) (x2 : Int32) (x3 : Int32) g, k4 a0 x1 x2 x3 g = some q → MW X y_X12_mistakes 6 4 [(0, .ref a0), (1, .int x1), (2, .int x2), (3, .int x3)] [] g (some (.int q.1)) q.2) : ∀ (n : Nat) (a0 : Nat) (x1 : Int32) (x2 : Int32) (x3 : Int32) (x4 : Int32) (h : mH), L_X12_mistakes_19 N k4 n a0 x1 x2 x3 x4 h = some q → MW X y_X12_mistakes 6 19 [(0, .ref a0), (1, .int x1), (2, .int x2), (3, .int x3), (4, .int x4)] [] h (some (.int q.1)) q.2 := by
  intro n
  induction n with
  | zero => intro a0 x1 x2 x3 x4 h hf; cases hf
  | succ n ih =>
    intro a0 x1 x2 x3 x4 h hf
    refine ev_ok (o := 12) (ini := false) (Cl := C_X12_mistakes N) (Rc := RcI) (B := B_X12_mistakes) (K := fun pc ls st g => kb pc 4 (lgr 0 ls fun a0 => lgi 1 ls fun x1 => lgi 2 ls fun x2 => lgi 3 ls fun x3 => pe st (k4 a0 x1 x2 x3 g)) (kb pc 62 (lgr 0 ls fun a0 => lgi 1 ls fun x1 => lgi 2 ls fun x2 => lgi 3 ls fun x3 => lgi 4 ls fun x4 => pp1 st fun s_2 st => pp1 st fun s_1 st => pr1 st fun s_0 st => pe st (J_X12_mistakes_62 N (L_X12_mistakes_19 N k4 n) a0 x1 x2 x3 x4 s_0 s_1 s_2 g)) (none))) rfl (fun e => by cases e) (by decide) (rcI_ok rfl) ?_ (co_X12_mistakes N q) lb_X12_mistakes 3000 19 S_X12_mistakes_19 _ _ h ls_X12_mistakes_19 hf
    intro pc ls st g e
    rcases kb_s e with ⟨rfl, e⟩ | e
    · obtain ⟨a0, e0, f0⟩ := lgr_s e
      obtain ⟨x1, e1, f1⟩ := lgi_s f0
      obtain ⟨x2, e2, f2⟩ := lgi_s f1
      obtain ⟨x3, e3, f3⟩ := lgi_s f2
      obtain ⟨qe, fe⟩ := pe_s f3
      subst qe
      exact MW.sub (List.forall_mem_cons.mpr ⟨lg_mem e0, List.forall_mem_cons.mpr ⟨lg_mem e1, List.forall_mem_cons.mpr ⟨lg_mem e2, List.forall_mem_cons.mpr ⟨lg_mem e3, fun _ h => absurd h List.not_mem_nil⟩⟩⟩⟩) (hk4 a0 x1 x2 x3 g fe)
    rcases kb_s e with ⟨rfl, e⟩ | e
    · obtain ⟨a0, e0, f0⟩ := lgr_s e
      obtain ⟨x1, e1, f1⟩ := lgi_s f0
      obtain ⟨x2, e2, f2⟩ := lgi_s f1
      obtain ⟨x3, e3, f3⟩ := lgi_s f2
      obtain ⟨x4, e4, f4⟩ := lgi_s f3
      obtain ⟨s_2, r0, q0, g0⟩ := pp1_s f4
      obtain ⟨s_1, r1, q1, g1⟩ := pp1_s g0
      obtain ⟨s_0, r2, q2, g2⟩ := pr1_s g1
      obtain ⟨qe, fe⟩ := pe_s g2
      subst qe
      subst q2
      subst q1
      subst q0
      exact MW.sub (List.forall_mem_cons.mpr ⟨lg_mem e0, List.forall_mem_cons.mpr ⟨lg_mem e1, List.forall_mem_cons.mpr ⟨lg_mem e2, List.forall_mem_cons.mpr ⟨lg_mem e3, List.forall_mem_cons.mpr ⟨lg_mem e4, fun _ h => absurd h List.not_mem_nil⟩⟩⟩⟩⟩) (t_X12_mistakes_62 N (fun a0 x1 x2 x3 x4 g e => ih a0 x1 x2 x3 x4 g e) a0 x1 x2 x3 x4 s_0 s_1 s_2 g fe)
    cases e
set_option maxRecDepth 100000 in
theorem t_X12_mistakes_4 {X : Nat × (Nat → Int32)} (N : Nat) {q : Int32 × mH} : ∀ (n : Nat) (a0 : Nat) (x1 : Int32) (x2 : Int32) (x3 : Int32) (h : mH), L_X12_mistakes_4 N n a0 x1 x2 x3 h = some q → MW X y_X12_mistakes 6 4 [(0, .ref a0), (1, .int x1), (2, .int x2), (3, .int x3)] [] h (some (.int q.1)) q.2 := by
  intro n
  induction n with
  | zero => intro a0 x1 x2 x3 h hf; cases hf
  | succ n ih =>
    intro a0 x1 x2 x3 h hf
    refine ev_ok (o := 12) (ini := false) (Cl := C_X12_mistakes N) (Rc := RcI) (B := B_X12_mistakes) (K := fun pc ls st g => kb pc 19 (lgr 0 ls fun a0 => lgi 1 ls fun x1 => lgi 2 ls fun x2 => lgi 3 ls fun x3 => lgi 4 ls fun x4 => pe st (L_X12_mistakes_19 N (L_X12_mistakes_4 N n) N a0 x1 x2 x3 x4 g)) (none)) rfl (fun e => by cases e) (by decide) (rcI_ok rfl) ?_ (co_X12_mistakes N q) lb_X12_mistakes 3000 4 S_X12_mistakes_4 _ _ h ls_X12_mistakes_4 hf
    intro pc ls st g e
    rcases kb_s e with ⟨rfl, e⟩ | e
    · obtain ⟨a0, e0, f0⟩ := lgr_s e
      obtain ⟨x1, e1, f1⟩ := lgi_s f0
      obtain ⟨x2, e2, f2⟩ := lgi_s f1
      obtain ⟨x3, e3, f3⟩ := lgi_s f2
      obtain ⟨x4, e4, f4⟩ := lgi_s f3
      obtain ⟨qe, fe⟩ := pe_s f4
      subst qe
      exact MW.sub (List.forall_mem_cons.mpr ⟨lg_mem e0, List.forall_mem_cons.mpr ⟨lg_mem e1, List.forall_mem_cons.mpr ⟨lg_mem e2, List.forall_mem_cons.mpr ⟨lg_mem e3, List.forall_mem_cons.mpr ⟨lg_mem e4, fun _ h => absurd h List.not_mem_nil⟩⟩⟩⟩⟩) (t_X12_mistakes_19 N (fun a0 x1 x2 x3 g e => ih a0 x1 x2 x3 g e) N a0 x1 x2 x3 x4 g fe)
    cases e
set_option maxRecDepth 100000 in
theorem m_X12_mistakes (N : Nat) {a0 : Nat} {x1 : Int32} {h : mH} {q : Int32 × mH} (hf : f_X12_mistakes N a0 x1 h = some q) : MM y_X12_mistakes 6 [.ref a0, .int x1] h (some (.int q.1)) q.2 := by
  refine MM.of (mFx (j := 291) rfl).2.2.2.1 (Nat.le_of_ble_eq_true rfl) (fun X => ?_)
  refine ev_ok (o := 12) (ini := false) (Cl := C_X12_mistakes N) (Rc := RcI) (B := B_X12_mistakes) (K := fun pc ls st g => kb pc 4 (lgr 0 ls fun a0 => lgi 1 ls fun x1 => lgi 2 ls fun x2 => lgi 3 ls fun x3 => pe st (L_X12_mistakes_4 N N a0 x1 x2 x3 g)) (none)) rfl (fun e => by cases e) (by decide) (rcI_ok rfl) ?_ (co_X12_mistakes N q) lb_X12_mistakes 3000 0 S_X12_mistakes_0 _ _ h ls_X12_mistakes_0 hf
  intro pc ls st g e
  rcases kb_s e with ⟨rfl, e⟩ | e
  · obtain ⟨a0, e0, f0⟩ := lgr_s e
    obtain ⟨x1, e1, f1⟩ := lgi_s f0
    obtain ⟨x2, e2, f2⟩ := lgi_s f1
    obtain ⟨x3, e3, f3⟩ := lgi_s f2
    obtain ⟨qe, fe⟩ := pe_s f3
    subst qe
    exact MW.sub (List.forall_mem_cons.mpr ⟨lg_mem e0, List.forall_mem_cons.mpr ⟨lg_mem e1, List.forall_mem_cons.mpr ⟨lg_mem e2, List.forall_mem_cons.mpr ⟨lg_mem e3, fun _ h => absurd h List.not_mem_nil⟩⟩⟩⟩) (t_X12_mistakes_4 N N a0 x1 x2 x3 g fe)
  cases e
def f_X12_nextStroke (N : Nat) (a0 : Nat) (h : mH) : Option (Int32 × mH) :=
  (gI h 12 a0 21).bind fun v1 =>
  (pV h 12 a0 21 (.int (iAdd v1 (jI 1)))).bind fun h2 =>
  (gI h2 12 a0 21).bind fun v3 =>
  if v3 < (jI 2) then
    some (jI 1, h2)
  else
    (pV h2 12 a0 21 (.int (jI 0))).bind fun h4 =>
    (gI h4 12 a0 20).bind fun v5 =>
    (pV h4 12 a0 20 (.int (iAdd v5 (jI 1)))).bind fun h6 =>
    (gI h6 12 a0 20).bind fun v7 =>
    (gR h6 12 a0 2).bind fun v8 =>
    (ldI 0 h6 v8 (jI 0)).bind fun v9 =>
    if v7 < v9 then
      some (jI 1, h6)
    else
      (pV h6 12 a0 20 (.int (jI 0))).bind fun h10 =>
      (gI h10 12 a0 19).bind fun v11 =>
      (pV h10 12 a0 19 (.int (iAdd v11 (jI 1)))).bind fun h12 =>
      (gI h12 12 a0 19).bind fun v13 =>
      if v13 < (jI 5) then
        some (jI 1, h12)
      else
        (pV h12 12 a0 19 (.int (jI 1))).bind fun h14 =>
        (gI h14 12 a0 18).bind fun v15 =>
        (pV h14 12 a0 18 (.int (iAdd v15 (jI 1)))).bind fun h16 =>
        (gI h16 12 a0 18).bind fun v17 =>
        if v17 < (jI 5) then
          some (jI 1, h16)
        else
          (pV h16 12 a0 18 (.int (jI 1))).bind fun h18 =>
          (gI h18 12 a0 17).bind fun v19 =>
          (pV h18 12 a0 17 (.int (iAdd v19 (jI 1)))).bind fun h20 =>
          (gI h20 12 a0 17).bind fun v21 =>
          if v21 < (jI 5) then
            some (jI 1, h20)
          else
            some (jI 0, h20)
def y_X12_nextStroke : mM := (yX12_nextStroke, cX12_nextStroke, 1, (some .boolean))
def B_X12_nextStroke : List (Nat × List mI) := [(20, [(.aload_n 0, 1, [0], []), (.iconst 0, 1, [], [0]), (.putfield 268, 3, [12, 21, 0, 147], []), (.aload_n 0, 1, [0], []), (.dup, 1, [], []), (.getfield 271, 3, [12, 20, 0, 146], []), (.iconst 1, 1, [], [1]), (.iadd, 1, [], []), (.putfield 271, 3, [12, 20, 0, 146], []), (.aload_n 0, 1, [0], []), (.getfield 271, 3, [12, 20, 0, 146], []), (.aload_n 0, 1, [0], []), (.getfield 17, 3, [12, 2, 2, 128], []), (.iconst 0, 1, [], [0]), (.iaload, 1, [0], []), (.if_icmp .ge 5, 3, [50], []), (.iconst 1, 1, [], [1]), (.ireturn, 1, [], [])]), (50, [(.aload_n 0, 1, [0], []), (.iconst 0, 1, [], [0]), (.putfield 271, 3, [12, 20, 0, 146], []), (.aload_n 0, 1, [0], []), (.dup, 1, [], []), (.getfield 277, 3, [12, 19, 0, 145], []), (.iconst 1, 1, [], [1]), (.iadd, 1, [], []), (.putfield 277, 3, [12, 19, 0, 145], []), (.aload_n 0, 1, [0], []), (.getfield 277, 3, [12, 19, 0, 145], []), (.iconst 5, 1, [], [5]), (.if_icmp .ge 5, 3, [75], []), (.iconst 1, 1, [], [1]), (.ireturn, 1, [], [])]), (75, [(.aload_n 0, 1, [0], []), (.iconst 1, 1, [], [1]), (.putfield 277, 3, [12, 19, 0, 145], []), (.aload_n 0, 1, [0], []), (.dup, 1, [], []), (.getfield 274, 3, [12, 18, 0, 144], []), (.iconst 1, 1, [], [1]), (.iadd, 1, [], []), (.putfield 274, 3, [12, 18, 0, 144], []), (.aload_n 0, 1, [0], []), (.getfield 274, 3, [12, 18, 0, 144], []), (.iconst 5, 1, [], [5]), (.if_icmp .ge 5, 3, [100], []), (.iconst 1, 1, [], [1]), (.ireturn, 1, [], [])]), (100, [(.aload_n 0, 1, [0], []), (.iconst 1, 1, [], [1]), (.putfield 274, 3, [12, 18, 0, 144], []), (.aload_n 0, 1, [0], []), (.dup, 1, [], []), (.getfield 265, 3, [12, 17, 0, 143], []), (.iconst 1, 1, [], [1]), (.iadd, 1, [], []), (.putfield 265, 3, [12, 17, 0, 143], []), (.aload_n 0, 1, [0], []), (.getfield 265, 3, [12, 17, 0, 143], []), (.iconst 5, 1, [], [5]), (.if_icmp .ge 7, 3, [127], []), (.iconst 1, 1, [], [1]), (.goto 4, 3, [128], [])]), (127, [(.iconst 0, 1, [], [0])]), (128, [(.ireturn, 1, [], [])])]
def S_X12_nextStroke_0 : List mI := [(.aload_n 0, 1, [0], []), (.dup, 1, [], []), (.getfield 268, 3, [12, 21, 0, 147], []), (.iconst 1, 1, [], [1]), (.iadd, 1, [], []), (.putfield 268, 3, [12, 21, 0, 147], []), (.aload_n 0, 1, [0], []), (.getfield 268, 3, [12, 21, 0, 147], []), (.iconst 2, 1, [], [2]), (.if_icmp .ge 5, 3, [20], []), (.iconst 1, 1, [], [1]), (.ireturn, 1, [], [])]
theorem lb_X12_nextStroke : B_X12_nextStroke.all (fun b => lst y_X12_nextStroke.2.1 12 y_X12_nextStroke.2.2.1 false b.1 b.2) = true := by decide +kernel
theorem ls_X12_nextStroke_0 : lst y_X12_nextStroke.2.1 12 y_X12_nextStroke.2.2.1 false 0 S_X12_nextStroke_0 = true := by decide +kernel
def C_X12_nextStroke (N : Nat) : Nat → List Value → mH → (Option Value → mH → Option (Int32 × mH)) → Option (Int32 × mH) := fun j as g k => none
theorem co_X12_nextStroke (N : Nat) (q : Int32 × mH) : clOK 4 q (C_X12_nextStroke N) := by
  intro j as g k e
  cases e
set_option maxRecDepth 100000 in
theorem m_X12_nextStroke (N : Nat) {a0 : Nat} {h : mH} {q : Int32 × mH} (hf : f_X12_nextStroke N a0 h = some q) : MM y_X12_nextStroke 4 [.ref a0] h (some (.int q.1)) q.2 := by
  refine MM.of (mFx (j := 292) rfl).2.2.2.1 (Nat.le_of_ble_eq_true rfl) (fun X => ?_)
  refine ev_ok (o := 12) (ini := false) (Cl := C_X12_nextStroke N) (Rc := RcZ) (B := B_X12_nextStroke) (K := fun pc ls st g => none) rfl (fun e => by cases e) (by decide) (rcZ_ok rfl) ?_ (co_X12_nextStroke N q) lb_X12_nextStroke 3000 0 S_X12_nextStroke_0 _ _ h ls_X12_nextStroke_0 hf
  intro pc ls st g e
  cases e
def f_X12_firstStroke (N : Nat) (a0 : Nat) (h : mH) : Option (mH) :=
  (pV h 12 a0 17 (.int (jI 1))).bind fun h1 =>
  (pV h1 12 a0 18 (.int (jI 1))).bind fun h2 =>
  (pV h2 12 a0 19 (.int (jI 1))).bind fun h3 =>
  (pV h3 12 a0 20 (.int (jI 0))).bind fun h4 =>
  (pV h4 12 a0 21 (.int (jI 0))).bind fun h5 =>
  some h5
def y_X12_firstStroke : mM := (yX12_firstStroke, cX12_firstStroke, 1, none)
def B_X12_firstStroke : List (Nat × List mI) := []
def S_X12_firstStroke_0 : List mI := [(.aload_n 0, 1, [0], []), (.iconst 1, 1, [], [1]), (.putfield 265, 3, [12, 17, 0, 143], []), (.aload_n 0, 1, [0], []), (.iconst 1, 1, [], [1]), (.putfield 274, 3, [12, 18, 0, 144], []), (.aload_n 0, 1, [0], []), (.iconst 1, 1, [], [1]), (.putfield 277, 3, [12, 19, 0, 145], []), (.aload_n 0, 1, [0], []), (.iconst 0, 1, [], [0]), (.putfield 271, 3, [12, 20, 0, 146], []), (.aload_n 0, 1, [0], []), (.iconst 0, 1, [], [0]), (.putfield 268, 3, [12, 21, 0, 147], []), (.return_, 1, [], [])]
theorem lb_X12_firstStroke : B_X12_firstStroke.all (fun b => lst y_X12_firstStroke.2.1 12 y_X12_firstStroke.2.2.1 false b.1 b.2) = true := by decide +kernel
theorem ls_X12_firstStroke_0 : lst y_X12_firstStroke.2.1 12 y_X12_firstStroke.2.2.1 false 0 S_X12_firstStroke_0 = true := by decide +kernel
def C_X12_firstStroke (N : Nat) : Nat → List Value → mH → (Option Value → mH → Option (mH)) → Option (mH) := fun j as g k => none
theorem co_X12_firstStroke (N : Nat) (q : mH) : clOK 4 q (C_X12_firstStroke N) := by
  intro j as g k e
  cases e
set_option maxRecDepth 100000 in
theorem m_X12_firstStroke (N : Nat) {a0 : Nat} {h : mH} {q : mH} (hf : f_X12_firstStroke N a0 h = some q) : MM y_X12_firstStroke 4 [.ref a0] h none q := by
  refine MM.of (mFx (j := 293) rfl).2.2.2.1 (Nat.le_of_ble_eq_true rfl) (fun X => ?_)
  refine ev_ok (o := 12) (ini := false) (Cl := C_X12_firstStroke N) (Rc := RcV) (B := B_X12_firstStroke) (K := fun pc ls st g => none) rfl (fun e => by cases e) (by decide) (rcV_ok rfl) ?_ (co_X12_firstStroke N q) lb_X12_firstStroke 3000 0 S_X12_firstStroke_0 _ _ h ls_X12_firstStroke_0 hf
  intro pc ls st g e
  cases e
def L_X12_keepsStroke_52 (N : Nat) : Nat → Nat → Int32 → mH → Option (mH)
  | 0, _, _, _ => none
  | n + 1, a0, x1, h =>
    if x1 < (jI 4) then
      (gR h 12 a0 23).bind fun v1 =>
      (gI h 12 a0 17).bind fun v2 =>
      if x1 < v2 then
        (gR h 12 a0 22).bind fun v3 =>
        (ldI 0 h v3 x1).bind fun v4 =>
        if v4 = (jI (-1)) then
          (stI 0 h v1 (iAdd (jI 5) x1) (jI 0)).bind fun h5 =>
          let w6 := iAdd x1 (jI 1)
          L_X12_keepsStroke_52 N n a0 w6 h5
        else
          (gR h 12 a0 22).bind fun v7 =>
          (ldI 0 h v7 x1).bind fun v8 =>
          (stI 0 h v1 (iAdd (jI 5) x1) v8).bind fun h9 =>
          let w10 := iAdd x1 (jI 1)
          L_X12_keepsStroke_52 N n a0 w10 h9
      else
        (stI 0 h v1 (iAdd (jI 5) x1) (jI (-1))).bind fun h11 =>
        let w12 := iAdd x1 (jI 1)
        L_X12_keepsStroke_52 N n a0 w12 h11
    else
      some h
def f_X12_keepsStroke (N : Nat) (a0 : Nat) (h : mH) : Option (mH) :=
  (gR h 12 a0 23).bind fun v1 =>
  (gI h 12 a0 17).bind fun v2 =>
  (stI 0 h v1 (jI 0) v2).bind fun h3 =>
  (gR h3 12 a0 23).bind fun v4 =>
  (gI h3 12 a0 18).bind fun v5 =>
  (stI 0 h3 v4 (jI 1) v5).bind fun h6 =>
  (gR h6 12 a0 23).bind fun v7 =>
  (gI h6 12 a0 19).bind fun v8 =>
  (stI 0 h6 v7 (jI 2) v8).bind fun h9 =>
  (gR h9 12 a0 23).bind fun v10 =>
  (gI h9 12 a0 20).bind fun v11 =>
  (stI 0 h9 v10 (jI 3) v11).bind fun h12 =>
  (gR h12 12 a0 23).bind fun v13 =>
  (gI h12 12 a0 21).bind fun v14 =>
  (stI 0 h12 v13 (jI 4) v14).bind fun h15 =>
  L_X12_keepsStroke_52 N N a0 (jI 0) h15
def y_X12_keepsStroke : mM := (yX12_keepsStroke, cX12_keepsStroke, 2, none)
def B_X12_keepsStroke : List (Nat × List mI) := [(76, [(.aload_n 0, 1, [0], []), (.getfield 36, 3, [12, 22, 2, 148], []), (.iload_n 1, 1, [1], []), (.iaload, 1, [0], []), (.iconst (-1), 1, [], [-1]), (.if_icmp .ne 7, 3, [90], []), (.iconst 0, 1, [], [0]), (.goto 9, 3, [96], [])]), (90, [(.aload_n 0, 1, [0], []), (.getfield 36, 3, [12, 22, 2, 148], []), (.iload_n 1, 1, [1], []), (.iaload, 1, [0], [])]), (96, [(.iastore, 1, [], []), (.iinc 1 1, 3, [1], [1]), (.goto (-48), 3, [52], [])]), (103, [(.return_, 1, [], [])])]
def S_X12_keepsStroke_0 : List mI := [(.aload_n 0, 1, [0], []), (.getfield 39, 3, [12, 23, 2, 149], []), (.iconst 0, 1, [], [0]), (.aload_n 0, 1, [0], []), (.getfield 265, 3, [12, 17, 0, 143], []), (.iastore, 1, [], []), (.aload_n 0, 1, [0], []), (.getfield 39, 3, [12, 23, 2, 149], []), (.iconst 1, 1, [], [1]), (.aload_n 0, 1, [0], []), (.getfield 274, 3, [12, 18, 0, 144], []), (.iastore, 1, [], []), (.aload_n 0, 1, [0], []), (.getfield 39, 3, [12, 23, 2, 149], []), (.iconst 2, 1, [], [2]), (.aload_n 0, 1, [0], []), (.getfield 277, 3, [12, 19, 0, 145], []), (.iastore, 1, [], []), (.aload_n 0, 1, [0], []), (.getfield 39, 3, [12, 23, 2, 149], []), (.iconst 3, 1, [], [3]), (.aload_n 0, 1, [0], []), (.getfield 271, 3, [12, 20, 0, 146], []), (.iastore, 1, [], []), (.aload_n 0, 1, [0], []), (.getfield 39, 3, [12, 23, 2, 149], []), (.iconst 4, 1, [], [4]), (.aload_n 0, 1, [0], []), (.getfield 268, 3, [12, 21, 0, 147], []), (.iastore, 1, [], []), (.iconst 0, 1, [], [0]), (.istore_n 1, 1, [1], [])]
def S_X12_keepsStroke_52 : List mI := [(.iload_n 1, 1, [1], []), (.iconst 4, 1, [], [4]), (.if_icmp .ge 49, 3, [103], []), (.aload_n 0, 1, [0], []), (.getfield 39, 3, [12, 23, 2, 149], []), (.iconst 5, 1, [], [5]), (.iload_n 1, 1, [1], []), (.iadd, 1, [], []), (.iload_n 1, 1, [1], []), (.aload_n 0, 1, [0], []), (.getfield 265, 3, [12, 17, 0, 143], []), (.if_icmp .lt 7, 3, [76], []), (.iconst (-1), 1, [], [-1]), (.goto 23, 3, [96], [])]
theorem lb_X12_keepsStroke : B_X12_keepsStroke.all (fun b => lst y_X12_keepsStroke.2.1 12 y_X12_keepsStroke.2.2.1 false b.1 b.2) = true := by decide +kernel
theorem ls_X12_keepsStroke_0 : lst y_X12_keepsStroke.2.1 12 y_X12_keepsStroke.2.2.1 false 0 S_X12_keepsStroke_0 = true := by decide +kernel
theorem ls_X12_keepsStroke_52 : lst y_X12_keepsStroke.2.1 12 y_X12_keepsStroke.2.2.1 false 52 S_X12_keepsStroke_52 = true := by decide +kernel
def C_X12_keepsStroke (N : Nat) : Nat → List Value → mH → (Option Value → mH → Option (mH)) → Option (mH) := fun j as g k => none
theorem co_X12_keepsStroke (N : Nat) (q : mH) : clOK 4 q (C_X12_keepsStroke N) := by
  intro j as g k e
  cases e
set_option maxRecDepth 100000 in
theorem t_X12_keepsStroke_52 {X : Nat × (Nat → Int32)} (N : Nat) {q : mH} : ∀ (n : Nat) (a0 : Nat) (x1 : Int32) (h : mH), L_X12_keepsStroke_52 N n a0 x1 h = some q → MW X y_X12_keepsStroke 4 52 [(0, .ref a0), (1, .int x1)] [] h none q := by
  intro n
  induction n with
  | zero => intro a0 x1 h hf; cases hf
  | succ n ih =>
    intro a0 x1 h hf
    refine ev_ok (o := 12) (ini := false) (Cl := C_X12_keepsStroke N) (Rc := RcV) (B := B_X12_keepsStroke) (K := fun pc ls st g => kb pc 52 (lgr 0 ls fun a0 => lgi 1 ls fun x1 => pe st (L_X12_keepsStroke_52 N n a0 x1 g)) (none)) rfl (fun e => by cases e) (by decide) (rcV_ok rfl) ?_ (co_X12_keepsStroke N q) lb_X12_keepsStroke 3000 52 S_X12_keepsStroke_52 _ _ h ls_X12_keepsStroke_52 hf
    intro pc ls st g e
    rcases kb_s e with ⟨rfl, e⟩ | e
    · obtain ⟨a0, e0, f0⟩ := lgr_s e
      obtain ⟨x1, e1, f1⟩ := lgi_s f0
      obtain ⟨qe, fe⟩ := pe_s f1
      subst qe
      exact MW.sub (List.forall_mem_cons.mpr ⟨lg_mem e0, List.forall_mem_cons.mpr ⟨lg_mem e1, fun _ h => absurd h List.not_mem_nil⟩⟩) (ih a0 x1 g fe)
    cases e
set_option maxRecDepth 100000 in
theorem m_X12_keepsStroke (N : Nat) {a0 : Nat} {h : mH} {q : mH} (hf : f_X12_keepsStroke N a0 h = some q) : MM y_X12_keepsStroke 4 [.ref a0] h none q := by
  refine MM.of (mFx (j := 294) rfl).2.2.2.1 (Nat.le_of_ble_eq_true rfl) (fun X => ?_)
  refine ev_ok (o := 12) (ini := false) (Cl := C_X12_keepsStroke N) (Rc := RcV) (B := B_X12_keepsStroke) (K := fun pc ls st g => kb pc 52 (lgr 0 ls fun a0 => lgi 1 ls fun x1 => pe st (L_X12_keepsStroke_52 N N a0 x1 g)) (none)) rfl (fun e => by cases e) (by decide) (rcV_ok rfl) ?_ (co_X12_keepsStroke N q) lb_X12_keepsStroke 3000 0 S_X12_keepsStroke_0 _ _ h ls_X12_keepsStroke_0 hf
  intro pc ls st g e
  rcases kb_s e with ⟨rfl, e⟩ | e
  · obtain ⟨a0, e0, f0⟩ := lgr_s e
    obtain ⟨x1, e1, f1⟩ := lgi_s f0
    obtain ⟨qe, fe⟩ := pe_s f1
    subst qe
    exact MW.sub (List.forall_mem_cons.mpr ⟨lg_mem e0, List.forall_mem_cons.mpr ⟨lg_mem e1, fun _ h => absurd h List.not_mem_nil⟩⟩) (t_X12_keepsStroke_52 N N a0 x1 g fe)
  cases e
def L_X12_find_65 (N : Nat) : Nat → Nat → Int32 → Int32 → Int32 → mH → Option (Int32 × mH)
  | 0, _, _, _, _, _ => none
  | n + 1, a0, x1, x2, x3, h =>
    if x3 = 0 then
      if x1 = (jI 5) then
        some (x2, h)
      else
        if x2 = 0 then
          some (jI (-1), h)
        else
          (gR h 12 a0 23).bind fun v1 =>
          if x1 < (jI 5) then
            (ldI 0 h v1 x1).bind fun v2 =>
            some (v2, h)
          else
            (ldI 0 h v1 (iSub x1 (jI 5))).bind fun v3 =>
            some (v3, h)
    else
      (rcv h 12 a0).bind fun _ =>
      (f_X12_makes N a0 h).bind fun p4 =>
      if p4.1 = 0 then
        (rcv p4.2 12 a0).bind fun _ =>
        (f_X12_nextStroke N a0 p4.2).bind fun p5 =>
        L_X12_find_65 N n a0 x1 x2 p5.1 p5.2
      else
        if x2 = 0 then
          (rcv p4.2 12 a0).bind fun _ =>
          (f_X12_keepsStroke N a0 p4.2).bind fun h6 =>
          let w7 := iAdd x2 (jI 1)
          (rcv h6 12 a0).bind fun _ =>
          (f_X12_nextStroke N a0 h6).bind fun p8 =>
          L_X12_find_65 N n a0 x1 w7 p8.1 p8.2
        else
          let w9 := iAdd x2 (jI 1)
          (rcv p4.2 12 a0).bind fun _ =>
          (f_X12_nextStroke N a0 p4.2).bind fun p10 =>
          L_X12_find_65 N n a0 x1 w9 p10.1 p10.2
def f_X12_find (N : Nat) (a0 : Nat) (x1 : Int32) (h : mH) : Option (Int32 × mH) :=
  (pV h 12 a0 0 (.int (jI 0))).bind fun h1 =>
  (gR h1 12 a0 2).bind fun v2 =>
  (ldI 0 h1 v2 (jI 143)).bind fun v3 =>
  if v3 = (jI (-1)) then
    (rcv h1 12 a0).bind fun _ =>
    (f_X12_no N a0 (jI (-5)) h1).bind fun p4 =>
    some (p4.1, p4.2)
  else
    (f_X12_within N x1.toInt64 (jL 0) (jL 5) h1).bind fun p5 =>
    if p5.1 = 0 then
      (f_X12_within N x1.toInt64 (jL 10) (jL 13) p5.2).bind fun p6 =>
      if p6.1 = 0 then
        (rcv p6.2 12 a0).bind fun _ =>
        (f_X12_no N a0 (jI (-2)) p6.2).bind fun p7 =>
        some (p7.1, p7.2)
      else
        (rcv p6.2 12 a0).bind fun _ =>
        (f_X12_firstStroke N a0 p6.2).bind fun h8 =>
        L_X12_find_65 N N a0 x1 (jI 0) (jI 1) h8
    else
      (rcv p5.2 12 a0).bind fun _ =>
      (f_X12_firstStroke N a0 p5.2).bind fun h9 =>
      L_X12_find_65 N N a0 x1 (jI 0) (jI 1) h9
def y_X12_find : mM := (yX12_find, cX12_find, 4, (some .int))
def B_X12_find : List (Nat × List mI) := [(24, [(.iload_n 1, 1, [1], []), (.i2l, 1, [], []), (.lconst 0, 1, [], [0]), (.ldc2_w 217, 3, [8], [5]), (.invokestatic 147, 3, [1, 225, 3, 0, 269], []), (.ifCond .ne 24, 3, [57], []), (.iload_n 1, 1, [1], []), (.i2l, 1, [], []), (.ldc2_w 184, 3, [6], [10]), (.ldc2_w 284, 3, [14], [13]), (.invokestatic 147, 3, [1, 225, 3, 0, 269], []), (.ifCond .ne 10, 3, [57], []), (.aload_n 0, 1, [0], []), (.bipush (-2), 2, [], [-2]), (.invokevirtual 84, 3, [0, 224, 1, 12, 267], []), (.ireturn, 1, [], [])]), (57, [(.iconst 0, 1, [], [0]), (.istore_n 2, 1, [2], []), (.aload_n 0, 1, [0], []), (.invokevirtual 286, 3, [0, 293, 0, 12, 330], []), (.iconst 1, 1, [], [1]), (.istore_n 3, 1, [3], [])]), (84, [(.iinc 2 1, 3, [2], [1])]), (87, [(.aload_n 0, 1, [0], []), (.invokevirtual 296, 3, [0, 292, 0, 12, 334], []), (.istore_n 3, 1, [3], []), (.goto (-27), 3, [65], [])]), (95, [(.iload_n 1, 1, [1], []), (.iconst 5, 1, [], [5]), (.if_icmp .ne 5, 3, [102], []), (.iload_n 2, 1, [2], []), (.ireturn, 1, [], [])]), (102, [(.iload_n 2, 1, [2], []), (.ifCond .ne 7, 3, [110], []), (.iconst (-1), 1, [], [-1]), (.goto 20, 3, [127], [])]), (110, [(.aload_n 0, 1, [0], []), (.getfield 39, 3, [12, 23, 2, 149], []), (.iload_n 1, 1, [1], []), (.iconst 5, 1, [], [5]), (.if_icmp .ge 7, 3, [123], []), (.iload_n 1, 1, [1], []), (.goto 6, 3, [126], [])]), (123, [(.iload_n 1, 1, [1], []), (.iconst 5, 1, [], [5]), (.isub, 1, [], [])]), (126, [(.iaload, 1, [0], [])]), (127, [(.ireturn, 1, [], [])])]
def S_X12_find_0 : List mI := [(.aload_n 0, 1, [0], []), (.iconst 0, 1, [], [0]), (.putfield 1, 3, [12, 0, 0, 126], []), (.aload_n 0, 1, [0], []), (.getfield 17, 3, [12, 2, 2, 128], []), (.sipush 143, 3, [], [143]), (.iaload, 1, [0], []), (.iconst (-1), 1, [], [-1]), (.if_icmp .ne 10, 3, [24], []), (.aload_n 0, 1, [0], []), (.bipush (-5), 2, [], [-5]), (.invokevirtual 84, 3, [0, 224, 1, 12, 267], []), (.ireturn, 1, [], [])]
def S_X12_find_65 : List mI := [(.iload_n 3, 1, [3], []), (.ifCond .eq 29, 3, [95], []), (.aload_n 0, 1, [0], []), (.invokevirtual 289, 3, [0, 290, 0, 12, 331], []), (.ifCond .eq 14, 3, [87], []), (.iload_n 2, 1, [2], []), (.ifCond .ne 7, 3, [84], []), (.aload_n 0, 1, [0], []), (.invokevirtual 293, 3, [0, 294, 0, 12, 333], [])]
theorem lb_X12_find : B_X12_find.all (fun b => lst y_X12_find.2.1 12 y_X12_find.2.2.1 false b.1 b.2) = true := by decide +kernel
theorem ls_X12_find_0 : lst y_X12_find.2.1 12 y_X12_find.2.2.1 false 0 S_X12_find_0 = true := by decide +kernel
theorem ls_X12_find_65 : lst y_X12_find.2.1 12 y_X12_find.2.2.1 false 65 S_X12_find_65 = true := by decide +kernel
def C_X12_find (N : Nat) : Nat → List Value → mH → (Option Value → mH → Option (Int32 × mH)) → Option (Int32 × mH) := fun j as g k => kb j 224 (pr1 as fun b0 as => pp1 as fun b1 as => pe as ((f_X12_no N b0 b1 g).bind fun p => k (some (.int p.1)) p.2)) (kb j 225 (pl1 as fun b0 as => pl1 as fun b1 as => pl1 as fun b2 as => pe as ((f_X12_within N b0 b1 b2 g).bind fun p => k (some (.int p.1)) p.2)) (kb j 293 (pr1 as fun b0 as => pe as ((f_X12_firstStroke N b0 g).bind fun p => k none p)) (kb j 290 (pr1 as fun b0 as => pe as ((f_X12_makes N b0 g).bind fun p => k (some (.int p.1)) p.2)) (kb j 294 (pr1 as fun b0 as => pe as ((f_X12_keepsStroke N b0 g).bind fun p => k none p)) (kb j 292 (pr1 as fun b0 as => pe as ((f_X12_nextStroke N b0 g).bind fun p => k (some (.int p.1)) p.2)) (none))))))
theorem co_X12_find (N : Nat) (q : Int32 × mH) : clOK 7 q (C_X12_find N) := by
  intro j as g k e
  rcases kb_s e with ⟨rfl, e⟩ | e
  · obtain ⟨b0, r0, q0, f0⟩ := pr1_s e
    obtain ⟨b1, r1, q1, f1⟩ := pp1_s f0
    obtain ⟨qe, fe⟩ := pe_s f1
    obtain ⟨p, e1, e2⟩ := bnd_s fe
    subst qe
    subst q1
    subst q0
    exact ⟨_, _, _, _, 4, rfl, (by decide), m_X12_no N e1, e2⟩
  rcases kb_s e with ⟨rfl, e⟩ | e
  · obtain ⟨b0, r0, q0, f0⟩ := pl1_s e
    obtain ⟨b1, r1, q1, f1⟩ := pl1_s f0
    obtain ⟨b2, r2, q2, f2⟩ := pl1_s f1
    obtain ⟨qe, fe⟩ := pe_s f2
    obtain ⟨p, e1, e2⟩ := bnd_s fe
    subst qe
    subst q2
    subst q1
    subst q0
    exact ⟨_, _, _, _, 4, rfl, (by decide), m_X12_within N e1, e2⟩
  rcases kb_s e with ⟨rfl, e⟩ | e
  · obtain ⟨b0, r0, q0, f0⟩ := pr1_s e
    obtain ⟨qe, fe⟩ := pe_s f0
    obtain ⟨p, e1, e2⟩ := bnd_s fe
    subst qe
    subst q0
    exact ⟨_, _, _, _, 4, rfl, (by decide), m_X12_firstStroke N e1, e2⟩
  rcases kb_s e with ⟨rfl, e⟩ | e
  · obtain ⟨b0, r0, q0, f0⟩ := pr1_s e
    obtain ⟨qe, fe⟩ := pe_s f0
    obtain ⟨p, e1, e2⟩ := bnd_s fe
    subst qe
    subst q0
    exact ⟨_, _, _, _, 6, rfl, (by decide), m_X12_makes N e1, e2⟩
  rcases kb_s e with ⟨rfl, e⟩ | e
  · obtain ⟨b0, r0, q0, f0⟩ := pr1_s e
    obtain ⟨qe, fe⟩ := pe_s f0
    obtain ⟨p, e1, e2⟩ := bnd_s fe
    subst qe
    subst q0
    exact ⟨_, _, _, _, 4, rfl, (by decide), m_X12_keepsStroke N e1, e2⟩
  rcases kb_s e with ⟨rfl, e⟩ | e
  · obtain ⟨b0, r0, q0, f0⟩ := pr1_s e
    obtain ⟨qe, fe⟩ := pe_s f0
    obtain ⟨p, e1, e2⟩ := bnd_s fe
    subst qe
    subst q0
    exact ⟨_, _, _, _, 4, rfl, (by decide), m_X12_nextStroke N e1, e2⟩
  cases e
set_option maxRecDepth 100000 in
theorem t_X12_find_65 {X : Nat × (Nat → Int32)} (N : Nat) {q : Int32 × mH} : ∀ (n : Nat) (a0 : Nat) (x1 : Int32) (x2 : Int32) (x3 : Int32) (h : mH), L_X12_find_65 N n a0 x1 x2 x3 h = some q → MW X y_X12_find 7 65 [(0, .ref a0), (1, .int x1), (2, .int x2), (3, .int x3)] [] h (some (.int q.1)) q.2 := by
  intro n
  induction n with
  | zero => intro a0 x1 x2 x3 h hf; cases hf
  | succ n ih =>
    intro a0 x1 x2 x3 h hf
    refine ev_ok (o := 12) (ini := false) (Cl := C_X12_find N) (Rc := RcI) (B := B_X12_find) (K := fun pc ls st g => kb pc 65 (lgr 0 ls fun a0 => lgi 1 ls fun x1 => lgi 2 ls fun x2 => lgi 3 ls fun x3 => pe st (L_X12_find_65 N n a0 x1 x2 x3 g)) (none)) rfl (fun e => by cases e) (by decide) (rcI_ok rfl) ?_ (co_X12_find N q) lb_X12_find 3000 65 S_X12_find_65 _ _ h ls_X12_find_65 hf
    intro pc ls st g e
    rcases kb_s e with ⟨rfl, e⟩ | e
    · obtain ⟨a0, e0, f0⟩ := lgr_s e
      obtain ⟨x1, e1, f1⟩ := lgi_s f0
      obtain ⟨x2, e2, f2⟩ := lgi_s f1
      obtain ⟨x3, e3, f3⟩ := lgi_s f2
      obtain ⟨qe, fe⟩ := pe_s f3
      subst qe
      exact MW.sub (List.forall_mem_cons.mpr ⟨lg_mem e0, List.forall_mem_cons.mpr ⟨lg_mem e1, List.forall_mem_cons.mpr ⟨lg_mem e2, List.forall_mem_cons.mpr ⟨lg_mem e3, fun _ h => absurd h List.not_mem_nil⟩⟩⟩⟩) (ih a0 x1 x2 x3 g fe)
    cases e
set_option maxRecDepth 100000 in
theorem m_X12_find (N : Nat) {a0 : Nat} {x1 : Int32} {h : mH} {q : Int32 × mH} (hf : f_X12_find N a0 x1 h = some q) : MM y_X12_find 7 [.ref a0, .int x1] h (some (.int q.1)) q.2 := by
  refine MM.of (mFx (j := 295) rfl).2.2.2.1 (Nat.le_of_ble_eq_true rfl) (fun X => ?_)
  refine ev_ok (o := 12) (ini := false) (Cl := C_X12_find N) (Rc := RcI) (B := B_X12_find) (K := fun pc ls st g => kb pc 65 (lgr 0 ls fun a0 => lgi 1 ls fun x1 => lgi 2 ls fun x2 => lgi 3 ls fun x3 => pe st (L_X12_find_65 N N a0 x1 x2 x3 g)) (none)) rfl (fun e => by cases e) (by decide) (rcI_ok rfl) ?_ (co_X12_find N q) lb_X12_find 3000 0 S_X12_find_0 _ _ h ls_X12_find_0 hf
  intro pc ls st g e
  rcases kb_s e with ⟨rfl, e⟩ | e
  · obtain ⟨a0, e0, f0⟩ := lgr_s e
    obtain ⟨x1, e1, f1⟩ := lgi_s f0
    obtain ⟨x2, e2, f2⟩ := lgi_s f1
    obtain ⟨x3, e3, f3⟩ := lgi_s f2
    obtain ⟨qe, fe⟩ := pe_s f3
    subst qe
    exact MW.sub (List.forall_mem_cons.mpr ⟨lg_mem e0, List.forall_mem_cons.mpr ⟨lg_mem e1, List.forall_mem_cons.mpr ⟨lg_mem e2, List.forall_mem_cons.mpr ⟨lg_mem e3, fun _ h => absurd h List.not_mem_nil⟩⟩⟩⟩) (t_X12_find_65 N N a0 x1 x2 x3 g fe)
  cases e
def J_X12_reads_93 (N : Nat) (k60 : Nat → Int32 → Int32 → Int32 → Int32 → mH → Option (Int32 × mH)) (a0 : Nat) (x1 : Int32) (x2 : Int32) (x3 : Int32) (h : mH) : Option (Int32 × mH) :=
  (rcv h 12 a0).bind fun _ =>
  (f_X12_mistakes N a0 x1 h).bind fun p1 =>
  if p1.1 = 0 then
    let w2 := iAdd x3 (jI 1)
    (rcv p1.2 12 a0).bind fun _ =>
    (f_X12_nextStroke N a0 p1.2).bind fun p3 =>
    k60 a0 x1 x2 w2 p3.1 p3.2
  else
    (rcv p1.2 12 a0).bind fun _ =>
    (f_X12_nextStroke N a0 p1.2).bind fun p4 =>
    k60 a0 x1 x2 x3 p4.1 p4.2
def L_X12_reads_60 (N : Nat) : Nat → Nat → Int32 → Int32 → Int32 → Int32 → mH → Option (Int32 × mH)
  | 0, _, _, _, _, _, _ => none
  | n + 1, a0, x1, x2, x3, x4, h =>
    if x4 = 0 then
      some (x3, h)
    else
      (gR h 12 a0 2).bind fun v1 =>
      (ldI 0 h v1 (jI 400)).bind fun v2 =>
      (gI h 12 a0 17).bind fun v3 =>
      if v3 = 0 then none else
      if (iRem v2 v3) = 0 then
        if x2 = 0 then
          J_X12_reads_93 N (L_X12_reads_60 N n) a0 x1 x2 x3 h
        else
          (gI h 12 a0 21).bind fun v4 =>
          if v4 = (jI 1) then
            J_X12_reads_93 N (L_X12_reads_60 N n) a0 x1 x2 x3 h
          else
            (rcv h 12 a0).bind fun _ =>
            (f_X12_nextStroke N a0 h).bind fun p5 =>
            L_X12_reads_60 N n a0 x1 x2 x3 p5.1 p5.2
      else
        (rcv h 12 a0).bind fun _ =>
        (f_X12_nextStroke N a0 h).bind fun p6 =>
        L_X12_reads_60 N n a0 x1 x2 x3 p6.1 p6.2
def f_X12_reads (N : Nat) (a0 : Nat) (x1 : Int32) (x2 : Int32) (h : mH) : Option (Int32 × mH) :=
  (pV h 12 a0 0 (.int (jI 0))).bind fun h1 =>
  (gR h1 12 a0 2).bind fun v2 =>
  (ldI 0 h1 v2 (jI 400)).bind fun v3 =>
  if v3 = (jI (-1)) then
    (rcv h1 12 a0).bind fun _ =>
    (f_X12_no N a0 (jI (-5)) h1).bind fun p4 =>
    some (p4.1, p4.2)
  else
    (f_X12_within N x1.toInt64 (jL 0) (jL 1) h1).bind fun p5 =>
    if p5.1 = 0 then
      (rcv p5.2 12 a0).bind fun _ =>
      (f_X12_no N a0 (jI (-2)) p5.2).bind fun p6 =>
      some (p6.1, p6.2)
    else
      (f_X12_within N x2.toInt64 (jL 0) (jL 1) p5.2).bind fun p7 =>
      if p7.1 = 0 then
        (rcv p7.2 12 a0).bind fun _ =>
        (f_X12_no N a0 (jI (-2)) p7.2).bind fun p8 =>
        some (p8.1, p8.2)
      else
        (rcv p7.2 12 a0).bind fun _ =>
        (f_X12_firstStroke N a0 p7.2).bind fun h9 =>
        L_X12_reads_60 N N a0 x1 x2 (jI 0) (jI 1) h9
def y_X12_reads : mM := (yX12_reads, cX12_reads, 5, (some .int))
def B_X12_reads : List (Nat × List mI) := [(24, [(.iload_n 1, 1, [1], []), (.i2l, 1, [], []), (.lconst 0, 1, [], [0]), (.lconst 1, 1, [], [1]), (.invokestatic 147, 3, [1, 225, 3, 0, 269], []), (.ifCond .eq 13, 3, [44], []), (.iload_n 2, 1, [2], []), (.i2l, 1, [], []), (.lconst 0, 1, [], [0]), (.lconst 1, 1, [], [1]), (.invokestatic 147, 3, [1, 225, 3, 0, 269], []), (.ifCond .ne 10, 3, [51], [])]), (44, [(.aload_n 0, 1, [0], []), (.bipush (-2), 2, [], [-2]), (.invokevirtual 84, 3, [0, 224, 1, 12, 267], []), (.ireturn, 1, [], [])]), (51, [(.iconst 0, 1, [], [0]), (.istore_n 3, 1, [3], []), (.aload_n 0, 1, [0], []), (.invokevirtual 286, 3, [0, 293, 0, 12, 330], []), (.iconst 1, 1, [], [1]), (.istore 4, 2, [4], [])]), (104, [(.aload_n 0, 1, [0], []), (.invokevirtual 296, 3, [0, 292, 0, 12, 334], []), (.istore 4, 2, [4], []), (.goto (-50), 3, [60], [])]), (113, [(.iload_n 3, 1, [3], []), (.ireturn, 1, [], [])])]
def S_X12_reads_0 : List mI := [(.aload_n 0, 1, [0], []), (.iconst 0, 1, [], [0]), (.putfield 1, 3, [12, 0, 0, 126], []), (.aload_n 0, 1, [0], []), (.getfield 17, 3, [12, 2, 2, 128], []), (.sipush 400, 3, [], [400]), (.iaload, 1, [0], []), (.iconst (-1), 1, [], [-1]), (.if_icmp .ne 10, 3, [24], []), (.aload_n 0, 1, [0], []), (.bipush (-5), 2, [], [-5]), (.invokevirtual 84, 3, [0, 224, 1, 12, 267], []), (.ireturn, 1, [], [])]
def S_X12_reads_60 : List mI := [(.iload 4, 2, [4], []), (.ifCond .eq 51, 3, [113], []), (.aload_n 0, 1, [0], []), (.getfield 17, 3, [12, 2, 2, 128], []), (.sipush 400, 3, [], [400]), (.iaload, 1, [0], []), (.aload_n 0, 1, [0], []), (.getfield 265, 3, [12, 17, 0, 143], []), (.irem, 1, [], []), (.ifCond .ne 26, 3, [104], []), (.iload_n 2, 1, [2], []), (.ifCond .eq 11, 3, [93], []), (.aload_n 0, 1, [0], []), (.getfield 268, 3, [12, 21, 0, 147], []), (.iconst 1, 1, [], [1]), (.if_icmp .ne 14, 3, [104], [])]
def S_X12_reads_93 : List mI := [(.aload_n 0, 1, [0], []), (.iload_n 1, 1, [1], []), (.invokevirtual 299, 3, [0, 291, 1, 12, 336], []), (.ifCond .ne 6, 3, [104], []), (.iinc 3 1, 3, [3], [1])]
theorem lb_X12_reads : B_X12_reads.all (fun b => lst y_X12_reads.2.1 12 y_X12_reads.2.2.1 false b.1 b.2) = true := by decide +kernel
theorem ls_X12_reads_0 : lst y_X12_reads.2.1 12 y_X12_reads.2.2.1 false 0 S_X12_reads_0 = true := by decide +kernel
theorem ls_X12_reads_60 : lst y_X12_reads.2.1 12 y_X12_reads.2.2.1 false 60 S_X12_reads_60 = true := by decide +kernel
theorem ls_X12_reads_93 : lst y_X12_reads.2.1 12 y_X12_reads.2.2.1 false 93 S_X12_reads_93 = true := by decide +kernel
def C_X12_reads (N : Nat) : Nat → List Value → mH → (Option Value → mH → Option (Int32 × mH)) → Option (Int32 × mH) := fun j as g k => kb j 224 (pr1 as fun b0 as => pp1 as fun b1 as => pe as ((f_X12_no N b0 b1 g).bind fun p => k (some (.int p.1)) p.2)) (kb j 225 (pl1 as fun b0 as => pl1 as fun b1 as => pl1 as fun b2 as => pe as ((f_X12_within N b0 b1 b2 g).bind fun p => k (some (.int p.1)) p.2)) (kb j 293 (pr1 as fun b0 as => pe as ((f_X12_firstStroke N b0 g).bind fun p => k none p)) (kb j 291 (pr1 as fun b0 as => pp1 as fun b1 as => pe as ((f_X12_mistakes N b0 b1 g).bind fun p => k (some (.int p.1)) p.2)) (kb j 292 (pr1 as fun b0 as => pe as ((f_X12_nextStroke N b0 g).bind fun p => k (some (.int p.1)) p.2)) (none)))))
theorem co_X12_reads (N : Nat) (q : Int32 × mH) : clOK 7 q (C_X12_reads N) := by
  intro j as g k e
  rcases kb_s e with ⟨rfl, e⟩ | e
  · obtain ⟨b0, r0, q0, f0⟩ := pr1_s e
    obtain ⟨b1, r1, q1, f1⟩ := pp1_s f0
    obtain ⟨qe, fe⟩ := pe_s f1
    obtain ⟨p, e1, e2⟩ := bnd_s fe
    subst qe
    subst q1
    subst q0
    exact ⟨_, _, _, _, 4, rfl, (by decide), m_X12_no N e1, e2⟩
  rcases kb_s e with ⟨rfl, e⟩ | e
  · obtain ⟨b0, r0, q0, f0⟩ := pl1_s e
    obtain ⟨b1, r1, q1, f1⟩ := pl1_s f0
    obtain ⟨b2, r2, q2, f2⟩ := pl1_s f1
    obtain ⟨qe, fe⟩ := pe_s f2
    obtain ⟨p, e1, e2⟩ := bnd_s fe
    subst qe
    subst q2
    subst q1
    subst q0
    exact ⟨_, _, _, _, 4, rfl, (by decide), m_X12_within N e1, e2⟩
  rcases kb_s e with ⟨rfl, e⟩ | e
  · obtain ⟨b0, r0, q0, f0⟩ := pr1_s e
    obtain ⟨qe, fe⟩ := pe_s f0
    obtain ⟨p, e1, e2⟩ := bnd_s fe
    subst qe
    subst q0
    exact ⟨_, _, _, _, 4, rfl, (by decide), m_X12_firstStroke N e1, e2⟩
  rcases kb_s e with ⟨rfl, e⟩ | e
  · obtain ⟨b0, r0, q0, f0⟩ := pr1_s e
    obtain ⟨b1, r1, q1, f1⟩ := pp1_s f0
    obtain ⟨qe, fe⟩ := pe_s f1
    obtain ⟨p, e1, e2⟩ := bnd_s fe
    subst qe
    subst q1
    subst q0
    exact ⟨_, _, _, _, 6, rfl, (by decide), m_X12_mistakes N e1, e2⟩
  rcases kb_s e with ⟨rfl, e⟩ | e
  · obtain ⟨b0, r0, q0, f0⟩ := pr1_s e
    obtain ⟨qe, fe⟩ := pe_s f0
    obtain ⟨p, e1, e2⟩ := bnd_s fe
    subst qe
    subst q0
    exact ⟨_, _, _, _, 4, rfl, (by decide), m_X12_nextStroke N e1, e2⟩
  cases e
set_option maxRecDepth 100000 in
theorem t_X12_reads_93 {X : Nat × (Nat → Int32)} (N : Nat) {q : Int32 × mH} {k60 : Nat → Int32 → Int32 → Int32 → Int32 → mH → Option (Int32 × mH)} (hk60 : ∀ (a0 : Nat) (x1 : Int32) (x2 : Int32) (x3 : Int32) (x4 : Int32) g, k60 a0 x1 x2 x3 x4 g = some q → MW X y_X12_reads 7 60 [(0, .ref a0), (1, .int x1), (2, .int x2), (3, .int x3), (4, .int x4)] [] g (some (.int q.1)) q.2) (a0 : Nat) (x1 : Int32) (x2 : Int32) (x3 : Int32) (h : mH) (hf : J_X12_reads_93 N k60 a0 x1 x2 x3 h = some q) : MW X y_X12_reads 7 93 [(0, .ref a0), (1, .int x1), (2, .int x2), (3, .int x3)] [] h (some (.int q.1)) q.2 := by
  refine ev_ok (o := 12) (ini := false) (Cl := C_X12_reads N) (Rc := RcI) (B := B_X12_reads) (K := fun pc ls st g => kb pc 60 (lgr 0 ls fun a0 => lgi 1 ls fun x1 => lgi 2 ls fun x2 => lgi 3 ls fun x3 => lgi 4 ls fun x4 => pe st (k60 a0 x1 x2 x3 x4 g)) (none)) rfl (fun e => by cases e) (by decide) (rcI_ok rfl) ?_ (co_X12_reads N q) lb_X12_reads 3000 93 S_X12_reads_93 _ _ h ls_X12_reads_93 hf
  intro pc ls st g e
  rcases kb_s e with ⟨rfl, e⟩ | e
  · obtain ⟨a0, e0, f0⟩ := lgr_s e
    obtain ⟨x1, e1, f1⟩ := lgi_s f0
    obtain ⟨x2, e2, f2⟩ := lgi_s f1
    obtain ⟨x3, e3, f3⟩ := lgi_s f2
    obtain ⟨x4, e4, f4⟩ := lgi_s f3
    obtain ⟨qe, fe⟩ := pe_s f4
    subst qe
    exact MW.sub (List.forall_mem_cons.mpr ⟨lg_mem e0, List.forall_mem_cons.mpr ⟨lg_mem e1, List.forall_mem_cons.mpr ⟨lg_mem e2, List.forall_mem_cons.mpr ⟨lg_mem e3, List.forall_mem_cons.mpr ⟨lg_mem e4, fun _ h => absurd h List.not_mem_nil⟩⟩⟩⟩⟩) (hk60 a0 x1 x2 x3 x4 g fe)
  cases e
set_option maxRecDepth 100000 in
theorem t_X12_reads_60 {X : Nat × (Nat → Int32)} (N : Nat) {q : Int32 × mH} : ∀ (n : Nat) (a0 : Nat) (x1 : Int32) (x2 : Int32) (x3 : Int32) (x4 : Int32) (h : mH), L_X12_reads_60 N n a0 x1 x2 x3 x4 h = some q → MW X y_X12_reads 7 60 [(0, .ref a0), (1, .int x1), (2, .int x2), (3, .int x3), (4, .int x4)] [] h (some (.int q.1)) q.2 := by
  intro n
  induction n with
  | zero => intro a0 x1 x2 x3 x4 h hf; cases hf
  | succ n ih =>
    intro a0 x1 x2 x3 x4 h hf
    refine ev_ok (o := 12) (ini := false) (Cl := C_X12_reads N) (Rc := RcI) (B := B_X12_reads) (K := fun pc ls st g => kb pc 60 (lgr 0 ls fun a0 => lgi 1 ls fun x1 => lgi 2 ls fun x2 => lgi 3 ls fun x3 => lgi 4 ls fun x4 => pe st (L_X12_reads_60 N n a0 x1 x2 x3 x4 g)) (kb pc 93 (lgr 0 ls fun a0 => lgi 1 ls fun x1 => lgi 2 ls fun x2 => lgi 3 ls fun x3 => pe st (J_X12_reads_93 N (L_X12_reads_60 N n) a0 x1 x2 x3 g)) (none))) rfl (fun e => by cases e) (by decide) (rcI_ok rfl) ?_ (co_X12_reads N q) lb_X12_reads 3000 60 S_X12_reads_60 _ _ h ls_X12_reads_60 hf
    intro pc ls st g e
    rcases kb_s e with ⟨rfl, e⟩ | e
    · obtain ⟨a0, e0, f0⟩ := lgr_s e
      obtain ⟨x1, e1, f1⟩ := lgi_s f0
      obtain ⟨x2, e2, f2⟩ := lgi_s f1
      obtain ⟨x3, e3, f3⟩ := lgi_s f2
      obtain ⟨x4, e4, f4⟩ := lgi_s f3
      obtain ⟨qe, fe⟩ := pe_s f4
      subst qe
      exact MW.sub (List.forall_mem_cons.mpr ⟨lg_mem e0, List.forall_mem_cons.mpr ⟨lg_mem e1, List.forall_mem_cons.mpr ⟨lg_mem e2, List.forall_mem_cons.mpr ⟨lg_mem e3, List.forall_mem_cons.mpr ⟨lg_mem e4, fun _ h => absurd h List.not_mem_nil⟩⟩⟩⟩⟩) (ih a0 x1 x2 x3 x4 g fe)
    rcases kb_s e with ⟨rfl, e⟩ | e
    · obtain ⟨a0, e0, f0⟩ := lgr_s e
      obtain ⟨x1, e1, f1⟩ := lgi_s f0
      obtain ⟨x2, e2, f2⟩ := lgi_s f1
      obtain ⟨x3, e3, f3⟩ := lgi_s f2
      obtain ⟨qe, fe⟩ := pe_s f3
      subst qe
      exact MW.sub (List.forall_mem_cons.mpr ⟨lg_mem e0, List.forall_mem_cons.mpr ⟨lg_mem e1, List.forall_mem_cons.mpr ⟨lg_mem e2, List.forall_mem_cons.mpr ⟨lg_mem e3, fun _ h => absurd h List.not_mem_nil⟩⟩⟩⟩) (t_X12_reads_93 N (fun a0 x1 x2 x3 x4 g e => ih a0 x1 x2 x3 x4 g e) a0 x1 x2 x3 g fe)
    cases e
set_option maxRecDepth 100000 in
theorem m_X12_reads (N : Nat) {a0 : Nat} {x1 : Int32} {x2 : Int32} {h : mH} {q : Int32 × mH} (hf : f_X12_reads N a0 x1 x2 h = some q) : MM y_X12_reads 7 [.ref a0, .int x1, .int x2] h (some (.int q.1)) q.2 := by
  refine MM.of (mFx (j := 296) rfl).2.2.2.1 (Nat.le_of_ble_eq_true rfl) (fun X => ?_)
  refine ev_ok (o := 12) (ini := false) (Cl := C_X12_reads N) (Rc := RcI) (B := B_X12_reads) (K := fun pc ls st g => kb pc 60 (lgr 0 ls fun a0 => lgi 1 ls fun x1 => lgi 2 ls fun x2 => lgi 3 ls fun x3 => lgi 4 ls fun x4 => pe st (L_X12_reads_60 N N a0 x1 x2 x3 x4 g)) (none)) rfl (fun e => by cases e) (by decide) (rcI_ok rfl) ?_ (co_X12_reads N q) lb_X12_reads 3000 0 S_X12_reads_0 _ _ h ls_X12_reads_0 hf
  intro pc ls st g e
  rcases kb_s e with ⟨rfl, e⟩ | e
  · obtain ⟨a0, e0, f0⟩ := lgr_s e
    obtain ⟨x1, e1, f1⟩ := lgi_s f0
    obtain ⟨x2, e2, f2⟩ := lgi_s f1
    obtain ⟨x3, e3, f3⟩ := lgi_s f2
    obtain ⟨x4, e4, f4⟩ := lgi_s f3
    obtain ⟨qe, fe⟩ := pe_s f4
    subst qe
    exact MW.sub (List.forall_mem_cons.mpr ⟨lg_mem e0, List.forall_mem_cons.mpr ⟨lg_mem e1, List.forall_mem_cons.mpr ⟨lg_mem e2, List.forall_mem_cons.mpr ⟨lg_mem e3, List.forall_mem_cons.mpr ⟨lg_mem e4, fun _ h => absurd h List.not_mem_nil⟩⟩⟩⟩⟩) (t_X12_reads_60 N N a0 x1 x2 x3 x4 g fe)
  cases e
def L_X12_nearest_62 (N : Nat) : Nat → Nat → Int32 → Int32 → Int32 → Int32 → mH → Option (Int32 × mH)
  | 0, _, _, _, _, _, _ => none
  | n + 1, a0, x1, x2, x3, x4, h =>
    if x4 = 0 then
      if x2 = 0 then
        some (x3, h)
      else
        (gR h 12 a0 23).bind fun v1 =>
        (ldI 0 h v1 (iSub x2 (jI 1))).bind fun v2 =>
        some (v2, h)
    else
      (gR h 12 a0 2).bind fun v3 =>
      (ldI 0 h v3 (jI 400)).bind fun v4 =>
      (gI h 12 a0 17).bind fun v5 =>
      if v5 = 0 then none else
      if (iRem v4 v5) = 0 then
        (rcv h 12 a0).bind fun _ =>
        (f_X12_mistakes N a0 x1 h).bind fun p6 =>
        if x3 = (jI (-1)) then
          (rcv p6.2 12 a0).bind fun _ =>
          (f_X12_keepsStroke N a0 p6.2).bind fun h7 =>
          (rcv h7 12 a0).bind fun _ =>
          (f_X12_nextStroke N a0 h7).bind fun p8 =>
          L_X12_nearest_62 N n a0 x1 x2 p6.1 p8.1 p8.2
        else
          if p6.1 < x3 then
            (rcv p6.2 12 a0).bind fun _ =>
            (f_X12_keepsStroke N a0 p6.2).bind fun h9 =>
            (rcv h9 12 a0).bind fun _ =>
            (f_X12_nextStroke N a0 h9).bind fun p10 =>
            L_X12_nearest_62 N n a0 x1 x2 p6.1 p10.1 p10.2
          else
            (rcv p6.2 12 a0).bind fun _ =>
            (f_X12_nextStroke N a0 p6.2).bind fun p11 =>
            L_X12_nearest_62 N n a0 x1 x2 x3 p11.1 p11.2
      else
        (rcv h 12 a0).bind fun _ =>
        (f_X12_nextStroke N a0 h).bind fun p12 =>
        L_X12_nearest_62 N n a0 x1 x2 x3 p12.1 p12.2
def f_X12_nearest (N : Nat) (a0 : Nat) (x1 : Int32) (x2 : Int32) (h : mH) : Option (Int32 × mH) :=
  (pV h 12 a0 0 (.int (jI 0))).bind fun h1 =>
  (gR h1 12 a0 2).bind fun v2 =>
  (ldI 0 h1 v2 (jI 400)).bind fun v3 =>
  if v3 = (jI (-1)) then
    (rcv h1 12 a0).bind fun _ =>
    (f_X12_no N a0 (jI (-5)) h1).bind fun p4 =>
    some (p4.1, p4.2)
  else
    (f_X12_within N x1.toInt64 (jL 0) (jL 1) h1).bind fun p5 =>
    if p5.1 = 0 then
      (rcv p5.2 12 a0).bind fun _ =>
      (f_X12_no N a0 (jI (-2)) p5.2).bind fun p6 =>
      some (p6.1, p6.2)
    else
      (f_X12_within N x2.toInt64 (jL 0) (jL 5) p5.2).bind fun p7 =>
      if p7.1 = 0 then
        (rcv p7.2 12 a0).bind fun _ =>
        (f_X12_no N a0 (jI (-2)) p7.2).bind fun p8 =>
        some (p8.1, p8.2)
      else
        (rcv p7.2 12 a0).bind fun _ =>
        (f_X12_firstStroke N a0 p7.2).bind fun h9 =>
        L_X12_nearest_62 N N a0 x1 x2 (jI (-1)) (jI 1) h9
def y_X12_nearest : mM := (yX12_nearest, cX12_nearest, 6, (some .int))
def B_X12_nearest : List (Nat × List mI) := [(24, [(.iload_n 1, 1, [1], []), (.i2l, 1, [], []), (.lconst 0, 1, [], [0]), (.lconst 1, 1, [], [1]), (.invokestatic 147, 3, [1, 225, 3, 0, 269], []), (.ifCond .eq 15, 3, [46], []), (.iload_n 2, 1, [2], []), (.i2l, 1, [], []), (.lconst 0, 1, [], [0]), (.ldc2_w 217, 3, [8], [5]), (.invokestatic 147, 3, [1, 225, 3, 0, 269], []), (.ifCond .ne 10, 3, [53], [])]), (46, [(.aload_n 0, 1, [0], []), (.bipush (-2), 2, [], [-2]), (.invokevirtual 84, 3, [0, 224, 1, 12, 267], []), (.ireturn, 1, [], [])]), (53, [(.iconst (-1), 1, [], [-1]), (.istore_n 3, 1, [3], []), (.aload_n 0, 1, [0], []), (.invokevirtual 286, 3, [0, 293, 0, 12, 330], []), (.iconst 1, 1, [], [1]), (.istore 4, 2, [4], [])]), (101, [(.iload 5, 2, [5], []), (.istore_n 3, 1, [3], []), (.aload_n 0, 1, [0], []), (.invokevirtual 293, 3, [0, 294, 0, 12, 333], [])]), (108, [(.aload_n 0, 1, [0], []), (.invokevirtual 296, 3, [0, 292, 0, 12, 334], []), (.istore 4, 2, [4], []), (.goto (-52), 3, [62], [])]), (117, [(.iload_n 2, 1, [2], []), (.ifCond .ne 7, 3, [125], []), (.iload_n 3, 1, [3], []), (.goto 11, 3, [133], [])]), (125, [(.aload_n 0, 1, [0], []), (.getfield 39, 3, [12, 23, 2, 149], []), (.iload_n 2, 1, [2], []), (.iconst 1, 1, [], [1]), (.isub, 1, [], []), (.iaload, 1, [0], [])]), (133, [(.ireturn, 1, [], [])])]
def S_X12_nearest_0 : List mI := [(.aload_n 0, 1, [0], []), (.iconst 0, 1, [], [0]), (.putfield 1, 3, [12, 0, 0, 126], []), (.aload_n 0, 1, [0], []), (.getfield 17, 3, [12, 2, 2, 128], []), (.sipush 400, 3, [], [400]), (.iaload, 1, [0], []), (.iconst (-1), 1, [], [-1]), (.if_icmp .ne 10, 3, [24], []), (.aload_n 0, 1, [0], []), (.bipush (-5), 2, [], [-5]), (.invokevirtual 84, 3, [0, 224, 1, 12, 267], []), (.ireturn, 1, [], [])]
def S_X12_nearest_62 : List mI := [(.iload 4, 2, [4], []), (.ifCond .eq 53, 3, [117], []), (.aload_n 0, 1, [0], []), (.getfield 17, 3, [12, 2, 2, 128], []), (.sipush 400, 3, [], [400]), (.iaload, 1, [0], []), (.aload_n 0, 1, [0], []), (.getfield 265, 3, [12, 17, 0, 143], []), (.irem, 1, [], []), (.ifCond .ne 28, 3, [108], []), (.aload_n 0, 1, [0], []), (.iload_n 1, 1, [1], []), (.invokevirtual 299, 3, [0, 291, 1, 12, 336], []), (.istore 5, 2, [5], []), (.iload_n 3, 1, [3], []), (.iconst (-1), 1, [], [-1]), (.if_icmp .eq 9, 3, [101], []), (.iload 5, 2, [5], []), (.iload_n 3, 1, [3], []), (.if_icmp .ge 10, 3, [108], [])]
theorem lb_X12_nearest : B_X12_nearest.all (fun b => lst y_X12_nearest.2.1 12 y_X12_nearest.2.2.1 false b.1 b.2) = true := by decide +kernel
theorem ls_X12_nearest_0 : lst y_X12_nearest.2.1 12 y_X12_nearest.2.2.1 false 0 S_X12_nearest_0 = true := by decide +kernel
theorem ls_X12_nearest_62 : lst y_X12_nearest.2.1 12 y_X12_nearest.2.2.1 false 62 S_X12_nearest_62 = true := by decide +kernel
def C_X12_nearest (N : Nat) : Nat → List Value → mH → (Option Value → mH → Option (Int32 × mH)) → Option (Int32 × mH) := fun j as g k => kb j 224 (pr1 as fun b0 as => pp1 as fun b1 as => pe as ((f_X12_no N b0 b1 g).bind fun p => k (some (.int p.1)) p.2)) (kb j 225 (pl1 as fun b0 as => pl1 as fun b1 as => pl1 as fun b2 as => pe as ((f_X12_within N b0 b1 b2 g).bind fun p => k (some (.int p.1)) p.2)) (kb j 293 (pr1 as fun b0 as => pe as ((f_X12_firstStroke N b0 g).bind fun p => k none p)) (kb j 291 (pr1 as fun b0 as => pp1 as fun b1 as => pe as ((f_X12_mistakes N b0 b1 g).bind fun p => k (some (.int p.1)) p.2)) (kb j 294 (pr1 as fun b0 as => pe as ((f_X12_keepsStroke N b0 g).bind fun p => k none p)) (kb j 292 (pr1 as fun b0 as => pe as ((f_X12_nextStroke N b0 g).bind fun p => k (some (.int p.1)) p.2)) (none))))))
theorem co_X12_nearest (N : Nat) (q : Int32 × mH) : clOK 7 q (C_X12_nearest N) := by
  intro j as g k e
  rcases kb_s e with ⟨rfl, e⟩ | e
  · obtain ⟨b0, r0, q0, f0⟩ := pr1_s e
    obtain ⟨b1, r1, q1, f1⟩ := pp1_s f0
    obtain ⟨qe, fe⟩ := pe_s f1
    obtain ⟨p, e1, e2⟩ := bnd_s fe
    subst qe
    subst q1
    subst q0
    exact ⟨_, _, _, _, 4, rfl, (by decide), m_X12_no N e1, e2⟩
  rcases kb_s e with ⟨rfl, e⟩ | e
  · obtain ⟨b0, r0, q0, f0⟩ := pl1_s e
    obtain ⟨b1, r1, q1, f1⟩ := pl1_s f0
    obtain ⟨b2, r2, q2, f2⟩ := pl1_s f1
    obtain ⟨qe, fe⟩ := pe_s f2
    obtain ⟨p, e1, e2⟩ := bnd_s fe
    subst qe
    subst q2
    subst q1
    subst q0
    exact ⟨_, _, _, _, 4, rfl, (by decide), m_X12_within N e1, e2⟩
  rcases kb_s e with ⟨rfl, e⟩ | e
  · obtain ⟨b0, r0, q0, f0⟩ := pr1_s e
    obtain ⟨qe, fe⟩ := pe_s f0
    obtain ⟨p, e1, e2⟩ := bnd_s fe
    subst qe
    subst q0
    exact ⟨_, _, _, _, 4, rfl, (by decide), m_X12_firstStroke N e1, e2⟩
  rcases kb_s e with ⟨rfl, e⟩ | e
  · obtain ⟨b0, r0, q0, f0⟩ := pr1_s e
    obtain ⟨b1, r1, q1, f1⟩ := pp1_s f0
    obtain ⟨qe, fe⟩ := pe_s f1
    obtain ⟨p, e1, e2⟩ := bnd_s fe
    subst qe
    subst q1
    subst q0
    exact ⟨_, _, _, _, 6, rfl, (by decide), m_X12_mistakes N e1, e2⟩
  rcases kb_s e with ⟨rfl, e⟩ | e
  · obtain ⟨b0, r0, q0, f0⟩ := pr1_s e
    obtain ⟨qe, fe⟩ := pe_s f0
    obtain ⟨p, e1, e2⟩ := bnd_s fe
    subst qe
    subst q0
    exact ⟨_, _, _, _, 4, rfl, (by decide), m_X12_keepsStroke N e1, e2⟩
  rcases kb_s e with ⟨rfl, e⟩ | e
  · obtain ⟨b0, r0, q0, f0⟩ := pr1_s e
    obtain ⟨qe, fe⟩ := pe_s f0
    obtain ⟨p, e1, e2⟩ := bnd_s fe
    subst qe
    subst q0
    exact ⟨_, _, _, _, 4, rfl, (by decide), m_X12_nextStroke N e1, e2⟩
  cases e
set_option maxRecDepth 100000 in
theorem t_X12_nearest_62 {X : Nat × (Nat → Int32)} (N : Nat) {q : Int32 × mH} : ∀ (n : Nat) (a0 : Nat) (x1 : Int32) (x2 : Int32) (x3 : Int32) (x4 : Int32) (h : mH), L_X12_nearest_62 N n a0 x1 x2 x3 x4 h = some q → MW X y_X12_nearest 7 62 [(0, .ref a0), (1, .int x1), (2, .int x2), (3, .int x3), (4, .int x4)] [] h (some (.int q.1)) q.2 := by
  intro n
  induction n with
  | zero => intro a0 x1 x2 x3 x4 h hf; cases hf
  | succ n ih =>
    intro a0 x1 x2 x3 x4 h hf
    refine ev_ok (o := 12) (ini := false) (Cl := C_X12_nearest N) (Rc := RcI) (B := B_X12_nearest) (K := fun pc ls st g => kb pc 62 (lgr 0 ls fun a0 => lgi 1 ls fun x1 => lgi 2 ls fun x2 => lgi 3 ls fun x3 => lgi 4 ls fun x4 => pe st (L_X12_nearest_62 N n a0 x1 x2 x3 x4 g)) (none)) rfl (fun e => by cases e) (by decide) (rcI_ok rfl) ?_ (co_X12_nearest N q) lb_X12_nearest 3000 62 S_X12_nearest_62 _ _ h ls_X12_nearest_62 hf
    intro pc ls st g e
    rcases kb_s e with ⟨rfl, e⟩ | e
    · obtain ⟨a0, e0, f0⟩ := lgr_s e
      obtain ⟨x1, e1, f1⟩ := lgi_s f0
      obtain ⟨x2, e2, f2⟩ := lgi_s f1
      obtain ⟨x3, e3, f3⟩ := lgi_s f2
      obtain ⟨x4, e4, f4⟩ := lgi_s f3
      obtain ⟨qe, fe⟩ := pe_s f4
      subst qe
      exact MW.sub (List.forall_mem_cons.mpr ⟨lg_mem e0, List.forall_mem_cons.mpr ⟨lg_mem e1, List.forall_mem_cons.mpr ⟨lg_mem e2, List.forall_mem_cons.mpr ⟨lg_mem e3, List.forall_mem_cons.mpr ⟨lg_mem e4, fun _ h => absurd h List.not_mem_nil⟩⟩⟩⟩⟩) (ih a0 x1 x2 x3 x4 g fe)
    cases e
set_option maxRecDepth 100000 in
theorem m_X12_nearest (N : Nat) {a0 : Nat} {x1 : Int32} {x2 : Int32} {h : mH} {q : Int32 × mH} (hf : f_X12_nearest N a0 x1 x2 h = some q) : MM y_X12_nearest 7 [.ref a0, .int x1, .int x2] h (some (.int q.1)) q.2 := by
  refine MM.of (mFx (j := 297) rfl).2.2.2.1 (Nat.le_of_ble_eq_true rfl) (fun X => ?_)
  refine ev_ok (o := 12) (ini := false) (Cl := C_X12_nearest N) (Rc := RcI) (B := B_X12_nearest) (K := fun pc ls st g => kb pc 62 (lgr 0 ls fun a0 => lgi 1 ls fun x1 => lgi 2 ls fun x2 => lgi 3 ls fun x3 => lgi 4 ls fun x4 => pe st (L_X12_nearest_62 N N a0 x1 x2 x3 x4 g)) (none)) rfl (fun e => by cases e) (by decide) (rcI_ok rfl) ?_ (co_X12_nearest N q) lb_X12_nearest 3000 0 S_X12_nearest_0 _ _ h ls_X12_nearest_0 hf
  intro pc ls st g e
  rcases kb_s e with ⟨rfl, e⟩ | e
  · obtain ⟨a0, e0, f0⟩ := lgr_s e
    obtain ⟨x1, e1, f1⟩ := lgi_s f0
    obtain ⟨x2, e2, f2⟩ := lgi_s f1
    obtain ⟨x3, e3, f3⟩ := lgi_s f2
    obtain ⟨x4, e4, f4⟩ := lgi_s f3
    obtain ⟨qe, fe⟩ := pe_s f4
    subst qe
    exact MW.sub (List.forall_mem_cons.mpr ⟨lg_mem e0, List.forall_mem_cons.mpr ⟨lg_mem e1, List.forall_mem_cons.mpr ⟨lg_mem e2, List.forall_mem_cons.mpr ⟨lg_mem e3, List.forall_mem_cons.mpr ⟨lg_mem e4, fun _ h => absurd h List.not_mem_nil⟩⟩⟩⟩⟩) (t_X12_nearest_62 N N a0 x1 x2 x3 x4 g fe)
  cases e
def L_X12_rodsOf_18 (N : Nat) (k4 : Nat → Int32 → Int32 → Int32 → mH → Option (Int32 × mH)) : Nat → Nat → Int32 → Int32 → Int32 → Int32 → mH → Option (Int32 × mH)
  | 0, _, _, _, _, _, _ => none
  | n + 1, a0, x1, x2, x3, x4, h =>
    (gR h 12 a0 2).bind fun v1 =>
    (ldI 0 h v1 (iAdd (jI 27) x3)).bind fun v2 =>
    if x4 < v2 then
      (rcv h 12 a0).bind fun _ =>
      (f_X12_kindOf N a0 x3 x4 h).bind fun p3 =>
      if p3.1 = x1 then
        (rcv p3.2 12 a0).bind fun _ =>
        (f_X12_crossingsOf N a0 x3 p3.2).bind fun p4 =>
        (rcv p4.2 12 a0).bind fun _ =>
        (f_X12_rodsFor N a0 x1 p4.1 p4.2).bind fun p5 =>
        let w6 := iAdd x2 p5.1
        let w7 := iAdd x4 (jI 1)
        L_X12_rodsOf_18 N k4 n a0 x1 w6 x3 w7 p5.2
      else
        let w8 := iAdd x2 (jI 0)
        let w9 := iAdd x4 (jI 1)
        L_X12_rodsOf_18 N k4 n a0 x1 w8 x3 w9 p3.2
    else
      let w10 := iAdd x3 (jI 1)
      k4 a0 x1 x2 w10 h
def L_X12_rodsOf_4 (N : Nat) : Nat → Nat → Int32 → Int32 → Int32 → mH → Option (Int32 × mH)
  | 0, _, _, _, _, _ => none
  | n + 1, a0, x1, x2, x3, h =>
    (gR h 12 a0 2).bind fun v1 =>
    (ldI 0 h v1 (jI 26)).bind fun v2 =>
    if x3 < v2 then
      L_X12_rodsOf_18 N (L_X12_rodsOf_4 N n) N a0 x1 x2 x3 (jI 0) h
    else
      some (x2, h)
def f_X12_rodsOf (N : Nat) (a0 : Nat) (x1 : Int32) (h : mH) : Option (Int32 × mH) :=
  L_X12_rodsOf_4 N N a0 x1 (jI 0) (jI 0) h
def y_X12_rodsOf : mM := (yX12_rodsOf, cX12_rodsOf, 5, (some .int))
def B_X12_rodsOf : List (Nat × List mI) := [(57, [(.iconst 0, 1, [], [0])]), (58, [(.iadd, 1, [], []), (.istore_n 2, 1, [2], []), (.iinc 4 1, 3, [4], [1]), (.goto (-45), 3, [18], [])]), (66, [(.iinc 3 1, 3, [3], [1]), (.goto (-65), 3, [4], [])]), (72, [(.iload_n 2, 1, [2], []), (.ireturn, 1, [], [])])]
def S_X12_rodsOf_0 : List mI := [(.iconst 0, 1, [], [0]), (.istore_n 2, 1, [2], []), (.iconst 0, 1, [], [0]), (.istore_n 3, 1, [3], [])]
def S_X12_rodsOf_4 : List mI := [(.iload_n 3, 1, [3], []), (.aload_n 0, 1, [0], []), (.getfield 17, 3, [12, 2, 2, 128], []), (.bipush 26, 2, [], [26]), (.iaload, 1, [0], []), (.if_icmp .ge 60, 3, [72], []), (.iconst 0, 1, [], [0]), (.istore 4, 2, [4], [])]
def S_X12_rodsOf_18 : List mI := [(.iload 4, 2, [4], []), (.aload_n 0, 1, [0], []), (.getfield 17, 3, [12, 2, 2, 128], []), (.bipush 27, 2, [], [27]), (.iload_n 3, 1, [3], []), (.iadd, 1, [], []), (.iaload, 1, [0], []), (.if_icmp .ge 37, 3, [66], []), (.iload_n 2, 1, [2], []), (.aload_n 0, 1, [0], []), (.iload_n 3, 1, [3], []), (.iload 4, 2, [4], []), (.invokevirtual 207, 3, [0, 261, 2, 12, 296], []), (.iload_n 1, 1, [1], []), (.if_icmp .ne 16, 3, [57], []), (.aload_n 0, 1, [0], []), (.iload_n 1, 1, [1], []), (.aload_n 0, 1, [0], []), (.iload_n 3, 1, [3], []), (.invokevirtual 198, 3, [0, 252, 1, 12, 294], []), (.invokevirtual 210, 3, [0, 260, 2, 12, 298], []), (.goto 4, 3, [58], [])]
theorem lb_X12_rodsOf : B_X12_rodsOf.all (fun b => lst y_X12_rodsOf.2.1 12 y_X12_rodsOf.2.2.1 false b.1 b.2) = true := by decide +kernel
theorem ls_X12_rodsOf_0 : lst y_X12_rodsOf.2.1 12 y_X12_rodsOf.2.2.1 false 0 S_X12_rodsOf_0 = true := by decide +kernel
theorem ls_X12_rodsOf_4 : lst y_X12_rodsOf.2.1 12 y_X12_rodsOf.2.2.1 false 4 S_X12_rodsOf_4 = true := by decide +kernel
theorem ls_X12_rodsOf_18 : lst y_X12_rodsOf.2.1 12 y_X12_rodsOf.2.2.1 false 18 S_X12_rodsOf_18 = true := by decide +kernel
def C_X12_rodsOf (N : Nat) : Nat → List Value → mH → (Option Value → mH → Option (Int32 × mH)) → Option (Int32 × mH) := fun j as g k => kb j 261 (pr1 as fun b0 as => pp1 as fun b1 as => pp1 as fun b2 as => pe as ((f_X12_kindOf N b0 b1 b2 g).bind fun p => k (some (.int p.1)) p.2)) (kb j 252 (pr1 as fun b0 as => pp1 as fun b1 as => pe as ((f_X12_crossingsOf N b0 b1 g).bind fun p => k (some (.int p.1)) p.2)) (kb j 260 (pr1 as fun b0 as => pp1 as fun b1 as => pp1 as fun b2 as => pe as ((f_X12_rodsFor N b0 b1 b2 g).bind fun p => k (some (.int p.1)) p.2)) (none)))
theorem co_X12_rodsOf (N : Nat) (q : Int32 × mH) : clOK 6 q (C_X12_rodsOf N) := by
  intro j as g k e
  rcases kb_s e with ⟨rfl, e⟩ | e
  · obtain ⟨b0, r0, q0, f0⟩ := pr1_s e
    obtain ⟨b1, r1, q1, f1⟩ := pp1_s f0
    obtain ⟨b2, r2, q2, f2⟩ := pp1_s f1
    obtain ⟨qe, fe⟩ := pe_s f2
    obtain ⟨p, e1, e2⟩ := bnd_s fe
    subst qe
    subst q2
    subst q1
    subst q0
    exact ⟨_, _, _, _, 4, rfl, (by decide), m_X12_kindOf N e1, e2⟩
  rcases kb_s e with ⟨rfl, e⟩ | e
  · obtain ⟨b0, r0, q0, f0⟩ := pr1_s e
    obtain ⟨b1, r1, q1, f1⟩ := pp1_s f0
    obtain ⟨qe, fe⟩ := pe_s f1
    obtain ⟨p, e1, e2⟩ := bnd_s fe
    subst qe
    subst q1
    subst q0
    exact ⟨_, _, _, _, 4, rfl, (by decide), m_X12_crossingsOf N e1, e2⟩
  rcases kb_s e with ⟨rfl, e⟩ | e
  · obtain ⟨b0, r0, q0, f0⟩ := pr1_s e
    obtain ⟨b1, r1, q1, f1⟩ := pp1_s f0
    obtain ⟨b2, r2, q2, f2⟩ := pp1_s f1
    obtain ⟨qe, fe⟩ := pe_s f2
    obtain ⟨p, e1, e2⟩ := bnd_s fe
    subst qe
    subst q2
    subst q1
    subst q0
    exact ⟨_, _, _, _, 5, rfl, (by decide), m_X12_rodsFor N e1, e2⟩
  cases e
set_option maxRecDepth 100000 in
theorem t_X12_rodsOf_18 {X : Nat × (Nat → Int32)} (N : Nat) {q : Int32 × mH} {k4 : Nat → Int32 → Int32 → Int32 → mH → Option (Int32 × mH)} (hk4 : ∀ (a0 : Nat) (x1 : Int32) (x2 : Int32) (x3 : Int32) g, k4 a0 x1 x2 x3 g = some q → MW X y_X12_rodsOf 6 4 [(0, .ref a0), (1, .int x1), (2, .int x2), (3, .int x3)] [] g (some (.int q.1)) q.2) : ∀ (n : Nat) (a0 : Nat) (x1 : Int32) (x2 : Int32) (x3 : Int32) (x4 : Int32) (h : mH), L_X12_rodsOf_18 N k4 n a0 x1 x2 x3 x4 h = some q → MW X y_X12_rodsOf 6 18 [(0, .ref a0), (1, .int x1), (2, .int x2), (3, .int x3), (4, .int x4)] [] h (some (.int q.1)) q.2 := by
  intro n
  induction n with
  | zero => intro a0 x1 x2 x3 x4 h hf; cases hf
  | succ n ih =>
    intro a0 x1 x2 x3 x4 h hf
    refine ev_ok (o := 12) (ini := false) (Cl := C_X12_rodsOf N) (Rc := RcI) (B := B_X12_rodsOf) (K := fun pc ls st g => kb pc 4 (lgr 0 ls fun a0 => lgi 1 ls fun x1 => lgi 2 ls fun x2 => lgi 3 ls fun x3 => pe st (k4 a0 x1 x2 x3 g)) (kb pc 18 (lgr 0 ls fun a0 => lgi 1 ls fun x1 => lgi 2 ls fun x2 => lgi 3 ls fun x3 => lgi 4 ls fun x4 => pe st (L_X12_rodsOf_18 N k4 n a0 x1 x2 x3 x4 g)) (none))) rfl (fun e => by cases e) (by decide) (rcI_ok rfl) ?_ (co_X12_rodsOf N q) lb_X12_rodsOf 3000 18 S_X12_rodsOf_18 _ _ h ls_X12_rodsOf_18 hf
    intro pc ls st g e
    rcases kb_s e with ⟨rfl, e⟩ | e
    · obtain ⟨a0, e0, f0⟩ := lgr_s e
      obtain ⟨x1, e1, f1⟩ := lgi_s f0
      obtain ⟨x2, e2, f2⟩ := lgi_s f1
      obtain ⟨x3, e3, f3⟩ := lgi_s f2
      obtain ⟨qe, fe⟩ := pe_s f3
      subst qe
      exact MW.sub (List.forall_mem_cons.mpr ⟨lg_mem e0, List.forall_mem_cons.mpr ⟨lg_mem e1, List.forall_mem_cons.mpr ⟨lg_mem e2, List.forall_mem_cons.mpr ⟨lg_mem e3, fun _ h => absurd h List.not_mem_nil⟩⟩⟩⟩) (hk4 a0 x1 x2 x3 g fe)
    rcases kb_s e with ⟨rfl, e⟩ | e
    · obtain ⟨a0, e0, f0⟩ := lgr_s e
      obtain ⟨x1, e1, f1⟩ := lgi_s f0
      obtain ⟨x2, e2, f2⟩ := lgi_s f1
      obtain ⟨x3, e3, f3⟩ := lgi_s f2
      obtain ⟨x4, e4, f4⟩ := lgi_s f3
      obtain ⟨qe, fe⟩ := pe_s f4
      subst qe
      exact MW.sub (List.forall_mem_cons.mpr ⟨lg_mem e0, List.forall_mem_cons.mpr ⟨lg_mem e1, List.forall_mem_cons.mpr ⟨lg_mem e2, List.forall_mem_cons.mpr ⟨lg_mem e3, List.forall_mem_cons.mpr ⟨lg_mem e4, fun _ h => absurd h List.not_mem_nil⟩⟩⟩⟩⟩) (ih a0 x1 x2 x3 x4 g fe)
    cases e
set_option maxRecDepth 100000 in
theorem t_X12_rodsOf_4 {X : Nat × (Nat → Int32)} (N : Nat) {q : Int32 × mH} : ∀ (n : Nat) (a0 : Nat) (x1 : Int32) (x2 : Int32) (x3 : Int32) (h : mH), L_X12_rodsOf_4 N n a0 x1 x2 x3 h = some q → MW X y_X12_rodsOf 6 4 [(0, .ref a0), (1, .int x1), (2, .int x2), (3, .int x3)] [] h (some (.int q.1)) q.2 := by
  intro n
  induction n with
  | zero => intro a0 x1 x2 x3 h hf; cases hf
  | succ n ih =>
    intro a0 x1 x2 x3 h hf
    refine ev_ok (o := 12) (ini := false) (Cl := C_X12_rodsOf N) (Rc := RcI) (B := B_X12_rodsOf) (K := fun pc ls st g => kb pc 18 (lgr 0 ls fun a0 => lgi 1 ls fun x1 => lgi 2 ls fun x2 => lgi 3 ls fun x3 => lgi 4 ls fun x4 => pe st (L_X12_rodsOf_18 N (L_X12_rodsOf_4 N n) N a0 x1 x2 x3 x4 g)) (none)) rfl (fun e => by cases e) (by decide) (rcI_ok rfl) ?_ (co_X12_rodsOf N q) lb_X12_rodsOf 3000 4 S_X12_rodsOf_4 _ _ h ls_X12_rodsOf_4 hf
    intro pc ls st g e
    rcases kb_s e with ⟨rfl, e⟩ | e
    · obtain ⟨a0, e0, f0⟩ := lgr_s e
      obtain ⟨x1, e1, f1⟩ := lgi_s f0
      obtain ⟨x2, e2, f2⟩ := lgi_s f1
      obtain ⟨x3, e3, f3⟩ := lgi_s f2
      obtain ⟨x4, e4, f4⟩ := lgi_s f3
      obtain ⟨qe, fe⟩ := pe_s f4
      subst qe
      exact MW.sub (List.forall_mem_cons.mpr ⟨lg_mem e0, List.forall_mem_cons.mpr ⟨lg_mem e1, List.forall_mem_cons.mpr ⟨lg_mem e2, List.forall_mem_cons.mpr ⟨lg_mem e3, List.forall_mem_cons.mpr ⟨lg_mem e4, fun _ h => absurd h List.not_mem_nil⟩⟩⟩⟩⟩) (t_X12_rodsOf_18 N (fun a0 x1 x2 x3 g e => ih a0 x1 x2 x3 g e) N a0 x1 x2 x3 x4 g fe)
    cases e
set_option maxRecDepth 100000 in
theorem m_X12_rodsOf (N : Nat) {a0 : Nat} {x1 : Int32} {h : mH} {q : Int32 × mH} (hf : f_X12_rodsOf N a0 x1 h = some q) : MM y_X12_rodsOf 6 [.ref a0, .int x1] h (some (.int q.1)) q.2 := by
  refine MM.of (mFx (j := 298) rfl).2.2.2.1 (Nat.le_of_ble_eq_true rfl) (fun X => ?_)
  refine ev_ok (o := 12) (ini := false) (Cl := C_X12_rodsOf N) (Rc := RcI) (B := B_X12_rodsOf) (K := fun pc ls st g => kb pc 4 (lgr 0 ls fun a0 => lgi 1 ls fun x1 => lgi 2 ls fun x2 => lgi 3 ls fun x3 => pe st (L_X12_rodsOf_4 N N a0 x1 x2 x3 g)) (none)) rfl (fun e => by cases e) (by decide) (rcI_ok rfl) ?_ (co_X12_rodsOf N q) lb_X12_rodsOf 3000 0 S_X12_rodsOf_0 _ _ h ls_X12_rodsOf_0 hf
  intro pc ls st g e
  rcases kb_s e with ⟨rfl, e⟩ | e
  · obtain ⟨a0, e0, f0⟩ := lgr_s e
    obtain ⟨x1, e1, f1⟩ := lgi_s f0
    obtain ⟨x2, e2, f2⟩ := lgi_s f1
    obtain ⟨x3, e3, f3⟩ := lgi_s f2
    obtain ⟨qe, fe⟩ := pe_s f3
    subst qe
    exact MW.sub (List.forall_mem_cons.mpr ⟨lg_mem e0, List.forall_mem_cons.mpr ⟨lg_mem e1, List.forall_mem_cons.mpr ⟨lg_mem e2, List.forall_mem_cons.mpr ⟨lg_mem e3, fun _ h => absurd h List.not_mem_nil⟩⟩⟩⟩) (t_X12_rodsOf_4 N N a0 x1 x2 x3 g fe)
  cases e
def f_X12_rods (N : Nat) (a0 : Nat) (x1 : Int32) (h : mH) : Option (Int32 × mH) :=
  (pV h 12 a0 0 (.int (jI 0))).bind fun h1 =>
  (rcv h1 12 a0).bind fun _ =>
  (f_X12_isKind N a0 x1 h1).bind fun p2 =>
  if p2.1 = 0 then
    (rcv p2.2 12 a0).bind fun _ =>
    (f_X12_no N a0 (jI (-2)) p2.2).bind fun p3 =>
    some (p3.1, p3.2)
  else
    (rcv p2.2 12 a0).bind fun _ =>
    (f_X12_rodsOf N a0 x1 p2.2).bind fun p4 =>
    some (p4.1, p4.2)
def y_X12_rods : mM := (yX12_rods, cX12_rods, 2, (some .int))
def B_X12_rods : List (Nat × List mI) := [(21, [(.aload_n 0, 1, [0], []), (.bipush (-2), 2, [], [-2]), (.invokevirtual 84, 3, [0, 224, 1, 12, 267], [])]), (27, [(.ireturn, 1, [], [])])]
def S_X12_rods_0 : List mI := [(.aload_n 0, 1, [0], []), (.iconst 0, 1, [], [0]), (.putfield 1, 3, [12, 0, 0, 126], []), (.aload_n 0, 1, [0], []), (.iload_n 1, 1, [1], []), (.invokevirtual 176, 3, [0, 246, 1, 12, 287], []), (.ifCond .eq 11, 3, [21], []), (.aload_n 0, 1, [0], []), (.iload_n 1, 1, [1], []), (.invokevirtual 302, 3, [0, 298, 1, 12, 339], []), (.goto 9, 3, [27], [])]
theorem lb_X12_rods : B_X12_rods.all (fun b => lst y_X12_rods.2.1 12 y_X12_rods.2.2.1 false b.1 b.2) = true := by decide +kernel
theorem ls_X12_rods_0 : lst y_X12_rods.2.1 12 y_X12_rods.2.2.1 false 0 S_X12_rods_0 = true := by decide +kernel
def C_X12_rods (N : Nat) : Nat → List Value → mH → (Option Value → mH → Option (Int32 × mH)) → Option (Int32 × mH) := fun j as g k => kb j 246 (pr1 as fun b0 as => pp1 as fun b1 as => pe as ((f_X12_isKind N b0 b1 g).bind fun p => k (some (.int p.1)) p.2)) (kb j 298 (pr1 as fun b0 as => pp1 as fun b1 as => pe as ((f_X12_rodsOf N b0 b1 g).bind fun p => k (some (.int p.1)) p.2)) (kb j 224 (pr1 as fun b0 as => pp1 as fun b1 as => pe as ((f_X12_no N b0 b1 g).bind fun p => k (some (.int p.1)) p.2)) (none)))
theorem co_X12_rods (N : Nat) (q : Int32 × mH) : clOK 7 q (C_X12_rods N) := by
  intro j as g k e
  rcases kb_s e with ⟨rfl, e⟩ | e
  · obtain ⟨b0, r0, q0, f0⟩ := pr1_s e
    obtain ⟨b1, r1, q1, f1⟩ := pp1_s f0
    obtain ⟨qe, fe⟩ := pe_s f1
    obtain ⟨p, e1, e2⟩ := bnd_s fe
    subst qe
    subst q1
    subst q0
    exact ⟨_, _, _, _, 5, rfl, (by decide), m_X12_isKind N e1, e2⟩
  rcases kb_s e with ⟨rfl, e⟩ | e
  · obtain ⟨b0, r0, q0, f0⟩ := pr1_s e
    obtain ⟨b1, r1, q1, f1⟩ := pp1_s f0
    obtain ⟨qe, fe⟩ := pe_s f1
    obtain ⟨p, e1, e2⟩ := bnd_s fe
    subst qe
    subst q1
    subst q0
    exact ⟨_, _, _, _, 6, rfl, (by decide), m_X12_rodsOf N e1, e2⟩
  rcases kb_s e with ⟨rfl, e⟩ | e
  · obtain ⟨b0, r0, q0, f0⟩ := pr1_s e
    obtain ⟨b1, r1, q1, f1⟩ := pp1_s f0
    obtain ⟨qe, fe⟩ := pe_s f1
    obtain ⟨p, e1, e2⟩ := bnd_s fe
    subst qe
    subst q1
    subst q0
    exact ⟨_, _, _, _, 4, rfl, (by decide), m_X12_no N e1, e2⟩
  cases e
set_option maxRecDepth 100000 in
theorem m_X12_rods (N : Nat) {a0 : Nat} {x1 : Int32} {h : mH} {q : Int32 × mH} (hf : f_X12_rods N a0 x1 h = some q) : MM y_X12_rods 7 [.ref a0, .int x1] h (some (.int q.1)) q.2 := by
  refine MM.of (mFx (j := 299) rfl).2.2.2.1 (Nat.le_of_ble_eq_true rfl) (fun X => ?_)
  refine ev_ok (o := 12) (ini := false) (Cl := C_X12_rods N) (Rc := RcI) (B := B_X12_rods) (K := fun pc ls st g => none) rfl (fun e => by cases e) (by decide) (rcI_ok rfl) ?_ (co_X12_rods N q) lb_X12_rods 3000 0 S_X12_rods_0 _ _ h ls_X12_rods_0 hf
  intro pc ls st g e
  cases e
def L_X12_waste_73 (N : Nat) (k24 : Nat → Int32 → Int32 → Int32 → mH → Option (Int32 × mH)) : Nat → Nat → Int32 → Int32 → Int32 → Int32 → Int32 → mH → Option (Int32 × mH)
  | 0, _, _, _, _, _, _, _ => none
  | n + 1, a0, x1, x2, x3, x4, x5, h =>
    (gR h 12 a0 2).bind fun v1 =>
    (ldI 0 h v1 (iAdd (jI 27) x3)).bind fun v2 =>
    if x5 < v2 then
      (rcv h 12 a0).bind fun _ =>
      (f_X12_kindOf N a0 x3 x5 h).bind fun p3 =>
      if p3.1 = x1 then
        let w4 := iAdd x2 x4
        let w5 := iAdd x5 (jI 1)
        L_X12_waste_73 N k24 n a0 x1 w4 x3 x4 w5 p3.2
      else
        let w6 := iAdd x2 (jI 0)
        let w7 := iAdd x5 (jI 1)
        L_X12_waste_73 N k24 n a0 x1 w6 x3 x4 w7 p3.2
    else
      let w8 := iAdd x3 (jI 1)
      k24 a0 x1 x2 w8 h
def L_X12_waste_24 (N : Nat) : Nat → Nat → Int32 → Int32 → Int32 → mH → Option (Int32 × mH)
  | 0, _, _, _, _, _ => none
  | n + 1, a0, x1, x2, x3, h =>
    (gR h 12 a0 2).bind fun v1 =>
    (ldI 0 h v1 (jI 26)).bind fun v2 =>
    if x3 < v2 then
      (rcv h 12 a0).bind fun _ =>
      (f_X12_crossingsOf N a0 x3 h).bind fun p3 =>
      (rcv p3.2 12 a0).bind fun _ =>
      (f_X12_rodsFor N a0 x1 p3.1 p3.2).bind fun p4 =>
      (rcv p4.2 12 a0).bind fun _ =>
      (f_X12_stepOf N a0 x1 p4.2).bind fun p5 =>
      (gR p5.2 12 a0 2).bind fun v6 =>
      (ldI 0 p5.2 v6 (iAdd (jI 2) x1)).bind fun v7 =>
      (rcv p5.2 12 a0).bind fun _ =>
      (f_X12_crossingsOf N a0 x3 p5.2).bind fun p8 =>
      let w9 := iSub (iAdd (iMul (iSub p4.1 (jI 1)) p5.1) v7) p8.1
      L_X12_waste_73 N (L_X12_waste_24 N n) N a0 x1 x2 x3 w9 (jI 0) p8.2
    else
      some (x2, h)
def f_X12_waste (N : Nat) (a0 : Nat) (x1 : Int32) (h : mH) : Option (Int32 × mH) :=
  (pV h 12 a0 0 (.int (jI 0))).bind fun h1 =>
  (rcv h1 12 a0).bind fun _ =>
  (f_X12_isKind N a0 x1 h1).bind fun p2 =>
  if p2.1 = 0 then
    (rcv p2.2 12 a0).bind fun _ =>
    (f_X12_no N a0 (jI (-2)) p2.2).bind fun p3 =>
    some (p3.1, p3.2)
  else
    L_X12_waste_24 N N a0 x1 (jI 0) (jI 0) p2.2
def y_X12_waste : mM := (yX12_waste, cX12_waste, 6, (some .int))
def B_X12_waste : List (Nat × List mI) := [(20, [(.iconst 0, 1, [], [0]), (.istore_n 2, 1, [2], []), (.iconst 0, 1, [], [0]), (.istore_n 3, 1, [3], [])]), (104, [(.iconst 0, 1, [], [0])]), (105, [(.iadd, 1, [], []), (.istore_n 2, 1, [2], []), (.iinc 5 1, 3, [5], [1]), (.goto (-37), 3, [73], [])]), (113, [(.iinc 3 1, 3, [3], [1]), (.goto (-92), 3, [24], [])]), (119, [(.iload_n 2, 1, [2], []), (.ireturn, 1, [], [])])]
def S_X12_waste_0 : List mI := [(.aload_n 0, 1, [0], []), (.iconst 0, 1, [], [0]), (.putfield 1, 3, [12, 0, 0, 126], []), (.aload_n 0, 1, [0], []), (.iload_n 1, 1, [1], []), (.invokevirtual 176, 3, [0, 246, 1, 12, 287], []), (.ifCond .ne 10, 3, [20], []), (.aload_n 0, 1, [0], []), (.bipush (-2), 2, [], [-2]), (.invokevirtual 84, 3, [0, 224, 1, 12, 267], []), (.ireturn, 1, [], [])]
def S_X12_waste_24 : List mI := [(.iload_n 3, 1, [3], []), (.aload_n 0, 1, [0], []), (.getfield 17, 3, [12, 2, 2, 128], []), (.bipush 26, 2, [], [26]), (.iaload, 1, [0], []), (.if_icmp .ge 87, 3, [119], []), (.aload_n 0, 1, [0], []), (.iload_n 1, 1, [1], []), (.aload_n 0, 1, [0], []), (.iload_n 3, 1, [3], []), (.invokevirtual 198, 3, [0, 252, 1, 12, 294], []), (.invokevirtual 210, 3, [0, 260, 2, 12, 298], []), (.iconst 1, 1, [], [1]), (.isub, 1, [], []), (.aload_n 0, 1, [0], []), (.iload_n 1, 1, [1], []), (.invokevirtual 204, 3, [0, 259, 1, 12, 297], []), (.imul, 1, [], []), (.aload_n 0, 1, [0], []), (.getfield 17, 3, [12, 2, 2, 128], []), (.iconst 2, 1, [], [2]), (.iload_n 1, 1, [1], []), (.iadd, 1, [], []), (.iaload, 1, [0], []), (.iadd, 1, [], []), (.aload_n 0, 1, [0], []), (.iload_n 3, 1, [3], []), (.invokevirtual 198, 3, [0, 252, 1, 12, 294], []), (.isub, 1, [], []), (.istore 4, 2, [4], []), (.iconst 0, 1, [], [0]), (.istore 5, 2, [5], [])]
def S_X12_waste_73 : List mI := [(.iload 5, 2, [5], []), (.aload_n 0, 1, [0], []), (.getfield 17, 3, [12, 2, 2, 128], []), (.bipush 27, 2, [], [27]), (.iload_n 3, 1, [3], []), (.iadd, 1, [], []), (.iaload, 1, [0], []), (.if_icmp .ge 29, 3, [113], []), (.iload_n 2, 1, [2], []), (.aload_n 0, 1, [0], []), (.iload_n 3, 1, [3], []), (.iload 5, 2, [5], []), (.invokevirtual 207, 3, [0, 261, 2, 12, 296], []), (.iload_n 1, 1, [1], []), (.if_icmp .ne 8, 3, [104], []), (.iload 4, 2, [4], []), (.goto 4, 3, [105], [])]
theorem lb_X12_waste : B_X12_waste.all (fun b => lst y_X12_waste.2.1 12 y_X12_waste.2.2.1 false b.1 b.2) = true := by decide +kernel
theorem ls_X12_waste_0 : lst y_X12_waste.2.1 12 y_X12_waste.2.2.1 false 0 S_X12_waste_0 = true := by decide +kernel
theorem ls_X12_waste_24 : lst y_X12_waste.2.1 12 y_X12_waste.2.2.1 false 24 S_X12_waste_24 = true := by decide +kernel
theorem ls_X12_waste_73 : lst y_X12_waste.2.1 12 y_X12_waste.2.2.1 false 73 S_X12_waste_73 = true := by decide +kernel
def C_X12_waste (N : Nat) : Nat → List Value → mH → (Option Value → mH → Option (Int32 × mH)) → Option (Int32 × mH) := fun j as g k => kb j 246 (pr1 as fun b0 as => pp1 as fun b1 as => pe as ((f_X12_isKind N b0 b1 g).bind fun p => k (some (.int p.1)) p.2)) (kb j 224 (pr1 as fun b0 as => pp1 as fun b1 as => pe as ((f_X12_no N b0 b1 g).bind fun p => k (some (.int p.1)) p.2)) (kb j 252 (pr1 as fun b0 as => pp1 as fun b1 as => pe as ((f_X12_crossingsOf N b0 b1 g).bind fun p => k (some (.int p.1)) p.2)) (kb j 260 (pr1 as fun b0 as => pp1 as fun b1 as => pp1 as fun b2 as => pe as ((f_X12_rodsFor N b0 b1 b2 g).bind fun p => k (some (.int p.1)) p.2)) (kb j 259 (pr1 as fun b0 as => pp1 as fun b1 as => pe as ((f_X12_stepOf N b0 b1 g).bind fun p => k (some (.int p.1)) p.2)) (kb j 261 (pr1 as fun b0 as => pp1 as fun b1 as => pp1 as fun b2 as => pe as ((f_X12_kindOf N b0 b1 b2 g).bind fun p => k (some (.int p.1)) p.2)) (none))))))
theorem co_X12_waste (N : Nat) (q : Int32 × mH) : clOK 6 q (C_X12_waste N) := by
  intro j as g k e
  rcases kb_s e with ⟨rfl, e⟩ | e
  · obtain ⟨b0, r0, q0, f0⟩ := pr1_s e
    obtain ⟨b1, r1, q1, f1⟩ := pp1_s f0
    obtain ⟨qe, fe⟩ := pe_s f1
    obtain ⟨p, e1, e2⟩ := bnd_s fe
    subst qe
    subst q1
    subst q0
    exact ⟨_, _, _, _, 5, rfl, (by decide), m_X12_isKind N e1, e2⟩
  rcases kb_s e with ⟨rfl, e⟩ | e
  · obtain ⟨b0, r0, q0, f0⟩ := pr1_s e
    obtain ⟨b1, r1, q1, f1⟩ := pp1_s f0
    obtain ⟨qe, fe⟩ := pe_s f1
    obtain ⟨p, e1, e2⟩ := bnd_s fe
    subst qe
    subst q1
    subst q0
    exact ⟨_, _, _, _, 4, rfl, (by decide), m_X12_no N e1, e2⟩
  rcases kb_s e with ⟨rfl, e⟩ | e
  · obtain ⟨b0, r0, q0, f0⟩ := pr1_s e
    obtain ⟨b1, r1, q1, f1⟩ := pp1_s f0
    obtain ⟨qe, fe⟩ := pe_s f1
    obtain ⟨p, e1, e2⟩ := bnd_s fe
    subst qe
    subst q1
    subst q0
    exact ⟨_, _, _, _, 4, rfl, (by decide), m_X12_crossingsOf N e1, e2⟩
  rcases kb_s e with ⟨rfl, e⟩ | e
  · obtain ⟨b0, r0, q0, f0⟩ := pr1_s e
    obtain ⟨b1, r1, q1, f1⟩ := pp1_s f0
    obtain ⟨b2, r2, q2, f2⟩ := pp1_s f1
    obtain ⟨qe, fe⟩ := pe_s f2
    obtain ⟨p, e1, e2⟩ := bnd_s fe
    subst qe
    subst q2
    subst q1
    subst q0
    exact ⟨_, _, _, _, 5, rfl, (by decide), m_X12_rodsFor N e1, e2⟩
  rcases kb_s e with ⟨rfl, e⟩ | e
  · obtain ⟨b0, r0, q0, f0⟩ := pr1_s e
    obtain ⟨b1, r1, q1, f1⟩ := pp1_s f0
    obtain ⟨qe, fe⟩ := pe_s f1
    obtain ⟨p, e1, e2⟩ := bnd_s fe
    subst qe
    subst q1
    subst q0
    exact ⟨_, _, _, _, 4, rfl, (by decide), m_X12_stepOf N e1, e2⟩
  rcases kb_s e with ⟨rfl, e⟩ | e
  · obtain ⟨b0, r0, q0, f0⟩ := pr1_s e
    obtain ⟨b1, r1, q1, f1⟩ := pp1_s f0
    obtain ⟨b2, r2, q2, f2⟩ := pp1_s f1
    obtain ⟨qe, fe⟩ := pe_s f2
    obtain ⟨p, e1, e2⟩ := bnd_s fe
    subst qe
    subst q2
    subst q1
    subst q0
    exact ⟨_, _, _, _, 4, rfl, (by decide), m_X12_kindOf N e1, e2⟩
  cases e
set_option maxRecDepth 100000 in
theorem t_X12_waste_73 {X : Nat × (Nat → Int32)} (N : Nat) {q : Int32 × mH} {k24 : Nat → Int32 → Int32 → Int32 → mH → Option (Int32 × mH)} (hk24 : ∀ (a0 : Nat) (x1 : Int32) (x2 : Int32) (x3 : Int32) g, k24 a0 x1 x2 x3 g = some q → MW X y_X12_waste 6 24 [(0, .ref a0), (1, .int x1), (2, .int x2), (3, .int x3)] [] g (some (.int q.1)) q.2) : ∀ (n : Nat) (a0 : Nat) (x1 : Int32) (x2 : Int32) (x3 : Int32) (x4 : Int32) (x5 : Int32) (h : mH), L_X12_waste_73 N k24 n a0 x1 x2 x3 x4 x5 h = some q → MW X y_X12_waste 6 73 [(0, .ref a0), (1, .int x1), (2, .int x2), (3, .int x3), (4, .int x4), (5, .int x5)] [] h (some (.int q.1)) q.2 := by
  intro n
  induction n with
  | zero => intro a0 x1 x2 x3 x4 x5 h hf; cases hf
  | succ n ih =>
    intro a0 x1 x2 x3 x4 x5 h hf
    refine ev_ok (o := 12) (ini := false) (Cl := C_X12_waste N) (Rc := RcI) (B := B_X12_waste) (K := fun pc ls st g => kb pc 24 (lgr 0 ls fun a0 => lgi 1 ls fun x1 => lgi 2 ls fun x2 => lgi 3 ls fun x3 => pe st (k24 a0 x1 x2 x3 g)) (kb pc 73 (lgr 0 ls fun a0 => lgi 1 ls fun x1 => lgi 2 ls fun x2 => lgi 3 ls fun x3 => lgi 4 ls fun x4 => lgi 5 ls fun x5 => pe st (L_X12_waste_73 N k24 n a0 x1 x2 x3 x4 x5 g)) (none))) rfl (fun e => by cases e) (by decide) (rcI_ok rfl) ?_ (co_X12_waste N q) lb_X12_waste 3000 73 S_X12_waste_73 _ _ h ls_X12_waste_73 hf
    intro pc ls st g e
    rcases kb_s e with ⟨rfl, e⟩ | e
    · obtain ⟨a0, e0, f0⟩ := lgr_s e
      obtain ⟨x1, e1, f1⟩ := lgi_s f0
      obtain ⟨x2, e2, f2⟩ := lgi_s f1
      obtain ⟨x3, e3, f3⟩ := lgi_s f2
      obtain ⟨qe, fe⟩ := pe_s f3
      subst qe
      exact MW.sub (List.forall_mem_cons.mpr ⟨lg_mem e0, List.forall_mem_cons.mpr ⟨lg_mem e1, List.forall_mem_cons.mpr ⟨lg_mem e2, List.forall_mem_cons.mpr ⟨lg_mem e3, fun _ h => absurd h List.not_mem_nil⟩⟩⟩⟩) (hk24 a0 x1 x2 x3 g fe)
    rcases kb_s e with ⟨rfl, e⟩ | e
    · obtain ⟨a0, e0, f0⟩ := lgr_s e
      obtain ⟨x1, e1, f1⟩ := lgi_s f0
      obtain ⟨x2, e2, f2⟩ := lgi_s f1
      obtain ⟨x3, e3, f3⟩ := lgi_s f2
      obtain ⟨x4, e4, f4⟩ := lgi_s f3
      obtain ⟨x5, e5, f5⟩ := lgi_s f4
      obtain ⟨qe, fe⟩ := pe_s f5
      subst qe
      exact MW.sub (List.forall_mem_cons.mpr ⟨lg_mem e0, List.forall_mem_cons.mpr ⟨lg_mem e1, List.forall_mem_cons.mpr ⟨lg_mem e2, List.forall_mem_cons.mpr ⟨lg_mem e3, List.forall_mem_cons.mpr ⟨lg_mem e4, List.forall_mem_cons.mpr ⟨lg_mem e5, fun _ h => absurd h List.not_mem_nil⟩⟩⟩⟩⟩⟩) (ih a0 x1 x2 x3 x4 x5 g fe)
    cases e
set_option maxRecDepth 100000 in
theorem t_X12_waste_24 {X : Nat × (Nat → Int32)} (N : Nat) {q : Int32 × mH} : ∀ (n : Nat) (a0 : Nat) (x1 : Int32) (x2 : Int32) (x3 : Int32) (h : mH), L_X12_waste_24 N n a0 x1 x2 x3 h = some q → MW X y_X12_waste 6 24 [(0, .ref a0), (1, .int x1), (2, .int x2), (3, .int x3)] [] h (some (.int q.1)) q.2 := by
  intro n
  induction n with
  | zero => intro a0 x1 x2 x3 h hf; cases hf
  | succ n ih =>
    intro a0 x1 x2 x3 h hf
    refine ev_ok (o := 12) (ini := false) (Cl := C_X12_waste N) (Rc := RcI) (B := B_X12_waste) (K := fun pc ls st g => kb pc 73 (lgr 0 ls fun a0 => lgi 1 ls fun x1 => lgi 2 ls fun x2 => lgi 3 ls fun x3 => lgi 4 ls fun x4 => lgi 5 ls fun x5 => pe st (L_X12_waste_73 N (L_X12_waste_24 N n) N a0 x1 x2 x3 x4 x5 g)) (none)) rfl (fun e => by cases e) (by decide) (rcI_ok rfl) ?_ (co_X12_waste N q) lb_X12_waste 3000 24 S_X12_waste_24 _ _ h ls_X12_waste_24 hf
    intro pc ls st g e
    rcases kb_s e with ⟨rfl, e⟩ | e
    · obtain ⟨a0, e0, f0⟩ := lgr_s e
      obtain ⟨x1, e1, f1⟩ := lgi_s f0
      obtain ⟨x2, e2, f2⟩ := lgi_s f1
      obtain ⟨x3, e3, f3⟩ := lgi_s f2
      obtain ⟨x4, e4, f4⟩ := lgi_s f3
      obtain ⟨x5, e5, f5⟩ := lgi_s f4
      obtain ⟨qe, fe⟩ := pe_s f5
      subst qe
      exact MW.sub (List.forall_mem_cons.mpr ⟨lg_mem e0, List.forall_mem_cons.mpr ⟨lg_mem e1, List.forall_mem_cons.mpr ⟨lg_mem e2, List.forall_mem_cons.mpr ⟨lg_mem e3, List.forall_mem_cons.mpr ⟨lg_mem e4, List.forall_mem_cons.mpr ⟨lg_mem e5, fun _ h => absurd h List.not_mem_nil⟩⟩⟩⟩⟩⟩) (t_X12_waste_73 N (fun a0 x1 x2 x3 g e => ih a0 x1 x2 x3 g e) N a0 x1 x2 x3 x4 x5 g fe)
    cases e
set_option maxRecDepth 100000 in
theorem m_X12_waste (N : Nat) {a0 : Nat} {x1 : Int32} {h : mH} {q : Int32 × mH} (hf : f_X12_waste N a0 x1 h = some q) : MM y_X12_waste 6 [.ref a0, .int x1] h (some (.int q.1)) q.2 := by
  refine MM.of (mFx (j := 300) rfl).2.2.2.1 (Nat.le_of_ble_eq_true rfl) (fun X => ?_)
  refine ev_ok (o := 12) (ini := false) (Cl := C_X12_waste N) (Rc := RcI) (B := B_X12_waste) (K := fun pc ls st g => kb pc 24 (lgr 0 ls fun a0 => lgi 1 ls fun x1 => lgi 2 ls fun x2 => lgi 3 ls fun x3 => pe st (L_X12_waste_24 N N a0 x1 x2 x3 g)) (none)) rfl (fun e => by cases e) (by decide) (rcI_ok rfl) ?_ (co_X12_waste N q) lb_X12_waste 3000 0 S_X12_waste_0 _ _ h ls_X12_waste_0 hf
  intro pc ls st g e
  rcases kb_s e with ⟨rfl, e⟩ | e
  · obtain ⟨a0, e0, f0⟩ := lgr_s e
    obtain ⟨x1, e1, f1⟩ := lgi_s f0
    obtain ⟨x2, e2, f2⟩ := lgi_s f1
    obtain ⟨x3, e3, f3⟩ := lgi_s f2
    obtain ⟨qe, fe⟩ := pe_s f3
    subst qe
    exact MW.sub (List.forall_mem_cons.mpr ⟨lg_mem e0, List.forall_mem_cons.mpr ⟨lg_mem e1, List.forall_mem_cons.mpr ⟨lg_mem e2, List.forall_mem_cons.mpr ⟨lg_mem e3, fun _ h => absurd h List.not_mem_nil⟩⟩⟩⟩) (t_X12_waste_24 N N a0 x1 x2 x3 g fe)
  cases e
def L_X12_cost_9 (N : Nat) : Nat → Nat → Int32 → Int32 → mH → Option (Int32 × mH)
  | 0, _, _, _, _ => none
  | n + 1, a0, x1, x2, h =>
    (gR h 12 a0 2).bind fun v1 =>
    (ldI 0 h v1 (jI 1)).bind fun v2 =>
    if x2 < v2 then
      (rcv h 12 a0).bind fun _ =>
      (f_X12_rodsOf N a0 x2 h).bind fun p3 =>
      (gR p3.2 12 a0 2).bind fun v4 =>
      (ldI 0 p3.2 v4 (iAdd (jI 20) x2)).bind fun v5 =>
      let w6 := iAdd x1 (iMul p3.1 v5)
      let w7 := iAdd x2 (jI 1)
      L_X12_cost_9 N n a0 w6 w7 p3.2
    else
      some (x1, h)
def f_X12_cost (N : Nat) (a0 : Nat) (h : mH) : Option (Int32 × mH) :=
  (pV h 12 a0 0 (.int (jI 0))).bind fun h1 =>
  L_X12_cost_9 N N a0 (jI 0) (jI 0) h1
def y_X12_cost : mM := (yX12_cost, cX12_cost, 3, (some .int))
def B_X12_cost : List (Nat × List mI) := [(43, [(.iload_n 1, 1, [1], []), (.ireturn, 1, [], [])])]
def S_X12_cost_0 : List mI := [(.aload_n 0, 1, [0], []), (.iconst 0, 1, [], [0]), (.putfield 1, 3, [12, 0, 0, 126], []), (.iconst 0, 1, [], [0]), (.istore_n 1, 1, [1], []), (.iconst 0, 1, [], [0]), (.istore_n 2, 1, [2], [])]
def S_X12_cost_9 : List mI := [(.iload_n 2, 1, [2], []), (.aload_n 0, 1, [0], []), (.getfield 17, 3, [12, 2, 2, 128], []), (.iconst 1, 1, [], [1]), (.iaload, 1, [0], []), (.if_icmp .ge 27, 3, [43], []), (.iload_n 1, 1, [1], []), (.aload_n 0, 1, [0], []), (.iload_n 2, 1, [2], []), (.invokevirtual 302, 3, [0, 298, 1, 12, 339], []), (.aload_n 0, 1, [0], []), (.getfield 17, 3, [12, 2, 2, 128], []), (.bipush 20, 2, [], [20]), (.iload_n 2, 1, [2], []), (.iadd, 1, [], []), (.iaload, 1, [0], []), (.imul, 1, [], []), (.iadd, 1, [], []), (.istore_n 1, 1, [1], []), (.iinc 2 1, 3, [2], [1]), (.goto (-31), 3, [9], [])]
theorem lb_X12_cost : B_X12_cost.all (fun b => lst y_X12_cost.2.1 12 y_X12_cost.2.2.1 false b.1 b.2) = true := by decide +kernel
theorem ls_X12_cost_0 : lst y_X12_cost.2.1 12 y_X12_cost.2.2.1 false 0 S_X12_cost_0 = true := by decide +kernel
theorem ls_X12_cost_9 : lst y_X12_cost.2.1 12 y_X12_cost.2.2.1 false 9 S_X12_cost_9 = true := by decide +kernel
def C_X12_cost (N : Nat) : Nat → List Value → mH → (Option Value → mH → Option (Int32 × mH)) → Option (Int32 × mH) := fun j as g k => kb j 298 (pr1 as fun b0 as => pp1 as fun b1 as => pe as ((f_X12_rodsOf N b0 b1 g).bind fun p => k (some (.int p.1)) p.2)) (none)
theorem co_X12_cost (N : Nat) (q : Int32 × mH) : clOK 7 q (C_X12_cost N) := by
  intro j as g k e
  rcases kb_s e with ⟨rfl, e⟩ | e
  · obtain ⟨b0, r0, q0, f0⟩ := pr1_s e
    obtain ⟨b1, r1, q1, f1⟩ := pp1_s f0
    obtain ⟨qe, fe⟩ := pe_s f1
    obtain ⟨p, e1, e2⟩ := bnd_s fe
    subst qe
    subst q1
    subst q0
    exact ⟨_, _, _, _, 6, rfl, (by decide), m_X12_rodsOf N e1, e2⟩
  cases e
set_option maxRecDepth 100000 in
theorem t_X12_cost_9 {X : Nat × (Nat → Int32)} (N : Nat) {q : Int32 × mH} : ∀ (n : Nat) (a0 : Nat) (x1 : Int32) (x2 : Int32) (h : mH), L_X12_cost_9 N n a0 x1 x2 h = some q → MW X y_X12_cost 7 9 [(0, .ref a0), (1, .int x1), (2, .int x2)] [] h (some (.int q.1)) q.2 := by
  intro n
  induction n with
  | zero => intro a0 x1 x2 h hf; cases hf
  | succ n ih =>
    intro a0 x1 x2 h hf
    refine ev_ok (o := 12) (ini := false) (Cl := C_X12_cost N) (Rc := RcI) (B := B_X12_cost) (K := fun pc ls st g => kb pc 9 (lgr 0 ls fun a0 => lgi 1 ls fun x1 => lgi 2 ls fun x2 => pe st (L_X12_cost_9 N n a0 x1 x2 g)) (none)) rfl (fun e => by cases e) (by decide) (rcI_ok rfl) ?_ (co_X12_cost N q) lb_X12_cost 3000 9 S_X12_cost_9 _ _ h ls_X12_cost_9 hf
    intro pc ls st g e
    rcases kb_s e with ⟨rfl, e⟩ | e
    · obtain ⟨a0, e0, f0⟩ := lgr_s e
      obtain ⟨x1, e1, f1⟩ := lgi_s f0
      obtain ⟨x2, e2, f2⟩ := lgi_s f1
      obtain ⟨qe, fe⟩ := pe_s f2
      subst qe
      exact MW.sub (List.forall_mem_cons.mpr ⟨lg_mem e0, List.forall_mem_cons.mpr ⟨lg_mem e1, List.forall_mem_cons.mpr ⟨lg_mem e2, fun _ h => absurd h List.not_mem_nil⟩⟩⟩) (ih a0 x1 x2 g fe)
    cases e
set_option maxRecDepth 100000 in
theorem m_X12_cost (N : Nat) {a0 : Nat} {h : mH} {q : Int32 × mH} (hf : f_X12_cost N a0 h = some q) : MM y_X12_cost 7 [.ref a0] h (some (.int q.1)) q.2 := by
  refine MM.of (mFx (j := 301) rfl).2.2.2.1 (Nat.le_of_ble_eq_true rfl) (fun X => ?_)
  refine ev_ok (o := 12) (ini := false) (Cl := C_X12_cost N) (Rc := RcI) (B := B_X12_cost) (K := fun pc ls st g => kb pc 9 (lgr 0 ls fun a0 => lgi 1 ls fun x1 => lgi 2 ls fun x2 => pe st (L_X12_cost_9 N N a0 x1 x2 g)) (none)) rfl (fun e => by cases e) (by decide) (rcI_ok rfl) ?_ (co_X12_cost N q) lb_X12_cost 3000 0 S_X12_cost_0 _ _ h ls_X12_cost_0 hf
  intro pc ls st g e
  rcases kb_s e with ⟨rfl, e⟩ | e
  · obtain ⟨a0, e0, f0⟩ := lgr_s e
    obtain ⟨x1, e1, f1⟩ := lgi_s f0
    obtain ⟨x2, e2, f2⟩ := lgi_s f1
    obtain ⟨qe, fe⟩ := pe_s f2
    subst qe
    exact MW.sub (List.forall_mem_cons.mpr ⟨lg_mem e0, List.forall_mem_cons.mpr ⟨lg_mem e1, List.forall_mem_cons.mpr ⟨lg_mem e2, fun _ h => absurd h List.not_mem_nil⟩⟩⟩) (t_X12_cost_9 N N a0 x1 x2 g fe)
  cases e
def L_X12_cheaper_27 (N : Nat) : Nat → Nat → Int32 → Int32 → Int32 → Int32 → mH → Option (Int32 × mH)
  | 0, _, _, _, _, _, _ => none
  | n + 1, a0, x1, x2, x3, x4, h =>
    (gR h 12 a0 2).bind fun v1 =>
    (ldI 0 h v1 (jI 1)).bind fun v2 =>
    if x4 < v2 then
      (rcv h 12 a0).bind fun _ =>
      (f_X12_crossingsOf N a0 x1 h).bind fun p3 =>
      (rcv p3.2 12 a0).bind fun _ =>
      (f_X12_rodsFor N a0 x4 p3.1 p3.2).bind fun p4 =>
      (gR p4.2 12 a0 2).bind fun v5 =>
      (ldI 0 p4.2 v5 (iAdd (jI 20) x4)).bind fun v6 =>
      let w7 := iMul p4.1 v6
      if x2 = (jI (-1)) then
        let w8 := iAdd x4 (jI 1)
        L_X12_cheaper_27 N n a0 x1 x4 w7 w8 p4.2
      else
        if w7 < x3 then
          let w9 := iAdd x4 (jI 1)
          L_X12_cheaper_27 N n a0 x1 x4 w7 w9 p4.2
        else
          let w10 := iAdd x4 (jI 1)
          L_X12_cheaper_27 N n a0 x1 x2 x3 w10 p4.2
    else
      some (x2, h)
def f_X12_cheaper (N : Nat) (a0 : Nat) (x1 : Int32) (h : mH) : Option (Int32 × mH) :=
  (pV h 12 a0 0 (.int (jI 0))).bind fun h1 =>
  (rcv h1 12 a0).bind fun _ =>
  (f_X12_isBand N a0 x1 h1).bind fun p2 =>
  if p2.1 = 0 then
    (rcv p2.2 12 a0).bind fun _ =>
    (f_X12_no N a0 (jI (-2)) p2.2).bind fun p3 =>
    some (p3.1, p3.2)
  else
    L_X12_cheaper_27 N N a0 x1 (jI (-1)) (jI 0) (jI 0) p2.2
def y_X12_cheaper : mM := (yX12_cheaper, cX12_cheaper, 6, (some .int))
def B_X12_cheaper : List (Nat × List mI) := [(20, [(.iconst (-1), 1, [], [-1]), (.istore_n 2, 1, [2], []), (.iconst 0, 1, [], [0]), (.istore_n 3, 1, [3], []), (.iconst 0, 1, [], [0]), (.istore 4, 2, [4], [])]), (76, [(.iload 4, 2, [4], []), (.istore_n 2, 1, [2], []), (.iload 5, 2, [5], []), (.istore_n 3, 1, [3], [])]), (82, [(.iinc 4 1, 3, [4], [1]), (.goto (-58), 3, [27], [])]), (88, [(.iload_n 2, 1, [2], []), (.ireturn, 1, [], [])])]
def S_X12_cheaper_0 : List mI := [(.aload_n 0, 1, [0], []), (.iconst 0, 1, [], [0]), (.putfield 1, 3, [12, 0, 0, 126], []), (.aload_n 0, 1, [0], []), (.iload_n 1, 1, [1], []), (.invokevirtual 181, 3, [0, 247, 1, 12, 289], []), (.ifCond .ne 10, 3, [20], []), (.aload_n 0, 1, [0], []), (.bipush (-2), 2, [], [-2]), (.invokevirtual 84, 3, [0, 224, 1, 12, 267], []), (.ireturn, 1, [], [])]
def S_X12_cheaper_27 : List mI := [(.iload 4, 2, [4], []), (.aload_n 0, 1, [0], []), (.getfield 17, 3, [12, 2, 2, 128], []), (.iconst 1, 1, [], [1]), (.iaload, 1, [0], []), (.if_icmp .ge 53, 3, [88], []), (.aload_n 0, 1, [0], []), (.iload 4, 2, [4], []), (.aload_n 0, 1, [0], []), (.iload_n 1, 1, [1], []), (.invokevirtual 198, 3, [0, 252, 1, 12, 294], []), (.invokevirtual 210, 3, [0, 260, 2, 12, 298], []), (.aload_n 0, 1, [0], []), (.getfield 17, 3, [12, 2, 2, 128], []), (.bipush 20, 2, [], [20]), (.iload 4, 2, [4], []), (.iadd, 1, [], []), (.iaload, 1, [0], []), (.imul, 1, [], []), (.istore 5, 2, [5], []), (.iload_n 2, 1, [2], []), (.iconst (-1), 1, [], [-1]), (.if_icmp .eq 12, 3, [76], []), (.iload 5, 2, [5], []), (.iload_n 3, 1, [3], []), (.if_icmp .lt 6, 3, [76], []), (.goto 9, 3, [82], [])]
theorem lb_X12_cheaper : B_X12_cheaper.all (fun b => lst y_X12_cheaper.2.1 12 y_X12_cheaper.2.2.1 false b.1 b.2) = true := by decide +kernel
theorem ls_X12_cheaper_0 : lst y_X12_cheaper.2.1 12 y_X12_cheaper.2.2.1 false 0 S_X12_cheaper_0 = true := by decide +kernel
theorem ls_X12_cheaper_27 : lst y_X12_cheaper.2.1 12 y_X12_cheaper.2.2.1 false 27 S_X12_cheaper_27 = true := by decide +kernel
def C_X12_cheaper (N : Nat) : Nat → List Value → mH → (Option Value → mH → Option (Int32 × mH)) → Option (Int32 × mH) := fun j as g k => kb j 247 (pr1 as fun b0 as => pp1 as fun b1 as => pe as ((f_X12_isBand N b0 b1 g).bind fun p => k (some (.int p.1)) p.2)) (kb j 224 (pr1 as fun b0 as => pp1 as fun b1 as => pe as ((f_X12_no N b0 b1 g).bind fun p => k (some (.int p.1)) p.2)) (kb j 252 (pr1 as fun b0 as => pp1 as fun b1 as => pe as ((f_X12_crossingsOf N b0 b1 g).bind fun p => k (some (.int p.1)) p.2)) (kb j 260 (pr1 as fun b0 as => pp1 as fun b1 as => pp1 as fun b2 as => pe as ((f_X12_rodsFor N b0 b1 b2 g).bind fun p => k (some (.int p.1)) p.2)) (none))))
theorem co_X12_cheaper (N : Nat) (q : Int32 × mH) : clOK 6 q (C_X12_cheaper N) := by
  intro j as g k e
  rcases kb_s e with ⟨rfl, e⟩ | e
  · obtain ⟨b0, r0, q0, f0⟩ := pr1_s e
    obtain ⟨b1, r1, q1, f1⟩ := pp1_s f0
    obtain ⟨qe, fe⟩ := pe_s f1
    obtain ⟨p, e1, e2⟩ := bnd_s fe
    subst qe
    subst q1
    subst q0
    exact ⟨_, _, _, _, 5, rfl, (by decide), m_X12_isBand N e1, e2⟩
  rcases kb_s e with ⟨rfl, e⟩ | e
  · obtain ⟨b0, r0, q0, f0⟩ := pr1_s e
    obtain ⟨b1, r1, q1, f1⟩ := pp1_s f0
    obtain ⟨qe, fe⟩ := pe_s f1
    obtain ⟨p, e1, e2⟩ := bnd_s fe
    subst qe
    subst q1
    subst q0
    exact ⟨_, _, _, _, 4, rfl, (by decide), m_X12_no N e1, e2⟩
  rcases kb_s e with ⟨rfl, e⟩ | e
  · obtain ⟨b0, r0, q0, f0⟩ := pr1_s e
    obtain ⟨b1, r1, q1, f1⟩ := pp1_s f0
    obtain ⟨qe, fe⟩ := pe_s f1
    obtain ⟨p, e1, e2⟩ := bnd_s fe
    subst qe
    subst q1
    subst q0
    exact ⟨_, _, _, _, 4, rfl, (by decide), m_X12_crossingsOf N e1, e2⟩
  rcases kb_s e with ⟨rfl, e⟩ | e
  · obtain ⟨b0, r0, q0, f0⟩ := pr1_s e
    obtain ⟨b1, r1, q1, f1⟩ := pp1_s f0
    obtain ⟨b2, r2, q2, f2⟩ := pp1_s f1
    obtain ⟨qe, fe⟩ := pe_s f2
    obtain ⟨p, e1, e2⟩ := bnd_s fe
    subst qe
    subst q2
    subst q1
    subst q0
    exact ⟨_, _, _, _, 5, rfl, (by decide), m_X12_rodsFor N e1, e2⟩
  cases e
set_option maxRecDepth 100000 in
theorem t_X12_cheaper_27 {X : Nat × (Nat → Int32)} (N : Nat) {q : Int32 × mH} : ∀ (n : Nat) (a0 : Nat) (x1 : Int32) (x2 : Int32) (x3 : Int32) (x4 : Int32) (h : mH), L_X12_cheaper_27 N n a0 x1 x2 x3 x4 h = some q → MW X y_X12_cheaper 6 27 [(0, .ref a0), (1, .int x1), (2, .int x2), (3, .int x3), (4, .int x4)] [] h (some (.int q.1)) q.2 := by
  intro n
  induction n with
  | zero => intro a0 x1 x2 x3 x4 h hf; cases hf
  | succ n ih =>
    intro a0 x1 x2 x3 x4 h hf
    refine ev_ok (o := 12) (ini := false) (Cl := C_X12_cheaper N) (Rc := RcI) (B := B_X12_cheaper) (K := fun pc ls st g => kb pc 27 (lgr 0 ls fun a0 => lgi 1 ls fun x1 => lgi 2 ls fun x2 => lgi 3 ls fun x3 => lgi 4 ls fun x4 => pe st (L_X12_cheaper_27 N n a0 x1 x2 x3 x4 g)) (none)) rfl (fun e => by cases e) (by decide) (rcI_ok rfl) ?_ (co_X12_cheaper N q) lb_X12_cheaper 3000 27 S_X12_cheaper_27 _ _ h ls_X12_cheaper_27 hf
    intro pc ls st g e
    rcases kb_s e with ⟨rfl, e⟩ | e
    · obtain ⟨a0, e0, f0⟩ := lgr_s e
      obtain ⟨x1, e1, f1⟩ := lgi_s f0
      obtain ⟨x2, e2, f2⟩ := lgi_s f1
      obtain ⟨x3, e3, f3⟩ := lgi_s f2
      obtain ⟨x4, e4, f4⟩ := lgi_s f3
      obtain ⟨qe, fe⟩ := pe_s f4
      subst qe
      exact MW.sub (List.forall_mem_cons.mpr ⟨lg_mem e0, List.forall_mem_cons.mpr ⟨lg_mem e1, List.forall_mem_cons.mpr ⟨lg_mem e2, List.forall_mem_cons.mpr ⟨lg_mem e3, List.forall_mem_cons.mpr ⟨lg_mem e4, fun _ h => absurd h List.not_mem_nil⟩⟩⟩⟩⟩) (ih a0 x1 x2 x3 x4 g fe)
    cases e
set_option maxRecDepth 100000 in
theorem m_X12_cheaper (N : Nat) {a0 : Nat} {x1 : Int32} {h : mH} {q : Int32 × mH} (hf : f_X12_cheaper N a0 x1 h = some q) : MM y_X12_cheaper 6 [.ref a0, .int x1] h (some (.int q.1)) q.2 := by
  refine MM.of (mFx (j := 302) rfl).2.2.2.1 (Nat.le_of_ble_eq_true rfl) (fun X => ?_)
  refine ev_ok (o := 12) (ini := false) (Cl := C_X12_cheaper N) (Rc := RcI) (B := B_X12_cheaper) (K := fun pc ls st g => kb pc 27 (lgr 0 ls fun a0 => lgi 1 ls fun x1 => lgi 2 ls fun x2 => lgi 3 ls fun x3 => lgi 4 ls fun x4 => pe st (L_X12_cheaper_27 N N a0 x1 x2 x3 x4 g)) (none)) rfl (fun e => by cases e) (by decide) (rcI_ok rfl) ?_ (co_X12_cheaper N q) lb_X12_cheaper 3000 0 S_X12_cheaper_0 _ _ h ls_X12_cheaper_0 hf
  intro pc ls st g e
  rcases kb_s e with ⟨rfl, e⟩ | e
  · obtain ⟨a0, e0, f0⟩ := lgr_s e
    obtain ⟨x1, e1, f1⟩ := lgi_s f0
    obtain ⟨x2, e2, f2⟩ := lgi_s f1
    obtain ⟨x3, e3, f3⟩ := lgi_s f2
    obtain ⟨x4, e4, f4⟩ := lgi_s f3
    obtain ⟨qe, fe⟩ := pe_s f4
    subst qe
    exact MW.sub (List.forall_mem_cons.mpr ⟨lg_mem e0, List.forall_mem_cons.mpr ⟨lg_mem e1, List.forall_mem_cons.mpr ⟨lg_mem e2, List.forall_mem_cons.mpr ⟨lg_mem e3, List.forall_mem_cons.mpr ⟨lg_mem e4, fun _ h => absurd h List.not_mem_nil⟩⟩⟩⟩⟩) (t_X12_cheaper_27 N N a0 x1 x2 x3 x4 g fe)
  cases e
def L_X12_joinsOf_40 (N : Nat) (k5 : Nat → Int32 → Int32 → Int32 → Int32 → mH → Option (Int32 × mH)) : Nat → Nat → Int32 → Int32 → Int32 → Int32 → Int32 → Int32 → mH → Option (Int32 × mH)
  | 0, _, _, _, _, _, _, _, _ => none
  | n + 1, a0, x1, x2, x3, x4, x5, x6, h =>
    if x6 < x5 then
      if x2 = 0 then
        let w1 := iAdd x3 (jI 1)
        let w2 := iAdd x6 (jI 1)
        L_X12_joinsOf_40 N k5 n a0 x1 x2 w1 x4 x5 w2 h
      else
        (rcv h 12 a0).bind fun _ =>
        (f_X12_kindOf N a0 x1 x4 h).bind fun p3 =>
        (rcv p3.2 12 a0).bind fun _ =>
        (f_X12_stepOf N a0 p3.1 p3.2).bind fun p4 =>
        (rcv p4.2 12 a0).bind fun _ =>
        (f_X12_isOver N a0 x1 x4 (iMul x6 p4.1) p4.2).bind fun p5 =>
        if p5.1 = 0 then
          let w6 := iAdd x3 (jI 0)
          let w7 := iAdd x6 (jI 1)
          L_X12_joinsOf_40 N k5 n a0 x1 x2 w6 x4 x5 w7 p5.2
        else
          let w8 := iAdd x3 (jI 1)
          let w9 := iAdd x6 (jI 1)
          L_X12_joinsOf_40 N k5 n a0 x1 x2 w8 x4 x5 w9 p5.2
    else
      let w10 := iAdd x4 (jI 1)
      k5 a0 x1 x2 x3 w10 h
def L_X12_joinsOf_5 (N : Nat) : Nat → Nat → Int32 → Int32 → Int32 → Int32 → mH → Option (Int32 × mH)
  | 0, _, _, _, _, _, _ => none
  | n + 1, a0, x1, x2, x3, x4, h =>
    (gR h 12 a0 2).bind fun v1 =>
    (ldI 0 h v1 (iAdd (jI 27) x1)).bind fun v2 =>
    if x4 < v2 then
      (rcv h 12 a0).bind fun _ =>
      (f_X12_kindOf N a0 x1 x4 h).bind fun p3 =>
      (rcv p3.2 12 a0).bind fun _ =>
      (f_X12_crossingsOf N a0 x1 p3.2).bind fun p4 =>
      (rcv p4.2 12 a0).bind fun _ =>
      (f_X12_rodsFor N a0 p3.1 p4.1 p4.2).bind fun p5 =>
      L_X12_joinsOf_40 N (L_X12_joinsOf_5 N n) N a0 x1 x2 x3 x4 p5.1 (jI 1) p5.2
    else
      some (x3, h)
def f_X12_joinsOf (N : Nat) (a0 : Nat) (x1 : Int32) (x2 : Int32) (h : mH) : Option (Int32 × mH) :=
  L_X12_joinsOf_5 N N a0 x1 x2 (jI 0) (jI 0) h
def y_X12_joinsOf : mM := (yX12_joinsOf, cX12_joinsOf, 7, (some .int))
def B_X12_joinsOf : List (Nat × List mI) := [(76, [(.iconst 1, 1, [], [1]), (.goto 4, 3, [81], [])]), (80, [(.iconst 0, 1, [], [0])]), (81, [(.iadd, 1, [], []), (.istore_n 3, 1, [3], []), (.iinc 6 1, 3, [6], [1]), (.goto (-46), 3, [40], [])]), (89, [(.iinc 4 1, 3, [4], [1]), (.goto (-87), 3, [5], [])]), (95, [(.iload_n 3, 1, [3], []), (.ireturn, 1, [], [])])]
def S_X12_joinsOf_0 : List mI := [(.iconst 0, 1, [], [0]), (.istore_n 3, 1, [3], []), (.iconst 0, 1, [], [0]), (.istore 4, 2, [4], [])]
def S_X12_joinsOf_5 : List mI := [(.iload 4, 2, [4], []), (.aload_n 0, 1, [0], []), (.getfield 17, 3, [12, 2, 2, 128], []), (.bipush 27, 2, [], [27]), (.iload_n 1, 1, [1], []), (.iadd, 1, [], []), (.iaload, 1, [0], []), (.if_icmp .ge 79, 3, [95], []), (.aload_n 0, 1, [0], []), (.aload_n 0, 1, [0], []), (.iload_n 1, 1, [1], []), (.iload 4, 2, [4], []), (.invokevirtual 207, 3, [0, 261, 2, 12, 296], []), (.aload_n 0, 1, [0], []), (.iload_n 1, 1, [1], []), (.invokevirtual 198, 3, [0, 252, 1, 12, 294], []), (.invokevirtual 210, 3, [0, 260, 2, 12, 298], []), (.istore 5, 2, [5], []), (.iconst 1, 1, [], [1]), (.istore 6, 2, [6], [])]
def S_X12_joinsOf_40 : List mI := [(.iload 6, 2, [6], []), (.iload 5, 2, [5], []), (.if_icmp .ge 45, 3, [89], []), (.iload_n 3, 1, [3], []), (.iload_n 2, 1, [2], []), (.ifCond .eq 27, 3, [76], []), (.aload_n 0, 1, [0], []), (.iload_n 1, 1, [1], []), (.iload 4, 2, [4], []), (.iload 6, 2, [6], []), (.aload_n 0, 1, [0], []), (.aload_n 0, 1, [0], []), (.iload_n 1, 1, [1], []), (.iload 4, 2, [4], []), (.invokevirtual 207, 3, [0, 261, 2, 12, 296], []), (.invokevirtual 204, 3, [0, 259, 1, 12, 297], []), (.imul, 1, [], []), (.invokevirtual 225, 3, [0, 256, 3, 12, 301], []), (.ifCond .eq 7, 3, [80], [])]
theorem lb_X12_joinsOf : B_X12_joinsOf.all (fun b => lst y_X12_joinsOf.2.1 12 y_X12_joinsOf.2.2.1 false b.1 b.2) = true := by decide +kernel
theorem ls_X12_joinsOf_0 : lst y_X12_joinsOf.2.1 12 y_X12_joinsOf.2.2.1 false 0 S_X12_joinsOf_0 = true := by decide +kernel
theorem ls_X12_joinsOf_5 : lst y_X12_joinsOf.2.1 12 y_X12_joinsOf.2.2.1 false 5 S_X12_joinsOf_5 = true := by decide +kernel
theorem ls_X12_joinsOf_40 : lst y_X12_joinsOf.2.1 12 y_X12_joinsOf.2.2.1 false 40 S_X12_joinsOf_40 = true := by decide +kernel
def C_X12_joinsOf (N : Nat) : Nat → List Value → mH → (Option Value → mH → Option (Int32 × mH)) → Option (Int32 × mH) := fun j as g k => kb j 261 (pr1 as fun b0 as => pp1 as fun b1 as => pp1 as fun b2 as => pe as ((f_X12_kindOf N b0 b1 b2 g).bind fun p => k (some (.int p.1)) p.2)) (kb j 252 (pr1 as fun b0 as => pp1 as fun b1 as => pe as ((f_X12_crossingsOf N b0 b1 g).bind fun p => k (some (.int p.1)) p.2)) (kb j 260 (pr1 as fun b0 as => pp1 as fun b1 as => pp1 as fun b2 as => pe as ((f_X12_rodsFor N b0 b1 b2 g).bind fun p => k (some (.int p.1)) p.2)) (kb j 259 (pr1 as fun b0 as => pp1 as fun b1 as => pe as ((f_X12_stepOf N b0 b1 g).bind fun p => k (some (.int p.1)) p.2)) (kb j 256 (pr1 as fun b0 as => pp1 as fun b1 as => pp1 as fun b2 as => pp1 as fun b3 as => pe as ((f_X12_isOver N b0 b1 b2 b3 g).bind fun p => k (some (.int p.1)) p.2)) (none)))))
theorem co_X12_joinsOf (N : Nat) (q : Int32 × mH) : clOK 6 q (C_X12_joinsOf N) := by
  intro j as g k e
  rcases kb_s e with ⟨rfl, e⟩ | e
  · obtain ⟨b0, r0, q0, f0⟩ := pr1_s e
    obtain ⟨b1, r1, q1, f1⟩ := pp1_s f0
    obtain ⟨b2, r2, q2, f2⟩ := pp1_s f1
    obtain ⟨qe, fe⟩ := pe_s f2
    obtain ⟨p, e1, e2⟩ := bnd_s fe
    subst qe
    subst q2
    subst q1
    subst q0
    exact ⟨_, _, _, _, 4, rfl, (by decide), m_X12_kindOf N e1, e2⟩
  rcases kb_s e with ⟨rfl, e⟩ | e
  · obtain ⟨b0, r0, q0, f0⟩ := pr1_s e
    obtain ⟨b1, r1, q1, f1⟩ := pp1_s f0
    obtain ⟨qe, fe⟩ := pe_s f1
    obtain ⟨p, e1, e2⟩ := bnd_s fe
    subst qe
    subst q1
    subst q0
    exact ⟨_, _, _, _, 4, rfl, (by decide), m_X12_crossingsOf N e1, e2⟩
  rcases kb_s e with ⟨rfl, e⟩ | e
  · obtain ⟨b0, r0, q0, f0⟩ := pr1_s e
    obtain ⟨b1, r1, q1, f1⟩ := pp1_s f0
    obtain ⟨b2, r2, q2, f2⟩ := pp1_s f1
    obtain ⟨qe, fe⟩ := pe_s f2
    obtain ⟨p, e1, e2⟩ := bnd_s fe
    subst qe
    subst q2
    subst q1
    subst q0
    exact ⟨_, _, _, _, 5, rfl, (by decide), m_X12_rodsFor N e1, e2⟩
  rcases kb_s e with ⟨rfl, e⟩ | e
  · obtain ⟨b0, r0, q0, f0⟩ := pr1_s e
    obtain ⟨b1, r1, q1, f1⟩ := pp1_s f0
    obtain ⟨qe, fe⟩ := pe_s f1
    obtain ⟨p, e1, e2⟩ := bnd_s fe
    subst qe
    subst q1
    subst q0
    exact ⟨_, _, _, _, 4, rfl, (by decide), m_X12_stepOf N e1, e2⟩
  rcases kb_s e with ⟨rfl, e⟩ | e
  · obtain ⟨b0, r0, q0, f0⟩ := pr1_s e
    obtain ⟨b1, r1, q1, f1⟩ := pp1_s f0
    obtain ⟨b2, r2, q2, f2⟩ := pp1_s f1
    obtain ⟨b3, r3, q3, f3⟩ := pp1_s f2
    obtain ⟨qe, fe⟩ := pe_s f3
    obtain ⟨p, e1, e2⟩ := bnd_s fe
    subst qe
    subst q3
    subst q2
    subst q1
    subst q0
    exact ⟨_, _, _, _, 5, rfl, (by decide), m_X12_isOver N e1, e2⟩
  cases e
set_option maxRecDepth 100000 in
theorem t_X12_joinsOf_40 {X : Nat × (Nat → Int32)} (N : Nat) {q : Int32 × mH} {k5 : Nat → Int32 → Int32 → Int32 → Int32 → mH → Option (Int32 × mH)} (hk5 : ∀ (a0 : Nat) (x1 : Int32) (x2 : Int32) (x3 : Int32) (x4 : Int32) g, k5 a0 x1 x2 x3 x4 g = some q → MW X y_X12_joinsOf 6 5 [(0, .ref a0), (1, .int x1), (2, .int x2), (3, .int x3), (4, .int x4)] [] g (some (.int q.1)) q.2) : ∀ (n : Nat) (a0 : Nat) (x1 : Int32) (x2 : Int32) (x3 : Int32) (x4 : Int32) (x5 : Int32) (x6 : Int32) (h : mH), L_X12_joinsOf_40 N k5 n a0 x1 x2 x3 x4 x5 x6 h = some q → MW X y_X12_joinsOf 6 40 [(0, .ref a0), (1, .int x1), (2, .int x2), (3, .int x3), (4, .int x4), (5, .int x5), (6, .int x6)] [] h (some (.int q.1)) q.2 := by
  intro n
  induction n with
  | zero => intro a0 x1 x2 x3 x4 x5 x6 h hf; cases hf
  | succ n ih =>
    intro a0 x1 x2 x3 x4 x5 x6 h hf
    refine ev_ok (o := 12) (ini := false) (Cl := C_X12_joinsOf N) (Rc := RcI) (B := B_X12_joinsOf) (K := fun pc ls st g => kb pc 5 (lgr 0 ls fun a0 => lgi 1 ls fun x1 => lgi 2 ls fun x2 => lgi 3 ls fun x3 => lgi 4 ls fun x4 => pe st (k5 a0 x1 x2 x3 x4 g)) (kb pc 40 (lgr 0 ls fun a0 => lgi 1 ls fun x1 => lgi 2 ls fun x2 => lgi 3 ls fun x3 => lgi 4 ls fun x4 => lgi 5 ls fun x5 => lgi 6 ls fun x6 => pe st (L_X12_joinsOf_40 N k5 n a0 x1 x2 x3 x4 x5 x6 g)) (none))) rfl (fun e => by cases e) (by decide) (rcI_ok rfl) ?_ (co_X12_joinsOf N q) lb_X12_joinsOf 3000 40 S_X12_joinsOf_40 _ _ h ls_X12_joinsOf_40 hf
    intro pc ls st g e
    rcases kb_s e with ⟨rfl, e⟩ | e
    · obtain ⟨a0, e0, f0⟩ := lgr_s e
      obtain ⟨x1, e1, f1⟩ := lgi_s f0
      obtain ⟨x2, e2, f2⟩ := lgi_s f1
      obtain ⟨x3, e3, f3⟩ := lgi_s f2
      obtain ⟨x4, e4, f4⟩ := lgi_s f3
      obtain ⟨qe, fe⟩ := pe_s f4
      subst qe
      exact MW.sub (List.forall_mem_cons.mpr ⟨lg_mem e0, List.forall_mem_cons.mpr ⟨lg_mem e1, List.forall_mem_cons.mpr ⟨lg_mem e2, List.forall_mem_cons.mpr ⟨lg_mem e3, List.forall_mem_cons.mpr ⟨lg_mem e4, fun _ h => absurd h List.not_mem_nil⟩⟩⟩⟩⟩) (hk5 a0 x1 x2 x3 x4 g fe)
    rcases kb_s e with ⟨rfl, e⟩ | e
    · obtain ⟨a0, e0, f0⟩ := lgr_s e
      obtain ⟨x1, e1, f1⟩ := lgi_s f0
      obtain ⟨x2, e2, f2⟩ := lgi_s f1
      obtain ⟨x3, e3, f3⟩ := lgi_s f2
      obtain ⟨x4, e4, f4⟩ := lgi_s f3
      obtain ⟨x5, e5, f5⟩ := lgi_s f4
      obtain ⟨x6, e6, f6⟩ := lgi_s f5
      obtain ⟨qe, fe⟩ := pe_s f6
      subst qe
      exact MW.sub (List.forall_mem_cons.mpr ⟨lg_mem e0, List.forall_mem_cons.mpr ⟨lg_mem e1, List.forall_mem_cons.mpr ⟨lg_mem e2, List.forall_mem_cons.mpr ⟨lg_mem e3, List.forall_mem_cons.mpr ⟨lg_mem e4, List.forall_mem_cons.mpr ⟨lg_mem e5, List.forall_mem_cons.mpr ⟨lg_mem e6, fun _ h => absurd h List.not_mem_nil⟩⟩⟩⟩⟩⟩⟩) (ih a0 x1 x2 x3 x4 x5 x6 g fe)
    cases e
set_option maxRecDepth 100000 in
theorem t_X12_joinsOf_5 {X : Nat × (Nat → Int32)} (N : Nat) {q : Int32 × mH} : ∀ (n : Nat) (a0 : Nat) (x1 : Int32) (x2 : Int32) (x3 : Int32) (x4 : Int32) (h : mH), L_X12_joinsOf_5 N n a0 x1 x2 x3 x4 h = some q → MW X y_X12_joinsOf 6 5 [(0, .ref a0), (1, .int x1), (2, .int x2), (3, .int x3), (4, .int x4)] [] h (some (.int q.1)) q.2 := by
  intro n
  induction n with
  | zero => intro a0 x1 x2 x3 x4 h hf; cases hf
  | succ n ih =>
    intro a0 x1 x2 x3 x4 h hf
    refine ev_ok (o := 12) (ini := false) (Cl := C_X12_joinsOf N) (Rc := RcI) (B := B_X12_joinsOf) (K := fun pc ls st g => kb pc 40 (lgr 0 ls fun a0 => lgi 1 ls fun x1 => lgi 2 ls fun x2 => lgi 3 ls fun x3 => lgi 4 ls fun x4 => lgi 5 ls fun x5 => lgi 6 ls fun x6 => pe st (L_X12_joinsOf_40 N (L_X12_joinsOf_5 N n) N a0 x1 x2 x3 x4 x5 x6 g)) (none)) rfl (fun e => by cases e) (by decide) (rcI_ok rfl) ?_ (co_X12_joinsOf N q) lb_X12_joinsOf 3000 5 S_X12_joinsOf_5 _ _ h ls_X12_joinsOf_5 hf
    intro pc ls st g e
    rcases kb_s e with ⟨rfl, e⟩ | e
    · obtain ⟨a0, e0, f0⟩ := lgr_s e
      obtain ⟨x1, e1, f1⟩ := lgi_s f0
      obtain ⟨x2, e2, f2⟩ := lgi_s f1
      obtain ⟨x3, e3, f3⟩ := lgi_s f2
      obtain ⟨x4, e4, f4⟩ := lgi_s f3
      obtain ⟨x5, e5, f5⟩ := lgi_s f4
      obtain ⟨x6, e6, f6⟩ := lgi_s f5
      obtain ⟨qe, fe⟩ := pe_s f6
      subst qe
      exact MW.sub (List.forall_mem_cons.mpr ⟨lg_mem e0, List.forall_mem_cons.mpr ⟨lg_mem e1, List.forall_mem_cons.mpr ⟨lg_mem e2, List.forall_mem_cons.mpr ⟨lg_mem e3, List.forall_mem_cons.mpr ⟨lg_mem e4, List.forall_mem_cons.mpr ⟨lg_mem e5, List.forall_mem_cons.mpr ⟨lg_mem e6, fun _ h => absurd h List.not_mem_nil⟩⟩⟩⟩⟩⟩⟩) (t_X12_joinsOf_40 N (fun a0 x1 x2 x3 x4 g e => ih a0 x1 x2 x3 x4 g e) N a0 x1 x2 x3 x4 x5 x6 g fe)
    cases e
set_option maxRecDepth 100000 in
theorem m_X12_joinsOf (N : Nat) {a0 : Nat} {x1 : Int32} {x2 : Int32} {h : mH} {q : Int32 × mH} (hf : f_X12_joinsOf N a0 x1 x2 h = some q) : MM y_X12_joinsOf 6 [.ref a0, .int x1, .int x2] h (some (.int q.1)) q.2 := by
  refine MM.of (mFx (j := 303) rfl).2.2.2.1 (Nat.le_of_ble_eq_true rfl) (fun X => ?_)
  refine ev_ok (o := 12) (ini := false) (Cl := C_X12_joinsOf N) (Rc := RcI) (B := B_X12_joinsOf) (K := fun pc ls st g => kb pc 5 (lgr 0 ls fun a0 => lgi 1 ls fun x1 => lgi 2 ls fun x2 => lgi 3 ls fun x3 => lgi 4 ls fun x4 => pe st (L_X12_joinsOf_5 N N a0 x1 x2 x3 x4 g)) (none)) rfl (fun e => by cases e) (by decide) (rcI_ok rfl) ?_ (co_X12_joinsOf N q) lb_X12_joinsOf 3000 0 S_X12_joinsOf_0 _ _ h ls_X12_joinsOf_0 hf
  intro pc ls st g e
  rcases kb_s e with ⟨rfl, e⟩ | e
  · obtain ⟨a0, e0, f0⟩ := lgr_s e
    obtain ⟨x1, e1, f1⟩ := lgi_s f0
    obtain ⟨x2, e2, f2⟩ := lgi_s f1
    obtain ⟨x3, e3, f3⟩ := lgi_s f2
    obtain ⟨x4, e4, f4⟩ := lgi_s f3
    obtain ⟨qe, fe⟩ := pe_s f4
    subst qe
    exact MW.sub (List.forall_mem_cons.mpr ⟨lg_mem e0, List.forall_mem_cons.mpr ⟨lg_mem e1, List.forall_mem_cons.mpr ⟨lg_mem e2, List.forall_mem_cons.mpr ⟨lg_mem e3, List.forall_mem_cons.mpr ⟨lg_mem e4, fun _ h => absurd h List.not_mem_nil⟩⟩⟩⟩⟩) (t_X12_joinsOf_5 N N a0 x1 x2 x3 x4 g fe)
  cases e
def f_X12_joins (N : Nat) (a0 : Nat) (x1 : Int32) (x2 : Int32) (h : mH) : Option (Int32 × mH) :=
  (pV h 12 a0 0 (.int (jI 0))).bind fun h1 =>
  (rcv h1 12 a0).bind fun _ =>
  (f_X12_isBand N a0 x1 h1).bind fun p2 =>
  if p2.1 = 0 then
    (rcv p2.2 12 a0).bind fun _ =>
    (f_X12_no N a0 (jI (-2)) p2.2).bind fun p3 =>
    some (p3.1, p3.2)
  else
    (rcv p2.2 12 a0).bind fun _ =>
    (f_X12_joinsOf N a0 x1 x2 p2.2).bind fun p4 =>
    some (p4.1, p4.2)
def y_X12_joins : mM := (yX12_joins, cX12_joins, 3, (some .int))
def B_X12_joins : List (Nat × List mI) := [(22, [(.aload_n 0, 1, [0], []), (.bipush (-2), 2, [], [-2]), (.invokevirtual 84, 3, [0, 224, 1, 12, 267], [])]), (28, [(.ireturn, 1, [], [])])]
def S_X12_joins_0 : List mI := [(.aload_n 0, 1, [0], []), (.iconst 0, 1, [], [0]), (.putfield 1, 3, [12, 0, 0, 126], []), (.aload_n 0, 1, [0], []), (.iload_n 1, 1, [1], []), (.invokevirtual 181, 3, [0, 247, 1, 12, 289], []), (.ifCond .eq 12, 3, [22], []), (.aload_n 0, 1, [0], []), (.iload_n 1, 1, [1], []), (.iload_n 2, 1, [2], []), (.invokevirtual 305, 3, [0, 303, 2, 12, 344], []), (.goto 9, 3, [28], [])]
theorem lb_X12_joins : B_X12_joins.all (fun b => lst y_X12_joins.2.1 12 y_X12_joins.2.2.1 false b.1 b.2) = true := by decide +kernel
theorem ls_X12_joins_0 : lst y_X12_joins.2.1 12 y_X12_joins.2.2.1 false 0 S_X12_joins_0 = true := by decide +kernel
def C_X12_joins (N : Nat) : Nat → List Value → mH → (Option Value → mH → Option (Int32 × mH)) → Option (Int32 × mH) := fun j as g k => kb j 247 (pr1 as fun b0 as => pp1 as fun b1 as => pe as ((f_X12_isBand N b0 b1 g).bind fun p => k (some (.int p.1)) p.2)) (kb j 303 (pr1 as fun b0 as => pp1 as fun b1 as => pp1 as fun b2 as => pe as ((f_X12_joinsOf N b0 b1 b2 g).bind fun p => k (some (.int p.1)) p.2)) (kb j 224 (pr1 as fun b0 as => pp1 as fun b1 as => pe as ((f_X12_no N b0 b1 g).bind fun p => k (some (.int p.1)) p.2)) (none)))
theorem co_X12_joins (N : Nat) (q : Int32 × mH) : clOK 7 q (C_X12_joins N) := by
  intro j as g k e
  rcases kb_s e with ⟨rfl, e⟩ | e
  · obtain ⟨b0, r0, q0, f0⟩ := pr1_s e
    obtain ⟨b1, r1, q1, f1⟩ := pp1_s f0
    obtain ⟨qe, fe⟩ := pe_s f1
    obtain ⟨p, e1, e2⟩ := bnd_s fe
    subst qe
    subst q1
    subst q0
    exact ⟨_, _, _, _, 5, rfl, (by decide), m_X12_isBand N e1, e2⟩
  rcases kb_s e with ⟨rfl, e⟩ | e
  · obtain ⟨b0, r0, q0, f0⟩ := pr1_s e
    obtain ⟨b1, r1, q1, f1⟩ := pp1_s f0
    obtain ⟨b2, r2, q2, f2⟩ := pp1_s f1
    obtain ⟨qe, fe⟩ := pe_s f2
    obtain ⟨p, e1, e2⟩ := bnd_s fe
    subst qe
    subst q2
    subst q1
    subst q0
    exact ⟨_, _, _, _, 6, rfl, (by decide), m_X12_joinsOf N e1, e2⟩
  rcases kb_s e with ⟨rfl, e⟩ | e
  · obtain ⟨b0, r0, q0, f0⟩ := pr1_s e
    obtain ⟨b1, r1, q1, f1⟩ := pp1_s f0
    obtain ⟨qe, fe⟩ := pe_s f1
    obtain ⟨p, e1, e2⟩ := bnd_s fe
    subst qe
    subst q1
    subst q0
    exact ⟨_, _, _, _, 4, rfl, (by decide), m_X12_no N e1, e2⟩
  cases e
set_option maxRecDepth 100000 in
theorem m_X12_joins (N : Nat) {a0 : Nat} {x1 : Int32} {x2 : Int32} {h : mH} {q : Int32 × mH} (hf : f_X12_joins N a0 x1 x2 h = some q) : MM y_X12_joins 7 [.ref a0, .int x1, .int x2] h (some (.int q.1)) q.2 := by
  refine MM.of (mFx (j := 304) rfl).2.2.2.1 (Nat.le_of_ble_eq_true rfl) (fun X => ?_)
  refine ev_ok (o := 12) (ini := false) (Cl := C_X12_joins N) (Rc := RcI) (B := B_X12_joins) (K := fun pc ls st g => none) rfl (fun e => by cases e) (by decide) (rcI_ok rfl) ?_ (co_X12_joins N q) lb_X12_joins 3000 0 S_X12_joins_0 _ _ h ls_X12_joins_0 hf
  intro pc ls st g e
  cases e
def L_X12_hide_48 (N : Nat) : Nat → Nat → Int32 → Int32 → Int32 → Int32 → Int32 → Int32 → mH → Option (Int32 × mH)
  | 0, _, _, _, _, _, _, _, _ => none
  | n + 1, a0, x1, x2, x3, x4, x5, x6, h =>
    if x6 < (jI 21) then
      (gR h 12 a0 2).bind fun v1 =>
      (stI 0 h v1 (jI 140) x6).bind fun h2 =>
      (rcv h2 12 a0).bind fun _ =>
      (f_X12_joinsOf N a0 x1 (jI 1) h2).bind fun p3 =>
      if x5 = (jI (-1)) then
        let w4 := iAdd x6 (jI 1)
        L_X12_hide_48 N n a0 x1 x2 x3 x6 p3.1 w4 p3.2
      else
        if p3.1 < x5 then
          let w5 := iAdd x6 (jI 1)
          L_X12_hide_48 N n a0 x1 x2 x3 x6 p3.1 w5 p3.2
        else
          let w6 := iAdd x6 (jI 1)
          L_X12_hide_48 N n a0 x1 x2 x3 x4 x5 w6 p3.2
    else
      (gR h 12 a0 2).bind fun v7 =>
      (stI 0 h v7 (jI 140) x3).bind fun h8 =>
      if x2 = 0 then
        some (x4, h8)
      else
        some (x5, h8)
def f_X12_hide (N : Nat) (a0 : Nat) (x1 : Int32) (x2 : Int32) (h : mH) : Option (Int32 × mH) :=
  (pV h 12 a0 0 (.int (jI 0))).bind fun h1 =>
  (rcv h1 12 a0).bind fun _ =>
  (f_X12_isBand N a0 x1 h1).bind fun p2 =>
  if p2.1 = 0 then
    (rcv p2.2 12 a0).bind fun _ =>
    (f_X12_no N a0 (jI (-2)) p2.2).bind fun p3 =>
    some (p3.1, p3.2)
  else
    (f_X12_within N x2.toInt64 (jL 0) (jL 1) p2.2).bind fun p4 =>
    if p4.1 = 0 then
      (rcv p4.2 12 a0).bind fun _ =>
      (f_X12_no N a0 (jI (-2)) p4.2).bind fun p5 =>
      some (p5.1, p5.2)
    else
      (gR p4.2 12 a0 2).bind fun v6 =>
      (ldI 0 p4.2 v6 (jI 140)).bind fun v7 =>
      L_X12_hide_48 N N a0 x1 x2 v7 (jI 0) (jI (-1)) (jI 0) p4.2
def y_X12_hide : mM := (yX12_hide, cX12_hide, 8, (some .int))
def B_X12_hide : List (Nat × List mI) := [(23, [(.aload_n 0, 1, [0], []), (.bipush (-2), 2, [], [-2]), (.invokevirtual 84, 3, [0, 224, 1, 12, 267], []), (.ireturn, 1, [], [])]), (30, [(.aload_n 0, 1, [0], []), (.getfield 17, 3, [12, 2, 2, 128], []), (.sipush 140, 3, [], [140]), (.iaload, 1, [0], []), (.istore_n 3, 1, [3], []), (.iconst 0, 1, [], [0]), (.istore 4, 2, [4], []), (.iconst (-1), 1, [], [-1]), (.istore 5, 2, [5], []), (.iconst 0, 1, [], [0]), (.istore 6, 2, [6], [])]), (89, [(.iload 7, 2, [7], []), (.istore 5, 2, [5], []), (.iload 6, 2, [6], []), (.istore 4, 2, [4], [])]), (97, [(.iinc 6 1, 3, [6], [1]), (.goto (-52), 3, [48], [])]), (103, [(.aload_n 0, 1, [0], []), (.getfield 17, 3, [12, 2, 2, 128], []), (.sipush 140, 3, [], [140]), (.iload_n 3, 1, [3], []), (.iastore, 1, [], []), (.iload_n 2, 1, [2], []), (.ifCond .ne 8, 3, [121], []), (.iload 4, 2, [4], []), (.goto 5, 3, [123], [])]), (121, [(.iload 5, 2, [5], [])]), (123, [(.ireturn, 1, [], [])])]
def S_X12_hide_0 : List mI := [(.aload_n 0, 1, [0], []), (.iconst 0, 1, [], [0]), (.putfield 1, 3, [12, 0, 0, 126], []), (.aload_n 0, 1, [0], []), (.iload_n 1, 1, [1], []), (.invokevirtual 181, 3, [0, 247, 1, 12, 289], []), (.ifCond .eq 13, 3, [23], []), (.iload_n 2, 1, [2], []), (.i2l, 1, [], []), (.lconst 0, 1, [], [0]), (.lconst 1, 1, [], [1]), (.invokestatic 147, 3, [1, 225, 3, 0, 269], []), (.ifCond .ne 10, 3, [30], [])]
def S_X12_hide_48 : List mI := [(.iload 6, 2, [6], []), (.bipush 21, 2, [], [21]), (.if_icmp .ge 51, 3, [103], []), (.aload_n 0, 1, [0], []), (.getfield 17, 3, [12, 2, 2, 128], []), (.sipush 140, 3, [], [140]), (.iload 6, 2, [6], []), (.iastore, 1, [], []), (.aload_n 0, 1, [0], []), (.iload_n 1, 1, [1], []), (.iconst 1, 1, [], [1]), (.invokevirtual 305, 3, [0, 303, 2, 12, 344], []), (.istore 7, 2, [7], []), (.iload 5, 2, [5], []), (.iconst (-1), 1, [], [-1]), (.if_icmp .eq 13, 3, [89], []), (.iload 7, 2, [7], []), (.iload 5, 2, [5], []), (.if_icmp .lt 6, 3, [89], []), (.goto 11, 3, [97], [])]
theorem lb_X12_hide : B_X12_hide.all (fun b => lst y_X12_hide.2.1 12 y_X12_hide.2.2.1 false b.1 b.2) = true := by decide +kernel
theorem ls_X12_hide_0 : lst y_X12_hide.2.1 12 y_X12_hide.2.2.1 false 0 S_X12_hide_0 = true := by decide +kernel
theorem ls_X12_hide_48 : lst y_X12_hide.2.1 12 y_X12_hide.2.2.1 false 48 S_X12_hide_48 = true := by decide +kernel
def C_X12_hide (N : Nat) : Nat → List Value → mH → (Option Value → mH → Option (Int32 × mH)) → Option (Int32 × mH) := fun j as g k => kb j 247 (pr1 as fun b0 as => pp1 as fun b1 as => pe as ((f_X12_isBand N b0 b1 g).bind fun p => k (some (.int p.1)) p.2)) (kb j 225 (pl1 as fun b0 as => pl1 as fun b1 as => pl1 as fun b2 as => pe as ((f_X12_within N b0 b1 b2 g).bind fun p => k (some (.int p.1)) p.2)) (kb j 224 (pr1 as fun b0 as => pp1 as fun b1 as => pe as ((f_X12_no N b0 b1 g).bind fun p => k (some (.int p.1)) p.2)) (kb j 303 (pr1 as fun b0 as => pp1 as fun b1 as => pp1 as fun b2 as => pe as ((f_X12_joinsOf N b0 b1 b2 g).bind fun p => k (some (.int p.1)) p.2)) (none))))
theorem co_X12_hide (N : Nat) (q : Int32 × mH) : clOK 7 q (C_X12_hide N) := by
  intro j as g k e
  rcases kb_s e with ⟨rfl, e⟩ | e
  · obtain ⟨b0, r0, q0, f0⟩ := pr1_s e
    obtain ⟨b1, r1, q1, f1⟩ := pp1_s f0
    obtain ⟨qe, fe⟩ := pe_s f1
    obtain ⟨p, e1, e2⟩ := bnd_s fe
    subst qe
    subst q1
    subst q0
    exact ⟨_, _, _, _, 5, rfl, (by decide), m_X12_isBand N e1, e2⟩
  rcases kb_s e with ⟨rfl, e⟩ | e
  · obtain ⟨b0, r0, q0, f0⟩ := pl1_s e
    obtain ⟨b1, r1, q1, f1⟩ := pl1_s f0
    obtain ⟨b2, r2, q2, f2⟩ := pl1_s f1
    obtain ⟨qe, fe⟩ := pe_s f2
    obtain ⟨p, e1, e2⟩ := bnd_s fe
    subst qe
    subst q2
    subst q1
    subst q0
    exact ⟨_, _, _, _, 4, rfl, (by decide), m_X12_within N e1, e2⟩
  rcases kb_s e with ⟨rfl, e⟩ | e
  · obtain ⟨b0, r0, q0, f0⟩ := pr1_s e
    obtain ⟨b1, r1, q1, f1⟩ := pp1_s f0
    obtain ⟨qe, fe⟩ := pe_s f1
    obtain ⟨p, e1, e2⟩ := bnd_s fe
    subst qe
    subst q1
    subst q0
    exact ⟨_, _, _, _, 4, rfl, (by decide), m_X12_no N e1, e2⟩
  rcases kb_s e with ⟨rfl, e⟩ | e
  · obtain ⟨b0, r0, q0, f0⟩ := pr1_s e
    obtain ⟨b1, r1, q1, f1⟩ := pp1_s f0
    obtain ⟨b2, r2, q2, f2⟩ := pp1_s f1
    obtain ⟨qe, fe⟩ := pe_s f2
    obtain ⟨p, e1, e2⟩ := bnd_s fe
    subst qe
    subst q2
    subst q1
    subst q0
    exact ⟨_, _, _, _, 6, rfl, (by decide), m_X12_joinsOf N e1, e2⟩
  cases e
set_option maxRecDepth 100000 in
theorem t_X12_hide_48 {X : Nat × (Nat → Int32)} (N : Nat) {q : Int32 × mH} : ∀ (n : Nat) (a0 : Nat) (x1 : Int32) (x2 : Int32) (x3 : Int32) (x4 : Int32) (x5 : Int32) (x6 : Int32) (h : mH), L_X12_hide_48 N n a0 x1 x2 x3 x4 x5 x6 h = some q → MW X y_X12_hide 7 48 [(0, .ref a0), (1, .int x1), (2, .int x2), (3, .int x3), (4, .int x4), (5, .int x5), (6, .int x6)] [] h (some (.int q.1)) q.2 := by
  intro n
  induction n with
  | zero => intro a0 x1 x2 x3 x4 x5 x6 h hf; cases hf
  | succ n ih =>
    intro a0 x1 x2 x3 x4 x5 x6 h hf
    refine ev_ok (o := 12) (ini := false) (Cl := C_X12_hide N) (Rc := RcI) (B := B_X12_hide) (K := fun pc ls st g => kb pc 48 (lgr 0 ls fun a0 => lgi 1 ls fun x1 => lgi 2 ls fun x2 => lgi 3 ls fun x3 => lgi 4 ls fun x4 => lgi 5 ls fun x5 => lgi 6 ls fun x6 => pe st (L_X12_hide_48 N n a0 x1 x2 x3 x4 x5 x6 g)) (none)) rfl (fun e => by cases e) (by decide) (rcI_ok rfl) ?_ (co_X12_hide N q) lb_X12_hide 3000 48 S_X12_hide_48 _ _ h ls_X12_hide_48 hf
    intro pc ls st g e
    rcases kb_s e with ⟨rfl, e⟩ | e
    · obtain ⟨a0, e0, f0⟩ := lgr_s e
      obtain ⟨x1, e1, f1⟩ := lgi_s f0
      obtain ⟨x2, e2, f2⟩ := lgi_s f1
      obtain ⟨x3, e3, f3⟩ := lgi_s f2
      obtain ⟨x4, e4, f4⟩ := lgi_s f3
      obtain ⟨x5, e5, f5⟩ := lgi_s f4
      obtain ⟨x6, e6, f6⟩ := lgi_s f5
      obtain ⟨qe, fe⟩ := pe_s f6
      subst qe
      exact MW.sub (List.forall_mem_cons.mpr ⟨lg_mem e0, List.forall_mem_cons.mpr ⟨lg_mem e1, List.forall_mem_cons.mpr ⟨lg_mem e2, List.forall_mem_cons.mpr ⟨lg_mem e3, List.forall_mem_cons.mpr ⟨lg_mem e4, List.forall_mem_cons.mpr ⟨lg_mem e5, List.forall_mem_cons.mpr ⟨lg_mem e6, fun _ h => absurd h List.not_mem_nil⟩⟩⟩⟩⟩⟩⟩) (ih a0 x1 x2 x3 x4 x5 x6 g fe)
    cases e
set_option maxRecDepth 100000 in
theorem m_X12_hide (N : Nat) {a0 : Nat} {x1 : Int32} {x2 : Int32} {h : mH} {q : Int32 × mH} (hf : f_X12_hide N a0 x1 x2 h = some q) : MM y_X12_hide 7 [.ref a0, .int x1, .int x2] h (some (.int q.1)) q.2 := by
  refine MM.of (mFx (j := 305) rfl).2.2.2.1 (Nat.le_of_ble_eq_true rfl) (fun X => ?_)
  refine ev_ok (o := 12) (ini := false) (Cl := C_X12_hide N) (Rc := RcI) (B := B_X12_hide) (K := fun pc ls st g => kb pc 48 (lgr 0 ls fun a0 => lgi 1 ls fun x1 => lgi 2 ls fun x2 => lgi 3 ls fun x3 => lgi 4 ls fun x4 => lgi 5 ls fun x5 => lgi 6 ls fun x6 => pe st (L_X12_hide_48 N N a0 x1 x2 x3 x4 x5 x6 g)) (none)) rfl (fun e => by cases e) (by decide) (rcI_ok rfl) ?_ (co_X12_hide N q) lb_X12_hide 3000 0 S_X12_hide_0 _ _ h ls_X12_hide_0 hf
  intro pc ls st g e
  rcases kb_s e with ⟨rfl, e⟩ | e
  · obtain ⟨a0, e0, f0⟩ := lgr_s e
    obtain ⟨x1, e1, f1⟩ := lgi_s f0
    obtain ⟨x2, e2, f2⟩ := lgi_s f1
    obtain ⟨x3, e3, f3⟩ := lgi_s f2
    obtain ⟨x4, e4, f4⟩ := lgi_s f3
    obtain ⟨x5, e5, f5⟩ := lgi_s f4
    obtain ⟨x6, e6, f6⟩ := lgi_s f5
    obtain ⟨qe, fe⟩ := pe_s f6
    subst qe
    exact MW.sub (List.forall_mem_cons.mpr ⟨lg_mem e0, List.forall_mem_cons.mpr ⟨lg_mem e1, List.forall_mem_cons.mpr ⟨lg_mem e2, List.forall_mem_cons.mpr ⟨lg_mem e3, List.forall_mem_cons.mpr ⟨lg_mem e4, List.forall_mem_cons.mpr ⟨lg_mem e5, List.forall_mem_cons.mpr ⟨lg_mem e6, fun _ h => absurd h List.not_mem_nil⟩⟩⟩⟩⟩⟩⟩) (t_X12_hide_48 N N a0 x1 x2 x3 x4 x5 x6 g fe)
  cases e
def L_X12_areNumbers_3 (N : Nat) : Nat → Nat → Int32 → Int32 → Int32 → Int32 → mH → Option (Int32 × mH)
  | 0, _, _, _, _, _, _ => none
  | n + 1, a0, x1, x2, x3, x4, h =>
    (gR h 12 a0 35).bind fun v1 =>
    (ldI 0 h v1 x1).bind fun v2 =>
    if x4 < v2 then
      (gR h 12 a0 36).bind fun v3 =>
      (ldL h v3 (iAdd (iMul (jI 40) x1) x4)).bind fun v4 =>
      (f_X12_within N v4 x2.toInt64 x3.toInt64 h).bind fun p5 =>
      if p5.1 = 0 then
        some (jI 0, p5.2)
      else
        let w6 := iAdd x4 (jI 1)
        L_X12_areNumbers_3 N n a0 x1 x2 x3 w6 p5.2
    else
      some (jI 1, h)
def f_X12_areNumbers (N : Nat) (a0 : Nat) (x1 : Int32) (x2 : Int32) (x3 : Int32) (h : mH) : Option (Int32 × mH) :=
  L_X12_areNumbers_3 N N a0 x1 x2 x3 (jI 0) h
def y_X12_areNumbers : mM := (yX12_areNumbers, cX12_areNumbers, 5, (some .boolean))
def B_X12_areNumbers : List (Nat × List mI) := [(38, [(.iinc 4 1, 3, [4], [1]), (.goto (-38), 3, [3], [])]), (44, [(.iconst 1, 1, [], [1]), (.ireturn, 1, [], [])])]
def S_X12_areNumbers_0 : List mI := [(.iconst 0, 1, [], [0]), (.istore 4, 2, [4], [])]
def S_X12_areNumbers_3 : List mI := [(.iload 4, 2, [4], []), (.aload_n 0, 1, [0], []), (.getfield 71, 3, [12, 35, 2, 161], []), (.iload_n 1, 1, [1], []), (.iaload, 1, [0], []), (.if_icmp .ge 33, 3, [44], []), (.aload_n 0, 1, [0], []), (.getfield 74, 3, [12, 36, 2, 162], []), (.bipush 40, 2, [], [40]), (.iload_n 1, 1, [1], []), (.imul, 1, [], []), (.iload 4, 2, [4], []), (.iadd, 1, [], []), (.laload, 1, [], []), (.iload_n 2, 1, [2], []), (.i2l, 1, [], []), (.iload_n 3, 1, [3], []), (.i2l, 1, [], []), (.invokestatic 147, 3, [1, 225, 3, 0, 269], []), (.ifCond .ne 5, 3, [38], []), (.iconst 0, 1, [], [0]), (.ireturn, 1, [], [])]
theorem lb_X12_areNumbers : B_X12_areNumbers.all (fun b => lst y_X12_areNumbers.2.1 12 y_X12_areNumbers.2.2.1 false b.1 b.2) = true := by decide +kernel
theorem ls_X12_areNumbers_0 : lst y_X12_areNumbers.2.1 12 y_X12_areNumbers.2.2.1 false 0 S_X12_areNumbers_0 = true := by decide +kernel
theorem ls_X12_areNumbers_3 : lst y_X12_areNumbers.2.1 12 y_X12_areNumbers.2.2.1 false 3 S_X12_areNumbers_3 = true := by decide +kernel
def C_X12_areNumbers (N : Nat) : Nat → List Value → mH → (Option Value → mH → Option (Int32 × mH)) → Option (Int32 × mH) := fun j as g k => kb j 225 (pl1 as fun b0 as => pl1 as fun b1 as => pl1 as fun b2 as => pe as ((f_X12_within N b0 b1 b2 g).bind fun p => k (some (.int p.1)) p.2)) (none)
theorem co_X12_areNumbers (N : Nat) (q : Int32 × mH) : clOK 5 q (C_X12_areNumbers N) := by
  intro j as g k e
  rcases kb_s e with ⟨rfl, e⟩ | e
  · obtain ⟨b0, r0, q0, f0⟩ := pl1_s e
    obtain ⟨b1, r1, q1, f1⟩ := pl1_s f0
    obtain ⟨b2, r2, q2, f2⟩ := pl1_s f1
    obtain ⟨qe, fe⟩ := pe_s f2
    obtain ⟨p, e1, e2⟩ := bnd_s fe
    subst qe
    subst q2
    subst q1
    subst q0
    exact ⟨_, _, _, _, 4, rfl, (by decide), m_X12_within N e1, e2⟩
  cases e
set_option maxRecDepth 100000 in
theorem t_X12_areNumbers_3 {X : Nat × (Nat → Int32)} (N : Nat) {q : Int32 × mH} : ∀ (n : Nat) (a0 : Nat) (x1 : Int32) (x2 : Int32) (x3 : Int32) (x4 : Int32) (h : mH), L_X12_areNumbers_3 N n a0 x1 x2 x3 x4 h = some q → MW X y_X12_areNumbers 5 3 [(0, .ref a0), (1, .int x1), (2, .int x2), (3, .int x3), (4, .int x4)] [] h (some (.int q.1)) q.2 := by
  intro n
  induction n with
  | zero => intro a0 x1 x2 x3 x4 h hf; cases hf
  | succ n ih =>
    intro a0 x1 x2 x3 x4 h hf
    refine ev_ok (o := 12) (ini := false) (Cl := C_X12_areNumbers N) (Rc := RcZ) (B := B_X12_areNumbers) (K := fun pc ls st g => kb pc 3 (lgr 0 ls fun a0 => lgi 1 ls fun x1 => lgi 2 ls fun x2 => lgi 3 ls fun x3 => lgi 4 ls fun x4 => pe st (L_X12_areNumbers_3 N n a0 x1 x2 x3 x4 g)) (none)) rfl (fun e => by cases e) (by decide) (rcZ_ok rfl) ?_ (co_X12_areNumbers N q) lb_X12_areNumbers 3000 3 S_X12_areNumbers_3 _ _ h ls_X12_areNumbers_3 hf
    intro pc ls st g e
    rcases kb_s e with ⟨rfl, e⟩ | e
    · obtain ⟨a0, e0, f0⟩ := lgr_s e
      obtain ⟨x1, e1, f1⟩ := lgi_s f0
      obtain ⟨x2, e2, f2⟩ := lgi_s f1
      obtain ⟨x3, e3, f3⟩ := lgi_s f2
      obtain ⟨x4, e4, f4⟩ := lgi_s f3
      obtain ⟨qe, fe⟩ := pe_s f4
      subst qe
      exact MW.sub (List.forall_mem_cons.mpr ⟨lg_mem e0, List.forall_mem_cons.mpr ⟨lg_mem e1, List.forall_mem_cons.mpr ⟨lg_mem e2, List.forall_mem_cons.mpr ⟨lg_mem e3, List.forall_mem_cons.mpr ⟨lg_mem e4, fun _ h => absurd h List.not_mem_nil⟩⟩⟩⟩⟩) (ih a0 x1 x2 x3 x4 g fe)
    cases e
set_option maxRecDepth 100000 in
theorem m_X12_areNumbers (N : Nat) {a0 : Nat} {x1 : Int32} {x2 : Int32} {x3 : Int32} {h : mH} {q : Int32 × mH} (hf : f_X12_areNumbers N a0 x1 x2 x3 h = some q) : MM y_X12_areNumbers 5 [.ref a0, .int x1, .int x2, .int x3] h (some (.int q.1)) q.2 := by
  refine MM.of (mFx (j := 306) rfl).2.2.2.1 (Nat.le_of_ble_eq_true rfl) (fun X => ?_)
  refine ev_ok (o := 12) (ini := false) (Cl := C_X12_areNumbers N) (Rc := RcZ) (B := B_X12_areNumbers) (K := fun pc ls st g => kb pc 3 (lgr 0 ls fun a0 => lgi 1 ls fun x1 => lgi 2 ls fun x2 => lgi 3 ls fun x3 => lgi 4 ls fun x4 => pe st (L_X12_areNumbers_3 N N a0 x1 x2 x3 x4 g)) (none)) rfl (fun e => by cases e) (by decide) (rcZ_ok rfl) ?_ (co_X12_areNumbers N q) lb_X12_areNumbers 3000 0 S_X12_areNumbers_0 _ _ h ls_X12_areNumbers_0 hf
  intro pc ls st g e
  rcases kb_s e with ⟨rfl, e⟩ | e
  · obtain ⟨a0, e0, f0⟩ := lgr_s e
    obtain ⟨x1, e1, f1⟩ := lgi_s f0
    obtain ⟨x2, e2, f2⟩ := lgi_s f1
    obtain ⟨x3, e3, f3⟩ := lgi_s f2
    obtain ⟨x4, e4, f4⟩ := lgi_s f3
    obtain ⟨qe, fe⟩ := pe_s f4
    subst qe
    exact MW.sub (List.forall_mem_cons.mpr ⟨lg_mem e0, List.forall_mem_cons.mpr ⟨lg_mem e1, List.forall_mem_cons.mpr ⟨lg_mem e2, List.forall_mem_cons.mpr ⟨lg_mem e3, List.forall_mem_cons.mpr ⟨lg_mem e4, fun _ h => absurd h List.not_mem_nil⟩⟩⟩⟩⟩) (t_X12_areNumbers_3 N N a0 x1 x2 x3 x4 g fe)
  cases e
def L_X12_reach_135 (N : Nat) (k113 : Nat → Int32 → Int32 → Int32 → Int32 → Int32 → Int32 → Int32 → mH → Option (Int32 × mH)) : Nat → Nat → Int32 → Int32 → Int32 → Int32 → Int32 → Int32 → Int32 → Int32 → Int32 → Int32 → mH → Option (Int32 × mH)
  | 0, _, _, _, _, _, _, _, _, _, _, _, _ => none
  | n + 1, a0, x1, x2, x3, x4, x5, x6, x7, x8, x9, x10, h =>
    (gR h 12 a0 35).bind fun v1 =>
    (ldI 0 h v1 x1).bind fun v2 =>
    if x10 < v2 then
      if (iAnd (iShr x7 x10) (jI 1)) = 0 then
        let w3 := iAdd x10 (jI 1)
        L_X12_reach_135 N k113 n a0 x1 x2 x3 x4 x5 x6 x7 x8 x9 w3 h
      else
        let w4 := iAdd x8 (jI 1)
        (gR h 12 a0 36).bind fun v5 =>
        (ldL h v5 (iAdd (iMul (jI 40) x1) x10)).bind fun v6 =>
        let w7 := iAdd x9 v6.toInt32
        let w8 := iAdd x10 (jI 1)
        L_X12_reach_135 N k113 n a0 x1 x2 x3 x4 x5 x6 x7 w4 w7 w8 h
    else
      (gR h 12 a0 2).bind fun v9 =>
      (ldI 0 h v9 (jI 140)).bind fun v10 =>
      let w11 := iSub (iSub x9 (iMul (iSub x8 (jI 1)) v10)) x2
      if w11 < 0 then
        let w12 := iAdd x7 (jI 1)
        k113 a0 x1 x2 x3 x4 x5 x6 w12 h
      else
        if x4 = (jI (-1)) then
          let w13 := iAdd x7 (jI 1)
          k113 a0 x1 x2 x3 x7 x8 w11 w13 h
        else
          if x5 < x8 then
            let w14 := iAdd x7 (jI 1)
            k113 a0 x1 x2 x3 x4 x5 x6 w14 h
          else
            if x8 = x5 then
              if w11 < x6 then
                let w15 := iAdd x7 (jI 1)
                k113 a0 x1 x2 x3 x7 x8 w11 w15 h
              else
                let w16 := iAdd x7 (jI 1)
                k113 a0 x1 x2 x3 x4 x5 x6 w16 h
            else
              let w17 := iAdd x7 (jI 1)
              k113 a0 x1 x2 x3 x7 x8 w11 w17 h
def L_X12_reach_113 (N : Nat) : Nat → Nat → Int32 → Int32 → Int32 → Int32 → Int32 → Int32 → Int32 → mH → Option (Int32 × mH)
  | 0, _, _, _, _, _, _, _, _, _ => none
  | n + 1, a0, x1, x2, x3, x4, x5, x6, x7, h =>
    (gR h 12 a0 35).bind fun v1 =>
    (ldI 0 h v1 x1).bind fun v2 =>
    if x7 < (iShl (jI 1) v2) then
      L_X12_reach_135 N (L_X12_reach_113 N n) N a0 x1 x2 x3 x4 x5 x6 x7 (jI 0) (jI 0) (jI 0) h
    else
      if x4 = (jI (-1)) then
        some (jI (-1), h)
      else
        if x3 = 0 then
          some (x5, h)
        else
          if x3 = (jI 1) then
            some (x6, h)
          else
            some (x4, h)
def f_X12_reach (N : Nat) (a0 : Nat) (x1 : Int32) (x2 : Int32) (x3 : Int32) (h : mH) : Option (Int32 × mH) :=
  (pV h 12 a0 0 (.int (jI 0))).bind fun h1 =>
  (f_X12_within N x1.toInt64 (jL 0) (jL 3) h1).bind fun p2 =>
  if p2.1 = 0 then
    (rcv p2.2 12 a0).bind fun _ =>
    (f_X12_no N a0 (jI (-2)) p2.2).bind fun p3 =>
    some (p3.1, p3.2)
  else
    (f_X12_within N x3.toInt64 (jL 0) (jL 2) p2.2).bind fun p4 =>
    if p4.1 = 0 then
      (rcv p4.2 12 a0).bind fun _ =>
      (f_X12_no N a0 (jI (-2)) p4.2).bind fun p5 =>
      some (p5.1, p5.2)
    else
      (gR p4.2 12 a0 34).bind fun v6 =>
      (ldI 0 p4.2 v6 x1).bind fun v7 =>
      if v7 = (jI (-1)) then
        (rcv p4.2 12 a0).bind fun _ =>
        (f_X12_no N a0 (jI (-6)) p4.2).bind fun p8 =>
        some (p8.1, p8.2)
      else
        (gR p4.2 12 a0 35).bind fun v9 =>
        (ldI 0 p4.2 v9 x1).bind fun v10 =>
        (f_X12_within N v10.toInt64 (jL 1) (jL 9) p4.2).bind fun p11 =>
        if p11.1 = 0 then
          (rcv p11.2 12 a0).bind fun _ =>
          (f_X12_no N a0 (jI (-3)) p11.2).bind fun p12 =>
          some (p12.1, p12.2)
        else
          (rcv p11.2 12 a0).bind fun _ =>
          (f_X12_areNumbers N a0 x1 (jI 1) (jI 999) p11.2).bind fun p13 =>
          if p13.1 = 0 then
            (rcv p13.2 12 a0).bind fun _ =>
            (f_X12_no N a0 (jI (-3)) p13.2).bind fun p14 =>
            some (p14.1, p14.2)
          else
            (f_X12_within N x2.toInt64 (jL 1) (jL 9999) p13.2).bind fun p15 =>
            if p15.1 = 0 then
              (rcv p15.2 12 a0).bind fun _ =>
              (f_X12_no N a0 (jI (-3)) p15.2).bind fun p16 =>
              some (p16.1, p16.2)
            else
              L_X12_reach_113 N N a0 x1 x2 x3 (jI (-1)) (jI 0) (jI 0) (jI 1) p15.2
def y_X12_reach : mM := (yX12_reach, cX12_reach, 11, (some .int))
def B_X12_reach : List (Nat × List mI) := [(29, [(.aload_n 0, 1, [0], []), (.bipush (-2), 2, [], [-2]), (.invokevirtual 84, 3, [0, 224, 1, 12, 267], []), (.ireturn, 1, [], [])]), (36, [(.aload_n 0, 1, [0], []), (.getfield 68, 3, [12, 34, 2, 160], []), (.iload_n 1, 1, [1], []), (.iaload, 1, [0], []), (.iconst (-1), 1, [], [-1]), (.if_icmp .ne 10, 3, [53], []), (.aload_n 0, 1, [0], []), (.bipush (-6), 2, [], [-6]), (.invokevirtual 84, 3, [0, 224, 1, 12, 267], []), (.ireturn, 1, [], [])]), (53, [(.aload_n 0, 1, [0], []), (.getfield 71, 3, [12, 35, 2, 161], []), (.iload_n 1, 1, [1], []), (.iaload, 1, [0], []), (.i2l, 1, [], []), (.lconst 1, 1, [], [1]), (.ldc2_w 243, 3, [10], [9]), (.invokestatic 147, 3, [1, 225, 3, 0, 269], []), (.ifCond .eq 27, 3, [94], []), (.aload_n 0, 1, [0], []), (.iload_n 1, 1, [1], []), (.iconst 1, 1, [], [1]), (.sipush 999, 3, [], [999]), (.invokevirtual 309, 3, [0, 306, 3, 12, 347], []), (.ifCond .eq 15, 3, [94], []), (.iload_n 2, 1, [2], []), (.i2l, 1, [], []), (.lconst 1, 1, [], [1]), (.ldc2_w 256, 3, [12], [9999]), (.invokestatic 147, 3, [1, 225, 3, 0, 269], []), (.ifCond .ne 10, 3, [101], [])]), (94, [(.aload_n 0, 1, [0], []), (.bipush (-3), 2, [], [-3]), (.invokevirtual 84, 3, [0, 224, 1, 12, 267], []), (.ireturn, 1, [], [])]), (101, [(.iconst (-1), 1, [], [-1]), (.istore 4, 2, [4], []), (.iconst 0, 1, [], [0]), (.istore 5, 2, [5], []), (.iconst 0, 1, [], [0]), (.istore 6, 2, [6], []), (.iconst 1, 1, [], [1]), (.istore 7, 2, [7], [])]), (159, [(.iinc 8 1, 3, [8], [1]), (.iload 9, 2, [9], []), (.aload_n 0, 1, [0], []), (.getfield 74, 3, [12, 36, 2, 162], []), (.bipush 40, 2, [], [40]), (.iload_n 1, 1, [1], []), (.imul, 1, [], []), (.iload 10, 2, [10], []), (.iadd, 1, [], []), (.laload, 1, [], []), (.l2i, 1, [], []), (.iadd, 1, [], []), (.istore 9, 2, [9], [])]), (180, [(.iinc 10 1, 3, [10], [1]), (.goto (-48), 3, [135], [])]), (186, [(.iload 9, 2, [9], []), (.iload 8, 2, [8], []), (.iconst 1, 1, [], [1]), (.isub, 1, [], []), (.aload_n 0, 1, [0], []), (.getfield 17, 3, [12, 2, 2, 128], []), (.sipush 140, 3, [], [140]), (.iaload, 1, [0], []), (.imul, 1, [], []), (.isub, 1, [], []), (.iload_n 2, 1, [2], []), (.isub, 1, [], []), (.istore 10, 2, [10], []), (.iload 10, 2, [10], []), (.ifCond .lt 45, 3, [253], []), (.iload 4, 2, [4], []), (.iconst (-1), 1, [], [-1]), (.if_icmp .eq 27, 3, [241], []), (.iload 8, 2, [8], []), (.iload 5, 2, [5], []), (.if_icmp .gt 32, 3, [253], []), (.iload 8, 2, [8], []), (.iload 5, 2, [5], []), (.if_icmp .ne 13, 3, [241], []), (.iload 10, 2, [10], []), (.iload 6, 2, [6], []), (.if_icmp .lt 6, 3, [241], []), (.goto 15, 3, [253], [])]), (241, [(.iload 7, 2, [7], []), (.istore 4, 2, [4], []), (.iload 8, 2, [8], []), (.istore 5, 2, [5], []), (.iload 10, 2, [10], []), (.istore 6, 2, [6], [])]), (253, [(.iinc 7 1, 3, [7], [1]), (.goto (-143), 3, [113], [])]), (259, [(.iload 4, 2, [4], []), (.iconst (-1), 1, [], [-1]), (.if_icmp .ne 7, 3, [269], []), (.iconst (-1), 1, [], [-1]), (.goto 24, 3, [290], [])]), (269, [(.iload_n 3, 1, [3], []), (.ifCond .ne 8, 3, [278], []), (.iload 5, 2, [5], []), (.goto 15, 3, [290], [])]), (278, [(.iload_n 3, 1, [3], []), (.iconst 1, 1, [], [1]), (.if_icmp .ne 8, 3, [288], []), (.iload 6, 2, [6], []), (.goto 5, 3, [290], [])]), (288, [(.iload 4, 2, [4], [])]), (290, [(.ireturn, 1, [], [])])]
def S_X12_reach_0 : List mI := [(.aload_n 0, 1, [0], []), (.iconst 0, 1, [], [0]), (.putfield 1, 3, [12, 0, 0, 126], []), (.iload_n 1, 1, [1], []), (.i2l, 1, [], []), (.lconst 0, 1, [], [0]), (.ldc2_w 179, 3, [5], [3]), (.invokestatic 147, 3, [1, 225, 3, 0, 269], []), (.ifCond .eq 15, 3, [29], []), (.iload_n 3, 1, [3], []), (.i2l, 1, [], []), (.lconst 0, 1, [], [0]), (.ldc2_w 245, 3, [11], [2]), (.invokestatic 147, 3, [1, 225, 3, 0, 269], []), (.ifCond .ne 10, 3, [36], [])]
def S_X12_reach_113 : List mI := [(.iload 7, 2, [7], []), (.iconst 1, 1, [], [1]), (.aload_n 0, 1, [0], []), (.getfield 71, 3, [12, 35, 2, 161], []), (.iload_n 1, 1, [1], []), (.iaload, 1, [0], []), (.ishl, 1, [], []), (.if_icmp .ge 136, 3, [259], []), (.iconst 0, 1, [], [0]), (.istore 8, 2, [8], []), (.iconst 0, 1, [], [0]), (.istore 9, 2, [9], []), (.iconst 0, 1, [], [0]), (.istore 10, 2, [10], [])]
def S_X12_reach_135 : List mI := [(.iload 10, 2, [10], []), (.aload_n 0, 1, [0], []), (.getfield 71, 3, [12, 35, 2, 161], []), (.iload_n 1, 1, [1], []), (.iaload, 1, [0], []), (.if_icmp .ge 43, 3, [186], []), (.iload 7, 2, [7], []), (.iload 10, 2, [10], []), (.ishr, 1, [], []), (.iconst 1, 1, [], [1]), (.iand, 1, [], []), (.ifCond .ne 6, 3, [159], []), (.goto 24, 3, [180], [])]
theorem lb_X12_reach : B_X12_reach.all (fun b => lst y_X12_reach.2.1 12 y_X12_reach.2.2.1 false b.1 b.2) = true := by decide +kernel
theorem ls_X12_reach_0 : lst y_X12_reach.2.1 12 y_X12_reach.2.2.1 false 0 S_X12_reach_0 = true := by decide +kernel
theorem ls_X12_reach_113 : lst y_X12_reach.2.1 12 y_X12_reach.2.2.1 false 113 S_X12_reach_113 = true := by decide +kernel
theorem ls_X12_reach_135 : lst y_X12_reach.2.1 12 y_X12_reach.2.2.1 false 135 S_X12_reach_135 = true := by decide +kernel
def C_X12_reach (N : Nat) : Nat → List Value → mH → (Option Value → mH → Option (Int32 × mH)) → Option (Int32 × mH) := fun j as g k => kb j 225 (pl1 as fun b0 as => pl1 as fun b1 as => pl1 as fun b2 as => pe as ((f_X12_within N b0 b1 b2 g).bind fun p => k (some (.int p.1)) p.2)) (kb j 224 (pr1 as fun b0 as => pp1 as fun b1 as => pe as ((f_X12_no N b0 b1 g).bind fun p => k (some (.int p.1)) p.2)) (kb j 306 (pr1 as fun b0 as => pp1 as fun b1 as => pp1 as fun b2 as => pp1 as fun b3 as => pe as ((f_X12_areNumbers N b0 b1 b2 b3 g).bind fun p => k (some (.int p.1)) p.2)) (none)))
theorem co_X12_reach (N : Nat) (q : Int32 × mH) : clOK 6 q (C_X12_reach N) := by
  intro j as g k e
  rcases kb_s e with ⟨rfl, e⟩ | e
  · obtain ⟨b0, r0, q0, f0⟩ := pl1_s e
    obtain ⟨b1, r1, q1, f1⟩ := pl1_s f0
    obtain ⟨b2, r2, q2, f2⟩ := pl1_s f1
    obtain ⟨qe, fe⟩ := pe_s f2
    obtain ⟨p, e1, e2⟩ := bnd_s fe
    subst qe
    subst q2
    subst q1
    subst q0
    exact ⟨_, _, _, _, 4, rfl, (by decide), m_X12_within N e1, e2⟩
  rcases kb_s e with ⟨rfl, e⟩ | e
  · obtain ⟨b0, r0, q0, f0⟩ := pr1_s e
    obtain ⟨b1, r1, q1, f1⟩ := pp1_s f0
    obtain ⟨qe, fe⟩ := pe_s f1
    obtain ⟨p, e1, e2⟩ := bnd_s fe
    subst qe
    subst q1
    subst q0
    exact ⟨_, _, _, _, 4, rfl, (by decide), m_X12_no N e1, e2⟩
  rcases kb_s e with ⟨rfl, e⟩ | e
  · obtain ⟨b0, r0, q0, f0⟩ := pr1_s e
    obtain ⟨b1, r1, q1, f1⟩ := pp1_s f0
    obtain ⟨b2, r2, q2, f2⟩ := pp1_s f1
    obtain ⟨b3, r3, q3, f3⟩ := pp1_s f2
    obtain ⟨qe, fe⟩ := pe_s f3
    obtain ⟨p, e1, e2⟩ := bnd_s fe
    subst qe
    subst q3
    subst q2
    subst q1
    subst q0
    exact ⟨_, _, _, _, 5, rfl, (by decide), m_X12_areNumbers N e1, e2⟩
  cases e
set_option maxRecDepth 100000 in
theorem t_X12_reach_135 {X : Nat × (Nat → Int32)} (N : Nat) {q : Int32 × mH} {k113 : Nat → Int32 → Int32 → Int32 → Int32 → Int32 → Int32 → Int32 → mH → Option (Int32 × mH)} (hk113 : ∀ (a0 : Nat) (x1 : Int32) (x2 : Int32) (x3 : Int32) (x4 : Int32) (x5 : Int32) (x6 : Int32) (x7 : Int32) g, k113 a0 x1 x2 x3 x4 x5 x6 x7 g = some q → MW X y_X12_reach 6 113 [(0, .ref a0), (1, .int x1), (2, .int x2), (3, .int x3), (4, .int x4), (5, .int x5), (6, .int x6), (7, .int x7)] [] g (some (.int q.1)) q.2) : ∀ (n : Nat) (a0 : Nat) (x1 : Int32) (x2 : Int32) (x3 : Int32) (x4 : Int32) (x5 : Int32) (x6 : Int32) (x7 : Int32) (x8 : Int32) (x9 : Int32) (x10 : Int32) (h : mH), L_X12_reach_135 N k113 n a0 x1 x2 x3 x4 x5 x6 x7 x8 x9 x10 h = some q → MW X y_X12_reach 6 135 [(0, .ref a0), (1, .int x1), (2, .int x2), (3, .int x3), (4, .int x4), (5, .int x5), (6, .int x6), (7, .int x7), (8, .int x8), (9, .int x9), (10, .int x10)] [] h (some (.int q.1)) q.2 := by
  intro n
  induction n with
  | zero => intro a0 x1 x2 x3 x4 x5 x6 x7 x8 x9 x10 h hf; cases hf
  | succ n ih =>
    intro a0 x1 x2 x3 x4 x5 x6 x7 x8 x9 x10 h hf
    refine ev_ok (o := 12) (ini := false) (Cl := C_X12_reach N) (Rc := RcI) (B := B_X12_reach) (K := fun pc ls st g => kb pc 113 (lgr 0 ls fun a0 => lgi 1 ls fun x1 => lgi 2 ls fun x2 => lgi 3 ls fun x3 => lgi 4 ls fun x4 => lgi 5 ls fun x5 => lgi 6 ls fun x6 => lgi 7 ls fun x7 => pe st (k113 a0 x1 x2 x3 x4 x5 x6 x7 g)) (kb pc 135 (lgr 0 ls fun a0 => lgi 1 ls fun x1 => lgi 2 ls fun x2 => lgi 3 ls fun x3 => lgi 4 ls fun x4 => lgi 5 ls fun x5 => lgi 6 ls fun x6 => lgi 7 ls fun x7 => lgi 8 ls fun x8 => lgi 9 ls fun x9 => lgi 10 ls fun x10 => pe st (L_X12_reach_135 N k113 n a0 x1 x2 x3 x4 x5 x6 x7 x8 x9 x10 g)) (none))) rfl (fun e => by cases e) (by decide) (rcI_ok rfl) ?_ (co_X12_reach N q) lb_X12_reach 3000 135 S_X12_reach_135 _ _ h ls_X12_reach_135 hf
    intro pc ls st g e
    rcases kb_s e with ⟨rfl, e⟩ | e
    · obtain ⟨a0, e0, f0⟩ := lgr_s e
      obtain ⟨x1, e1, f1⟩ := lgi_s f0
      obtain ⟨x2, e2, f2⟩ := lgi_s f1
      obtain ⟨x3, e3, f3⟩ := lgi_s f2
      obtain ⟨x4, e4, f4⟩ := lgi_s f3
      obtain ⟨x5, e5, f5⟩ := lgi_s f4
      obtain ⟨x6, e6, f6⟩ := lgi_s f5
      obtain ⟨x7, e7, f7⟩ := lgi_s f6
      obtain ⟨qe, fe⟩ := pe_s f7
      subst qe
      exact MW.sub (List.forall_mem_cons.mpr ⟨lg_mem e0, List.forall_mem_cons.mpr ⟨lg_mem e1, List.forall_mem_cons.mpr ⟨lg_mem e2, List.forall_mem_cons.mpr ⟨lg_mem e3, List.forall_mem_cons.mpr ⟨lg_mem e4, List.forall_mem_cons.mpr ⟨lg_mem e5, List.forall_mem_cons.mpr ⟨lg_mem e6, List.forall_mem_cons.mpr ⟨lg_mem e7, fun _ h => absurd h List.not_mem_nil⟩⟩⟩⟩⟩⟩⟩⟩) (hk113 a0 x1 x2 x3 x4 x5 x6 x7 g fe)
    rcases kb_s e with ⟨rfl, e⟩ | e
    · obtain ⟨a0, e0, f0⟩ := lgr_s e
      obtain ⟨x1, e1, f1⟩ := lgi_s f0
      obtain ⟨x2, e2, f2⟩ := lgi_s f1
      obtain ⟨x3, e3, f3⟩ := lgi_s f2
      obtain ⟨x4, e4, f4⟩ := lgi_s f3
      obtain ⟨x5, e5, f5⟩ := lgi_s f4
      obtain ⟨x6, e6, f6⟩ := lgi_s f5
      obtain ⟨x7, e7, f7⟩ := lgi_s f6
      obtain ⟨x8, e8, f8⟩ := lgi_s f7
      obtain ⟨x9, e9, f9⟩ := lgi_s f8
      obtain ⟨x10, e10, f10⟩ := lgi_s f9
      obtain ⟨qe, fe⟩ := pe_s f10
      subst qe
      exact MW.sub (List.forall_mem_cons.mpr ⟨lg_mem e0, List.forall_mem_cons.mpr ⟨lg_mem e1, List.forall_mem_cons.mpr ⟨lg_mem e2, List.forall_mem_cons.mpr ⟨lg_mem e3, List.forall_mem_cons.mpr ⟨lg_mem e4, List.forall_mem_cons.mpr ⟨lg_mem e5, List.forall_mem_cons.mpr ⟨lg_mem e6, List.forall_mem_cons.mpr ⟨lg_mem e7, List.forall_mem_cons.mpr ⟨lg_mem e8, List.forall_mem_cons.mpr ⟨lg_mem e9, List.forall_mem_cons.mpr ⟨lg_mem e10, fun _ h => absurd h List.not_mem_nil⟩⟩⟩⟩⟩⟩⟩⟩⟩⟩⟩) (ih a0 x1 x2 x3 x4 x5 x6 x7 x8 x9 x10 g fe)
    cases e
set_option maxRecDepth 100000 in
theorem t_X12_reach_113 {X : Nat × (Nat → Int32)} (N : Nat) {q : Int32 × mH} : ∀ (n : Nat) (a0 : Nat) (x1 : Int32) (x2 : Int32) (x3 : Int32) (x4 : Int32) (x5 : Int32) (x6 : Int32) (x7 : Int32) (h : mH), L_X12_reach_113 N n a0 x1 x2 x3 x4 x5 x6 x7 h = some q → MW X y_X12_reach 6 113 [(0, .ref a0), (1, .int x1), (2, .int x2), (3, .int x3), (4, .int x4), (5, .int x5), (6, .int x6), (7, .int x7)] [] h (some (.int q.1)) q.2 := by
  intro n
  induction n with
  | zero => intro a0 x1 x2 x3 x4 x5 x6 x7 h hf; cases hf
  | succ n ih =>
    intro a0 x1 x2 x3 x4 x5 x6 x7 h hf
    refine ev_ok (o := 12) (ini := false) (Cl := C_X12_reach N) (Rc := RcI) (B := B_X12_reach) (K := fun pc ls st g => kb pc 135 (lgr 0 ls fun a0 => lgi 1 ls fun x1 => lgi 2 ls fun x2 => lgi 3 ls fun x3 => lgi 4 ls fun x4 => lgi 5 ls fun x5 => lgi 6 ls fun x6 => lgi 7 ls fun x7 => lgi 8 ls fun x8 => lgi 9 ls fun x9 => lgi 10 ls fun x10 => pe st (L_X12_reach_135 N (L_X12_reach_113 N n) N a0 x1 x2 x3 x4 x5 x6 x7 x8 x9 x10 g)) (none)) rfl (fun e => by cases e) (by decide) (rcI_ok rfl) ?_ (co_X12_reach N q) lb_X12_reach 3000 113 S_X12_reach_113 _ _ h ls_X12_reach_113 hf
    intro pc ls st g e
    rcases kb_s e with ⟨rfl, e⟩ | e
    · obtain ⟨a0, e0, f0⟩ := lgr_s e
      obtain ⟨x1, e1, f1⟩ := lgi_s f0
      obtain ⟨x2, e2, f2⟩ := lgi_s f1
      obtain ⟨x3, e3, f3⟩ := lgi_s f2
      obtain ⟨x4, e4, f4⟩ := lgi_s f3
      obtain ⟨x5, e5, f5⟩ := lgi_s f4
      obtain ⟨x6, e6, f6⟩ := lgi_s f5
      obtain ⟨x7, e7, f7⟩ := lgi_s f6
      obtain ⟨x8, e8, f8⟩ := lgi_s f7
      obtain ⟨x9, e9, f9⟩ := lgi_s f8
      obtain ⟨x10, e10, f10⟩ := lgi_s f9
      obtain ⟨qe, fe⟩ := pe_s f10
      subst qe
      exact MW.sub (List.forall_mem_cons.mpr ⟨lg_mem e0, List.forall_mem_cons.mpr ⟨lg_mem e1, List.forall_mem_cons.mpr ⟨lg_mem e2, List.forall_mem_cons.mpr ⟨lg_mem e3, List.forall_mem_cons.mpr ⟨lg_mem e4, List.forall_mem_cons.mpr ⟨lg_mem e5, List.forall_mem_cons.mpr ⟨lg_mem e6, List.forall_mem_cons.mpr ⟨lg_mem e7, List.forall_mem_cons.mpr ⟨lg_mem e8, List.forall_mem_cons.mpr ⟨lg_mem e9, List.forall_mem_cons.mpr ⟨lg_mem e10, fun _ h => absurd h List.not_mem_nil⟩⟩⟩⟩⟩⟩⟩⟩⟩⟩⟩) (t_X12_reach_135 N (fun a0 x1 x2 x3 x4 x5 x6 x7 g e => ih a0 x1 x2 x3 x4 x5 x6 x7 g e) N a0 x1 x2 x3 x4 x5 x6 x7 x8 x9 x10 g fe)
    cases e
set_option maxRecDepth 100000 in
theorem m_X12_reach (N : Nat) {a0 : Nat} {x1 : Int32} {x2 : Int32} {x3 : Int32} {h : mH} {q : Int32 × mH} (hf : f_X12_reach N a0 x1 x2 x3 h = some q) : MM y_X12_reach 6 [.ref a0, .int x1, .int x2, .int x3] h (some (.int q.1)) q.2 := by
  refine MM.of (mFx (j := 307) rfl).2.2.2.1 (Nat.le_of_ble_eq_true rfl) (fun X => ?_)
  refine ev_ok (o := 12) (ini := false) (Cl := C_X12_reach N) (Rc := RcI) (B := B_X12_reach) (K := fun pc ls st g => kb pc 113 (lgr 0 ls fun a0 => lgi 1 ls fun x1 => lgi 2 ls fun x2 => lgi 3 ls fun x3 => lgi 4 ls fun x4 => lgi 5 ls fun x5 => lgi 6 ls fun x6 => lgi 7 ls fun x7 => pe st (L_X12_reach_113 N N a0 x1 x2 x3 x4 x5 x6 x7 g)) (none)) rfl (fun e => by cases e) (by decide) (rcI_ok rfl) ?_ (co_X12_reach N q) lb_X12_reach 3000 0 S_X12_reach_0 _ _ h ls_X12_reach_0 hf
  intro pc ls st g e
  rcases kb_s e with ⟨rfl, e⟩ | e
  · obtain ⟨a0, e0, f0⟩ := lgr_s e
    obtain ⟨x1, e1, f1⟩ := lgi_s f0
    obtain ⟨x2, e2, f2⟩ := lgi_s f1
    obtain ⟨x3, e3, f3⟩ := lgi_s f2
    obtain ⟨x4, e4, f4⟩ := lgi_s f3
    obtain ⟨x5, e5, f5⟩ := lgi_s f4
    obtain ⟨x6, e6, f6⟩ := lgi_s f5
    obtain ⟨x7, e7, f7⟩ := lgi_s f6
    obtain ⟨qe, fe⟩ := pe_s f7
    subst qe
    exact MW.sub (List.forall_mem_cons.mpr ⟨lg_mem e0, List.forall_mem_cons.mpr ⟨lg_mem e1, List.forall_mem_cons.mpr ⟨lg_mem e2, List.forall_mem_cons.mpr ⟨lg_mem e3, List.forall_mem_cons.mpr ⟨lg_mem e4, List.forall_mem_cons.mpr ⟨lg_mem e5, List.forall_mem_cons.mpr ⟨lg_mem e6, List.forall_mem_cons.mpr ⟨lg_mem e7, fun _ h => absurd h List.not_mem_nil⟩⟩⟩⟩⟩⟩⟩⟩) (t_X12_reach_113 N N a0 x1 x2 x3 x4 x5 x6 x7 g fe)
  cases e
def J_X12_nest_183 (N : Nat) (k93 : Nat → Int32 → Int32 → Int32 → Int64 → Int32 → mH → Option (Int32 × mH)) (a0 : Nat) (x1 : Int32) (x2 : Int32) (x3 : Int32) (l7 : Int64) (s_0 : Int32) (h : mH) : Option (Int32 × mH) :=
  if s_0 = 0 then
    let w1 := iAdd x3 (jI 0)
    k93 a0 x1 x2 w1 l7 s_0 h
  else
    let w2 := iAdd x3 (jI 1)
    k93 a0 x1 x2 w2 l7 s_0 h
def L_X12_nest_106 (N : Nat) (k93 : Nat → Int32 → Int32 → Int32 → Int64 → Int32 → mH → Option (Int32 × mH)) : Nat → Nat → Int32 → Int32 → Int32 → Int64 → Int64 → Int32 → mH → Option (Int32 × mH)
  | 0, _, _, _, _, _, _, _, _ => none
  | n + 1, a0, x1, x2, x3, l4, l7, x9, h =>
    (gR h 12 a0 35).bind fun v1 =>
    (ldI 0 h v1 x1).bind fun v2 =>
    if x9 < v2 then
      (gR h 12 a0 36).bind fun v3 =>
      (ldL h v3 (iAdd (iMul (jI 40) x1) x9)).bind fun v4 =>
      if v4 < (lAdd l4 x2.toInt64) then
        let w5 := iAdd x9 (jI 1)
        L_X12_nest_106 N k93 n a0 x1 x2 x3 l4 l7 w5 h
      else
        if l7 = (jL (-1)) then
          let w6 := iAdd x9 (jI 1)
          L_X12_nest_106 N k93 n a0 x1 x2 x3 l4 v4 w6 h
        else
          if v4 < l7 then
            let w7 := iAdd x9 (jI 1)
            L_X12_nest_106 N k93 n a0 x1 x2 x3 l4 v4 w7 h
          else
            let w8 := iAdd x9 (jI 1)
            L_X12_nest_106 N k93 n a0 x1 x2 x3 l4 l7 w8 h
    else
      if l7 = (jL (-1)) then
        J_X12_nest_183 N k93 a0 x1 x2 x3 l7 (jI 0) h
      else
        J_X12_nest_183 N k93 a0 x1 x2 x3 l7 (jI 1) h
def L_X12_nest_93 (N : Nat) : Nat → Nat → Int32 → Int32 → Int32 → Int64 → Int32 → mH → Option (Int32 × mH)
  | 0, _, _, _, _, _, _, _ => none
  | n + 1, a0, x1, x2, x3, l4, x6, h =>
    if x6 = 0 then
      some (x3, h)
    else
      L_X12_nest_106 N (L_X12_nest_93 N n) N a0 x1 x2 x3 l4 (jL (-1)) (jI 0) h
def f_X12_nest (N : Nat) (a0 : Nat) (x1 : Int32) (x2 : Int32) (h : mH) : Option (Int32 × mH) :=
  (pV h 12 a0 0 (.int (jI 0))).bind fun h1 =>
  (f_X12_within N x1.toInt64 (jL 0) (jL 3) h1).bind fun p2 =>
  if p2.1 = 0 then
    (rcv p2.2 12 a0).bind fun _ =>
    (f_X12_no N a0 (jI (-2)) p2.2).bind fun p3 =>
    some (p3.1, p3.2)
  else
    (gR p2.2 12 a0 34).bind fun v4 =>
    (ldI 0 p2.2 v4 x1).bind fun v5 =>
    if v5 = (jI (-1)) then
      (rcv p2.2 12 a0).bind fun _ =>
      (f_X12_no N a0 (jI (-6)) p2.2).bind fun p6 =>
      some (p6.1, p6.2)
    else
      (rcv p2.2 12 a0).bind fun _ =>
      (f_X12_areNumbers N a0 x1 (jI 1) (jI 9999) p2.2).bind fun p7 =>
      if p7.1 = 0 then
        (rcv p7.2 12 a0).bind fun _ =>
        (f_X12_no N a0 (jI (-3)) p7.2).bind fun p8 =>
        some (p8.1, p8.2)
      else
        (f_X12_within N x2.toInt64 (jL 0) (jL 999) p7.2).bind fun p9 =>
        if p9.1 = 0 then
          (rcv p9.2 12 a0).bind fun _ =>
          (f_X12_no N a0 (jI (-3)) p9.2).bind fun p10 =>
          some (p10.1, p10.2)
        else
          if x2 = 0 then
            (gR p9.2 12 a0 35).bind fun v11 =>
            (ldI 0 p9.2 v11 x1).bind fun v12 =>
            some (v12, p9.2)
          else
            L_X12_nest_93 N N a0 x1 x2 (jI 0) (jL (-9999)) (jI 1) p9.2
def y_X12_nest : mM := (yX12_nest, cX12_nest, 12, (some .int))
def B_X12_nest : List (Nat × List mI) := [(24, [(.aload_n 0, 1, [0], []), (.getfield 68, 3, [12, 34, 2, 160], []), (.iload_n 1, 1, [1], []), (.iaload, 1, [0], []), (.iconst (-1), 1, [], [-1]), (.if_icmp .ne 10, 3, [41], []), (.aload_n 0, 1, [0], []), (.bipush (-6), 2, [], [-6]), (.invokevirtual 84, 3, [0, 224, 1, 12, 267], []), (.ireturn, 1, [], [])]), (41, [(.aload_n 0, 1, [0], []), (.iload_n 1, 1, [1], []), (.iconst 1, 1, [], [1]), (.sipush 9999, 3, [], [9999]), (.invokevirtual 309, 3, [0, 306, 3, 12, 347], []), (.ifCond .eq 15, 3, [65], []), (.iload_n 2, 1, [2], []), (.i2l, 1, [], []), (.lconst 0, 1, [], [0]), (.ldc2_w 241, 3, [9], [999]), (.invokestatic 147, 3, [1, 225, 3, 0, 269], []), (.ifCond .ne 10, 3, [72], [])]), (65, [(.aload_n 0, 1, [0], []), (.bipush (-3), 2, [], [-3]), (.invokevirtual 84, 3, [0, 224, 1, 12, 267], []), (.ireturn, 1, [], [])]), (72, [(.iload_n 2, 1, [2], []), (.ifCond .ne 10, 3, [83], []), (.aload_n 0, 1, [0], []), (.getfield 71, 3, [12, 35, 2, 161], []), (.iload_n 1, 1, [1], []), (.iaload, 1, [0], []), (.ireturn, 1, [], [])]), (83, [(.iconst 0, 1, [], [0]), (.istore_n 3, 1, [3], []), (.ldc2_w 312, 3, [15], [-9999]), (.lstore 4, 2, [4], []), (.iconst 1, 1, [], [1]), (.istore 6, 2, [6], [])]), (159, [(.lload 10, 2, [10], []), (.lstore 7, 2, [7], [])]), (163, [(.iinc 9 1, 3, [9], [1]), (.goto (-60), 3, [106], [])]), (169, [(.lload 7, 2, [7], []), (.ldc2_w 314, 3, [16], [-1]), (.lcmp, 1, [], []), (.ifCond .eq 7, 3, [182], []), (.iconst 1, 1, [], [1]), (.goto 4, 3, [183], [])]), (182, [(.iconst 0, 1, [], [0])]), (195, [(.iconst 0, 1, [], [0])]), (196, [(.iadd, 1, [], []), (.istore_n 3, 1, [3], []), (.lload 7, 2, [7], []), (.lstore 4, 2, [4], []), (.goto (-109), 3, [93], [])]), (205, [(.iload_n 3, 1, [3], []), (.ireturn, 1, [], [])])]
def S_X12_nest_0 : List mI := [(.aload_n 0, 1, [0], []), (.iconst 0, 1, [], [0]), (.putfield 1, 3, [12, 0, 0, 126], []), (.iload_n 1, 1, [1], []), (.i2l, 1, [], []), (.lconst 0, 1, [], [0]), (.ldc2_w 179, 3, [5], [3]), (.invokestatic 147, 3, [1, 225, 3, 0, 269], []), (.ifCond .ne 10, 3, [24], []), (.aload_n 0, 1, [0], []), (.bipush (-2), 2, [], [-2]), (.invokevirtual 84, 3, [0, 224, 1, 12, 267], []), (.ireturn, 1, [], [])]
def S_X12_nest_93 : List mI := [(.iload 6, 2, [6], []), (.ifCond .eq 110, 3, [205], []), (.ldc2_w 314, 3, [16], [-1]), (.lstore 7, 2, [7], []), (.iconst 0, 1, [], [0]), (.istore 9, 2, [9], [])]
def S_X12_nest_106 : List mI := [(.iload 9, 2, [9], []), (.aload_n 0, 1, [0], []), (.getfield 71, 3, [12, 35, 2, 161], []), (.iload_n 1, 1, [1], []), (.iaload, 1, [0], []), (.if_icmp .ge 55, 3, [169], []), (.aload_n 0, 1, [0], []), (.getfield 74, 3, [12, 36, 2, 162], []), (.bipush 40, 2, [], [40]), (.iload_n 1, 1, [1], []), (.imul, 1, [], []), (.iload 9, 2, [9], []), (.iadd, 1, [], []), (.laload, 1, [], []), (.lstore 10, 2, [10], []), (.lload 10, 2, [10], []), (.lload 4, 2, [4], []), (.iload_n 2, 1, [2], []), (.i2l, 1, [], []), (.ladd, 1, [], []), (.lcmp, 1, [], []), (.ifCond .lt 24, 3, [163], []), (.lload 7, 2, [7], []), (.ldc2_w 314, 3, [16], [-1]), (.lcmp, 1, [], []), (.ifCond .eq 11, 3, [159], []), (.lload 10, 2, [10], []), (.lload 7, 2, [7], []), (.lcmp, 1, [], []), (.ifCond .ge 7, 3, [163], [])]
def S_X12_nest_183 : List mI := [(.istore 6, 2, [6], []), (.iload_n 3, 1, [3], []), (.iload 6, 2, [6], []), (.ifCond .eq 7, 3, [195], []), (.iconst 1, 1, [], [1]), (.goto 4, 3, [196], [])]
theorem lb_X12_nest : B_X12_nest.all (fun b => lst y_X12_nest.2.1 12 y_X12_nest.2.2.1 false b.1 b.2) = true := by decide +kernel
theorem ls_X12_nest_0 : lst y_X12_nest.2.1 12 y_X12_nest.2.2.1 false 0 S_X12_nest_0 = true := by decide +kernel
theorem ls_X12_nest_93 : lst y_X12_nest.2.1 12 y_X12_nest.2.2.1 false 93 S_X12_nest_93 = true := by decide +kernel
theorem ls_X12_nest_106 : lst y_X12_nest.2.1 12 y_X12_nest.2.2.1 false 106 S_X12_nest_106 = true := by decide +kernel
theorem ls_X12_nest_183 : lst y_X12_nest.2.1 12 y_X12_nest.2.2.1 false 183 S_X12_nest_183 = true := by decide +kernel
def C_X12_nest (N : Nat) : Nat → List Value → mH → (Option Value → mH → Option (Int32 × mH)) → Option (Int32 × mH) := fun j as g k => kb j 225 (pl1 as fun b0 as => pl1 as fun b1 as => pl1 as fun b2 as => pe as ((f_X12_within N b0 b1 b2 g).bind fun p => k (some (.int p.1)) p.2)) (kb j 224 (pr1 as fun b0 as => pp1 as fun b1 as => pe as ((f_X12_no N b0 b1 g).bind fun p => k (some (.int p.1)) p.2)) (kb j 306 (pr1 as fun b0 as => pp1 as fun b1 as => pp1 as fun b2 as => pp1 as fun b3 as => pe as ((f_X12_areNumbers N b0 b1 b2 b3 g).bind fun p => k (some (.int p.1)) p.2)) (none)))
theorem co_X12_nest (N : Nat) (q : Int32 × mH) : clOK 6 q (C_X12_nest N) := by
  intro j as g k e
  rcases kb_s e with ⟨rfl, e⟩ | e
  · obtain ⟨b0, r0, q0, f0⟩ := pl1_s e
    obtain ⟨b1, r1, q1, f1⟩ := pl1_s f0
    obtain ⟨b2, r2, q2, f2⟩ := pl1_s f1
    obtain ⟨qe, fe⟩ := pe_s f2
    obtain ⟨p, e1, e2⟩ := bnd_s fe
    subst qe
    subst q2
    subst q1
    subst q0
    exact ⟨_, _, _, _, 4, rfl, (by decide), m_X12_within N e1, e2⟩
  rcases kb_s e with ⟨rfl, e⟩ | e
  · obtain ⟨b0, r0, q0, f0⟩ := pr1_s e
    obtain ⟨b1, r1, q1, f1⟩ := pp1_s f0
    obtain ⟨qe, fe⟩ := pe_s f1
    obtain ⟨p, e1, e2⟩ := bnd_s fe
    subst qe
    subst q1
    subst q0
    exact ⟨_, _, _, _, 4, rfl, (by decide), m_X12_no N e1, e2⟩
  rcases kb_s e with ⟨rfl, e⟩ | e
  · obtain ⟨b0, r0, q0, f0⟩ := pr1_s e
    obtain ⟨b1, r1, q1, f1⟩ := pp1_s f0
    obtain ⟨b2, r2, q2, f2⟩ := pp1_s f1
    obtain ⟨b3, r3, q3, f3⟩ := pp1_s f2
    obtain ⟨qe, fe⟩ := pe_s f3
    obtain ⟨p, e1, e2⟩ := bnd_s fe
    subst qe
    subst q3
    subst q2
    subst q1
    subst q0
    exact ⟨_, _, _, _, 5, rfl, (by decide), m_X12_areNumbers N e1, e2⟩
  cases e
set_option maxRecDepth 100000 in
theorem t_X12_nest_183 {X : Nat × (Nat → Int32)} (N : Nat) {q : Int32 × mH} {k93 : Nat → Int32 → Int32 → Int32 → Int64 → Int32 → mH → Option (Int32 × mH)} (hk93 : ∀ (a0 : Nat) (x1 : Int32) (x2 : Int32) (x3 : Int32) (l4 : Int64) (x6 : Int32) g, k93 a0 x1 x2 x3 l4 x6 g = some q → MW X y_X12_nest 6 93 [(0, .ref a0), (1, .int x1), (2, .int x2), (3, .int x3), (4, .long l4), (6, .int x6)] [] g (some (.int q.1)) q.2) (a0 : Nat) (x1 : Int32) (x2 : Int32) (x3 : Int32) (l7 : Int64) (s_0 : Int32) (h : mH) (hf : J_X12_nest_183 N k93 a0 x1 x2 x3 l7 s_0 h = some q) : MW X y_X12_nest 6 183 [(0, .ref a0), (1, .int x1), (2, .int x2), (3, .int x3), (7, .long l7)] [.int s_0] h (some (.int q.1)) q.2 := by
  refine ev_ok (o := 12) (ini := false) (Cl := C_X12_nest N) (Rc := RcI) (B := B_X12_nest) (K := fun pc ls st g => kb pc 93 (lgr 0 ls fun a0 => lgi 1 ls fun x1 => lgi 2 ls fun x2 => lgi 3 ls fun x3 => lgl_ 4 ls fun l4 => lgi 6 ls fun x6 => pe st (k93 a0 x1 x2 x3 l4 x6 g)) (none)) rfl (fun e => by cases e) (by decide) (rcI_ok rfl) ?_ (co_X12_nest N q) lb_X12_nest 3000 183 S_X12_nest_183 _ _ h ls_X12_nest_183 hf
  intro pc ls st g e
  rcases kb_s e with ⟨rfl, e⟩ | e
  · obtain ⟨a0, e0, f0⟩ := lgr_s e
    obtain ⟨x1, e1, f1⟩ := lgi_s f0
    obtain ⟨x2, e2, f2⟩ := lgi_s f1
    obtain ⟨x3, e3, f3⟩ := lgi_s f2
    obtain ⟨l4, e4, f4⟩ := lgl_s f3
    obtain ⟨x6, e5, f5⟩ := lgi_s f4
    obtain ⟨qe, fe⟩ := pe_s f5
    subst qe
    exact MW.sub (List.forall_mem_cons.mpr ⟨lg_mem e0, List.forall_mem_cons.mpr ⟨lg_mem e1, List.forall_mem_cons.mpr ⟨lg_mem e2, List.forall_mem_cons.mpr ⟨lg_mem e3, List.forall_mem_cons.mpr ⟨lg_mem e4, List.forall_mem_cons.mpr ⟨lg_mem e5, fun _ h => absurd h List.not_mem_nil⟩⟩⟩⟩⟩⟩) (hk93 a0 x1 x2 x3 l4 x6 g fe)
  cases e
set_option maxRecDepth 100000 in
theorem t_X12_nest_106 {X : Nat × (Nat → Int32)} (N : Nat) {q : Int32 × mH} {k93 : Nat → Int32 → Int32 → Int32 → Int64 → Int32 → mH → Option (Int32 × mH)} (hk93 : ∀ (a0 : Nat) (x1 : Int32) (x2 : Int32) (x3 : Int32) (l4 : Int64) (x6 : Int32) g, k93 a0 x1 x2 x3 l4 x6 g = some q → MW X y_X12_nest 6 93 [(0, .ref a0), (1, .int x1), (2, .int x2), (3, .int x3), (4, .long l4), (6, .int x6)] [] g (some (.int q.1)) q.2) : ∀ (n : Nat) (a0 : Nat) (x1 : Int32) (x2 : Int32) (x3 : Int32) (l4 : Int64) (l7 : Int64) (x9 : Int32) (h : mH), L_X12_nest_106 N k93 n a0 x1 x2 x3 l4 l7 x9 h = some q → MW X y_X12_nest 6 106 [(0, .ref a0), (1, .int x1), (2, .int x2), (3, .int x3), (4, .long l4), (7, .long l7), (9, .int x9)] [] h (some (.int q.1)) q.2 := by
  intro n
  induction n with
  | zero => intro a0 x1 x2 x3 l4 l7 x9 h hf; cases hf
  | succ n ih =>
    intro a0 x1 x2 x3 l4 l7 x9 h hf
    refine ev_ok (o := 12) (ini := false) (Cl := C_X12_nest N) (Rc := RcI) (B := B_X12_nest) (K := fun pc ls st g => kb pc 106 (lgr 0 ls fun a0 => lgi 1 ls fun x1 => lgi 2 ls fun x2 => lgi 3 ls fun x3 => lgl_ 4 ls fun l4 => lgl_ 7 ls fun l7 => lgi 9 ls fun x9 => pe st (L_X12_nest_106 N k93 n a0 x1 x2 x3 l4 l7 x9 g)) (kb pc 183 (lgr 0 ls fun a0 => lgi 1 ls fun x1 => lgi 2 ls fun x2 => lgi 3 ls fun x3 => lgl_ 7 ls fun l7 => pp1 st fun s_0 st => pe st (J_X12_nest_183 N k93 a0 x1 x2 x3 l7 s_0 g)) (none))) rfl (fun e => by cases e) (by decide) (rcI_ok rfl) ?_ (co_X12_nest N q) lb_X12_nest 3000 106 S_X12_nest_106 _ _ h ls_X12_nest_106 hf
    intro pc ls st g e
    rcases kb_s e with ⟨rfl, e⟩ | e
    · obtain ⟨a0, e0, f0⟩ := lgr_s e
      obtain ⟨x1, e1, f1⟩ := lgi_s f0
      obtain ⟨x2, e2, f2⟩ := lgi_s f1
      obtain ⟨x3, e3, f3⟩ := lgi_s f2
      obtain ⟨l4, e4, f4⟩ := lgl_s f3
      obtain ⟨l7, e5, f5⟩ := lgl_s f4
      obtain ⟨x9, e6, f6⟩ := lgi_s f5
      obtain ⟨qe, fe⟩ := pe_s f6
      subst qe
      exact MW.sub (List.forall_mem_cons.mpr ⟨lg_mem e0, List.forall_mem_cons.mpr ⟨lg_mem e1, List.forall_mem_cons.mpr ⟨lg_mem e2, List.forall_mem_cons.mpr ⟨lg_mem e3, List.forall_mem_cons.mpr ⟨lg_mem e4, List.forall_mem_cons.mpr ⟨lg_mem e5, List.forall_mem_cons.mpr ⟨lg_mem e6, fun _ h => absurd h List.not_mem_nil⟩⟩⟩⟩⟩⟩⟩) (ih a0 x1 x2 x3 l4 l7 x9 g fe)
    rcases kb_s e with ⟨rfl, e⟩ | e
    · obtain ⟨a0, e0, f0⟩ := lgr_s e
      obtain ⟨x1, e1, f1⟩ := lgi_s f0
      obtain ⟨x2, e2, f2⟩ := lgi_s f1
      obtain ⟨x3, e3, f3⟩ := lgi_s f2
      obtain ⟨l7, e4, f4⟩ := lgl_s f3
      obtain ⟨s_0, r0, q0, g0⟩ := pp1_s f4
      obtain ⟨qe, fe⟩ := pe_s g0
      subst qe
      subst q0
      exact MW.sub (List.forall_mem_cons.mpr ⟨lg_mem e0, List.forall_mem_cons.mpr ⟨lg_mem e1, List.forall_mem_cons.mpr ⟨lg_mem e2, List.forall_mem_cons.mpr ⟨lg_mem e3, List.forall_mem_cons.mpr ⟨lg_mem e4, fun _ h => absurd h List.not_mem_nil⟩⟩⟩⟩⟩) (t_X12_nest_183 N hk93 a0 x1 x2 x3 l7 s_0 g fe)
    cases e
set_option maxRecDepth 100000 in
theorem t_X12_nest_93 {X : Nat × (Nat → Int32)} (N : Nat) {q : Int32 × mH} : ∀ (n : Nat) (a0 : Nat) (x1 : Int32) (x2 : Int32) (x3 : Int32) (l4 : Int64) (x6 : Int32) (h : mH), L_X12_nest_93 N n a0 x1 x2 x3 l4 x6 h = some q → MW X y_X12_nest 6 93 [(0, .ref a0), (1, .int x1), (2, .int x2), (3, .int x3), (4, .long l4), (6, .int x6)] [] h (some (.int q.1)) q.2 := by
  intro n
  induction n with
  | zero => intro a0 x1 x2 x3 l4 x6 h hf; cases hf
  | succ n ih =>
    intro a0 x1 x2 x3 l4 x6 h hf
    refine ev_ok (o := 12) (ini := false) (Cl := C_X12_nest N) (Rc := RcI) (B := B_X12_nest) (K := fun pc ls st g => kb pc 106 (lgr 0 ls fun a0 => lgi 1 ls fun x1 => lgi 2 ls fun x2 => lgi 3 ls fun x3 => lgl_ 4 ls fun l4 => lgl_ 7 ls fun l7 => lgi 9 ls fun x9 => pe st (L_X12_nest_106 N (L_X12_nest_93 N n) N a0 x1 x2 x3 l4 l7 x9 g)) (none)) rfl (fun e => by cases e) (by decide) (rcI_ok rfl) ?_ (co_X12_nest N q) lb_X12_nest 3000 93 S_X12_nest_93 _ _ h ls_X12_nest_93 hf
    intro pc ls st g e
    rcases kb_s e with ⟨rfl, e⟩ | e
    · obtain ⟨a0, e0, f0⟩ := lgr_s e
      obtain ⟨x1, e1, f1⟩ := lgi_s f0
      obtain ⟨x2, e2, f2⟩ := lgi_s f1
      obtain ⟨x3, e3, f3⟩ := lgi_s f2
      obtain ⟨l4, e4, f4⟩ := lgl_s f3
      obtain ⟨l7, e5, f5⟩ := lgl_s f4
      obtain ⟨x9, e6, f6⟩ := lgi_s f5
      obtain ⟨qe, fe⟩ := pe_s f6
      subst qe
      exact MW.sub (List.forall_mem_cons.mpr ⟨lg_mem e0, List.forall_mem_cons.mpr ⟨lg_mem e1, List.forall_mem_cons.mpr ⟨lg_mem e2, List.forall_mem_cons.mpr ⟨lg_mem e3, List.forall_mem_cons.mpr ⟨lg_mem e4, List.forall_mem_cons.mpr ⟨lg_mem e5, List.forall_mem_cons.mpr ⟨lg_mem e6, fun _ h => absurd h List.not_mem_nil⟩⟩⟩⟩⟩⟩⟩) (t_X12_nest_106 N (fun a0 x1 x2 x3 l4 x6 g e => ih a0 x1 x2 x3 l4 x6 g e) N a0 x1 x2 x3 l4 l7 x9 g fe)
    cases e
set_option maxRecDepth 100000 in
theorem m_X12_nest (N : Nat) {a0 : Nat} {x1 : Int32} {x2 : Int32} {h : mH} {q : Int32 × mH} (hf : f_X12_nest N a0 x1 x2 h = some q) : MM y_X12_nest 6 [.ref a0, .int x1, .int x2] h (some (.int q.1)) q.2 := by
  refine MM.of (mFx (j := 308) rfl).2.2.2.1 (Nat.le_of_ble_eq_true rfl) (fun X => ?_)
  refine ev_ok (o := 12) (ini := false) (Cl := C_X12_nest N) (Rc := RcI) (B := B_X12_nest) (K := fun pc ls st g => kb pc 93 (lgr 0 ls fun a0 => lgi 1 ls fun x1 => lgi 2 ls fun x2 => lgi 3 ls fun x3 => lgl_ 4 ls fun l4 => lgi 6 ls fun x6 => pe st (L_X12_nest_93 N N a0 x1 x2 x3 l4 x6 g)) (none)) rfl (fun e => by cases e) (by decide) (rcI_ok rfl) ?_ (co_X12_nest N q) lb_X12_nest 3000 0 S_X12_nest_0 _ _ h ls_X12_nest_0 hf
  intro pc ls st g e
  rcases kb_s e with ⟨rfl, e⟩ | e
  · obtain ⟨a0, e0, f0⟩ := lgr_s e
    obtain ⟨x1, e1, f1⟩ := lgi_s f0
    obtain ⟨x2, e2, f2⟩ := lgi_s f1
    obtain ⟨x3, e3, f3⟩ := lgi_s f2
    obtain ⟨l4, e4, f4⟩ := lgl_s f3
    obtain ⟨x6, e5, f5⟩ := lgi_s f4
    obtain ⟨qe, fe⟩ := pe_s f5
    subst qe
    exact MW.sub (List.forall_mem_cons.mpr ⟨lg_mem e0, List.forall_mem_cons.mpr ⟨lg_mem e1, List.forall_mem_cons.mpr ⟨lg_mem e2, List.forall_mem_cons.mpr ⟨lg_mem e3, List.forall_mem_cons.mpr ⟨lg_mem e4, List.forall_mem_cons.mpr ⟨lg_mem e5, fun _ h => absurd h List.not_mem_nil⟩⟩⟩⟩⟩⟩) (t_X12_nest_93 N N a0 x1 x2 x3 l4 x6 g fe)
  cases e
def J_X12_plait_173 (N : Nat) (k130 : Nat → Int32 → Int32 → Int32 → Int32 → Int32 → mH → Option (Int32 × mH)) (a0 : Nat) (x1 : Int32) (x2 : Int32) (x3 : Int32) (x4 : Int32) (x5 : Int32) (l6 : Int64) (s_0 : Int64) (h : mH) : Option (Int32 × mH) :=
  (gR h 12 a0 24).bind fun v1 =>
  (ldI 0 h v1 s_0.toInt32).bind fun v2 =>
  (gR h 12 a0 24).bind fun v3 =>
  (gR h 12 a0 24).bind fun v4 =>
  (ldI 0 h v4 (iAdd s_0.toInt32 (jI 1))).bind fun v5 =>
  (stI 0 h v3 s_0.toInt32 v5).bind fun h6 =>
  (gR h6 12 a0 24).bind fun v7 =>
  (stI 0 h6 v7 (iAdd s_0.toInt32 (jI 1)) v2).bind fun h8 =>
  if 0 < x4 then
    (gR h8 12 a0 25).bind fun v9 =>
    (ldL h8 v9 (iSub x4 (jI 1))).bind fun v10 =>
    if v10 = (lSub (jL (-1)) l6) then
      let w11 := iAdd x4 (jI (-1))
      let w12 := iAdd x5 (jI 1)
      k130 a0 x1 x2 x3 w11 w12 h8
    else
      (gR h8 12 a0 25).bind fun v13 =>
      (stL h8 v13 x4 l6).bind fun h14 =>
      let w15 := iAdd x4 (jI 1)
      let w16 := iAdd x5 (jI 1)
      k130 a0 x1 x2 x3 w15 w16 h14
  else
    (gR h8 12 a0 25).bind fun v17 =>
    (stL h8 v17 x4 l6).bind fun h18 =>
    let w19 := iAdd x4 (jI 1)
    let w20 := iAdd x5 (jI 1)
    k130 a0 x1 x2 x3 w19 w20 h18
def L_X12_plait_320 (N : Nat) (k302 : Nat → Int32 → Int32 → Int32 → mH → Option (Int32 × mH)) : Nat → Nat → Int32 → Int32 → Int32 → Int32 → Int32 → mH → Option (Int32 × mH)
  | 0, _, _, _, _, _, _, _ => none
  | n + 1, a0, x2, x5, x6, x7, x8, h =>
    if x8 = x6 then
      (f_X12_common N x5 x7 h).bind fun p1 =>
      if p1.1 = 0 then none else
      let w2 := iMul (iDiv x5 p1.1) x7
      let w3 := iAdd x6 (jI 1)
      k302 a0 x2 w2 w3 p1.2
    else
      let w4 := iAdd x7 (jI 1)
      (gR h 12 a0 24).bind fun v5 =>
      (ldI 0 h v5 x8).bind fun v6 =>
      L_X12_plait_320 N k302 n a0 x2 x5 x6 w4 v6 h
def L_X12_plait_302 (N : Nat) : Nat → Nat → Int32 → Int32 → Int32 → mH → Option (Int32 × mH)
  | 0, _, _, _, _, _ => none
  | n + 1, a0, x2, x5, x6, h =>
    if x6 < x2 then
      (gR h 12 a0 24).bind fun v1 =>
      (ldI 0 h v1 x6).bind fun v2 =>
      L_X12_plait_320 N (L_X12_plait_302 N n) N a0 x2 x5 x6 (jI 1) v2 h
    else
      some (x5, h)
def L_X12_plait_130 (N : Nat) : Nat → Nat → Int32 → Int32 → Int32 → Int32 → Int32 → mH → Option (Int32 × mH)
  | 0, _, _, _, _, _, _, _ => none
  | n + 1, a0, x1, x2, x3, x4, x5, h =>
    (gR h 12 a0 35).bind fun v1 =>
    (ldI 0 h v1 x1).bind fun v2 =>
    if x5 < v2 then
      (gR h 12 a0 36).bind fun v3 =>
      (ldL h v3 (iAdd (iMul (jI 40) x1) x5)).bind fun v4 =>
      if v4 < (jL 0) then
        J_X12_plait_173 N (L_X12_plait_130 N n) a0 x1 x2 x3 x4 x5 v4 (lSub (jL (-1)) v4) h
      else
        J_X12_plait_173 N (L_X12_plait_130 N n) a0 x1 x2 x3 x4 x5 v4 v4 h
    else
      if x3 < (jI 10) then
        if x3 = (jI 1) then
          some (x4, h)
        else
          L_X12_plait_302 N N a0 x2 (jI 1) (jI 0) h
      else
        if (iSub x3 (jI 10)) < x2 then
          (gR h 12 a0 24).bind fun v5 =>
          (ldI 0 h v5 (iSub x3 (jI 10))).bind fun v6 =>
          some (v6, h)
        else
          some (jI (-1), h)
def L_X12_plait_103 (N : Nat) : Nat → Nat → Int32 → Int32 → Int32 → Int32 → mH → Option (Int32 × mH)
  | 0, _, _, _, _, _, _ => none
  | n + 1, a0, x1, x2, x3, x4, h =>
    if x4 < x2 then
      (gR h 12 a0 24).bind fun v1 =>
      (stI 0 h v1 x4 x4).bind fun h2 =>
      let w3 := iAdd x4 (jI 1)
      L_X12_plait_103 N n a0 x1 x2 x3 w3 h2
    else
      L_X12_plait_130 N N a0 x1 x2 x3 (jI 0) (jI 0) h
def J_X12_plait_48 (N : Nat) (a0 : Nat) (x1 : Int32) (x2 : Int32) (x3 : Int32) (h : mH) : Option (Int32 × mH) :=
  (gR h 12 a0 34).bind fun v1 =>
  (ldI 0 h v1 x1).bind fun v2 =>
  if v2 = (jI (-1)) then
    (rcv h 12 a0).bind fun _ =>
    (f_X12_no N a0 (jI (-6)) h).bind fun p3 =>
    some (p3.1, p3.2)
  else
    (f_X12_within N x2.toInt64 (jL 2) (jL 9) h).bind fun p4 =>
    if p4.1 = 0 then
      (rcv p4.2 12 a0).bind fun _ =>
      (f_X12_no N a0 (jI (-3)) p4.2).bind fun p5 =>
      some (p5.1, p5.2)
    else
      (rcv p4.2 12 a0).bind fun _ =>
      (f_X12_areNumbers N a0 x1 (iSub (jI 1) x2) (iSub x2 (jI 2)) p4.2).bind fun p6 =>
      if p6.1 = 0 then
        (rcv p6.2 12 a0).bind fun _ =>
        (f_X12_no N a0 (jI (-3)) p6.2).bind fun p7 =>
        some (p7.1, p7.2)
      else
        L_X12_plait_103 N N a0 x1 x2 x3 (jI 0) p6.2
def f_X12_plait (N : Nat) (a0 : Nat) (x1 : Int32) (x2 : Int32) (x3 : Int32) (h : mH) : Option (Int32 × mH) :=
  (pV h 12 a0 0 (.int (jI 0))).bind fun h1 =>
  (f_X12_within N x1.toInt64 (jL 0) (jL 3) h1).bind fun p2 =>
  if p2.1 = 0 then
    (rcv p2.2 12 a0).bind fun _ =>
    (f_X12_no N a0 (jI (-2)) p2.2).bind fun p3 =>
    some (p3.1, p3.2)
  else
    (f_X12_within N x3.toInt64 (jL 0) (jL 1) p2.2).bind fun p4 =>
    if p4.1 = 0 then
      (f_X12_within N x3.toInt64 (jL 10) (jL 18) p4.2).bind fun p5 =>
      if p5.1 = 0 then
        (rcv p5.2 12 a0).bind fun _ =>
        (f_X12_no N a0 (jI (-2)) p5.2).bind fun p6 =>
        some (p6.1, p6.2)
      else
        J_X12_plait_48 N a0 x1 x2 x3 p5.2
    else
      J_X12_plait_48 N a0 x1 x2 x3 p4.2
def y_X12_plait : mM := (yX12_plait, cX12_plait, 10, (some .int))
def B_X12_plait : List (Nat × List mI) := [(41, [(.aload_n 0, 1, [0], []), (.bipush (-2), 2, [], [-2]), (.invokevirtual 84, 3, [0, 224, 1, 12, 267], []), (.ireturn, 1, [], [])]), (65, [(.iload_n 2, 1, [2], []), (.i2l, 1, [], []), (.ldc2_w 245, 3, [11], [2]), (.ldc2_w 243, 3, [10], [9]), (.invokestatic 147, 3, [1, 225, 3, 0, 269], []), (.ifCond .eq 17, 3, [93], []), (.aload_n 0, 1, [0], []), (.iload_n 1, 1, [1], []), (.iconst 1, 1, [], [1]), (.iload_n 2, 1, [2], []), (.isub, 1, [], []), (.iload_n 2, 1, [2], []), (.iconst 2, 1, [], [2]), (.isub, 1, [], []), (.invokevirtual 309, 3, [0, 306, 3, 12, 347], []), (.ifCond .ne 10, 3, [100], [])]), (93, [(.aload_n 0, 1, [0], []), (.bipush (-3), 2, [], [-3]), (.invokevirtual 84, 3, [0, 224, 1, 12, 267], []), (.ireturn, 1, [], [])]), (100, [(.iconst 0, 1, [], [0]), (.istore 4, 2, [4], [])]), (124, [(.iconst 0, 1, [], [0]), (.istore 4, 2, [4], []), (.iconst 0, 1, [], [0]), (.istore 5, 2, [5], [])]), (171, [(.lload 6, 2, [6], [])]), (242, [(.aload_n 0, 1, [0], []), (.getfield 45, 3, [12, 25, 2, 151], []), (.iload 4, 2, [4], []), (.lload 6, 2, [6], []), (.lastore, 1, [], []), (.iinc 4 1, 3, [4], [1])]), (254, [(.iinc 5 1, 3, [5], [1]), (.goto (-127), 3, [130], [])]), (260, [(.iload_n 3, 1, [3], []), (.bipush 10, 2, [], [10]), (.if_icmp .lt 25, 3, [288], []), (.iload_n 3, 1, [3], []), (.bipush 10, 2, [], [10]), (.isub, 1, [], []), (.iload_n 2, 1, [2], []), (.if_icmp .ge 15, 3, [286], []), (.aload_n 0, 1, [0], []), (.getfield 42, 3, [12, 24, 2, 150], []), (.iload_n 3, 1, [3], []), (.bipush 10, 2, [], [10]), (.isub, 1, [], []), (.iaload, 1, [0], []), (.goto 4, 3, [287], [])]), (286, [(.iconst (-1), 1, [], [-1])]), (287, [(.ireturn, 1, [], [])]), (288, [(.iload_n 3, 1, [3], []), (.iconst 1, 1, [], [1]), (.if_icmp .ne 6, 3, [296], []), (.iload 4, 2, [4], []), (.ireturn, 1, [], [])]), (296, [(.iconst 1, 1, [], [1]), (.istore 5, 2, [5], []), (.iconst 0, 1, [], [0]), (.istore 6, 2, [6], [])]), (342, [(.iload 5, 2, [5], []), (.iload 5, 2, [5], []), (.iload 7, 2, [7], []), (.invokestatic 247, 3, [1, 271, 2, 0, 312], []), (.idiv, 1, [], []), (.iload 7, 2, [7], []), (.imul, 1, [], []), (.istore 5, 2, [5], []), (.iinc 6 1, 3, [6], [1]), (.goto (-58), 3, [302], [])]), (363, [(.iload 5, 2, [5], []), (.ireturn, 1, [], [])])]
def S_X12_plait_0 : List mI := [(.aload_n 0, 1, [0], []), (.iconst 0, 1, [], [0]), (.putfield 1, 3, [12, 0, 0, 126], []), (.iload_n 1, 1, [1], []), (.i2l, 1, [], []), (.lconst 0, 1, [], [0]), (.ldc2_w 179, 3, [5], [3]), (.invokestatic 147, 3, [1, 225, 3, 0, 269], []), (.ifCond .eq 27, 3, [41], []), (.iload_n 3, 1, [3], []), (.i2l, 1, [], []), (.lconst 0, 1, [], [0]), (.lconst 1, 1, [], [1]), (.invokestatic 147, 3, [1, 225, 3, 0, 269], []), (.ifCond .ne 24, 3, [48], []), (.iload_n 3, 1, [3], []), (.i2l, 1, [], []), (.ldc2_w 184, 3, [6], [10]), (.ldc2_w 316, 3, [17], [18]), (.invokestatic 147, 3, [1, 225, 3, 0, 269], []), (.ifCond .ne 10, 3, [48], [])]
def S_X12_plait_48 : List mI := [(.aload_n 0, 1, [0], []), (.getfield 68, 3, [12, 34, 2, 160], []), (.iload_n 1, 1, [1], []), (.iaload, 1, [0], []), (.iconst (-1), 1, [], [-1]), (.if_icmp .ne 10, 3, [65], []), (.aload_n 0, 1, [0], []), (.bipush (-6), 2, [], [-6]), (.invokevirtual 84, 3, [0, 224, 1, 12, 267], []), (.ireturn, 1, [], [])]
def S_X12_plait_103 : List mI := [(.iload 4, 2, [4], []), (.iload_n 2, 1, [2], []), (.if_icmp .ge 18, 3, [124], []), (.aload_n 0, 1, [0], []), (.getfield 42, 3, [12, 24, 2, 150], []), (.iload 4, 2, [4], []), (.iload 4, 2, [4], []), (.iastore, 1, [], []), (.iinc 4 1, 3, [4], [1]), (.goto (-18), 3, [103], [])]
def S_X12_plait_130 : List mI := [(.iload 5, 2, [5], []), (.aload_n 0, 1, [0], []), (.getfield 71, 3, [12, 35, 2, 161], []), (.iload_n 1, 1, [1], []), (.iaload, 1, [0], []), (.if_icmp .ge 122, 3, [260], []), (.aload_n 0, 1, [0], []), (.getfield 74, 3, [12, 36, 2, 162], []), (.bipush 40, 2, [], [40]), (.iload_n 1, 1, [1], []), (.imul, 1, [], []), (.iload 5, 2, [5], []), (.iadd, 1, [], []), (.laload, 1, [], []), (.lstore 6, 2, [6], []), (.lload 6, 2, [6], []), (.lconst 0, 1, [], [0]), (.lcmp, 1, [], []), (.ifCond .ge 12, 3, [171], []), (.ldc2_w 314, 3, [16], [-1]), (.lload 6, 2, [6], []), (.lsub, 1, [], []), (.goto 5, 3, [173], [])]
def S_X12_plait_173 : List mI := [(.l2i, 1, [], []), (.istore 8, 2, [8], []), (.aload_n 0, 1, [0], []), (.getfield 42, 3, [12, 24, 2, 150], []), (.iload 8, 2, [8], []), (.iaload, 1, [0], []), (.istore 9, 2, [9], []), (.aload_n 0, 1, [0], []), (.getfield 42, 3, [12, 24, 2, 150], []), (.iload 8, 2, [8], []), (.aload_n 0, 1, [0], []), (.getfield 42, 3, [12, 24, 2, 150], []), (.iload 8, 2, [8], []), (.iconst 1, 1, [], [1]), (.iadd, 1, [], []), (.iaload, 1, [0], []), (.iastore, 1, [], []), (.aload_n 0, 1, [0], []), (.getfield 42, 3, [12, 24, 2, 150], []), (.iload 8, 2, [8], []), (.iconst 1, 1, [], [1]), (.iadd, 1, [], []), (.iload 9, 2, [9], []), (.iastore, 1, [], []), (.iload 4, 2, [4], []), (.ifCond .le 28, 3, [242], []), (.aload_n 0, 1, [0], []), (.getfield 45, 3, [12, 25, 2, 151], []), (.iload 4, 2, [4], []), (.iconst 1, 1, [], [1]), (.isub, 1, [], []), (.laload, 1, [], []), (.ldc2_w 314, 3, [16], [-1]), (.lload 6, 2, [6], []), (.lsub, 1, [], []), (.lcmp, 1, [], []), (.ifCond .ne 9, 3, [242], []), (.iinc 4 (-1), 3, [4], [-1]), (.goto 15, 3, [254], [])]
def S_X12_plait_302 : List mI := [(.iload 6, 2, [6], []), (.iload_n 2, 1, [2], []), (.if_icmp .ge 58, 3, [363], []), (.iconst 1, 1, [], [1]), (.istore 7, 2, [7], []), (.aload_n 0, 1, [0], []), (.getfield 42, 3, [12, 24, 2, 150], []), (.iload 6, 2, [6], []), (.iaload, 1, [0], []), (.istore 8, 2, [8], [])]
def S_X12_plait_320 : List mI := [(.iload 8, 2, [8], []), (.iload 6, 2, [6], []), (.if_icmp .eq 18, 3, [342], []), (.iinc 7 1, 3, [7], [1]), (.aload_n 0, 1, [0], []), (.getfield 42, 3, [12, 24, 2, 150], []), (.iload 8, 2, [8], []), (.iaload, 1, [0], []), (.istore 8, 2, [8], []), (.goto (-19), 3, [320], [])]
theorem lb_X12_plait : B_X12_plait.all (fun b => lst y_X12_plait.2.1 12 y_X12_plait.2.2.1 false b.1 b.2) = true := by decide +kernel
theorem ls_X12_plait_0 : lst y_X12_plait.2.1 12 y_X12_plait.2.2.1 false 0 S_X12_plait_0 = true := by decide +kernel
theorem ls_X12_plait_48 : lst y_X12_plait.2.1 12 y_X12_plait.2.2.1 false 48 S_X12_plait_48 = true := by decide +kernel
theorem ls_X12_plait_103 : lst y_X12_plait.2.1 12 y_X12_plait.2.2.1 false 103 S_X12_plait_103 = true := by decide +kernel
theorem ls_X12_plait_130 : lst y_X12_plait.2.1 12 y_X12_plait.2.2.1 false 130 S_X12_plait_130 = true := by decide +kernel
theorem ls_X12_plait_173 : lst y_X12_plait.2.1 12 y_X12_plait.2.2.1 false 173 S_X12_plait_173 = true := by decide +kernel
theorem ls_X12_plait_302 : lst y_X12_plait.2.1 12 y_X12_plait.2.2.1 false 302 S_X12_plait_302 = true := by decide +kernel
theorem ls_X12_plait_320 : lst y_X12_plait.2.1 12 y_X12_plait.2.2.1 false 320 S_X12_plait_320 = true := by decide +kernel
def C_X12_plait (N : Nat) : Nat → List Value → mH → (Option Value → mH → Option (Int32 × mH)) → Option (Int32 × mH) := fun j as g k => kb j 225 (pl1 as fun b0 as => pl1 as fun b1 as => pl1 as fun b2 as => pe as ((f_X12_within N b0 b1 b2 g).bind fun p => k (some (.int p.1)) p.2)) (kb j 224 (pr1 as fun b0 as => pp1 as fun b1 as => pe as ((f_X12_no N b0 b1 g).bind fun p => k (some (.int p.1)) p.2)) (kb j 306 (pr1 as fun b0 as => pp1 as fun b1 as => pp1 as fun b2 as => pp1 as fun b3 as => pe as ((f_X12_areNumbers N b0 b1 b2 b3 g).bind fun p => k (some (.int p.1)) p.2)) (kb j 271 (pp1 as fun b0 as => pp1 as fun b1 as => pe as ((f_X12_common N b0 b1 g).bind fun p => k (some (.int p.1)) p.2)) (none))))
theorem co_X12_plait (N : Nat) (q : Int32 × mH) : clOK 6 q (C_X12_plait N) := by
  intro j as g k e
  rcases kb_s e with ⟨rfl, e⟩ | e
  · obtain ⟨b0, r0, q0, f0⟩ := pl1_s e
    obtain ⟨b1, r1, q1, f1⟩ := pl1_s f0
    obtain ⟨b2, r2, q2, f2⟩ := pl1_s f1
    obtain ⟨qe, fe⟩ := pe_s f2
    obtain ⟨p, e1, e2⟩ := bnd_s fe
    subst qe
    subst q2
    subst q1
    subst q0
    exact ⟨_, _, _, _, 4, rfl, (by decide), m_X12_within N e1, e2⟩
  rcases kb_s e with ⟨rfl, e⟩ | e
  · obtain ⟨b0, r0, q0, f0⟩ := pr1_s e
    obtain ⟨b1, r1, q1, f1⟩ := pp1_s f0
    obtain ⟨qe, fe⟩ := pe_s f1
    obtain ⟨p, e1, e2⟩ := bnd_s fe
    subst qe
    subst q1
    subst q0
    exact ⟨_, _, _, _, 4, rfl, (by decide), m_X12_no N e1, e2⟩
  rcases kb_s e with ⟨rfl, e⟩ | e
  · obtain ⟨b0, r0, q0, f0⟩ := pr1_s e
    obtain ⟨b1, r1, q1, f1⟩ := pp1_s f0
    obtain ⟨b2, r2, q2, f2⟩ := pp1_s f1
    obtain ⟨b3, r3, q3, f3⟩ := pp1_s f2
    obtain ⟨qe, fe⟩ := pe_s f3
    obtain ⟨p, e1, e2⟩ := bnd_s fe
    subst qe
    subst q3
    subst q2
    subst q1
    subst q0
    exact ⟨_, _, _, _, 5, rfl, (by decide), m_X12_areNumbers N e1, e2⟩
  rcases kb_s e with ⟨rfl, e⟩ | e
  · obtain ⟨b0, r0, q0, f0⟩ := pp1_s e
    obtain ⟨b1, r1, q1, f1⟩ := pp1_s f0
    obtain ⟨qe, fe⟩ := pe_s f1
    obtain ⟨p, e1, e2⟩ := bnd_s fe
    subst qe
    subst q1
    subst q0
    exact ⟨_, _, _, _, 4, rfl, (by decide), m_X12_common N e1, e2⟩
  cases e
set_option maxRecDepth 100000 in
theorem t_X12_plait_173 {X : Nat × (Nat → Int32)} (N : Nat) {q : Int32 × mH} {k130 : Nat → Int32 → Int32 → Int32 → Int32 → Int32 → mH → Option (Int32 × mH)} (hk130 : ∀ (a0 : Nat) (x1 : Int32) (x2 : Int32) (x3 : Int32) (x4 : Int32) (x5 : Int32) g, k130 a0 x1 x2 x3 x4 x5 g = some q → MW X y_X12_plait 6 130 [(0, .ref a0), (1, .int x1), (2, .int x2), (3, .int x3), (4, .int x4), (5, .int x5)] [] g (some (.int q.1)) q.2) (a0 : Nat) (x1 : Int32) (x2 : Int32) (x3 : Int32) (x4 : Int32) (x5 : Int32) (l6 : Int64) (s_0 : Int64) (h : mH) (hf : J_X12_plait_173 N k130 a0 x1 x2 x3 x4 x5 l6 s_0 h = some q) : MW X y_X12_plait 6 173 [(0, .ref a0), (1, .int x1), (2, .int x2), (3, .int x3), (4, .int x4), (5, .int x5), (6, .long l6)] [.long s_0] h (some (.int q.1)) q.2 := by
  refine ev_ok (o := 12) (ini := false) (Cl := C_X12_plait N) (Rc := RcI) (B := B_X12_plait) (K := fun pc ls st g => kb pc 130 (lgr 0 ls fun a0 => lgi 1 ls fun x1 => lgi 2 ls fun x2 => lgi 3 ls fun x3 => lgi 4 ls fun x4 => lgi 5 ls fun x5 => pe st (k130 a0 x1 x2 x3 x4 x5 g)) (none)) rfl (fun e => by cases e) (by decide) (rcI_ok rfl) ?_ (co_X12_plait N q) lb_X12_plait 3000 173 S_X12_plait_173 _ _ h ls_X12_plait_173 hf
  intro pc ls st g e
  rcases kb_s e with ⟨rfl, e⟩ | e
  · obtain ⟨a0, e0, f0⟩ := lgr_s e
    obtain ⟨x1, e1, f1⟩ := lgi_s f0
    obtain ⟨x2, e2, f2⟩ := lgi_s f1
    obtain ⟨x3, e3, f3⟩ := lgi_s f2
    obtain ⟨x4, e4, f4⟩ := lgi_s f3
    obtain ⟨x5, e5, f5⟩ := lgi_s f4
    obtain ⟨qe, fe⟩ := pe_s f5
    subst qe
    exact MW.sub (List.forall_mem_cons.mpr ⟨lg_mem e0, List.forall_mem_cons.mpr ⟨lg_mem e1, List.forall_mem_cons.mpr ⟨lg_mem e2, List.forall_mem_cons.mpr ⟨lg_mem e3, List.forall_mem_cons.mpr ⟨lg_mem e4, List.forall_mem_cons.mpr ⟨lg_mem e5, fun _ h => absurd h List.not_mem_nil⟩⟩⟩⟩⟩⟩) (hk130 a0 x1 x2 x3 x4 x5 g fe)
  cases e
set_option maxRecDepth 100000 in
theorem t_X12_plait_320 {X : Nat × (Nat → Int32)} (N : Nat) {q : Int32 × mH} {k302 : Nat → Int32 → Int32 → Int32 → mH → Option (Int32 × mH)} (hk302 : ∀ (a0 : Nat) (x2 : Int32) (x5 : Int32) (x6 : Int32) g, k302 a0 x2 x5 x6 g = some q → MW X y_X12_plait 6 302 [(0, .ref a0), (2, .int x2), (5, .int x5), (6, .int x6)] [] g (some (.int q.1)) q.2) : ∀ (n : Nat) (a0 : Nat) (x2 : Int32) (x5 : Int32) (x6 : Int32) (x7 : Int32) (x8 : Int32) (h : mH), L_X12_plait_320 N k302 n a0 x2 x5 x6 x7 x8 h = some q → MW X y_X12_plait 6 320 [(0, .ref a0), (2, .int x2), (5, .int x5), (6, .int x6), (7, .int x7), (8, .int x8)] [] h (some (.int q.1)) q.2 := by
  intro n
  induction n with
  | zero => intro a0 x2 x5 x6 x7 x8 h hf; cases hf
  | succ n ih =>
    intro a0 x2 x5 x6 x7 x8 h hf
    refine ev_ok (o := 12) (ini := false) (Cl := C_X12_plait N) (Rc := RcI) (B := B_X12_plait) (K := fun pc ls st g => kb pc 302 (lgr 0 ls fun a0 => lgi 2 ls fun x2 => lgi 5 ls fun x5 => lgi 6 ls fun x6 => pe st (k302 a0 x2 x5 x6 g)) (kb pc 320 (lgr 0 ls fun a0 => lgi 2 ls fun x2 => lgi 5 ls fun x5 => lgi 6 ls fun x6 => lgi 7 ls fun x7 => lgi 8 ls fun x8 => pe st (L_X12_plait_320 N k302 n a0 x2 x5 x6 x7 x8 g)) (none))) rfl (fun e => by cases e) (by decide) (rcI_ok rfl) ?_ (co_X12_plait N q) lb_X12_plait 3000 320 S_X12_plait_320 _ _ h ls_X12_plait_320 hf
    intro pc ls st g e
    rcases kb_s e with ⟨rfl, e⟩ | e
    · obtain ⟨a0, e0, f0⟩ := lgr_s e
      obtain ⟨x2, e1, f1⟩ := lgi_s f0
      obtain ⟨x5, e2, f2⟩ := lgi_s f1
      obtain ⟨x6, e3, f3⟩ := lgi_s f2
      obtain ⟨qe, fe⟩ := pe_s f3
      subst qe
      exact MW.sub (List.forall_mem_cons.mpr ⟨lg_mem e0, List.forall_mem_cons.mpr ⟨lg_mem e1, List.forall_mem_cons.mpr ⟨lg_mem e2, List.forall_mem_cons.mpr ⟨lg_mem e3, fun _ h => absurd h List.not_mem_nil⟩⟩⟩⟩) (hk302 a0 x2 x5 x6 g fe)
    rcases kb_s e with ⟨rfl, e⟩ | e
    · obtain ⟨a0, e0, f0⟩ := lgr_s e
      obtain ⟨x2, e1, f1⟩ := lgi_s f0
      obtain ⟨x5, e2, f2⟩ := lgi_s f1
      obtain ⟨x6, e3, f3⟩ := lgi_s f2
      obtain ⟨x7, e4, f4⟩ := lgi_s f3
      obtain ⟨x8, e5, f5⟩ := lgi_s f4
      obtain ⟨qe, fe⟩ := pe_s f5
      subst qe
      exact MW.sub (List.forall_mem_cons.mpr ⟨lg_mem e0, List.forall_mem_cons.mpr ⟨lg_mem e1, List.forall_mem_cons.mpr ⟨lg_mem e2, List.forall_mem_cons.mpr ⟨lg_mem e3, List.forall_mem_cons.mpr ⟨lg_mem e4, List.forall_mem_cons.mpr ⟨lg_mem e5, fun _ h => absurd h List.not_mem_nil⟩⟩⟩⟩⟩⟩) (ih a0 x2 x5 x6 x7 x8 g fe)
    cases e
set_option maxRecDepth 100000 in
theorem t_X12_plait_302 {X : Nat × (Nat → Int32)} (N : Nat) {q : Int32 × mH} : ∀ (n : Nat) (a0 : Nat) (x2 : Int32) (x5 : Int32) (x6 : Int32) (h : mH), L_X12_plait_302 N n a0 x2 x5 x6 h = some q → MW X y_X12_plait 6 302 [(0, .ref a0), (2, .int x2), (5, .int x5), (6, .int x6)] [] h (some (.int q.1)) q.2 := by
  intro n
  induction n with
  | zero => intro a0 x2 x5 x6 h hf; cases hf
  | succ n ih =>
    intro a0 x2 x5 x6 h hf
    refine ev_ok (o := 12) (ini := false) (Cl := C_X12_plait N) (Rc := RcI) (B := B_X12_plait) (K := fun pc ls st g => kb pc 320 (lgr 0 ls fun a0 => lgi 2 ls fun x2 => lgi 5 ls fun x5 => lgi 6 ls fun x6 => lgi 7 ls fun x7 => lgi 8 ls fun x8 => pe st (L_X12_plait_320 N (L_X12_plait_302 N n) N a0 x2 x5 x6 x7 x8 g)) (none)) rfl (fun e => by cases e) (by decide) (rcI_ok rfl) ?_ (co_X12_plait N q) lb_X12_plait 3000 302 S_X12_plait_302 _ _ h ls_X12_plait_302 hf
    intro pc ls st g e
    rcases kb_s e with ⟨rfl, e⟩ | e
    · obtain ⟨a0, e0, f0⟩ := lgr_s e
      obtain ⟨x2, e1, f1⟩ := lgi_s f0
      obtain ⟨x5, e2, f2⟩ := lgi_s f1
      obtain ⟨x6, e3, f3⟩ := lgi_s f2
      obtain ⟨x7, e4, f4⟩ := lgi_s f3
      obtain ⟨x8, e5, f5⟩ := lgi_s f4
      obtain ⟨qe, fe⟩ := pe_s f5
      subst qe
      exact MW.sub (List.forall_mem_cons.mpr ⟨lg_mem e0, List.forall_mem_cons.mpr ⟨lg_mem e1, List.forall_mem_cons.mpr ⟨lg_mem e2, List.forall_mem_cons.mpr ⟨lg_mem e3, List.forall_mem_cons.mpr ⟨lg_mem e4, List.forall_mem_cons.mpr ⟨lg_mem e5, fun _ h => absurd h List.not_mem_nil⟩⟩⟩⟩⟩⟩) (t_X12_plait_320 N (fun a0 x2 x5 x6 g e => ih a0 x2 x5 x6 g e) N a0 x2 x5 x6 x7 x8 g fe)
    cases e
set_option maxRecDepth 100000 in
theorem t_X12_plait_130 {X : Nat × (Nat → Int32)} (N : Nat) {q : Int32 × mH} : ∀ (n : Nat) (a0 : Nat) (x1 : Int32) (x2 : Int32) (x3 : Int32) (x4 : Int32) (x5 : Int32) (h : mH), L_X12_plait_130 N n a0 x1 x2 x3 x4 x5 h = some q → MW X y_X12_plait 6 130 [(0, .ref a0), (1, .int x1), (2, .int x2), (3, .int x3), (4, .int x4), (5, .int x5)] [] h (some (.int q.1)) q.2 := by
  intro n
  induction n with
  | zero => intro a0 x1 x2 x3 x4 x5 h hf; cases hf
  | succ n ih =>
    intro a0 x1 x2 x3 x4 x5 h hf
    refine ev_ok (o := 12) (ini := false) (Cl := C_X12_plait N) (Rc := RcI) (B := B_X12_plait) (K := fun pc ls st g => kb pc 173 (lgr 0 ls fun a0 => lgi 1 ls fun x1 => lgi 2 ls fun x2 => lgi 3 ls fun x3 => lgi 4 ls fun x4 => lgi 5 ls fun x5 => lgl_ 6 ls fun l6 => pl1 st fun s_0 st => pe st (J_X12_plait_173 N (L_X12_plait_130 N n) a0 x1 x2 x3 x4 x5 l6 s_0 g)) (kb pc 302 (lgr 0 ls fun a0 => lgi 2 ls fun x2 => lgi 5 ls fun x5 => lgi 6 ls fun x6 => pe st (L_X12_plait_302 N N a0 x2 x5 x6 g)) (none))) rfl (fun e => by cases e) (by decide) (rcI_ok rfl) ?_ (co_X12_plait N q) lb_X12_plait 3000 130 S_X12_plait_130 _ _ h ls_X12_plait_130 hf
    intro pc ls st g e
    rcases kb_s e with ⟨rfl, e⟩ | e
    · obtain ⟨a0, e0, f0⟩ := lgr_s e
      obtain ⟨x1, e1, f1⟩ := lgi_s f0
      obtain ⟨x2, e2, f2⟩ := lgi_s f1
      obtain ⟨x3, e3, f3⟩ := lgi_s f2
      obtain ⟨x4, e4, f4⟩ := lgi_s f3
      obtain ⟨x5, e5, f5⟩ := lgi_s f4
      obtain ⟨l6, e6, f6⟩ := lgl_s f5
      obtain ⟨s_0, r0, q0, g0⟩ := pl1_s f6
      obtain ⟨qe, fe⟩ := pe_s g0
      subst qe
      subst q0
      exact MW.sub (List.forall_mem_cons.mpr ⟨lg_mem e0, List.forall_mem_cons.mpr ⟨lg_mem e1, List.forall_mem_cons.mpr ⟨lg_mem e2, List.forall_mem_cons.mpr ⟨lg_mem e3, List.forall_mem_cons.mpr ⟨lg_mem e4, List.forall_mem_cons.mpr ⟨lg_mem e5, List.forall_mem_cons.mpr ⟨lg_mem e6, fun _ h => absurd h List.not_mem_nil⟩⟩⟩⟩⟩⟩⟩) (t_X12_plait_173 N (fun a0 x1 x2 x3 x4 x5 g e => ih a0 x1 x2 x3 x4 x5 g e) a0 x1 x2 x3 x4 x5 l6 s_0 g fe)
    rcases kb_s e with ⟨rfl, e⟩ | e
    · obtain ⟨a0, e0, f0⟩ := lgr_s e
      obtain ⟨x2, e1, f1⟩ := lgi_s f0
      obtain ⟨x5, e2, f2⟩ := lgi_s f1
      obtain ⟨x6, e3, f3⟩ := lgi_s f2
      obtain ⟨qe, fe⟩ := pe_s f3
      subst qe
      exact MW.sub (List.forall_mem_cons.mpr ⟨lg_mem e0, List.forall_mem_cons.mpr ⟨lg_mem e1, List.forall_mem_cons.mpr ⟨lg_mem e2, List.forall_mem_cons.mpr ⟨lg_mem e3, fun _ h => absurd h List.not_mem_nil⟩⟩⟩⟩) (t_X12_plait_302 N N a0 x2 x5 x6 g fe)
    cases e
set_option maxRecDepth 100000 in
theorem t_X12_plait_103 {X : Nat × (Nat → Int32)} (N : Nat) {q : Int32 × mH} : ∀ (n : Nat) (a0 : Nat) (x1 : Int32) (x2 : Int32) (x3 : Int32) (x4 : Int32) (h : mH), L_X12_plait_103 N n a0 x1 x2 x3 x4 h = some q → MW X y_X12_plait 6 103 [(0, .ref a0), (1, .int x1), (2, .int x2), (3, .int x3), (4, .int x4)] [] h (some (.int q.1)) q.2 := by
  intro n
  induction n with
  | zero => intro a0 x1 x2 x3 x4 h hf; cases hf
  | succ n ih =>
    intro a0 x1 x2 x3 x4 h hf
    refine ev_ok (o := 12) (ini := false) (Cl := C_X12_plait N) (Rc := RcI) (B := B_X12_plait) (K := fun pc ls st g => kb pc 103 (lgr 0 ls fun a0 => lgi 1 ls fun x1 => lgi 2 ls fun x2 => lgi 3 ls fun x3 => lgi 4 ls fun x4 => pe st (L_X12_plait_103 N n a0 x1 x2 x3 x4 g)) (kb pc 130 (lgr 0 ls fun a0 => lgi 1 ls fun x1 => lgi 2 ls fun x2 => lgi 3 ls fun x3 => lgi 4 ls fun x4 => lgi 5 ls fun x5 => pe st (L_X12_plait_130 N N a0 x1 x2 x3 x4 x5 g)) (none))) rfl (fun e => by cases e) (by decide) (rcI_ok rfl) ?_ (co_X12_plait N q) lb_X12_plait 3000 103 S_X12_plait_103 _ _ h ls_X12_plait_103 hf
    intro pc ls st g e
    rcases kb_s e with ⟨rfl, e⟩ | e
    · obtain ⟨a0, e0, f0⟩ := lgr_s e
      obtain ⟨x1, e1, f1⟩ := lgi_s f0
      obtain ⟨x2, e2, f2⟩ := lgi_s f1
      obtain ⟨x3, e3, f3⟩ := lgi_s f2
      obtain ⟨x4, e4, f4⟩ := lgi_s f3
      obtain ⟨qe, fe⟩ := pe_s f4
      subst qe
      exact MW.sub (List.forall_mem_cons.mpr ⟨lg_mem e0, List.forall_mem_cons.mpr ⟨lg_mem e1, List.forall_mem_cons.mpr ⟨lg_mem e2, List.forall_mem_cons.mpr ⟨lg_mem e3, List.forall_mem_cons.mpr ⟨lg_mem e4, fun _ h => absurd h List.not_mem_nil⟩⟩⟩⟩⟩) (ih a0 x1 x2 x3 x4 g fe)
    rcases kb_s e with ⟨rfl, e⟩ | e
    · obtain ⟨a0, e0, f0⟩ := lgr_s e
      obtain ⟨x1, e1, f1⟩ := lgi_s f0
      obtain ⟨x2, e2, f2⟩ := lgi_s f1
      obtain ⟨x3, e3, f3⟩ := lgi_s f2
      obtain ⟨x4, e4, f4⟩ := lgi_s f3
      obtain ⟨x5, e5, f5⟩ := lgi_s f4
      obtain ⟨qe, fe⟩ := pe_s f5
      subst qe
      exact MW.sub (List.forall_mem_cons.mpr ⟨lg_mem e0, List.forall_mem_cons.mpr ⟨lg_mem e1, List.forall_mem_cons.mpr ⟨lg_mem e2, List.forall_mem_cons.mpr ⟨lg_mem e3, List.forall_mem_cons.mpr ⟨lg_mem e4, List.forall_mem_cons.mpr ⟨lg_mem e5, fun _ h => absurd h List.not_mem_nil⟩⟩⟩⟩⟩⟩) (t_X12_plait_130 N N a0 x1 x2 x3 x4 x5 g fe)
    cases e
set_option maxRecDepth 100000 in
theorem t_X12_plait_48 {X : Nat × (Nat → Int32)} (N : Nat) {q : Int32 × mH} (a0 : Nat) (x1 : Int32) (x2 : Int32) (x3 : Int32) (h : mH) (hf : J_X12_plait_48 N a0 x1 x2 x3 h = some q) : MW X y_X12_plait 6 48 [(0, .ref a0), (1, .int x1), (2, .int x2), (3, .int x3)] [] h (some (.int q.1)) q.2 := by
  refine ev_ok (o := 12) (ini := false) (Cl := C_X12_plait N) (Rc := RcI) (B := B_X12_plait) (K := fun pc ls st g => kb pc 103 (lgr 0 ls fun a0 => lgi 1 ls fun x1 => lgi 2 ls fun x2 => lgi 3 ls fun x3 => lgi 4 ls fun x4 => pe st (L_X12_plait_103 N N a0 x1 x2 x3 x4 g)) (none)) rfl (fun e => by cases e) (by decide) (rcI_ok rfl) ?_ (co_X12_plait N q) lb_X12_plait 3000 48 S_X12_plait_48 _ _ h ls_X12_plait_48 hf
  intro pc ls st g e
  rcases kb_s e with ⟨rfl, e⟩ | e
  · obtain ⟨a0, e0, f0⟩ := lgr_s e
    obtain ⟨x1, e1, f1⟩ := lgi_s f0
    obtain ⟨x2, e2, f2⟩ := lgi_s f1
    obtain ⟨x3, e3, f3⟩ := lgi_s f2
    obtain ⟨x4, e4, f4⟩ := lgi_s f3
    obtain ⟨qe, fe⟩ := pe_s f4
    subst qe
    exact MW.sub (List.forall_mem_cons.mpr ⟨lg_mem e0, List.forall_mem_cons.mpr ⟨lg_mem e1, List.forall_mem_cons.mpr ⟨lg_mem e2, List.forall_mem_cons.mpr ⟨lg_mem e3, List.forall_mem_cons.mpr ⟨lg_mem e4, fun _ h => absurd h List.not_mem_nil⟩⟩⟩⟩⟩) (t_X12_plait_103 N N a0 x1 x2 x3 x4 g fe)
  cases e
set_option maxRecDepth 100000 in
theorem m_X12_plait (N : Nat) {a0 : Nat} {x1 : Int32} {x2 : Int32} {x3 : Int32} {h : mH} {q : Int32 × mH} (hf : f_X12_plait N a0 x1 x2 x3 h = some q) : MM y_X12_plait 6 [.ref a0, .int x1, .int x2, .int x3] h (some (.int q.1)) q.2 := by
  refine MM.of (mFx (j := 309) rfl).2.2.2.1 (Nat.le_of_ble_eq_true rfl) (fun X => ?_)
  refine ev_ok (o := 12) (ini := false) (Cl := C_X12_plait N) (Rc := RcI) (B := B_X12_plait) (K := fun pc ls st g => kb pc 48 (lgr 0 ls fun a0 => lgi 1 ls fun x1 => lgi 2 ls fun x2 => lgi 3 ls fun x3 => pe st (J_X12_plait_48 N a0 x1 x2 x3 g)) (none)) rfl (fun e => by cases e) (by decide) (rcI_ok rfl) ?_ (co_X12_plait N q) lb_X12_plait 3000 0 S_X12_plait_0 _ _ h ls_X12_plait_0 hf
  intro pc ls st g e
  rcases kb_s e with ⟨rfl, e⟩ | e
  · obtain ⟨a0, e0, f0⟩ := lgr_s e
    obtain ⟨x1, e1, f1⟩ := lgi_s f0
    obtain ⟨x2, e2, f2⟩ := lgi_s f1
    obtain ⟨x3, e3, f3⟩ := lgi_s f2
    obtain ⟨qe, fe⟩ := pe_s f3
    subst qe
    exact MW.sub (List.forall_mem_cons.mpr ⟨lg_mem e0, List.forall_mem_cons.mpr ⟨lg_mem e1, List.forall_mem_cons.mpr ⟨lg_mem e2, List.forall_mem_cons.mpr ⟨lg_mem e3, fun _ h => absurd h List.not_mem_nil⟩⟩⟩⟩) (t_X12_plait_48 N a0 x1 x2 x3 g fe)
  cases e
def J_X12_offOf_107 (N : Nat) (k31 : Nat → Int32 → Int32 → Int32 → mH → Option (Int32 × mH)) (a0 : Nat) (x1 : Int32) (x2 : Int32) (x3 : Int32) (s_0 : Int32) (h : mH) : Option (Int32 × mH) :=
  if x2 < s_0 then
    let w1 := iAdd x3 (jI 1)
    k31 a0 x1 s_0 w1 h
  else
    let w2 := iAdd x3 (jI 1)
    k31 a0 x1 x2 w2 h
def L_X12_offOf_45 (N : Nat) (k31 : Nat → Int32 → Int32 → Int32 → mH → Option (Int32 × mH)) : Nat → Nat → Int32 → Int32 → Int32 → Int32 → Int32 → mH → Option (Int32 × mH)
  | 0, _, _, _, _, _, _, _ => none
  | n + 1, a0, x1, x2, x3, x4, x5, h =>
    (gI h 12 a0 29).bind fun v1 =>
    if (jI 2) = 0 then none else
    if x5 < (iDiv v1 (jI 2)) then
      (gR h 12 a0 26).bind fun v2 =>
      (gR h 12 a0 27).bind fun v3 =>
      (gI h 12 a0 29).bind fun v4 =>
      if v4 = 0 then none else
      (ldI 0 h v3 (iRem (iAdd x3 x5) v4)).bind fun v5 =>
      (ldI 0 h v2 v5).bind fun v6 =>
      let w7 := iAdd x4 v6
      let w8 := iAdd x5 (jI 1)
      L_X12_offOf_45 N k31 n a0 x1 x2 x3 w7 w8 h
    else
      let w9 := iSub (iMul (jI 2) x4) x1
      if w9 < 0 then
        J_X12_offOf_107 N k31 a0 x1 x2 x3 (iNeg w9) h
      else
        J_X12_offOf_107 N k31 a0 x1 x2 x3 w9 h
def L_X12_offOf_31 (N : Nat) : Nat → Nat → Int32 → Int32 → Int32 → mH → Option (Int32 × mH)
  | 0, _, _, _, _, _ => none
  | n + 1, a0, x1, x2, x3, h =>
    (gI h 12 a0 29).bind fun v1 =>
    if x3 < v1 then
      L_X12_offOf_45 N (L_X12_offOf_31 N n) N a0 x1 x2 x3 (jI 0) (jI 0) h
    else
      some (x2, h)
def L_X12_offOf_4 (N : Nat) : Nat → Nat → Int32 → Int32 → mH → Option (Int32 × mH)
  | 0, _, _, _, _ => none
  | n + 1, a0, x1, x2, h =>
    (gI h 12 a0 29).bind fun v1 =>
    if x2 < v1 then
      (gR h 12 a0 26).bind fun v2 =>
      (ldI 0 h v2 x2).bind fun v3 =>
      let w4 := iAdd x1 v3
      let w5 := iAdd x2 (jI 1)
      L_X12_offOf_4 N n a0 w4 w5 h
    else
      L_X12_offOf_31 N N a0 x1 (jI 0) (jI 0) h
def f_X12_offOf (N : Nat) (a0 : Nat) (h : mH) : Option (Int32 × mH) :=
  L_X12_offOf_4 N N a0 (jI 0) (jI 0) h
def y_X12_offOf : mM := (yX12_offOf, cX12_offOf, 6, (some .int))
def B_X12_offOf : List (Nat × List mI) := [(27, [(.iconst 0, 1, [], [0]), (.istore_n 2, 1, [2], []), (.iconst 0, 1, [], [0]), (.istore_n 3, 1, [3], [])]), (86, [(.iconst 2, 1, [], [2]), (.iload 4, 2, [4], []), (.imul, 1, [], []), (.iload_n 1, 1, [1], []), (.isub, 1, [], []), (.istore 5, 2, [5], []), (.iload 5, 2, [5], []), (.ifCond .ge 9, 3, [105], []), (.iload 5, 2, [5], []), (.ineg, 1, [], []), (.goto 5, 3, [107], [])]), (105, [(.iload 5, 2, [5], [])]), (120, [(.iload_n 2, 1, [2], [])]), (121, [(.istore_n 2, 1, [2], []), (.iinc 3 1, 3, [3], [1]), (.goto (-94), 3, [31], [])]), (128, [(.iload_n 2, 1, [2], []), (.ireturn, 1, [], [])])]
def S_X12_offOf_0 : List mI := [(.iconst 0, 1, [], [0]), (.istore_n 1, 1, [1], []), (.iconst 0, 1, [], [0]), (.istore_n 2, 1, [2], [])]
def S_X12_offOf_4 : List mI := [(.iload_n 2, 1, [2], []), (.aload_n 0, 1, [0], []), (.getfield 318, 3, [12, 29, 0, 155], []), (.if_icmp .ge 18, 3, [27], []), (.iload_n 1, 1, [1], []), (.aload_n 0, 1, [0], []), (.getfield 49, 3, [12, 26, 2, 152], []), (.iload_n 2, 1, [2], []), (.iaload, 1, [0], []), (.iadd, 1, [], []), (.istore_n 1, 1, [1], []), (.iinc 2 1, 3, [2], [1]), (.goto (-20), 3, [4], [])]
def S_X12_offOf_31 : List mI := [(.iload_n 3, 1, [3], []), (.aload_n 0, 1, [0], []), (.getfield 318, 3, [12, 29, 0, 155], []), (.if_icmp .ge 92, 3, [128], []), (.iconst 0, 1, [], [0]), (.istore 4, 2, [4], []), (.iconst 0, 1, [], [0]), (.istore 5, 2, [5], [])]
def S_X12_offOf_45 : List mI := [(.iload 5, 2, [5], []), (.aload_n 0, 1, [0], []), (.getfield 318, 3, [12, 29, 0, 155], []), (.iconst 2, 1, [], [2]), (.idiv, 1, [], []), (.if_icmp .ge 33, 3, [86], []), (.iload 4, 2, [4], []), (.aload_n 0, 1, [0], []), (.getfield 49, 3, [12, 26, 2, 152], []), (.aload_n 0, 1, [0], []), (.getfield 52, 3, [12, 27, 2, 153], []), (.iload_n 3, 1, [3], []), (.iload 5, 2, [5], []), (.iadd, 1, [], []), (.aload_n 0, 1, [0], []), (.getfield 318, 3, [12, 29, 0, 155], []), (.irem, 1, [], []), (.iaload, 1, [0], []), (.iaload, 1, [0], []), (.iadd, 1, [], []), (.istore 4, 2, [4], []), (.iinc 5 1, 3, [5], [1]), (.goto (-38), 3, [45], [])]
def S_X12_offOf_107 : List mI := [(.istore 5, 2, [5], []), (.iload 5, 2, [5], []), (.iload_n 2, 1, [2], []), (.if_icmp .le 8, 3, [120], []), (.iload 5, 2, [5], []), (.goto 4, 3, [121], [])]
theorem lb_X12_offOf : B_X12_offOf.all (fun b => lst y_X12_offOf.2.1 12 y_X12_offOf.2.2.1 false b.1 b.2) = true := by decide +kernel
theorem ls_X12_offOf_0 : lst y_X12_offOf.2.1 12 y_X12_offOf.2.2.1 false 0 S_X12_offOf_0 = true := by decide +kernel
theorem ls_X12_offOf_4 : lst y_X12_offOf.2.1 12 y_X12_offOf.2.2.1 false 4 S_X12_offOf_4 = true := by decide +kernel
theorem ls_X12_offOf_31 : lst y_X12_offOf.2.1 12 y_X12_offOf.2.2.1 false 31 S_X12_offOf_31 = true := by decide +kernel
theorem ls_X12_offOf_45 : lst y_X12_offOf.2.1 12 y_X12_offOf.2.2.1 false 45 S_X12_offOf_45 = true := by decide +kernel
theorem ls_X12_offOf_107 : lst y_X12_offOf.2.1 12 y_X12_offOf.2.2.1 false 107 S_X12_offOf_107 = true := by decide +kernel
def C_X12_offOf (N : Nat) : Nat → List Value → mH → (Option Value → mH → Option (Int32 × mH)) → Option (Int32 × mH) := fun j as g k => none
theorem co_X12_offOf (N : Nat) (q : Int32 × mH) : clOK 4 q (C_X12_offOf N) := by
  intro j as g k e
  cases e
set_option maxRecDepth 100000 in
theorem t_X12_offOf_107 {X : Nat × (Nat → Int32)} (N : Nat) {q : Int32 × mH} {k31 : Nat → Int32 → Int32 → Int32 → mH → Option (Int32 × mH)} (hk31 : ∀ (a0 : Nat) (x1 : Int32) (x2 : Int32) (x3 : Int32) g, k31 a0 x1 x2 x3 g = some q → MW X y_X12_offOf 4 31 [(0, .ref a0), (1, .int x1), (2, .int x2), (3, .int x3)] [] g (some (.int q.1)) q.2) (a0 : Nat) (x1 : Int32) (x2 : Int32) (x3 : Int32) (s_0 : Int32) (h : mH) (hf : J_X12_offOf_107 N k31 a0 x1 x2 x3 s_0 h = some q) : MW X y_X12_offOf 4 107 [(0, .ref a0), (1, .int x1), (2, .int x2), (3, .int x3)] [.int s_0] h (some (.int q.1)) q.2 := by
  refine ev_ok (o := 12) (ini := false) (Cl := C_X12_offOf N) (Rc := RcI) (B := B_X12_offOf) (K := fun pc ls st g => kb pc 31 (lgr 0 ls fun a0 => lgi 1 ls fun x1 => lgi 2 ls fun x2 => lgi 3 ls fun x3 => pe st (k31 a0 x1 x2 x3 g)) (none)) rfl (fun e => by cases e) (by decide) (rcI_ok rfl) ?_ (co_X12_offOf N q) lb_X12_offOf 3000 107 S_X12_offOf_107 _ _ h ls_X12_offOf_107 hf
  intro pc ls st g e
  rcases kb_s e with ⟨rfl, e⟩ | e
  · obtain ⟨a0, e0, f0⟩ := lgr_s e
    obtain ⟨x1, e1, f1⟩ := lgi_s f0
    obtain ⟨x2, e2, f2⟩ := lgi_s f1
    obtain ⟨x3, e3, f3⟩ := lgi_s f2
    obtain ⟨qe, fe⟩ := pe_s f3
    subst qe
    exact MW.sub (List.forall_mem_cons.mpr ⟨lg_mem e0, List.forall_mem_cons.mpr ⟨lg_mem e1, List.forall_mem_cons.mpr ⟨lg_mem e2, List.forall_mem_cons.mpr ⟨lg_mem e3, fun _ h => absurd h List.not_mem_nil⟩⟩⟩⟩) (hk31 a0 x1 x2 x3 g fe)
  cases e
set_option maxRecDepth 100000 in
theorem t_X12_offOf_45 {X : Nat × (Nat → Int32)} (N : Nat) {q : Int32 × mH} {k31 : Nat → Int32 → Int32 → Int32 → mH → Option (Int32 × mH)} (hk31 : ∀ (a0 : Nat) (x1 : Int32) (x2 : Int32) (x3 : Int32) g, k31 a0 x1 x2 x3 g = some q → MW X y_X12_offOf 4 31 [(0, .ref a0), (1, .int x1), (2, .int x2), (3, .int x3)] [] g (some (.int q.1)) q.2) : ∀ (n : Nat) (a0 : Nat) (x1 : Int32) (x2 : Int32) (x3 : Int32) (x4 : Int32) (x5 : Int32) (h : mH), L_X12_offOf_45 N k31 n a0 x1 x2 x3 x4 x5 h = some q → MW X y_X12_offOf 4 45 [(0, .ref a0), (1, .int x1), (2, .int x2), (3, .int x3), (4, .int x4), (5, .int x5)] [] h (some (.int q.1)) q.2 := by
  intro n
  induction n with
  | zero => intro a0 x1 x2 x3 x4 x5 h hf; cases hf
  | succ n ih =>
    intro a0 x1 x2 x3 x4 x5 h hf
    refine ev_ok (o := 12) (ini := false) (Cl := C_X12_offOf N) (Rc := RcI) (B := B_X12_offOf) (K := fun pc ls st g => kb pc 45 (lgr 0 ls fun a0 => lgi 1 ls fun x1 => lgi 2 ls fun x2 => lgi 3 ls fun x3 => lgi 4 ls fun x4 => lgi 5 ls fun x5 => pe st (L_X12_offOf_45 N k31 n a0 x1 x2 x3 x4 x5 g)) (kb pc 107 (lgr 0 ls fun a0 => lgi 1 ls fun x1 => lgi 2 ls fun x2 => lgi 3 ls fun x3 => pp1 st fun s_0 st => pe st (J_X12_offOf_107 N k31 a0 x1 x2 x3 s_0 g)) (none))) rfl (fun e => by cases e) (by decide) (rcI_ok rfl) ?_ (co_X12_offOf N q) lb_X12_offOf 3000 45 S_X12_offOf_45 _ _ h ls_X12_offOf_45 hf
    intro pc ls st g e
    rcases kb_s e with ⟨rfl, e⟩ | e
    · obtain ⟨a0, e0, f0⟩ := lgr_s e
      obtain ⟨x1, e1, f1⟩ := lgi_s f0
      obtain ⟨x2, e2, f2⟩ := lgi_s f1
      obtain ⟨x3, e3, f3⟩ := lgi_s f2
      obtain ⟨x4, e4, f4⟩ := lgi_s f3
      obtain ⟨x5, e5, f5⟩ := lgi_s f4
      obtain ⟨qe, fe⟩ := pe_s f5
      subst qe
      exact MW.sub (List.forall_mem_cons.mpr ⟨lg_mem e0, List.forall_mem_cons.mpr ⟨lg_mem e1, List.forall_mem_cons.mpr ⟨lg_mem e2, List.forall_mem_cons.mpr ⟨lg_mem e3, List.forall_mem_cons.mpr ⟨lg_mem e4, List.forall_mem_cons.mpr ⟨lg_mem e5, fun _ h => absurd h List.not_mem_nil⟩⟩⟩⟩⟩⟩) (ih a0 x1 x2 x3 x4 x5 g fe)
    rcases kb_s e with ⟨rfl, e⟩ | e
    · obtain ⟨a0, e0, f0⟩ := lgr_s e
      obtain ⟨x1, e1, f1⟩ := lgi_s f0
      obtain ⟨x2, e2, f2⟩ := lgi_s f1
      obtain ⟨x3, e3, f3⟩ := lgi_s f2
      obtain ⟨s_0, r0, q0, g0⟩ := pp1_s f3
      obtain ⟨qe, fe⟩ := pe_s g0
      subst qe
      subst q0
      exact MW.sub (List.forall_mem_cons.mpr ⟨lg_mem e0, List.forall_mem_cons.mpr ⟨lg_mem e1, List.forall_mem_cons.mpr ⟨lg_mem e2, List.forall_mem_cons.mpr ⟨lg_mem e3, fun _ h => absurd h List.not_mem_nil⟩⟩⟩⟩) (t_X12_offOf_107 N hk31 a0 x1 x2 x3 s_0 g fe)
    cases e
set_option maxRecDepth 100000 in
theorem t_X12_offOf_31 {X : Nat × (Nat → Int32)} (N : Nat) {q : Int32 × mH} : ∀ (n : Nat) (a0 : Nat) (x1 : Int32) (x2 : Int32) (x3 : Int32) (h : mH), L_X12_offOf_31 N n a0 x1 x2 x3 h = some q → MW X y_X12_offOf 4 31 [(0, .ref a0), (1, .int x1), (2, .int x2), (3, .int x3)] [] h (some (.int q.1)) q.2 := by
  intro n
  induction n with
  | zero => intro a0 x1 x2 x3 h hf; cases hf
  | succ n ih =>
    intro a0 x1 x2 x3 h hf
    refine ev_ok (o := 12) (ini := false) (Cl := C_X12_offOf N) (Rc := RcI) (B := B_X12_offOf) (K := fun pc ls st g => kb pc 45 (lgr 0 ls fun a0 => lgi 1 ls fun x1 => lgi 2 ls fun x2 => lgi 3 ls fun x3 => lgi 4 ls fun x4 => lgi 5 ls fun x5 => pe st (L_X12_offOf_45 N (L_X12_offOf_31 N n) N a0 x1 x2 x3 x4 x5 g)) (none)) rfl (fun e => by cases e) (by decide) (rcI_ok rfl) ?_ (co_X12_offOf N q) lb_X12_offOf 3000 31 S_X12_offOf_31 _ _ h ls_X12_offOf_31 hf
    intro pc ls st g e
    rcases kb_s e with ⟨rfl, e⟩ | e
    · obtain ⟨a0, e0, f0⟩ := lgr_s e
      obtain ⟨x1, e1, f1⟩ := lgi_s f0
      obtain ⟨x2, e2, f2⟩ := lgi_s f1
      obtain ⟨x3, e3, f3⟩ := lgi_s f2
      obtain ⟨x4, e4, f4⟩ := lgi_s f3
      obtain ⟨x5, e5, f5⟩ := lgi_s f4
      obtain ⟨qe, fe⟩ := pe_s f5
      subst qe
      exact MW.sub (List.forall_mem_cons.mpr ⟨lg_mem e0, List.forall_mem_cons.mpr ⟨lg_mem e1, List.forall_mem_cons.mpr ⟨lg_mem e2, List.forall_mem_cons.mpr ⟨lg_mem e3, List.forall_mem_cons.mpr ⟨lg_mem e4, List.forall_mem_cons.mpr ⟨lg_mem e5, fun _ h => absurd h List.not_mem_nil⟩⟩⟩⟩⟩⟩) (t_X12_offOf_45 N (fun a0 x1 x2 x3 g e => ih a0 x1 x2 x3 g e) N a0 x1 x2 x3 x4 x5 g fe)
    cases e
set_option maxRecDepth 100000 in
theorem t_X12_offOf_4 {X : Nat × (Nat → Int32)} (N : Nat) {q : Int32 × mH} : ∀ (n : Nat) (a0 : Nat) (x1 : Int32) (x2 : Int32) (h : mH), L_X12_offOf_4 N n a0 x1 x2 h = some q → MW X y_X12_offOf 4 4 [(0, .ref a0), (1, .int x1), (2, .int x2)] [] h (some (.int q.1)) q.2 := by
  intro n
  induction n with
  | zero => intro a0 x1 x2 h hf; cases hf
  | succ n ih =>
    intro a0 x1 x2 h hf
    refine ev_ok (o := 12) (ini := false) (Cl := C_X12_offOf N) (Rc := RcI) (B := B_X12_offOf) (K := fun pc ls st g => kb pc 4 (lgr 0 ls fun a0 => lgi 1 ls fun x1 => lgi 2 ls fun x2 => pe st (L_X12_offOf_4 N n a0 x1 x2 g)) (kb pc 31 (lgr 0 ls fun a0 => lgi 1 ls fun x1 => lgi 2 ls fun x2 => lgi 3 ls fun x3 => pe st (L_X12_offOf_31 N N a0 x1 x2 x3 g)) (none))) rfl (fun e => by cases e) (by decide) (rcI_ok rfl) ?_ (co_X12_offOf N q) lb_X12_offOf 3000 4 S_X12_offOf_4 _ _ h ls_X12_offOf_4 hf
    intro pc ls st g e
    rcases kb_s e with ⟨rfl, e⟩ | e
    · obtain ⟨a0, e0, f0⟩ := lgr_s e
      obtain ⟨x1, e1, f1⟩ := lgi_s f0
      obtain ⟨x2, e2, f2⟩ := lgi_s f1
      obtain ⟨qe, fe⟩ := pe_s f2
      subst qe
      exact MW.sub (List.forall_mem_cons.mpr ⟨lg_mem e0, List.forall_mem_cons.mpr ⟨lg_mem e1, List.forall_mem_cons.mpr ⟨lg_mem e2, fun _ h => absurd h List.not_mem_nil⟩⟩⟩) (ih a0 x1 x2 g fe)
    rcases kb_s e with ⟨rfl, e⟩ | e
    · obtain ⟨a0, e0, f0⟩ := lgr_s e
      obtain ⟨x1, e1, f1⟩ := lgi_s f0
      obtain ⟨x2, e2, f2⟩ := lgi_s f1
      obtain ⟨x3, e3, f3⟩ := lgi_s f2
      obtain ⟨qe, fe⟩ := pe_s f3
      subst qe
      exact MW.sub (List.forall_mem_cons.mpr ⟨lg_mem e0, List.forall_mem_cons.mpr ⟨lg_mem e1, List.forall_mem_cons.mpr ⟨lg_mem e2, List.forall_mem_cons.mpr ⟨lg_mem e3, fun _ h => absurd h List.not_mem_nil⟩⟩⟩⟩) (t_X12_offOf_31 N N a0 x1 x2 x3 g fe)
    cases e
set_option maxRecDepth 100000 in
theorem m_X12_offOf (N : Nat) {a0 : Nat} {h : mH} {q : Int32 × mH} (hf : f_X12_offOf N a0 h = some q) : MM y_X12_offOf 4 [.ref a0] h (some (.int q.1)) q.2 := by
  refine MM.of (mFx (j := 310) rfl).2.2.2.1 (Nat.le_of_ble_eq_true rfl) (fun X => ?_)
  refine ev_ok (o := 12) (ini := false) (Cl := C_X12_offOf N) (Rc := RcI) (B := B_X12_offOf) (K := fun pc ls st g => kb pc 4 (lgr 0 ls fun a0 => lgi 1 ls fun x1 => lgi 2 ls fun x2 => pe st (L_X12_offOf_4 N N a0 x1 x2 g)) (none)) rfl (fun e => by cases e) (by decide) (rcI_ok rfl) ?_ (co_X12_offOf N q) lb_X12_offOf 3000 0 S_X12_offOf_0 _ _ h ls_X12_offOf_0 hf
  intro pc ls st g e
  rcases kb_s e with ⟨rfl, e⟩ | e
  · obtain ⟨a0, e0, f0⟩ := lgr_s e
    obtain ⟨x1, e1, f1⟩ := lgi_s f0
    obtain ⟨x2, e2, f2⟩ := lgi_s f1
    obtain ⟨qe, fe⟩ := pe_s f2
    subst qe
    exact MW.sub (List.forall_mem_cons.mpr ⟨lg_mem e0, List.forall_mem_cons.mpr ⟨lg_mem e1, List.forall_mem_cons.mpr ⟨lg_mem e2, fun _ h => absurd h List.not_mem_nil⟩⟩⟩) (t_X12_offOf_4 N N a0 x1 x2 g fe)
  cases e
def L_X12_puts_38 (N : Nat) (rc : Nat → Int32 → Int32 → mH → Option (mH)) : Nat → Nat → Int32 → mH → Option (mH)
  | 0, _, _, _ => none
  | n + 1, a0, x4, h =>
    (gI h 12 a0 29).bind fun v1 =>
    if x4 < v1 then
      (gR h 12 a0 28).bind fun v2 =>
      (gR h 12 a0 27).bind fun v3 =>
      (ldI 0 h v3 x4).bind fun v4 =>
      (stI 0 h v2 x4 v4).bind fun h5 =>
      let w6 := iAdd x4 (jI 1)
      L_X12_puts_38 N rc n a0 w6 h5
    else
      some h
def J_X12_puts_86 (N : Nat) (rc : Nat → Int32 → Int32 → mH → Option (mH)) (k70 : Nat → Int32 → Int32 → Int32 → mH → Option (mH)) (a0 : Nat) (x1 : Int32) (x2 : Int32) (x3 : Int32) (h : mH) : Option (mH) :=
  if (iAnd (iShr x2 x3) (jI 1)) = (jI 1) then
    let w1 := iAdd x3 (jI 1)
    k70 a0 x1 x2 w1 h
  else
    (gR h 12 a0 27).bind fun v2 =>
    (stI 0 h v2 x1 x3).bind fun h3 =>
    (rcv h3 12 a0).bind fun _ =>
    (rc a0 (iAdd x1 (jI 1)) (iOr x2 (iShl (jI 1) x3)) h3).bind fun h4 =>
    let w5 := iAdd x3 (jI 1)
    k70 a0 x1 x2 w5 h4
def L_X12_puts_70 (N : Nat) (rc : Nat → Int32 → Int32 → mH → Option (mH)) : Nat → Nat → Int32 → Int32 → Int32 → mH → Option (mH)
  | 0, _, _, _, _, _ => none
  | n + 1, a0, x1, x2, x3, h =>
    (gI h 12 a0 29).bind fun v1 =>
    if x3 < v1 then
      if 0 < x1 then
        J_X12_puts_86 N rc (L_X12_puts_70 N rc n) a0 x1 x2 x3 h
      else
        if x3 = 0 then
          J_X12_puts_86 N rc (L_X12_puts_70 N rc n) a0 x1 x2 x3 h
        else
          some h
    else
      some h
def f_X12_puts (N : Nat) : Nat → Nat → Int32 → Int32 → mH → Option (mH)
  | 0, _, _, _, _ => none
  | n + 1, a0, x1, x2, h =>
    (gI h 12 a0 29).bind fun v1 =>
    if x1 = v1 then
      (rcv h 12 a0).bind fun _ =>
      (f_X12_offOf N a0 h).bind fun p2 =>
      (gI p2.2 12 a0 30).bind fun v3 =>
      if v3 = (jI (-1)) then
        (pV p2.2 12 a0 30 (.int p2.1)).bind fun h4 =>
        L_X12_puts_38 N (f_X12_puts N n) N a0 (jI 0) h4
      else
        (gI p2.2 12 a0 30).bind fun v5 =>
        if p2.1 < v5 then
          (pV p2.2 12 a0 30 (.int p2.1)).bind fun h6 =>
          L_X12_puts_38 N (f_X12_puts N n) N a0 (jI 0) h6
        else
          some p2.2
    else
      L_X12_puts_70 N (f_X12_puts N n) N a0 x1 x2 (jI 0) h
def y_X12_puts : mM := (yX12_puts, cX12_puts, 5, none)
def B_X12_puts : List (Nat × List mI) := [(30, [(.aload_n 0, 1, [0], []), (.iload_n 3, 1, [3], []), (.putfield 324, 3, [12, 30, 0, 156], []), (.iconst 0, 1, [], [0]), (.istore 4, 2, [4], [])]), (67, [(.return_, 1, [], [])]), (68, [(.iconst 0, 1, [], [0]), (.istore_n 3, 1, [3], [])]), (98, [(.aload_n 0, 1, [0], []), (.getfield 52, 3, [12, 27, 2, 153], []), (.iload_n 1, 1, [1], []), (.iload_n 3, 1, [3], []), (.iastore, 1, [], []), (.aload_n 0, 1, [0], []), (.iload_n 1, 1, [1], []), (.iconst 1, 1, [], [1]), (.iadd, 1, [], []), (.iload_n 2, 1, [2], []), (.iconst 1, 1, [], [1]), (.iload_n 3, 1, [3], []), (.ishl, 1, [], []), (.ior, 1, [], []), (.invokevirtual 327, 3, [0, 311, 2, 12, 351], [])]), (117, [(.iinc 3 1, 3, [3], [1]), (.goto (-50), 3, [70], [])]), (123, [(.return_, 1, [], [])])]
def S_X12_puts_0 : List mI := [(.iload_n 1, 1, [1], []), (.aload_n 0, 1, [0], []), (.getfield 318, 3, [12, 29, 0, 155], []), (.if_icmp .ne 63, 3, [68], []), (.aload_n 0, 1, [0], []), (.invokevirtual 321, 3, [0, 310, 0, 12, 352], []), (.istore_n 3, 1, [3], []), (.aload_n 0, 1, [0], []), (.getfield 324, 3, [12, 30, 0, 156], []), (.iconst (-1), 1, [], [-1]), (.if_icmp .eq 12, 3, [30], []), (.iload_n 3, 1, [3], []), (.aload_n 0, 1, [0], []), (.getfield 324, 3, [12, 30, 0, 156], []), (.if_icmp .lt 4, 3, [30], []), (.return_, 1, [], [])]
def S_X12_puts_38 : List mI := [(.iload 4, 2, [4], []), (.aload_n 0, 1, [0], []), (.getfield 318, 3, [12, 29, 0, 155], []), (.if_icmp .ge 23, 3, [67], []), (.aload_n 0, 1, [0], []), (.getfield 55, 3, [12, 28, 2, 154], []), (.iload 4, 2, [4], []), (.aload_n 0, 1, [0], []), (.getfield 52, 3, [12, 27, 2, 153], []), (.iload 4, 2, [4], []), (.iaload, 1, [0], []), (.iastore, 1, [], []), (.iinc 4 1, 3, [4], [1]), (.goto (-26), 3, [38], [])]
def S_X12_puts_70 : List mI := [(.iload_n 3, 1, [3], []), (.aload_n 0, 1, [0], []), (.getfield 318, 3, [12, 29, 0, 155], []), (.if_icmp .ge 48, 3, [123], []), (.iload_n 1, 1, [1], []), (.ifCond .gt 7, 3, [86], []), (.iload_n 3, 1, [3], []), (.ifCond .ne 40, 3, [123], [])]
def S_X12_puts_86 : List mI := [(.iload_n 2, 1, [2], []), (.iload_n 3, 1, [3], []), (.ishr, 1, [], []), (.iconst 1, 1, [], [1]), (.iand, 1, [], []), (.iconst 1, 1, [], [1]), (.if_icmp .ne 6, 3, [98], []), (.goto 22, 3, [117], [])]
theorem lb_X12_puts : B_X12_puts.all (fun b => lst y_X12_puts.2.1 12 y_X12_puts.2.2.1 false b.1 b.2) = true := by decide +kernel
theorem ls_X12_puts_0 : lst y_X12_puts.2.1 12 y_X12_puts.2.2.1 false 0 S_X12_puts_0 = true := by decide +kernel
theorem ls_X12_puts_38 : lst y_X12_puts.2.1 12 y_X12_puts.2.2.1 false 38 S_X12_puts_38 = true := by decide +kernel
theorem ls_X12_puts_70 : lst y_X12_puts.2.1 12 y_X12_puts.2.2.1 false 70 S_X12_puts_70 = true := by decide +kernel
theorem ls_X12_puts_86 : lst y_X12_puts.2.1 12 y_X12_puts.2.2.1 false 86 S_X12_puts_86 = true := by decide +kernel
def C_X12_puts (N : Nat) (rc : Nat → Int32 → Int32 → mH → Option (mH)) : Nat → List Value → mH → (Option Value → mH → Option (mH)) → Option (mH) := fun j as g k => kb j 310 (pr1 as fun b0 as => pe as ((f_X12_offOf N b0 g).bind fun p => k (some (.int p.1)) p.2)) (kb j 311 (pr1 as fun b0 as => pp1 as fun b1 as => pp1 as fun b2 as => pe as ((rc b0 b1 b2 g).bind fun p => k none p)) (none))
theorem co_X12_puts (N : Nat) {d : Nat} (hd : 4 < d) {rc : Nat → Int32 → Int32 → mH → Option (mH)} (hrc : ∀ a0 x1 x2 g p, rc a0 x1 x2 g = some p → ∃ d', d' < d ∧ MM y_X12_puts d' [.ref a0, .int x1, .int x2] g none p) (q : mH) : clOK d q (C_X12_puts N rc) := by
  intro j as g k e
  rcases kb_s e with ⟨rfl, e⟩ | e
  · obtain ⟨b0, r0, q0, f0⟩ := pr1_s e
    obtain ⟨qe, fe⟩ := pe_s f0
    obtain ⟨p, e1, e2⟩ := bnd_s fe
    subst qe
    subst q0
    exact ⟨_, _, _, _, 4, rfl, (by omega), m_X12_offOf N e1, e2⟩
  rcases kb_s e with ⟨rfl, e⟩ | e
  · obtain ⟨b0, r0, q0, f0⟩ := pr1_s e
    obtain ⟨b1, r1, q1, f1⟩ := pp1_s f0
    obtain ⟨b2, r2, q2, f2⟩ := pp1_s f1
    obtain ⟨qe, fe⟩ := pe_s f2
    obtain ⟨p, e1, e2⟩ := bnd_s fe
    subst qe
    subst q2
    subst q1
    subst q0
    obtain ⟨d2, hd2, hM⟩ := hrc _ _ _ _ _ e1
    exact ⟨_, _, _, _, d2, rfl, hd2, hM, e2⟩
  cases e
set_option maxRecDepth 100000 in
theorem t_X12_puts_38 {X : Nat × (Nat → Int32)} (N : Nat) {d : Nat} (hd : 4 < d) {rc : Nat → Int32 → Int32 → mH → Option (mH)} (hrc : ∀ a0 x1 x2 g p, rc a0 x1 x2 g = some p → ∃ d', d' < d ∧ MM y_X12_puts d' [.ref a0, .int x1, .int x2] g none p) {q : mH} : ∀ (n : Nat) (a0 : Nat) (x4 : Int32) (h : mH), L_X12_puts_38 N rc n a0 x4 h = some q → MW X y_X12_puts d 38 [(0, .ref a0), (4, .int x4)] [] h none q := by
  intro n
  induction n with
  | zero => intro a0 x4 h hf; cases hf
  | succ n ih =>
    intro a0 x4 h hf
    refine ev_ok (o := 12) (ini := false) (Cl := C_X12_puts N rc) (Rc := RcV) (B := B_X12_puts) (K := fun pc ls st g => kb pc 38 (lgr 0 ls fun a0 => lgi 4 ls fun x4 => pe st (L_X12_puts_38 N rc n a0 x4 g)) (none)) rfl (fun e => by cases e) (by omega) (rcV_ok rfl) ?_ (co_X12_puts N hd hrc q) lb_X12_puts 3000 38 S_X12_puts_38 _ _ h ls_X12_puts_38 hf
    intro pc ls st g e
    rcases kb_s e with ⟨rfl, e⟩ | e
    · obtain ⟨a0, e0, f0⟩ := lgr_s e
      obtain ⟨x4, e1, f1⟩ := lgi_s f0
      obtain ⟨qe, fe⟩ := pe_s f1
      subst qe
      exact MW.sub (List.forall_mem_cons.mpr ⟨lg_mem e0, List.forall_mem_cons.mpr ⟨lg_mem e1, fun _ h => absurd h List.not_mem_nil⟩⟩) (ih a0 x4 g fe)
    cases e
set_option maxRecDepth 100000 in
theorem t_X12_puts_86 {X : Nat × (Nat → Int32)} (N : Nat) {d : Nat} (hd : 4 < d) {rc : Nat → Int32 → Int32 → mH → Option (mH)} (hrc : ∀ a0 x1 x2 g p, rc a0 x1 x2 g = some p → ∃ d', d' < d ∧ MM y_X12_puts d' [.ref a0, .int x1, .int x2] g none p) {q : mH} {k70 : Nat → Int32 → Int32 → Int32 → mH → Option (mH)} (hk70 : ∀ (a0 : Nat) (x1 : Int32) (x2 : Int32) (x3 : Int32) g, k70 a0 x1 x2 x3 g = some q → MW X y_X12_puts d 70 [(0, .ref a0), (1, .int x1), (2, .int x2), (3, .int x3)] [] g none q) (a0 : Nat) (x1 : Int32) (x2 : Int32) (x3 : Int32) (h : mH) (hf : J_X12_puts_86 N rc k70 a0 x1 x2 x3 h = some q) : MW X y_X12_puts d 86 [(0, .ref a0), (1, .int x1), (2, .int x2), (3, .int x3)] [] h none q := by
  refine ev_ok (o := 12) (ini := false) (Cl := C_X12_puts N rc) (Rc := RcV) (B := B_X12_puts) (K := fun pc ls st g => kb pc 70 (lgr 0 ls fun a0 => lgi 1 ls fun x1 => lgi 2 ls fun x2 => lgi 3 ls fun x3 => pe st (k70 a0 x1 x2 x3 g)) (none)) rfl (fun e => by cases e) (by omega) (rcV_ok rfl) ?_ (co_X12_puts N hd hrc q) lb_X12_puts 3000 86 S_X12_puts_86 _ _ h ls_X12_puts_86 hf
  intro pc ls st g e
  rcases kb_s e with ⟨rfl, e⟩ | e
  · obtain ⟨a0, e0, f0⟩ := lgr_s e
    obtain ⟨x1, e1, f1⟩ := lgi_s f0
    obtain ⟨x2, e2, f2⟩ := lgi_s f1
    obtain ⟨x3, e3, f3⟩ := lgi_s f2
    obtain ⟨qe, fe⟩ := pe_s f3
    subst qe
    exact MW.sub (List.forall_mem_cons.mpr ⟨lg_mem e0, List.forall_mem_cons.mpr ⟨lg_mem e1, List.forall_mem_cons.mpr ⟨lg_mem e2, List.forall_mem_cons.mpr ⟨lg_mem e3, fun _ h => absurd h List.not_mem_nil⟩⟩⟩⟩) (hk70 a0 x1 x2 x3 g fe)
  cases e
set_option maxRecDepth 100000 in
theorem t_X12_puts_70 {X : Nat × (Nat → Int32)} (N : Nat) {d : Nat} (hd : 4 < d) {rc : Nat → Int32 → Int32 → mH → Option (mH)} (hrc : ∀ a0 x1 x2 g p, rc a0 x1 x2 g = some p → ∃ d', d' < d ∧ MM y_X12_puts d' [.ref a0, .int x1, .int x2] g none p) {q : mH} : ∀ (n : Nat) (a0 : Nat) (x1 : Int32) (x2 : Int32) (x3 : Int32) (h : mH), L_X12_puts_70 N rc n a0 x1 x2 x3 h = some q → MW X y_X12_puts d 70 [(0, .ref a0), (1, .int x1), (2, .int x2), (3, .int x3)] [] h none q := by
  intro n
  induction n with
  | zero => intro a0 x1 x2 x3 h hf; cases hf
  | succ n ih =>
    intro a0 x1 x2 x3 h hf
    refine ev_ok (o := 12) (ini := false) (Cl := C_X12_puts N rc) (Rc := RcV) (B := B_X12_puts) (K := fun pc ls st g => kb pc 86 (lgr 0 ls fun a0 => lgi 1 ls fun x1 => lgi 2 ls fun x2 => lgi 3 ls fun x3 => pe st (J_X12_puts_86 N rc (L_X12_puts_70 N rc n) a0 x1 x2 x3 g)) (none)) rfl (fun e => by cases e) (by omega) (rcV_ok rfl) ?_ (co_X12_puts N hd hrc q) lb_X12_puts 3000 70 S_X12_puts_70 _ _ h ls_X12_puts_70 hf
    intro pc ls st g e
    rcases kb_s e with ⟨rfl, e⟩ | e
    · obtain ⟨a0, e0, f0⟩ := lgr_s e
      obtain ⟨x1, e1, f1⟩ := lgi_s f0
      obtain ⟨x2, e2, f2⟩ := lgi_s f1
      obtain ⟨x3, e3, f3⟩ := lgi_s f2
      obtain ⟨qe, fe⟩ := pe_s f3
      subst qe
      exact MW.sub (List.forall_mem_cons.mpr ⟨lg_mem e0, List.forall_mem_cons.mpr ⟨lg_mem e1, List.forall_mem_cons.mpr ⟨lg_mem e2, List.forall_mem_cons.mpr ⟨lg_mem e3, fun _ h => absurd h List.not_mem_nil⟩⟩⟩⟩) (t_X12_puts_86 N hd hrc (fun a0 x1 x2 x3 g e => ih a0 x1 x2 x3 g e) a0 x1 x2 x3 g fe)
    cases e
set_option maxRecDepth 100000 in
theorem m_X12_puts_n (N : Nat) : ∀ (n d : Nat) (a0 : Nat) (x1 : Int32) (x2 : Int32) (h : mH) (q : mH), 4 + n < d → f_X12_puts N n a0 x1 x2 h = some q → MM y_X12_puts d [.ref a0, .int x1, .int x2] h none q := by
  intro n
  induction n with
  | zero => intro d a0 x1 x2 h q hd hf; cases hf
  | succ n ih =>
    intro d a0 x1 x2 h q hd0 hf
    have hd : 4 < d := by omega
    have hrc : ∀ a0 x1 x2 g p, f_X12_puts N n a0 x1 x2 g = some p → ∃ d', d' < d ∧ MM y_X12_puts d' [.ref a0, .int x1, .int x2] g none p := fun a0 x1 x2 g p e => ⟨d - 1, by omega, ih (d - 1) a0 x1 x2 g p (by omega) e⟩
    refine MM.of (mFx (j := 311) rfl).2.2.2.1 (Nat.le_of_ble_eq_true rfl) (fun X => ?_)
    refine ev_ok (o := 12) (ini := false) (Cl := C_X12_puts N (f_X12_puts N n)) (Rc := RcV) (B := B_X12_puts) (K := fun pc ls st g => kb pc 38 (lgr 0 ls fun a0 => lgi 4 ls fun x4 => pe st (L_X12_puts_38 N (f_X12_puts N n) N a0 x4 g)) (kb pc 70 (lgr 0 ls fun a0 => lgi 1 ls fun x1 => lgi 2 ls fun x2 => lgi 3 ls fun x3 => pe st (L_X12_puts_70 N (f_X12_puts N n) N a0 x1 x2 x3 g)) (none))) rfl (fun e => by cases e) (by omega) (rcV_ok rfl) ?_ (co_X12_puts N hd hrc q) lb_X12_puts 3000 0 S_X12_puts_0 _ _ h ls_X12_puts_0 hf
    intro pc ls st g e
    rcases kb_s e with ⟨rfl, e⟩ | e
    · obtain ⟨a0, e0, f0⟩ := lgr_s e
      obtain ⟨x4, e1, f1⟩ := lgi_s f0
      obtain ⟨qe, fe⟩ := pe_s f1
      subst qe
      exact MW.sub (List.forall_mem_cons.mpr ⟨lg_mem e0, List.forall_mem_cons.mpr ⟨lg_mem e1, fun _ h => absurd h List.not_mem_nil⟩⟩) (t_X12_puts_38 N hd hrc N a0 x4 g fe)
    rcases kb_s e with ⟨rfl, e⟩ | e
    · obtain ⟨a0, e0, f0⟩ := lgr_s e
      obtain ⟨x1, e1, f1⟩ := lgi_s f0
      obtain ⟨x2, e2, f2⟩ := lgi_s f1
      obtain ⟨x3, e3, f3⟩ := lgi_s f2
      obtain ⟨qe, fe⟩ := pe_s f3
      subst qe
      exact MW.sub (List.forall_mem_cons.mpr ⟨lg_mem e0, List.forall_mem_cons.mpr ⟨lg_mem e1, List.forall_mem_cons.mpr ⟨lg_mem e2, List.forall_mem_cons.mpr ⟨lg_mem e3, fun _ h => absurd h List.not_mem_nil⟩⟩⟩⟩) (t_X12_puts_70 N hd hrc N a0 x1 x2 x3 g fe)
    cases e
theorem m_X12_puts (N : Nat) {a0 : Nat} {x1 : Int32} {x2 : Int32} {h : mH} {q : mH} (hf : f_X12_puts N 20 a0 x1 x2 h = some q) : MM y_X12_puts 25 [.ref a0, .int x1, .int x2] h none q := m_X12_puts_n N 20 25 a0 x1 x2 h q (by omega) hf
def L_X12_even_101 (N : Nat) : Nat → Nat → Int32 → Int32 → Int32 → mH → Option (Int32 × mH)
  | 0, _, _, _, _, _ => none
  | n + 1, a0, x1, x2, x3, h =>
    (gI h 12 a0 29).bind fun v1 =>
    if x3 < v1 then
      (gR h 12 a0 36).bind fun v2 =>
      (ldL h v2 (iAdd (iMul (jI 40) x1) x3)).bind fun v3 =>
      (f_X12_within N v3 (jL 1) (jL 99) h).bind fun p4 =>
      if p4.1 = 0 then
        (rcv p4.2 12 a0).bind fun _ =>
        (f_X12_no N a0 (jI (-3)) p4.2).bind fun p5 =>
        some (p5.1, p5.2)
      else
        (gR p4.2 12 a0 26).bind fun v6 =>
        (gR p4.2 12 a0 36).bind fun v7 =>
        (ldL p4.2 v7 (iAdd (iMul (jI 40) x1) x3)).bind fun v8 =>
        (stI 0 p4.2 v6 x3 v8.toInt32).bind fun h9 =>
        let w10 := iAdd x3 (jI 1)
        L_X12_even_101 N n a0 x1 x2 w10 h9
    else
      (gI h 12 a0 29).bind fun v11 =>
      if x2 < v11 then
        (pV h 12 a0 30 (.int (jI (-1)))).bind fun h12 =>
        (rcv h12 12 a0).bind fun _ =>
        (f_X12_puts N 20 a0 (jI 0) (jI 0) h12).bind fun h13 =>
        if x2 = (jI (-1)) then
          (gI h13 12 a0 30).bind fun v14 =>
          some (v14, h13)
        else
          (gR h13 12 a0 28).bind fun v15 =>
          (ldI 0 h13 v15 x2).bind fun v16 =>
          some (v16, h13)
      else
        some (jI (-1), h)
def f_X12_even (N : Nat) (a0 : Nat) (x1 : Int32) (x2 : Int32) (h : mH) : Option (Int32 × mH) :=
  (pV h 12 a0 0 (.int (jI 0))).bind fun h1 =>
  (f_X12_within N x1.toInt64 (jL 0) (jL 3) h1).bind fun p2 =>
  if p2.1 = 0 then
    (rcv p2.2 12 a0).bind fun _ =>
    (f_X12_no N a0 (jI (-2)) p2.2).bind fun p3 =>
    some (p3.1, p3.2)
  else
    (f_X12_within N x2.toInt64 (jL (-1)) (jL 7) p2.2).bind fun p4 =>
    if p4.1 = 0 then
      (rcv p4.2 12 a0).bind fun _ =>
      (f_X12_no N a0 (jI (-2)) p4.2).bind fun p5 =>
      some (p5.1, p5.2)
    else
      (gR p4.2 12 a0 34).bind fun v6 =>
      (ldI 0 p4.2 v6 x1).bind fun v7 =>
      if v7 = (jI (-1)) then
        (rcv p4.2 12 a0).bind fun _ =>
        (f_X12_no N a0 (jI (-6)) p4.2).bind fun p8 =>
        some (p8.1, p8.2)
      else
        (gR p4.2 12 a0 35).bind fun v9 =>
        (ldI 0 p4.2 v9 x1).bind fun v10 =>
        (pV p4.2 12 a0 29 (.int v10)).bind fun h11 =>
        (gI h11 12 a0 29).bind fun v12 =>
        (f_X12_within N v12.toInt64 (jL 2) (jL 8) h11).bind fun p13 =>
        if p13.1 = 0 then
          (rcv p13.2 12 a0).bind fun _ =>
          (f_X12_no N a0 (jI (-3)) p13.2).bind fun p14 =>
          some (p14.1, p14.2)
        else
          (gI p13.2 12 a0 29).bind fun v15 =>
          if (jI 2) = 0 then none else
          if (iRem v15 (jI 2)) = (jI 1) then
            (rcv p13.2 12 a0).bind fun _ =>
            (f_X12_no N a0 (jI (-3)) p13.2).bind fun p16 =>
            some (p16.1, p16.2)
          else
            L_X12_even_101 N N a0 x1 x2 (jI 0) p13.2
def y_X12_even : mM := (yX12_even, cX12_even, 4, (some .int))
def B_X12_even : List (Nat × List mI) := [(31, [(.aload_n 0, 1, [0], []), (.bipush (-2), 2, [], [-2]), (.invokevirtual 84, 3, [0, 224, 1, 12, 267], []), (.ireturn, 1, [], [])]), (38, [(.aload_n 0, 1, [0], []), (.getfield 68, 3, [12, 34, 2, 160], []), (.iload_n 1, 1, [1], []), (.iaload, 1, [0], []), (.iconst (-1), 1, [], [-1]), (.if_icmp .ne 10, 3, [55], []), (.aload_n 0, 1, [0], []), (.bipush (-6), 2, [], [-6]), (.invokevirtual 84, 3, [0, 224, 1, 12, 267], []), (.ireturn, 1, [], [])]), (55, [(.aload_n 0, 1, [0], []), (.aload_n 0, 1, [0], []), (.getfield 71, 3, [12, 35, 2, 161], []), (.iload_n 1, 1, [1], []), (.iaload, 1, [0], []), (.putfield 318, 3, [12, 29, 0, 155], []), (.aload_n 0, 1, [0], []), (.getfield 318, 3, [12, 29, 0, 155], []), (.i2l, 1, [], []), (.ldc2_w 245, 3, [11], [2]), (.ldc2_w 333, 3, [19], [8]), (.invokestatic 147, 3, [1, 225, 3, 0, 269], []), (.ifCond .eq 13, 3, [92], []), (.aload_n 0, 1, [0], []), (.getfield 318, 3, [12, 29, 0, 155], []), (.iconst 2, 1, [], [2]), (.irem, 1, [], []), (.iconst 1, 1, [], [1]), (.if_icmp .ne 10, 3, [99], [])]), (92, [(.aload_n 0, 1, [0], []), (.bipush (-3), 2, [], [-3]), (.invokevirtual 84, 3, [0, 224, 1, 12, 267], []), (.ireturn, 1, [], [])]), (99, [(.iconst 0, 1, [], [0]), (.istore_n 3, 1, [3], [])]), (137, [(.aload_n 0, 1, [0], []), (.getfield 49, 3, [12, 26, 2, 152], []), (.iload_n 3, 1, [3], []), (.aload_n 0, 1, [0], []), (.getfield 74, 3, [12, 36, 2, 162], []), (.bipush 40, 2, [], [40]), (.iload_n 1, 1, [1], []), (.imul, 1, [], []), (.iload_n 3, 1, [3], []), (.iadd, 1, [], []), (.laload, 1, [], []), (.l2i, 1, [], []), (.iastore, 1, [], []), (.iinc 3 1, 3, [3], [1]), (.goto (-57), 3, [101], [])]), (161, [(.iload_n 2, 1, [2], []), (.aload_n 0, 1, [0], []), (.getfield 318, 3, [12, 29, 0, 155], []), (.if_icmp .lt 5, 3, [171], []), (.iconst (-1), 1, [], [-1]), (.ireturn, 1, [], [])]), (171, [(.aload_n 0, 1, [0], []), (.iconst (-1), 1, [], [-1]), (.putfield 324, 3, [12, 30, 0, 156], []), (.aload_n 0, 1, [0], []), (.iconst 0, 1, [], [0]), (.iconst 0, 1, [], [0]), (.invokevirtual 327, 3, [0, 311, 2, 12, 351], []), (.iload_n 2, 1, [2], []), (.iconst (-1), 1, [], [-1]), (.if_icmp .ne 10, 3, [194], []), (.aload_n 0, 1, [0], []), (.getfield 324, 3, [12, 30, 0, 156], []), (.goto 9, 3, [200], [])]), (194, [(.aload_n 0, 1, [0], []), (.getfield 55, 3, [12, 28, 2, 154], []), (.iload_n 2, 1, [2], []), (.iaload, 1, [0], [])]), (200, [(.ireturn, 1, [], [])])]
def S_X12_even_0 : List mI := [(.aload_n 0, 1, [0], []), (.iconst 0, 1, [], [0]), (.putfield 1, 3, [12, 0, 0, 126], []), (.iload_n 1, 1, [1], []), (.i2l, 1, [], []), (.lconst 0, 1, [], [0]), (.ldc2_w 179, 3, [5], [3]), (.invokestatic 147, 3, [1, 225, 3, 0, 269], []), (.ifCond .eq 17, 3, [31], []), (.iload_n 2, 1, [2], []), (.i2l, 1, [], []), (.ldc2_w 314, 3, [16], [-1]), (.ldc2_w 331, 3, [18], [7]), (.invokestatic 147, 3, [1, 225, 3, 0, 269], []), (.ifCond .ne 10, 3, [38], [])]
def S_X12_even_101 : List mI := [(.iload_n 3, 1, [3], []), (.aload_n 0, 1, [0], []), (.getfield 318, 3, [12, 29, 0, 155], []), (.if_icmp .ge 55, 3, [161], []), (.aload_n 0, 1, [0], []), (.getfield 74, 3, [12, 36, 2, 162], []), (.bipush 40, 2, [], [40]), (.iload_n 1, 1, [1], []), (.imul, 1, [], []), (.iload_n 3, 1, [3], []), (.iadd, 1, [], []), (.laload, 1, [], []), (.lconst 1, 1, [], [1]), (.ldc2_w 335, 3, [20], [99]), (.invokestatic 147, 3, [1, 225, 3, 0, 269], []), (.ifCond .ne 10, 3, [137], []), (.aload_n 0, 1, [0], []), (.bipush (-3), 2, [], [-3]), (.invokevirtual 84, 3, [0, 224, 1, 12, 267], []), (.ireturn, 1, [], [])]
theorem lb_X12_even : B_X12_even.all (fun b => lst y_X12_even.2.1 12 y_X12_even.2.2.1 false b.1 b.2) = true := by decide +kernel
theorem ls_X12_even_0 : lst y_X12_even.2.1 12 y_X12_even.2.2.1 false 0 S_X12_even_0 = true := by decide +kernel
theorem ls_X12_even_101 : lst y_X12_even.2.1 12 y_X12_even.2.2.1 false 101 S_X12_even_101 = true := by decide +kernel
def C_X12_even (N : Nat) : Nat → List Value → mH → (Option Value → mH → Option (Int32 × mH)) → Option (Int32 × mH) := fun j as g k => kb j 225 (pl1 as fun b0 as => pl1 as fun b1 as => pl1 as fun b2 as => pe as ((f_X12_within N b0 b1 b2 g).bind fun p => k (some (.int p.1)) p.2)) (kb j 224 (pr1 as fun b0 as => pp1 as fun b1 as => pe as ((f_X12_no N b0 b1 g).bind fun p => k (some (.int p.1)) p.2)) (kb j 311 (pr1 as fun b0 as => pp1 as fun b1 as => pp1 as fun b2 as => pe as ((f_X12_puts N 20 b0 b1 b2 g).bind fun p => k none p)) (none)))
theorem co_X12_even (N : Nat) (q : Int32 × mH) : clOK 26 q (C_X12_even N) := by
  intro j as g k e
  rcases kb_s e with ⟨rfl, e⟩ | e
  · obtain ⟨b0, r0, q0, f0⟩ := pl1_s e
    obtain ⟨b1, r1, q1, f1⟩ := pl1_s f0
    obtain ⟨b2, r2, q2, f2⟩ := pl1_s f1
    obtain ⟨qe, fe⟩ := pe_s f2
    obtain ⟨p, e1, e2⟩ := bnd_s fe
    subst qe
    subst q2
    subst q1
    subst q0
    exact ⟨_, _, _, _, 4, rfl, (by decide), m_X12_within N e1, e2⟩
  rcases kb_s e with ⟨rfl, e⟩ | e
  · obtain ⟨b0, r0, q0, f0⟩ := pr1_s e
    obtain ⟨b1, r1, q1, f1⟩ := pp1_s f0
    obtain ⟨qe, fe⟩ := pe_s f1
    obtain ⟨p, e1, e2⟩ := bnd_s fe
    subst qe
    subst q1
    subst q0
    exact ⟨_, _, _, _, 4, rfl, (by decide), m_X12_no N e1, e2⟩
  rcases kb_s e with ⟨rfl, e⟩ | e
  · obtain ⟨b0, r0, q0, f0⟩ := pr1_s e
    obtain ⟨b1, r1, q1, f1⟩ := pp1_s f0
    obtain ⟨b2, r2, q2, f2⟩ := pp1_s f1
    obtain ⟨qe, fe⟩ := pe_s f2
    obtain ⟨p, e1, e2⟩ := bnd_s fe
    subst qe
    subst q2
    subst q1
    subst q0
    exact ⟨_, _, _, _, 25, rfl, (by decide), m_X12_puts N e1, e2⟩
  cases e
set_option maxRecDepth 100000 in
theorem t_X12_even_101 {X : Nat × (Nat → Int32)} (N : Nat) {q : Int32 × mH} : ∀ (n : Nat) (a0 : Nat) (x1 : Int32) (x2 : Int32) (x3 : Int32) (h : mH), L_X12_even_101 N n a0 x1 x2 x3 h = some q → MW X y_X12_even 26 101 [(0, .ref a0), (1, .int x1), (2, .int x2), (3, .int x3)] [] h (some (.int q.1)) q.2 := by
  intro n
  induction n with
  | zero => intro a0 x1 x2 x3 h hf; cases hf
  | succ n ih =>
    intro a0 x1 x2 x3 h hf
    refine ev_ok (o := 12) (ini := false) (Cl := C_X12_even N) (Rc := RcI) (B := B_X12_even) (K := fun pc ls st g => kb pc 101 (lgr 0 ls fun a0 => lgi 1 ls fun x1 => lgi 2 ls fun x2 => lgi 3 ls fun x3 => pe st (L_X12_even_101 N n a0 x1 x2 x3 g)) (none)) rfl (fun e => by cases e) (by decide) (rcI_ok rfl) ?_ (co_X12_even N q) lb_X12_even 3000 101 S_X12_even_101 _ _ h ls_X12_even_101 hf
    intro pc ls st g e
    rcases kb_s e with ⟨rfl, e⟩ | e
    · obtain ⟨a0, e0, f0⟩ := lgr_s e
      obtain ⟨x1, e1, f1⟩ := lgi_s f0
      obtain ⟨x2, e2, f2⟩ := lgi_s f1
      obtain ⟨x3, e3, f3⟩ := lgi_s f2
      obtain ⟨qe, fe⟩ := pe_s f3
      subst qe
      exact MW.sub (List.forall_mem_cons.mpr ⟨lg_mem e0, List.forall_mem_cons.mpr ⟨lg_mem e1, List.forall_mem_cons.mpr ⟨lg_mem e2, List.forall_mem_cons.mpr ⟨lg_mem e3, fun _ h => absurd h List.not_mem_nil⟩⟩⟩⟩) (ih a0 x1 x2 x3 g fe)
    cases e
set_option maxRecDepth 100000 in
theorem m_X12_even (N : Nat) {a0 : Nat} {x1 : Int32} {x2 : Int32} {h : mH} {q : Int32 × mH} (hf : f_X12_even N a0 x1 x2 h = some q) : MM y_X12_even 26 [.ref a0, .int x1, .int x2] h (some (.int q.1)) q.2 := by
  refine MM.of (mFx (j := 312) rfl).2.2.2.1 (Nat.le_of_ble_eq_true rfl) (fun X => ?_)
  refine ev_ok (o := 12) (ini := false) (Cl := C_X12_even N) (Rc := RcI) (B := B_X12_even) (K := fun pc ls st g => kb pc 101 (lgr 0 ls fun a0 => lgi 1 ls fun x1 => lgi 2 ls fun x2 => lgi 3 ls fun x3 => pe st (L_X12_even_101 N N a0 x1 x2 x3 g)) (none)) rfl (fun e => by cases e) (by decide) (rcI_ok rfl) ?_ (co_X12_even N q) lb_X12_even 3000 0 S_X12_even_0 _ _ h ls_X12_even_0 hf
  intro pc ls st g e
  rcases kb_s e with ⟨rfl, e⟩ | e
  · obtain ⟨a0, e0, f0⟩ := lgr_s e
    obtain ⟨x1, e1, f1⟩ := lgi_s f0
    obtain ⟨x2, e2, f2⟩ := lgi_s f1
    obtain ⟨x3, e3, f3⟩ := lgi_s f2
    obtain ⟨qe, fe⟩ := pe_s f3
    subst qe
    exact MW.sub (List.forall_mem_cons.mpr ⟨lg_mem e0, List.forall_mem_cons.mpr ⟨lg_mem e1, List.forall_mem_cons.mpr ⟨lg_mem e2, List.forall_mem_cons.mpr ⟨lg_mem e3, fun _ h => absurd h List.not_mem_nil⟩⟩⟩⟩) (t_X12_even_101 N N a0 x1 x2 x3 g fe)
  cases e
