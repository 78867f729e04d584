/-! printed by wip/whole/gen_code.py: the functions of methods 200 to 239 (leaves first), and their contracts -/
def L_X11_coveredBy_5 (N : Nat) : Nat → Nat → Nat → Int32 → Int32 → Int32 → mH → Option (Int32 × mH)
  | 0, _, _, _, _, _, _ => none
  | n + 1, a0, a1, x2, x3, x4, h =>
    (gI h 5 a1 0).bind fun v1 =>
    if x4 < v1 then
      if (iAnd (iUsr x2 x4) (jI 1)) = (jI 1) then
        (rcv h 5 a1).bind fun _ =>
        (f_X5_intAt N a1 x4 h).bind fun p2 =>
        let w3 := iAdd x3 p2.1
        let w4 := iAdd x4 (jI 1)
        L_X11_coveredBy_5 N n a0 a1 x2 w3 w4 p2.2
      else
        let w5 := iAdd x4 (jI 1)
        L_X11_coveredBy_5 N n a0 a1 x2 x3 w5 h
    else
      (f_J6_bitCount_0f7a4 N x2 h).bind fun p6 =>
      (gR p6.2 11 a0 2).bind fun v7 =>
      (gI p6.2 0 v7 4).bind fun v8 =>
      some (iSub x3 (iMul (iSub p6.1 (jI 1)) v8), p6.2)
def f_X11_coveredBy (N : Nat) (a0 : Nat) (a1 : Nat) (x2 : Int32) (h : mH) : Option (Int32 × mH) :=
  L_X11_coveredBy_5 N N a0 a1 x2 (jI 0) (jI 0) h
def y_X11_coveredBy : mM := (yX11_coveredBy, cX11_coveredBy, 5, (some .int))
def B_X11_coveredBy : List (Nat × List mI) := [(33, [(.iinc 4 1, 3, [4], [1]), (.goto (-31), 3, [5], [])]), (39, [(.iload_n 3, 1, [3], []), (.iload_n 2, 1, [2], []), (.invokestatic 308, 3, [1, 345, 1, 0, 175], []), (.iconst 1, 1, [], [1]), (.isub, 1, [], []), (.aload_n 0, 1, [0], []), (.getfield 16, 3, [11, 2, 2, 111], []), (.getfield 180, 3, [0, 4, 0, 16], []), (.imul, 1, [], []), (.isub, 1, [], []), (.ireturn, 1, [], [])])]
def S_X11_coveredBy_0 : List mI := [(.iconst 0, 1, [], [0]), (.istore_n 3, 1, [3], []), (.iconst 0, 1, [], [0]), (.istore 4, 2, [4], [])]
def S_X11_coveredBy_5 : List mI := [(.iload 4, 2, [4], []), (.aload_n 1, 1, [1], []), (.getfield 295, 3, [5, 0, 0, 71], []), (.if_icmp .ge 28, 3, [39], []), (.iload_n 2, 1, [2], []), (.iload 4, 2, [4], []), (.iushr, 1, [], []), (.iconst 1, 1, [], [1]), (.iand, 1, [], []), (.iconst 1, 1, [], [1]), (.if_icmp .ne 12, 3, [33], []), (.iload_n 3, 1, [3], []), (.aload_n 1, 1, [1], []), (.iload 4, 2, [4], []), (.invokevirtual 378, 3, [0, 76, 1, 5, 174], []), (.iadd, 1, [], []), (.istore_n 3, 1, [3], [])]
theorem lb_X11_coveredBy : B_X11_coveredBy.all (fun b => lst y_X11_coveredBy.2.1 11 y_X11_coveredBy.2.2.1 false b.1 b.2) = true := by decide +kernel
theorem ls_X11_coveredBy_0 : lst y_X11_coveredBy.2.1 11 y_X11_coveredBy.2.2.1 false 0 S_X11_coveredBy_0 = true := by decide +kernel
theorem ls_X11_coveredBy_5 : lst y_X11_coveredBy.2.1 11 y_X11_coveredBy.2.2.1 false 5 S_X11_coveredBy_5 = true := by decide +kernel
def C_X11_coveredBy (N : Nat) : Nat → List Value → mH → (Option Value → mH → Option (Int32 × mH)) → Option (Int32 × mH) := fun j as g k => kb j 76 (pr1 as fun b0 as => pp1 as fun b1 as => pe as ((f_X5_intAt N b0 b1 g).bind fun p => k (some (.int p.1)) p.2)) (kb j 345 (pp1 as fun b0 as => pe as ((f_J6_bitCount_0f7a4 N b0 g).bind fun p => k (some (.int p.1)) p.2)) (none))
theorem co_X11_coveredBy (N : Nat) (q : Int32 × mH) : clOK 5 q (C_X11_coveredBy N) := by
  intro j as g k e
  rcases kb_s e with ⟨rfl, e⟩ | e
  · obtain ⟨b0, r0, q0, f0⟩ := pr1_s e
    obtain ⟨b1, r1, q1, f1⟩ := pp1_s f0
    obtain ⟨qe, fe⟩ := pe_s f1
    obtain ⟨p, e1, e2⟩ := bnd_s fe
    subst qe
    subst q1
    subst q0
    exact ⟨_, _, _, _, 4, rfl, (by decide), m_X5_intAt N e1, e2⟩
  rcases kb_s e with ⟨rfl, e⟩ | e
  · obtain ⟨b0, r0, q0, f0⟩ := pp1_s e
    obtain ⟨qe, fe⟩ := pe_s f0
    obtain ⟨p, e1, e2⟩ := bnd_s fe
    subst qe
    subst q0
    exact ⟨_, _, _, _, 4, rfl, (by decide), m_J6_bitCount_0f7a4 N e1, e2⟩
  cases e
set_option maxRecDepth 100000 in
theorem t_X11_coveredBy_5 {X : Nat × (Nat → Int32)} (N : Nat) {q : Int32 × mH} : ∀ (n : Nat) (a0 : Nat) (a1 : Nat) (x2 : Int32) (x3 : Int32) (x4 : Int32) (h : mH), L_X11_coveredBy_5 N n a0 a1 x2 x3 x4 h = some q → MW X y_X11_coveredBy 5 5 [(0, .ref a0), (1, .ref a1), (2, .int x2), (3, .int x3), (4, .int x4)] [] h (some (.int q.1)) q.2 := by
  intro n
  induction n with
  | zero => intro a0 a1 x2 x3 x4 h hf; cases hf
  | succ n ih =>
    intro a0 a1 x2 x3 x4 h hf
    refine ev_ok (o := 11) (ini := false) (Cl := C_X11_coveredBy N) (Rc := RcI) (B := B_X11_coveredBy) (K := fun pc ls st g => kb pc 5 (lgr 0 ls fun a0 => lgr 1 ls fun a1 => lgi 2 ls fun x2 => lgi 3 ls fun x3 => lgi 4 ls fun x4 => pe st (L_X11_coveredBy_5 N n a0 a1 x2 x3 x4 g)) (none)) rfl (fun e => by cases e) (by decide) (rcI_ok rfl) ?_ (co_X11_coveredBy N q) lb_X11_coveredBy 3000 5 S_X11_coveredBy_5 _ _ h ls_X11_coveredBy_5 hf
    intro pc ls st g e
    rcases kb_s e with ⟨rfl, e⟩ | e
    · obtain ⟨a0, e0, f0⟩ := lgr_s e
      obtain ⟨a1, e1, f1⟩ := lgr_s f0
      obtain ⟨x2, e2, f2⟩ := lgi_s f1
      obtain ⟨x3, e3, f3⟩ := lgi_s f2
      obtain ⟨x4, e4, f4⟩ := lgi_s f3
      obtain ⟨qe, fe⟩ := pe_s f4
      subst qe
      exact MW.sub (List.forall_mem_cons.mpr ⟨lg_mem e0, List.forall_mem_cons.mpr ⟨lg_mem e1, List.forall_mem_cons.mpr ⟨lg_mem e2, List.forall_mem_cons.mpr ⟨lg_mem e3, List.forall_mem_cons.mpr ⟨lg_mem e4, fun _ h => absurd h List.not_mem_nil⟩⟩⟩⟩⟩) (ih a0 a1 x2 x3 x4 g fe)
    cases e
set_option maxRecDepth 100000 in
theorem m_X11_coveredBy (N : Nat) {a0 : Nat} {a1 : Nat} {x2 : Int32} {h : mH} {q : Int32 × mH} (hf : f_X11_coveredBy N a0 a1 x2 h = some q) : MM y_X11_coveredBy 5 [.ref a0, .ref a1, .int x2] h (some (.int q.1)) q.2 := by
  refine MM.of (mFx (j := 213) rfl).2.2.2.1 (Nat.le_of_ble_eq_true rfl) (fun X => ?_)
  refine ev_ok (o := 11) (ini := false) (Cl := C_X11_coveredBy N) (Rc := RcI) (B := B_X11_coveredBy) (K := fun pc ls st g => kb pc 5 (lgr 0 ls fun a0 => lgr 1 ls fun a1 => lgi 2 ls fun x2 => lgi 3 ls fun x3 => lgi 4 ls fun x4 => pe st (L_X11_coveredBy_5 N N a0 a1 x2 x3 x4 g)) (none)) rfl (fun e => by cases e) (by decide) (rcI_ok rfl) ?_ (co_X11_coveredBy N q) lb_X11_coveredBy 3000 0 S_X11_coveredBy_0 _ _ h ls_X11_coveredBy_0 hf
  intro pc ls st g e
  rcases kb_s e with ⟨rfl, e⟩ | e
  · obtain ⟨a0, e0, f0⟩ := lgr_s e
    obtain ⟨a1, e1, f1⟩ := lgr_s f0
    obtain ⟨x2, e2, f2⟩ := lgi_s f1
    obtain ⟨x3, e3, f3⟩ := lgi_s f2
    obtain ⟨x4, e4, f4⟩ := lgi_s f3
    obtain ⟨qe, fe⟩ := pe_s f4
    subst qe
    exact MW.sub (List.forall_mem_cons.mpr ⟨lg_mem e0, List.forall_mem_cons.mpr ⟨lg_mem e1, List.forall_mem_cons.mpr ⟨lg_mem e2, List.forall_mem_cons.mpr ⟨lg_mem e3, List.forall_mem_cons.mpr ⟨lg_mem e4, fun _ h => absurd h List.not_mem_nil⟩⟩⟩⟩⟩) (t_X11_coveredBy_5 N N a0 a1 x2 x3 x4 g fe)
  cases e
def J_X11_fewestThatReach_70 (N : Nat) (k11 : Nat → Nat → Int32 → Int32 → Int32 → Int32 → Int32 → mH → Option (Int32 × mH)) (a0 : Nat) (a1 : Nat) (x2 : Int32) (x3 : Int32) (x4 : Int32) (x5 : Int32) (x6 : Int32) (x7 : Int32) (x8 : Int32) (s_0 : Int32) (h : mH) : Option (Int32 × mH) :=
  if x7 < 0 then
    let w1 := iAdd x6 (jI 1)
    k11 a0 a1 x2 x3 x4 x5 w1 h
  else
    if s_0 = 0 then
      let w2 := iAdd x6 (jI 1)
      k11 a0 a1 x2 x3 x4 x5 w2 h
    else
      let w3 := iAdd x6 (jI 1)
      k11 a0 a1 x2 x6 x8 x7 w3 h
def L_X11_fewestThatReach_11 (N : Nat) : Nat → Nat → Nat → Int32 → Int32 → Int32 → Int32 → Int32 → mH → Option (Int32 × mH)
  | 0, _, _, _, _, _, _, _, _ => none
  | n + 1, a0, a1, x2, x3, x4, x5, x6, h =>
    (gI h 5 a1 0).bind fun v1 =>
    if x6 < (iShl (jI 1) v1) then
      (rcv h 11 a0).bind fun _ =>
      (f_X11_coveredBy N a0 a1 x6 h).bind fun p2 =>
      let w3 := iSub p2.1 x2
      (f_J6_bitCount_0f7a4 N x6 p2.2).bind fun p4 =>
      if x3 = 0 then
        J_X11_fewestThatReach_70 N (L_X11_fewestThatReach_11 N n) a0 a1 x2 x3 x4 x5 x6 w3 p4.1 (jI 1) p4.2
      else
        if p4.1 < x4 then
          J_X11_fewestThatReach_70 N (L_X11_fewestThatReach_11 N n) a0 a1 x2 x3 x4 x5 x6 w3 p4.1 (jI 1) p4.2
        else
          if p4.1 = x4 then
            if w3 < x5 then
              J_X11_fewestThatReach_70 N (L_X11_fewestThatReach_11 N n) a0 a1 x2 x3 x4 x5 x6 w3 p4.1 (jI 1) p4.2
            else
              J_X11_fewestThatReach_70 N (L_X11_fewestThatReach_11 N n) a0 a1 x2 x3 x4 x5 x6 w3 p4.1 (jI 0) p4.2
          else
            J_X11_fewestThatReach_70 N (L_X11_fewestThatReach_11 N n) a0 a1 x2 x3 x4 x5 x6 w3 p4.1 (jI 0) p4.2
    else
      some (x3, h)
def f_X11_fewestThatReach (N : Nat) (a0 : Nat) (a1 : Nat) (x2 : Int32) (h : mH) : Option (Int32 × mH) :=
  L_X11_fewestThatReach_11 N N a0 a1 x2 (jI 0) (jI 0) (jI 0) (jI 1) h
def y_X11_fewestThatReach : mM := (yX11_fewestThatReach, cX11_fewestThatReach, 10, (some .int))
def B_X11_fewestThatReach : List (Nat × List mI) := [(65, [(.iconst 1, 1, [], [1]), (.goto 4, 3, [70], [])]), (69, [(.iconst 0, 1, [], [0])]), (93, [(.iinc 6 1, 3, [6], [1]), (.goto (-85), 3, [11], [])]), (99, [(.iload_n 3, 1, [3], []), (.ireturn, 1, [], [])])]
def S_X11_fewestThatReach_0 : List mI := [(.iconst 0, 1, [], [0]), (.istore_n 3, 1, [3], []), (.iconst 0, 1, [], [0]), (.istore 4, 2, [4], []), (.iconst 0, 1, [], [0]), (.istore 5, 2, [5], []), (.iconst 1, 1, [], [1]), (.istore 6, 2, [6], [])]
def S_X11_fewestThatReach_11 : List mI := [(.iload 6, 2, [6], []), (.iconst 1, 1, [], [1]), (.aload_n 1, 1, [1], []), (.getfield 295, 3, [5, 0, 0, 71], []), (.ishl, 1, [], []), (.if_icmp .ge 80, 3, [99], []), (.aload_n 0, 1, [0], []), (.aload_n 1, 1, [1], []), (.iload 6, 2, [6], []), (.invokevirtual 313, 3, [0, 213, 2, 11, 173], []), (.iload_n 2, 1, [2], []), (.isub, 1, [], []), (.istore 7, 2, [7], []), (.iload 6, 2, [6], []), (.invokestatic 308, 3, [1, 345, 1, 0, 175], []), (.istore 8, 2, [8], []), (.iload_n 3, 1, [3], []), (.ifCond .eq 24, 3, [65], []), (.iload 8, 2, [8], []), (.iload 4, 2, [4], []), (.if_icmp .lt 17, 3, [65], []), (.iload 8, 2, [8], []), (.iload 4, 2, [4], []), (.if_icmp .ne 14, 3, [69], []), (.iload 7, 2, [7], []), (.iload 5, 2, [5], []), (.if_icmp .ge 7, 3, [69], [])]
def S_X11_fewestThatReach_70 : List mI := [(.istore 9, 2, [9], []), (.iload 7, 2, [7], []), (.ifCond .lt 19, 3, [93], []), (.iload 9, 2, [9], []), (.ifCond .eq 14, 3, [93], []), (.iload 6, 2, [6], []), (.istore_n 3, 1, [3], []), (.iload 8, 2, [8], []), (.istore 4, 2, [4], []), (.iload 7, 2, [7], []), (.istore 5, 2, [5], [])]
theorem lb_X11_fewestThatReach : B_X11_fewestThatReach.all (fun b => lst y_X11_fewestThatReach.2.1 11 y_X11_fewestThatReach.2.2.1 false b.1 b.2) = true := by decide +kernel
theorem ls_X11_fewestThatReach_0 : lst y_X11_fewestThatReach.2.1 11 y_X11_fewestThatReach.2.2.1 false 0 S_X11_fewestThatReach_0 = true := by decide +kernel
theorem ls_X11_fewestThatReach_11 : lst y_X11_fewestThatReach.2.1 11 y_X11_fewestThatReach.2.2.1 false 11 S_X11_fewestThatReach_11 = true := by decide +kernel
theorem ls_X11_fewestThatReach_70 : lst y_X11_fewestThatReach.2.1 11 y_X11_fewestThatReach.2.2.1 false 70 S_X11_fewestThatReach_70 = true := by decide +kernel
def C_X11_fewestThatReach (N : Nat) : Nat → List Value → mH → (Option Value → mH → Option (Int32 × mH)) → Option (Int32 × mH) := fun j as g k => kb j 213 (pr1 as fun b0 as => pr1 as fun b1 as => pp1 as fun b2 as => pe as ((f_X11_coveredBy N b0 b1 b2 g).bind fun p => k (some (.int p.1)) p.2)) (kb j 345 (pp1 as fun b0 as => pe as ((f_J6_bitCount_0f7a4 N b0 g).bind fun p => k (some (.int p.1)) p.2)) (none))
theorem co_X11_fewestThatReach (N : Nat) (q : Int32 × mH) : clOK 6 q (C_X11_fewestThatReach N) := by
  intro j as g k e
  rcases kb_s e with ⟨rfl, e⟩ | e
  · obtain ⟨b0, r0, q0, f0⟩ := pr1_s e
    obtain ⟨b1, r1, q1, f1⟩ := pr1_s f0
    obtain ⟨b2, r2, q2, f2⟩ := pp1_s f1
    obtain ⟨qe, fe⟩ := pe_s f2
    obtain ⟨p, e1, e2⟩ := bnd_s fe
    subst qe
    subst q2
    subst q1
    subst q0
    exact ⟨_, _, _, _, 5, rfl, (by decide), m_X11_coveredBy N e1, e2⟩
  rcases kb_s e with ⟨rfl, e⟩ | e
  · obtain ⟨b0, r0, q0, f0⟩ := pp1_s e
    obtain ⟨qe, fe⟩ := pe_s f0
    obtain ⟨p, e1, e2⟩ := bnd_s fe
    subst qe
    subst q0
    exact ⟨_, _, _, _, 4, rfl, (by decide), m_J6_bitCount_0f7a4 N e1, e2⟩
  cases e
set_option maxRecDepth 100000 in
theorem t_X11_fewestThatReach_70 {X : Nat × (Nat → Int32)} (N : Nat) {q : Int32 × mH} {k11 : Nat → Nat → Int32 → Int32 → Int32 → Int32 → Int32 → mH → Option (Int32 × mH)} (hk11 : ∀ (a0 : Nat) (a1 : Nat) (x2 : Int32) (x3 : Int32) (x4 : Int32) (x5 : Int32) (x6 : Int32) g, k11 a0 a1 x2 x3 x4 x5 x6 g = some q → MW X y_X11_fewestThatReach 6 11 [(0, .ref a0), (1, .ref a1), (2, .int x2), (3, .int x3), (4, .int x4), (5, .int x5), (6, .int x6)] [] g (some (.int q.1)) q.2) (a0 : Nat) (a1 : Nat) (x2 : Int32) (x3 : Int32) (x4 : Int32) (x5 : Int32) (x6 : Int32) (x7 : Int32) (x8 : Int32) (s_0 : Int32) (h : mH) (hf : J_X11_fewestThatReach_70 N k11 a0 a1 x2 x3 x4 x5 x6 x7 x8 s_0 h = some q) : MW X y_X11_fewestThatReach 6 70 [(0, .ref a0), (1, .ref a1), (2, .int x2), (3, .int x3), (4, .int x4), (5, .int x5), (6, .int x6), (7, .int x7), (8, .int x8)] [.int s_0] h (some (.int q.1)) q.2 := by
  refine ev_ok (o := 11) (ini := false) (Cl := C_X11_fewestThatReach N) (Rc := RcI) (B := B_X11_fewestThatReach) (K := fun pc ls st g => kb pc 11 (lgr 0 ls fun a0 => lgr 1 ls fun a1 => lgi 2 ls fun x2 => lgi 3 ls fun x3 => lgi 4 ls fun x4 => lgi 5 ls fun x5 => lgi 6 ls fun x6 => pe st (k11 a0 a1 x2 x3 x4 x5 x6 g)) (none)) rfl (fun e => by cases e) (by decide) (rcI_ok rfl) ?_ (co_X11_fewestThatReach N q) lb_X11_fewestThatReach 3000 70 S_X11_fewestThatReach_70 _ _ h ls_X11_fewestThatReach_70 hf
  intro pc ls st g e
  rcases kb_s e with ⟨rfl, e⟩ | e
  · obtain ⟨a0, e0, f0⟩ := lgr_s e
    obtain ⟨a1, e1, f1⟩ := lgr_s f0
    obtain ⟨x2, e2, f2⟩ := lgi_s f1
    obtain ⟨x3, e3, f3⟩ := lgi_s f2
    obtain ⟨x4, e4, f4⟩ := lgi_s f3
    obtain ⟨x5, e5, f5⟩ := lgi_s f4
    obtain ⟨x6, e6, f6⟩ := lgi_s f5
    obtain ⟨qe, fe⟩ := pe_s f6
    subst qe
    exact MW.sub (List.forall_mem_cons.mpr ⟨lg_mem e0, List.forall_mem_cons.mpr ⟨lg_mem e1, List.forall_mem_cons.mpr ⟨lg_mem e2, List.forall_mem_cons.mpr ⟨lg_mem e3, List.forall_mem_cons.mpr ⟨lg_mem e4, List.forall_mem_cons.mpr ⟨lg_mem e5, List.forall_mem_cons.mpr ⟨lg_mem e6, fun _ h => absurd h List.not_mem_nil⟩⟩⟩⟩⟩⟩⟩) (hk11 a0 a1 x2 x3 x4 x5 x6 g fe)
  cases e
set_option maxRecDepth 100000 in
theorem t_X11_fewestThatReach_11 {X : Nat × (Nat → Int32)} (N : Nat) {q : Int32 × mH} : ∀ (n : Nat) (a0 : Nat) (a1 : Nat) (x2 : Int32) (x3 : Int32) (x4 : Int32) (x5 : Int32) (x6 : Int32) (h : mH), L_X11_fewestThatReach_11 N n a0 a1 x2 x3 x4 x5 x6 h = some q → MW X y_X11_fewestThatReach 6 11 [(0, .ref a0), (1, .ref a1), (2, .int x2), (3, .int x3), (4, .int x4), (5, .int x5), (6, .int x6)] [] h (some (.int q.1)) q.2 := by
  intro n
  induction n with
  | zero => intro a0 a1 x2 x3 x4 x5 x6 h hf; cases hf
  | succ n ih =>
    intro a0 a1 x2 x3 x4 x5 x6 h hf
    refine ev_ok (o := 11) (ini := false) (Cl := C_X11_fewestThatReach N) (Rc := RcI) (B := B_X11_fewestThatReach) (K := fun pc ls st g => kb pc 70 (lgr 0 ls fun a0 => lgr 1 ls fun a1 => lgi 2 ls fun x2 => lgi 3 ls fun x3 => lgi 4 ls fun x4 => lgi 5 ls fun x5 => lgi 6 ls fun x6 => lgi 7 ls fun x7 => lgi 8 ls fun x8 => pp1 st fun s_0 st => pe st (J_X11_fewestThatReach_70 N (L_X11_fewestThatReach_11 N n) a0 a1 x2 x3 x4 x5 x6 x7 x8 s_0 g)) (none)) rfl (fun e => by cases e) (by decide) (rcI_ok rfl) ?_ (co_X11_fewestThatReach N q) lb_X11_fewestThatReach 3000 11 S_X11_fewestThatReach_11 _ _ h ls_X11_fewestThatReach_11 hf
    intro pc ls st g e
    rcases kb_s e with ⟨rfl, e⟩ | e
    · obtain ⟨a0, e0, f0⟩ := lgr_s e
      obtain ⟨a1, e1, f1⟩ := lgr_s f0
      obtain ⟨x2, e2, f2⟩ := lgi_s f1
      obtain ⟨x3, e3, f3⟩ := lgi_s f2
      obtain ⟨x4, e4, f4⟩ := lgi_s f3
      obtain ⟨x5, e5, f5⟩ := lgi_s f4
      obtain ⟨x6, e6, f6⟩ := lgi_s f5
      obtain ⟨x7, e7, f7⟩ := lgi_s f6
      obtain ⟨x8, e8, f8⟩ := lgi_s f7
      obtain ⟨s_0, r0, q0, g0⟩ := pp1_s f8
      obtain ⟨qe, fe⟩ := pe_s g0
      subst qe
      subst q0
      exact MW.sub (List.forall_mem_cons.mpr ⟨lg_mem e0, List.forall_mem_cons.mpr ⟨lg_mem e1, List.forall_mem_cons.mpr ⟨lg_mem e2, List.forall_mem_cons.mpr ⟨lg_mem e3, List.forall_mem_cons.mpr ⟨lg_mem e4, List.forall_mem_cons.mpr ⟨lg_mem e5, List.forall_mem_cons.mpr ⟨lg_mem e6, List.forall_mem_cons.mpr ⟨lg_mem e7, List.forall_mem_cons.mpr ⟨lg_mem e8, fun _ h => absurd h List.not_mem_nil⟩⟩⟩⟩⟩⟩⟩⟩⟩) (t_X11_fewestThatReach_70 N (fun a0 a1 x2 x3 x4 x5 x6 g e => ih a0 a1 x2 x3 x4 x5 x6 g e) a0 a1 x2 x3 x4 x5 x6 x7 x8 s_0 g fe)
    cases e
set_option maxRecDepth 100000 in
theorem m_X11_fewestThatReach (N : Nat) {a0 : Nat} {a1 : Nat} {x2 : Int32} {h : mH} {q : Int32 × mH} (hf : f_X11_fewestThatReach N a0 a1 x2 h = some q) : MM y_X11_fewestThatReach 6 [.ref a0, .ref a1, .int x2] h (some (.int q.1)) q.2 := by
  refine MM.of (mFx (j := 214) rfl).2.2.2.1 (Nat.le_of_ble_eq_true rfl) (fun X => ?_)
  refine ev_ok (o := 11) (ini := false) (Cl := C_X11_fewestThatReach N) (Rc := RcI) (B := B_X11_fewestThatReach) (K := fun pc ls st g => kb pc 11 (lgr 0 ls fun a0 => lgr 1 ls fun a1 => lgi 2 ls fun x2 => lgi 3 ls fun x3 => lgi 4 ls fun x4 => lgi 5 ls fun x5 => lgi 6 ls fun x6 => pe st (L_X11_fewestThatReach_11 N N a0 a1 x2 x3 x4 x5 x6 g)) (none)) rfl (fun e => by cases e) (by decide) (rcI_ok rfl) ?_ (co_X11_fewestThatReach N q) lb_X11_fewestThatReach 3000 0 S_X11_fewestThatReach_0 _ _ h ls_X11_fewestThatReach_0 hf
  intro pc ls st g e
  rcases kb_s e with ⟨rfl, e⟩ | e
  · obtain ⟨a0, e0, f0⟩ := lgr_s e
    obtain ⟨a1, e1, f1⟩ := lgr_s f0
    obtain ⟨x2, e2, f2⟩ := lgi_s f1
    obtain ⟨x3, e3, f3⟩ := lgi_s f2
    obtain ⟨x4, e4, f4⟩ := lgi_s f3
    obtain ⟨x5, e5, f5⟩ := lgi_s f4
    obtain ⟨x6, e6, f6⟩ := lgi_s f5
    obtain ⟨qe, fe⟩ := pe_s f6
    subst qe
    exact MW.sub (List.forall_mem_cons.mpr ⟨lg_mem e0, List.forall_mem_cons.mpr ⟨lg_mem e1, List.forall_mem_cons.mpr ⟨lg_mem e2, List.forall_mem_cons.mpr ⟨lg_mem e3, List.forall_mem_cons.mpr ⟨lg_mem e4, List.forall_mem_cons.mpr ⟨lg_mem e5, List.forall_mem_cons.mpr ⟨lg_mem e6, fun _ h => absurd h List.not_mem_nil⟩⟩⟩⟩⟩⟩⟩) (t_X11_fewestThatReach_11 N N a0 a1 x2 x3 x4 x5 x6 g fe)
  cases e
def f_X11_reach (N : Nat) (a0 : Nat) (x1 : Int32) (x2 : Int32) (x3 : Int32) (h : mH) : Option (Int32 × mH) :=
  (rcv h 11 a0).bind fun _ =>
  (f_X11_isRow N a0 x1 h).bind fun p1 =>
  if p1.1 = 0 then
    (rcv p1.2 11 a0).bind fun _ =>
    (f_X11_refuse N a0 (jI (-2)) p1.2).bind fun p2 =>
    some (p2.1, p2.2)
  else
    if x3 < 0 then
      (rcv p1.2 11 a0).bind fun _ =>
      (f_X11_refuse N a0 (jI (-2)) p1.2).bind fun p3 =>
      some (p3.1, p3.2)
    else
      if (jI 2) < x3 then
        (rcv p1.2 11 a0).bind fun _ =>
        (f_X11_refuse N a0 (jI (-2)) p1.2).bind fun p4 =>
        some (p4.1, p4.2)
      else
        (gR p1.2 11 a0 10).bind fun v5 =>
        (ldR 4 p1.2 v5 x1).bind fun v6 =>
        (rcv p1.2 5 v6).bind fun _ =>
        (f_X5_isMissing N v6 p1.2).bind fun p7 =>
        if p7.1 = 0 then
          (gI p7.2 5 v6 0).bind fun v8 =>
          if v8 < (jI 1) then
            (rcv p7.2 11 a0).bind fun _ =>
            (f_X11_refuse N a0 (jI (-3)) p7.2).bind fun p9 =>
            some (p9.1, p9.2)
          else
            (gI p7.2 5 v6 0).bind fun v10 =>
            if (jI 9) < v10 then
              (rcv p7.2 11 a0).bind fun _ =>
              (f_X11_refuse N a0 (jI (-3)) p7.2).bind fun p11 =>
              some (p11.1, p11.2)
            else
              (rcv p7.2 5 v6).bind fun _ =>
              (f_X5_allWithin N v6 (jL 1) (jL 999) p7.2).bind fun p12 =>
              if p12.1 = 0 then
                (rcv p12.2 11 a0).bind fun _ =>
                (f_X11_refuse N a0 (jI (-3)) p12.2).bind fun p13 =>
                some (p13.1, p13.2)
              else
                if x2 < (jI 1) then
                  (rcv p12.2 11 a0).bind fun _ =>
                  (f_X11_refuse N a0 (jI (-3)) p12.2).bind fun p14 =>
                  some (p14.1, p14.2)
                else
                  if (jI 9999) < x2 then
                    (rcv p12.2 11 a0).bind fun _ =>
                    (f_X11_refuse N a0 (jI (-3)) p12.2).bind fun p15 =>
                    some (p15.1, p15.2)
                  else
                    (rcv p12.2 11 a0).bind fun _ =>
                    (f_X11_fewestThatReach N a0 v6 x2 p12.2).bind fun p16 =>
                    if p16.1 = 0 then
                      some (jI (-1), p16.2)
                    else
                      if x3 = jI 0 then
                        (f_J6_bitCount_0f7a4 N p16.1 p16.2).bind fun p17 =>
                        some (p17.1, p17.2)
                      else
                      if x3 = jI 1 then
                        (rcv p16.2 11 a0).bind fun _ =>
                        (f_X11_coveredBy N a0 v6 p16.1 p16.2).bind fun p18 =>
                        some (iSub p18.1 x2, p18.2)
                      else
                      some (p16.1, p16.2)
        else
          (rcv p7.2 11 a0).bind fun _ =>
          (f_X11_refuse N a0 (jI (-6)) p7.2).bind fun p19 =>
          some (p19.1, p19.2)
def y_X11_reach : mM := (yX11_reach, cX11_reach, 6, (some .int))
def B_X11_reach : List (Nat × List mI) := [(17, [(.aload_n 0, 1, [0], []), (.bipush (-2), 2, [], [-2]), (.invokevirtual 109, 3, [0, 203, 1, 11, 10], []), (.ireturn, 1, [], [])]), (24, [(.aload_n 0, 1, [0], []), (.getfield 66, 3, [11, 10, 2, 119], []), (.iload_n 1, 1, [1], []), (.aaload, 1, [4], []), (.astore 4, 2, [4], []), (.aload 4, 2, [4], []), (.invokevirtual 291, 3, [0, 71, 0, 5, 170], []), (.ifCond .eq 10, 3, [47], []), (.aload_n 0, 1, [0], []), (.bipush (-6), 2, [], [-6]), (.invokevirtual 109, 3, [0, 203, 1, 11, 10], []), (.ireturn, 1, [], [])]), (47, [(.aload 4, 2, [4], []), (.getfield 295, 3, [5, 0, 0, 71], []), (.iconst 1, 1, [], [1]), (.if_icmp .lt 37, 3, [90], []), (.aload 4, 2, [4], []), (.getfield 295, 3, [5, 0, 0, 71], []), (.bipush 9, 2, [], [9]), (.if_icmp .gt 27, 3, [90], []), (.aload 4, 2, [4], []), (.lconst 1, 1, [], [1]), (.ldc2_w 298, 3, [0], [999]), (.invokevirtual 300, 3, [0, 75, 2, 5, 171], []), (.ifCond .eq 15, 3, [90], []), (.iload_n 2, 1, [2], []), (.iconst 1, 1, [], [1]), (.if_icmp .lt 10, 3, [90], []), (.iload_n 2, 1, [2], []), (.sipush 9999, 3, [], [9999]), (.if_icmp .le 10, 3, [97], [])]), (90, [(.aload_n 0, 1, [0], []), (.bipush (-3), 2, [], [-3]), (.invokevirtual 109, 3, [0, 203, 1, 11, 10], []), (.ireturn, 1, [], [])]), (97, [(.aload_n 0, 1, [0], []), (.aload 4, 2, [4], []), (.iload_n 2, 1, [2], []), (.invokevirtual 304, 3, [0, 214, 2, 11, 172], []), (.istore 5, 2, [5], []), (.iload 5, 2, [5], []), (.ifCond .ne 5, 3, [113], []), (.iconst (-1), 1, [], [-1]), (.ireturn, 1, [], [])]), (113, [(.iload_n 3, 1, [3], []), (.lookupswitch 43 #[(0, 26), (1, 32)], 26, [157, 140, 146], [0, 1])]), (140, [(.iload 5, 2, [5], []), (.invokestatic 308, 3, [1, 345, 1, 0, 175], []), (.ireturn, 1, [], [])]), (146, [(.aload_n 0, 1, [0], []), (.aload 4, 2, [4], []), (.iload 5, 2, [5], []), (.invokevirtual 313, 3, [0, 213, 2, 11, 173], []), (.iload_n 2, 1, [2], []), (.isub, 1, [], []), (.ireturn, 1, [], [])]), (157, [(.iload 5, 2, [5], []), (.ireturn, 1, [], [])])]
def S_X11_reach_0 : List mI := [(.aload_n 0, 1, [0], []), (.iload_n 1, 1, [1], []), (.invokevirtual 288, 3, [0, 206, 1, 11, 169], []), (.ifCond .eq 12, 3, [17], []), (.iload_n 3, 1, [3], []), (.ifCond .lt 8, 3, [17], []), (.iload_n 3, 1, [3], []), (.iconst 2, 1, [], [2]), (.if_icmp .le 10, 3, [24], [])]
theorem lb_X11_reach : B_X11_reach.all (fun b => lst y_X11_reach.2.1 11 y_X11_reach.2.2.1 false b.1 b.2) = true := by decide +kernel
theorem ls_X11_reach_0 : lst y_X11_reach.2.1 11 y_X11_reach.2.2.1 false 0 S_X11_reach_0 = true := by decide +kernel
def C_X11_reach (N : Nat) : Nat → List Value → mH → (Option Value → mH → Option (Int32 × mH)) → Option (Int32 × mH) := fun j as g k => kb j 206 (pr1 as fun b0 as => pp1 as fun b1 as => pe as ((f_X11_isRow N b0 b1 g).bind fun p => k (some (.int p.1)) p.2)) (kb j 203 (pr1 as fun b0 as => pp1 as fun b1 as => pe as ((f_X11_refuse N b0 b1 g).bind fun p => k (some (.int p.1)) p.2)) (kb j 71 (pr1 as fun b0 as => pe as ((f_X5_isMissing N b0 g).bind fun p => k (some (.int p.1)) p.2)) (kb j 75 (pr1 as fun b0 as => pl1 as fun b1 as => pl1 as fun b2 as => pe as ((f_X5_allWithin N b0 b1 b2 g).bind fun p => k (some (.int p.1)) p.2)) (kb j 214 (pr1 as fun b0 as => pr1 as fun b1 as => pp1 as fun b2 as => pe as ((f_X11_fewestThatReach N b0 b1 b2 g).bind fun p => k (some (.int p.1)) p.2)) (kb j 345 (pp1 as fun b0 as => pe as ((f_J6_bitCount_0f7a4 N b0 g).bind fun p => k (some (.int p.1)) p.2)) (kb j 213 (pr1 as fun b0 as => pr1 as fun b1 as => pp1 as fun b2 as => pe as ((f_X11_coveredBy N b0 b1 b2 g).bind fun p => k (some (.int p.1)) p.2)) (none)))))))
theorem co_X11_reach (N : Nat) (q : Int32 × mH) : clOK 7 q (C_X11_reach N) := by
  intro j as g k e
  rcases kb_s e with ⟨rfl, e⟩ | e
  · obtain ⟨b0, r0, q0, f0⟩ := pr1_s e
    obtain ⟨b1, r1, q1, f1⟩ := pp1_s f0
    obtain ⟨qe, fe⟩ := pe_s f1
    obtain ⟨p, e1, e2⟩ := bnd_s fe
    subst qe
    subst q1
    subst q0
    exact ⟨_, _, _, _, 4, rfl, (by decide), m_X11_isRow N e1, e2⟩
  rcases kb_s e with ⟨rfl, e⟩ | e
  · obtain ⟨b0, r0, q0, f0⟩ := pr1_s e
    obtain ⟨b1, r1, q1, f1⟩ := pp1_s f0
    obtain ⟨qe, fe⟩ := pe_s f1
    obtain ⟨p, e1, e2⟩ := bnd_s fe
    subst qe
    subst q1
    subst q0
    exact ⟨_, _, _, _, 4, rfl, (by decide), m_X11_refuse N e1, e2⟩
  rcases kb_s e with ⟨rfl, e⟩ | e
  · obtain ⟨b0, r0, q0, f0⟩ := pr1_s e
    obtain ⟨qe, fe⟩ := pe_s f0
    obtain ⟨p, e1, e2⟩ := bnd_s fe
    subst qe
    subst q0
    exact ⟨_, _, _, _, 4, rfl, (by decide), m_X5_isMissing N e1, e2⟩
  rcases kb_s e with ⟨rfl, e⟩ | e
  · obtain ⟨b0, r0, q0, f0⟩ := pr1_s e
    obtain ⟨b1, r1, q1, f1⟩ := pl1_s f0
    obtain ⟨b2, r2, q2, f2⟩ := pl1_s f1
    obtain ⟨qe, fe⟩ := pe_s f2
    obtain ⟨p, e1, e2⟩ := bnd_s fe
    subst qe
    subst q2
    subst q1
    subst q0
    exact ⟨_, _, _, _, 4, rfl, (by decide), m_X5_allWithin N e1, e2⟩
  rcases kb_s e with ⟨rfl, e⟩ | e
  · obtain ⟨b0, r0, q0, f0⟩ := pr1_s e
    obtain ⟨b1, r1, q1, f1⟩ := pr1_s f0
    obtain ⟨b2, r2, q2, f2⟩ := pp1_s f1
    obtain ⟨qe, fe⟩ := pe_s f2
    obtain ⟨p, e1, e2⟩ := bnd_s fe
    subst qe
    subst q2
    subst q1
    subst q0
    exact ⟨_, _, _, _, 6, rfl, (by decide), m_X11_fewestThatReach N e1, e2⟩
  rcases kb_s e with ⟨rfl, e⟩ | e
  · obtain ⟨b0, r0, q0, f0⟩ := pp1_s e
    obtain ⟨qe, fe⟩ := pe_s f0
    obtain ⟨p, e1, e2⟩ := bnd_s fe
    subst qe
    subst q0
    exact ⟨_, _, _, _, 4, rfl, (by decide), m_J6_bitCount_0f7a4 N e1, e2⟩
  rcases kb_s e with ⟨rfl, e⟩ | e
  · obtain ⟨b0, r0, q0, f0⟩ := pr1_s e
    obtain ⟨b1, r1, q1, f1⟩ := pr1_s f0
    obtain ⟨b2, r2, q2, f2⟩ := pp1_s f1
    obtain ⟨qe, fe⟩ := pe_s f2
    obtain ⟨p, e1, e2⟩ := bnd_s fe
    subst qe
    subst q2
    subst q1
    subst q0
    exact ⟨_, _, _, _, 5, rfl, (by decide), m_X11_coveredBy N e1, e2⟩
  cases e
set_option maxRecDepth 100000 in
theorem m_X11_reach (N : Nat) {a0 : Nat} {x1 : Int32} {x2 : Int32} {x3 : Int32} {h : mH} {q : Int32 × mH} (hf : f_X11_reach N a0 x1 x2 x3 h = some q) : MM y_X11_reach 7 [.ref a0, .int x1, .int x2, .int x3] h (some (.int q.1)) q.2 := by
  refine MM.of (mFx (j := 180) rfl).2.2.2.1 (Nat.le_of_ble_eq_true rfl) (fun X => ?_)
  refine ev_ok (o := 11) (ini := false) (Cl := C_X11_reach N) (Rc := RcI) (B := B_X11_reach) (K := fun pc ls st g => none) rfl (fun e => by cases e) (by decide) (rcI_ok rfl) ?_ (co_X11_reach N q) lb_X11_reach 3000 0 S_X11_reach_0 _ _ h ls_X11_reach_0 hf
  intro pc ls st g e
  cases e
def L_X11_mostNested_20 (N : Nat) (k2 : Nat → Nat → Int32 → Int32 → mH → Option (Int32 × mH)) : Nat → Nat → Nat → Int32 → Int32 → Int32 → Int32 → mH → Option (Int32 × mH)
  | 0, _, _, _, _, _, _, _ => none
  | n + 1, a0, a1, x2, x3, x4, x5, h =>
    if 0 < x5 then
      (gR h 11 a0 16).bind fun v1 =>
      (ldI 0 h v1 (iSub x5 (jI 1))).bind fun v2 =>
      if x4 < v2 then
        (gR h 11 a0 16).bind fun v3 =>
        (gR h 11 a0 16).bind fun v4 =>
        (ldI 0 h v4 (iSub x5 (jI 1))).bind fun v5 =>
        (stI 0 h v3 x5 v5).bind fun h6 =>
        let w7 := iAdd x5 (jI (-1))
        L_X11_mostNested_20 N k2 n a0 a1 x2 x3 x4 w7 h6
      else
        (gR h 11 a0 16).bind fun v8 =>
        (stI 0 h v8 x5 x4).bind fun h9 =>
        let w10 := iAdd x3 (jI 1)
        k2 a0 a1 x2 w10 h9
    else
      (gR h 11 a0 16).bind fun v11 =>
      (stI 0 h v11 x5 x4).bind fun h12 =>
      let w13 := iAdd x3 (jI 1)
      k2 a0 a1 x2 w13 h12
def L_X11_mostNested_84 (N : Nat) : Nat → Nat → Nat → Int32 → Int32 → Int32 → Int32 → mH → Option (Int32 × mH)
  | 0, _, _, _, _, _, _, _ => none
  | n + 1, a0, a1, x2, x3, x4, x5, h =>
    (gI h 5 a1 0).bind fun v1 =>
    if x5 < v1 then
      if x3 = 0 then
        let w2 := iAdd x3 (jI 1)
        (gR h 11 a0 16).bind fun v3 =>
        (ldI 0 h v3 x5).bind fun v4 =>
        let w5 := iAdd x5 (jI 1)
        L_X11_mostNested_84 N n a0 a1 x2 w2 v4 w5 h
      else
        (gR h 11 a0 16).bind fun v6 =>
        (ldI 0 h v6 x5).bind fun v7 =>
        if (iSub v7 x4) < x2 then
          let w8 := iAdd x5 (jI 1)
          L_X11_mostNested_84 N n a0 a1 x2 x3 x4 w8 h
        else
          let w9 := iAdd x3 (jI 1)
          (gR h 11 a0 16).bind fun v10 =>
          (ldI 0 h v10 x5).bind fun v11 =>
          let w12 := iAdd x5 (jI 1)
          L_X11_mostNested_84 N n a0 a1 x2 w9 v11 w12 h
    else
      some (x3, h)
def L_X11_mostNested_2 (N : Nat) : Nat → Nat → Nat → Int32 → Int32 → mH → Option (Int32 × mH)
  | 0, _, _, _, _, _ => none
  | n + 1, a0, a1, x2, x3, h =>
    (gI h 5 a1 0).bind fun v1 =>
    if x3 < v1 then
      (rcv h 5 a1).bind fun _ =>
      (f_X5_intAt N a1 x3 h).bind fun p2 =>
      L_X11_mostNested_20 N (L_X11_mostNested_2 N n) N a0 a1 x2 x3 p2.1 x3 p2.2
    else
      L_X11_mostNested_84 N N a0 a1 x2 (jI 0) (jI 0) (jI 0) h
def f_X11_mostNested (N : Nat) (a0 : Nat) (a1 : Nat) (x2 : Int32) (h : mH) : Option (Int32 × mH) :=
  L_X11_mostNested_2 N N a0 a1 x2 (jI 0) h
def y_X11_mostNested : mM := (yX11_mostNested, cX11_mostNested, 6, (some .int))
def B_X11_mostNested : List (Nat × List mI) := [(61, [(.aload_n 0, 1, [0], []), (.getfield 102, 3, [11, 16, 2, 125], []), (.iload 5, 2, [5], []), (.iload 4, 2, [4], []), (.iastore, 1, [], []), (.iinc 3 1, 3, [3], [1]), (.goto (-71), 3, [2], [])]), (76, [(.iconst 0, 1, [], [0]), (.istore_n 3, 1, [3], []), (.iconst 0, 1, [], [0]), (.istore 4, 2, [4], []), (.iconst 0, 1, [], [0]), (.istore 5, 2, [5], [])]), (111, [(.iinc 3 1, 3, [3], [1]), (.aload_n 0, 1, [0], []), (.getfield 102, 3, [11, 16, 2, 125], []), (.iload 5, 2, [5], []), (.iaload, 1, [0], []), (.istore 4, 2, [4], [])]), (123, [(.iinc 5 1, 3, [5], [1]), (.goto (-42), 3, [84], [])]), (129, [(.iload_n 3, 1, [3], []), (.ireturn, 1, [], [])])]
def S_X11_mostNested_0 : List mI := [(.iconst 0, 1, [], [0]), (.istore_n 3, 1, [3], [])]
def S_X11_mostNested_2 : List mI := [(.iload_n 3, 1, [3], []), (.aload_n 1, 1, [1], []), (.getfield 295, 3, [5, 0, 0, 71], []), (.if_icmp .ge 69, 3, [76], []), (.aload_n 1, 1, [1], []), (.iload_n 3, 1, [3], []), (.invokevirtual 378, 3, [0, 76, 1, 5, 174], []), (.istore 4, 2, [4], []), (.iload_n 3, 1, [3], []), (.istore 5, 2, [5], [])]
def S_X11_mostNested_20 : List mI := [(.iload 5, 2, [5], []), (.ifCond .le 39, 3, [61], []), (.aload_n 0, 1, [0], []), (.getfield 102, 3, [11, 16, 2, 125], []), (.iload 5, 2, [5], []), (.iconst 1, 1, [], [1]), (.isub, 1, [], []), (.iaload, 1, [0], []), (.iload 4, 2, [4], []), (.if_icmp .le 25, 3, [61], []), (.aload_n 0, 1, [0], []), (.getfield 102, 3, [11, 16, 2, 125], []), (.iload 5, 2, [5], []), (.aload_n 0, 1, [0], []), (.getfield 102, 3, [11, 16, 2, 125], []), (.iload 5, 2, [5], []), (.iconst 1, 1, [], [1]), (.isub, 1, [], []), (.iaload, 1, [0], []), (.iastore, 1, [], []), (.iinc 5 (-1), 3, [5], [-1]), (.goto (-38), 3, [20], [])]
def S_X11_mostNested_84 : List mI := [(.iload 5, 2, [5], []), (.aload_n 1, 1, [1], []), (.getfield 295, 3, [5, 0, 0, 71], []), (.if_icmp .ge 39, 3, [129], []), (.iload_n 3, 1, [3], []), (.ifCond .eq 17, 3, [111], []), (.aload_n 0, 1, [0], []), (.getfield 102, 3, [11, 16, 2, 125], []), (.iload 5, 2, [5], []), (.iaload, 1, [0], []), (.iload 4, 2, [4], []), (.isub, 1, [], []), (.iload_n 2, 1, [2], []), (.if_icmp .lt 15, 3, [123], [])]
theorem lb_X11_mostNested : B_X11_mostNested.all (fun b => lst y_X11_mostNested.2.1 11 y_X11_mostNested.2.2.1 false b.1 b.2) = true := by decide +kernel
theorem ls_X11_mostNested_0 : lst y_X11_mostNested.2.1 11 y_X11_mostNested.2.2.1 false 0 S_X11_mostNested_0 = true := by decide +kernel
theorem ls_X11_mostNested_2 : lst y_X11_mostNested.2.1 11 y_X11_mostNested.2.2.1 false 2 S_X11_mostNested_2 = true := by decide +kernel
theorem ls_X11_mostNested_20 : lst y_X11_mostNested.2.1 11 y_X11_mostNested.2.2.1 false 20 S_X11_mostNested_20 = true := by decide +kernel
theorem ls_X11_mostNested_84 : lst y_X11_mostNested.2.1 11 y_X11_mostNested.2.2.1 false 84 S_X11_mostNested_84 = true := by decide +kernel
def C_X11_mostNested (N : Nat) : Nat → List Value → mH → (Option Value → mH → Option (Int32 × mH)) → Option (Int32 × mH) := fun j as g k => kb j 76 (pr1 as fun b0 as => pp1 as fun b1 as => pe as ((f_X5_intAt N b0 b1 g).bind fun p => k (some (.int p.1)) p.2)) (none)
theorem co_X11_mostNested (N : Nat) (q : Int32 × mH) : clOK 5 q (C_X11_mostNested N) := by
  intro j as g k e
  rcases kb_s e with ⟨rfl, e⟩ | e
  · obtain ⟨b0, r0, q0, f0⟩ := pr1_s e
    obtain ⟨b1, r1, q1, f1⟩ := pp1_s f0
    obtain ⟨qe, fe⟩ := pe_s f1
    obtain ⟨p, e1, e2⟩ := bnd_s fe
    subst qe
    subst q1
    subst q0
    exact ⟨_, _, _, _, 4, rfl, (by decide), m_X5_intAt N e1, e2⟩
  cases e
set_option maxRecDepth 100000 in
theorem t_X11_mostNested_20 {X : Nat × (Nat → Int32)} (N : Nat) {q : Int32 × mH} {k2 : Nat → Nat → Int32 → Int32 → mH → Option (Int32 × mH)} (hk2 : ∀ (a0 : Nat) (a1 : Nat) (x2 : Int32) (x3 : Int32) g, k2 a0 a1 x2 x3 g = some q → MW X y_X11_mostNested 5 2 [(0, .ref a0), (1, .ref a1), (2, .int x2), (3, .int x3)] [] g (some (.int q.1)) q.2) : ∀ (n : Nat) (a0 : Nat) (a1 : Nat) (x2 : Int32) (x3 : Int32) (x4 : Int32) (x5 : Int32) (h : mH), L_X11_mostNested_20 N k2 n a0 a1 x2 x3 x4 x5 h = some q → MW X y_X11_mostNested 5 20 [(0, .ref a0), (1, .ref a1), (2, .int x2), (3, .int x3), (4, .int x4), (5, .int x5)] [] h (some (.int q.1)) q.2 := by
  intro n
  induction n with
  | zero => intro a0 a1 x2 x3 x4 x5 h hf; cases hf
  | succ n ih =>
    intro a0 a1 x2 x3 x4 x5 h hf
    refine ev_ok (o := 11) (ini := false) (Cl := C_X11_mostNested N) (Rc := RcI) (B := B_X11_mostNested) (K := fun pc ls st g => kb pc 2 (lgr 0 ls fun a0 => lgr 1 ls fun a1 => lgi 2 ls fun x2 => lgi 3 ls fun x3 => pe st (k2 a0 a1 x2 x3 g)) (kb pc 20 (lgr 0 ls fun a0 => lgr 1 ls fun a1 => lgi 2 ls fun x2 => lgi 3 ls fun x3 => lgi 4 ls fun x4 => lgi 5 ls fun x5 => pe st (L_X11_mostNested_20 N k2 n a0 a1 x2 x3 x4 x5 g)) (none))) rfl (fun e => by cases e) (by decide) (rcI_ok rfl) ?_ (co_X11_mostNested N q) lb_X11_mostNested 3000 20 S_X11_mostNested_20 _ _ h ls_X11_mostNested_20 hf
    intro pc ls st g e
    rcases kb_s e with ⟨rfl, e⟩ | e
    · obtain ⟨a0, e0, f0⟩ := lgr_s e
      obtain ⟨a1, e1, f1⟩ := lgr_s f0
      obtain ⟨x2, e2, f2⟩ := lgi_s f1
      obtain ⟨x3, e3, f3⟩ := lgi_s f2
      obtain ⟨qe, fe⟩ := pe_s f3
      subst qe
      exact MW.sub (List.forall_mem_cons.mpr ⟨lg_mem e0, List.forall_mem_cons.mpr ⟨lg_mem e1, List.forall_mem_cons.mpr ⟨lg_mem e2, List.forall_mem_cons.mpr ⟨lg_mem e3, fun _ h => absurd h List.not_mem_nil⟩⟩⟩⟩) (hk2 a0 a1 x2 x3 g fe)
    rcases kb_s e with ⟨rfl, e⟩ | e
    · obtain ⟨a0, e0, f0⟩ := lgr_s e
      obtain ⟨a1, e1, f1⟩ := lgr_s f0
      obtain ⟨x2, e2, f2⟩ := lgi_s f1
      obtain ⟨x3, e3, f3⟩ := lgi_s f2
      obtain ⟨x4, e4, f4⟩ := lgi_s f3
      obtain ⟨x5, e5, f5⟩ := lgi_s f4
      obtain ⟨qe, fe⟩ := pe_s f5
      subst qe
      exact MW.sub (List.forall_mem_cons.mpr ⟨lg_mem e0, List.forall_mem_cons.mpr ⟨lg_mem e1, List.forall_mem_cons.mpr ⟨lg_mem e2, List.forall_mem_cons.mpr ⟨lg_mem e3, List.forall_mem_cons.mpr ⟨lg_mem e4, List.forall_mem_cons.mpr ⟨lg_mem e5, fun _ h => absurd h List.not_mem_nil⟩⟩⟩⟩⟩⟩) (ih a0 a1 x2 x3 x4 x5 g fe)
    cases e
set_option maxRecDepth 100000 in
theorem t_X11_mostNested_84 {X : Nat × (Nat → Int32)} (N : Nat) {q : Int32 × mH} : ∀ (n : Nat) (a0 : Nat) (a1 : Nat) (x2 : Int32) (x3 : Int32) (x4 : Int32) (x5 : Int32) (h : mH), L_X11_mostNested_84 N n a0 a1 x2 x3 x4 x5 h = some q → MW X y_X11_mostNested 5 84 [(0, .ref a0), (1, .ref a1), (2, .int x2), (3, .int x3), (4, .int x4), (5, .int x5)] [] h (some (.int q.1)) q.2 := by
  intro n
  induction n with
  | zero => intro a0 a1 x2 x3 x4 x5 h hf; cases hf
  | succ n ih =>
    intro a0 a1 x2 x3 x4 x5 h hf
    refine ev_ok (o := 11) (ini := false) (Cl := C_X11_mostNested N) (Rc := RcI) (B := B_X11_mostNested) (K := fun pc ls st g => kb pc 84 (lgr 0 ls fun a0 => lgr 1 ls fun a1 => lgi 2 ls fun x2 => lgi 3 ls fun x3 => lgi 4 ls fun x4 => lgi 5 ls fun x5 => pe st (L_X11_mostNested_84 N n a0 a1 x2 x3 x4 x5 g)) (none)) rfl (fun e => by cases e) (by decide) (rcI_ok rfl) ?_ (co_X11_mostNested N q) lb_X11_mostNested 3000 84 S_X11_mostNested_84 _ _ h ls_X11_mostNested_84 hf
    intro pc ls st g e
    rcases kb_s e with ⟨rfl, e⟩ | e
    · obtain ⟨a0, e0, f0⟩ := lgr_s e
      obtain ⟨a1, e1, f1⟩ := lgr_s f0
      obtain ⟨x2, e2, f2⟩ := lgi_s f1
      obtain ⟨x3, e3, f3⟩ := lgi_s f2
      obtain ⟨x4, e4, f4⟩ := lgi_s f3
      obtain ⟨x5, e5, f5⟩ := lgi_s f4
      obtain ⟨qe, fe⟩ := pe_s f5
      subst qe
      exact MW.sub (List.forall_mem_cons.mpr ⟨lg_mem e0, List.forall_mem_cons.mpr ⟨lg_mem e1, List.forall_mem_cons.mpr ⟨lg_mem e2, List.forall_mem_cons.mpr ⟨lg_mem e3, List.forall_mem_cons.mpr ⟨lg_mem e4, List.forall_mem_cons.mpr ⟨lg_mem e5, fun _ h => absurd h List.not_mem_nil⟩⟩⟩⟩⟩⟩) (ih a0 a1 x2 x3 x4 x5 g fe)
    cases e
set_option maxRecDepth 100000 in
theorem t_X11_mostNested_2 {X : Nat × (Nat → Int32)} (N : Nat) {q : Int32 × mH} : ∀ (n : Nat) (a0 : Nat) (a1 : Nat) (x2 : Int32) (x3 : Int32) (h : mH), L_X11_mostNested_2 N n a0 a1 x2 x3 h = some q → MW X y_X11_mostNested 5 2 [(0, .ref a0), (1, .ref a1), (2, .int x2), (3, .int x3)] [] h (some (.int q.1)) q.2 := by
  intro n
  induction n with
  | zero => intro a0 a1 x2 x3 h hf; cases hf
  | succ n ih =>
    intro a0 a1 x2 x3 h hf
    refine ev_ok (o := 11) (ini := false) (Cl := C_X11_mostNested N) (Rc := RcI) (B := B_X11_mostNested) (K := fun pc ls st g => kb pc 20 (lgr 0 ls fun a0 => lgr 1 ls fun a1 => lgi 2 ls fun x2 => lgi 3 ls fun x3 => lgi 4 ls fun x4 => lgi 5 ls fun x5 => pe st (L_X11_mostNested_20 N (L_X11_mostNested_2 N n) N a0 a1 x2 x3 x4 x5 g)) (kb pc 84 (lgr 0 ls fun a0 => lgr 1 ls fun a1 => lgi 2 ls fun x2 => lgi 3 ls fun x3 => lgi 4 ls fun x4 => lgi 5 ls fun x5 => pe st (L_X11_mostNested_84 N N a0 a1 x2 x3 x4 x5 g)) (none))) rfl (fun e => by cases e) (by decide) (rcI_ok rfl) ?_ (co_X11_mostNested N q) lb_X11_mostNested 3000 2 S_X11_mostNested_2 _ _ h ls_X11_mostNested_2 hf
    intro pc ls st g e
    rcases kb_s e with ⟨rfl, e⟩ | e
    · obtain ⟨a0, e0, f0⟩ := lgr_s e
      obtain ⟨a1, e1, f1⟩ := lgr_s f0
      obtain ⟨x2, e2, f2⟩ := lgi_s f1
      obtain ⟨x3, e3, f3⟩ := lgi_s f2
      obtain ⟨x4, e4, f4⟩ := lgi_s f3
      obtain ⟨x5, e5, f5⟩ := lgi_s f4
      obtain ⟨qe, fe⟩ := pe_s f5
      subst qe
      exact MW.sub (List.forall_mem_cons.mpr ⟨lg_mem e0, List.forall_mem_cons.mpr ⟨lg_mem e1, List.forall_mem_cons.mpr ⟨lg_mem e2, List.forall_mem_cons.mpr ⟨lg_mem e3, List.forall_mem_cons.mpr ⟨lg_mem e4, List.forall_mem_cons.mpr ⟨lg_mem e5, fun _ h => absurd h List.not_mem_nil⟩⟩⟩⟩⟩⟩) (t_X11_mostNested_20 N (fun a0 a1 x2 x3 g e => ih a0 a1 x2 x3 g e) N a0 a1 x2 x3 x4 x5 g fe)
    rcases kb_s e with ⟨rfl, e⟩ | e
    · obtain ⟨a0, e0, f0⟩ := lgr_s e
      obtain ⟨a1, e1, f1⟩ := lgr_s f0
      obtain ⟨x2, e2, f2⟩ := lgi_s f1
      obtain ⟨x3, e3, f3⟩ := lgi_s f2
      obtain ⟨x4, e4, f4⟩ := lgi_s f3
      obtain ⟨x5, e5, f5⟩ := lgi_s f4
      obtain ⟨qe, fe⟩ := pe_s f5
      subst qe
      exact MW.sub (List.forall_mem_cons.mpr ⟨lg_mem e0, List.forall_mem_cons.mpr ⟨lg_mem e1, List.forall_mem_cons.mpr ⟨lg_mem e2, List.forall_mem_cons.mpr ⟨lg_mem e3, List.forall_mem_cons.mpr ⟨lg_mem e4, List.forall_mem_cons.mpr ⟨lg_mem e5, fun _ h => absurd h List.not_mem_nil⟩⟩⟩⟩⟩⟩) (t_X11_mostNested_84 N N a0 a1 x2 x3 x4 x5 g fe)
    cases e
set_option maxRecDepth 100000 in
theorem m_X11_mostNested (N : Nat) {a0 : Nat} {a1 : Nat} {x2 : Int32} {h : mH} {q : Int32 × mH} (hf : f_X11_mostNested N a0 a1 x2 h = some q) : MM y_X11_mostNested 5 [.ref a0, .ref a1, .int x2] h (some (.int q.1)) q.2 := by
  refine MM.of (mFx (j := 215) rfl).2.2.2.1 (Nat.le_of_ble_eq_true rfl) (fun X => ?_)
  refine ev_ok (o := 11) (ini := false) (Cl := C_X11_mostNested N) (Rc := RcI) (B := B_X11_mostNested) (K := fun pc ls st g => kb pc 2 (lgr 0 ls fun a0 => lgr 1 ls fun a1 => lgi 2 ls fun x2 => lgi 3 ls fun x3 => pe st (L_X11_mostNested_2 N N a0 a1 x2 x3 g)) (none)) rfl (fun e => by cases e) (by decide) (rcI_ok rfl) ?_ (co_X11_mostNested N q) lb_X11_mostNested 3000 0 S_X11_mostNested_0 _ _ h ls_X11_mostNested_0 hf
  intro pc ls st g e
  rcases kb_s e with ⟨rfl, e⟩ | e
  · obtain ⟨a0, e0, f0⟩ := lgr_s e
    obtain ⟨a1, e1, f1⟩ := lgr_s f0
    obtain ⟨x2, e2, f2⟩ := lgi_s f1
    obtain ⟨x3, e3, f3⟩ := lgi_s f2
    obtain ⟨qe, fe⟩ := pe_s f3
    subst qe
    exact MW.sub (List.forall_mem_cons.mpr ⟨lg_mem e0, List.forall_mem_cons.mpr ⟨lg_mem e1, List.forall_mem_cons.mpr ⟨lg_mem e2, List.forall_mem_cons.mpr ⟨lg_mem e3, fun _ h => absurd h List.not_mem_nil⟩⟩⟩⟩) (t_X11_mostNested_2 N N a0 a1 x2 x3 g fe)
  cases e
def f_X11_nest (N : Nat) (a0 : Nat) (x1 : Int32) (x2 : Int32) (h : mH) : Option (Int32 × mH) :=
  (rcv h 11 a0).bind fun _ =>
  (f_X11_isRow N a0 x1 h).bind fun p1 =>
  if p1.1 = 0 then
    (rcv p1.2 11 a0).bind fun _ =>
    (f_X11_refuse N a0 (jI (-2)) p1.2).bind fun p2 =>
    some (p2.1, p2.2)
  else
    (gR p1.2 11 a0 10).bind fun v3 =>
    (ldR 4 p1.2 v3 x1).bind fun v4 =>
    (rcv p1.2 5 v4).bind fun _ =>
    (f_X5_isMissing N v4 p1.2).bind fun p5 =>
    if p5.1 = 0 then
      (rcv p5.2 5 v4).bind fun _ =>
      (f_X5_allWithin N v4 (jL 1) (jL 9999) p5.2).bind fun p6 =>
      if p6.1 = 0 then
        (rcv p6.2 11 a0).bind fun _ =>
        (f_X11_refuse N a0 (jI (-3)) p6.2).bind fun p7 =>
        some (p7.1, p7.2)
      else
        if x2 < 0 then
          (rcv p6.2 11 a0).bind fun _ =>
          (f_X11_refuse N a0 (jI (-3)) p6.2).bind fun p8 =>
          some (p8.1, p8.2)
        else
          if (jI 999) < x2 then
            (rcv p6.2 11 a0).bind fun _ =>
            (f_X11_refuse N a0 (jI (-3)) p6.2).bind fun p9 =>
            some (p9.1, p9.2)
          else
            (rcv p6.2 11 a0).bind fun _ =>
            (f_X11_mostNested N a0 v4 x2 p6.2).bind fun p10 =>
            some (p10.1, p10.2)
    else
      (rcv p5.2 11 a0).bind fun _ =>
      (f_X11_refuse N a0 (jI (-6)) p5.2).bind fun p11 =>
      some (p11.1, p11.2)
def y_X11_nest : mM := (yX11_nest, cX11_nest, 4, (some .int))
def B_X11_nest : List (Nat × List mI) := [(15, [(.aload_n 0, 1, [0], []), (.getfield 66, 3, [11, 10, 2, 119], []), (.iload_n 1, 1, [1], []), (.aaload, 1, [4], []), (.astore_n 3, 1, [3], []), (.aload_n 3, 1, [3], []), (.invokevirtual 291, 3, [0, 71, 0, 5, 170], []), (.ifCond .eq 10, 3, [36], []), (.aload_n 0, 1, [0], []), (.bipush (-6), 2, [], [-6]), (.invokevirtual 109, 3, [0, 203, 1, 11, 10], []), (.ireturn, 1, [], [])]), (36, [(.aload_n 3, 1, [3], []), (.lconst 1, 1, [], [1]), (.ldc2_w 316, 3, [1], [9999]), (.invokevirtual 300, 3, [0, 75, 2, 5, 171], []), (.ifCond .eq 14, 3, [58], []), (.iload_n 2, 1, [2], []), (.ifCond .lt 10, 3, [58], []), (.iload_n 2, 1, [2], []), (.sipush 999, 3, [], [999]), (.if_icmp .le 10, 3, [65], [])]), (58, [(.aload_n 0, 1, [0], []), (.bipush (-3), 2, [], [-3]), (.invokevirtual 109, 3, [0, 203, 1, 11, 10], []), (.ireturn, 1, [], [])]), (65, [(.aload_n 0, 1, [0], []), (.aload_n 3, 1, [3], []), (.iload_n 2, 1, [2], []), (.invokevirtual 318, 3, [0, 215, 2, 11, 177], []), (.ireturn, 1, [], [])])]
def S_X11_nest_0 : List mI := [(.aload_n 0, 1, [0], []), (.iload_n 1, 1, [1], []), (.invokevirtual 288, 3, [0, 206, 1, 11, 169], []), (.ifCond .ne 10, 3, [15], []), (.aload_n 0, 1, [0], []), (.bipush (-2), 2, [], [-2]), (.invokevirtual 109, 3, [0, 203, 1, 11, 10], []), (.ireturn, 1, [], [])]
theorem lb_X11_nest : B_X11_nest.all (fun b => lst y_X11_nest.2.1 11 y_X11_nest.2.2.1 false b.1 b.2) = true := by decide +kernel
theorem ls_X11_nest_0 : lst y_X11_nest.2.1 11 y_X11_nest.2.2.1 false 0 S_X11_nest_0 = true := by decide +kernel
def C_X11_nest (N : Nat) : Nat → List Value → mH → (Option Value → mH → Option (Int32 × mH)) → Option (Int32 × mH) := fun j as g k => kb j 206 (pr1 as fun b0 as => pp1 as fun b1 as => pe as ((f_X11_isRow N b0 b1 g).bind fun p => k (some (.int p.1)) p.2)) (kb j 203 (pr1 as fun b0 as => pp1 as fun b1 as => pe as ((f_X11_refuse N b0 b1 g).bind fun p => k (some (.int p.1)) p.2)) (kb j 71 (pr1 as fun b0 as => pe as ((f_X5_isMissing N b0 g).bind fun p => k (some (.int p.1)) p.2)) (kb j 75 (pr1 as fun b0 as => pl1 as fun b1 as => pl1 as fun b2 as => pe as ((f_X5_allWithin N b0 b1 b2 g).bind fun p => k (some (.int p.1)) p.2)) (kb j 215 (pr1 as fun b0 as => pr1 as fun b1 as => pp1 as fun b2 as => pe as ((f_X11_mostNested N b0 b1 b2 g).bind fun p => k (some (.int p.1)) p.2)) (none)))))
theorem co_X11_nest (N : Nat) (q : Int32 × mH) : clOK 6 q (C_X11_nest N) := by
  intro j as g k e
  rcases kb_s e with ⟨rfl, e⟩ | e
  · obtain ⟨b0, r0, q0, f0⟩ := pr1_s e
    obtain ⟨b1, r1, q1, f1⟩ := pp1_s f0
    obtain ⟨qe, fe⟩ := pe_s f1
    obtain ⟨p, e1, e2⟩ := bnd_s fe
    subst qe
    subst q1
    subst q0
    exact ⟨_, _, _, _, 4, rfl, (by decide), m_X11_isRow N e1, e2⟩
  rcases kb_s e with ⟨rfl, e⟩ | e
  · obtain ⟨b0, r0, q0, f0⟩ := pr1_s e
    obtain ⟨b1, r1, q1, f1⟩ := pp1_s f0
    obtain ⟨qe, fe⟩ := pe_s f1
    obtain ⟨p, e1, e2⟩ := bnd_s fe
    subst qe
    subst q1
    subst q0
    exact ⟨_, _, _, _, 4, rfl, (by decide), m_X11_refuse N e1, e2⟩
  rcases kb_s e with ⟨rfl, e⟩ | e
  · obtain ⟨b0, r0, q0, f0⟩ := pr1_s e
    obtain ⟨qe, fe⟩ := pe_s f0
    obtain ⟨p, e1, e2⟩ := bnd_s fe
    subst qe
    subst q0
    exact ⟨_, _, _, _, 4, rfl, (by decide), m_X5_isMissing N e1, e2⟩
  rcases kb_s e with ⟨rfl, e⟩ | e
  · obtain ⟨b0, r0, q0, f0⟩ := pr1_s e
    obtain ⟨b1, r1, q1, f1⟩ := pl1_s f0
    obtain ⟨b2, r2, q2, f2⟩ := pl1_s f1
    obtain ⟨qe, fe⟩ := pe_s f2
    obtain ⟨p, e1, e2⟩ := bnd_s fe
    subst qe
    subst q2
    subst q1
    subst q0
    exact ⟨_, _, _, _, 4, rfl, (by decide), m_X5_allWithin N e1, e2⟩
  rcases kb_s e with ⟨rfl, e⟩ | e
  · obtain ⟨b0, r0, q0, f0⟩ := pr1_s e
    obtain ⟨b1, r1, q1, f1⟩ := pr1_s f0
    obtain ⟨b2, r2, q2, f2⟩ := pp1_s f1
    obtain ⟨qe, fe⟩ := pe_s f2
    obtain ⟨p, e1, e2⟩ := bnd_s fe
    subst qe
    subst q2
    subst q1
    subst q0
    exact ⟨_, _, _, _, 5, rfl, (by decide), m_X11_mostNested N e1, e2⟩
  cases e
set_option maxRecDepth 100000 in
theorem m_X11_nest (N : Nat) {a0 : Nat} {x1 : Int32} {x2 : Int32} {h : mH} {q : Int32 × mH} (hf : f_X11_nest N a0 x1 x2 h = some q) : MM y_X11_nest 6 [.ref a0, .int x1, .int x2] h (some (.int q.1)) q.2 := by
  refine MM.of (mFx (j := 181) rfl).2.2.2.1 (Nat.le_of_ble_eq_true rfl) (fun X => ?_)
  refine ev_ok (o := 11) (ini := false) (Cl := C_X11_nest N) (Rc := RcI) (B := B_X11_nest) (K := fun pc ls st g => none) rfl (fun e => by cases e) (by decide) (rcI_ok rfl) ?_ (co_X11_nest N q) lb_X11_nest 3000 0 S_X11_nest_0 _ _ h ls_X11_nest_0 hf
  intro pc ls st g e
  cases e
def J_X11_plait_48 (N : Nat) (a0 : Nat) (x1 : Int32) (x2 : Int32) (x3 : Int32) (h : mH) : Option (Int32 × mH) :=
  (gR h 11 a0 10).bind fun v1 =>
  (ldR 4 h v1 x1).bind fun v2 =>
  (rcv h 5 v2).bind fun _ =>
  (f_X5_isMissing N v2 h).bind fun p3 =>
  if p3.1 = 0 then
    if x2 < (jI 2) then
      (rcv p3.2 11 a0).bind fun _ =>
      (f_X11_refuse N a0 (jI (-3)) p3.2).bind fun p4 =>
      some (p4.1, p4.2)
    else
      if (jI 9) < x2 then
        (rcv p3.2 11 a0).bind fun _ =>
        (f_X11_refuse N a0 (jI (-3)) p3.2).bind fun p5 =>
        some (p5.1, p5.2)
      else
        (rcv p3.2 5 v2).bind fun _ =>
        (f_X5_allWithin N v2 ((iSub (jI 1) x2).toInt64) ((iSub x2 (jI 2)).toInt64) p3.2).bind fun p6 =>
        if p6.1 = 0 then
          (rcv p6.2 11 a0).bind fun _ =>
          (f_X11_refuse N a0 (jI (-3)) p6.2).bind fun p7 =>
          some (p7.1, p7.2)
        else
          if x3 = (jI 1) then
            (gR p6.2 11 a0 14).bind fun v8 =>
            (rcv p6.2 7 v8).bind fun _ =>
            (f_X7_leftOf N v8 v2 p6.2).bind fun p9 =>
            some (p9.1, p9.2)
          else
            (gR p6.2 11 a0 14).bind fun v10 =>
            (rcv p6.2 7 v10).bind fun _ =>
            (f_X7_make N v10 v2 x2 p6.2).bind fun h11 =>
            if x3 = 0 then
              (gR h11 11 a0 14).bind fun v12 =>
              (rcv h11 7 v12).bind fun _ =>
              (f_X7_orderOf N v12 x2 h11).bind fun p13 =>
              some (p13.1, p13.2)
            else
              (gR h11 11 a0 14).bind fun v14 =>
              (rcv h11 7 v14).bind fun _ =>
              (f_X7_strandAt N v14 (iSub x3 (jI 10)) x2 h11).bind fun p15 =>
              some (p15.1, p15.2)
  else
    (rcv p3.2 11 a0).bind fun _ =>
    (f_X11_refuse N a0 (jI (-6)) p3.2).bind fun p16 =>
    some (p16.1, p16.2)
def J_X11_plait_17 (N : Nat) (a0 : Nat) (x1 : Int32) (x2 : Int32) (x3 : Int32) (s_0 : Int32) (h : mH) : Option (Int32 × mH) :=
  (rcv h 11 a0).bind fun _ =>
  (f_X11_isRow N a0 x1 h).bind fun p1 =>
  if p1.1 = 0 then
    (rcv p1.2 11 a0).bind fun _ =>
    (f_X11_refuse N a0 (jI (-2)) p1.2).bind fun p2 =>
    some (p2.1, p2.2)
  else
    if s_0 = 0 then
      if x3 = 0 then
        J_X11_plait_48 N a0 x1 x2 x3 p1.2
      else
        if x3 = (jI 1) then
          J_X11_plait_48 N a0 x1 x2 x3 p1.2
        else
          (rcv p1.2 11 a0).bind fun _ =>
          (f_X11_refuse N a0 (jI (-2)) p1.2).bind fun p3 =>
          some (p3.1, p3.2)
    else
      J_X11_plait_48 N a0 x1 x2 x3 p1.2
def f_X11_plait (N : Nat) (a0 : Nat) (x1 : Int32) (x2 : Int32) (x3 : Int32) (h : mH) : Option (Int32 × mH) :=
  if x3 < (jI 10) then
    J_X11_plait_17 N a0 x1 x2 x3 (jI 0) h
  else
    if x3 < (jI 19) then
      J_X11_plait_17 N a0 x1 x2 x3 (jI 1) h
    else
      J_X11_plait_17 N a0 x1 x2 x3 (jI 0) h
def y_X11_plait : mM := (yX11_plait, cX11_plait, 6, (some .int))
def B_X11_plait : List (Nat × List mI) := [(16, [(.iconst 0, 1, [], [0])]), (41, [(.aload_n 0, 1, [0], []), (.bipush (-2), 2, [], [-2]), (.invokevirtual 109, 3, [0, 203, 1, 11, 10], []), (.ireturn, 1, [], [])]), (71, [(.iload_n 2, 1, [2], []), (.iconst 2, 1, [], [2]), (.if_icmp .lt 25, 3, [98], []), (.iload_n 2, 1, [2], []), (.bipush 9, 2, [], [9]), (.if_icmp .gt 19, 3, [98], []), (.aload 5, 2, [5], []), (.iconst 1, 1, [], [1]), (.iload_n 2, 1, [2], []), (.isub, 1, [], []), (.i2l, 1, [], []), (.iload_n 2, 1, [2], []), (.iconst 2, 1, [], [2]), (.isub, 1, [], []), (.i2l, 1, [], []), (.invokevirtual 300, 3, [0, 75, 2, 5, 171], []), (.ifCond .ne 10, 3, [105], [])]), (98, [(.aload_n 0, 1, [0], []), (.bipush (-3), 2, [], [-3]), (.invokevirtual 109, 3, [0, 203, 1, 11, 10], []), (.ireturn, 1, [], [])]), (105, [(.iload_n 3, 1, [3], []), (.iconst 1, 1, [], [1]), (.if_icmp .ne 13, 3, [120], []), (.aload_n 0, 1, [0], []), (.getfield 94, 3, [11, 14, 2, 123], []), (.aload 5, 2, [5], []), (.invokevirtual 321, 3, [0, 90, 1, 7, 179], []), (.ireturn, 1, [], [])]), (120, [(.aload_n 0, 1, [0], []), (.getfield 94, 3, [11, 14, 2, 123], []), (.aload 5, 2, [5], []), (.iload_n 2, 1, [2], []), (.invokevirtual 325, 3, [0, 86, 2, 7, 181], []), (.iload_n 3, 1, [3], []), (.ifCond .ne 14, 3, [145], []), (.aload_n 0, 1, [0], []), (.getfield 94, 3, [11, 14, 2, 123], []), (.iload_n 2, 1, [2], []), (.invokevirtual 329, 3, [0, 88, 1, 7, 182], []), (.goto 15, 3, [157], [])]), (145, [(.aload_n 0, 1, [0], []), (.getfield 94, 3, [11, 14, 2, 123], []), (.iload_n 3, 1, [3], []), (.bipush 10, 2, [], [10]), (.isub, 1, [], []), (.iload_n 2, 1, [2], []), (.invokevirtual 332, 3, [0, 87, 2, 7, 184], [])]), (157, [(.ireturn, 1, [], [])])]
def S_X11_plait_0 : List mI := [(.iload_n 3, 1, [3], []), (.bipush 10, 2, [], [10]), (.if_icmp .lt 13, 3, [16], []), (.iload_n 3, 1, [3], []), (.bipush 19, 2, [], [19]), (.if_icmp .ge 7, 3, [16], []), (.iconst 1, 1, [], [1]), (.goto 4, 3, [17], [])]
def S_X11_plait_17 : List mI := [(.istore 4, 2, [4], []), (.aload_n 0, 1, [0], []), (.iload_n 1, 1, [1], []), (.invokevirtual 288, 3, [0, 206, 1, 11, 169], []), (.ifCond .eq 17, 3, [41], []), (.iload 4, 2, [4], []), (.ifCond .ne 19, 3, [48], []), (.iload_n 3, 1, [3], []), (.ifCond .eq 15, 3, [48], []), (.iload_n 3, 1, [3], []), (.iconst 1, 1, [], [1]), (.if_icmp .eq 10, 3, [48], [])]
def S_X11_plait_48 : List mI := [(.aload_n 0, 1, [0], []), (.getfield 66, 3, [11, 10, 2, 119], []), (.iload_n 1, 1, [1], []), (.aaload, 1, [4], []), (.astore 5, 2, [5], []), (.aload 5, 2, [5], []), (.invokevirtual 291, 3, [0, 71, 0, 5, 170], []), (.ifCond .eq 10, 3, [71], []), (.aload_n 0, 1, [0], []), (.bipush (-6), 2, [], [-6]), (.invokevirtual 109, 3, [0, 203, 1, 11, 10], []), (.ireturn, 1, [], [])]
theorem lb_X11_plait : B_X11_plait.all (fun b => lst y_X11_plait.2.1 11 y_X11_plait.2.2.1 false b.1 b.2) = true := by decide +kernel
theorem ls_X11_plait_0 : lst y_X11_plait.2.1 11 y_X11_plait.2.2.1 false 0 S_X11_plait_0 = true := by decide +kernel
theorem ls_X11_plait_17 : lst y_X11_plait.2.1 11 y_X11_plait.2.2.1 false 17 S_X11_plait_17 = true := by decide +kernel
theorem ls_X11_plait_48 : lst y_X11_plait.2.1 11 y_X11_plait.2.2.1 false 48 S_X11_plait_48 = true := by decide +kernel
def C_X11_plait (N : Nat) : Nat → List Value → mH → (Option Value → mH → Option (Int32 × mH)) → Option (Int32 × mH) := fun j as g k => kb j 206 (pr1 as fun b0 as => pp1 as fun b1 as => pe as ((f_X11_isRow N b0 b1 g).bind fun p => k (some (.int p.1)) p.2)) (kb j 203 (pr1 as fun b0 as => pp1 as fun b1 as => pe as ((f_X11_refuse N b0 b1 g).bind fun p => k (some (.int p.1)) p.2)) (kb j 71 (pr1 as fun b0 as => pe as ((f_X5_isMissing N b0 g).bind fun p => k (some (.int p.1)) p.2)) (kb j 75 (pr1 as fun b0 as => pl1 as fun b1 as => pl1 as fun b2 as => pe as ((f_X5_allWithin N b0 b1 b2 g).bind fun p => k (some (.int p.1)) p.2)) (kb j 90 (pr1 as fun b0 as => pr1 as fun b1 as => pe as ((f_X7_leftOf N b0 b1 g).bind fun p => k (some (.int p.1)) p.2)) (kb j 86 (pr1 as fun b0 as => pr1 as fun b1 as => pp1 as fun b2 as => pe as ((f_X7_make N b0 b1 b2 g).bind fun p => k none p)) (kb j 88 (pr1 as fun b0 as => pp1 as fun b1 as => pe as ((f_X7_orderOf N b0 b1 g).bind fun p => k (some (.int p.1)) p.2)) (kb j 87 (pr1 as fun b0 as => pp1 as fun b1 as => pp1 as fun b2 as => pe as ((f_X7_strandAt N b0 b1 b2 g).bind fun p => k (some (.int p.1)) p.2)) (none))))))))
theorem co_X11_plait (N : Nat) (q : Int32 × mH) : clOK 6 q (C_X11_plait N) := by
  intro j as g k e
  rcases kb_s e with ⟨rfl, e⟩ | e
  · obtain ⟨b0, r0, q0, f0⟩ := pr1_s e
    obtain ⟨b1, r1, q1, f1⟩ := pp1_s f0
    obtain ⟨qe, fe⟩ := pe_s f1
    obtain ⟨p, e1, e2⟩ := bnd_s fe
    subst qe
    subst q1
    subst q0
    exact ⟨_, _, _, _, 4, rfl, (by decide), m_X11_isRow N e1, e2⟩
  rcases kb_s e with ⟨rfl, e⟩ | e
  · obtain ⟨b0, r0, q0, f0⟩ := pr1_s e
    obtain ⟨b1, r1, q1, f1⟩ := pp1_s f0
    obtain ⟨qe, fe⟩ := pe_s f1
    obtain ⟨p, e1, e2⟩ := bnd_s fe
    subst qe
    subst q1
    subst q0
    exact ⟨_, _, _, _, 4, rfl, (by decide), m_X11_refuse N e1, e2⟩
  rcases kb_s e with ⟨rfl, e⟩ | e
  · obtain ⟨b0, r0, q0, f0⟩ := pr1_s e
    obtain ⟨qe, fe⟩ := pe_s f0
    obtain ⟨p, e1, e2⟩ := bnd_s fe
    subst qe
    subst q0
    exact ⟨_, _, _, _, 4, rfl, (by decide), m_X5_isMissing N e1, e2⟩
  rcases kb_s e with ⟨rfl, e⟩ | e
  · obtain ⟨b0, r0, q0, f0⟩ := pr1_s e
    obtain ⟨b1, r1, q1, f1⟩ := pl1_s f0
    obtain ⟨b2, r2, q2, f2⟩ := pl1_s f1
    obtain ⟨qe, fe⟩ := pe_s f2
    obtain ⟨p, e1, e2⟩ := bnd_s fe
    subst qe
    subst q2
    subst q1
    subst q0
    exact ⟨_, _, _, _, 4, rfl, (by decide), m_X5_allWithin N e1, e2⟩
  rcases kb_s e with ⟨rfl, e⟩ | e
  · obtain ⟨b0, r0, q0, f0⟩ := pr1_s e
    obtain ⟨b1, r1, q1, f1⟩ := pr1_s f0
    obtain ⟨qe, fe⟩ := pe_s f1
    obtain ⟨p, e1, e2⟩ := bnd_s fe
    subst qe
    subst q1
    subst q0
    exact ⟨_, _, _, _, 5, rfl, (by decide), m_X7_leftOf N e1, e2⟩
  rcases kb_s e with ⟨rfl, e⟩ | e
  · obtain ⟨b0, r0, q0, f0⟩ := pr1_s e
    obtain ⟨b1, r1, q1, f1⟩ := pr1_s f0
    obtain ⟨b2, r2, q2, f2⟩ := pp1_s f1
    obtain ⟨qe, fe⟩ := pe_s f2
    obtain ⟨p, e1, e2⟩ := bnd_s fe
    subst qe
    subst q2
    subst q1
    subst q0
    exact ⟨_, _, _, _, 5, rfl, (by decide), m_X7_make N e1, e2⟩
  rcases kb_s e with ⟨rfl, e⟩ | e
  · obtain ⟨b0, r0, q0, f0⟩ := pr1_s e
    obtain ⟨b1, r1, q1, f1⟩ := pp1_s f0
    obtain ⟨qe, fe⟩ := pe_s f1
    obtain ⟨p, e1, e2⟩ := bnd_s fe
    subst qe
    subst q1
    subst q0
    exact ⟨_, _, _, _, 5, rfl, (by decide), m_X7_orderOf N e1, e2⟩
  rcases kb_s e with ⟨rfl, e⟩ | e
  · obtain ⟨b0, r0, q0, f0⟩ := pr1_s e
    obtain ⟨b1, r1, q1, f1⟩ := pp1_s f0
    obtain ⟨b2, r2, q2, f2⟩ := pp1_s f1
    obtain ⟨qe, fe⟩ := pe_s f2
    obtain ⟨p, e1, e2⟩ := bnd_s fe
    subst qe
    subst q2
    subst q1
    subst q0
    exact ⟨_, _, _, _, 4, rfl, (by decide), m_X7_strandAt N e1, e2⟩
  cases e
set_option maxRecDepth 100000 in
theorem t_X11_plait_48 {X : Nat × (Nat → Int32)} (N : Nat) {q : Int32 × mH} (a0 : Nat) (x1 : Int32) (x2 : Int32) (x3 : Int32) (h : mH) (hf : J_X11_plait_48 N a0 x1 x2 x3 h = some q) : MW X y_X11_plait 6 48 [(0, .ref a0), (1, .int x1), (2, .int x2), (3, .int x3)] [] h (some (.int q.1)) q.2 := by
  refine ev_ok (o := 11) (ini := false) (Cl := C_X11_plait N) (Rc := RcI) (B := B_X11_plait) (K := fun pc ls st g => none) rfl (fun e => by cases e) (by decide) (rcI_ok rfl) ?_ (co_X11_plait N q) lb_X11_plait 3000 48 S_X11_plait_48 _ _ h ls_X11_plait_48 hf
  intro pc ls st g e
  cases e
set_option maxRecDepth 100000 in
theorem t_X11_plait_17 {X : Nat × (Nat → Int32)} (N : Nat) {q : Int32 × mH} (a0 : Nat) (x1 : Int32) (x2 : Int32) (x3 : Int32) (s_0 : Int32) (h : mH) (hf : J_X11_plait_17 N a0 x1 x2 x3 s_0 h = some q) : MW X y_X11_plait 6 17 [(0, .ref a0), (1, .int x1), (2, .int x2), (3, .int x3)] [.int s_0] h (some (.int q.1)) q.2 := by
  refine ev_ok (o := 11) (ini := false) (Cl := C_X11_plait N) (Rc := RcI) (B := B_X11_plait) (K := fun pc ls st g => kb pc 48 (lgr 0 ls fun a0 => lgi 1 ls fun x1 => lgi 2 ls fun x2 => lgi 3 ls fun x3 => pe st (J_X11_plait_48 N a0 x1 x2 x3 g)) (none)) rfl (fun e => by cases e) (by decide) (rcI_ok rfl) ?_ (co_X11_plait N q) lb_X11_plait 3000 17 S_X11_plait_17 _ _ h ls_X11_plait_17 hf
  intro pc ls st g e
  rcases kb_s e with ⟨rfl, e⟩ | e
  · obtain ⟨a0, e0, f0⟩ := lgr_s e
    obtain ⟨x1, e1, f1⟩ := lgi_s f0
    obtain ⟨x2, e2, f2⟩ := lgi_s f1
    obtain ⟨x3, e3, f3⟩ := lgi_s f2
    obtain ⟨qe, fe⟩ := pe_s f3
    subst qe
    exact MW.sub (List.forall_mem_cons.mpr ⟨lg_mem e0, List.forall_mem_cons.mpr ⟨lg_mem e1, List.forall_mem_cons.mpr ⟨lg_mem e2, List.forall_mem_cons.mpr ⟨lg_mem e3, fun _ h => absurd h List.not_mem_nil⟩⟩⟩⟩) (t_X11_plait_48 N a0 x1 x2 x3 g fe)
  cases e
set_option maxRecDepth 100000 in
theorem m_X11_plait (N : Nat) {a0 : Nat} {x1 : Int32} {x2 : Int32} {x3 : Int32} {h : mH} {q : Int32 × mH} (hf : f_X11_plait N a0 x1 x2 x3 h = some q) : MM y_X11_plait 6 [.ref a0, .int x1, .int x2, .int x3] h (some (.int q.1)) q.2 := by
  refine MM.of (mFx (j := 182) rfl).2.2.2.1 (Nat.le_of_ble_eq_true rfl) (fun X => ?_)
  refine ev_ok (o := 11) (ini := false) (Cl := C_X11_plait N) (Rc := RcI) (B := B_X11_plait) (K := fun pc ls st g => kb pc 17 (lgr 0 ls fun a0 => lgi 1 ls fun x1 => lgi 2 ls fun x2 => lgi 3 ls fun x3 => pp1 st fun s_0 st => pe st (J_X11_plait_17 N a0 x1 x2 x3 s_0 g)) (none)) rfl (fun e => by cases e) (by decide) (rcI_ok rfl) ?_ (co_X11_plait N q) lb_X11_plait 3000 0 S_X11_plait_0 _ _ h ls_X11_plait_0 hf
  intro pc ls st g e
  rcases kb_s e with ⟨rfl, e⟩ | e
  · obtain ⟨a0, e0, f0⟩ := lgr_s e
    obtain ⟨x1, e1, f1⟩ := lgi_s f0
    obtain ⟨x2, e2, f2⟩ := lgi_s f1
    obtain ⟨x3, e3, f3⟩ := lgi_s f2
    obtain ⟨s_0, r0, q0, g0⟩ := pp1_s f3
    obtain ⟨qe, fe⟩ := pe_s g0
    subst qe
    subst q0
    exact MW.sub (List.forall_mem_cons.mpr ⟨lg_mem e0, List.forall_mem_cons.mpr ⟨lg_mem e1, List.forall_mem_cons.mpr ⟨lg_mem e2, List.forall_mem_cons.mpr ⟨lg_mem e3, fun _ h => absurd h List.not_mem_nil⟩⟩⟩⟩) (t_X11_plait_17 N a0 x1 x2 x3 s_0 g fe)
  cases e
def J_X11_even_78 (N : Nat) (a0 : Nat) (x2 : Int32) (a3 : Nat) (s_0 : Int32) (h : mH) : Option (Int32 × mH) :=
  if s_0 = 0 then
    (rcv h 11 a0).bind fun _ =>
    (f_X11_refuse N a0 (jI (-3)) h).bind fun p1 =>
    some (p1.1, p1.2)
  else
    (rcv h 5 a3).bind fun _ =>
    (f_X5_allWithin N a3 (jL 1) (jL 99) h).bind fun p2 =>
    if p2.1 = 0 then
      (rcv p2.2 11 a0).bind fun _ =>
      (f_X11_refuse N a0 (jI (-3)) p2.2).bind fun p3 =>
      some (p3.1, p3.2)
    else
      (gI p2.2 5 a3 0).bind fun v4 =>
      if x2 < v4 then
        (gR p2.2 11 a0 12).bind fun v5 =>
        (rcv p2.2 2 v5).bind fun _ =>
        (f_X2_putRound N v5 a3 p2.2).bind fun h6 =>
        if x2 = (jI (-1)) then
          (gR h6 11 a0 12).bind fun v7 =>
          (gI h6 2 v7 0).bind fun v8 =>
          some (v8, h6)
        else
          (gR h6 11 a0 12).bind fun v9 =>
          (rcv h6 2 v9).bind fun _ =>
          (f_X2_rodAtPlace N v9 x2 h6).bind fun p10 =>
          some (p10.1, p10.2)
      else
        some (jI (-1), p2.2)
def f_X11_even (N : Nat) (a0 : Nat) (x1 : Int32) (x2 : Int32) (h : mH) : Option (Int32 × mH) :=
  (rcv h 11 a0).bind fun _ =>
  (f_X11_isRow N a0 x1 h).bind fun p1 =>
  if p1.1 = 0 then
    (rcv p1.2 11 a0).bind fun _ =>
    (f_X11_refuse N a0 (jI (-2)) p1.2).bind fun p2 =>
    some (p2.1, p2.2)
  else
    if x2 < (jI (-1)) then
      (rcv p1.2 11 a0).bind fun _ =>
      (f_X11_refuse N a0 (jI (-2)) p1.2).bind fun p3 =>
      some (p3.1, p3.2)
    else
      if x2 < (jI 8) then
        (gR p1.2 11 a0 10).bind fun v4 =>
        (ldR 4 p1.2 v4 x1).bind fun v5 =>
        (rcv p1.2 5 v5).bind fun _ =>
        (f_X5_isMissing N v5 p1.2).bind fun p6 =>
        if p6.1 = 0 then
          (gI p6.2 5 v5 0).bind fun v7 =>
          if v7 < (jI 2) then
            J_X11_even_78 N a0 x2 v5 (jI 0) p6.2
          else
            (gI p6.2 5 v5 0).bind fun v8 =>
            if (jI 8) < v8 then
              J_X11_even_78 N a0 x2 v5 (jI 0) p6.2
            else
              (gI p6.2 5 v5 0).bind fun v9 =>
              if (iAnd v9 (jI 1)) = 0 then
                J_X11_even_78 N a0 x2 v5 (jI 1) p6.2
              else
                J_X11_even_78 N a0 x2 v5 (jI 0) p6.2
        else
          (rcv p6.2 11 a0).bind fun _ =>
          (f_X11_refuse N a0 (jI (-6)) p6.2).bind fun p10 =>
          some (p10.1, p10.2)
      else
        (rcv p1.2 11 a0).bind fun _ =>
        (f_X11_refuse N a0 (jI (-2)) p1.2).bind fun p11 =>
        some (p11.1, p11.2)
def y_X11_even : mM := (yX11_even, cX11_even, 5, (some .int))
def B_X11_even : List (Nat × List mI) := [(19, [(.aload_n 0, 1, [0], []), (.bipush (-2), 2, [], [-2]), (.invokevirtual 109, 3, [0, 203, 1, 11, 10], []), (.ireturn, 1, [], [])]), (26, [(.aload_n 0, 1, [0], []), (.getfield 66, 3, [11, 10, 2, 119], []), (.iload_n 1, 1, [1], []), (.aaload, 1, [4], []), (.astore_n 3, 1, [3], []), (.aload_n 3, 1, [3], []), (.invokevirtual 291, 3, [0, 71, 0, 5, 170], []), (.ifCond .eq 10, 3, [47], []), (.aload_n 0, 1, [0], []), (.bipush (-6), 2, [], [-6]), (.invokevirtual 109, 3, [0, 203, 1, 11, 10], []), (.ireturn, 1, [], [])]), (47, [(.aload_n 3, 1, [3], []), (.getfield 295, 3, [5, 0, 0, 71], []), (.iconst 2, 1, [], [2]), (.if_icmp .lt 25, 3, [77], []), (.aload_n 3, 1, [3], []), (.getfield 295, 3, [5, 0, 0, 71], []), (.bipush 8, 2, [], [8]), (.if_icmp .gt 16, 3, [77], []), (.aload_n 3, 1, [3], []), (.getfield 295, 3, [5, 0, 0, 71], []), (.iconst 1, 1, [], [1]), (.iand, 1, [], []), (.ifCond .ne 7, 3, [77], []), (.iconst 1, 1, [], [1]), (.goto 4, 3, [78], [])]), (77, [(.iconst 0, 1, [], [0])]), (96, [(.aload_n 0, 1, [0], []), (.bipush (-3), 2, [], [-3]), (.invokevirtual 109, 3, [0, 203, 1, 11, 10], []), (.ireturn, 1, [], [])]), (103, [(.iload_n 2, 1, [2], []), (.aload_n 3, 1, [3], []), (.getfield 295, 3, [5, 0, 0, 71], []), (.if_icmp .lt 5, 3, [113], []), (.iconst (-1), 1, [], [-1]), (.ireturn, 1, [], [])]), (113, [(.aload_n 0, 1, [0], []), (.getfield 80, 3, [11, 12, 2, 121], []), (.aload_n 3, 1, [3], []), (.invokevirtual 337, 3, [0, 58, 1, 2, 186], []), (.iload_n 2, 1, [2], []), (.iconst (-1), 1, [], [-1]), (.if_icmp .ne 13, 3, [136], []), (.aload_n 0, 1, [0], []), (.getfield 80, 3, [11, 12, 2, 121], []), (.getfield 341, 3, [2, 0, 0, 84], []), (.goto 11, 3, [144], [])]), (136, [(.aload_n 0, 1, [0], []), (.getfield 80, 3, [11, 12, 2, 121], []), (.iload_n 2, 1, [2], []), (.invokevirtual 344, 3, [0, 57, 1, 2, 190], [])]), (144, [(.ireturn, 1, [], [])])]
def S_X11_even_0 : List mI := [(.aload_n 0, 1, [0], []), (.iload_n 1, 1, [1], []), (.invokevirtual 288, 3, [0, 206, 1, 11, 169], []), (.ifCond .eq 14, 3, [19], []), (.iload_n 2, 1, [2], []), (.iconst (-1), 1, [], [-1]), (.if_icmp .lt 9, 3, [19], []), (.iload_n 2, 1, [2], []), (.bipush 8, 2, [], [8]), (.if_icmp .lt 10, 3, [26], [])]
def S_X11_even_78 : List mI := [(.istore 4, 2, [4], []), (.iload 4, 2, [4], []), (.ifCond .eq 14, 3, [96], []), (.aload_n 3, 1, [3], []), (.lconst 1, 1, [], [1]), (.ldc2_w 335, 3, [2], [99]), (.invokevirtual 300, 3, [0, 75, 2, 5, 171], []), (.ifCond .ne 10, 3, [103], [])]
theorem lb_X11_even : B_X11_even.all (fun b => lst y_X11_even.2.1 11 y_X11_even.2.2.1 false b.1 b.2) = true := by decide +kernel
theorem ls_X11_even_0 : lst y_X11_even.2.1 11 y_X11_even.2.2.1 false 0 S_X11_even_0 = true := by decide +kernel
theorem ls_X11_even_78 : lst y_X11_even.2.1 11 y_X11_even.2.2.1 false 78 S_X11_even_78 = true := by decide +kernel
def C_X11_even (N : Nat) : Nat → List Value → mH → (Option Value → mH → Option (Int32 × mH)) → Option (Int32 × mH) := fun j as g k => kb j 206 (pr1 as fun b0 as => pp1 as fun b1 as => pe as ((f_X11_isRow N b0 b1 g).bind fun p => k (some (.int p.1)) p.2)) (kb j 203 (pr1 as fun b0 as => pp1 as fun b1 as => pe as ((f_X11_refuse N b0 b1 g).bind fun p => k (some (.int p.1)) p.2)) (kb j 71 (pr1 as fun b0 as => pe as ((f_X5_isMissing N b0 g).bind fun p => k (some (.int p.1)) p.2)) (kb j 75 (pr1 as fun b0 as => pl1 as fun b1 as => pl1 as fun b2 as => pe as ((f_X5_allWithin N b0 b1 b2 g).bind fun p => k (some (.int p.1)) p.2)) (kb j 58 (pr1 as fun b0 as => pr1 as fun b1 as => pe as ((f_X2_putRound N b0 b1 g).bind fun p => k none p)) (kb j 57 (pr1 as fun b0 as => pp1 as fun b1 as => pe as ((f_X2_rodAtPlace N b0 b1 g).bind fun p => k (some (.int p.1)) p.2)) (none))))))
theorem co_X11_even (N : Nat) (q : Int32 × mH) : clOK 27 q (C_X11_even N) := by
  intro j as g k e
  rcases kb_s e with ⟨rfl, e⟩ | e
  · obtain ⟨b0, r0, q0, f0⟩ := pr1_s e
    obtain ⟨b1, r1, q1, f1⟩ := pp1_s f0
    obtain ⟨qe, fe⟩ := pe_s f1
    obtain ⟨p, e1, e2⟩ := bnd_s fe
    subst qe
    subst q1
    subst q0
    exact ⟨_, _, _, _, 4, rfl, (by decide), m_X11_isRow N e1, e2⟩
  rcases kb_s e with ⟨rfl, e⟩ | e
  · obtain ⟨b0, r0, q0, f0⟩ := pr1_s e
    obtain ⟨b1, r1, q1, f1⟩ := pp1_s f0
    obtain ⟨qe, fe⟩ := pe_s f1
    obtain ⟨p, e1, e2⟩ := bnd_s fe
    subst qe
    subst q1
    subst q0
    exact ⟨_, _, _, _, 4, rfl, (by decide), m_X11_refuse N e1, e2⟩
  rcases kb_s e with ⟨rfl, e⟩ | e
  · obtain ⟨b0, r0, q0, f0⟩ := pr1_s e
    obtain ⟨qe, fe⟩ := pe_s f0
    obtain ⟨p, e1, e2⟩ := bnd_s fe
    subst qe
    subst q0
    exact ⟨_, _, _, _, 4, rfl, (by decide), m_X5_isMissing N e1, e2⟩
  rcases kb_s e with ⟨rfl, e⟩ | e
  · obtain ⟨b0, r0, q0, f0⟩ := pr1_s e
    obtain ⟨b1, r1, q1, f1⟩ := pl1_s f0
    obtain ⟨b2, r2, q2, f2⟩ := pl1_s f1
    obtain ⟨qe, fe⟩ := pe_s f2
    obtain ⟨p, e1, e2⟩ := bnd_s fe
    subst qe
    subst q2
    subst q1
    subst q0
    exact ⟨_, _, _, _, 4, rfl, (by decide), m_X5_allWithin N e1, e2⟩
  rcases kb_s e with ⟨rfl, e⟩ | e
  · obtain ⟨b0, r0, q0, f0⟩ := pr1_s e
    obtain ⟨b1, r1, q1, f1⟩ := pr1_s f0
    obtain ⟨qe, fe⟩ := pe_s f1
    obtain ⟨p, e1, e2⟩ := bnd_s fe
    subst qe
    subst q1
    subst q0
    exact ⟨_, _, _, _, 26, rfl, (by decide), m_X2_putRound N e1, e2⟩
  rcases kb_s e with ⟨rfl, e⟩ | e
  · obtain ⟨b0, r0, q0, f0⟩ := pr1_s e
    obtain ⟨b1, r1, q1, f1⟩ := pp1_s f0
    obtain ⟨qe, fe⟩ := pe_s f1
    obtain ⟨p, e1, e2⟩ := bnd_s fe
    subst qe
    subst q1
    subst q0
    exact ⟨_, _, _, _, 4, rfl, (by decide), m_X2_rodAtPlace N e1, e2⟩
  cases e
set_option maxRecDepth 100000 in
theorem t_X11_even_78 {X : Nat × (Nat → Int32)} (N : Nat) {q : Int32 × mH} (a0 : Nat) (x2 : Int32) (a3 : Nat) (s_0 : Int32) (h : mH) (hf : J_X11_even_78 N a0 x2 a3 s_0 h = some q) : MW X y_X11_even 27 78 [(0, .ref a0), (2, .int x2), (3, .ref a3)] [.int s_0] h (some (.int q.1)) q.2 := by
  refine ev_ok (o := 11) (ini := false) (Cl := C_X11_even N) (Rc := RcI) (B := B_X11_even) (K := fun pc ls st g => none) rfl (fun e => by cases e) (by decide) (rcI_ok rfl) ?_ (co_X11_even N q) lb_X11_even 3000 78 S_X11_even_78 _ _ h ls_X11_even_78 hf
  intro pc ls st g e
  cases e
set_option maxRecDepth 100000 in
theorem m_X11_even (N : Nat) {a0 : Nat} {x1 : Int32} {x2 : Int32} {h : mH} {q : Int32 × mH} (hf : f_X11_even N a0 x1 x2 h = some q) : MM y_X11_even 27 [.ref a0, .int x1, .int x2] h (some (.int q.1)) q.2 := by
  refine MM.of (mFx (j := 183) rfl).2.2.2.1 (Nat.le_of_ble_eq_true rfl) (fun X => ?_)
  refine ev_ok (o := 11) (ini := false) (Cl := C_X11_even N) (Rc := RcI) (B := B_X11_even) (K := fun pc ls st g => kb pc 78 (lgr 0 ls fun a0 => lgi 2 ls fun x2 => lgr 3 ls fun a3 => pp1 st fun s_0 st => pe st (J_X11_even_78 N a0 x2 a3 s_0 g)) (none)) rfl (fun e => by cases e) (by decide) (rcI_ok rfl) ?_ (co_X11_even N q) lb_X11_even 3000 0 S_X11_even_0 _ _ h ls_X11_even_0 hf
  intro pc ls st g e
  rcases kb_s e with ⟨rfl, e⟩ | e
  · obtain ⟨a0, e0, f0⟩ := lgr_s e
    obtain ⟨x2, e1, f1⟩ := lgi_s f0
    obtain ⟨a3, e2, f2⟩ := lgr_s f1
    obtain ⟨s_0, r0, q0, g0⟩ := pp1_s f2
    obtain ⟨qe, fe⟩ := pe_s g0
    subst qe
    subst q0
    exact MW.sub (List.forall_mem_cons.mpr ⟨lg_mem e0, List.forall_mem_cons.mpr ⟨lg_mem e1, List.forall_mem_cons.mpr ⟨lg_mem e2, fun _ h => absurd h List.not_mem_nil⟩⟩⟩) (t_X11_even_78 N a0 x2 a3 s_0 g fe)
  cases e
def L_X11_height_10 (N : Nat) : Nat → Nat → Int32 → Int32 → Int32 → mH → Option (Int32 × mH)
  | 0, _, _, _, _, _ => none
  | n + 1, a0, x2, x3, x4, h =>
    (gR h 11 a0 2).bind fun v1 =>
    (gI h 0 v1 2).bind fun v2 =>
    if x4 < v2 then
      (gR h 11 a0 2).bind fun v3 =>
      (rcv h 0 v3).bind fun _ =>
      (f_X0_heightOf N v3 x4 x2 h).bind fun p4 =>
      let w5 := iAdd x3 p4.1
      let w6 := iAdd x4 (jI 1)
      L_X11_height_10 N n a0 x2 w5 w6 p4.2
    else
      some (x3, h)
def f_X11_height (N : Nat) (a0 : Nat) (x1 : Int32) (x2 : Int32) (h : mH) : Option (Int32 × mH) :=
  if x1 = (jI (-1)) then
    L_X11_height_10 N N a0 x2 (jI 0) (jI 0) h
  else
    (gR h 11 a0 2).bind fun v1 =>
    (rcv h 0 v1).bind fun _ =>
    (f_X0_hasBand N v1 x1 h).bind fun p2 =>
    if p2.1 = 0 then
      (rcv p2.2 11 a0).bind fun _ =>
      (f_X11_refuse N a0 (jI (-2)) p2.2).bind fun p3 =>
      some (p3.1, p3.2)
    else
      (gR p2.2 11 a0 2).bind fun v4 =>
      (rcv p2.2 0 v4).bind fun _ =>
      (f_X0_heightOf N v4 x1 x2 p2.2).bind fun p5 =>
      some (p5.1, p5.2)
def y_X11_height : mM := (yX11_height, cX11_height, 5, (some .int))
def B_X11_height : List (Nat × List mI) := [(41, [(.iload_n 3, 1, [3], []), (.ireturn, 1, [], [])]), (43, [(.aload_n 0, 1, [0], []), (.getfield 16, 3, [11, 2, 2, 111], []), (.iload_n 1, 1, [1], []), (.invokevirtual 150, 3, [0, 4, 1, 0, 46], []), (.ifCond .eq 15, 3, [66], []), (.aload_n 0, 1, [0], []), (.getfield 16, 3, [11, 2, 2, 111], []), (.iload_n 1, 1, [1], []), (.iload_n 2, 1, [2], []), (.invokevirtual 350, 3, [0, 33, 2, 0, 192], []), (.goto 9, 3, [72], [])]), (66, [(.aload_n 0, 1, [0], []), (.bipush (-2), 2, [], [-2]), (.invokevirtual 109, 3, [0, 203, 1, 11, 10], [])]), (72, [(.ireturn, 1, [], [])])]
def S_X11_height_0 : List mI := [(.iload_n 1, 1, [1], []), (.iconst (-1), 1, [], [-1]), (.if_icmp .ne 41, 3, [43], []), (.iconst 0, 1, [], [0]), (.istore_n 3, 1, [3], []), (.iconst 0, 1, [], [0]), (.istore 4, 2, [4], [])]
def S_X11_height_10 : List mI := [(.iload 4, 2, [4], []), (.aload_n 0, 1, [0], []), (.getfield 16, 3, [11, 2, 2, 111], []), (.getfield 347, 3, [0, 2, 0, 10], []), (.if_icmp .ge 22, 3, [41], []), (.iload_n 3, 1, [3], []), (.aload_n 0, 1, [0], []), (.getfield 16, 3, [11, 2, 2, 111], []), (.iload 4, 2, [4], []), (.iload_n 2, 1, [2], []), (.invokevirtual 350, 3, [0, 33, 2, 0, 192], []), (.iadd, 1, [], []), (.istore_n 3, 1, [3], []), (.iinc 4 1, 3, [4], [1]), (.goto (-28), 3, [10], [])]
theorem lb_X11_height : B_X11_height.all (fun b => lst y_X11_height.2.1 11 y_X11_height.2.2.1 false b.1 b.2) = true := by decide +kernel
theorem ls_X11_height_0 : lst y_X11_height.2.1 11 y_X11_height.2.2.1 false 0 S_X11_height_0 = true := by decide +kernel
theorem ls_X11_height_10 : lst y_X11_height.2.1 11 y_X11_height.2.2.1 false 10 S_X11_height_10 = true := by decide +kernel
def C_X11_height (N : Nat) : Nat → List Value → mH → (Option Value → mH → Option (Int32 × mH)) → Option (Int32 × mH) := fun j as g k => kb j 33 (pr1 as fun b0 as => pp1 as fun b1 as => pp1 as fun b2 as => pe as ((f_X0_heightOf N b0 b1 b2 g).bind fun p => k (some (.int p.1)) p.2)) (kb j 4 (pr1 as fun b0 as => pp1 as fun b1 as => pe as ((f_X0_hasBand N b0 b1 g).bind fun p => k (some (.int p.1)) p.2)) (kb j 203 (pr1 as fun b0 as => pp1 as fun b1 as => pe as ((f_X11_refuse N b0 b1 g).bind fun p => k (some (.int p.1)) p.2)) (none)))
theorem co_X11_height (N : Nat) (q : Int32 × mH) : clOK 7 q (C_X11_height N) := by
  intro j as g k e
  rcases kb_s e with ⟨rfl, e⟩ | e
  · obtain ⟨b0, r0, q0, f0⟩ := pr1_s e
    obtain ⟨b1, r1, q1, f1⟩ := pp1_s f0
    obtain ⟨b2, r2, q2, f2⟩ := pp1_s f1
    obtain ⟨qe, fe⟩ := pe_s f2
    obtain ⟨p, e1, e2⟩ := bnd_s fe
    subst qe
    subst q2
    subst q1
    subst q0
    exact ⟨_, _, _, _, 6, rfl, (by decide), m_X0_heightOf N e1, e2⟩
  rcases kb_s e with ⟨rfl, e⟩ | e
  · obtain ⟨b0, r0, q0, f0⟩ := pr1_s e
    obtain ⟨b1, r1, q1, f1⟩ := pp1_s f0
    obtain ⟨qe, fe⟩ := pe_s f1
    obtain ⟨p, e1, e2⟩ := bnd_s fe
    subst qe
    subst q1
    subst q0
    exact ⟨_, _, _, _, 4, rfl, (by decide), m_X0_hasBand N e1, e2⟩
  rcases kb_s e with ⟨rfl, e⟩ | e
  · obtain ⟨b0, r0, q0, f0⟩ := pr1_s e
    obtain ⟨b1, r1, q1, f1⟩ := pp1_s f0
    obtain ⟨qe, fe⟩ := pe_s f1
    obtain ⟨p, e1, e2⟩ := bnd_s fe
    subst qe
    subst q1
    subst q0
    exact ⟨_, _, _, _, 4, rfl, (by decide), m_X11_refuse N e1, e2⟩
  cases e
set_option maxRecDepth 100000 in
theorem t_X11_height_10 {X : Nat × (Nat → Int32)} (N : Nat) {q : Int32 × mH} : ∀ (n : Nat) (a0 : Nat) (x2 : Int32) (x3 : Int32) (x4 : Int32) (h : mH), L_X11_height_10 N n a0 x2 x3 x4 h = some q → MW X y_X11_height 7 10 [(0, .ref a0), (2, .int x2), (3, .int x3), (4, .int x4)] [] h (some (.int q.1)) q.2 := by
  intro n
  induction n with
  | zero => intro a0 x2 x3 x4 h hf; cases hf
  | succ n ih =>
    intro a0 x2 x3 x4 h hf
    refine ev_ok (o := 11) (ini := false) (Cl := C_X11_height N) (Rc := RcI) (B := B_X11_height) (K := fun pc ls st g => kb pc 10 (lgr 0 ls fun a0 => lgi 2 ls fun x2 => lgi 3 ls fun x3 => lgi 4 ls fun x4 => pe st (L_X11_height_10 N n a0 x2 x3 x4 g)) (none)) rfl (fun e => by cases e) (by decide) (rcI_ok rfl) ?_ (co_X11_height N q) lb_X11_height 3000 10 S_X11_height_10 _ _ h ls_X11_height_10 hf
    intro pc ls st g e
    rcases kb_s e with ⟨rfl, e⟩ | e
    · obtain ⟨a0, e0, f0⟩ := lgr_s e
      obtain ⟨x2, e1, f1⟩ := lgi_s f0
      obtain ⟨x3, e2, f2⟩ := lgi_s f1
      obtain ⟨x4, e3, f3⟩ := lgi_s f2
      obtain ⟨qe, fe⟩ := pe_s f3
      subst qe
      exact MW.sub (List.forall_mem_cons.mpr ⟨lg_mem e0, List.forall_mem_cons.mpr ⟨lg_mem e1, List.forall_mem_cons.mpr ⟨lg_mem e2, List.forall_mem_cons.mpr ⟨lg_mem e3, fun _ h => absurd h List.not_mem_nil⟩⟩⟩⟩) (ih a0 x2 x3 x4 g fe)
    cases e
set_option maxRecDepth 100000 in
theorem m_X11_height (N : Nat) {a0 : Nat} {x1 : Int32} {x2 : Int32} {h : mH} {q : Int32 × mH} (hf : f_X11_height N a0 x1 x2 h = some q) : MM y_X11_height 7 [.ref a0, .int x1, .int x2] h (some (.int q.1)) q.2 := by
  refine MM.of (mFx (j := 184) rfl).2.2.2.1 (Nat.le_of_ble_eq_true rfl) (fun X => ?_)
  refine ev_ok (o := 11) (ini := false) (Cl := C_X11_height N) (Rc := RcI) (B := B_X11_height) (K := fun pc ls st g => kb pc 10 (lgr 0 ls fun a0 => lgi 2 ls fun x2 => lgi 3 ls fun x3 => lgi 4 ls fun x4 => pe st (L_X11_height_10 N N a0 x2 x3 x4 g)) (none)) rfl (fun e => by cases e) (by decide) (rcI_ok rfl) ?_ (co_X11_height N q) lb_X11_height 3000 0 S_X11_height_0 _ _ h ls_X11_height_0 hf
  intro pc ls st g e
  rcases kb_s e with ⟨rfl, e⟩ | e
  · obtain ⟨a0, e0, f0⟩ := lgr_s e
    obtain ⟨x2, e1, f1⟩ := lgi_s f0
    obtain ⟨x3, e2, f2⟩ := lgi_s f1
    obtain ⟨x4, e3, f3⟩ := lgi_s f2
    obtain ⟨qe, fe⟩ := pe_s f3
    subst qe
    exact MW.sub (List.forall_mem_cons.mpr ⟨lg_mem e0, List.forall_mem_cons.mpr ⟨lg_mem e1, List.forall_mem_cons.mpr ⟨lg_mem e2, List.forall_mem_cons.mpr ⟨lg_mem e3, fun _ h => absurd h List.not_mem_nil⟩⟩⟩⟩) (t_X11_height_10 N N a0 x2 x3 x4 g fe)
  cases e
def f_X11_loose (N : Nat) (a0 : Nat) (h : mH) : Option (Int32 × mH) :=
  (gR h 11 a0 2).bind fun v1 =>
  (rcv h 0 v1).bind fun _ =>
  (f_X0_loosest N v1 h).bind fun p2 =>
  some (p2.1, p2.2)
def y_X11_loose : mM := (yX11_loose, cX11_loose, 1, (some .int))
def B_X11_loose : List (Nat × List mI) := []
def S_X11_loose_0 : List mI := [(.aload_n 0, 1, [0], []), (.getfield 16, 3, [11, 2, 2, 111], []), (.invokevirtual 354, 3, [0, 34, 0, 0, 195], []), (.ireturn, 1, [], [])]
theorem lb_X11_loose : B_X11_loose.all (fun b => lst y_X11_loose.2.1 11 y_X11_loose.2.2.1 false b.1 b.2) = true := by decide +kernel
theorem ls_X11_loose_0 : lst y_X11_loose.2.1 11 y_X11_loose.2.2.1 false 0 S_X11_loose_0 = true := by decide +kernel
def C_X11_loose (N : Nat) : Nat → List Value → mH → (Option Value → mH → Option (Int32 × mH)) → Option (Int32 × mH) := fun j as g k => kb j 34 (pr1 as fun b0 as => pe as ((f_X0_loosest N b0 g).bind fun p => k (some (.int p.1)) p.2)) (none)
theorem co_X11_loose (N : Nat) (q : Int32 × mH) : clOK 8 q (C_X11_loose N) := by
  intro j as g k e
  rcases kb_s e with ⟨rfl, e⟩ | e
  · obtain ⟨b0, r0, q0, f0⟩ := pr1_s e
    obtain ⟨qe, fe⟩ := pe_s f0
    obtain ⟨p, e1, e2⟩ := bnd_s fe
    subst qe
    subst q0
    exact ⟨_, _, _, _, 7, rfl, (by decide), m_X0_loosest N e1, e2⟩
  cases e
set_option maxRecDepth 100000 in
theorem m_X11_loose (N : Nat) {a0 : Nat} {h : mH} {q : Int32 × mH} (hf : f_X11_loose N a0 h = some q) : MM y_X11_loose 8 [.ref a0] h (some (.int q.1)) q.2 := by
  refine MM.of (mFx (j := 185) rfl).2.2.2.1 (Nat.le_of_ble_eq_true rfl) (fun X => ?_)
  refine ev_ok (o := 11) (ini := false) (Cl := C_X11_loose N) (Rc := RcI) (B := B_X11_loose) (K := fun pc ls st g => none) rfl (fun e => by cases e) (by decide) (rcI_ok rfl) ?_ (co_X11_loose N q) lb_X11_loose 3000 0 S_X11_loose_0 _ _ h ls_X11_loose_0 hf
  intro pc ls st g e
  cases e
def f_X11_hold (N : Nat) (a0 : Nat) (x1 : Int32) (h : mH) : Option (Int32 × mH) :=
  (gR h 11 a0 2).bind fun v1 =>
  (rcv h 0 v1).bind fun _ =>
  (f_X0_hasBand N v1 x1 h).bind fun p2 =>
  if p2.1 = 0 then
    (rcv p2.2 11 a0).bind fun _ =>
    (f_X11_refuse N a0 (jI (-2)) p2.2).bind fun p3 =>
    some (p3.1, p3.2)
  else
    (gR p2.2 11 a0 5).bind fun v4 =>
    (rcv p2.2 10 v4).bind fun _ =>
    (f_X10_holdOf N v4 x1 p2.2).bind fun p5 =>
    some (p5.1, p5.2)
def y_X11_hold : mM := (yX11_hold, cX11_hold, 2, (some .int))
def B_X11_hold : List (Nat × List mI) := [(22, [(.aload_n 0, 1, [0], []), (.bipush (-2), 2, [], [-2]), (.invokevirtual 109, 3, [0, 203, 1, 11, 10], [])]), (28, [(.ireturn, 1, [], [])])]
def S_X11_hold_0 : List mI := [(.aload_n 0, 1, [0], []), (.getfield 16, 3, [11, 2, 2, 111], []), (.iload_n 1, 1, [1], []), (.invokevirtual 150, 3, [0, 4, 1, 0, 46], []), (.ifCond .eq 14, 3, [22], []), (.aload_n 0, 1, [0], []), (.getfield 35, 3, [11, 5, 2, 114], []), (.iload_n 1, 1, [1], []), (.invokevirtual 357, 3, [0, 144, 1, 10, 198], []), (.goto 9, 3, [28], [])]
theorem lb_X11_hold : B_X11_hold.all (fun b => lst y_X11_hold.2.1 11 y_X11_hold.2.2.1 false b.1 b.2) = true := by decide +kernel
theorem ls_X11_hold_0 : lst y_X11_hold.2.1 11 y_X11_hold.2.2.1 false 0 S_X11_hold_0 = true := by decide +kernel
def C_X11_hold (N : Nat) : Nat → List Value → mH → (Option Value → mH → Option (Int32 × mH)) → Option (Int32 × mH) := fun j as g k => kb j 4 (pr1 as fun b0 as => pp1 as fun b1 as => pe as ((f_X0_hasBand N b0 b1 g).bind fun p => k (some (.int p.1)) p.2)) (kb j 144 (pr1 as fun b0 as => pp1 as fun b1 as => pe as ((f_X10_holdOf N b0 b1 g).bind fun p => k (some (.int p.1)) p.2)) (kb j 203 (pr1 as fun b0 as => pp1 as fun b1 as => pe as ((f_X11_refuse N b0 b1 g).bind fun p => k (some (.int p.1)) p.2)) (none)))
theorem co_X11_hold (N : Nat) (q : Int32 × mH) : clOK 10 q (C_X11_hold N) := by
  intro j as g k e
  rcases kb_s e with ⟨rfl, e⟩ | e
  · obtain ⟨b0, r0, q0, f0⟩ := pr1_s e
    obtain ⟨b1, r1, q1, f1⟩ := pp1_s f0
    obtain ⟨qe, fe⟩ := pe_s f1
    obtain ⟨p, e1, e2⟩ := bnd_s fe
    subst qe
    subst q1
    subst q0
    exact ⟨_, _, _, _, 4, rfl, (by decide), m_X0_hasBand N e1, e2⟩
  rcases kb_s e with ⟨rfl, e⟩ | e
  · obtain ⟨b0, r0, q0, f0⟩ := pr1_s e
    obtain ⟨b1, r1, q1, f1⟩ := pp1_s f0
    obtain ⟨qe, fe⟩ := pe_s f1
    obtain ⟨p, e1, e2⟩ := bnd_s fe
    subst qe
    subst q1
    subst q0
    exact ⟨_, _, _, _, 9, rfl, (by decide), m_X10_holdOf N e1, e2⟩
  rcases kb_s e with ⟨rfl, e⟩ | e
  · obtain ⟨b0, r0, q0, f0⟩ := pr1_s e
    obtain ⟨b1, r1, q1, f1⟩ := pp1_s f0
    obtain ⟨qe, fe⟩ := pe_s f1
    obtain ⟨p, e1, e2⟩ := bnd_s fe
    subst qe
    subst q1
    subst q0
    exact ⟨_, _, _, _, 4, rfl, (by decide), m_X11_refuse N e1, e2⟩
  cases e
set_option maxRecDepth 100000 in
theorem m_X11_hold (N : Nat) {a0 : Nat} {x1 : Int32} {h : mH} {q : Int32 × mH} (hf : f_X11_hold N a0 x1 h = some q) : MM y_X11_hold 10 [.ref a0, .int x1] h (some (.int q.1)) q.2 := by
  refine MM.of (mFx (j := 186) rfl).2.2.2.1 (Nat.le_of_ble_eq_true rfl) (fun X => ?_)
  refine ev_ok (o := 11) (ini := false) (Cl := C_X11_hold N) (Rc := RcI) (B := B_X11_hold) (K := fun pc ls st g => none) rfl (fun e => by cases e) (by decide) (rcI_ok rfl) ?_ (co_X11_hold N q) lb_X11_hold 3000 0 S_X11_hold_0 _ _ h ls_X11_hold_0 hf
  intro pc ls st g e
  cases e
def L_X11_gives_15 (N : Nat) : Nat → Nat → Int32 → Int32 → Int32 → mH → Option (Int32 × mH)
  | 0, _, _, _, _, _ => none
  | n + 1, a0, x1, x2, x3, h =>
    (gR h 11 a0 2).bind fun v1 =>
    (gI h 0 v1 2).bind fun v2 =>
    if x3 < v2 then
      (gR h 11 a0 5).bind fun v3 =>
      (rcv h 10 v3).bind fun _ =>
      (f_X10_holdOf N v3 x3 h).bind fun p4 =>
      if p4.1 < x1 then
        let w5 := iOr x2 (iShl (jI 1) x3)
        let w6 := iAdd x3 (jI 1)
        L_X11_gives_15 N n a0 x1 w5 w6 p4.2
      else
        let w7 := iAdd x3 (jI 1)
        L_X11_gives_15 N n a0 x1 x2 w7 p4.2
    else
      some (x2, h)
def f_X11_gives (N : Nat) (a0 : Nat) (x1 : Int32) (h : mH) : Option (Int32 × mH) :=
  if x1 < 0 then
    (rcv h 11 a0).bind fun _ =>
    (f_X11_refuse N a0 (jI (-3)) h).bind fun p1 =>
    some (p1.1, p1.2)
  else
    L_X11_gives_15 N N a0 x1 (jI 0) (jI 0) h
def y_X11_gives : mM := (yX11_gives, cX11_gives, 4, (some .int))
def B_X11_gives : List (Nat × List mI) := [(11, [(.iconst 0, 1, [], [0]), (.istore_n 2, 1, [2], []), (.iconst 0, 1, [], [0]), (.istore_n 3, 1, [3], [])]), (44, [(.iinc 3 1, 3, [3], [1]), (.goto (-32), 3, [15], [])]), (50, [(.iload_n 2, 1, [2], []), (.ireturn, 1, [], [])])]
def S_X11_gives_0 : List mI := [(.iload_n 1, 1, [1], []), (.ifCond .ge 10, 3, [11], []), (.aload_n 0, 1, [0], []), (.bipush (-3), 2, [], [-3]), (.invokevirtual 109, 3, [0, 203, 1, 11, 10], []), (.ireturn, 1, [], [])]
def S_X11_gives_15 : List mI := [(.iload_n 3, 1, [3], []), (.aload_n 0, 1, [0], []), (.getfield 16, 3, [11, 2, 2, 111], []), (.getfield 347, 3, [0, 2, 0, 10], []), (.if_icmp .ge 27, 3, [50], []), (.aload_n 0, 1, [0], []), (.getfield 35, 3, [11, 5, 2, 114], []), (.iload_n 3, 1, [3], []), (.invokevirtual 357, 3, [0, 144, 1, 10, 198], []), (.iload_n 1, 1, [1], []), (.if_icmp .ge 9, 3, [44], []), (.iload_n 2, 1, [2], []), (.iconst 1, 1, [], [1]), (.iload_n 3, 1, [3], []), (.ishl, 1, [], []), (.ior, 1, [], []), (.istore_n 2, 1, [2], [])]
theorem lb_X11_gives : B_X11_gives.all (fun b => lst y_X11_gives.2.1 11 y_X11_gives.2.2.1 false b.1 b.2) = true := by decide +kernel
theorem ls_X11_gives_0 : lst y_X11_gives.2.1 11 y_X11_gives.2.2.1 false 0 S_X11_gives_0 = true := by decide +kernel
theorem ls_X11_gives_15 : lst y_X11_gives.2.1 11 y_X11_gives.2.2.1 false 15 S_X11_gives_15 = true := by decide +kernel
def C_X11_gives (N : Nat) : Nat → List Value → mH → (Option Value → mH → Option (Int32 × mH)) → Option (Int32 × mH) := fun j as g k => kb j 203 (pr1 as fun b0 as => pp1 as fun b1 as => pe as ((f_X11_refuse N b0 b1 g).bind fun p => k (some (.int p.1)) p.2)) (kb j 144 (pr1 as fun b0 as => pp1 as fun b1 as => pe as ((f_X10_holdOf N b0 b1 g).bind fun p => k (some (.int p.1)) p.2)) (none))
theorem co_X11_gives (N : Nat) (q : Int32 × mH) : clOK 10 q (C_X11_gives N) := by
  intro j as g k e
  rcases kb_s e with ⟨rfl, e⟩ | e
  · obtain ⟨b0, r0, q0, f0⟩ := pr1_s e
    obtain ⟨b1, r1, q1, f1⟩ := pp1_s f0
    obtain ⟨qe, fe⟩ := pe_s f1
    obtain ⟨p, e1, e2⟩ := bnd_s fe
    subst qe
    subst q1
    subst q0
    exact ⟨_, _, _, _, 4, rfl, (by decide), m_X11_refuse N e1, e2⟩
  rcases kb_s e with ⟨rfl, e⟩ | e
  · obtain ⟨b0, r0, q0, f0⟩ := pr1_s e
    obtain ⟨b1, r1, q1, f1⟩ := pp1_s f0
    obtain ⟨qe, fe⟩ := pe_s f1
    obtain ⟨p, e1, e2⟩ := bnd_s fe
    subst qe
    subst q1
    subst q0
    exact ⟨_, _, _, _, 9, rfl, (by decide), m_X10_holdOf N e1, e2⟩
  cases e
set_option maxRecDepth 100000 in
theorem t_X11_gives_15 {X : Nat × (Nat → Int32)} (N : Nat) {q : Int32 × mH} : ∀ (n : Nat) (a0 : Nat) (x1 : Int32) (x2 : Int32) (x3 : Int32) (h : mH), L_X11_gives_15 N n a0 x1 x2 x3 h = some q → MW X y_X11_gives 10 15 [(0, .ref a0), (1, .int x1), (2, .int x2), (3, .int x3)] [] h (some (.int q.1)) q.2 := by
  intro n
  induction n with
  | zero => intro a0 x1 x2 x3 h hf; cases hf
  | succ n ih =>
    intro a0 x1 x2 x3 h hf
    refine ev_ok (o := 11) (ini := false) (Cl := C_X11_gives N) (Rc := RcI) (B := B_X11_gives) (K := fun pc ls st g => kb pc 15 (lgr 0 ls fun a0 => lgi 1 ls fun x1 => lgi 2 ls fun x2 => lgi 3 ls fun x3 => pe st (L_X11_gives_15 N n a0 x1 x2 x3 g)) (none)) rfl (fun e => by cases e) (by decide) (rcI_ok rfl) ?_ (co_X11_gives N q) lb_X11_gives 3000 15 S_X11_gives_15 _ _ h ls_X11_gives_15 hf
    intro pc ls st g e
    rcases kb_s e with ⟨rfl, e⟩ | e
    · obtain ⟨a0, e0, f0⟩ := lgr_s e
      obtain ⟨x1, e1, f1⟩ := lgi_s f0
      obtain ⟨x2, e2, f2⟩ := lgi_s f1
      obtain ⟨x3, e3, f3⟩ := lgi_s f2
      obtain ⟨qe, fe⟩ := pe_s f3
      subst qe
      exact MW.sub (List.forall_mem_cons.mpr ⟨lg_mem e0, List.forall_mem_cons.mpr ⟨lg_mem e1, List.forall_mem_cons.mpr ⟨lg_mem e2, List.forall_mem_cons.mpr ⟨lg_mem e3, fun _ h => absurd h List.not_mem_nil⟩⟩⟩⟩) (ih a0 x1 x2 x3 g fe)
    cases e
set_option maxRecDepth 100000 in
theorem m_X11_gives (N : Nat) {a0 : Nat} {x1 : Int32} {h : mH} {q : Int32 × mH} (hf : f_X11_gives N a0 x1 h = some q) : MM y_X11_gives 10 [.ref a0, .int x1] h (some (.int q.1)) q.2 := by
  refine MM.of (mFx (j := 187) rfl).2.2.2.1 (Nat.le_of_ble_eq_true rfl) (fun X => ?_)
  refine ev_ok (o := 11) (ini := false) (Cl := C_X11_gives N) (Rc := RcI) (B := B_X11_gives) (K := fun pc ls st g => kb pc 15 (lgr 0 ls fun a0 => lgi 1 ls fun x1 => lgi 2 ls fun x2 => lgi 3 ls fun x3 => pe st (L_X11_gives_15 N N a0 x1 x2 x3 g)) (none)) rfl (fun e => by cases e) (by decide) (rcI_ok rfl) ?_ (co_X11_gives N q) lb_X11_gives 3000 0 S_X11_gives_0 _ _ h ls_X11_gives_0 hf
  intro pc ls st g e
  rcases kb_s e with ⟨rfl, e⟩ | e
  · obtain ⟨a0, e0, f0⟩ := lgr_s e
    obtain ⟨x1, e1, f1⟩ := lgi_s f0
    obtain ⟨x2, e2, f2⟩ := lgi_s f1
    obtain ⟨x3, e3, f3⟩ := lgi_s f2
    obtain ⟨qe, fe⟩ := pe_s f3
    subst qe
    exact MW.sub (List.forall_mem_cons.mpr ⟨lg_mem e0, List.forall_mem_cons.mpr ⟨lg_mem e1, List.forall_mem_cons.mpr ⟨lg_mem e2, List.forall_mem_cons.mpr ⟨lg_mem e3, fun _ h => absurd h List.not_mem_nil⟩⟩⟩⟩) (t_X11_gives_15 N N a0 x1 x2 x3 g fe)
  cases e
def f_X11_width (N : Nat) (a0 : Nat) (x1 : Int32) (h : mH) : Option (Int32 × mH) :=
  if x1 = (jI (-1)) then
    (gR h 11 a0 2).bind fun v1 =>
    (rcv h 0 v1).bind fun _ =>
    (f_X0_widthBehind N v1 x1 h).bind fun p2 =>
    some (p2.1, p2.2)
  else
    (gR h 11 a0 2).bind fun v3 =>
    (rcv h 0 v3).bind fun _ =>
    (f_X0_hasBand N v3 x1 h).bind fun p4 =>
    if p4.1 = 0 then
      (rcv p4.2 11 a0).bind fun _ =>
      (f_X11_refuse N a0 (jI (-2)) p4.2).bind fun p5 =>
      some (p5.1, p5.2)
    else
      (gR p4.2 11 a0 2).bind fun v6 =>
      (rcv p4.2 0 v6).bind fun _ =>
      (f_X0_widthBehind N v6 x1 p4.2).bind fun p7 =>
      some (p7.1, p7.2)
def y_X11_width : mM := (yX11_width, cX11_width, 2, (some .int))
def B_X11_width : List (Nat × List mI) := [(23, [(.aload_n 0, 1, [0], []), (.getfield 16, 3, [11, 2, 2, 111], []), (.iload_n 1, 1, [1], []), (.invokevirtual 360, 3, [0, 35, 1, 0, 204], []), (.ireturn, 1, [], [])])]
def S_X11_width_0 : List mI := [(.iload_n 1, 1, [1], []), (.iconst (-1), 1, [], [-1]), (.if_icmp .eq 21, 3, [23], []), (.aload_n 0, 1, [0], []), (.getfield 16, 3, [11, 2, 2, 111], []), (.iload_n 1, 1, [1], []), (.invokevirtual 150, 3, [0, 4, 1, 0, 46], []), (.ifCond .ne 10, 3, [23], []), (.aload_n 0, 1, [0], []), (.bipush (-2), 2, [], [-2]), (.invokevirtual 109, 3, [0, 203, 1, 11, 10], []), (.ireturn, 1, [], [])]
theorem lb_X11_width : B_X11_width.all (fun b => lst y_X11_width.2.1 11 y_X11_width.2.2.1 false b.1 b.2) = true := by decide +kernel
theorem ls_X11_width_0 : lst y_X11_width.2.1 11 y_X11_width.2.2.1 false 0 S_X11_width_0 = true := by decide +kernel
def C_X11_width (N : Nat) : Nat → List Value → mH → (Option Value → mH → Option (Int32 × mH)) → Option (Int32 × mH) := fun j as g k => kb j 4 (pr1 as fun b0 as => pp1 as fun b1 as => pe as ((f_X0_hasBand N b0 b1 g).bind fun p => k (some (.int p.1)) p.2)) (kb j 203 (pr1 as fun b0 as => pp1 as fun b1 as => pe as ((f_X11_refuse N b0 b1 g).bind fun p => k (some (.int p.1)) p.2)) (kb j 35 (pr1 as fun b0 as => pp1 as fun b1 as => pe as ((f_X0_widthBehind N b0 b1 g).bind fun p => k (some (.int p.1)) p.2)) (none)))
theorem co_X11_width (N : Nat) (q : Int32 × mH) : clOK 6 q (C_X11_width N) := by
  intro j as g k e
  rcases kb_s e with ⟨rfl, e⟩ | e
  · obtain ⟨b0, r0, q0, f0⟩ := pr1_s e
    obtain ⟨b1, r1, q1, f1⟩ := pp1_s f0
    obtain ⟨qe, fe⟩ := pe_s f1
    obtain ⟨p, e1, e2⟩ := bnd_s fe
    subst qe
    subst q1
    subst q0
    exact ⟨_, _, _, _, 4, rfl, (by decide), m_X0_hasBand N e1, e2⟩
  rcases kb_s e with ⟨rfl, e⟩ | e
  · obtain ⟨b0, r0, q0, f0⟩ := pr1_s e
    obtain ⟨b1, r1, q1, f1⟩ := pp1_s f0
    obtain ⟨qe, fe⟩ := pe_s f1
    obtain ⟨p, e1, e2⟩ := bnd_s fe
    subst qe
    subst q1
    subst q0
    exact ⟨_, _, _, _, 4, rfl, (by decide), m_X11_refuse N e1, e2⟩
  rcases kb_s e with ⟨rfl, e⟩ | e
  · obtain ⟨b0, r0, q0, f0⟩ := pr1_s e
    obtain ⟨b1, r1, q1, f1⟩ := pp1_s f0
    obtain ⟨qe, fe⟩ := pe_s f1
    obtain ⟨p, e1, e2⟩ := bnd_s fe
    subst qe
    subst q1
    subst q0
    exact ⟨_, _, _, _, 5, rfl, (by decide), m_X0_widthBehind N e1, e2⟩
  cases e
set_option maxRecDepth 100000 in
theorem m_X11_width (N : Nat) {a0 : Nat} {x1 : Int32} {h : mH} {q : Int32 × mH} (hf : f_X11_width N a0 x1 h = some q) : MM y_X11_width 6 [.ref a0, .int x1] h (some (.int q.1)) q.2 := by
  refine MM.of (mFx (j := 188) rfl).2.2.2.1 (Nat.le_of_ble_eq_true rfl) (fun X => ?_)
  refine ev_ok (o := 11) (ini := false) (Cl := C_X11_width N) (Rc := RcI) (B := B_X11_width) (K := fun pc ls st g => none) rfl (fun e => by cases e) (by decide) (rcI_ok rfl) ?_ (co_X11_width N q) lb_X11_width 3000 0 S_X11_width_0 _ _ h ls_X11_width_0 hf
  intro pc ls st g e
  cases e
def f_X11_bowlCan (N : Nat) (a0 : Nat) (x1 : Int32) (x2 : Int32) (x3 : Int32) (h : mH) : Option (Int32 × mH) :=
  (rcv h 11 a0).bind fun _ =>
  (f_X11_isRow N a0 x1 h).bind fun p1 =>
  if p1.1 = 0 then
    some (jI 0, p1.2)
  else
    if x3 < (jI (-1)) then
      some (jI 0, p1.2)
    else
      (gR p1.2 11 a0 2).bind fun v2 =>
      (gI p1.2 0 v2 2).bind fun v3 =>
      if x3 < v3 then
        if x2 < 0 then
          some (jI 0, p1.2)
        else
          if (jI 18) < x2 then
            some (jI 0, p1.2)
          else
            (gR p1.2 11 a0 10).bind fun v4 =>
            (ldR 4 p1.2 v4 x1).bind fun v5 =>
            (gR p1.2 11 a0 2).bind fun v6 =>
            (gI p1.2 0 v6 2).bind fun v7 =>
            if 0 < v7 then
              (gI p1.2 5 v5 0).bind fun v8 =>
              (gR p1.2 11 a0 2).bind fun v9 =>
              (gI p1.2 0 v9 2).bind fun v10 =>
              if v8 = v10 then
                (rcv p1.2 5 v5).bind fun _ =>
                (f_X5_allWithin N v5 (jL 1) (jL 9999) p1.2).bind fun p11 =>
                if p11.1 = 0 then
                  some (jI 0, p11.2)
                else
                  some (jI 1, p11.2)
              else
                some (jI 0, p1.2)
            else
              some (jI 0, p1.2)
      else
        some (jI 0, p1.2)
def y_X11_bowlCan : mM := (yX11_bowlCan, cX11_bowlCan, 5, (some .boolean))
def B_X11_bowlCan : List (Nat × List mI) := [(34, [(.iconst 0, 1, [], [0]), (.ireturn, 1, [], [])]), (36, [(.aload_n 0, 1, [0], []), (.getfield 66, 3, [11, 10, 2, 119], []), (.iload_n 1, 1, [1], []), (.aaload, 1, [4], []), (.astore 4, 2, [4], []), (.aload_n 0, 1, [0], []), (.getfield 16, 3, [11, 2, 2, 111], []), (.getfield 347, 3, [0, 2, 0, 10], []), (.ifCond .le 34, 3, [85], []), (.aload 4, 2, [4], []), (.getfield 295, 3, [5, 0, 0, 71], []), (.aload_n 0, 1, [0], []), (.getfield 16, 3, [11, 2, 2, 111], []), (.getfield 347, 3, [0, 2, 0, 10], []), (.if_icmp .ne 19, 3, [85], []), (.aload 4, 2, [4], []), (.lconst 1, 1, [], [1]), (.ldc2_w 316, 3, [1], [9999]), (.invokevirtual 300, 3, [0, 75, 2, 5, 171], []), (.ifCond .eq 7, 3, [85], []), (.iconst 1, 1, [], [1]), (.goto 4, 3, [86], [])]), (85, [(.iconst 0, 1, [], [0])]), (86, [(.ireturn, 1, [], [])])]
def S_X11_bowlCan_0 : List mI := [(.aload_n 0, 1, [0], []), (.iload_n 1, 1, [1], []), (.invokevirtual 288, 3, [0, 206, 1, 11, 169], []), (.ifCond .eq 29, 3, [34], []), (.iload_n 3, 1, [3], []), (.iconst (-1), 1, [], [-1]), (.if_icmp .lt 24, 3, [34], []), (.iload_n 3, 1, [3], []), (.aload_n 0, 1, [0], []), (.getfield 16, 3, [11, 2, 2, 111], []), (.getfield 347, 3, [0, 2, 0, 10], []), (.if_icmp .ge 13, 3, [34], []), (.iload_n 2, 1, [2], []), (.ifCond .lt 9, 3, [34], []), (.iload_n 2, 1, [2], []), (.bipush 18, 2, [], [18]), (.if_icmp .le 5, 3, [36], [])]
theorem lb_X11_bowlCan : B_X11_bowlCan.all (fun b => lst y_X11_bowlCan.2.1 11 y_X11_bowlCan.2.2.1 false b.1 b.2) = true := by decide +kernel
theorem ls_X11_bowlCan_0 : lst y_X11_bowlCan.2.1 11 y_X11_bowlCan.2.2.1 false 0 S_X11_bowlCan_0 = true := by decide +kernel
def C_X11_bowlCan (N : Nat) : Nat → List Value → mH → (Option Value → mH → Option (Int32 × mH)) → Option (Int32 × mH) := fun j as g k => kb j 206 (pr1 as fun b0 as => pp1 as fun b1 as => pe as ((f_X11_isRow N b0 b1 g).bind fun p => k (some (.int p.1)) p.2)) (kb j 75 (pr1 as fun b0 as => pl1 as fun b1 as => pl1 as fun b2 as => pe as ((f_X5_allWithin N b0 b1 b2 g).bind fun p => k (some (.int p.1)) p.2)) (none))
theorem co_X11_bowlCan (N : Nat) (q : Int32 × mH) : clOK 5 q (C_X11_bowlCan N) := by
  intro j as g k e
  rcases kb_s e with ⟨rfl, e⟩ | e
  · obtain ⟨b0, r0, q0, f0⟩ := pr1_s e
    obtain ⟨b1, r1, q1, f1⟩ := pp1_s f0
    obtain ⟨qe, fe⟩ := pe_s f1
    obtain ⟨p, e1, e2⟩ := bnd_s fe
    subst qe
    subst q1
    subst q0
    exact ⟨_, _, _, _, 4, rfl, (by decide), m_X11_isRow N e1, e2⟩
  rcases kb_s e with ⟨rfl, e⟩ | e
  · obtain ⟨b0, r0, q0, f0⟩ := pr1_s e
    obtain ⟨b1, r1, q1, f1⟩ := pl1_s f0
    obtain ⟨b2, r2, q2, f2⟩ := pl1_s f1
    obtain ⟨qe, fe⟩ := pe_s f2
    obtain ⟨p, e1, e2⟩ := bnd_s fe
    subst qe
    subst q2
    subst q1
    subst q0
    exact ⟨_, _, _, _, 4, rfl, (by decide), m_X5_allWithin N e1, e2⟩
  cases e
set_option maxRecDepth 100000 in
theorem m_X11_bowlCan (N : Nat) {a0 : Nat} {x1 : Int32} {x2 : Int32} {x3 : Int32} {h : mH} {q : Int32 × mH} (hf : f_X11_bowlCan N a0 x1 x2 x3 h = some q) : MM y_X11_bowlCan 5 [.ref a0, .int x1, .int x2, .int x3] h (some (.int q.1)) q.2 := by
  refine MM.of (mFx (j := 216) rfl).2.2.2.1 (Nat.le_of_ble_eq_true rfl) (fun X => ?_)
  refine ev_ok (o := 11) (ini := false) (Cl := C_X11_bowlCan N) (Rc := RcZ) (B := B_X11_bowlCan) (K := fun pc ls st g => none) rfl (fun e => by cases e) (by decide) (rcZ_ok rfl) ?_ (co_X11_bowlCan N q) lb_X11_bowlCan 3000 0 S_X11_bowlCan_0 _ _ h ls_X11_bowlCan_0 hf
  intro pc ls st g e
  cases e
def f_X11_bowl (N : Nat) (a0 : Nat) (x1 : Int32) (x2 : Int32) (x3 : Int32) (h : mH) : Option (Int32 × mH) :=
  (rcv h 11 a0).bind fun _ =>
  (f_X11_bowlCan N a0 x1 x2 x3 h).bind fun p1 =>
  if p1.1 = 0 then
    (rcv p1.2 11 a0).bind fun _ =>
    (f_X11_refuse N a0 (jI (-3)) p1.2).bind fun p2 =>
    some (jI (-100), p2.2)
  else
    (gR p1.2 11 a0 13).bind fun v3 =>
    (gR p1.2 11 a0 2).bind fun v4 =>
    (gR p1.2 11 a0 10).bind fun v5 =>
    (ldR 4 p1.2 v5 x1).bind fun v6 =>
    (rcv p1.2 1 v3).bind fun _ =>
    (f_X1_make N v3 v4 v6 x2 p1.2).bind fun h7 =>
    if x3 = (jI (-1)) then
      (gR h7 11 a0 13).bind fun v8 =>
      (rcv h7 1 v8).bind fun _ =>
      (f_X1_difference N v8 h7).bind fun p9 =>
      some (p9.1, p9.2)
    else
      (gR h7 11 a0 13).bind fun v10 =>
      (rcv h7 1 v10).bind fun _ =>
      (f_X1_leanOf N v10 x3 h7).bind fun p11 =>
      some (p11.1, p11.2)
def y_X11_bowl : mM := (yX11_bowl, cX11_bowl, 4, (some .int))
def B_X11_bowl : List (Nat × List mI) := [(20, [(.aload_n 0, 1, [0], []), (.getfield 87, 3, [11, 13, 2, 122], []), (.aload_n 0, 1, [0], []), (.getfield 16, 3, [11, 2, 2, 111], []), (.aload_n 0, 1, [0], []), (.getfield 66, 3, [11, 10, 2, 119], []), (.iload_n 1, 1, [1], []), (.aaload, 1, [4], []), (.iload_n 2, 1, [2], []), (.invokevirtual 366, 3, [0, 41, 3, 1, 207], []), (.iload_n 3, 1, [3], []), (.iconst (-1), 1, [], [-1]), (.if_icmp .ne 13, 3, [53], []), (.aload_n 0, 1, [0], []), (.getfield 87, 3, [11, 13, 2, 122], []), (.invokevirtual 369, 3, [0, 38, 0, 1, 227], []), (.goto 11, 3, [61], [])]), (53, [(.aload_n 0, 1, [0], []), (.getfield 87, 3, [11, 13, 2, 122], []), (.iload_n 3, 1, [3], []), (.invokevirtual 372, 3, [0, 39, 1, 1, 228], [])]), (61, [(.ireturn, 1, [], [])])]
def S_X11_bowl_0 : List mI := [(.aload_n 0, 1, [0], []), (.iload_n 1, 1, [1], []), (.iload_n 2, 1, [2], []), (.iload_n 3, 1, [3], []), (.invokevirtual 363, 3, [0, 216, 3, 11, 206], []), (.ifCond .ne 13, 3, [20], []), (.aload_n 0, 1, [0], []), (.bipush (-3), 2, [], [-3]), (.invokevirtual 109, 3, [0, 203, 1, 11, 10], []), (.pop, 1, [], []), (.bipush (-100), 2, [], [-100]), (.ireturn, 1, [], [])]
theorem lb_X11_bowl : B_X11_bowl.all (fun b => lst y_X11_bowl.2.1 11 y_X11_bowl.2.2.1 false b.1 b.2) = true := by decide +kernel
theorem ls_X11_bowl_0 : lst y_X11_bowl.2.1 11 y_X11_bowl.2.2.1 false 0 S_X11_bowl_0 = true := by decide +kernel
def C_X11_bowl (N : Nat) : Nat → List Value → mH → (Option Value → mH → Option (Int32 × mH)) → Option (Int32 × mH) := fun j as g k => kb j 216 (pr1 as fun b0 as => pp1 as fun b1 as => pp1 as fun b2 as => pp1 as fun b3 as => pe as ((f_X11_bowlCan N b0 b1 b2 b3 g).bind fun p => k (some (.int p.1)) p.2)) (kb j 203 (pr1 as fun b0 as => pp1 as fun b1 as => pe as ((f_X11_refuse N b0 b1 g).bind fun p => k (some (.int p.1)) p.2)) (kb j 41 (pr1 as fun b0 as => pr1 as fun b1 as => pr1 as fun b2 as => pp1 as fun b3 as => pe as ((f_X1_make N b0 b1 b2 b3 g).bind fun p => k none p)) (kb j 38 (pr1 as fun b0 as => pe as ((f_X1_difference N b0 g).bind fun p => k (some (.int p.1)) p.2)) (kb j 39 (pr1 as fun b0 as => pp1 as fun b1 as => pe as ((f_X1_leanOf N b0 b1 g).bind fun p => k (some (.int p.1)) p.2)) (none)))))
theorem co_X11_bowl (N : Nat) (q : Int32 × mH) : clOK 9 q (C_X11_bowl N) := by
  intro j as g k e
  rcases kb_s e with ⟨rfl, e⟩ | e
  · obtain ⟨b0, r0, q0, f0⟩ := pr1_s e
    obtain ⟨b1, r1, q1, f1⟩ := pp1_s f0
    obtain ⟨b2, r2, q2, f2⟩ := pp1_s f1
    obtain ⟨b3, r3, q3, f3⟩ := pp1_s f2
    obtain ⟨qe, fe⟩ := pe_s f3
    obtain ⟨p, e1, e2⟩ := bnd_s fe
    subst qe
    subst q3
    subst q2
    subst q1
    subst q0
    exact ⟨_, _, _, _, 5, rfl, (by decide), m_X11_bowlCan N e1, e2⟩
  rcases kb_s e with ⟨rfl, e⟩ | e
  · obtain ⟨b0, r0, q0, f0⟩ := pr1_s e
    obtain ⟨b1, r1, q1, f1⟩ := pp1_s f0
    obtain ⟨qe, fe⟩ := pe_s f1
    obtain ⟨p, e1, e2⟩ := bnd_s fe
    subst qe
    subst q1
    subst q0
    exact ⟨_, _, _, _, 4, rfl, (by decide), m_X11_refuse N e1, e2⟩
  rcases kb_s e with ⟨rfl, e⟩ | e
  · obtain ⟨b0, r0, q0, f0⟩ := pr1_s e
    obtain ⟨b1, r1, q1, f1⟩ := pr1_s f0
    obtain ⟨b2, r2, q2, f2⟩ := pr1_s f1
    obtain ⟨b3, r3, q3, f3⟩ := pp1_s f2
    obtain ⟨qe, fe⟩ := pe_s f3
    obtain ⟨p, e1, e2⟩ := bnd_s fe
    subst qe
    subst q3
    subst q2
    subst q1
    subst q0
    exact ⟨_, _, _, _, 8, rfl, (by decide), m_X1_make N e1, e2⟩
  rcases kb_s e with ⟨rfl, e⟩ | e
  · obtain ⟨b0, r0, q0, f0⟩ := pr1_s e
    obtain ⟨qe, fe⟩ := pe_s f0
    obtain ⟨p, e1, e2⟩ := bnd_s fe
    subst qe
    subst q0
    exact ⟨_, _, _, _, 4, rfl, (by decide), m_X1_difference N e1, e2⟩
  rcases kb_s e with ⟨rfl, e⟩ | e
  · obtain ⟨b0, r0, q0, f0⟩ := pr1_s e
    obtain ⟨b1, r1, q1, f1⟩ := pp1_s f0
    obtain ⟨qe, fe⟩ := pe_s f1
    obtain ⟨p, e1, e2⟩ := bnd_s fe
    subst qe
    subst q1
    subst q0
    exact ⟨_, _, _, _, 5, rfl, (by decide), m_X1_leanOf N e1, e2⟩
  cases e
set_option maxRecDepth 100000 in
theorem m_X11_bowl (N : Nat) {a0 : Nat} {x1 : Int32} {x2 : Int32} {x3 : Int32} {h : mH} {q : Int32 × mH} (hf : f_X11_bowl N a0 x1 x2 x3 h = some q) : MM y_X11_bowl 9 [.ref a0, .int x1, .int x2, .int x3] h (some (.int q.1)) q.2 := by
  refine MM.of (mFx (j := 189) rfl).2.2.2.1 (Nat.le_of_ble_eq_true rfl) (fun X => ?_)
  refine ev_ok (o := 11) (ini := false) (Cl := C_X11_bowl N) (Rc := RcI) (B := B_X11_bowl) (K := fun pc ls st g => none) rfl (fun e => by cases e) (by decide) (rcI_ok rfl) ?_ (co_X11_bowl N q) lb_X11_bowl 3000 0 S_X11_bowl_0 _ _ h ls_X11_bowl_0 hf
  intro pc ls st g e
  cases e
def f_X11_wander (N : Nat) (a0 : Nat) (x1 : Int32) (x2 : Int32) (h : mH) : Option (Int32 × mH) :=
  if x2 < 0 then
    (rcv h 11 a0).bind fun _ =>
    (f_X11_refuse N a0 (jI (-2)) h).bind fun p1 =>
    some (p1.1, p1.2)
  else
    if (jI 2) < x2 then
      (rcv h 11 a0).bind fun _ =>
      (f_X11_refuse N a0 (jI (-2)) h).bind fun p2 =>
      some (p2.1, p2.2)
    else
      (gR h 11 a0 2).bind fun v3 =>
      (rcv h 0 v3).bind fun _ =>
      (f_X0_wanderFrom N v3 x1 x2 h).bind fun p4 =>
      some (p4.1, p4.2)
def y_X11_wander : mM := (yX11_wander, cX11_wander, 3, (some .int))
def B_X11_wander : List (Nat × List mI) := [(9, [(.aload_n 0, 1, [0], []), (.bipush (-2), 2, [], [-2]), (.invokevirtual 109, 3, [0, 203, 1, 11, 10], []), (.ireturn, 1, [], [])]), (16, [(.aload_n 0, 1, [0], []), (.getfield 16, 3, [11, 2, 2, 111], []), (.iload_n 1, 1, [1], []), (.iload_n 2, 1, [2], []), (.invokevirtual 375, 3, [0, 36, 2, 0, 230], []), (.ireturn, 1, [], [])])]
def S_X11_wander_0 : List mI := [(.iload_n 2, 1, [2], []), (.ifCond .lt 8, 3, [9], []), (.iload_n 2, 1, [2], []), (.iconst 2, 1, [], [2]), (.if_icmp .le 10, 3, [16], [])]
theorem lb_X11_wander : B_X11_wander.all (fun b => lst y_X11_wander.2.1 11 y_X11_wander.2.2.1 false b.1 b.2) = true := by decide +kernel
theorem ls_X11_wander_0 : lst y_X11_wander.2.1 11 y_X11_wander.2.2.1 false 0 S_X11_wander_0 = true := by decide +kernel
def C_X11_wander (N : Nat) : Nat → List Value → mH → (Option Value → mH → Option (Int32 × mH)) → Option (Int32 × mH) := fun j as g k => kb j 203 (pr1 as fun b0 as => pp1 as fun b1 as => pe as ((f_X11_refuse N b0 b1 g).bind fun p => k (some (.int p.1)) p.2)) (kb j 36 (pr1 as fun b0 as => pp1 as fun b1 as => pp1 as fun b2 as => pe as ((f_X0_wanderFrom N b0 b1 b2 g).bind fun p => k (some (.int p.1)) p.2)) (none))
theorem co_X11_wander (N : Nat) (q : Int32 × mH) : clOK 6 q (C_X11_wander N) := by
  intro j as g k e
  rcases kb_s e with ⟨rfl, e⟩ | e
  · obtain ⟨b0, r0, q0, f0⟩ := pr1_s e
    obtain ⟨b1, r1, q1, f1⟩ := pp1_s f0
    obtain ⟨qe, fe⟩ := pe_s f1
    obtain ⟨p, e1, e2⟩ := bnd_s fe
    subst qe
    subst q1
    subst q0
    exact ⟨_, _, _, _, 4, rfl, (by decide), m_X11_refuse N e1, e2⟩
  rcases kb_s e with ⟨rfl, e⟩ | e
  · obtain ⟨b0, r0, q0, f0⟩ := pr1_s e
    obtain ⟨b1, r1, q1, f1⟩ := pp1_s f0
    obtain ⟨b2, r2, q2, f2⟩ := pp1_s f1
    obtain ⟨qe, fe⟩ := pe_s f2
    obtain ⟨p, e1, e2⟩ := bnd_s fe
    subst qe
    subst q2
    subst q1
    subst q0
    exact ⟨_, _, _, _, 5, rfl, (by decide), m_X0_wanderFrom N e1, e2⟩
  cases e
set_option maxRecDepth 100000 in
theorem m_X11_wander (N : Nat) {a0 : Nat} {x1 : Int32} {x2 : Int32} {h : mH} {q : Int32 × mH} (hf : f_X11_wander N a0 x1 x2 h = some q) : MM y_X11_wander 6 [.ref a0, .int x1, .int x2] h (some (.int q.1)) q.2 := by
  refine MM.of (mFx (j := 190) rfl).2.2.2.1 (Nat.le_of_ble_eq_true rfl) (fun X => ?_)
  refine ev_ok (o := 11) (ini := false) (Cl := C_X11_wander N) (Rc := RcI) (B := B_X11_wander) (K := fun pc ls st g => none) rfl (fun e => by cases e) (by decide) (rcI_ok rfl) ?_ (co_X11_wander N q) lb_X11_wander 3000 0 S_X11_wander_0 _ _ h ls_X11_wander_0 hf
  intro pc ls st g e
  cases e
def J_X11_isClosed_39 (N : Nat) (k8 : Nat → Int32 → Int32 → Int32 → Int32 → Int32 → mH → Option (Int32 × mH)) (a0 : Nat) (x1 : Int32) (x2 : Int32) (x3 : Int32) (x4 : Int32) (x5 : Int32) (s_0 : Int32) (s_1 : Int32) (h : mH) : Option (Int32 × mH) :=
  let w1 := iShl s_0 s_1
  if (iAnd x3 w1) = 0 then
    let w2 := iOr x3 w1
    if (iAdd x4 (jI 1)) < x1 then
      let w3 := iAdd x4 (jI 1)
      let w4 := iAdd x5 (jI 1)
      k8 a0 x1 x2 w2 w3 w4 h
    else
      let w5 := iAdd x5 (jI 1)
      k8 a0 x1 x2 w2 (jI 0) w5 h
  else
    some (jI 0, h)
def L_X11_isClosed_8 (N : Nat) : Nat → Nat → Int32 → Int32 → Int32 → Int32 → Int32 → mH → Option (Int32 × mH)
  | 0, _, _, _, _, _, _, _ => none
  | n + 1, a0, x1, x2, x3, x4, x5, h =>
    if x5 < x2 then
      (ldI 0 h a0 x4).bind fun v1 =>
      let w2 := iAdd x5 v1
      if w2 < x2 then
        J_X11_isClosed_39 N (L_X11_isClosed_8 N n) a0 x1 x2 x3 x4 x5 (jI 1) w2 h
      else
        J_X11_isClosed_39 N (L_X11_isClosed_8 N n) a0 x1 x2 x3 x4 x5 (jI 1) (iSub w2 x2) h
    else
      some (jI 1, h)
def f_X11_isClosed (N : Nat) (a0 : Nat) (x1 : Int32) (x2 : Int32) (h : mH) : Option (Int32 × mH) :=
  L_X11_isClosed_8 N N a0 x1 x2 (jI 0) (jI 0) (jI 0) h
def y_X11_isClosed : mM := (yX11_isClosed, cX11_isClosed, 8, (some .boolean))
def B_X11_isClosed : List (Nat × List mI) := [(37, [(.iload 6, 2, [6], [])]), (51, [(.iload_n 3, 1, [3], []), (.iload 7, 2, [7], []), (.ior, 1, [], []), (.istore_n 3, 1, [3], []), (.iload 4, 2, [4], []), (.iconst 1, 1, [], [1]), (.iadd, 1, [], []), (.iload_n 1, 1, [1], []), (.if_icmp .ge 10, 3, [71], []), (.iload 4, 2, [4], []), (.iconst 1, 1, [], [1]), (.iadd, 1, [], []), (.goto 4, 3, [72], [])]), (71, [(.iconst 0, 1, [], [0])]), (72, [(.istore 4, 2, [4], []), (.iinc 5 1, 3, [5], [1]), (.goto (-69), 3, [8], [])]), (80, [(.iconst 1, 1, [], [1]), (.ireturn, 1, [], [])])]
def S_X11_isClosed_0 : List mI := [(.iconst 0, 1, [], [0]), (.istore_n 3, 1, [3], []), (.iconst 0, 1, [], [0]), (.istore 4, 2, [4], []), (.iconst 0, 1, [], [0]), (.istore 5, 2, [5], [])]
def S_X11_isClosed_8 : List mI := [(.iload 5, 2, [5], []), (.iload_n 2, 1, [2], []), (.if_icmp .ge 69, 3, [80], []), (.iload 5, 2, [5], []), (.aload_n 0, 1, [0], []), (.iload 4, 2, [4], []), (.iaload, 1, [0], []), (.iadd, 1, [], []), (.istore 6, 2, [6], []), (.iconst 1, 1, [], [1]), (.iload 6, 2, [6], []), (.iload_n 2, 1, [2], []), (.if_icmp .lt 10, 3, [37], []), (.iload 6, 2, [6], []), (.iload_n 2, 1, [2], []), (.isub, 1, [], []), (.goto 5, 3, [39], [])]
def S_X11_isClosed_39 : List mI := [(.ishl, 1, [], []), (.istore 7, 2, [7], []), (.iload_n 3, 1, [3], []), (.iload 7, 2, [7], []), (.iand, 1, [], []), (.ifCond .eq 5, 3, [51], []), (.iconst 0, 1, [], [0]), (.ireturn, 1, [], [])]
theorem lb_X11_isClosed : B_X11_isClosed.all (fun b => lst y_X11_isClosed.2.1 11 y_X11_isClosed.2.2.1 false b.1 b.2) = true := by decide +kernel
theorem ls_X11_isClosed_0 : lst y_X11_isClosed.2.1 11 y_X11_isClosed.2.2.1 false 0 S_X11_isClosed_0 = true := by decide +kernel
theorem ls_X11_isClosed_8 : lst y_X11_isClosed.2.1 11 y_X11_isClosed.2.2.1 false 8 S_X11_isClosed_8 = true := by decide +kernel
theorem ls_X11_isClosed_39 : lst y_X11_isClosed.2.1 11 y_X11_isClosed.2.2.1 false 39 S_X11_isClosed_39 = true := by decide +kernel
def C_X11_isClosed (N : Nat) : Nat → List Value → mH → (Option Value → mH → Option (Int32 × mH)) → Option (Int32 × mH) := fun j as g k => none
theorem co_X11_isClosed (N : Nat) (q : Int32 × mH) : clOK 4 q (C_X11_isClosed N) := by
  intro j as g k e
  cases e
set_option maxRecDepth 100000 in
theorem t_X11_isClosed_39 {X : Nat × (Nat → Int32)} (N : Nat) {q : Int32 × mH} {k8 : Nat → Int32 → Int32 → Int32 → Int32 → Int32 → mH → Option (Int32 × mH)} (hk8 : ∀ (a0 : Nat) (x1 : Int32) (x2 : Int32) (x3 : Int32) (x4 : Int32) (x5 : Int32) g, k8 a0 x1 x2 x3 x4 x5 g = some q → MW X y_X11_isClosed 4 8 [(0, .ref a0), (1, .int x1), (2, .int x2), (3, .int x3), (4, .int x4), (5, .int x5)] [] g (some (.int q.1)) q.2) (a0 : Nat) (x1 : Int32) (x2 : Int32) (x3 : Int32) (x4 : Int32) (x5 : Int32) (s_0 : Int32) (s_1 : Int32) (h : mH) (hf : J_X11_isClosed_39 N k8 a0 x1 x2 x3 x4 x5 s_0 s_1 h = some q) : MW X y_X11_isClosed 4 39 [(0, .ref a0), (1, .int x1), (2, .int x2), (3, .int x3), (4, .int x4), (5, .int x5)] [.int s_1, .int s_0] h (some (.int q.1)) q.2 := by
  refine ev_ok (o := 11) (ini := false) (Cl := C_X11_isClosed N) (Rc := RcZ) (B := B_X11_isClosed) (K := fun pc ls st g => kb pc 8 (lgr 0 ls fun a0 => lgi 1 ls fun x1 => lgi 2 ls fun x2 => lgi 3 ls fun x3 => lgi 4 ls fun x4 => lgi 5 ls fun x5 => pe st (k8 a0 x1 x2 x3 x4 x5 g)) (none)) rfl (fun e => by cases e) (by decide) (rcZ_ok rfl) ?_ (co_X11_isClosed N q) lb_X11_isClosed 3000 39 S_X11_isClosed_39 _ _ h ls_X11_isClosed_39 hf
  intro pc ls st g e
  rcases kb_s e with ⟨rfl, e⟩ | e
  · obtain ⟨a0, e0, f0⟩ := lgr_s e
    obtain ⟨x1, e1, f1⟩ := lgi_s f0
    obtain ⟨x2, e2, f2⟩ := lgi_s f1
    obtain ⟨x3, e3, f3⟩ := lgi_s f2
    obtain ⟨x4, e4, f4⟩ := lgi_s f3
    obtain ⟨x5, e5, f5⟩ := lgi_s f4
    obtain ⟨qe, fe⟩ := pe_s f5
    subst qe
    exact MW.sub (List.forall_mem_cons.mpr ⟨lg_mem e0, List.forall_mem_cons.mpr ⟨lg_mem e1, List.forall_mem_cons.mpr ⟨lg_mem e2, List.forall_mem_cons.mpr ⟨lg_mem e3, List.forall_mem_cons.mpr ⟨lg_mem e4, List.forall_mem_cons.mpr ⟨lg_mem e5, fun _ h => absurd h List.not_mem_nil⟩⟩⟩⟩⟩⟩) (hk8 a0 x1 x2 x3 x4 x5 g fe)
  cases e
set_option maxRecDepth 100000 in
theorem t_X11_isClosed_8 {X : Nat × (Nat → Int32)} (N : Nat) {q : Int32 × mH} : ∀ (n : Nat) (a0 : Nat) (x1 : Int32) (x2 : Int32) (x3 : Int32) (x4 : Int32) (x5 : Int32) (h : mH), L_X11_isClosed_8 N n a0 x1 x2 x3 x4 x5 h = some q → MW X y_X11_isClosed 4 8 [(0, .ref a0), (1, .int x1), (2, .int x2), (3, .int x3), (4, .int x4), (5, .int x5)] [] h (some (.int q.1)) q.2 := by
  intro n
  induction n with
  | zero => intro a0 x1 x2 x3 x4 x5 h hf; cases hf
  | succ n ih =>
    intro a0 x1 x2 x3 x4 x5 h hf
    refine ev_ok (o := 11) (ini := false) (Cl := C_X11_isClosed N) (Rc := RcZ) (B := B_X11_isClosed) (K := fun pc ls st g => kb pc 39 (lgr 0 ls fun a0 => lgi 1 ls fun x1 => lgi 2 ls fun x2 => lgi 3 ls fun x3 => lgi 4 ls fun x4 => lgi 5 ls fun x5 => pp1 st fun s_1 st => pp1 st fun s_0 st => pe st (J_X11_isClosed_39 N (L_X11_isClosed_8 N n) a0 x1 x2 x3 x4 x5 s_0 s_1 g)) (none)) rfl (fun e => by cases e) (by decide) (rcZ_ok rfl) ?_ (co_X11_isClosed N q) lb_X11_isClosed 3000 8 S_X11_isClosed_8 _ _ h ls_X11_isClosed_8 hf
    intro pc ls st g e
    rcases kb_s e with ⟨rfl, e⟩ | e
    · obtain ⟨a0, e0, f0⟩ := lgr_s e
      obtain ⟨x1, e1, f1⟩ := lgi_s f0
      obtain ⟨x2, e2, f2⟩ := lgi_s f1
      obtain ⟨x3, e3, f3⟩ := lgi_s f2
      obtain ⟨x4, e4, f4⟩ := lgi_s f3
      obtain ⟨x5, e5, f5⟩ := lgi_s f4
      obtain ⟨s_1, r0, q0, g0⟩ := pp1_s f5
      obtain ⟨s_0, r1, q1, g1⟩ := pp1_s g0
      obtain ⟨qe, fe⟩ := pe_s g1
      subst qe
      subst q1
      subst q0
      exact MW.sub (List.forall_mem_cons.mpr ⟨lg_mem e0, List.forall_mem_cons.mpr ⟨lg_mem e1, List.forall_mem_cons.mpr ⟨lg_mem e2, List.forall_mem_cons.mpr ⟨lg_mem e3, List.forall_mem_cons.mpr ⟨lg_mem e4, List.forall_mem_cons.mpr ⟨lg_mem e5, fun _ h => absurd h List.not_mem_nil⟩⟩⟩⟩⟩⟩) (t_X11_isClosed_39 N (fun a0 x1 x2 x3 x4 x5 g e => ih a0 x1 x2 x3 x4 x5 g e) a0 x1 x2 x3 x4 x5 s_0 s_1 g fe)
    cases e
set_option maxRecDepth 100000 in
theorem m_X11_isClosed (N : Nat) {a0 : Nat} {x1 : Int32} {x2 : Int32} {h : mH} {q : Int32 × mH} (hf : f_X11_isClosed N a0 x1 x2 h = some q) : MM y_X11_isClosed 4 [.ref a0, .int x1, .int x2] h (some (.int q.1)) q.2 := by
  refine MM.of (mFx (j := 217) rfl).2.2.2.1 (Nat.le_of_ble_eq_true rfl) (fun X => ?_)
  refine ev_ok (o := 11) (ini := false) (Cl := C_X11_isClosed N) (Rc := RcZ) (B := B_X11_isClosed) (K := fun pc ls st g => kb pc 8 (lgr 0 ls fun a0 => lgi 1 ls fun x1 => lgi 2 ls fun x2 => lgi 3 ls fun x3 => lgi 4 ls fun x4 => lgi 5 ls fun x5 => pe st (L_X11_isClosed_8 N N a0 x1 x2 x3 x4 x5 g)) (none)) rfl (fun e => by cases e) (by decide) (rcZ_ok rfl) ?_ (co_X11_isClosed N q) lb_X11_isClosed 3000 0 S_X11_isClosed_0 _ _ h ls_X11_isClosed_0 hf
  intro pc ls st g e
  rcases kb_s e with ⟨rfl, e⟩ | e
  · obtain ⟨a0, e0, f0⟩ := lgr_s e
    obtain ⟨x1, e1, f1⟩ := lgi_s f0
    obtain ⟨x2, e2, f2⟩ := lgi_s f1
    obtain ⟨x3, e3, f3⟩ := lgi_s f2
    obtain ⟨x4, e4, f4⟩ := lgi_s f3
    obtain ⟨x5, e5, f5⟩ := lgi_s f4
    obtain ⟨qe, fe⟩ := pe_s f5
    subst qe
    exact MW.sub (List.forall_mem_cons.mpr ⟨lg_mem e0, List.forall_mem_cons.mpr ⟨lg_mem e1, List.forall_mem_cons.mpr ⟨lg_mem e2, List.forall_mem_cons.mpr ⟨lg_mem e3, List.forall_mem_cons.mpr ⟨lg_mem e4, List.forall_mem_cons.mpr ⟨lg_mem e5, fun _ h => absurd h List.not_mem_nil⟩⟩⟩⟩⟩⟩) (t_X11_isClosed_8 N N a0 x1 x2 x3 x4 x5 g fe)
  cases e
def L_X11_closes_87 (N : Nat) : Nat → Nat → Nat → Int32 → mH → Option (Int32 × mH)
  | 0, _, _, _, _ => none
  | n + 1, a0, a2, x3, h =>
    (gI h 5 a2 0).bind fun v1 =>
    if x3 < v1 then
      (gR h 11 a0 16).bind fun v2 =>
      (rcv h 5 a2).bind fun _ =>
      (f_X5_intAt N a2 x3 h).bind fun p3 =>
      (stI 0 p3.2 v2 x3 p3.1).bind fun h4 =>
      let w5 := iAdd x3 (jI 1)
      L_X11_closes_87 N n a0 a2 w5 h4
    else
      (gR h 11 a0 16).bind fun v6 =>
      (gI h 5 a2 0).bind fun v7 =>
      (gR h 11 a0 2).bind fun v8 =>
      (gI h 0 v8 0).bind fun v9 =>
      (f_X11_isClosed N v6 v7 v9 h).bind fun p10 =>
      if p10.1 = 0 then
        some (jI 0, p10.2)
      else
        some (jI 1, p10.2)
def f_X11_closes (N : Nat) (a0 : Nat) (x1 : Int32) (h : mH) : Option (Int32 × mH) :=
  (rcv h 11 a0).bind fun _ =>
  (f_X11_isRow N a0 x1 h).bind fun p1 =>
  if p1.1 = 0 then
    (rcv p1.2 11 a0).bind fun _ =>
    (f_X11_refuse N a0 (jI (-2)) p1.2).bind fun p2 =>
    some (p2.1, p2.2)
  else
    (gR p1.2 11 a0 2).bind fun v3 =>
    (gI p1.2 0 v3 0).bind fun v4 =>
    if v4 = 0 then
      (rcv p1.2 11 a0).bind fun _ =>
      (f_X11_refuse N a0 (jI (-5)) p1.2).bind fun p5 =>
      some (p5.1, p5.2)
    else
      (gR p1.2 11 a0 10).bind fun v6 =>
      (ldR 4 p1.2 v6 x1).bind fun v7 =>
      (rcv p1.2 5 v7).bind fun _ =>
      (f_X5_isMissing N v7 p1.2).bind fun p8 =>
      if p8.1 = 0 then
        (gI p8.2 5 v7 0).bind fun v9 =>
        if v9 = 0 then
          (rcv p8.2 11 a0).bind fun _ =>
          (f_X11_refuse N a0 (jI (-3)) p8.2).bind fun p10 =>
          some (p10.1, p10.2)
        else
          (gR p8.2 11 a0 2).bind fun v11 =>
          (gI p8.2 0 v11 0).bind fun v12 =>
          (rcv p8.2 5 v7).bind fun _ =>
          (f_X5_allWithin N v7 (jL 1) ((iSub v12 (jI 1)).toInt64) p8.2).bind fun p13 =>
          if p13.1 = 0 then
            (rcv p13.2 11 a0).bind fun _ =>
            (f_X11_refuse N a0 (jI (-3)) p13.2).bind fun p14 =>
            some (p14.1, p14.2)
          else
            L_X11_closes_87 N N a0 v7 (jI 0) p13.2
      else
        (rcv p8.2 11 a0).bind fun _ =>
        (f_X11_refuse N a0 (jI (-6)) p8.2).bind fun p15 =>
        some (p15.1, p15.2)
def y_X11_closes : mM := (yX11_closes, cX11_closes, 4, (some .int))
def B_X11_closes : List (Nat × List mI) := [(15, [(.aload_n 0, 1, [0], []), (.getfield 16, 3, [11, 2, 2, 111], []), (.getfield 254, 3, [0, 0, 0, 3], []), (.ifCond .ne 10, 3, [32], []), (.aload_n 0, 1, [0], []), (.bipush (-5), 2, [], [-5]), (.invokevirtual 109, 3, [0, 203, 1, 11, 10], []), (.ireturn, 1, [], [])]), (32, [(.aload_n 0, 1, [0], []), (.getfield 66, 3, [11, 10, 2, 119], []), (.iload_n 1, 1, [1], []), (.aaload, 1, [4], []), (.astore_n 2, 1, [2], []), (.aload_n 2, 1, [2], []), (.invokevirtual 291, 3, [0, 71, 0, 5, 170], []), (.ifCond .eq 10, 3, [53], []), (.aload_n 0, 1, [0], []), (.bipush (-6), 2, [], [-6]), (.invokevirtual 109, 3, [0, 203, 1, 11, 10], []), (.ireturn, 1, [], [])]), (53, [(.aload_n 2, 1, [2], []), (.getfield 295, 3, [5, 0, 0, 71], []), (.ifCond .eq 21, 3, [78], []), (.aload_n 2, 1, [2], []), (.lconst 1, 1, [], [1]), (.aload_n 0, 1, [0], []), (.getfield 16, 3, [11, 2, 2, 111], []), (.getfield 254, 3, [0, 0, 0, 3], []), (.iconst 1, 1, [], [1]), (.isub, 1, [], []), (.i2l, 1, [], []), (.invokevirtual 300, 3, [0, 75, 2, 5, 171], []), (.ifCond .ne 10, 3, [85], [])]), (78, [(.aload_n 0, 1, [0], []), (.bipush (-3), 2, [], [-3]), (.invokevirtual 109, 3, [0, 203, 1, 11, 10], []), (.ireturn, 1, [], [])]), (85, [(.iconst 0, 1, [], [0]), (.istore_n 3, 1, [3], [])]), (112, [(.aload_n 0, 1, [0], []), (.getfield 102, 3, [11, 16, 2, 125], []), (.aload_n 2, 1, [2], []), (.getfield 295, 3, [5, 0, 0, 71], []), (.aload_n 0, 1, [0], []), (.getfield 16, 3, [11, 2, 2, 111], []), (.getfield 254, 3, [0, 0, 0, 3], []), (.invokestatic 381, 3, [1, 217, 3, 0, 232], []), (.ifCond .eq 7, 3, [137], []), (.iconst 1, 1, [], [1]), (.goto 4, 3, [138], [])]), (137, [(.iconst 0, 1, [], [0])]), (138, [(.ireturn, 1, [], [])])]
def S_X11_closes_0 : List mI := [(.aload_n 0, 1, [0], []), (.iload_n 1, 1, [1], []), (.invokevirtual 288, 3, [0, 206, 1, 11, 169], []), (.ifCond .ne 10, 3, [15], []), (.aload_n 0, 1, [0], []), (.bipush (-2), 2, [], [-2]), (.invokevirtual 109, 3, [0, 203, 1, 11, 10], []), (.ireturn, 1, [], [])]
def S_X11_closes_87 : List mI := [(.iload_n 3, 1, [3], []), (.aload_n 2, 1, [2], []), (.getfield 295, 3, [5, 0, 0, 71], []), (.if_icmp .ge 20, 3, [112], []), (.aload_n 0, 1, [0], []), (.getfield 102, 3, [11, 16, 2, 125], []), (.iload_n 3, 1, [3], []), (.aload_n 2, 1, [2], []), (.iload_n 3, 1, [3], []), (.invokevirtual 378, 3, [0, 76, 1, 5, 174], []), (.iastore, 1, [], []), (.iinc 3 1, 3, [3], [1]), (.goto (-22), 3, [87], [])]
theorem lb_X11_closes : B_X11_closes.all (fun b => lst y_X11_closes.2.1 11 y_X11_closes.2.2.1 false b.1 b.2) = true := by decide +kernel
theorem ls_X11_closes_0 : lst y_X11_closes.2.1 11 y_X11_closes.2.2.1 false 0 S_X11_closes_0 = true := by decide +kernel
theorem ls_X11_closes_87 : lst y_X11_closes.2.1 11 y_X11_closes.2.2.1 false 87 S_X11_closes_87 = true := by decide +kernel
def C_X11_closes (N : Nat) : Nat → List Value → mH → (Option Value → mH → Option (Int32 × mH)) → Option (Int32 × mH) := fun j as g k => kb j 206 (pr1 as fun b0 as => pp1 as fun b1 as => pe as ((f_X11_isRow N b0 b1 g).bind fun p => k (some (.int p.1)) p.2)) (kb j 203 (pr1 as fun b0 as => pp1 as fun b1 as => pe as ((f_X11_refuse N b0 b1 g).bind fun p => k (some (.int p.1)) p.2)) (kb j 71 (pr1 as fun b0 as => pe as ((f_X5_isMissing N b0 g).bind fun p => k (some (.int p.1)) p.2)) (kb j 75 (pr1 as fun b0 as => pl1 as fun b1 as => pl1 as fun b2 as => pe as ((f_X5_allWithin N b0 b1 b2 g).bind fun p => k (some (.int p.1)) p.2)) (kb j 76 (pr1 as fun b0 as => pp1 as fun b1 as => pe as ((f_X5_intAt N b0 b1 g).bind fun p => k (some (.int p.1)) p.2)) (kb j 217 (pr1 as fun b0 as => pp1 as fun b1 as => pp1 as fun b2 as => pe as ((f_X11_isClosed N b0 b1 b2 g).bind fun p => k (some (.int p.1)) p.2)) (none))))))
theorem co_X11_closes (N : Nat) (q : Int32 × mH) : clOK 5 q (C_X11_closes N) := by
  intro j as g k e
  rcases kb_s e with ⟨rfl, e⟩ | e
  · obtain ⟨b0, r0, q0, f0⟩ := pr1_s e
    obtain ⟨b1, r1, q1, f1⟩ := pp1_s f0
    obtain ⟨qe, fe⟩ := pe_s f1
    obtain ⟨p, e1, e2⟩ := bnd_s fe
    subst qe
    subst q1
    subst q0
    exact ⟨_, _, _, _, 4, rfl, (by decide), m_X11_isRow N e1, e2⟩
  rcases kb_s e with ⟨rfl, e⟩ | e
  · obtain ⟨b0, r0, q0, f0⟩ := pr1_s e
    obtain ⟨b1, r1, q1, f1⟩ := pp1_s f0
    obtain ⟨qe, fe⟩ := pe_s f1
    obtain ⟨p, e1, e2⟩ := bnd_s fe
    subst qe
    subst q1
    subst q0
    exact ⟨_, _, _, _, 4, rfl, (by decide), m_X11_refuse N e1, e2⟩
  rcases kb_s e with ⟨rfl, e⟩ | e
  · obtain ⟨b0, r0, q0, f0⟩ := pr1_s e
    obtain ⟨qe, fe⟩ := pe_s f0
    obtain ⟨p, e1, e2⟩ := bnd_s fe
    subst qe
    subst q0
    exact ⟨_, _, _, _, 4, rfl, (by decide), m_X5_isMissing N e1, e2⟩
  rcases kb_s e with ⟨rfl, e⟩ | e
  · obtain ⟨b0, r0, q0, f0⟩ := pr1_s e
    obtain ⟨b1, r1, q1, f1⟩ := pl1_s f0
    obtain ⟨b2, r2, q2, f2⟩ := pl1_s f1
    obtain ⟨qe, fe⟩ := pe_s f2
    obtain ⟨p, e1, e2⟩ := bnd_s fe
    subst qe
    subst q2
    subst q1
    subst q0
    exact ⟨_, _, _, _, 4, rfl, (by decide), m_X5_allWithin N e1, e2⟩
  rcases kb_s e with ⟨rfl, e⟩ | e
  · obtain ⟨b0, r0, q0, f0⟩ := pr1_s e
    obtain ⟨b1, r1, q1, f1⟩ := pp1_s f0
    obtain ⟨qe, fe⟩ := pe_s f1
    obtain ⟨p, e1, e2⟩ := bnd_s fe
    subst qe
    subst q1
    subst q0
    exact ⟨_, _, _, _, 4, rfl, (by decide), m_X5_intAt N e1, e2⟩
  rcases kb_s e with ⟨rfl, e⟩ | e
  · obtain ⟨b0, r0, q0, f0⟩ := pr1_s e
    obtain ⟨b1, r1, q1, f1⟩ := pp1_s f0
    obtain ⟨b2, r2, q2, f2⟩ := pp1_s f1
    obtain ⟨qe, fe⟩ := pe_s f2
    obtain ⟨p, e1, e2⟩ := bnd_s fe
    subst qe
    subst q2
    subst q1
    subst q0
    exact ⟨_, _, _, _, 4, rfl, (by decide), m_X11_isClosed N e1, e2⟩
  cases e
set_option maxRecDepth 100000 in
theorem t_X11_closes_87 {X : Nat × (Nat → Int32)} (N : Nat) {q : Int32 × mH} : ∀ (n : Nat) (a0 : Nat) (a2 : Nat) (x3 : Int32) (h : mH), L_X11_closes_87 N n a0 a2 x3 h = some q → MW X y_X11_closes 5 87 [(0, .ref a0), (2, .ref a2), (3, .int x3)] [] h (some (.int q.1)) q.2 := by
  intro n
  induction n with
  | zero => intro a0 a2 x3 h hf; cases hf
  | succ n ih =>
    intro a0 a2 x3 h hf
    refine ev_ok (o := 11) (ini := false) (Cl := C_X11_closes N) (Rc := RcI) (B := B_X11_closes) (K := fun pc ls st g => kb pc 87 (lgr 0 ls fun a0 => lgr 2 ls fun a2 => lgi 3 ls fun x3 => pe st (L_X11_closes_87 N n a0 a2 x3 g)) (none)) rfl (fun e => by cases e) (by decide) (rcI_ok rfl) ?_ (co_X11_closes N q) lb_X11_closes 3000 87 S_X11_closes_87 _ _ h ls_X11_closes_87 hf
    intro pc ls st g e
    rcases kb_s e with ⟨rfl, e⟩ | e
    · obtain ⟨a0, e0, f0⟩ := lgr_s e
      obtain ⟨a2, e1, f1⟩ := lgr_s f0
      obtain ⟨x3, e2, f2⟩ := lgi_s f1
      obtain ⟨qe, fe⟩ := pe_s f2
      subst qe
      exact MW.sub (List.forall_mem_cons.mpr ⟨lg_mem e0, List.forall_mem_cons.mpr ⟨lg_mem e1, List.forall_mem_cons.mpr ⟨lg_mem e2, fun _ h => absurd h List.not_mem_nil⟩⟩⟩) (ih a0 a2 x3 g fe)
    cases e
set_option maxRecDepth 100000 in
theorem m_X11_closes (N : Nat) {a0 : Nat} {x1 : Int32} {h : mH} {q : Int32 × mH} (hf : f_X11_closes N a0 x1 h = some q) : MM y_X11_closes 5 [.ref a0, .int x1] h (some (.int q.1)) q.2 := by
  refine MM.of (mFx (j := 191) rfl).2.2.2.1 (Nat.le_of_ble_eq_true rfl) (fun X => ?_)
  refine ev_ok (o := 11) (ini := false) (Cl := C_X11_closes N) (Rc := RcI) (B := B_X11_closes) (K := fun pc ls st g => kb pc 87 (lgr 0 ls fun a0 => lgr 2 ls fun a2 => lgi 3 ls fun x3 => pe st (L_X11_closes_87 N N a0 a2 x3 g)) (none)) rfl (fun e => by cases e) (by decide) (rcI_ok rfl) ?_ (co_X11_closes N q) lb_X11_closes 3000 0 S_X11_closes_0 _ _ h ls_X11_closes_0 hf
  intro pc ls st g e
  rcases kb_s e with ⟨rfl, e⟩ | e
  · obtain ⟨a0, e0, f0⟩ := lgr_s e
    obtain ⟨a2, e1, f1⟩ := lgr_s f0
    obtain ⟨x3, e2, f2⟩ := lgi_s f1
    obtain ⟨qe, fe⟩ := pe_s f2
    subst qe
    exact MW.sub (List.forall_mem_cons.mpr ⟨lg_mem e0, List.forall_mem_cons.mpr ⟨lg_mem e1, List.forall_mem_cons.mpr ⟨lg_mem e2, fun _ h => absurd h List.not_mem_nil⟩⟩⟩) (t_X11_closes_87 N N a0 a2 x3 g fe)
  cases e
def L_J7_fill_fda19_10 (N : Nat) : Nat → Nat → Int32 → Int32 → Int32 → mH → Option (mH)
  | 0, _, _, _, _, _ => none
  | n + 1, a0, x2, x3, x4, h =>
    if x4 < x2 then
      (stI 0 h a0 x4 x3).bind fun h1 =>
      let w2 := iAdd x4 (jI 1)
      L_J7_fill_fda19_10 N n a0 x2 x3 w2 h1
    else
      some h
def f_J7_fill_fda19 (N : Nat) (a0 : Nat) (x1 : Int32) (x2 : Int32) (x3 : Int32) (h : mH) : Option (mH) :=
  (lnA h a0).bind fun v1 =>
  (f_J7_rangeCheck_23922 N v1 x1 x2 h).bind fun h2 =>
  L_J7_fill_fda19_10 N N a0 x2 x3 x1 h2
def y_J7_fill_fda19 : mM := (yJ7_fill_fda19, cJ7_fill_fda19, 5, none)
def B_J7_fill_fda19 : List (Nat × List mI) := [(27, [(.return_, 1, [], [])])]
def S_J7_fill_fda19_0 : List mI := [(.aload_n 0, 1, [0], []), (.arraylength, 1, [0], []), (.iload_n 1, 1, [1], []), (.iload_n 2, 1, [2], []), (.invokestatic 13, 3, [1, 347, 3, 0, 219], []), (.iload_n 1, 1, [1], []), (.istore 4, 2, [4], [])]
def S_J7_fill_fda19_10 : List mI := [(.iload 4, 2, [4], []), (.iload_n 2, 1, [2], []), (.if_icmp .ge 14, 3, [27], []), (.aload_n 0, 1, [0], []), (.iload 4, 2, [4], []), (.iload_n 3, 1, [3], []), (.iastore, 1, [], []), (.iinc 4 1, 3, [4], [1]), (.goto (-14), 3, [10], [])]
theorem lb_J7_fill_fda19 : B_J7_fill_fda19.all (fun b => lst y_J7_fill_fda19.2.1 16 y_J7_fill_fda19.2.2.1 false b.1 b.2) = true := by decide +kernel
theorem ls_J7_fill_fda19_0 : lst y_J7_fill_fda19.2.1 16 y_J7_fill_fda19.2.2.1 false 0 S_J7_fill_fda19_0 = true := by decide +kernel
theorem ls_J7_fill_fda19_10 : lst y_J7_fill_fda19.2.1 16 y_J7_fill_fda19.2.2.1 false 10 S_J7_fill_fda19_10 = true := by decide +kernel
def C_J7_fill_fda19 (N : Nat) : Nat → List Value → mH → (Option Value → mH → Option (mH)) → Option (mH) := fun j as g k => kb j 347 (pp1 as fun b0 as => pp1 as fun b1 as => pp1 as fun b2 as => pe as ((f_J7_rangeCheck_23922 N b0 b1 b2 g).bind fun p => k none p)) (none)
theorem co_J7_fill_fda19 (N : Nat) (q : mH) : clOK 5 q (C_J7_fill_fda19 N) := by
  intro j as g k e
  rcases kb_s e with ⟨rfl, e⟩ | e
  · obtain ⟨b0, r0, q0, f0⟩ := pp1_s e
    obtain ⟨b1, r1, q1, f1⟩ := pp1_s f0
    obtain ⟨b2, r2, q2, f2⟩ := pp1_s f1
    obtain ⟨qe, fe⟩ := pe_s f2
    obtain ⟨p, e1, e2⟩ := bnd_s fe
    subst qe
    subst q2
    subst q1
    subst q0
    exact ⟨_, _, _, _, 4, rfl, (by decide), m_J7_rangeCheck_23922 N e1, e2⟩
  cases e
set_option maxRecDepth 100000 in
theorem t_J7_fill_fda19_10 {X : Nat × (Nat → Int32)} (N : Nat) {q : mH} : ∀ (n : Nat) (a0 : Nat) (x2 : Int32) (x3 : Int32) (x4 : Int32) (h : mH), L_J7_fill_fda19_10 N n a0 x2 x3 x4 h = some q → MW X y_J7_fill_fda19 5 10 [(0, .ref a0), (2, .int x2), (3, .int x3), (4, .int x4)] [] h none q := by
  intro n
  induction n with
  | zero => intro a0 x2 x3 x4 h hf; cases hf
  | succ n ih =>
    intro a0 x2 x3 x4 h hf
    refine ev_ok (o := 16) (ini := false) (Cl := C_J7_fill_fda19 N) (Rc := RcV) (B := B_J7_fill_fda19) (K := fun pc ls st g => kb pc 10 (lgr 0 ls fun a0 => lgi 2 ls fun x2 => lgi 3 ls fun x3 => lgi 4 ls fun x4 => pe st (L_J7_fill_fda19_10 N n a0 x2 x3 x4 g)) (none)) rfl (fun e => by cases e) (by decide) (rcV_ok rfl) ?_ (co_J7_fill_fda19 N q) lb_J7_fill_fda19 3000 10 S_J7_fill_fda19_10 _ _ h ls_J7_fill_fda19_10 hf
    intro pc ls st g e
    rcases kb_s e with ⟨rfl, e⟩ | e
    · obtain ⟨a0, e0, f0⟩ := lgr_s e
      obtain ⟨x2, e1, f1⟩ := lgi_s f0
      obtain ⟨x3, e2, f2⟩ := lgi_s f1
      obtain ⟨x4, e3, f3⟩ := lgi_s f2
      obtain ⟨qe, fe⟩ := pe_s f3
      subst qe
      exact MW.sub (List.forall_mem_cons.mpr ⟨lg_mem e0, List.forall_mem_cons.mpr ⟨lg_mem e1, List.forall_mem_cons.mpr ⟨lg_mem e2, List.forall_mem_cons.mpr ⟨lg_mem e3, fun _ h => absurd h List.not_mem_nil⟩⟩⟩⟩) (ih a0 x2 x3 x4 g fe)
    cases e
set_option maxRecDepth 100000 in
theorem m_J7_fill_fda19 (N : Nat) {a0 : Nat} {x1 : Int32} {x2 : Int32} {x3 : Int32} {h : mH} {q : mH} (hf : f_J7_fill_fda19 N a0 x1 x2 x3 h = some q) : MM y_J7_fill_fda19 5 [.ref a0, .int x1, .int x2, .int x3] h none q := by
  refine MM.of (mFx (j := 351) rfl).2.2.2.1 (Nat.le_of_ble_eq_true rfl) (fun X => ?_)
  refine ev_ok (o := 16) (ini := false) (Cl := C_J7_fill_fda19 N) (Rc := RcV) (B := B_J7_fill_fda19) (K := fun pc ls st g => kb pc 10 (lgr 0 ls fun a0 => lgi 2 ls fun x2 => lgi 3 ls fun x3 => lgi 4 ls fun x4 => pe st (L_J7_fill_fda19_10 N N a0 x2 x3 x4 g)) (none)) rfl (fun e => by cases e) (by decide) (rcV_ok rfl) ?_ (co_J7_fill_fda19 N q) lb_J7_fill_fda19 3000 0 S_J7_fill_fda19_0 _ _ h ls_J7_fill_fda19_0 hf
  intro pc ls st g e
  rcases kb_s e with ⟨rfl, e⟩ | e
  · obtain ⟨a0, e0, f0⟩ := lgr_s e
    obtain ⟨x2, e1, f1⟩ := lgi_s f0
    obtain ⟨x3, e2, f2⟩ := lgi_s f1
    obtain ⟨x4, e3, f3⟩ := lgi_s f2
    obtain ⟨qe, fe⟩ := pe_s f3
    subst qe
    exact MW.sub (List.forall_mem_cons.mpr ⟨lg_mem e0, List.forall_mem_cons.mpr ⟨lg_mem e1, List.forall_mem_cons.mpr ⟨lg_mem e2, List.forall_mem_cons.mpr ⟨lg_mem e3, fun _ h => absurd h List.not_mem_nil⟩⟩⟩⟩) (t_J7_fill_fda19_10 N N a0 x2 x3 x4 g fe)
  cases e
def L_X11_nextMoves_4 (N : Nat) : Nat → Nat → Int32 → Int32 → mH → Option (Int32 × mH)
  | 0, _, _, _, _ => none
  | n + 1, a0, x2, x3, h =>
    if x3 < 0 then
      some (jI 0, h)
    else
      (gR h 11 a0 16).bind fun v1 =>
      (ldI 0 h v1 x3).bind fun v2 =>
      if v2 < x2 then
        (gR h 11 a0 16).bind fun v3 =>
        (ldI 0 h v3 x3).bind fun v4 =>
        (stI 0 h v3 x3 (iAdd v4 (jI 1))).bind fun h5 =>
        some (jI 1, h5)
      else
        (gR h 11 a0 16).bind fun v6 =>
        (stI 0 h v6 x3 (jI 1)).bind fun h7 =>
        let w8 := iAdd x3 (jI (-1))
        L_X11_nextMoves_4 N n a0 x2 w8 h7
def f_X11_nextMoves (N : Nat) (a0 : Nat) (x1 : Int32) (x2 : Int32) (h : mH) : Option (Int32 × mH) :=
  let w1 := iSub x1 (jI 1)
  L_X11_nextMoves_4 N N a0 x2 w1 h
def y_X11_nextMoves : mM := (yX11_nextMoves, cX11_nextMoves, 4, (some .boolean))
def B_X11_nextMoves : List (Nat × List mI) := [(30, [(.aload_n 0, 1, [0], []), (.getfield 102, 3, [11, 16, 2, 125], []), (.iload_n 3, 1, [3], []), (.iconst 1, 1, [], [1]), (.iastore, 1, [], []), (.iinc 3 (-1), 3, [3], [-1]), (.goto (-36), 3, [4], [])]), (43, [(.iconst 0, 1, [], [0]), (.ireturn, 1, [], [])])]
def S_X11_nextMoves_0 : List mI := [(.iload_n 1, 1, [1], []), (.iconst 1, 1, [], [1]), (.isub, 1, [], []), (.istore_n 3, 1, [3], [])]
def S_X11_nextMoves_4 : List mI := [(.iload_n 3, 1, [3], []), (.ifCond .lt 38, 3, [43], []), (.aload_n 0, 1, [0], []), (.getfield 102, 3, [11, 16, 2, 125], []), (.iload_n 3, 1, [3], []), (.iaload, 1, [0], []), (.iload_n 2, 1, [2], []), (.if_icmp .ge 15, 3, [30], []), (.aload_n 0, 1, [0], []), (.getfield 102, 3, [11, 16, 2, 125], []), (.iload_n 3, 1, [3], []), (.dup2, 1, [], []), (.iaload, 1, [0], []), (.iconst 1, 1, [], [1]), (.iadd, 1, [], []), (.iastore, 1, [], []), (.iconst 1, 1, [], [1]), (.ireturn, 1, [], [])]
theorem lb_X11_nextMoves : B_X11_nextMoves.all (fun b => lst y_X11_nextMoves.2.1 11 y_X11_nextMoves.2.2.1 false b.1 b.2) = true := by decide +kernel
theorem ls_X11_nextMoves_0 : lst y_X11_nextMoves.2.1 11 y_X11_nextMoves.2.2.1 false 0 S_X11_nextMoves_0 = true := by decide +kernel
theorem ls_X11_nextMoves_4 : lst y_X11_nextMoves.2.1 11 y_X11_nextMoves.2.2.1 false 4 S_X11_nextMoves_4 = true := by decide +kernel
def C_X11_nextMoves (N : Nat) : Nat → List Value → mH → (Option Value → mH → Option (Int32 × mH)) → Option (Int32 × mH) := fun j as g k => none
theorem co_X11_nextMoves (N : Nat) (q : Int32 × mH) : clOK 4 q (C_X11_nextMoves N) := by
  intro j as g k e
  cases e
set_option maxRecDepth 100000 in
theorem t_X11_nextMoves_4 {X : Nat × (Nat → Int32)} (N : Nat) {q : Int32 × mH} : ∀ (n : Nat) (a0 : Nat) (x2 : Int32) (x3 : Int32) (h : mH), L_X11_nextMoves_4 N n a0 x2 x3 h = some q → MW X y_X11_nextMoves 4 4 [(0, .ref a0), (2, .int x2), (3, .int x3)] [] h (some (.int q.1)) q.2 := by
  intro n
  induction n with
  | zero => intro a0 x2 x3 h hf; cases hf
  | succ n ih =>
    intro a0 x2 x3 h hf
    refine ev_ok (o := 11) (ini := false) (Cl := C_X11_nextMoves N) (Rc := RcZ) (B := B_X11_nextMoves) (K := fun pc ls st g => kb pc 4 (lgr 0 ls fun a0 => lgi 2 ls fun x2 => lgi 3 ls fun x3 => pe st (L_X11_nextMoves_4 N n a0 x2 x3 g)) (none)) rfl (fun e => by cases e) (by decide) (rcZ_ok rfl) ?_ (co_X11_nextMoves N q) lb_X11_nextMoves 3000 4 S_X11_nextMoves_4 _ _ h ls_X11_nextMoves_4 hf
    intro pc ls st g e
    rcases kb_s e with ⟨rfl, e⟩ | e
    · obtain ⟨a0, e0, f0⟩ := lgr_s e
      obtain ⟨x2, e1, f1⟩ := lgi_s f0
      obtain ⟨x3, e2, f2⟩ := lgi_s f1
      obtain ⟨qe, fe⟩ := pe_s f2
      subst qe
      exact MW.sub (List.forall_mem_cons.mpr ⟨lg_mem e0, List.forall_mem_cons.mpr ⟨lg_mem e1, List.forall_mem_cons.mpr ⟨lg_mem e2, fun _ h => absurd h List.not_mem_nil⟩⟩⟩) (ih a0 x2 x3 g fe)
    cases e
set_option maxRecDepth 100000 in
theorem m_X11_nextMoves (N : Nat) {a0 : Nat} {x1 : Int32} {x2 : Int32} {h : mH} {q : Int32 × mH} (hf : f_X11_nextMoves N a0 x1 x2 h = some q) : MM y_X11_nextMoves 4 [.ref a0, .int x1, .int x2] h (some (.int q.1)) q.2 := by
  refine MM.of (mFx (j := 219) rfl).2.2.2.1 (Nat.le_of_ble_eq_true rfl) (fun X => ?_)
  refine ev_ok (o := 11) (ini := false) (Cl := C_X11_nextMoves N) (Rc := RcZ) (B := B_X11_nextMoves) (K := fun pc ls st g => kb pc 4 (lgr 0 ls fun a0 => lgi 2 ls fun x2 => lgi 3 ls fun x3 => pe st (L_X11_nextMoves_4 N N a0 x2 x3 g)) (none)) rfl (fun e => by cases e) (by decide) (rcZ_ok rfl) ?_ (co_X11_nextMoves N q) lb_X11_nextMoves 3000 0 S_X11_nextMoves_0 _ _ h ls_X11_nextMoves_0 hf
  intro pc ls st g e
  rcases kb_s e with ⟨rfl, e⟩ | e
  · obtain ⟨a0, e0, f0⟩ := lgr_s e
    obtain ⟨x2, e1, f1⟩ := lgi_s f0
    obtain ⟨x3, e2, f2⟩ := lgi_s f1
    obtain ⟨qe, fe⟩ := pe_s f2
    subst qe
    exact MW.sub (List.forall_mem_cons.mpr ⟨lg_mem e0, List.forall_mem_cons.mpr ⟨lg_mem e1, List.forall_mem_cons.mpr ⟨lg_mem e2, fun _ h => absurd h List.not_mem_nil⟩⟩⟩) (t_X11_nextMoves_4 N N a0 x2 x3 g fe)
  cases e
def J_X11_bordersThatClose_116 (N : Nat) (k25 : Nat → Int32 → Int32 → Int32 → Int32 → Int32 → Int32 → Int32 → Int32 → mH → Option (Int32 × mH)) (a0 : Nat) (x1 : Int32) (x2 : Int32) (x3 : Int32) (x4 : Int32) (x8 : Int32) (x9 : Int32) (x10 : Int32) (h : mH) : Option (Int32 × mH) :=
  let w1 := iAdd x4 (jI 1)
  (rcv h 11 a0).bind fun _ =>
  (f_X11_nextMoves N a0 x1 x2 h).bind fun p2 =>
  let w3 := iAdd x8 (jI 1)
  k25 a0 x1 x2 x3 w1 x9 x10 p2.1 w3 p2.2
def L_X11_bordersThatClose_65 (N : Nat) (k25 : Nat → Int32 → Int32 → Int32 → Int32 → Int32 → Int32 → Int32 → Int32 → mH → Option (Int32 × mH)) : Nat → Nat → Int32 → Int32 → Int32 → Int32 → Int32 → Int32 → Int32 → Int32 → Int32 → Int32 → mH → Option (Int32 × mH)
  | 0, _, _, _, _, _, _, _, _, _, _, _, _ => none
  | n + 1, a0, x1, x2, x3, x4, x5, x6, x8, x9, x10, x11, h =>
    if x11 < x1 then
      (gR h 11 a0 16).bind fun v1 =>
      (ldI 0 h v1 x11).bind fun v2 =>
      let w3 := iAdd x9 v2
      (gR h 11 a0 16).bind fun v4 =>
      (ldI 0 h v4 x11).bind fun v5 =>
      let w6 := iAdd (iMul x10 (jI 10)) v5
      let w7 := iAdd x11 (jI 1)
      L_X11_bordersThatClose_65 N k25 n a0 x1 x2 x3 x4 x5 x6 x8 w3 w6 w7 h
    else
      if x4 = 0 then
        J_X11_bordersThatClose_116 N k25 a0 x1 x2 x3 x4 x8 x9 x10 h
      else
        if x9 < x5 then
          J_X11_bordersThatClose_116 N k25 a0 x1 x2 x3 x4 x8 x9 x10 h
        else
          let w8 := iAdd x4 (jI 1)
          (rcv h 11 a0).bind fun _ =>
          (f_X11_nextMoves N a0 x1 x2 h).bind fun p9 =>
          let w10 := iAdd x8 (jI 1)
          k25 a0 x1 x2 x3 w8 x5 x6 p9.1 w10 p9.2
def L_X11_bordersThatClose_25 (N : Nat) : Nat → Nat → Int32 → Int32 → Int32 → Int32 → Int32 → Int32 → Int32 → Int32 → mH → Option (Int32 × mH)
  | 0, _, _, _, _, _, _, _, _, _, _ => none
  | n + 1, a0, x1, x2, x3, x4, x5, x6, x7, x8, h =>
    if x8 < (jI 1296) then
      if x7 = 0 then
        if x3 = jI 0 then
          some (x4, h)
        else
        if x3 = jI 1 then
          some (x5, h)
        else
        some (x6, h)
      else
        (gR h 11 a0 16).bind fun v1 =>
        (gR h 11 a0 2).bind fun v2 =>
        (gI h 0 v2 0).bind fun v3 =>
        (f_X11_isClosed N v1 x1 v3 h).bind fun p4 =>
        if p4.1 = 0 then
          (rcv p4.2 11 a0).bind fun _ =>
          (f_X11_nextMoves N a0 x1 x2 p4.2).bind fun p5 =>
          let w6 := iAdd x8 (jI 1)
          L_X11_bordersThatClose_25 N n a0 x1 x2 x3 x4 x5 x6 p5.1 w6 p5.2
        else
          L_X11_bordersThatClose_65 N (L_X11_bordersThatClose_25 N n) N a0 x1 x2 x3 x4 x5 x6 x8 (jI 0) (jI 0) (jI 0) p4.2
    else
      if x3 = jI 0 then
        some (x4, h)
      else
      if x3 = jI 1 then
        some (x5, h)
      else
      some (x6, h)
def f_X11_bordersThatClose (N : Nat) (a0 : Nat) (x1 : Int32) (x2 : Int32) (x3 : Int32) (h : mH) : Option (Int32 × mH) :=
  (gR h 11 a0 16).bind fun v1 =>
  (f_J7_fill_fda19 N v1 (jI 0) x1 (jI 1) h).bind fun h2 =>
  L_X11_bordersThatClose_25 N N a0 x1 x2 x3 (jI 0) (jI 0) (jI 0) (jI 1) (jI 0) h2
def y_X11_bordersThatClose : mM := (yX11_bordersThatClose, cX11_bordersThatClose, 12, (some .int))
def B_X11_bordersThatClose : List (Nat × List mI) := [(104, [(.iload 4, 2, [4], []), (.ifCond .eq 10, 3, [116], []), (.iload 9, 2, [9], []), (.iload 5, 2, [5], []), (.if_icmp .ge 11, 3, [124], [])]), (124, [(.iinc 4 1, 3, [4], [1])]), (127, [(.aload_n 0, 1, [0], []), (.iload_n 1, 1, [1], []), (.iload_n 2, 1, [2], []), (.invokevirtual 468, 3, [0, 219, 2, 11, 236], []), (.istore 7, 2, [7], []), (.iinc 8 1, 3, [8], [1]), (.goto (-113), 3, [25], [])]), (141, [(.iload_n 3, 1, [3], []), (.lookupswitch 32 #[(0, 26), (1, 29)], 26, [174, 168, 171], [0, 1])]), (168, [(.iload 4, 2, [4], []), (.ireturn, 1, [], [])]), (171, [(.iload 5, 2, [5], []), (.ireturn, 1, [], [])]), (174, [(.iload 6, 2, [6], []), (.ireturn, 1, [], [])])]
def S_X11_bordersThatClose_0 : List mI := [(.aload_n 0, 1, [0], []), (.getfield 102, 3, [11, 16, 2, 125], []), (.iconst 0, 1, [], [0]), (.iload_n 1, 1, [1], []), (.iconst 1, 1, [], [1]), (.invokestatic 462, 3, [1, 351, 4, 0, 235], []), (.iconst 0, 1, [], [0]), (.istore 4, 2, [4], []), (.iconst 0, 1, [], [0]), (.istore 5, 2, [5], []), (.iconst 0, 1, [], [0]), (.istore 6, 2, [6], []), (.iconst 1, 1, [], [1]), (.istore 7, 2, [7], []), (.iconst 0, 1, [], [0]), (.istore 8, 2, [8], [])]
def S_X11_bordersThatClose_25 : List mI := [(.iload 8, 2, [8], []), (.sipush 1296, 3, [], [1296]), (.if_icmp .ge 111, 3, [141], []), (.iload 7, 2, [7], []), (.ifCond .eq 106, 3, [141], []), (.aload_n 0, 1, [0], []), (.getfield 102, 3, [11, 16, 2, 125], []), (.iload_n 1, 1, [1], []), (.aload_n 0, 1, [0], []), (.getfield 16, 3, [11, 2, 2, 111], []), (.getfield 254, 3, [0, 0, 0, 3], []), (.invokestatic 381, 3, [1, 217, 3, 0, 232], []), (.ifCond .eq 74, 3, [127], []), (.iconst 0, 1, [], [0]), (.istore 9, 2, [9], []), (.iconst 0, 1, [], [0]), (.istore 10, 2, [10], []), (.iconst 0, 1, [], [0]), (.istore 11, 2, [11], [])]
def S_X11_bordersThatClose_65 : List mI := [(.iload 11, 2, [11], []), (.iload_n 1, 1, [1], []), (.if_icmp .ge 36, 3, [104], []), (.iload 9, 2, [9], []), (.aload_n 0, 1, [0], []), (.getfield 102, 3, [11, 16, 2, 125], []), (.iload 11, 2, [11], []), (.iaload, 1, [0], []), (.iadd, 1, [], []), (.istore 9, 2, [9], []), (.iload 10, 2, [10], []), (.bipush 10, 2, [], [10]), (.imul, 1, [], []), (.aload_n 0, 1, [0], []), (.getfield 102, 3, [11, 16, 2, 125], []), (.iload 11, 2, [11], []), (.iaload, 1, [0], []), (.iadd, 1, [], []), (.istore 10, 2, [10], []), (.iinc 11 1, 3, [11], [1]), (.goto (-36), 3, [65], [])]
def S_X11_bordersThatClose_116 : List mI := [(.iload 9, 2, [9], []), (.istore 5, 2, [5], []), (.iload 10, 2, [10], []), (.istore 6, 2, [6], [])]
theorem lb_X11_bordersThatClose : B_X11_bordersThatClose.all (fun b => lst y_X11_bordersThatClose.2.1 11 y_X11_bordersThatClose.2.2.1 false b.1 b.2) = true := by decide +kernel
theorem ls_X11_bordersThatClose_0 : lst y_X11_bordersThatClose.2.1 11 y_X11_bordersThatClose.2.2.1 false 0 S_X11_bordersThatClose_0 = true := by decide +kernel
theorem ls_X11_bordersThatClose_25 : lst y_X11_bordersThatClose.2.1 11 y_X11_bordersThatClose.2.2.1 false 25 S_X11_bordersThatClose_25 = true := by decide +kernel
theorem ls_X11_bordersThatClose_65 : lst y_X11_bordersThatClose.2.1 11 y_X11_bordersThatClose.2.2.1 false 65 S_X11_bordersThatClose_65 = true := by decide +kernel
theorem ls_X11_bordersThatClose_116 : lst y_X11_bordersThatClose.2.1 11 y_X11_bordersThatClose.2.2.1 false 116 S_X11_bordersThatClose_116 = true := by decide +kernel
def C_X11_bordersThatClose (N : Nat) : Nat → List Value → mH → (Option Value → mH → Option (Int32 × mH)) → Option (Int32 × mH) := fun j as g k => kb j 351 (pr1 as fun b0 as => pp1 as fun b1 as => pp1 as fun b2 as => pp1 as fun b3 as => pe as ((f_J7_fill_fda19 N b0 b1 b2 b3 g).bind fun p => k none p)) (kb j 217 (pr1 as fun b0 as => pp1 as fun b1 as => pp1 as fun b2 as => pe as ((f_X11_isClosed N b0 b1 b2 g).bind fun p => k (some (.int p.1)) p.2)) (kb j 219 (pr1 as fun b0 as => pp1 as fun b1 as => pp1 as fun b2 as => pe as ((f_X11_nextMoves N b0 b1 b2 g).bind fun p => k (some (.int p.1)) p.2)) (none)))
theorem co_X11_bordersThatClose (N : Nat) (q : Int32 × mH) : clOK 6 q (C_X11_bordersThatClose N) := by
  intro j as g k e
  rcases kb_s e with ⟨rfl, e⟩ | e
  · obtain ⟨b0, r0, q0, f0⟩ := pr1_s e
    obtain ⟨b1, r1, q1, f1⟩ := pp1_s f0
    obtain ⟨b2, r2, q2, f2⟩ := pp1_s f1
    obtain ⟨b3, r3, q3, f3⟩ := pp1_s f2
    obtain ⟨qe, fe⟩ := pe_s f3
    obtain ⟨p, e1, e2⟩ := bnd_s fe
    subst qe
    subst q3
    subst q2
    subst q1
    subst q0
    exact ⟨_, _, _, _, 5, rfl, (by decide), m_J7_fill_fda19 N e1, e2⟩
  rcases kb_s e with ⟨rfl, e⟩ | e
  · obtain ⟨b0, r0, q0, f0⟩ := pr1_s e
    obtain ⟨b1, r1, q1, f1⟩ := pp1_s f0
    obtain ⟨b2, r2, q2, f2⟩ := pp1_s f1
    obtain ⟨qe, fe⟩ := pe_s f2
    obtain ⟨p, e1, e2⟩ := bnd_s fe
    subst qe
    subst q2
    subst q1
    subst q0
    exact ⟨_, _, _, _, 4, rfl, (by decide), m_X11_isClosed N e1, e2⟩
  rcases kb_s e with ⟨rfl, e⟩ | e
  · obtain ⟨b0, r0, q0, f0⟩ := pr1_s e
    obtain ⟨b1, r1, q1, f1⟩ := pp1_s f0
    obtain ⟨b2, r2, q2, f2⟩ := pp1_s f1
    obtain ⟨qe, fe⟩ := pe_s f2
    obtain ⟨p, e1, e2⟩ := bnd_s fe
    subst qe
    subst q2
    subst q1
    subst q0
    exact ⟨_, _, _, _, 4, rfl, (by decide), m_X11_nextMoves N e1, e2⟩
  cases e
set_option maxRecDepth 100000 in
theorem t_X11_bordersThatClose_116 {X : Nat × (Nat → Int32)} (N : Nat) {q : Int32 × mH} {k25 : Nat → Int32 → Int32 → Int32 → Int32 → Int32 → Int32 → Int32 → Int32 → mH → Option (Int32 × mH)} (hk25 : ∀ (a0 : Nat) (x1 : Int32) (x2 : Int32) (x3 : Int32) (x4 : Int32) (x5 : Int32) (x6 : Int32) (x7 : Int32) (x8 : Int32) g, k25 a0 x1 x2 x3 x4 x5 x6 x7 x8 g = some q → MW X y_X11_bordersThatClose 6 25 [(0, .ref a0), (1, .int x1), (2, .int x2), (3, .int x3), (4, .int x4), (5, .int x5), (6, .int x6), (7, .int x7), (8, .int x8)] [] g (some (.int q.1)) q.2) (a0 : Nat) (x1 : Int32) (x2 : Int32) (x3 : Int32) (x4 : Int32) (x8 : Int32) (x9 : Int32) (x10 : Int32) (h : mH) (hf : J_X11_bordersThatClose_116 N k25 a0 x1 x2 x3 x4 x8 x9 x10 h = some q) : MW X y_X11_bordersThatClose 6 116 [(0, .ref a0), (1, .int x1), (2, .int x2), (3, .int x3), (4, .int x4), (8, .int x8), (9, .int x9), (10, .int x10)] [] h (some (.int q.1)) q.2 := by
  refine ev_ok (o := 11) (ini := false) (Cl := C_X11_bordersThatClose N) (Rc := RcI) (B := B_X11_bordersThatClose) (K := fun pc ls st g => kb pc 25 (lgr 0 ls fun a0 => lgi 1 ls fun x1 => lgi 2 ls fun x2 => lgi 3 ls fun x3 => lgi 4 ls fun x4 => lgi 5 ls fun x5 => lgi 6 ls fun x6 => lgi 7 ls fun x7 => lgi 8 ls fun x8 => pe st (k25 a0 x1 x2 x3 x4 x5 x6 x7 x8 g)) (none)) rfl (fun e => by cases e) (by decide) (rcI_ok rfl) ?_ (co_X11_bordersThatClose N q) lb_X11_bordersThatClose 3000 116 S_X11_bordersThatClose_116 _ _ h ls_X11_bordersThatClose_116 hf
  intro pc ls st g e
  rcases kb_s e with ⟨rfl, e⟩ | e
  · obtain ⟨a0, e0, f0⟩ := lgr_s e
    obtain ⟨x1, e1, f1⟩ := lgi_s f0
    obtain ⟨x2, e2, f2⟩ := lgi_s f1
    obtain ⟨x3, e3, f3⟩ := lgi_s f2
    obtain ⟨x4, e4, f4⟩ := lgi_s f3
    obtain ⟨x5, e5, f5⟩ := lgi_s f4
    obtain ⟨x6, e6, f6⟩ := lgi_s f5
    obtain ⟨x7, e7, f7⟩ := lgi_s f6
    obtain ⟨x8, e8, f8⟩ := lgi_s f7
    obtain ⟨qe, fe⟩ := pe_s f8
    subst qe
    exact MW.sub (List.forall_mem_cons.mpr ⟨lg_mem e0, List.forall_mem_cons.mpr ⟨lg_mem e1, List.forall_mem_cons.mpr ⟨lg_mem e2, List.forall_mem_cons.mpr ⟨lg_mem e3, List.forall_mem_cons.mpr ⟨lg_mem e4, List.forall_mem_cons.mpr ⟨lg_mem e5, List.forall_mem_cons.mpr ⟨lg_mem e6, List.forall_mem_cons.mpr ⟨lg_mem e7, List.forall_mem_cons.mpr ⟨lg_mem e8, fun _ h => absurd h List.not_mem_nil⟩⟩⟩⟩⟩⟩⟩⟩⟩) (hk25 a0 x1 x2 x3 x4 x5 x6 x7 x8 g fe)
  cases e
set_option maxRecDepth 100000 in
theorem t_X11_bordersThatClose_65 {X : Nat × (Nat → Int32)} (N : Nat) {q : Int32 × mH} {k25 : Nat → Int32 → Int32 → Int32 → Int32 → Int32 → Int32 → Int32 → Int32 → mH → Option (Int32 × mH)} (hk25 : ∀ (a0 : Nat) (x1 : Int32) (x2 : Int32) (x3 : Int32) (x4 : Int32) (x5 : Int32) (x6 : Int32) (x7 : Int32) (x8 : Int32) g, k25 a0 x1 x2 x3 x4 x5 x6 x7 x8 g = some q → MW X y_X11_bordersThatClose 6 25 [(0, .ref a0), (1, .int x1), (2, .int x2), (3, .int x3), (4, .int x4), (5, .int x5), (6, .int x6), (7, .int x7), (8, .int x8)] [] g (some (.int q.1)) q.2) : ∀ (n : Nat) (a0 : Nat) (x1 : Int32) (x2 : Int32) (x3 : Int32) (x4 : Int32) (x5 : Int32) (x6 : Int32) (x8 : Int32) (x9 : Int32) (x10 : Int32) (x11 : Int32) (h : mH), L_X11_bordersThatClose_65 N k25 n a0 x1 x2 x3 x4 x5 x6 x8 x9 x10 x11 h = some q → MW X y_X11_bordersThatClose 6 65 [(0, .ref a0), (1, .int x1), (2, .int x2), (3, .int x3), (4, .int x4), (5, .int x5), (6, .int x6), (8, .int x8), (9, .int x9), (10, .int x10), (11, .int x11)] [] h (some (.int q.1)) q.2 := by
  intro n
  induction n with
  | zero => intro a0 x1 x2 x3 x4 x5 x6 x8 x9 x10 x11 h hf; cases hf
  | succ n ih =>
    intro a0 x1 x2 x3 x4 x5 x6 x8 x9 x10 x11 h hf
    refine ev_ok (o := 11) (ini := false) (Cl := C_X11_bordersThatClose N) (Rc := RcI) (B := B_X11_bordersThatClose) (K := fun pc ls st g => kb pc 25 (lgr 0 ls fun a0 => lgi 1 ls fun x1 => lgi 2 ls fun x2 => lgi 3 ls fun x3 => lgi 4 ls fun x4 => lgi 5 ls fun x5 => lgi 6 ls fun x6 => lgi 7 ls fun x7 => lgi 8 ls fun x8 => pe st (k25 a0 x1 x2 x3 x4 x5 x6 x7 x8 g)) (kb pc 65 (lgr 0 ls fun a0 => lgi 1 ls fun x1 => lgi 2 ls fun x2 => lgi 3 ls fun x3 => lgi 4 ls fun x4 => lgi 5 ls fun x5 => lgi 6 ls fun x6 => lgi 8 ls fun x8 => lgi 9 ls fun x9 => lgi 10 ls fun x10 => lgi 11 ls fun x11 => pe st (L_X11_bordersThatClose_65 N k25 n a0 x1 x2 x3 x4 x5 x6 x8 x9 x10 x11 g)) (kb pc 116 (lgr 0 ls fun a0 => lgi 1 ls fun x1 => lgi 2 ls fun x2 => lgi 3 ls fun x3 => lgi 4 ls fun x4 => lgi 8 ls fun x8 => lgi 9 ls fun x9 => lgi 10 ls fun x10 => pe st (J_X11_bordersThatClose_116 N k25 a0 x1 x2 x3 x4 x8 x9 x10 g)) (none)))) rfl (fun e => by cases e) (by decide) (rcI_ok rfl) ?_ (co_X11_bordersThatClose N q) lb_X11_bordersThatClose 3000 65 S_X11_bordersThatClose_65 _ _ h ls_X11_bordersThatClose_65 hf
    intro pc ls st g e
    rcases kb_s e with ⟨rfl, e⟩ | e
    · obtain ⟨a0, e0, f0⟩ := lgr_s e
      obtain ⟨x1, e1, f1⟩ := lgi_s f0
      obtain ⟨x2, e2, f2⟩ := lgi_s f1
      obtain ⟨x3, e3, f3⟩ := lgi_s f2
      obtain ⟨x4, e4, f4⟩ := lgi_s f3
      obtain ⟨x5, e5, f5⟩ := lgi_s f4
      obtain ⟨x6, e6, f6⟩ := lgi_s f5
      obtain ⟨x7, e7, f7⟩ := lgi_s f6
      obtain ⟨x8, e8, f8⟩ := lgi_s f7
      obtain ⟨qe, fe⟩ := pe_s f8
      subst qe
      exact MW.sub (List.forall_mem_cons.mpr ⟨lg_mem e0, List.forall_mem_cons.mpr ⟨lg_mem e1, List.forall_mem_cons.mpr ⟨lg_mem e2, List.forall_mem_cons.mpr ⟨lg_mem e3, List.forall_mem_cons.mpr ⟨lg_mem e4, List.forall_mem_cons.mpr ⟨lg_mem e5, List.forall_mem_cons.mpr ⟨lg_mem e6, List.forall_mem_cons.mpr ⟨lg_mem e7, List.forall_mem_cons.mpr ⟨lg_mem e8, fun _ h => absurd h List.not_mem_nil⟩⟩⟩⟩⟩⟩⟩⟩⟩) (hk25 a0 x1 x2 x3 x4 x5 x6 x7 x8 g fe)
    rcases kb_s e with ⟨rfl, e⟩ | e
    · obtain ⟨a0, e0, f0⟩ := lgr_s e
      obtain ⟨x1, e1, f1⟩ := lgi_s f0
      obtain ⟨x2, e2, f2⟩ := lgi_s f1
      obtain ⟨x3, e3, f3⟩ := lgi_s f2
      obtain ⟨x4, e4, f4⟩ := lgi_s f3
      obtain ⟨x5, e5, f5⟩ := lgi_s f4
      obtain ⟨x6, e6, f6⟩ := lgi_s f5
      obtain ⟨x8, e7, f7⟩ := lgi_s f6
      obtain ⟨x9, e8, f8⟩ := lgi_s f7
      obtain ⟨x10, e9, f9⟩ := lgi_s f8
      obtain ⟨x11, e10, f10⟩ := lgi_s f9
      obtain ⟨qe, fe⟩ := pe_s f10
      subst qe
      exact MW.sub (List.forall_mem_cons.mpr ⟨lg_mem e0, List.forall_mem_cons.mpr ⟨lg_mem e1, List.forall_mem_cons.mpr ⟨lg_mem e2, List.forall_mem_cons.mpr ⟨lg_mem e3, List.forall_mem_cons.mpr ⟨lg_mem e4, List.forall_mem_cons.mpr ⟨lg_mem e5, List.forall_mem_cons.mpr ⟨lg_mem e6, List.forall_mem_cons.mpr ⟨lg_mem e7, List.forall_mem_cons.mpr ⟨lg_mem e8, List.forall_mem_cons.mpr ⟨lg_mem e9, List.forall_mem_cons.mpr ⟨lg_mem e10, fun _ h => absurd h List.not_mem_nil⟩⟩⟩⟩⟩⟩⟩⟩⟩⟩⟩) (ih a0 x1 x2 x3 x4 x5 x6 x8 x9 x10 x11 g fe)
    rcases kb_s e with ⟨rfl, e⟩ | e
    · obtain ⟨a0, e0, f0⟩ := lgr_s e
      obtain ⟨x1, e1, f1⟩ := lgi_s f0
      obtain ⟨x2, e2, f2⟩ := lgi_s f1
      obtain ⟨x3, e3, f3⟩ := lgi_s f2
      obtain ⟨x4, e4, f4⟩ := lgi_s f3
      obtain ⟨x8, e5, f5⟩ := lgi_s f4
      obtain ⟨x9, e6, f6⟩ := lgi_s f5
      obtain ⟨x10, e7, f7⟩ := lgi_s f6
      obtain ⟨qe, fe⟩ := pe_s f7
      subst qe
      exact MW.sub (List.forall_mem_cons.mpr ⟨lg_mem e0, List.forall_mem_cons.mpr ⟨lg_mem e1, List.forall_mem_cons.mpr ⟨lg_mem e2, List.forall_mem_cons.mpr ⟨lg_mem e3, List.forall_mem_cons.mpr ⟨lg_mem e4, List.forall_mem_cons.mpr ⟨lg_mem e5, List.forall_mem_cons.mpr ⟨lg_mem e6, List.forall_mem_cons.mpr ⟨lg_mem e7, fun _ h => absurd h List.not_mem_nil⟩⟩⟩⟩⟩⟩⟩⟩) (t_X11_bordersThatClose_116 N hk25 a0 x1 x2 x3 x4 x8 x9 x10 g fe)
    cases e
set_option maxRecDepth 100000 in
theorem t_X11_bordersThatClose_25 {X : Nat × (Nat → Int32)} (N : Nat) {q : Int32 × mH} : ∀ (n : Nat) (a0 : Nat) (x1 : Int32) (x2 : Int32) (x3 : Int32) (x4 : Int32) (x5 : Int32) (x6 : Int32) (x7 : Int32) (x8 : Int32) (h : mH), L_X11_bordersThatClose_25 N n a0 x1 x2 x3 x4 x5 x6 x7 x8 h = some q → MW X y_X11_bordersThatClose 6 25 [(0, .ref a0), (1, .int x1), (2, .int x2), (3, .int x3), (4, .int x4), (5, .int x5), (6, .int x6), (7, .int x7), (8, .int x8)] [] h (some (.int q.1)) q.2 := by
  intro n
  induction n with
  | zero => intro a0 x1 x2 x3 x4 x5 x6 x7 x8 h hf; cases hf
  | succ n ih =>
    intro a0 x1 x2 x3 x4 x5 x6 x7 x8 h hf
    refine ev_ok (o := 11) (ini := false) (Cl := C_X11_bordersThatClose N) (Rc := RcI) (B := B_X11_bordersThatClose) (K := fun pc ls st g => kb pc 25 (lgr 0 ls fun a0 => lgi 1 ls fun x1 => lgi 2 ls fun x2 => lgi 3 ls fun x3 => lgi 4 ls fun x4 => lgi 5 ls fun x5 => lgi 6 ls fun x6 => lgi 7 ls fun x7 => lgi 8 ls fun x8 => pe st (L_X11_bordersThatClose_25 N n a0 x1 x2 x3 x4 x5 x6 x7 x8 g)) (kb pc 65 (lgr 0 ls fun a0 => lgi 1 ls fun x1 => lgi 2 ls fun x2 => lgi 3 ls fun x3 => lgi 4 ls fun x4 => lgi 5 ls fun x5 => lgi 6 ls fun x6 => lgi 8 ls fun x8 => lgi 9 ls fun x9 => lgi 10 ls fun x10 => lgi 11 ls fun x11 => pe st (L_X11_bordersThatClose_65 N (L_X11_bordersThatClose_25 N n) N a0 x1 x2 x3 x4 x5 x6 x8 x9 x10 x11 g)) (none))) rfl (fun e => by cases e) (by decide) (rcI_ok rfl) ?_ (co_X11_bordersThatClose N q) lb_X11_bordersThatClose 3000 25 S_X11_bordersThatClose_25 _ _ h ls_X11_bordersThatClose_25 hf
    intro pc ls st g e
    rcases kb_s e with ⟨rfl, e⟩ | e
    · obtain ⟨a0, e0, f0⟩ := lgr_s e
      obtain ⟨x1, e1, f1⟩ := lgi_s f0
      obtain ⟨x2, e2, f2⟩ := lgi_s f1
      obtain ⟨x3, e3, f3⟩ := lgi_s f2
      obtain ⟨x4, e4, f4⟩ := lgi_s f3
      obtain ⟨x5, e5, f5⟩ := lgi_s f4
      obtain ⟨x6, e6, f6⟩ := lgi_s f5
      obtain ⟨x7, e7, f7⟩ := lgi_s f6
      obtain ⟨x8, e8, f8⟩ := lgi_s f7
      obtain ⟨qe, fe⟩ := pe_s f8
      subst qe
      exact MW.sub (List.forall_mem_cons.mpr ⟨lg_mem e0, List.forall_mem_cons.mpr ⟨lg_mem e1, List.forall_mem_cons.mpr ⟨lg_mem e2, List.forall_mem_cons.mpr ⟨lg_mem e3, List.forall_mem_cons.mpr ⟨lg_mem e4, List.forall_mem_cons.mpr ⟨lg_mem e5, List.forall_mem_cons.mpr ⟨lg_mem e6, List.forall_mem_cons.mpr ⟨lg_mem e7, List.forall_mem_cons.mpr ⟨lg_mem e8, fun _ h => absurd h List.not_mem_nil⟩⟩⟩⟩⟩⟩⟩⟩⟩) (ih a0 x1 x2 x3 x4 x5 x6 x7 x8 g fe)
    rcases kb_s e with ⟨rfl, e⟩ | e
    · obtain ⟨a0, e0, f0⟩ := lgr_s e
      obtain ⟨x1, e1, f1⟩ := lgi_s f0
      obtain ⟨x2, e2, f2⟩ := lgi_s f1
      obtain ⟨x3, e3, f3⟩ := lgi_s f2
      obtain ⟨x4, e4, f4⟩ := lgi_s f3
      obtain ⟨x5, e5, f5⟩ := lgi_s f4
      obtain ⟨x6, e6, f6⟩ := lgi_s f5
      obtain ⟨x8, e7, f7⟩ := lgi_s f6
      obtain ⟨x9, e8, f8⟩ := lgi_s f7
      obtain ⟨x10, e9, f9⟩ := lgi_s f8
      obtain ⟨x11, e10, f10⟩ := lgi_s f9
      obtain ⟨qe, fe⟩ := pe_s f10
      subst qe
      exact MW.sub (List.forall_mem_cons.mpr ⟨lg_mem e0, List.forall_mem_cons.mpr ⟨lg_mem e1, List.forall_mem_cons.mpr ⟨lg_mem e2, List.forall_mem_cons.mpr ⟨lg_mem e3, List.forall_mem_cons.mpr ⟨lg_mem e4, List.forall_mem_cons.mpr ⟨lg_mem e5, List.forall_mem_cons.mpr ⟨lg_mem e6, List.forall_mem_cons.mpr ⟨lg_mem e7, List.forall_mem_cons.mpr ⟨lg_mem e8, List.forall_mem_cons.mpr ⟨lg_mem e9, List.forall_mem_cons.mpr ⟨lg_mem e10, fun _ h => absurd h List.not_mem_nil⟩⟩⟩⟩⟩⟩⟩⟩⟩⟩⟩) (t_X11_bordersThatClose_65 N (fun a0 x1 x2 x3 x4 x5 x6 x7 x8 g e => ih a0 x1 x2 x3 x4 x5 x6 x7 x8 g e) N a0 x1 x2 x3 x4 x5 x6 x8 x9 x10 x11 g fe)
    cases e
set_option maxRecDepth 100000 in
theorem m_X11_bordersThatClose (N : Nat) {a0 : Nat} {x1 : Int32} {x2 : Int32} {x3 : Int32} {h : mH} {q : Int32 × mH} (hf : f_X11_bordersThatClose N a0 x1 x2 x3 h = some q) : MM y_X11_bordersThatClose 6 [.ref a0, .int x1, .int x2, .int x3] h (some (.int q.1)) q.2 := by
  refine MM.of (mFx (j := 218) rfl).2.2.2.1 (Nat.le_of_ble_eq_true rfl) (fun X => ?_)
  refine ev_ok (o := 11) (ini := false) (Cl := C_X11_bordersThatClose N) (Rc := RcI) (B := B_X11_bordersThatClose) (K := fun pc ls st g => kb pc 25 (lgr 0 ls fun a0 => lgi 1 ls fun x1 => lgi 2 ls fun x2 => lgi 3 ls fun x3 => lgi 4 ls fun x4 => lgi 5 ls fun x5 => lgi 6 ls fun x6 => lgi 7 ls fun x7 => lgi 8 ls fun x8 => pe st (L_X11_bordersThatClose_25 N N a0 x1 x2 x3 x4 x5 x6 x7 x8 g)) (none)) rfl (fun e => by cases e) (by decide) (rcI_ok rfl) ?_ (co_X11_bordersThatClose N q) lb_X11_bordersThatClose 3000 0 S_X11_bordersThatClose_0 _ _ h ls_X11_bordersThatClose_0 hf
  intro pc ls st g e
  rcases kb_s e with ⟨rfl, e⟩ | e
  · obtain ⟨a0, e0, f0⟩ := lgr_s e
    obtain ⟨x1, e1, f1⟩ := lgi_s f0
    obtain ⟨x2, e2, f2⟩ := lgi_s f1
    obtain ⟨x3, e3, f3⟩ := lgi_s f2
    obtain ⟨x4, e4, f4⟩ := lgi_s f3
    obtain ⟨x5, e5, f5⟩ := lgi_s f4
    obtain ⟨x6, e6, f6⟩ := lgi_s f5
    obtain ⟨x7, e7, f7⟩ := lgi_s f6
    obtain ⟨x8, e8, f8⟩ := lgi_s f7
    obtain ⟨qe, fe⟩ := pe_s f8
    subst qe
    exact MW.sub (List.forall_mem_cons.mpr ⟨lg_mem e0, List.forall_mem_cons.mpr ⟨lg_mem e1, List.forall_mem_cons.mpr ⟨lg_mem e2, List.forall_mem_cons.mpr ⟨lg_mem e3, List.forall_mem_cons.mpr ⟨lg_mem e4, List.forall_mem_cons.mpr ⟨lg_mem e5, List.forall_mem_cons.mpr ⟨lg_mem e6, List.forall_mem_cons.mpr ⟨lg_mem e7, List.forall_mem_cons.mpr ⟨lg_mem e8, fun _ h => absurd h List.not_mem_nil⟩⟩⟩⟩⟩⟩⟩⟩⟩) (t_X11_bordersThatClose_25 N N a0 x1 x2 x3 x4 x5 x6 x7 x8 g fe)
  cases e
def f_X11_border (N : Nat) (a0 : Nat) (x1 : Int32) (x2 : Int32) (x3 : Int32) (h : mH) : Option (Int32 × mH) :=
  (gR h 11 a0 2).bind fun v1 =>
  (gI h 0 v1 0).bind fun v2 =>
  if v2 = 0 then
    (rcv h 11 a0).bind fun _ =>
    (f_X11_refuse N a0 (jI (-5)) h).bind fun p3 =>
    some (p3.1, p3.2)
  else
    if x1 < (jI 1) then
      (rcv h 11 a0).bind fun _ =>
      (f_X11_refuse N a0 (jI (-3)) h).bind fun p4 =>
      some (p4.1, p4.2)
    else
      if (jI 4) < x1 then
        (rcv h 11 a0).bind fun _ =>
        (f_X11_refuse N a0 (jI (-3)) h).bind fun p5 =>
        some (p5.1, p5.2)
      else
        if x2 < (jI 1) then
          (rcv h 11 a0).bind fun _ =>
          (f_X11_refuse N a0 (jI (-3)) h).bind fun p6 =>
          some (p6.1, p6.2)
        else
          if (jI 6) < x2 then
            (rcv h 11 a0).bind fun _ =>
            (f_X11_refuse N a0 (jI (-3)) h).bind fun p7 =>
            some (p7.1, p7.2)
          else
            (gR h 11 a0 2).bind fun v8 =>
            (gI h 0 v8 0).bind fun v9 =>
            if x2 < v9 then
              if x3 < 0 then
                (rcv h 11 a0).bind fun _ =>
                (f_X11_refuse N a0 (jI (-2)) h).bind fun p10 =>
                some (p10.1, p10.2)
              else
                if (jI 2) < x3 then
                  (rcv h 11 a0).bind fun _ =>
                  (f_X11_refuse N a0 (jI (-2)) h).bind fun p11 =>
                  some (p11.1, p11.2)
                else
                  (rcv h 11 a0).bind fun _ =>
                  (f_X11_bordersThatClose N a0 x1 x2 x3 h).bind fun p12 =>
                  some (p12.1, p12.2)
            else
              (rcv h 11 a0).bind fun _ =>
              (f_X11_refuse N a0 (jI (-3)) h).bind fun p13 =>
              some (p13.1, p13.2)
def y_X11_border : mM := (yX11_border, cX11_border, 4, (some .int))
def B_X11_border : List (Nat × List mI) := [(17, [(.iload_n 1, 1, [1], []), (.iconst 1, 1, [], [1]), (.if_icmp .lt 30, 3, [49], []), (.iload_n 1, 1, [1], []), (.iconst 4, 1, [], [4]), (.if_icmp .gt 25, 3, [49], []), (.iload_n 2, 1, [2], []), (.iconst 1, 1, [], [1]), (.if_icmp .lt 20, 3, [49], []), (.iload_n 2, 1, [2], []), (.bipush 6, 2, [], [6]), (.if_icmp .gt 14, 3, [49], []), (.iload_n 2, 1, [2], []), (.aload_n 0, 1, [0], []), (.getfield 16, 3, [11, 2, 2, 111], []), (.getfield 254, 3, [0, 0, 0, 3], []), (.if_icmp .lt 10, 3, [56], [])]), (49, [(.aload_n 0, 1, [0], []), (.bipush (-3), 2, [], [-3]), (.invokevirtual 109, 3, [0, 203, 1, 11, 10], []), (.ireturn, 1, [], [])]), (56, [(.iload_n 3, 1, [3], []), (.ifCond .lt 8, 3, [65], []), (.iload_n 3, 1, [3], []), (.iconst 2, 1, [], [2]), (.if_icmp .le 10, 3, [72], [])]), (65, [(.aload_n 0, 1, [0], []), (.bipush (-2), 2, [], [-2]), (.invokevirtual 109, 3, [0, 203, 1, 11, 10], []), (.ireturn, 1, [], [])]), (72, [(.aload_n 0, 1, [0], []), (.iload_n 1, 1, [1], []), (.iload_n 2, 1, [2], []), (.iload_n 3, 1, [3], []), (.invokevirtual 385, 3, [0, 218, 3, 11, 234], []), (.ireturn, 1, [], [])])]
def S_X11_border_0 : List mI := [(.aload_n 0, 1, [0], []), (.getfield 16, 3, [11, 2, 2, 111], []), (.getfield 254, 3, [0, 0, 0, 3], []), (.ifCond .ne 10, 3, [17], []), (.aload_n 0, 1, [0], []), (.bipush (-5), 2, [], [-5]), (.invokevirtual 109, 3, [0, 203, 1, 11, 10], []), (.ireturn, 1, [], [])]
theorem lb_X11_border : B_X11_border.all (fun b => lst y_X11_border.2.1 11 y_X11_border.2.2.1 false b.1 b.2) = true := by decide +kernel
theorem ls_X11_border_0 : lst y_X11_border.2.1 11 y_X11_border.2.2.1 false 0 S_X11_border_0 = true := by decide +kernel
def C_X11_border (N : Nat) : Nat → List Value → mH → (Option Value → mH → Option (Int32 × mH)) → Option (Int32 × mH) := fun j as g k => kb j 203 (pr1 as fun b0 as => pp1 as fun b1 as => pe as ((f_X11_refuse N b0 b1 g).bind fun p => k (some (.int p.1)) p.2)) (kb j 218 (pr1 as fun b0 as => pp1 as fun b1 as => pp1 as fun b2 as => pp1 as fun b3 as => pe as ((f_X11_bordersThatClose N b0 b1 b2 b3 g).bind fun p => k (some (.int p.1)) p.2)) (none))
theorem co_X11_border (N : Nat) (q : Int32 × mH) : clOK 7 q (C_X11_border N) := by
  intro j as g k e
  rcases kb_s e with ⟨rfl, e⟩ | e
  · obtain ⟨b0, r0, q0, f0⟩ := pr1_s e
    obtain ⟨b1, r1, q1, f1⟩ := pp1_s f0
    obtain ⟨qe, fe⟩ := pe_s f1
    obtain ⟨p, e1, e2⟩ := bnd_s fe
    subst qe
    subst q1
    subst q0
    exact ⟨_, _, _, _, 4, rfl, (by decide), m_X11_refuse N e1, e2⟩
  rcases kb_s e with ⟨rfl, e⟩ | e
  · obtain ⟨b0, r0, q0, f0⟩ := pr1_s e
    obtain ⟨b1, r1, q1, f1⟩ := pp1_s f0
    obtain ⟨b2, r2, q2, f2⟩ := pp1_s f1
    obtain ⟨b3, r3, q3, f3⟩ := pp1_s f2
    obtain ⟨qe, fe⟩ := pe_s f3
    obtain ⟨p, e1, e2⟩ := bnd_s fe
    subst qe
    subst q3
    subst q2
    subst q1
    subst q0
    exact ⟨_, _, _, _, 6, rfl, (by decide), m_X11_bordersThatClose N e1, e2⟩
  cases e
set_option maxRecDepth 100000 in
theorem m_X11_border (N : Nat) {a0 : Nat} {x1 : Int32} {x2 : Int32} {x3 : Int32} {h : mH} {q : Int32 × mH} (hf : f_X11_border N a0 x1 x2 x3 h = some q) : MM y_X11_border 7 [.ref a0, .int x1, .int x2, .int x3] h (some (.int q.1)) q.2 := by
  refine MM.of (mFx (j := 192) rfl).2.2.2.1 (Nat.le_of_ble_eq_true rfl) (fun X => ?_)
  refine ev_ok (o := 11) (ini := false) (Cl := C_X11_border N) (Rc := RcI) (B := B_X11_border) (K := fun pc ls st g => none) rfl (fun e => by cases e) (by decide) (rcI_ok rfl) ?_ (co_X11_border N q) lb_X11_border 3000 0 S_X11_border_0 _ _ h ls_X11_border_0 hf
  intro pc ls st g e
  cases e
def f_X11_ways (N : Nat) (a0 : Nat) (x1 : Int32) (x2 : Int32) (h : mH) : Option (Int32 × mH) :=
  (gR h 11 a0 9).bind fun v1 =>
  (rcv h 3 v1).bind fun _ =>
  (f_X3_isHand N v1 x1 h).bind fun p2 =>
  if p2.1 = 0 then
    (rcv p2.2 11 a0).bind fun _ =>
    (f_X11_refuse N a0 (jI (-2)) p2.2).bind fun p3 =>
    some (p3.1, p3.2)
  else
    if x2 < (jI (-1)) then
      (rcv p2.2 11 a0).bind fun _ =>
      (f_X11_refuse N a0 (jI (-3)) p2.2).bind fun p4 =>
      some (p4.1, p4.2)
    else
      if (jI 255) < x2 then
        (rcv p2.2 11 a0).bind fun _ =>
        (f_X11_refuse N a0 (jI (-3)) p2.2).bind fun p5 =>
        some (p5.1, p5.2)
      else
        (gR p2.2 11 a0 9).bind fun v6 =>
        (rcv p2.2 3 v6).bind fun _ =>
        (f_X3_tell N v6 x1 x2 p2.2).bind fun p7 =>
        some (p7.1, p7.2)
def y_X11_ways : mM := (yX11_ways, cX11_ways, 3, (some .int))
def B_X11_ways : List (Nat × List mI) := [(18, [(.iload_n 2, 1, [2], []), (.iconst (-1), 1, [], [-1]), (.if_icmp .lt 10, 3, [30], []), (.iload_n 2, 1, [2], []), (.sipush 255, 3, [], [255]), (.if_icmp .le 10, 3, [37], [])]), (30, [(.aload_n 0, 1, [0], []), (.bipush (-3), 2, [], [-3]), (.invokevirtual 109, 3, [0, 203, 1, 11, 10], []), (.ireturn, 1, [], [])]), (37, [(.aload_n 0, 1, [0], []), (.getfield 59, 3, [11, 9, 2, 118], []), (.iload_n 1, 1, [1], []), (.iload_n 2, 1, [2], []), (.invokevirtual 391, 3, [0, 65, 2, 3, 239], []), (.ireturn, 1, [], [])])]
def S_X11_ways_0 : List mI := [(.aload_n 0, 1, [0], []), (.getfield 59, 3, [11, 9, 2, 118], []), (.iload_n 1, 1, [1], []), (.invokevirtual 388, 3, [0, 63, 1, 3, 238], []), (.ifCond .ne 10, 3, [18], []), (.aload_n 0, 1, [0], []), (.bipush (-2), 2, [], [-2]), (.invokevirtual 109, 3, [0, 203, 1, 11, 10], []), (.ireturn, 1, [], [])]
theorem lb_X11_ways : B_X11_ways.all (fun b => lst y_X11_ways.2.1 11 y_X11_ways.2.2.1 false b.1 b.2) = true := by decide +kernel
theorem ls_X11_ways_0 : lst y_X11_ways.2.1 11 y_X11_ways.2.2.1 false 0 S_X11_ways_0 = true := by decide +kernel
def C_X11_ways (N : Nat) : Nat → List Value → mH → (Option Value → mH → Option (Int32 × mH)) → Option (Int32 × mH) := fun j as g k => kb j 63 (pr1 as fun b0 as => pp1 as fun b1 as => pe as ((f_X3_isHand N b0 b1 g).bind fun p => k (some (.int p.1)) p.2)) (kb j 203 (pr1 as fun b0 as => pp1 as fun b1 as => pe as ((f_X11_refuse N b0 b1 g).bind fun p => k (some (.int p.1)) p.2)) (kb j 65 (pr1 as fun b0 as => pp1 as fun b1 as => pp1 as fun b2 as => pe as ((f_X3_tell N b0 b1 b2 g).bind fun p => k (some (.int p.1)) p.2)) (none)))
theorem co_X11_ways (N : Nat) (q : Int32 × mH) : clOK 6 q (C_X11_ways N) := by
  intro j as g k e
  rcases kb_s e with ⟨rfl, e⟩ | e
  · obtain ⟨b0, r0, q0, f0⟩ := pr1_s e
    obtain ⟨b1, r1, q1, f1⟩ := pp1_s f0
    obtain ⟨qe, fe⟩ := pe_s f1
    obtain ⟨p, e1, e2⟩ := bnd_s fe
    subst qe
    subst q1
    subst q0
    exact ⟨_, _, _, _, 4, rfl, (by decide), m_X3_isHand N e1, e2⟩
  rcases kb_s e with ⟨rfl, e⟩ | e
  · obtain ⟨b0, r0, q0, f0⟩ := pr1_s e
    obtain ⟨b1, r1, q1, f1⟩ := pp1_s f0
    obtain ⟨qe, fe⟩ := pe_s f1
    obtain ⟨p, e1, e2⟩ := bnd_s fe
    subst qe
    subst q1
    subst q0
    exact ⟨_, _, _, _, 4, rfl, (by decide), m_X11_refuse N e1, e2⟩
  rcases kb_s e with ⟨rfl, e⟩ | e
  · obtain ⟨b0, r0, q0, f0⟩ := pr1_s e
    obtain ⟨b1, r1, q1, f1⟩ := pp1_s f0
    obtain ⟨b2, r2, q2, f2⟩ := pp1_s f1
    obtain ⟨qe, fe⟩ := pe_s f2
    obtain ⟨p, e1, e2⟩ := bnd_s fe
    subst qe
    subst q2
    subst q1
    subst q0
    exact ⟨_, _, _, _, 5, rfl, (by decide), m_X3_tell N e1, e2⟩
  cases e
set_option maxRecDepth 100000 in
theorem m_X11_ways (N : Nat) {a0 : Nat} {x1 : Int32} {x2 : Int32} {h : mH} {q : Int32 × mH} (hf : f_X11_ways N a0 x1 x2 h = some q) : MM y_X11_ways 6 [.ref a0, .int x1, .int x2] h (some (.int q.1)) q.2 := by
  refine MM.of (mFx (j := 193) rfl).2.2.2.1 (Nat.le_of_ble_eq_true rfl) (fun X => ?_)
  refine ev_ok (o := 11) (ini := false) (Cl := C_X11_ways N) (Rc := RcI) (B := B_X11_ways) (K := fun pc ls st g => none) rfl (fun e => by cases e) (by decide) (rcI_ok rfl) ?_ (co_X11_ways N q) lb_X11_ways 3000 0 S_X11_ways_0 _ _ h ls_X11_ways_0 hf
  intro pc ls st g e
  cases e
def f_X11_taught (N : Nat) (a0 : Nat) (x1 : Int32) (h : mH) : Option (Int32 × mH) :=
  if x1 = (jI (-1)) then
    (gR h 11 a0 9).bind fun v1 =>
    (rcv h 3 v1).bind fun _ =>
    (f_X3_teachAll N v1 h).bind fun p2 =>
    some (p2.1, p2.2)
  else
    (gR h 11 a0 9).bind fun v3 =>
    (rcv h 3 v3).bind fun _ =>
    (f_X3_isTold N v3 x1 h).bind fun p4 =>
    if p4.1 = 0 then
      (rcv p4.2 11 a0).bind fun _ =>
      (f_X11_refuse N a0 (jI (-2)) p4.2).bind fun p5 =>
      some (p5.1, p5.2)
    else
      (gR p4.2 11 a0 9).bind fun v6 =>
      (rcv p4.2 3 v6).bind fun _ =>
      (f_X3_teachAll N v6 p4.2).bind fun p7 =>
      (gR p7.2 11 a0 9).bind fun v8 =>
      (rcv p7.2 3 v8).bind fun _ =>
      (f_X3_teacherOf N v8 x1 p7.2).bind fun p9 =>
      some (p9.1, p9.2)
def y_X11_taught : mM := (yX11_taught, cX11_taught, 2, (some .int))
def B_X11_taught : List (Nat × List mI) := [(13, [(.aload_n 0, 1, [0], []), (.getfield 59, 3, [11, 9, 2, 118], []), (.iload_n 1, 1, [1], []), (.invokevirtual 397, 3, [0, 64, 1, 3, 246], []), (.ifCond .ne 10, 3, [31], []), (.aload_n 0, 1, [0], []), (.bipush (-2), 2, [], [-2]), (.invokevirtual 109, 3, [0, 203, 1, 11, 10], []), (.ireturn, 1, [], [])]), (31, [(.aload_n 0, 1, [0], []), (.getfield 59, 3, [11, 9, 2, 118], []), (.invokevirtual 394, 3, [0, 67, 0, 3, 242], []), (.pop, 1, [], []), (.aload_n 0, 1, [0], []), (.getfield 59, 3, [11, 9, 2, 118], []), (.iload_n 1, 1, [1], []), (.invokevirtual 400, 3, [0, 66, 1, 3, 247], []), (.ireturn, 1, [], [])])]
def S_X11_taught_0 : List mI := [(.iload_n 1, 1, [1], []), (.iconst (-1), 1, [], [-1]), (.if_icmp .ne 11, 3, [13], []), (.aload_n 0, 1, [0], []), (.getfield 59, 3, [11, 9, 2, 118], []), (.invokevirtual 394, 3, [0, 67, 0, 3, 242], []), (.ireturn, 1, [], [])]
theorem lb_X11_taught : B_X11_taught.all (fun b => lst y_X11_taught.2.1 11 y_X11_taught.2.2.1 false b.1 b.2) = true := by decide +kernel
theorem ls_X11_taught_0 : lst y_X11_taught.2.1 11 y_X11_taught.2.2.1 false 0 S_X11_taught_0 = true := by decide +kernel
def C_X11_taught (N : Nat) : Nat → List Value → mH → (Option Value → mH → Option (Int32 × mH)) → Option (Int32 × mH) := fun j as g k => kb j 67 (pr1 as fun b0 as => pe as ((f_X3_teachAll N b0 g).bind fun p => k (some (.int p.1)) p.2)) (kb j 64 (pr1 as fun b0 as => pp1 as fun b1 as => pe as ((f_X3_isTold N b0 b1 g).bind fun p => k (some (.int p.1)) p.2)) (kb j 203 (pr1 as fun b0 as => pp1 as fun b1 as => pe as ((f_X11_refuse N b0 b1 g).bind fun p => k (some (.int p.1)) p.2)) (kb j 66 (pr1 as fun b0 as => pp1 as fun b1 as => pe as ((f_X3_teacherOf N b0 b1 g).bind fun p => k (some (.int p.1)) p.2)) (none))))
theorem co_X11_taught (N : Nat) (q : Int32 × mH) : clOK 8 q (C_X11_taught N) := by
  intro j as g k e
  rcases kb_s e with ⟨rfl, e⟩ | e
  · obtain ⟨b0, r0, q0, f0⟩ := pr1_s e
    obtain ⟨qe, fe⟩ := pe_s f0
    obtain ⟨p, e1, e2⟩ := bnd_s fe
    subst qe
    subst q0
    exact ⟨_, _, _, _, 7, rfl, (by decide), m_X3_teachAll N e1, e2⟩
  rcases kb_s e with ⟨rfl, e⟩ | e
  · obtain ⟨b0, r0, q0, f0⟩ := pr1_s e
    obtain ⟨b1, r1, q1, f1⟩ := pp1_s f0
    obtain ⟨qe, fe⟩ := pe_s f1
    obtain ⟨p, e1, e2⟩ := bnd_s fe
    subst qe
    subst q1
    subst q0
    exact ⟨_, _, _, _, 5, rfl, (by decide), m_X3_isTold N e1, e2⟩
  rcases kb_s e with ⟨rfl, e⟩ | e
  · obtain ⟨b0, r0, q0, f0⟩ := pr1_s e
    obtain ⟨b1, r1, q1, f1⟩ := pp1_s f0
    obtain ⟨qe, fe⟩ := pe_s f1
    obtain ⟨p, e1, e2⟩ := bnd_s fe
    subst qe
    subst q1
    subst q0
    exact ⟨_, _, _, _, 4, rfl, (by decide), m_X11_refuse N e1, e2⟩
  rcases kb_s e with ⟨rfl, e⟩ | e
  · obtain ⟨b0, r0, q0, f0⟩ := pr1_s e
    obtain ⟨b1, r1, q1, f1⟩ := pp1_s f0
    obtain ⟨qe, fe⟩ := pe_s f1
    obtain ⟨p, e1, e2⟩ := bnd_s fe
    subst qe
    subst q1
    subst q0
    exact ⟨_, _, _, _, 5, rfl, (by decide), m_X3_teacherOf N e1, e2⟩
  cases e
set_option maxRecDepth 100000 in
theorem m_X11_taught (N : Nat) {a0 : Nat} {x1 : Int32} {h : mH} {q : Int32 × mH} (hf : f_X11_taught N a0 x1 h = some q) : MM y_X11_taught 8 [.ref a0, .int x1] h (some (.int q.1)) q.2 := by
  refine MM.of (mFx (j := 194) rfl).2.2.2.1 (Nat.le_of_ble_eq_true rfl) (fun X => ?_)
  refine ev_ok (o := 11) (ini := false) (Cl := C_X11_taught N) (Rc := RcI) (B := B_X11_taught) (K := fun pc ls st g => none) rfl (fun e => by cases e) (by decide) (rcI_ok rfl) ?_ (co_X11_taught N q) lb_X11_taught 3000 0 S_X11_taught_0 _ _ h ls_X11_taught_0 hf
  intro pc ls st g e
  cases e
def f_X11_lid (N : Nat) (a0 : Nat) (x1 : Int32) (x2 : Int32) (x3 : Int32) (x4 : Int32) (x5 : Int32) (h : mH) : Option (Int32 × mH) :=
  (gR h 11 a0 2).bind fun v1 =>
  (rcv h 0 v1).bind fun _ =>
  (f_X0_hasKind N v1 x1 h).bind fun p2 =>
  if p2.1 = 0 then
    (rcv p2.2 11 a0).bind fun _ =>
    (f_X11_refuse N a0 (jI (-2)) p2.2).bind fun p3 =>
    some (p3.1, p3.2)
  else
    (gR p2.2 11 a0 2).bind fun v4 =>
    (rcv p2.2 0 v4).bind fun _ =>
    (f_X0_hasKind N v4 x2 p2.2).bind fun p5 =>
    if p5.1 = 0 then
      (rcv p5.2 11 a0).bind fun _ =>
      (f_X11_refuse N a0 (jI (-2)) p5.2).bind fun p6 =>
      some (p6.1, p6.2)
    else
      if x5 < 0 then
        (rcv p5.2 11 a0).bind fun _ =>
        (f_X11_refuse N a0 (jI (-2)) p5.2).bind fun p7 =>
        some (p7.1, p7.2)
      else
        if (jI 2) < x5 then
          (rcv p5.2 11 a0).bind fun _ =>
          (f_X11_refuse N a0 (jI (-2)) p5.2).bind fun p8 =>
          some (p8.1, p8.2)
        else
          if x3 < (jI 1) then
            (rcv p5.2 11 a0).bind fun _ =>
            (f_X11_refuse N a0 (jI (-3)) p5.2).bind fun p9 =>
            some (p9.1, p9.2)
          else
            if (jI 1500) < x3 then
              (rcv p5.2 11 a0).bind fun _ =>
              (f_X11_refuse N a0 (jI (-3)) p5.2).bind fun p10 =>
              some (p10.1, p10.2)
            else
              if x4 < (jI 1) then
                (rcv p5.2 11 a0).bind fun _ =>
                (f_X11_refuse N a0 (jI (-3)) p5.2).bind fun p11 =>
                some (p11.1, p11.2)
              else
                if (jI 99) < x4 then
                  (rcv p5.2 11 a0).bind fun _ =>
                  (f_X11_refuse N a0 (jI (-3)) p5.2).bind fun p12 =>
                  some (p12.1, p12.2)
                else
                  (gR p5.2 11 a0 2).bind fun v13 =>
                  (rcv p5.2 0 v13).bind fun _ =>
                  (f_X0_driesTo N v13 x2 p5.2).bind fun p14 =>
                  if (jI 100) = 0 then none else
                  let w15 := iDiv (iMul x3 p14.1) (jI 100)
                  (gR p14.2 11 a0 2).bind fun v16 =>
                  (rcv p14.2 0 v16).bind fun _ =>
                  (f_X0_driesTo N v16 x1 p14.2).bind fun p17 =>
                  if p17.1 < (jI 1) then
                    if x5 = (jI 2) then
                      some (jI 0, p17.2)
                    else
                      some (jI (-1), p17.2)
                  else
                    if p17.1 = 0 then none else
                    let w18 := iDiv (iSub (iAdd (iMul (jI 100) (iAdd w15 (jI 1))) p17.1) (jI 1)) p17.1
                    if p17.1 = 0 then none else
                    let w19 := iMin (jI 2000) (iDiv (iSub (iMul (jI 100) (iAdd (iAdd w15 x4) (jI 1))) (jI 1)) p17.1)
                    if w19 < w18 then
                      if x5 = (jI 2) then
                        some (jI 0, p17.2)
                      else
                        some (jI (-1), p17.2)
                    else
                      if x5 = jI 0 then
                        some (w18, p17.2)
                      else
                      if x5 = jI 1 then
                        some (w19, p17.2)
                      else
                      some (iAdd (iSub w19 w18) (jI 1), p17.2)
def y_X11_lid : mM := (yX11_lid, cX11_lid, 10, (some .int))
def B_X11_lid : List (Nat × List mI) := [(33, [(.aload_n 0, 1, [0], []), (.bipush (-2), 2, [], [-2]), (.invokevirtual 109, 3, [0, 203, 1, 11, 10], []), (.ireturn, 1, [], [])]), (40, [(.iload_n 3, 1, [3], []), (.iconst 1, 1, [], [1]), (.if_icmp .lt 23, 3, [65], []), (.iload_n 3, 1, [3], []), (.sipush 1500, 3, [], [1500]), (.if_icmp .gt 16, 3, [65], []), (.iload 4, 2, [4], []), (.iconst 1, 1, [], [1]), (.if_icmp .lt 10, 3, [65], []), (.iload 4, 2, [4], []), (.bipush 99, 2, [], [99]), (.if_icmp .le 10, 3, [72], [])]), (65, [(.aload_n 0, 1, [0], []), (.bipush (-3), 2, [], [-3]), (.invokevirtual 109, 3, [0, 203, 1, 11, 10], []), (.ireturn, 1, [], [])]), (72, [(.iload_n 3, 1, [3], []), (.aload_n 0, 1, [0], []), (.getfield 16, 3, [11, 2, 2, 111], []), (.iload_n 2, 1, [2], []), (.invokevirtual 403, 3, [0, 32, 1, 0, 249], []), (.imul, 1, [], []), (.bipush 100, 2, [], [100]), (.idiv, 1, [], []), (.istore 6, 2, [6], []), (.aload_n 0, 1, [0], []), (.getfield 16, 3, [11, 2, 2, 111], []), (.iload_n 1, 1, [1], []), (.invokevirtual 403, 3, [0, 32, 1, 0, 249], []), (.istore 7, 2, [7], []), (.iload 7, 2, [7], []), (.iconst 1, 1, [], [1]), (.if_icmp .ge 15, 3, [115], []), (.iload 5, 2, [5], []), (.iconst 2, 1, [], [2]), (.if_icmp .ne 7, 3, [113], []), (.iconst 0, 1, [], [0]), (.goto 4, 3, [114], [])]), (113, [(.iconst (-1), 1, [], [-1])]), (114, [(.ireturn, 1, [], [])]), (115, [(.bipush 100, 2, [], [100]), (.iload 6, 2, [6], []), (.iconst 1, 1, [], [1]), (.iadd, 1, [], []), (.imul, 1, [], []), (.iload 7, 2, [7], []), (.iadd, 1, [], []), (.iconst 1, 1, [], [1]), (.isub, 1, [], []), (.iload 7, 2, [7], []), (.idiv, 1, [], []), (.istore 8, 2, [8], []), (.sipush 2000, 3, [], [2000]), (.bipush 100, 2, [], [100]), (.iload 6, 2, [6], []), (.iload 4, 2, [4], []), (.iadd, 1, [], []), (.iconst 1, 1, [], [1]), (.iadd, 1, [], []), (.imul, 1, [], []), (.iconst 1, 1, [], [1]), (.isub, 1, [], []), (.iload 7, 2, [7], []), (.idiv, 1, [], []), (.invokestatic 406, 3, [7, 0, 0, 0, 34], []), (.istore 9, 2, [9], []), (.iload 8, 2, [8], []), (.iload 9, 2, [9], []), (.if_icmp .le 15, 3, [174], []), (.iload 5, 2, [5], []), (.iconst 2, 1, [], [2]), (.if_icmp .ne 7, 3, [172], []), (.iconst 0, 1, [], [0]), (.goto 4, 3, [173], [])]), (172, [(.iconst (-1), 1, [], [-1])]), (173, [(.ireturn, 1, [], [])]), (174, [(.iload 5, 2, [5], []), (.lookupswitch 34 #[(0, 28), (1, 31)], 28, [210, 204, 207], [0, 1])]), (204, [(.iload 8, 2, [8], []), (.ireturn, 1, [], [])]), (207, [(.iload 9, 2, [9], []), (.ireturn, 1, [], [])]), (210, [(.iload 9, 2, [9], []), (.iload 8, 2, [8], []), (.isub, 1, [], []), (.iconst 1, 1, [], [1]), (.iadd, 1, [], []), (.ireturn, 1, [], [])])]
def S_X11_lid_0 : List mI := [(.aload_n 0, 1, [0], []), (.getfield 16, 3, [11, 2, 2, 111], []), (.iload_n 1, 1, [1], []), (.invokevirtual 143, 3, [0, 3, 1, 0, 43], []), (.ifCond .eq 25, 3, [33], []), (.aload_n 0, 1, [0], []), (.getfield 16, 3, [11, 2, 2, 111], []), (.iload_n 2, 1, [2], []), (.invokevirtual 143, 3, [0, 3, 1, 0, 43], []), (.ifCond .eq 14, 3, [33], []), (.iload 5, 2, [5], []), (.ifCond .lt 9, 3, [33], []), (.iload 5, 2, [5], []), (.iconst 2, 1, [], [2]), (.if_icmp .le 10, 3, [40], [])]
theorem lb_X11_lid : B_X11_lid.all (fun b => lst y_X11_lid.2.1 11 y_X11_lid.2.2.1 false b.1 b.2) = true := by decide +kernel
theorem ls_X11_lid_0 : lst y_X11_lid.2.1 11 y_X11_lid.2.2.1 false 0 S_X11_lid_0 = true := by decide +kernel
def C_X11_lid (N : Nat) : Nat → List Value → mH → (Option Value → mH → Option (Int32 × mH)) → Option (Int32 × mH) := fun j as g k => kb j 3 (pr1 as fun b0 as => pp1 as fun b1 as => pe as ((f_X0_hasKind N b0 b1 g).bind fun p => k (some (.int p.1)) p.2)) (kb j 203 (pr1 as fun b0 as => pp1 as fun b1 as => pe as ((f_X11_refuse N b0 b1 g).bind fun p => k (some (.int p.1)) p.2)) (kb j 32 (pr1 as fun b0 as => pp1 as fun b1 as => pe as ((f_X0_driesTo N b0 b1 g).bind fun p => k (some (.int p.1)) p.2)) (none)))
theorem co_X11_lid (N : Nat) (q : Int32 × mH) : clOK 6 q (C_X11_lid N) := by
  intro j as g k e
  rcases kb_s e with ⟨rfl, e⟩ | e
  · obtain ⟨b0, r0, q0, f0⟩ := pr1_s e
    obtain ⟨b1, r1, q1, f1⟩ := pp1_s f0
    obtain ⟨qe, fe⟩ := pe_s f1
    obtain ⟨p, e1, e2⟩ := bnd_s fe
    subst qe
    subst q1
    subst q0
    exact ⟨_, _, _, _, 4, rfl, (by decide), m_X0_hasKind N e1, e2⟩
  rcases kb_s e with ⟨rfl, e⟩ | e
  · obtain ⟨b0, r0, q0, f0⟩ := pr1_s e
    obtain ⟨b1, r1, q1, f1⟩ := pp1_s f0
    obtain ⟨qe, fe⟩ := pe_s f1
    obtain ⟨p, e1, e2⟩ := bnd_s fe
    subst qe
    subst q1
    subst q0
    exact ⟨_, _, _, _, 4, rfl, (by decide), m_X11_refuse N e1, e2⟩
  rcases kb_s e with ⟨rfl, e⟩ | e
  · obtain ⟨b0, r0, q0, f0⟩ := pr1_s e
    obtain ⟨b1, r1, q1, f1⟩ := pp1_s f0
    obtain ⟨qe, fe⟩ := pe_s f1
    obtain ⟨p, e1, e2⟩ := bnd_s fe
    subst qe
    subst q1
    subst q0
    exact ⟨_, _, _, _, 5, rfl, (by decide), m_X0_driesTo N e1, e2⟩
  cases e
set_option maxRecDepth 100000 in
theorem m_X11_lid (N : Nat) {a0 : Nat} {x1 : Int32} {x2 : Int32} {x3 : Int32} {x4 : Int32} {x5 : Int32} {h : mH} {q : Int32 × mH} (hf : f_X11_lid N a0 x1 x2 x3 x4 x5 h = some q) : MM y_X11_lid 6 [.ref a0, .int x1, .int x2, .int x3, .int x4, .int x5] h (some (.int q.1)) q.2 := by
  refine MM.of (mFx (j := 195) rfl).2.2.2.1 (Nat.le_of_ble_eq_true rfl) (fun X => ?_)
  refine ev_ok (o := 11) (ini := false) (Cl := C_X11_lid N) (Rc := RcI) (B := B_X11_lid) (K := fun pc ls st g => none) rfl (fun e => by cases e) (by decide) (rcI_ok rfl) ?_ (co_X11_lid N q) lb_X11_lid 3000 0 S_X11_lid_0 _ _ h ls_X11_lid_0 hf
  intro pc ls st g e
  cases e
def f_X11_numbers (N : Nat) (a0 : Nat) (x1 : Int32) (x2 : Int32) (x3 : Int32) (h : mH) : Option (Int32 × mH) :=
  (rcv h 11 a0).bind fun _ =>
  (f_X11_isRow N a0 x1 h).bind fun p1 =>
  if p1.1 = 0 then
    (rcv p1.2 11 a0).bind fun _ =>
    (f_X11_refuse N a0 (jI (-2)) p1.2).bind fun p2 =>
    some (p2.1, p2.2)
  else
    if x2 < 0 then
      (rcv p1.2 11 a0).bind fun _ =>
      (f_X11_refuse N a0 (jI (-2)) p1.2).bind fun p3 =>
      some (p3.1, p3.2)
    else
      if (jI 3) < x2 then
        (rcv p1.2 11 a0).bind fun _ =>
        (f_X11_refuse N a0 (jI (-2)) p1.2).bind fun p4 =>
        some (p4.1, p4.2)
      else
        if x3 < 0 then
          (rcv p1.2 11 a0).bind fun _ =>
          (f_X11_refuse N a0 (jI (-3)) p1.2).bind fun p5 =>
          some (p5.1, p5.2)
        else
          if (jI 40) < x3 then
            (rcv p1.2 11 a0).bind fun _ =>
            (f_X11_refuse N a0 (jI (-3)) p1.2).bind fun p6 =>
            some (p6.1, p6.2)
          else
            (gR p1.2 11 a0 10).bind fun v7 =>
            (ldR 4 p1.2 v7 x1).bind fun v8 =>
            (rcv p1.2 5 v8).bind fun _ =>
            (f_X5_begin N v8 x2 x3 p1.2).bind fun h9 =>
            some (jI 0, h9)
def y_X11_numbers : mM := (yX11_numbers, cX11_numbers, 4, (some .int))
def B_X11_numbers : List (Nat × List mI) := [(17, [(.aload_n 0, 1, [0], []), (.bipush (-2), 2, [], [-2]), (.invokevirtual 109, 3, [0, 203, 1, 11, 10], []), (.ireturn, 1, [], [])]), (24, [(.iload_n 3, 1, [3], []), (.ifCond .lt 9, 3, [34], []), (.iload_n 3, 1, [3], []), (.bipush 40, 2, [], [40]), (.if_icmp .le 10, 3, [41], [])]), (34, [(.aload_n 0, 1, [0], []), (.bipush (-3), 2, [], [-3]), (.invokevirtual 109, 3, [0, 203, 1, 11, 10], []), (.ireturn, 1, [], [])]), (41, [(.aload_n 0, 1, [0], []), (.getfield 66, 3, [11, 10, 2, 119], []), (.iload_n 1, 1, [1], []), (.aaload, 1, [4], []), (.iload_n 2, 1, [2], []), (.iload_n 3, 1, [3], []), (.invokevirtual 411, 3, [0, 72, 2, 5, 251], []), (.iconst 0, 1, [], [0]), (.ireturn, 1, [], [])])]
def S_X11_numbers_0 : List mI := [(.aload_n 0, 1, [0], []), (.iload_n 1, 1, [1], []), (.invokevirtual 288, 3, [0, 206, 1, 11, 169], []), (.ifCond .eq 12, 3, [17], []), (.iload_n 2, 1, [2], []), (.ifCond .lt 8, 3, [17], []), (.iload_n 2, 1, [2], []), (.iconst 3, 1, [], [3]), (.if_icmp .le 10, 3, [24], [])]
theorem lb_X11_numbers : B_X11_numbers.all (fun b => lst y_X11_numbers.2.1 11 y_X11_numbers.2.2.1 false b.1 b.2) = true := by decide +kernel
theorem ls_X11_numbers_0 : lst y_X11_numbers.2.1 11 y_X11_numbers.2.2.1 false 0 S_X11_numbers_0 = true := by decide +kernel
def C_X11_numbers (N : Nat) : Nat → List Value → mH → (Option Value → mH → Option (Int32 × mH)) → Option (Int32 × mH) := fun j as g k => kb j 206 (pr1 as fun b0 as => pp1 as fun b1 as => pe as ((f_X11_isRow N b0 b1 g).bind fun p => k (some (.int p.1)) p.2)) (kb j 203 (pr1 as fun b0 as => pp1 as fun b1 as => pe as ((f_X11_refuse N b0 b1 g).bind fun p => k (some (.int p.1)) p.2)) (kb j 72 (pr1 as fun b0 as => pp1 as fun b1 as => pp1 as fun b2 as => pe as ((f_X5_begin N b0 b1 b2 g).bind fun p => k none p)) (none)))
theorem co_X11_numbers (N : Nat) (q : Int32 × mH) : clOK 6 q (C_X11_numbers N) := by
  intro j as g k e
  rcases kb_s e with ⟨rfl, e⟩ | e
  · obtain ⟨b0, r0, q0, f0⟩ := pr1_s e
    obtain ⟨b1, r1, q1, f1⟩ := pp1_s f0
    obtain ⟨qe, fe⟩ := pe_s f1
    obtain ⟨p, e1, e2⟩ := bnd_s fe
    subst qe
    subst q1
    subst q0
    exact ⟨_, _, _, _, 4, rfl, (by decide), m_X11_isRow N e1, e2⟩
  rcases kb_s e with ⟨rfl, e⟩ | e
  · obtain ⟨b0, r0, q0, f0⟩ := pr1_s e
    obtain ⟨b1, r1, q1, f1⟩ := pp1_s f0
    obtain ⟨qe, fe⟩ := pe_s f1
    obtain ⟨p, e1, e2⟩ := bnd_s fe
    subst qe
    subst q1
    subst q0
    exact ⟨_, _, _, _, 4, rfl, (by decide), m_X11_refuse N e1, e2⟩
  rcases kb_s e with ⟨rfl, e⟩ | e
  · obtain ⟨b0, r0, q0, f0⟩ := pr1_s e
    obtain ⟨b1, r1, q1, f1⟩ := pp1_s f0
    obtain ⟨b2, r2, q2, f2⟩ := pp1_s f1
    obtain ⟨qe, fe⟩ := pe_s f2
    obtain ⟨p, e1, e2⟩ := bnd_s fe
    subst qe
    subst q2
    subst q1
    subst q0
    exact ⟨_, _, _, _, 5, rfl, (by decide), m_X5_begin N e1, e2⟩
  cases e
set_option maxRecDepth 100000 in
theorem m_X11_numbers (N : Nat) {a0 : Nat} {x1 : Int32} {x2 : Int32} {x3 : Int32} {h : mH} {q : Int32 × mH} (hf : f_X11_numbers N a0 x1 x2 x3 h = some q) : MM y_X11_numbers 6 [.ref a0, .int x1, .int x2, .int x3] h (some (.int q.1)) q.2 := by
  refine MM.of (mFx (j := 196) rfl).2.2.2.1 (Nat.le_of_ble_eq_true rfl) (fun X => ?_)
  refine ev_ok (o := 11) (ini := false) (Cl := C_X11_numbers N) (Rc := RcI) (B := B_X11_numbers) (K := fun pc ls st g => none) rfl (fun e => by cases e) (by decide) (rcI_ok rfl) ?_ (co_X11_numbers N q) lb_X11_numbers 3000 0 S_X11_numbers_0 _ _ h ls_X11_numbers_0 hf
  intro pc ls st g e
  cases e
def f_X11_write (N : Nat) (a0 : Nat) (x1 : Int32) (x2 : Int32) (l3 : Int64) (h : mH) : Option (Int64 × mH) :=
  (rcv h 11 a0).bind fun _ =>
  (f_X11_isRow N a0 x1 h).bind fun p1 =>
  if p1.1 = 0 then
    (rcv p1.2 11 a0).bind fun _ =>
    (f_X11_refuse N a0 (jI (-2)) p1.2).bind fun p2 =>
    some (p2.1.toInt64, p2.2)
  else
    (gR p1.2 11 a0 10).bind fun v3 =>
    (ldR 4 p1.2 v3 x1).bind fun v4 =>
    (rcv p1.2 5 v4).bind fun _ =>
    (f_X5_isMissing N v4 p1.2).bind fun p5 =>
    if p5.1 = 0 then
      if x2 < 0 then
        (rcv p5.2 11 a0).bind fun _ =>
        (f_X11_refuse N a0 (jI (-7)) p5.2).bind fun p6 =>
        some (p6.1.toInt64, p6.2)
      else
        (gI p5.2 5 v4 0).bind fun v7 =>
        if x2 < v7 then
          (rcv p5.2 5 v4).bind fun _ =>
          (f_X5_put N v4 x2 l3 p5.2).bind fun p8 =>
          some (p8.1, p8.2)
        else
          (rcv p5.2 11 a0).bind fun _ =>
          (f_X11_refuse N a0 (jI (-7)) p5.2).bind fun p9 =>
          some (p9.1.toInt64, p9.2)
    else
      (rcv p5.2 11 a0).bind fun _ =>
      (f_X11_refuse N a0 (jI (-6)) p5.2).bind fun p10 =>
      some (p10.1.toInt64, p10.2)
def y_X11_write : mM := (yX11_write, cX11_write, 6, (some .long))
def B_X11_write : List (Nat × List mI) := [(16, [(.aload_n 0, 1, [0], []), (.getfield 66, 3, [11, 10, 2, 119], []), (.iload_n 1, 1, [1], []), (.aaload, 1, [4], []), (.astore 5, 2, [5], []), (.aload 5, 2, [5], []), (.invokevirtual 291, 3, [0, 71, 0, 5, 170], []), (.ifCond .eq 11, 3, [40], []), (.aload_n 0, 1, [0], []), (.bipush (-6), 2, [], [-6]), (.invokevirtual 109, 3, [0, 203, 1, 11, 10], []), (.i2l, 1, [], []), (.lreturn, 1, [], [])]), (40, [(.iload_n 2, 1, [2], []), (.ifCond .lt 12, 3, [53], []), (.iload_n 2, 1, [2], []), (.aload 5, 2, [5], []), (.getfield 295, 3, [5, 0, 0, 71], []), (.if_icmp .lt 11, 3, [61], [])]), (53, [(.aload_n 0, 1, [0], []), (.bipush (-7), 2, [], [-7]), (.invokevirtual 109, 3, [0, 203, 1, 11, 10], []), (.i2l, 1, [], []), (.lreturn, 1, [], [])]), (61, [(.aload 5, 2, [5], []), (.iload_n 2, 1, [2], []), (.lload_n 3, 1, [3], []), (.invokevirtual 415, 3, [0, 73, 2, 5, 254], []), (.lreturn, 1, [], [])])]
def S_X11_write_0 : List mI := [(.aload_n 0, 1, [0], []), (.iload_n 1, 1, [1], []), (.invokevirtual 288, 3, [0, 206, 1, 11, 169], []), (.ifCond .ne 11, 3, [16], []), (.aload_n 0, 1, [0], []), (.bipush (-2), 2, [], [-2]), (.invokevirtual 109, 3, [0, 203, 1, 11, 10], []), (.i2l, 1, [], []), (.lreturn, 1, [], [])]
theorem lb_X11_write : B_X11_write.all (fun b => lst y_X11_write.2.1 11 y_X11_write.2.2.1 false b.1 b.2) = true := by decide +kernel
theorem ls_X11_write_0 : lst y_X11_write.2.1 11 y_X11_write.2.2.1 false 0 S_X11_write_0 = true := by decide +kernel
def C_X11_write (N : Nat) : Nat → List Value → mH → (Option Value → mH → Option (Int64 × mH)) → Option (Int64 × mH) := fun j as g k => kb j 206 (pr1 as fun b0 as => pp1 as fun b1 as => pe as ((f_X11_isRow N b0 b1 g).bind fun p => k (some (.int p.1)) p.2)) (kb j 203 (pr1 as fun b0 as => pp1 as fun b1 as => pe as ((f_X11_refuse N b0 b1 g).bind fun p => k (some (.int p.1)) p.2)) (kb j 71 (pr1 as fun b0 as => pe as ((f_X5_isMissing N b0 g).bind fun p => k (some (.int p.1)) p.2)) (kb j 73 (pr1 as fun b0 as => pp1 as fun b1 as => pl1 as fun b2 as => pe as ((f_X5_put N b0 b1 b2 g).bind fun p => k (some (.long p.1)) p.2)) (none))))
theorem co_X11_write (N : Nat) (q : Int64 × mH) : clOK 6 q (C_X11_write N) := by
  intro j as g k e
  rcases kb_s e with ⟨rfl, e⟩ | e
  · obtain ⟨b0, r0, q0, f0⟩ := pr1_s e
    obtain ⟨b1, r1, q1, f1⟩ := pp1_s f0
    obtain ⟨qe, fe⟩ := pe_s f1
    obtain ⟨p, e1, e2⟩ := bnd_s fe
    subst qe
    subst q1
    subst q0
    exact ⟨_, _, _, _, 4, rfl, (by decide), m_X11_isRow N e1, e2⟩
  rcases kb_s e with ⟨rfl, e⟩ | e
  · obtain ⟨b0, r0, q0, f0⟩ := pr1_s e
    obtain ⟨b1, r1, q1, f1⟩ := pp1_s f0
    obtain ⟨qe, fe⟩ := pe_s f1
    obtain ⟨p, e1, e2⟩ := bnd_s fe
    subst qe
    subst q1
    subst q0
    exact ⟨_, _, _, _, 4, rfl, (by decide), m_X11_refuse N e1, e2⟩
  rcases kb_s e with ⟨rfl, e⟩ | e
  · obtain ⟨b0, r0, q0, f0⟩ := pr1_s e
    obtain ⟨qe, fe⟩ := pe_s f0
    obtain ⟨p, e1, e2⟩ := bnd_s fe
    subst qe
    subst q0
    exact ⟨_, _, _, _, 4, rfl, (by decide), m_X5_isMissing N e1, e2⟩
  rcases kb_s e with ⟨rfl, e⟩ | e
  · obtain ⟨b0, r0, q0, f0⟩ := pr1_s e
    obtain ⟨b1, r1, q1, f1⟩ := pp1_s f0
    obtain ⟨b2, r2, q2, f2⟩ := pl1_s f1
    obtain ⟨qe, fe⟩ := pe_s f2
    obtain ⟨p, e1, e2⟩ := bnd_s fe
    subst qe
    subst q2
    subst q1
    subst q0
    exact ⟨_, _, _, _, 5, rfl, (by decide), m_X5_put N e1, e2⟩
  cases e
set_option maxRecDepth 100000 in
theorem m_X11_write (N : Nat) {a0 : Nat} {x1 : Int32} {x2 : Int32} {l3 : Int64} {h : mH} {q : Int64 × mH} (hf : f_X11_write N a0 x1 x2 l3 h = some q) : MM y_X11_write 6 [.ref a0, .int x1, .int x2, .long l3] h (some (.long q.1)) q.2 := by
  refine MM.of (mFx (j := 197) rfl).2.2.2.1 (Nat.le_of_ble_eq_true rfl) (fun X => ?_)
  refine ev_ok (o := 11) (ini := false) (Cl := C_X11_write N) (Rc := RcJ) (B := B_X11_write) (K := fun pc ls st g => none) rfl (fun e => by cases e) (by decide) (rcJ_ok rfl) ?_ (co_X11_write N q) lb_X11_write 3000 0 S_X11_write_0 _ _ h ls_X11_write_0 hf
  intro pc ls st g e
  cases e
def J_X11_copy_92 (N : Nat) (k59 : Nat → Int32 → Int32 → Nat → Int32 → Int32 → mH → Option (Int32 × mH)) (a0 : Nat) (x1 : Int32) (x2 : Int32) (a5 : Nat) (x6 : Int32) (x7 : Int32) (s_0 : Nat) (s_1 : Int32) (s_2 : Int64) (h : mH) : Option (Int32 × mH) :=
  (rcv h 5 s_0).bind fun _ =>
  (f_X5_put N s_0 s_1 s_2 h).bind fun p1 =>
  (gR p1.2 11 a0 2).bind fun v2 =>
  (rcv p1.2 0 v2).bind fun _ =>
  (f_X0_crossingsOf N v2 x1 p1.2).bind fun p3 =>
  if (iAdd x6 (jI 1)) < p3.1 then
    let w4 := iAdd x6 (jI 1)
    let w5 := iAdd x7 (jI 1)
    k59 a0 x1 x2 a5 w4 w5 p3.2
  else
    let w6 := iAdd x7 (jI 1)
    k59 a0 x1 x2 a5 (jI 0) w6 p3.2
def L_X11_copy_59 (N : Nat) : Nat → Nat → Int32 → Int32 → Nat → Int32 → Int32 → mH → Option (Int32 × mH)
  | 0, _, _, _, _, _, _, _ => none
  | n + 1, a0, x1, x2, a5, x6, x7, h =>
    (gI h 5 a5 0).bind fun v1 =>
    if x7 < v1 then
      (gR h 11 a0 5).bind fun v2 =>
      (rcv h 10 v2).bind fun _ =>
      (f_X10_goesOver N v2 x1 x2 x6 h).bind fun p3 =>
      if p3.1 = 0 then
        J_X11_copy_92 N (L_X11_copy_59 N n) a0 x1 x2 a5 x6 x7 a5 x7 (jL 0) p3.2
      else
        J_X11_copy_92 N (L_X11_copy_59 N n) a0 x1 x2 a5 x6 x7 a5 x7 (jL 1) p3.2
    else
      (gI h 5 a5 0).bind fun v4 =>
      some (v4, h)
def f_X11_copy (N : Nat) (a0 : Nat) (x1 : Int32) (x2 : Int32) (x3 : Int32) (x4 : Int32) (h : mH) : Option (Int32 × mH) :=
  (gR h 11 a0 2).bind fun v1 =>
  (rcv h 0 v1).bind fun _ =>
  (f_X0_hasCrossing N v1 x1 x2 x3 h).bind fun p2 =>
  if p2.1 = 0 then
    (rcv p2.2 11 a0).bind fun _ =>
    (f_X11_refuse N a0 (jI (-2)) p2.2).bind fun p3 =>
    some (p3.1, p3.2)
  else
    (rcv p2.2 11 a0).bind fun _ =>
    (f_X11_isRow N a0 x4 p2.2).bind fun p4 =>
    if p4.1 = 0 then
      (rcv p4.2 11 a0).bind fun _ =>
      (f_X11_refuse N a0 (jI (-2)) p4.2).bind fun p5 =>
      some (p5.1, p5.2)
    else
      (gR p4.2 11 a0 10).bind fun v6 =>
      (ldR 4 p4.2 v6 x4).bind fun v7 =>
      (rcv p4.2 5 v7).bind fun _ =>
      (f_X5_isMissing N v7 p4.2).bind fun p8 =>
      if p8.1 = 0 then
        L_X11_copy_59 N N a0 x1 x2 v7 x3 (jI 0) p8.2
      else
        (rcv p8.2 11 a0).bind fun _ =>
        (f_X11_refuse N a0 (jI (-6)) p8.2).bind fun p9 =>
        some (p9.1, p9.2)
def y_X11_copy : mM := (yX11_copy, cX11_copy, 8, (some .int))
def B_X11_copy : List (Nat × List mI) := [(22, [(.aload_n 0, 1, [0], []), (.bipush (-2), 2, [], [-2]), (.invokevirtual 109, 3, [0, 203, 1, 11, 10], []), (.ireturn, 1, [], [])]), (29, [(.aload_n 0, 1, [0], []), (.getfield 66, 3, [11, 10, 2, 119], []), (.iload 4, 2, [4], []), (.aaload, 1, [4], []), (.astore 5, 2, [5], []), (.aload 5, 2, [5], []), (.invokevirtual 291, 3, [0, 71, 0, 5, 170], []), (.ifCond .eq 10, 3, [53], []), (.aload_n 0, 1, [0], []), (.bipush (-6), 2, [], [-6]), (.invokevirtual 109, 3, [0, 203, 1, 11, 10], []), (.ireturn, 1, [], [])]), (53, [(.iload_n 3, 1, [3], []), (.istore 6, 2, [6], []), (.iconst 0, 1, [], [0]), (.istore 7, 2, [7], [])]), (91, [(.lconst 0, 1, [], [0])]), (118, [(.iconst 0, 1, [], [0])]), (119, [(.istore 6, 2, [6], []), (.iinc 7 1, 3, [7], [1]), (.goto (-65), 3, [59], [])]), (127, [(.aload 5, 2, [5], []), (.getfield 295, 3, [5, 0, 0, 71], []), (.ireturn, 1, [], [])])]
def S_X11_copy_0 : List mI := [(.aload_n 0, 1, [0], []), (.getfield 16, 3, [11, 2, 2, 111], []), (.iload_n 1, 1, [1], []), (.iload_n 2, 1, [2], []), (.iload_n 3, 1, [3], []), (.invokevirtual 166, 3, [0, 7, 3, 0, 54], []), (.ifCond .eq 12, 3, [22], []), (.aload_n 0, 1, [0], []), (.iload 4, 2, [4], []), (.invokevirtual 288, 3, [0, 206, 1, 11, 169], []), (.ifCond .ne 10, 3, [29], [])]
def S_X11_copy_59 : List mI := [(.iload 7, 2, [7], []), (.aload 5, 2, [5], []), (.getfield 295, 3, [5, 0, 0, 71], []), (.if_icmp .ge 61, 3, [127], []), (.aload 5, 2, [5], []), (.iload 7, 2, [7], []), (.aload_n 0, 1, [0], []), (.getfield 35, 3, [11, 5, 2, 114], []), (.iload_n 1, 1, [1], []), (.iload_n 2, 1, [2], []), (.iload 6, 2, [6], []), (.invokevirtual 177, 3, [0, 129, 3, 10, 65], []), (.ifCond .eq 7, 3, [91], []), (.lconst 1, 1, [], [1]), (.goto 4, 3, [92], [])]
def S_X11_copy_92 : List mI := [(.invokevirtual 415, 3, [0, 73, 2, 5, 254], []), (.pop2, 1, [], []), (.iload 6, 2, [6], []), (.iconst 1, 1, [], [1]), (.iadd, 1, [], []), (.aload_n 0, 1, [0], []), (.getfield 16, 3, [11, 2, 2, 111], []), (.iload_n 1, 1, [1], []), (.invokevirtual 419, 3, [0, 14, 1, 0, 257], []), (.if_icmp .ge 10, 3, [118], []), (.iload 6, 2, [6], []), (.iconst 1, 1, [], [1]), (.iadd, 1, [], []), (.goto 4, 3, [119], [])]
theorem lb_X11_copy : B_X11_copy.all (fun b => lst y_X11_copy.2.1 11 y_X11_copy.2.2.1 false b.1 b.2) = true := by decide +kernel
theorem ls_X11_copy_0 : lst y_X11_copy.2.1 11 y_X11_copy.2.2.1 false 0 S_X11_copy_0 = true := by decide +kernel
theorem ls_X11_copy_59 : lst y_X11_copy.2.1 11 y_X11_copy.2.2.1 false 59 S_X11_copy_59 = true := by decide +kernel
theorem ls_X11_copy_92 : lst y_X11_copy.2.1 11 y_X11_copy.2.2.1 false 92 S_X11_copy_92 = true := by decide +kernel
def C_X11_copy (N : Nat) : Nat → List Value → mH → (Option Value → mH → Option (Int32 × mH)) → Option (Int32 × mH) := fun j as g k => kb j 7 (pr1 as fun b0 as => pp1 as fun b1 as => pp1 as fun b2 as => pp1 as fun b3 as => pe as ((f_X0_hasCrossing N b0 b1 b2 b3 g).bind fun p => k (some (.int p.1)) p.2)) (kb j 206 (pr1 as fun b0 as => pp1 as fun b1 as => pe as ((f_X11_isRow N b0 b1 g).bind fun p => k (some (.int p.1)) p.2)) (kb j 203 (pr1 as fun b0 as => pp1 as fun b1 as => pe as ((f_X11_refuse N b0 b1 g).bind fun p => k (some (.int p.1)) p.2)) (kb j 71 (pr1 as fun b0 as => pe as ((f_X5_isMissing N b0 g).bind fun p => k (some (.int p.1)) p.2)) (kb j 129 (pr1 as fun b0 as => pp1 as fun b1 as => pp1 as fun b2 as => pp1 as fun b3 as => pe as ((f_X10_goesOver N b0 b1 b2 b3 g).bind fun p => k (some (.int p.1)) p.2)) (kb j 73 (pr1 as fun b0 as => pp1 as fun b1 as => pl1 as fun b2 as => pe as ((f_X5_put N b0 b1 b2 g).bind fun p => k (some (.long p.1)) p.2)) (kb j 14 (pr1 as fun b0 as => pp1 as fun b1 as => pe as ((f_X0_crossingsOf N b0 b1 g).bind fun p => k (some (.int p.1)) p.2)) (none)))))))
theorem co_X11_copy (N : Nat) (q : Int32 × mH) : clOK 9 q (C_X11_copy N) := by
  intro j as g k e
  rcases kb_s e with ⟨rfl, e⟩ | e
  · obtain ⟨b0, r0, q0, f0⟩ := pr1_s e
    obtain ⟨b1, r1, q1, f1⟩ := pp1_s f0
    obtain ⟨b2, r2, q2, f2⟩ := pp1_s f1
    obtain ⟨b3, r3, q3, f3⟩ := pp1_s f2
    obtain ⟨qe, fe⟩ := pe_s f3
    obtain ⟨p, e1, e2⟩ := bnd_s fe
    subst qe
    subst q3
    subst q2
    subst q1
    subst q0
    exact ⟨_, _, _, _, 6, rfl, (by decide), m_X0_hasCrossing N e1, e2⟩
  rcases kb_s e with ⟨rfl, e⟩ | e
  · obtain ⟨b0, r0, q0, f0⟩ := pr1_s e
    obtain ⟨b1, r1, q1, f1⟩ := pp1_s f0
    obtain ⟨qe, fe⟩ := pe_s f1
    obtain ⟨p, e1, e2⟩ := bnd_s fe
    subst qe
    subst q1
    subst q0
    exact ⟨_, _, _, _, 4, rfl, (by decide), m_X11_isRow N e1, e2⟩
  rcases kb_s e with ⟨rfl, e⟩ | e
  · obtain ⟨b0, r0, q0, f0⟩ := pr1_s e
    obtain ⟨b1, r1, q1, f1⟩ := pp1_s f0
    obtain ⟨qe, fe⟩ := pe_s f1
    obtain ⟨p, e1, e2⟩ := bnd_s fe
    subst qe
    subst q1
    subst q0
    exact ⟨_, _, _, _, 4, rfl, (by decide), m_X11_refuse N e1, e2⟩
  rcases kb_s e with ⟨rfl, e⟩ | e
  · obtain ⟨b0, r0, q0, f0⟩ := pr1_s e
    obtain ⟨qe, fe⟩ := pe_s f0
    obtain ⟨p, e1, e2⟩ := bnd_s fe
    subst qe
    subst q0
    exact ⟨_, _, _, _, 4, rfl, (by decide), m_X5_isMissing N e1, e2⟩
  rcases kb_s e with ⟨rfl, e⟩ | e
  · obtain ⟨b0, r0, q0, f0⟩ := pr1_s e
    obtain ⟨b1, r1, q1, f1⟩ := pp1_s f0
    obtain ⟨b2, r2, q2, f2⟩ := pp1_s f1
    obtain ⟨b3, r3, q3, f3⟩ := pp1_s f2
    obtain ⟨qe, fe⟩ := pe_s f3
    obtain ⟨p, e1, e2⟩ := bnd_s fe
    subst qe
    subst q3
    subst q2
    subst q1
    subst q0
    exact ⟨_, _, _, _, 8, rfl, (by decide), m_X10_goesOver N e1, e2⟩
  rcases kb_s e with ⟨rfl, e⟩ | e
  · obtain ⟨b0, r0, q0, f0⟩ := pr1_s e
    obtain ⟨b1, r1, q1, f1⟩ := pp1_s f0
    obtain ⟨b2, r2, q2, f2⟩ := pl1_s f1
    obtain ⟨qe, fe⟩ := pe_s f2
    obtain ⟨p, e1, e2⟩ := bnd_s fe
    subst qe
    subst q2
    subst q1
    subst q0
    exact ⟨_, _, _, _, 5, rfl, (by decide), m_X5_put N e1, e2⟩
  rcases kb_s e with ⟨rfl, e⟩ | e
  · obtain ⟨b0, r0, q0, f0⟩ := pr1_s e
    obtain ⟨b1, r1, q1, f1⟩ := pp1_s f0
    obtain ⟨qe, fe⟩ := pe_s f1
    obtain ⟨p, e1, e2⟩ := bnd_s fe
    subst qe
    subst q1
    subst q0
    exact ⟨_, _, _, _, 5, rfl, (by decide), m_X0_crossingsOf N e1, e2⟩
  cases e
set_option maxRecDepth 100000 in
theorem t_X11_copy_92 {X : Nat × (Nat → Int32)} (N : Nat) {q : Int32 × mH} {k59 : Nat → Int32 → Int32 → Nat → Int32 → Int32 → mH → Option (Int32 × mH)} (hk59 : ∀ (a0 : Nat) (x1 : Int32) (x2 : Int32) (a5 : Nat) (x6 : Int32) (x7 : Int32) g, k59 a0 x1 x2 a5 x6 x7 g = some q → MW X y_X11_copy 9 59 [(0, .ref a0), (1, .int x1), (2, .int x2), (5, .ref a5), (6, .int x6), (7, .int x7)] [] g (some (.int q.1)) q.2) (a0 : Nat) (x1 : Int32) (x2 : Int32) (a5 : Nat) (x6 : Int32) (x7 : Int32) (s_0 : Nat) (s_1 : Int32) (s_2 : Int64) (h : mH) (hf : J_X11_copy_92 N k59 a0 x1 x2 a5 x6 x7 s_0 s_1 s_2 h = some q) : MW X y_X11_copy 9 92 [(0, .ref a0), (1, .int x1), (2, .int x2), (5, .ref a5), (6, .int x6), (7, .int x7)] [.long s_2, .int s_1, .ref s_0] h (some (.int q.1)) q.2 := by
  refine ev_ok (o := 11) (ini := false) (Cl := C_X11_copy N) (Rc := RcI) (B := B_X11_copy) (K := fun pc ls st g => kb pc 59 (lgr 0 ls fun a0 => lgi 1 ls fun x1 => lgi 2 ls fun x2 => lgr 5 ls fun a5 => lgi 6 ls fun x6 => lgi 7 ls fun x7 => pe st (k59 a0 x1 x2 a5 x6 x7 g)) (none)) rfl (fun e => by cases e) (by decide) (rcI_ok rfl) ?_ (co_X11_copy N q) lb_X11_copy 3000 92 S_X11_copy_92 _ _ h ls_X11_copy_92 hf
  intro pc ls st g e
  rcases kb_s e with ⟨rfl, e⟩ | e
  · obtain ⟨a0, e0, f0⟩ := lgr_s e
    obtain ⟨x1, e1, f1⟩ := lgi_s f0
    obtain ⟨x2, e2, f2⟩ := lgi_s f1
    obtain ⟨a5, e3, f3⟩ := lgr_s f2
    obtain ⟨x6, e4, f4⟩ := lgi_s f3
    obtain ⟨x7, e5, f5⟩ := lgi_s f4
    obtain ⟨qe, fe⟩ := pe_s f5
    subst qe
    exact MW.sub (List.forall_mem_cons.mpr ⟨lg_mem e0, List.forall_mem_cons.mpr ⟨lg_mem e1, List.forall_mem_cons.mpr ⟨lg_mem e2, List.forall_mem_cons.mpr ⟨lg_mem e3, List.forall_mem_cons.mpr ⟨lg_mem e4, List.forall_mem_cons.mpr ⟨lg_mem e5, fun _ h => absurd h List.not_mem_nil⟩⟩⟩⟩⟩⟩) (hk59 a0 x1 x2 a5 x6 x7 g fe)
  cases e
set_option maxRecDepth 100000 in
theorem t_X11_copy_59 {X : Nat × (Nat → Int32)} (N : Nat) {q : Int32 × mH} : ∀ (n : Nat) (a0 : Nat) (x1 : Int32) (x2 : Int32) (a5 : Nat) (x6 : Int32) (x7 : Int32) (h : mH), L_X11_copy_59 N n a0 x1 x2 a5 x6 x7 h = some q → MW X y_X11_copy 9 59 [(0, .ref a0), (1, .int x1), (2, .int x2), (5, .ref a5), (6, .int x6), (7, .int x7)] [] h (some (.int q.1)) q.2 := by
  intro n
  induction n with
  | zero => intro a0 x1 x2 a5 x6 x7 h hf; cases hf
  | succ n ih =>
    intro a0 x1 x2 a5 x6 x7 h hf
    refine ev_ok (o := 11) (ini := false) (Cl := C_X11_copy N) (Rc := RcI) (B := B_X11_copy) (K := fun pc ls st g => kb pc 92 (lgr 0 ls fun a0 => lgi 1 ls fun x1 => lgi 2 ls fun x2 => lgr 5 ls fun a5 => lgi 6 ls fun x6 => lgi 7 ls fun x7 => pl1 st fun s_2 st => pp1 st fun s_1 st => pr1 st fun s_0 st => pe st (J_X11_copy_92 N (L_X11_copy_59 N n) a0 x1 x2 a5 x6 x7 s_0 s_1 s_2 g)) (none)) rfl (fun e => by cases e) (by decide) (rcI_ok rfl) ?_ (co_X11_copy N q) lb_X11_copy 3000 59 S_X11_copy_59 _ _ h ls_X11_copy_59 hf
    intro pc ls st g e
    rcases kb_s e with ⟨rfl, e⟩ | e
    · obtain ⟨a0, e0, f0⟩ := lgr_s e
      obtain ⟨x1, e1, f1⟩ := lgi_s f0
      obtain ⟨x2, e2, f2⟩ := lgi_s f1
      obtain ⟨a5, e3, f3⟩ := lgr_s f2
      obtain ⟨x6, e4, f4⟩ := lgi_s f3
      obtain ⟨x7, e5, f5⟩ := lgi_s f4
      obtain ⟨s_2, r0, q0, g0⟩ := pl1_s f5
      obtain ⟨s_1, r1, q1, g1⟩ := pp1_s g0
      obtain ⟨s_0, r2, q2, g2⟩ := pr1_s g1
      obtain ⟨qe, fe⟩ := pe_s g2
      subst qe
      subst q2
      subst q1
      subst q0
      exact MW.sub (List.forall_mem_cons.mpr ⟨lg_mem e0, List.forall_mem_cons.mpr ⟨lg_mem e1, List.forall_mem_cons.mpr ⟨lg_mem e2, List.forall_mem_cons.mpr ⟨lg_mem e3, List.forall_mem_cons.mpr ⟨lg_mem e4, List.forall_mem_cons.mpr ⟨lg_mem e5, fun _ h => absurd h List.not_mem_nil⟩⟩⟩⟩⟩⟩) (t_X11_copy_92 N (fun a0 x1 x2 a5 x6 x7 g e => ih a0 x1 x2 a5 x6 x7 g e) a0 x1 x2 a5 x6 x7 s_0 s_1 s_2 g fe)
    cases e
set_option maxRecDepth 100000 in
theorem m_X11_copy (N : Nat) {a0 : Nat} {x1 : Int32} {x2 : Int32} {x3 : Int32} {x4 : Int32} {h : mH} {q : Int32 × mH} (hf : f_X11_copy N a0 x1 x2 x3 x4 h = some q) : MM y_X11_copy 9 [.ref a0, .int x1, .int x2, .int x3, .int x4] h (some (.int q.1)) q.2 := by
  refine MM.of (mFx (j := 198) rfl).2.2.2.1 (Nat.le_of_ble_eq_true rfl) (fun X => ?_)
  refine ev_ok (o := 11) (ini := false) (Cl := C_X11_copy N) (Rc := RcI) (B := B_X11_copy) (K := fun pc ls st g => kb pc 59 (lgr 0 ls fun a0 => lgi 1 ls fun x1 => lgi 2 ls fun x2 => lgr 5 ls fun a5 => lgi 6 ls fun x6 => lgi 7 ls fun x7 => pe st (L_X11_copy_59 N N a0 x1 x2 a5 x6 x7 g)) (none)) rfl (fun e => by cases e) (by decide) (rcI_ok rfl) ?_ (co_X11_copy N q) lb_X11_copy 3000 0 S_X11_copy_0 _ _ h ls_X11_copy_0 hf
  intro pc ls st g e
  rcases kb_s e with ⟨rfl, e⟩ | e
  · obtain ⟨a0, e0, f0⟩ := lgr_s e
    obtain ⟨x1, e1, f1⟩ := lgi_s f0
    obtain ⟨x2, e2, f2⟩ := lgi_s f1
    obtain ⟨a5, e3, f3⟩ := lgr_s f2
    obtain ⟨x6, e4, f4⟩ := lgi_s f3
    obtain ⟨x7, e5, f5⟩ := lgi_s f4
    obtain ⟨qe, fe⟩ := pe_s f5
    subst qe
    exact MW.sub (List.forall_mem_cons.mpr ⟨lg_mem e0, List.forall_mem_cons.mpr ⟨lg_mem e1, List.forall_mem_cons.mpr ⟨lg_mem e2, List.forall_mem_cons.mpr ⟨lg_mem e3, List.forall_mem_cons.mpr ⟨lg_mem e4, List.forall_mem_cons.mpr ⟨lg_mem e5, fun _ h => absurd h List.not_mem_nil⟩⟩⟩⟩⟩⟩) (t_X11_copy_59 N N a0 x1 x2 a5 x6 x7 g fe)
  cases e
def f_X11_image (N : Nat) (a0 : Nat) (x1 : Int32) (h : mH) : Option (Int32 × mH) :=
  if x1 < 0 then
    (rcv h 11 a0).bind fun _ =>
    (f_X11_refuse N a0 (jI (-2)) h).bind fun p1 =>
    some (p1.1, p1.2)
  else
    (gR h 11 a0 11).bind fun v2 =>
    (lnA h v2).bind fun v3 =>
    if x1 < v3 then
      (gR h 11 a0 11).bind fun v4 =>
      (ldR 5 h v4 x1).bind fun v5 =>
      (gR h 4 v5 1).bind fun v6 =>
      (gR h 11 a0 2).bind fun v7 =>
      (rcv h 0 v6).bind fun _ =>
      (f_X0_become N v6 v7 h).bind fun h8 =>
      (gR h8 4 v5 2).bind fun v9 =>
      (gR h8 11 a0 6).bind fun v10 =>
      (rcv h8 6 v9).bind fun _ =>
      (f_X6_become N v9 v10 h8).bind fun h11 =>
      (gR h11 4 v5 3).bind fun v12 =>
      (gR h11 11 a0 7).bind fun v13 =>
      (rcv h11 6 v12).bind fun _ =>
      (f_X6_become N v12 v13 h11).bind fun h14 =>
      (gR h14 4 v5 4).bind fun v15 =>
      (gR h14 11 a0 9).bind fun v16 =>
      (rcv h14 3 v15).bind fun _ =>
      (f_X3_become N v15 v16 h14).bind fun h17 =>
      (pV h17 4 v5 0 (.int (jI 1))).bind fun h18 =>
      some (jI 0, h18)
    else
      (rcv h 11 a0).bind fun _ =>
      (f_X11_refuse N a0 (jI (-2)) h).bind fun p19 =>
      some (p19.1, p19.2)
def y_X11_image : mM := (yX11_image, cX11_image, 3, (some .int))
def B_X11_image : List (Nat × List mI) := [(13, [(.aload_n 0, 1, [0], []), (.bipush (-2), 2, [], [-2]), (.invokevirtual 109, 3, [0, 203, 1, 11, 10], []), (.ireturn, 1, [], [])]), (20, [(.aload_n 0, 1, [0], []), (.getfield 73, 3, [11, 11, 2, 120], []), (.iload_n 1, 1, [1], []), (.aaload, 1, [5], []), (.astore_n 2, 1, [2], []), (.aload_n 2, 1, [2], []), (.getfield 422, 3, [4, 1, 2, 76], []), (.aload_n 0, 1, [0], []), (.getfield 16, 3, [11, 2, 2, 111], []), (.invokevirtual 128, 3, [0, 2, 1, 0, 35], []), (.aload_n 2, 1, [2], []), (.getfield 423, 3, [4, 2, 2, 78], []), (.aload_n 0, 1, [0], []), (.getfield 42, 3, [11, 6, 2, 115], []), (.invokevirtual 424, 3, [0, 79, 1, 6, 259], []), (.aload_n 2, 1, [2], []), (.getfield 427, 3, [4, 3, 2, 80], []), (.aload_n 0, 1, [0], []), (.getfield 46, 3, [11, 7, 2, 116], []), (.invokevirtual 424, 3, [0, 79, 1, 6, 259], []), (.aload_n 2, 1, [2], []), (.getfield 428, 3, [4, 4, 2, 82], []), (.aload_n 0, 1, [0], []), (.getfield 59, 3, [11, 9, 2, 118], []), (.invokevirtual 429, 3, [0, 62, 1, 3, 260], []), (.aload_n 2, 1, [2], []), (.iconst 1, 1, [], [1]), (.putfield 432, 3, [4, 0, 3, 74], []), (.iconst 0, 1, [], [0]), (.ireturn, 1, [], [])])]
def S_X11_image_0 : List mI := [(.iload_n 1, 1, [1], []), (.ifCond .lt 12, 3, [13], []), (.iload_n 1, 1, [1], []), (.aload_n 0, 1, [0], []), (.getfield 73, 3, [11, 11, 2, 120], []), (.arraylength, 1, [0], []), (.if_icmp .lt 10, 3, [20], [])]
theorem lb_X11_image : B_X11_image.all (fun b => lst y_X11_image.2.1 11 y_X11_image.2.2.1 false b.1 b.2) = true := by decide +kernel
theorem ls_X11_image_0 : lst y_X11_image.2.1 11 y_X11_image.2.2.1 false 0 S_X11_image_0 = true := by decide +kernel
def C_X11_image (N : Nat) : Nat → List Value → mH → (Option Value → mH → Option (Int32 × mH)) → Option (Int32 × mH) := fun j as g k => kb j 203 (pr1 as fun b0 as => pp1 as fun b1 as => pe as ((f_X11_refuse N b0 b1 g).bind fun p => k (some (.int p.1)) p.2)) (kb j 2 (pr1 as fun b0 as => pr1 as fun b1 as => pe as ((f_X0_become N b0 b1 g).bind fun p => k none p)) (kb j 79 (pr1 as fun b0 as => pr1 as fun b1 as => pe as ((f_X6_become N b0 b1 g).bind fun p => k none p)) (kb j 62 (pr1 as fun b0 as => pr1 as fun b1 as => pe as ((f_X3_become N b0 b1 g).bind fun p => k none p)) (none))))
theorem co_X11_image (N : Nat) (q : Int32 × mH) : clOK 5 q (C_X11_image N) := by
  intro j as g k e
  rcases kb_s e with ⟨rfl, e⟩ | e
  · obtain ⟨b0, r0, q0, f0⟩ := pr1_s e
    obtain ⟨b1, r1, q1, f1⟩ := pp1_s f0
    obtain ⟨qe, fe⟩ := pe_s f1
    obtain ⟨p, e1, e2⟩ := bnd_s fe
    subst qe
    subst q1
    subst q0
    exact ⟨_, _, _, _, 4, rfl, (by decide), m_X11_refuse N e1, e2⟩
  rcases kb_s e with ⟨rfl, e⟩ | e
  · obtain ⟨b0, r0, q0, f0⟩ := pr1_s e
    obtain ⟨b1, r1, q1, f1⟩ := pr1_s f0
    obtain ⟨qe, fe⟩ := pe_s f1
    obtain ⟨p, e1, e2⟩ := bnd_s fe
    subst qe
    subst q1
    subst q0
    exact ⟨_, _, _, _, 4, rfl, (by decide), m_X0_become N e1, e2⟩
  rcases kb_s e with ⟨rfl, e⟩ | e
  · obtain ⟨b0, r0, q0, f0⟩ := pr1_s e
    obtain ⟨b1, r1, q1, f1⟩ := pr1_s f0
    obtain ⟨qe, fe⟩ := pe_s f1
    obtain ⟨p, e1, e2⟩ := bnd_s fe
    subst qe
    subst q1
    subst q0
    exact ⟨_, _, _, _, 4, rfl, (by decide), m_X6_become N e1, e2⟩
  rcases kb_s e with ⟨rfl, e⟩ | e
  · obtain ⟨b0, r0, q0, f0⟩ := pr1_s e
    obtain ⟨b1, r1, q1, f1⟩ := pr1_s f0
    obtain ⟨qe, fe⟩ := pe_s f1
    obtain ⟨p, e1, e2⟩ := bnd_s fe
    subst qe
    subst q1
    subst q0
    exact ⟨_, _, _, _, 4, rfl, (by decide), m_X3_become N e1, e2⟩
  cases e
set_option maxRecDepth 100000 in
theorem m_X11_image (N : Nat) {a0 : Nat} {x1 : Int32} {h : mH} {q : Int32 × mH} (hf : f_X11_image N a0 x1 h = some q) : MM y_X11_image 5 [.ref a0, .int x1] h (some (.int q.1)) q.2 := by
  refine MM.of (mFx (j := 199) rfl).2.2.2.1 (Nat.le_of_ble_eq_true rfl) (fun X => ?_)
  refine ev_ok (o := 11) (ini := false) (Cl := C_X11_image N) (Rc := RcI) (B := B_X11_image) (K := fun pc ls st g => none) rfl (fun e => by cases e) (by decide) (rcI_ok rfl) ?_ (co_X11_image N q) lb_X11_image 3000 0 S_X11_image_0 _ _ h ls_X11_image_0 hf
  intro pc ls st g e
  cases e
def f_X11_restore (N : Nat) (a0 : Nat) (x1 : Int32) (h : mH) : Option (Int32 × mH) :=
  if x1 < 0 then
    (rcv h 11 a0).bind fun _ =>
    (f_X11_refuse N a0 (jI (-2)) h).bind fun p1 =>
    some (p1.1, p1.2)
  else
    (gR h 11 a0 11).bind fun v2 =>
    (lnA h v2).bind fun v3 =>
    if x1 < v3 then
      (gR h 11 a0 11).bind fun v4 =>
      (ldR 5 h v4 x1).bind fun v5 =>
      (gI h 4 v5 0).bind fun v6 =>
      if v6 = 0 then
        (rcv h 11 a0).bind fun _ =>
        (f_X11_refuse N a0 (jI (-5)) h).bind fun p7 =>
        some (p7.1, p7.2)
      else
        (gR h 11 a0 2).bind fun v8 =>
        (gR h 4 v5 1).bind fun v9 =>
        (rcv h 0 v8).bind fun _ =>
        (f_X0_become N v8 v9 h).bind fun h10 =>
        (gR h10 11 a0 6).bind fun v11 =>
        (gR h10 4 v5 2).bind fun v12 =>
        (rcv h10 6 v11).bind fun _ =>
        (f_X6_become N v11 v12 h10).bind fun h13 =>
        (gR h13 11 a0 7).bind fun v14 =>
        (gR h13 4 v5 3).bind fun v15 =>
        (rcv h13 6 v14).bind fun _ =>
        (f_X6_become N v14 v15 h13).bind fun h16 =>
        (gR h16 11 a0 9).bind fun v17 =>
        (gR h16 4 v5 4).bind fun v18 =>
        (rcv h16 3 v17).bind fun _ =>
        (f_X3_become N v17 v18 h16).bind fun h19 =>
        (rcv h19 11 a0).bind fun _ =>
        (f_X11_forgetAnswers N a0 h19).bind fun h20 =>
        some (jI 0, h20)
    else
      (rcv h 11 a0).bind fun _ =>
      (f_X11_refuse N a0 (jI (-2)) h).bind fun p21 =>
      some (p21.1, p21.2)
def y_X11_restore : mM := (yX11_restore, cX11_restore, 3, (some .int))
def B_X11_restore : List (Nat × List mI) := [(13, [(.aload_n 0, 1, [0], []), (.bipush (-2), 2, [], [-2]), (.invokevirtual 109, 3, [0, 203, 1, 11, 10], []), (.ireturn, 1, [], [])]), (20, [(.aload_n 0, 1, [0], []), (.getfield 73, 3, [11, 11, 2, 120], []), (.iload_n 1, 1, [1], []), (.aaload, 1, [5], []), (.astore_n 2, 1, [2], []), (.aload_n 2, 1, [2], []), (.getfield 432, 3, [4, 0, 0, 74], []), (.ifCond .ne 10, 3, [41], []), (.aload_n 0, 1, [0], []), (.bipush (-5), 2, [], [-5]), (.invokevirtual 109, 3, [0, 203, 1, 11, 10], []), (.ireturn, 1, [], [])]), (41, [(.aload_n 0, 1, [0], []), (.getfield 16, 3, [11, 2, 2, 111], []), (.aload_n 2, 1, [2], []), (.getfield 422, 3, [4, 1, 2, 76], []), (.invokevirtual 128, 3, [0, 2, 1, 0, 35], []), (.aload_n 0, 1, [0], []), (.getfield 42, 3, [11, 6, 2, 115], []), (.aload_n 2, 1, [2], []), (.getfield 423, 3, [4, 2, 2, 78], []), (.invokevirtual 424, 3, [0, 79, 1, 6, 259], []), (.aload_n 0, 1, [0], []), (.getfield 46, 3, [11, 7, 2, 116], []), (.aload_n 2, 1, [2], []), (.getfield 427, 3, [4, 3, 2, 80], []), (.invokevirtual 424, 3, [0, 79, 1, 6, 259], []), (.aload_n 0, 1, [0], []), (.getfield 59, 3, [11, 9, 2, 118], []), (.aload_n 2, 1, [2], []), (.getfield 428, 3, [4, 4, 2, 82], []), (.invokevirtual 429, 3, [0, 62, 1, 3, 260], []), (.aload_n 0, 1, [0], []), (.invokevirtual 134, 3, [0, 207, 0, 11, 37], []), (.iconst 0, 1, [], [0]), (.ireturn, 1, [], [])])]
def S_X11_restore_0 : List mI := [(.iload_n 1, 1, [1], []), (.ifCond .lt 12, 3, [13], []), (.iload_n 1, 1, [1], []), (.aload_n 0, 1, [0], []), (.getfield 73, 3, [11, 11, 2, 120], []), (.arraylength, 1, [0], []), (.if_icmp .lt 10, 3, [20], [])]
theorem lb_X11_restore : B_X11_restore.all (fun b => lst y_X11_restore.2.1 11 y_X11_restore.2.2.1 false b.1 b.2) = true := by decide +kernel
theorem ls_X11_restore_0 : lst y_X11_restore.2.1 11 y_X11_restore.2.2.1 false 0 S_X11_restore_0 = true := by decide +kernel
def C_X11_restore (N : Nat) : Nat → List Value → mH → (Option Value → mH → Option (Int32 × mH)) → Option (Int32 × mH) := fun j as g k => kb j 203 (pr1 as fun b0 as => pp1 as fun b1 as => pe as ((f_X11_refuse N b0 b1 g).bind fun p => k (some (.int p.1)) p.2)) (kb j 2 (pr1 as fun b0 as => pr1 as fun b1 as => pe as ((f_X0_become N b0 b1 g).bind fun p => k none p)) (kb j 79 (pr1 as fun b0 as => pr1 as fun b1 as => pe as ((f_X6_become N b0 b1 g).bind fun p => k none p)) (kb j 62 (pr1 as fun b0 as => pr1 as fun b1 as => pe as ((f_X3_become N b0 b1 g).bind fun p => k none p)) (kb j 207 (pr1 as fun b0 as => pe as ((f_X11_forgetAnswers N b0 g).bind fun p => k none p)) (none)))))
theorem co_X11_restore (N : Nat) (q : Int32 × mH) : clOK 6 q (C_X11_restore N) := by
  intro j as g k e
  rcases kb_s e with ⟨rfl, e⟩ | e
  · obtain ⟨b0, r0, q0, f0⟩ := pr1_s e
    obtain ⟨b1, r1, q1, f1⟩ := pp1_s f0
    obtain ⟨qe, fe⟩ := pe_s f1
    obtain ⟨p, e1, e2⟩ := bnd_s fe
    subst qe
    subst q1
    subst q0
    exact ⟨_, _, _, _, 4, rfl, (by decide), m_X11_refuse N e1, e2⟩
  rcases kb_s e with ⟨rfl, e⟩ | e
  · obtain ⟨b0, r0, q0, f0⟩ := pr1_s e
    obtain ⟨b1, r1, q1, f1⟩ := pr1_s f0
    obtain ⟨qe, fe⟩ := pe_s f1
    obtain ⟨p, e1, e2⟩ := bnd_s fe
    subst qe
    subst q1
    subst q0
    exact ⟨_, _, _, _, 4, rfl, (by decide), m_X0_become N e1, e2⟩
  rcases kb_s e with ⟨rfl, e⟩ | e
  · obtain ⟨b0, r0, q0, f0⟩ := pr1_s e
    obtain ⟨b1, r1, q1, f1⟩ := pr1_s f0
    obtain ⟨qe, fe⟩ := pe_s f1
    obtain ⟨p, e1, e2⟩ := bnd_s fe
    subst qe
    subst q1
    subst q0
    exact ⟨_, _, _, _, 4, rfl, (by decide), m_X6_become N e1, e2⟩
  rcases kb_s e with ⟨rfl, e⟩ | e
  · obtain ⟨b0, r0, q0, f0⟩ := pr1_s e
    obtain ⟨b1, r1, q1, f1⟩ := pr1_s f0
    obtain ⟨qe, fe⟩ := pe_s f1
    obtain ⟨p, e1, e2⟩ := bnd_s fe
    subst qe
    subst q1
    subst q0
    exact ⟨_, _, _, _, 4, rfl, (by decide), m_X3_become N e1, e2⟩
  rcases kb_s e with ⟨rfl, e⟩ | e
  · obtain ⟨b0, r0, q0, f0⟩ := pr1_s e
    obtain ⟨qe, fe⟩ := pe_s f0
    obtain ⟨p, e1, e2⟩ := bnd_s fe
    subst qe
    subst q0
    exact ⟨_, _, _, _, 5, rfl, (by decide), m_X11_forgetAnswers N e1, e2⟩
  cases e
set_option maxRecDepth 100000 in
theorem m_X11_restore (N : Nat) {a0 : Nat} {x1 : Int32} {h : mH} {q : Int32 × mH} (hf : f_X11_restore N a0 x1 h = some q) : MM y_X11_restore 6 [.ref a0, .int x1] h (some (.int q.1)) q.2 := by
  refine MM.of (mFx (j := 200) rfl).2.2.2.1 (Nat.le_of_ble_eq_true rfl) (fun X => ?_)
  refine ev_ok (o := 11) (ini := false) (Cl := C_X11_restore N) (Rc := RcI) (B := B_X11_restore) (K := fun pc ls st g => none) rfl (fun e => by cases e) (by decide) (rcI_ok rfl) ?_ (co_X11_restore N q) lb_X11_restore 3000 0 S_X11_restore_0 _ _ h ls_X11_restore_0 hf
  intro pc ls st g e
  cases e
def f_X11_status (N : Nat) (a0 : Nat) (x1 : Int32) (h : mH) : Option (Int32 × mH) :=
  if x1 < 0 then
    some (jI (-1), h)
  else
    (gR h 11 a0 15).bind fun v1 =>
    (lnA h v1).bind fun v2 =>
    if x1 < v2 then
      (gR h 11 a0 15).bind fun v3 =>
      (ldI 0 h v3 x1).bind fun v4 =>
      some (v4, h)
    else
      some (jI (-1), h)
def y_X11_status : mM := (yX11_status, cX11_status, 2, (some .int))
def B_X11_status : List (Nat × List mI) := [(22, [(.iconst (-1), 1, [], [-1])]), (23, [(.ireturn, 1, [], [])])]
def S_X11_status_0 : List mI := [(.iload_n 1, 1, [1], []), (.ifCond .lt 21, 3, [22], []), (.iload_n 1, 1, [1], []), (.aload_n 0, 1, [0], []), (.getfield 98, 3, [11, 15, 2, 124], []), (.arraylength, 1, [0], []), (.if_icmp .ge 12, 3, [22], []), (.aload_n 0, 1, [0], []), (.getfield 98, 3, [11, 15, 2, 124], []), (.iload_n 1, 1, [1], []), (.iaload, 1, [0], []), (.goto 4, 3, [23], [])]
theorem lb_X11_status : B_X11_status.all (fun b => lst y_X11_status.2.1 11 y_X11_status.2.2.1 false b.1 b.2) = true := by decide +kernel
theorem ls_X11_status_0 : lst y_X11_status.2.1 11 y_X11_status.2.2.1 false 0 S_X11_status_0 = true := by decide +kernel
def C_X11_status (N : Nat) : Nat → List Value → mH → (Option Value → mH → Option (Int32 × mH)) → Option (Int32 × mH) := fun j as g k => none
theorem co_X11_status (N : Nat) (q : Int32 × mH) : clOK 4 q (C_X11_status N) := by
  intro j as g k e
  cases e
set_option maxRecDepth 100000 in
theorem m_X11_status (N : Nat) {a0 : Nat} {x1 : Int32} {h : mH} {q : Int32 × mH} (hf : f_X11_status N a0 x1 h = some q) : MM y_X11_status 4 [.ref a0, .int x1] h (some (.int q.1)) q.2 := by
  refine MM.of (mFx (j := 201) rfl).2.2.2.1 (Nat.le_of_ble_eq_true rfl) (fun X => ?_)
  refine ev_ok (o := 11) (ini := false) (Cl := C_X11_status N) (Rc := RcI) (B := B_X11_status) (K := fun pc ls st g => none) rfl (fun e => by cases e) (by decide) (rcI_ok rfl) ?_ (co_X11_status N q) lb_X11_status 3000 0 S_X11_status_0 _ _ h ls_X11_status_0 hf
  intro pc ls st g e
  cases e
def f_X11_count (N : Nat) (a0 : Nat) (x1 : Int32) (h : mH) : Option (Int32 × mH) :=
  if x1 = jI 0 then
    (gR h 11 a0 2).bind fun v1 =>
    (gI h 0 v1 0).bind fun v2 =>
    some (v2, h)
  else
  if x1 = jI 1 then
    (gR h 11 a0 2).bind fun v3 =>
    (gI h 0 v3 1).bind fun v4 =>
    some (v4, h)
  else
  if x1 = jI 2 then
    (gR h 11 a0 2).bind fun v5 =>
    (gI h 0 v5 2).bind fun v6 =>
    some (v6, h)
  else
  if x1 = jI 3 then
    (gR h 11 a0 2).bind fun v7 =>
    (gI h 0 v7 3).bind fun v8 =>
    some (v8, h)
  else
  if x1 = jI 4 then
    (gR h 11 a0 2).bind fun v9 =>
    (gI h 0 v9 4).bind fun v10 =>
    some (v10, h)
  else
  if x1 = jI 5 then
    (gR h 11 a0 2).bind fun v11 =>
    (gI h 0 v11 5).bind fun v12 =>
    some (v12, h)
  else
  if x1 = jI 6 then
    (gR h 11 a0 2).bind fun v13 =>
    (gI h 0 v13 6).bind fun v14 =>
    some (v14, h)
  else
  if x1 = jI 7 then
    (gI h 11 a0 1).bind fun v15 =>
    some (v15, h)
  else
  if x1 = jI 8 then
    (gR h 11 a0 6).bind fun v16 =>
    (gI h 6 v16 0).bind fun v17 =>
    if v17 = 0 then
      some (jI (-1), h)
    else
      (gR h 11 a0 6).bind fun v18 =>
      (gI h 6 v18 0).bind fun v19 =>
      some (v19, h)
  else
  if x1 = jI 9 then
    (gR h 11 a0 7).bind fun v20 =>
    (gI h 6 v20 0).bind fun v21 =>
    if v21 = 0 then
      some (jI (-1), h)
    else
      (gR h 11 a0 7).bind fun v22 =>
      (gI h 6 v22 0).bind fun v23 =>
      some (v23, h)
  else
  some (jI (-1), h)
def y_X11_count : mM := (yX11_count, cX11_count, 2, (some .int))
def B_X11_count : List (Nat × List mI) := [(56, [(.aload_n 0, 1, [0], []), (.getfield 16, 3, [11, 2, 2, 111], []), (.getfield 254, 3, [0, 0, 0, 3], []), (.ireturn, 1, [], [])]), (64, [(.aload_n 0, 1, [0], []), (.getfield 16, 3, [11, 2, 2, 111], []), (.getfield 276, 3, [0, 1, 0, 6], []), (.ireturn, 1, [], [])]), (72, [(.aload_n 0, 1, [0], []), (.getfield 16, 3, [11, 2, 2, 111], []), (.getfield 347, 3, [0, 2, 0, 10], []), (.ireturn, 1, [], [])]), (80, [(.aload_n 0, 1, [0], []), (.getfield 16, 3, [11, 2, 2, 111], []), (.getfield 436, 3, [0, 3, 0, 13], []), (.ireturn, 1, [], [])]), (88, [(.aload_n 0, 1, [0], []), (.getfield 16, 3, [11, 2, 2, 111], []), (.getfield 180, 3, [0, 4, 0, 16], []), (.ireturn, 1, [], [])]), (96, [(.aload_n 0, 1, [0], []), (.getfield 16, 3, [11, 2, 2, 111], []), (.getfield 439, 3, [0, 5, 0, 20], []), (.ireturn, 1, [], [])]), (104, [(.aload_n 0, 1, [0], []), (.getfield 16, 3, [11, 2, 2, 111], []), (.getfield 137, 3, [0, 6, 0, 23], []), (.ireturn, 1, [], [])]), (112, [(.aload_n 0, 1, [0], []), (.getfield 105, 3, [11, 1, 0, 110], []), (.ireturn, 1, [], [])]), (117, [(.aload_n 0, 1, [0], []), (.getfield 42, 3, [11, 6, 2, 115], []), (.getfield 251, 3, [6, 0, 0, 48], []), (.ifCond .ne 7, 3, [131], []), (.iconst (-1), 1, [], [-1]), (.goto 10, 3, [138], [])]), (131, [(.aload_n 0, 1, [0], []), (.getfield 42, 3, [11, 6, 2, 115], []), (.getfield 251, 3, [6, 0, 0, 48], [])]), (138, [(.ireturn, 1, [], [])]), (139, [(.aload_n 0, 1, [0], []), (.getfield 46, 3, [11, 7, 2, 116], []), (.getfield 251, 3, [6, 0, 0, 48], []), (.ifCond .ne 7, 3, [153], []), (.iconst (-1), 1, [], [-1]), (.goto 10, 3, [160], [])]), (153, [(.aload_n 0, 1, [0], []), (.getfield 46, 3, [11, 7, 2, 116], []), (.getfield 251, 3, [6, 0, 0, 48], [])]), (160, [(.ireturn, 1, [], [])]), (161, [(.iconst (-1), 1, [], [-1]), (.ireturn, 1, [], [])])]
def S_X11_count_0 : List mI := [(.iload_n 1, 1, [1], []), (.tableswitch 160 0 9 #[55, 63, 71, 79, 87, 95, 103, 111, 116, 138], 55, [161, 56, 64, 72, 80, 88, 96, 104, 112, 117, 139], [0, 1, 2, 3, 4, 5, 6, 7, 8, 9])]
theorem lb_X11_count : B_X11_count.all (fun b => lst y_X11_count.2.1 11 y_X11_count.2.2.1 false b.1 b.2) = true := by decide +kernel
theorem ls_X11_count_0 : lst y_X11_count.2.1 11 y_X11_count.2.2.1 false 0 S_X11_count_0 = true := by decide +kernel
def C_X11_count (N : Nat) : Nat → List Value → mH → (Option Value → mH → Option (Int32 × mH)) → Option (Int32 × mH) := fun j as g k => none
theorem co_X11_count (N : Nat) (q : Int32 × mH) : clOK 4 q (C_X11_count N) := by
  intro j as g k e
  cases e
set_option maxRecDepth 100000 in
theorem m_X11_count (N : Nat) {a0 : Nat} {x1 : Int32} {h : mH} {q : Int32 × mH} (hf : f_X11_count N a0 x1 h = some q) : MM y_X11_count 4 [.ref a0, .int x1] h (some (.int q.1)) q.2 := by
  refine MM.of (mFx (j := 202) rfl).2.2.2.1 (Nat.le_of_ble_eq_true rfl) (fun X => ?_)
  refine ev_ok (o := 11) (ini := false) (Cl := C_X11_count N) (Rc := RcI) (B := B_X11_count) (K := fun pc ls st g => none) rfl (fun e => by cases e) (by decide) (rcI_ok rfl) ?_ (co_X11_count N q) lb_X11_count 3000 0 S_X11_count_0 _ _ h ls_X11_count_0 hf
  intro pc ls st g e
  cases e
def J_X12_no_55 (N : Nat) (x1 : Int32) (s_0 : Nat) (s_1 : Int32) (h : mH) : Option (Int32 × mH) :=
  (ldI 0 h s_0 s_1).bind fun v1 =>
  (stI 0 h s_0 s_1 (iAdd v1 (jI 1))).bind fun h2 =>
  some (x1, h2)
def f_X12_no (N : Nat) (a0 : Nat) (x1 : Int32) (h : mH) : Option (Int32 × mH) :=
  (gR h 12 a0 1).bind fun v1 =>
  if x1 = (jI (-2)) then
    J_X12_no_55 N x1 v1 (jI 0) h
  else
    if x1 = (jI (-3)) then
      J_X12_no_55 N x1 v1 (jI 1) h
    else
      if x1 = (jI (-5)) then
        J_X12_no_55 N x1 v1 (jI 2) h
      else
        if x1 = (jI (-6)) then
          J_X12_no_55 N x1 v1 (jI 3) h
        else
          if x1 = (jI (-7)) then
            J_X12_no_55 N x1 v1 (jI 4) h
          else
            J_X12_no_55 N x1 v1 (jI 5) h
def y_X12_no : mM := (yX12_no, cX12_no, 2, (some .int))
def B_X12_no : List (Nat × List mI) := [(14, [(.iload_n 1, 1, [1], []), (.bipush (-3), 2, [], [-3]), (.if_icmp .ne 7, 3, [24], []), (.iconst 1, 1, [], [1]), (.goto 34, 3, [55], [])]), (24, [(.iload_n 1, 1, [1], []), (.bipush (-5), 2, [], [-5]), (.if_icmp .ne 7, 3, [34], []), (.iconst 2, 1, [], [2]), (.goto 24, 3, [55], [])]), (34, [(.iload_n 1, 1, [1], []), (.bipush (-6), 2, [], [-6]), (.if_icmp .ne 7, 3, [44], []), (.iconst 3, 1, [], [3]), (.goto 14, 3, [55], [])]), (44, [(.iload_n 1, 1, [1], []), (.bipush (-7), 2, [], [-7]), (.if_icmp .ne 7, 3, [54], []), (.iconst 4, 1, [], [4]), (.goto 4, 3, [55], [])]), (54, [(.iconst 5, 1, [], [5])])]
def S_X12_no_0 : List mI := [(.aload_n 0, 1, [0], []), (.getfield 7, 3, [12, 1, 2, 127], []), (.iload_n 1, 1, [1], []), (.bipush (-2), 2, [], [-2]), (.if_icmp .ne 7, 3, [14], []), (.iconst 0, 1, [], [0]), (.goto 44, 3, [55], [])]
def S_X12_no_55 : List mI := [(.dup2, 1, [], []), (.iaload, 1, [0], []), (.iconst 1, 1, [], [1]), (.iadd, 1, [], []), (.iastore, 1, [], []), (.iload_n 1, 1, [1], []), (.ireturn, 1, [], [])]
theorem lb_X12_no : B_X12_no.all (fun b => lst y_X12_no.2.1 12 y_X12_no.2.2.1 false b.1 b.2) = true := by decide +kernel
theorem ls_X12_no_0 : lst y_X12_no.2.1 12 y_X12_no.2.2.1 false 0 S_X12_no_0 = true := by decide +kernel
theorem ls_X12_no_55 : lst y_X12_no.2.1 12 y_X12_no.2.2.1 false 55 S_X12_no_55 = true := by decide +kernel
def C_X12_no (N : Nat) : Nat → List Value → mH → (Option Value → mH → Option (Int32 × mH)) → Option (Int32 × mH) := fun j as g k => none
theorem co_X12_no (N : Nat) (q : Int32 × mH) : clOK 4 q (C_X12_no N) := by
  intro j as g k e
  cases e
set_option maxRecDepth 100000 in
theorem t_X12_no_55 {X : Nat × (Nat → Int32)} (N : Nat) {q : Int32 × mH} (x1 : Int32) (s_0 : Nat) (s_1 : Int32) (h : mH) (hf : J_X12_no_55 N x1 s_0 s_1 h = some q) : MW X y_X12_no 4 55 [(1, .int x1)] [.int s_1, .ref s_0] h (some (.int q.1)) q.2 := by
  refine ev_ok (o := 12) (ini := false) (Cl := C_X12_no N) (Rc := RcI) (B := B_X12_no) (K := fun pc ls st g => none) rfl (fun e => by cases e) (by decide) (rcI_ok rfl) ?_ (co_X12_no N q) lb_X12_no 3000 55 S_X12_no_55 _ _ h ls_X12_no_55 hf
  intro pc ls st g e
  cases e
set_option maxRecDepth 100000 in
theorem m_X12_no (N : Nat) {a0 : Nat} {x1 : Int32} {h : mH} {q : Int32 × mH} (hf : f_X12_no N a0 x1 h = some q) : MM y_X12_no 4 [.ref a0, .int x1] h (some (.int q.1)) q.2 := by
  refine MM.of (mFx (j := 224) rfl).2.2.2.1 (Nat.le_of_ble_eq_true rfl) (fun X => ?_)
  refine ev_ok (o := 12) (ini := false) (Cl := C_X12_no N) (Rc := RcI) (B := B_X12_no) (K := fun pc ls st g => kb pc 55 (lgi 1 ls fun x1 => pp1 st fun s_1 st => pr1 st fun s_0 st => pe st (J_X12_no_55 N x1 s_0 s_1 g)) (none)) rfl (fun e => by cases e) (by decide) (rcI_ok rfl) ?_ (co_X12_no N q) lb_X12_no 3000 0 S_X12_no_0 _ _ h ls_X12_no_0 hf
  intro pc ls st g e
  rcases kb_s e with ⟨rfl, e⟩ | e
  · obtain ⟨x1, e0, f0⟩ := lgi_s e
    obtain ⟨s_1, r0, q0, g0⟩ := pp1_s f0
    obtain ⟨s_0, r1, q1, g1⟩ := pr1_s g0
    obtain ⟨qe, fe⟩ := pe_s g1
    subst qe
    subst q1
    subst q0
    exact MW.sub (List.forall_mem_cons.mpr ⟨lg_mem e0, fun _ h => absurd h List.not_mem_nil⟩) (t_X12_no_55 N x1 s_0 s_1 g fe)
  cases e
def f_X12_within (N : Nat) (l0 : Int64) (l2 : Int64) (l4 : Int64) (h : mH) : Option (Int32 × mH) :=
  if l0 < l2 then
    some (jI 0, h)
  else
    if l4 < l0 then
      some (jI 0, h)
    else
      some (jI 1, h)
def y_X12_within : mM := (yX12_within, cX12_within, 6, (some .boolean))
def B_X12_within : List (Nat × List mI) := [(17, [(.iconst 0, 1, [], [0])]), (18, [(.ireturn, 1, [], [])])]
def S_X12_within_0 : List mI := [(.lload_n 0, 1, [0], []), (.lload_n 2, 1, [2], []), (.lcmp, 1, [], []), (.ifCond .lt 14, 3, [17], []), (.lload_n 0, 1, [0], []), (.lload 4, 2, [4], []), (.lcmp, 1, [], []), (.ifCond .gt 7, 3, [17], []), (.iconst 1, 1, [], [1]), (.goto 4, 3, [18], [])]
theorem lb_X12_within : B_X12_within.all (fun b => lst y_X12_within.2.1 12 y_X12_within.2.2.1 false b.1 b.2) = true := by decide +kernel
theorem ls_X12_within_0 : lst y_X12_within.2.1 12 y_X12_within.2.2.1 false 0 S_X12_within_0 = true := by decide +kernel
def C_X12_within (N : Nat) : Nat → List Value → mH → (Option Value → mH → Option (Int32 × mH)) → Option (Int32 × mH) := fun j as g k => none
theorem co_X12_within (N : Nat) (q : Int32 × mH) : clOK 4 q (C_X12_within N) := by
  intro j as g k e
  cases e
set_option maxRecDepth 100000 in
theorem m_X12_within (N : Nat) {l0 : Int64} {l2 : Int64} {l4 : Int64} {h : mH} {q : Int32 × mH} (hf : f_X12_within N l0 l2 l4 h = some q) : MM y_X12_within 4 [.long l0, .long l2, .long l4] h (some (.int q.1)) q.2 := by
  refine MM.of (mFx (j := 225) rfl).2.2.2.1 (Nat.le_of_ble_eq_true rfl) (fun X => ?_)
  refine ev_ok (o := 12) (ini := false) (Cl := C_X12_within N) (Rc := RcZ) (B := B_X12_within) (K := fun pc ls st g => none) rfl (fun e => by cases e) (by decide) (rcZ_ok rfl) ?_ (co_X12_within N q) lb_X12_within 3000 0 S_X12_within_0 _ _ h ls_X12_within_0 hf
  intro pc ls st g e
  cases e
def L_X12_plain_2 (N : Nat) : Nat → Nat → Int32 → mH → Option (mH)
  | 0, _, _, _ => none
  | n + 1, a0, x1, h =>
    if x1 < (jI 143) then
      if x1 = (jI 140) then
        (stI 0 h a0 x1 (jI 2)).bind fun h1 =>
        let w2 := iAdd x1 (jI 1)
        L_X12_plain_2 N n a0 w2 h1
      else
        if x1 = (jI 141) then
          (stI 0 h a0 x1 (jI 100)).bind fun h3 =>
          let w4 := iAdd x1 (jI 1)
          L_X12_plain_2 N n a0 w4 h3
        else
          (stI 0 h a0 x1 (jI 0)).bind fun h5 =>
          let w6 := iAdd x1 (jI 1)
          L_X12_plain_2 N n a0 w6 h5
    else
      some h
def f_X12_plain (N : Nat) (a0 : Nat) (h : mH) : Option (mH) :=
  L_X12_plain_2 N N a0 (jI 0) h
def y_X12_plain : mM := (yX12_plain, cX12_plain, 2, none)
def B_X12_plain : List (Nat × List mI) := [(22, [(.iload_n 1, 1, [1], []), (.sipush 141, 3, [], [141]), (.if_icmp .ne 8, 3, [34], []), (.bipush 100, 2, [], [100]), (.goto 4, 3, [35], [])]), (34, [(.iconst 0, 1, [], [0])]), (35, [(.iastore, 1, [], []), (.iinc 1 1, 3, [1], [1]), (.goto (-37), 3, [2], [])]), (42, [(.return_, 1, [], [])])]
def S_X12_plain_0 : List mI := [(.iconst 0, 1, [], [0]), (.istore_n 1, 1, [1], [])]
def S_X12_plain_2 : List mI := [(.iload_n 1, 1, [1], []), (.sipush 143, 3, [], [143]), (.if_icmp .ge 36, 3, [42], []), (.aload_n 0, 1, [0], []), (.iload_n 1, 1, [1], []), (.iload_n 1, 1, [1], []), (.sipush 140, 3, [], [140]), (.if_icmp .ne 7, 3, [22], []), (.iconst 2, 1, [], [2]), (.goto 16, 3, [35], [])]
theorem lb_X12_plain : B_X12_plain.all (fun b => lst y_X12_plain.2.1 12 y_X12_plain.2.2.1 false b.1 b.2) = true := by decide +kernel
theorem ls_X12_plain_0 : lst y_X12_plain.2.1 12 y_X12_plain.2.2.1 false 0 S_X12_plain_0 = true := by decide +kernel
theorem ls_X12_plain_2 : lst y_X12_plain.2.1 12 y_X12_plain.2.2.1 false 2 S_X12_plain_2 = true := by decide +kernel
def C_X12_plain (N : Nat) : Nat → List Value → mH → (Option Value → mH → Option (mH)) → Option (mH) := fun j as g k => none
theorem co_X12_plain (N : Nat) (q : mH) : clOK 4 q (C_X12_plain N) := by
  intro j as g k e
  cases e
set_option maxRecDepth 100000 in
theorem t_X12_plain_2 {X : Nat × (Nat → Int32)} (N : Nat) {q : mH} : ∀ (n : Nat) (a0 : Nat) (x1 : Int32) (h : mH), L_X12_plain_2 N n a0 x1 h = some q → MW X y_X12_plain 4 2 [(0, .ref a0), (1, .int x1)] [] h none q := by
  intro n
  induction n with
  | zero => intro a0 x1 h hf; cases hf
  | succ n ih =>
    intro a0 x1 h hf
    refine ev_ok (o := 12) (ini := false) (Cl := C_X12_plain N) (Rc := RcV) (B := B_X12_plain) (K := fun pc ls st g => kb pc 2 (lgr 0 ls fun a0 => lgi 1 ls fun x1 => pe st (L_X12_plain_2 N n a0 x1 g)) (none)) rfl (fun e => by cases e) (by decide) (rcV_ok rfl) ?_ (co_X12_plain N q) lb_X12_plain 3000 2 S_X12_plain_2 _ _ h ls_X12_plain_2 hf
    intro pc ls st g e
    rcases kb_s e with ⟨rfl, e⟩ | e
    · obtain ⟨a0, e0, f0⟩ := lgr_s e
      obtain ⟨x1, e1, f1⟩ := lgi_s f0
      obtain ⟨qe, fe⟩ := pe_s f1
      subst qe
      exact MW.sub (List.forall_mem_cons.mpr ⟨lg_mem e0, List.forall_mem_cons.mpr ⟨lg_mem e1, fun _ h => absurd h List.not_mem_nil⟩⟩) (ih a0 x1 g fe)
    cases e
set_option maxRecDepth 100000 in
theorem m_X12_plain (N : Nat) {a0 : Nat} {h : mH} {q : mH} (hf : f_X12_plain N a0 h = some q) : MM y_X12_plain 4 [.ref a0] h none q := by
  refine MM.of (mFx (j := 227) rfl).2.2.2.1 (Nat.le_of_ble_eq_true rfl) (fun X => ?_)
  refine ev_ok (o := 12) (ini := false) (Cl := C_X12_plain N) (Rc := RcV) (B := B_X12_plain) (K := fun pc ls st g => kb pc 2 (lgr 0 ls fun a0 => lgi 1 ls fun x1 => pe st (L_X12_plain_2 N N a0 x1 g)) (none)) rfl (fun e => by cases e) (by decide) (rcV_ok rfl) ?_ (co_X12_plain N q) lb_X12_plain 3000 0 S_X12_plain_0 _ _ h ls_X12_plain_0 hf
  intro pc ls st g e
  rcases kb_s e with ⟨rfl, e⟩ | e
  · obtain ⟨a0, e0, f0⟩ := lgr_s e
    obtain ⟨x1, e1, f1⟩ := lgi_s f0
    obtain ⟨qe, fe⟩ := pe_s f1
    subst qe
    exact MW.sub (List.forall_mem_cons.mpr ⟨lg_mem e0, List.forall_mem_cons.mpr ⟨lg_mem e1, fun _ h => absurd h List.not_mem_nil⟩⟩) (t_X12_plain_2 N N a0 x1 g fe)
  cases e
def L_X12_init_203 (N : Nat) : Nat → Nat → Int32 → mH → Option (mH)
  | 0, _, _, _ => none
  | n + 1, a0, x1, h =>
    if x1 < (jI 8) then
      (gR h 12 a0 2).bind fun v1 =>
      (stI 0 h v1 (iAdd (jI 657) x1) (jI (-1))).bind fun h2 =>
      let w3 := iAdd x1 (jI 1)
      L_X12_init_203 N n a0 w3 h2
    else
      some h
def f_X12_init (N : Nat) (a0 : Nat) (h : mH) : Option (mH) :=
  (nwA h 0 (jI 6)).bind fun h1 =>
  (pV h1 12 a0 1 (.ref h.1)).bind fun h2 =>
  (nwA h2 0 (jI 1995)).bind fun h3 =>
  (pV h3 12 a0 2 (.ref h2.1)).bind fun h4 =>
  (nwA h4 3 (jI 2)).bind fun h5 =>
  (pV h5 12 a0 3 (.ref h4.1)).bind fun h6 =>
  (nwA h6 0 (jI 500)).bind fun h7 =>
  (pV h7 12 a0 4 (.ref h6.1)).bind fun h8 =>
  (nwA h8 0 (jI 143)).bind fun h9 =>
  (pV h9 12 a0 5 (.ref h8.1)).bind fun h10 =>
  (pV h10 12 a0 15 (.int (jI (-1)))).bind fun h11 =>
  (nwA h11 0 (jI 4)).bind fun h12 =>
  (pV h12 12 a0 16 (.ref h11.1)).bind fun h13 =>
  (nwA h13 0 (jI 4)).bind fun h14 =>
  (pV h14 12 a0 22 (.ref h13.1)).bind fun h15 =>
  (nwA h15 0 (jI 9)).bind fun h16 =>
  (pV h16 12 a0 23 (.ref h15.1)).bind fun h17 =>
  (nwA h17 0 (jI 9)).bind fun h18 =>
  (pV h18 12 a0 24 (.ref h17.1)).bind fun h19 =>
  (nwA h19 1 (jI 40)).bind fun h20 =>
  (pV h20 12 a0 25 (.ref h19.1)).bind fun h21 =>
  (nwA h21 0 (jI 8)).bind fun h22 =>
  (pV h22 12 a0 26 (.ref h21.1)).bind fun h23 =>
  (nwA h23 0 (jI 8)).bind fun h24 =>
  (pV h24 12 a0 27 (.ref h23.1)).bind fun h25 =>
  (nwA h25 0 (jI 8)).bind fun h26 =>
  (pV h26 12 a0 28 (.ref h25.1)).bind fun h27 =>
  (nwA h27 0 (jI 608000)).bind fun h28 =>
  (pV h28 12 a0 31 (.ref h27.1)).bind fun h29 =>
  (nwA h29 0 (jI 40)).bind fun h30 =>
  (pV h30 12 a0 32 (.ref h29.1)).bind fun h31 =>
  (nwA h31 0 (jI 8)).bind fun h32 =>
  (pV h32 12 a0 33 (.ref h31.1)).bind fun h33 =>
  (nwA h33 0 (jI 4)).bind fun h34 =>
  (stI 0 h34 h33.1 (jI 0) (jI (-1))).bind fun h35 =>
  (stI 0 h35 h33.1 (jI 1) (jI (-1))).bind fun h36 =>
  (stI 0 h36 h33.1 (jI 2) (jI (-1))).bind fun h37 =>
  (stI 0 h37 h33.1 (jI 3) (jI (-1))).bind fun h38 =>
  (pV h38 12 a0 34 (.ref h33.1)).bind fun h39 =>
  (nwA h39 0 (jI 4)).bind fun h40 =>
  (pV h40 12 a0 35 (.ref h39.1)).bind fun h41 =>
  (nwA h41 1 (jI 160)).bind fun h42 =>
  (pV h42 12 a0 36 (.ref h41.1)).bind fun h43 =>
  (gR h43 12 a0 2).bind fun v44 =>
  (f_X12_plain N v44 h43).bind fun h45 =>
  (gR h45 12 a0 2).bind fun v46 =>
  (stI 0 h45 v46 (jI 143) (jI (-1))).bind fun h47 =>
  (gR h47 12 a0 2).bind fun v48 =>
  (stI 0 h47 v48 (jI 400) (jI (-1))).bind fun h49 =>
  L_X12_init_203 N N a0 (jI 0) h49
def y_X12_init : mM := (yX12_init, cX12_init, 2, none)
def B_X12_init : List (Nat × List mI) := [(226, [(.return_, 1, [], [])])]
def S_X12_init_0 : List mI := [(.aload_n 0, 1, [0], []), (.invokespecial 11, 3, [5, 0, 0, 0, 38], []), (.aload_n 0, 1, [0], []), (.bipush 6, 2, [], [6]), (.newarray .int, 2, [0], []), (.putfield 7, 3, [12, 1, 2, 127], []), (.aload_n 0, 1, [0], []), (.sipush 1995, 3, [], [1995]), (.newarray .int, 2, [0], []), (.putfield 17, 3, [12, 2, 2, 128], []), (.aload_n 0, 1, [0], []), (.iconst 2, 1, [], [2]), (.newarray .boolean, 2, [3], []), (.putfield 20, 3, [12, 3, 2, 129], []), (.aload_n 0, 1, [0], []), (.sipush 500, 3, [], [500]), (.newarray .int, 2, [0], []), (.putfield 24, 3, [12, 4, 2, 130], []), (.aload_n 0, 1, [0], []), (.sipush 143, 3, [], [143]), (.newarray .int, 2, [0], []), (.putfield 27, 3, [12, 5, 2, 131], []), (.aload_n 0, 1, [0], []), (.iconst (-1), 1, [], [-1]), (.putfield 30, 3, [12, 15, 0, 141], []), (.aload_n 0, 1, [0], []), (.iconst 4, 1, [], [4]), (.newarray .int, 2, [0], []), (.putfield 33, 3, [12, 16, 2, 142], []), (.aload_n 0, 1, [0], []), (.iconst 4, 1, [], [4]), (.newarray .int, 2, [0], []), (.putfield 36, 3, [12, 22, 2, 148], []), (.aload_n 0, 1, [0], []), (.bipush 9, 2, [], [9]), (.newarray .int, 2, [0], []), (.putfield 39, 3, [12, 23, 2, 149], []), (.aload_n 0, 1, [0], []), (.bipush 9, 2, [], [9]), (.newarray .int, 2, [0], []), (.putfield 42, 3, [12, 24, 2, 150], []), (.aload_n 0, 1, [0], []), (.bipush 40, 2, [], [40]), (.newarray .long, 2, [1], []), (.putfield 45, 3, [12, 25, 2, 151], []), (.aload_n 0, 1, [0], []), (.bipush 8, 2, [], [8]), (.newarray .int, 2, [0], []), (.putfield 49, 3, [12, 26, 2, 152], []), (.aload_n 0, 1, [0], []), (.bipush 8, 2, [], [8]), (.newarray .int, 2, [0], []), (.putfield 52, 3, [12, 27, 2, 153], []), (.aload_n 0, 1, [0], []), (.bipush 8, 2, [], [8]), (.newarray .int, 2, [0], []), (.putfield 55, 3, [12, 28, 2, 154], []), (.aload_n 0, 1, [0], []), (.ldc 58, 2, [0, 9], [608000]), (.newarray .int, 2, [0], []), (.putfield 59, 3, [12, 31, 2, 157], []), (.aload_n 0, 1, [0], []), (.bipush 40, 2, [], [40]), (.newarray .int, 2, [0], []), (.putfield 62, 3, [12, 32, 2, 158], []), (.aload_n 0, 1, [0], []), (.bipush 8, 2, [], [8]), (.newarray .int, 2, [0], []), (.putfield 65, 3, [12, 33, 2, 159], []), (.aload_n 0, 1, [0], []), (.iconst 4, 1, [], [4]), (.newarray .int, 2, [0], []), (.dup, 1, [], []), (.iconst 0, 1, [], [0]), (.iconst (-1), 1, [], [-1]), (.iastore, 1, [], []), (.dup, 1, [], []), (.iconst 1, 1, [], [1]), (.iconst (-1), 1, [], [-1]), (.iastore, 1, [], []), (.dup, 1, [], []), (.iconst 2, 1, [], [2]), (.iconst (-1), 1, [], [-1]), (.iastore, 1, [], []), (.dup, 1, [], []), (.iconst 3, 1, [], [3]), (.iconst (-1), 1, [], [-1]), (.iastore, 1, [], []), (.putfield 68, 3, [12, 34, 2, 160], []), (.aload_n 0, 1, [0], []), (.iconst 4, 1, [], [4]), (.newarray .int, 2, [0], []), (.putfield 71, 3, [12, 35, 2, 161], []), (.aload_n 0, 1, [0], []), (.sipush 160, 3, [], [160]), (.newarray .long, 2, [1], []), (.putfield 74, 3, [12, 36, 2, 162], []), (.aload_n 0, 1, [0], []), (.getfield 17, 3, [12, 2, 2, 128], []), (.invokestatic 77, 3, [1, 227, 1, 0, 265], []), (.aload_n 0, 1, [0], []), (.getfield 17, 3, [12, 2, 2, 128], []), (.sipush 143, 3, [], [143]), (.iconst (-1), 1, [], [-1]), (.iastore, 1, [], []), (.aload_n 0, 1, [0], []), (.getfield 17, 3, [12, 2, 2, 128], []), (.sipush 400, 3, [], [400]), (.iconst (-1), 1, [], [-1]), (.iastore, 1, [], []), (.iconst 0, 1, [], [0]), (.istore_n 1, 1, [1], [])]
def S_X12_init_203 : List mI := [(.iload_n 1, 1, [1], []), (.bipush 8, 2, [], [8]), (.if_icmp .ge 20, 3, [226], []), (.aload_n 0, 1, [0], []), (.getfield 17, 3, [12, 2, 2, 128], []), (.sipush 657, 3, [], [657]), (.iload_n 1, 1, [1], []), (.iadd, 1, [], []), (.iconst (-1), 1, [], [-1]), (.iastore, 1, [], []), (.iinc 1 1, 3, [1], [1]), (.goto (-20), 3, [203], [])]
theorem lb_X12_init : B_X12_init.all (fun b => lst y_X12_init.2.1 12 y_X12_init.2.2.1 true b.1 b.2) = true := by decide +kernel
theorem ls_X12_init_0 : lst y_X12_init.2.1 12 y_X12_init.2.2.1 true 0 S_X12_init_0 = true := by decide +kernel
theorem ls_X12_init_203 : lst y_X12_init.2.1 12 y_X12_init.2.2.1 true 203 S_X12_init_203 = true := by decide +kernel
def C_X12_init (N : Nat) : Nat → List Value → mH → (Option Value → mH → Option (mH)) → Option (mH) := fun j as g k => kb j 227 (pr1 as fun b0 as => pe as ((f_X12_plain N b0 g).bind fun p => k none p)) (none)
theorem co_X12_init (N : Nat) (q : mH) : clOK 5 q (C_X12_init N) := by
  intro j as g k e
  rcases kb_s e with ⟨rfl, e⟩ | e
  · obtain ⟨b0, r0, q0, f0⟩ := pr1_s e
    obtain ⟨qe, fe⟩ := pe_s f0
    obtain ⟨p, e1, e2⟩ := bnd_s fe
    subst qe
    subst q0
    exact ⟨_, _, _, _, 4, rfl, (by decide), m_X12_plain N e1, e2⟩
  cases e
set_option maxRecDepth 100000 in
theorem t_X12_init_203 {X : Nat × (Nat → Int32)} (N : Nat) {q : mH} : ∀ (n : Nat) (a0 : Nat) (x1 : Int32) (h : mH), L_X12_init_203 N n a0 x1 h = some q → MW X y_X12_init 5 203 [(0, .ref a0), (1, .int x1)] [] h none q := by
  intro n
  induction n with
  | zero => intro a0 x1 h hf; cases hf
  | succ n ih =>
    intro a0 x1 h hf
    refine ev_ok (o := 12) (ini := true) (Cl := C_X12_init N) (Rc := RcV) (B := B_X12_init) (K := fun pc ls st g => kb pc 203 (lgr 0 ls fun a0 => lgi 1 ls fun x1 => pe st (L_X12_init_203 N n a0 x1 g)) (none)) rfl (fun _ => rfl) (by decide) (rcV_ok rfl) ?_ (co_X12_init N q) lb_X12_init 3000 203 S_X12_init_203 _ _ h ls_X12_init_203 hf
    intro pc ls st g e
    rcases kb_s e with ⟨rfl, e⟩ | e
    · obtain ⟨a0, e0, f0⟩ := lgr_s e
      obtain ⟨x1, e1, f1⟩ := lgi_s f0
      obtain ⟨qe, fe⟩ := pe_s f1
      subst qe
      exact MW.sub (List.forall_mem_cons.mpr ⟨lg_mem e0, List.forall_mem_cons.mpr ⟨lg_mem e1, fun _ h => absurd h List.not_mem_nil⟩⟩) (ih a0 x1 g fe)
    cases e
set_option maxRecDepth 100000 in
theorem m_X12_init (N : Nat) {a0 : Nat} {h : mH} {q : mH} (hf : f_X12_init N a0 h = some q) : MM y_X12_init 5 [.ref a0] h none q := by
  refine MM.of (mFx (j := 226) rfl).2.2.2.1 (Nat.le_of_ble_eq_true rfl) (fun X => ?_)
  refine ev_ok (o := 12) (ini := true) (Cl := C_X12_init N) (Rc := RcV) (B := B_X12_init) (K := fun pc ls st g => kb pc 203 (lgr 0 ls fun a0 => lgi 1 ls fun x1 => pe st (L_X12_init_203 N N a0 x1 g)) (none)) rfl (fun _ => rfl) (by decide) (rcV_ok rfl) ?_ (co_X12_init N q) lb_X12_init 3000 0 S_X12_init_0 _ _ h ls_X12_init_0 hf
  intro pc ls st g e
  rcases kb_s e with ⟨rfl, e⟩ | e
  · obtain ⟨a0, e0, f0⟩ := lgr_s e
    obtain ⟨x1, e1, f1⟩ := lgi_s f0
    obtain ⟨qe, fe⟩ := pe_s f1
    subst qe
    exact MW.sub (List.forall_mem_cons.mpr ⟨lg_mem e0, List.forall_mem_cons.mpr ⟨lg_mem e1, fun _ h => absurd h List.not_mem_nil⟩⟩) (t_X12_init_203 N N a0 x1 g fe)
  cases e
def J_X12_feed_81 (N : Nat) (k28 : Nat → Int32 → Int32 → Int32 → Int32 → Int32 → Int32 → mH → Option (Int32 × mH)) (a0 : Nat) (x1 : Int32) (x2 : Int32) (x3 : Int32) (x4 : Int32) (x5 : Int32) (x6 : Int32) (s_0 : Int32) (h : mH) : Option (Int32 × mH) :=
  (gR h 12 a0 4).bind fun v1 =>
  (gI h 12 a0 6).bind fun v2 =>
  if (jI 4) = 0 then none else
  (stI 0 h v1 v2 (iAnd (iShr s_0 (iSub (jI 24) (iMul (jI 8) (iRem x6 (jI 4))))) (jI 255))).bind fun h3 =>
  (gI h3 12 a0 6).bind fun v4 =>
  (pV h3 12 a0 6 (.int (iAdd v4 (jI 1)))).bind fun h5 =>
  let w6 := iAdd x6 (jI 1)
  k28 a0 x1 x2 x3 x4 x5 w6 h5
def L_X12_feed_28 (N : Nat) : Nat → Nat → Int32 → Int32 → Int32 → Int32 → Int32 → Int32 → mH → Option (Int32 × mH)
  | 0, _, _, _, _, _, _, _, _ => none
  | n + 1, a0, x1, x2, x3, x4, x5, x6, h =>
    if x6 < (jI 20) then
      if x6 < (jI 4) then
        J_X12_feed_81 N (L_X12_feed_28 N n) a0 x1 x2 x3 x4 x5 x6 x1 h
      else
        if x6 < (jI 8) then
          J_X12_feed_81 N (L_X12_feed_28 N n) a0 x1 x2 x3 x4 x5 x6 x2 h
        else
          if x6 < (jI 12) then
            J_X12_feed_81 N (L_X12_feed_28 N n) a0 x1 x2 x3 x4 x5 x6 x3 h
          else
            if x6 < (jI 16) then
              J_X12_feed_81 N (L_X12_feed_28 N n) a0 x1 x2 x3 x4 x5 x6 x4 h
            else
              J_X12_feed_81 N (L_X12_feed_28 N n) a0 x1 x2 x3 x4 x5 x6 x5 h
    else
      (gI h 12 a0 6).bind fun v1 =>
      some (v1, h)
def f_X12_feed (N : Nat) (a0 : Nat) (x1 : Int32) (x2 : Int32) (x3 : Int32) (x4 : Int32) (x5 : Int32) (h : mH) : Option (Int32 × mH) :=
  (pV h 12 a0 0 (.int (jI 0))).bind fun h1 =>
  (gI h1 12 a0 6).bind fun v2 =>
  if (jI 500) < (iAdd v2 (jI 20)) then
    (rcv h1 12 a0).bind fun _ =>
    (f_X12_no N a0 (jI (-5)) h1).bind fun p3 =>
    some (p3.1, p3.2)
  else
    L_X12_feed_28 N N a0 x1 x2 x3 x4 x5 (jI 0) h1
def y_X12_feed : mM := (yX12_feed, cX12_feed, 8, (some .int))
def B_X12_feed : List (Nat × List mI) := [(25, [(.iconst 0, 1, [], [0]), (.istore 6, 2, [6], [])]), (45, [(.iload 6, 2, [6], []), (.bipush 8, 2, [], [8]), (.if_icmp .ge 7, 3, [56], []), (.iload_n 2, 1, [2], []), (.goto 28, 3, [81], [])]), (56, [(.iload 6, 2, [6], []), (.bipush 12, 2, [], [12]), (.if_icmp .ge 7, 3, [67], []), (.iload_n 3, 1, [3], []), (.goto 17, 3, [81], [])]), (67, [(.iload 6, 2, [6], []), (.bipush 16, 2, [], [16]), (.if_icmp .ge 8, 3, [79], []), (.iload 4, 2, [4], []), (.goto 5, 3, [81], [])]), (79, [(.iload 5, 2, [5], [])]), (125, [(.aload_n 0, 1, [0], []), (.getfield 81, 3, [12, 6, 0, 132], []), (.ireturn, 1, [], [])])]
def S_X12_feed_0 : List mI := [(.aload_n 0, 1, [0], []), (.iconst 0, 1, [], [0]), (.putfield 1, 3, [12, 0, 0, 126], []), (.aload_n 0, 1, [0], []), (.getfield 81, 3, [12, 6, 0, 132], []), (.bipush 20, 2, [], [20]), (.iadd, 1, [], []), (.sipush 500, 3, [], [500]), (.if_icmp .le 10, 3, [25], []), (.aload_n 0, 1, [0], []), (.bipush (-5), 2, [], [-5]), (.invokevirtual 84, 3, [0, 224, 1, 12, 267], []), (.ireturn, 1, [], [])]
def S_X12_feed_28 : List mI := [(.iload 6, 2, [6], []), (.bipush 20, 2, [], [20]), (.if_icmp .ge 93, 3, [125], []), (.iload 6, 2, [6], []), (.iconst 4, 1, [], [4]), (.if_icmp .ge 7, 3, [45], []), (.iload_n 1, 1, [1], []), (.goto 39, 3, [81], [])]
def S_X12_feed_81 : List mI := [(.istore 7, 2, [7], []), (.aload_n 0, 1, [0], []), (.getfield 24, 3, [12, 4, 2, 130], []), (.aload_n 0, 1, [0], []), (.getfield 81, 3, [12, 6, 0, 132], []), (.iload 7, 2, [7], []), (.bipush 24, 2, [], [24]), (.bipush 8, 2, [], [8]), (.iload 6, 2, [6], []), (.iconst 4, 1, [], [4]), (.irem, 1, [], []), (.imul, 1, [], []), (.isub, 1, [], []), (.ishr, 1, [], []), (.sipush 255, 3, [], [255]), (.iand, 1, [], []), (.iastore, 1, [], []), (.aload_n 0, 1, [0], []), (.dup, 1, [], []), (.getfield 81, 3, [12, 6, 0, 132], []), (.iconst 1, 1, [], [1]), (.iadd, 1, [], []), (.putfield 81, 3, [12, 6, 0, 132], []), (.iinc 6 1, 3, [6], [1]), (.goto (-94), 3, [28], [])]
theorem lb_X12_feed : B_X12_feed.all (fun b => lst y_X12_feed.2.1 12 y_X12_feed.2.2.1 false b.1 b.2) = true := by decide +kernel
theorem ls_X12_feed_0 : lst y_X12_feed.2.1 12 y_X12_feed.2.2.1 false 0 S_X12_feed_0 = true := by decide +kernel
theorem ls_X12_feed_28 : lst y_X12_feed.2.1 12 y_X12_feed.2.2.1 false 28 S_X12_feed_28 = true := by decide +kernel
theorem ls_X12_feed_81 : lst y_X12_feed.2.1 12 y_X12_feed.2.2.1 false 81 S_X12_feed_81 = true := by decide +kernel
def C_X12_feed (N : Nat) : Nat → List Value → mH → (Option Value → mH → Option (Int32 × mH)) → Option (Int32 × mH) := fun j as g k => kb j 224 (pr1 as fun b0 as => pp1 as fun b1 as => pe as ((f_X12_no N b0 b1 g).bind fun p => k (some (.int p.1)) p.2)) (none)
theorem co_X12_feed (N : Nat) (q : Int32 × mH) : clOK 5 q (C_X12_feed N) := by
  intro j as g k e
  rcases kb_s e with ⟨rfl, e⟩ | e
  · obtain ⟨b0, r0, q0, f0⟩ := pr1_s e
    obtain ⟨b1, r1, q1, f1⟩ := pp1_s f0
    obtain ⟨qe, fe⟩ := pe_s f1
    obtain ⟨p, e1, e2⟩ := bnd_s fe
    subst qe
    subst q1
    subst q0
    exact ⟨_, _, _, _, 4, rfl, (by decide), m_X12_no N e1, e2⟩
  cases e
set_option maxRecDepth 100000 in
theorem t_X12_feed_81 {X : Nat × (Nat → Int32)} (N : Nat) {q : Int32 × mH} {k28 : Nat → Int32 → Int32 → Int32 → Int32 → Int32 → Int32 → mH → Option (Int32 × mH)} (hk28 : ∀ (a0 : Nat) (x1 : Int32) (x2 : Int32) (x3 : Int32) (x4 : Int32) (x5 : Int32) (x6 : Int32) g, k28 a0 x1 x2 x3 x4 x5 x6 g = some q → MW X y_X12_feed 5 28 [(0, .ref a0), (1, .int x1), (2, .int x2), (3, .int x3), (4, .int x4), (5, .int x5), (6, .int x6)] [] g (some (.int q.1)) q.2) (a0 : Nat) (x1 : Int32) (x2 : Int32) (x3 : Int32) (x4 : Int32) (x5 : Int32) (x6 : Int32) (s_0 : Int32) (h : mH) (hf : J_X12_feed_81 N k28 a0 x1 x2 x3 x4 x5 x6 s_0 h = some q) : MW X y_X12_feed 5 81 [(0, .ref a0), (1, .int x1), (2, .int x2), (3, .int x3), (4, .int x4), (5, .int x5), (6, .int x6)] [.int s_0] h (some (.int q.1)) q.2 := by
  refine ev_ok (o := 12) (ini := false) (Cl := C_X12_feed N) (Rc := RcI) (B := B_X12_feed) (K := fun pc ls st g => kb pc 28 (lgr 0 ls fun a0 => lgi 1 ls fun x1 => lgi 2 ls fun x2 => lgi 3 ls fun x3 => lgi 4 ls fun x4 => lgi 5 ls fun x5 => lgi 6 ls fun x6 => pe st (k28 a0 x1 x2 x3 x4 x5 x6 g)) (none)) rfl (fun e => by cases e) (by decide) (rcI_ok rfl) ?_ (co_X12_feed N q) lb_X12_feed 3000 81 S_X12_feed_81 _ _ h ls_X12_feed_81 hf
  intro pc ls st g e
  rcases kb_s e with ⟨rfl, e⟩ | e
  · obtain ⟨a0, e0, f0⟩ := lgr_s e
    obtain ⟨x1, e1, f1⟩ := lgi_s f0
    obtain ⟨x2, e2, f2⟩ := lgi_s f1
    obtain ⟨x3, e3, f3⟩ := lgi_s f2
    obtain ⟨x4, e4, f4⟩ := lgi_s f3
    obtain ⟨x5, e5, f5⟩ := lgi_s f4
    obtain ⟨x6, e6, f6⟩ := lgi_s f5
    obtain ⟨qe, fe⟩ := pe_s f6
    subst qe
    exact MW.sub (List.forall_mem_cons.mpr ⟨lg_mem e0, List.forall_mem_cons.mpr ⟨lg_mem e1, List.forall_mem_cons.mpr ⟨lg_mem e2, List.forall_mem_cons.mpr ⟨lg_mem e3, List.forall_mem_cons.mpr ⟨lg_mem e4, List.forall_mem_cons.mpr ⟨lg_mem e5, List.forall_mem_cons.mpr ⟨lg_mem e6, fun _ h => absurd h List.not_mem_nil⟩⟩⟩⟩⟩⟩⟩) (hk28 a0 x1 x2 x3 x4 x5 x6 g fe)
  cases e
set_option maxRecDepth 100000 in
theorem t_X12_feed_28 {X : Nat × (Nat → Int32)} (N : Nat) {q : Int32 × mH} : ∀ (n : Nat) (a0 : Nat) (x1 : Int32) (x2 : Int32) (x3 : Int32) (x4 : Int32) (x5 : Int32) (x6 : Int32) (h : mH), L_X12_feed_28 N n a0 x1 x2 x3 x4 x5 x6 h = some q → MW X y_X12_feed 5 28 [(0, .ref a0), (1, .int x1), (2, .int x2), (3, .int x3), (4, .int x4), (5, .int x5), (6, .int x6)] [] h (some (.int q.1)) q.2 := by
  intro n
  induction n with
  | zero => intro a0 x1 x2 x3 x4 x5 x6 h hf; cases hf
  | succ n ih =>
    intro a0 x1 x2 x3 x4 x5 x6 h hf
    refine ev_ok (o := 12) (ini := false) (Cl := C_X12_feed N) (Rc := RcI) (B := B_X12_feed) (K := fun pc ls st g => kb pc 81 (lgr 0 ls fun a0 => lgi 1 ls fun x1 => lgi 2 ls fun x2 => lgi 3 ls fun x3 => lgi 4 ls fun x4 => lgi 5 ls fun x5 => lgi 6 ls fun x6 => pp1 st fun s_0 st => pe st (J_X12_feed_81 N (L_X12_feed_28 N n) a0 x1 x2 x3 x4 x5 x6 s_0 g)) (none)) rfl (fun e => by cases e) (by decide) (rcI_ok rfl) ?_ (co_X12_feed N q) lb_X12_feed 3000 28 S_X12_feed_28 _ _ h ls_X12_feed_28 hf
    intro pc ls st g e
    rcases kb_s e with ⟨rfl, e⟩ | e
    · obtain ⟨a0, e0, f0⟩ := lgr_s e
      obtain ⟨x1, e1, f1⟩ := lgi_s f0
      obtain ⟨x2, e2, f2⟩ := lgi_s f1
      obtain ⟨x3, e3, f3⟩ := lgi_s f2
      obtain ⟨x4, e4, f4⟩ := lgi_s f3
      obtain ⟨x5, e5, f5⟩ := lgi_s f4
      obtain ⟨x6, e6, f6⟩ := lgi_s f5
      obtain ⟨s_0, r0, q0, g0⟩ := pp1_s f6
      obtain ⟨qe, fe⟩ := pe_s g0
      subst qe
      subst q0
      exact MW.sub (List.forall_mem_cons.mpr ⟨lg_mem e0, List.forall_mem_cons.mpr ⟨lg_mem e1, List.forall_mem_cons.mpr ⟨lg_mem e2, List.forall_mem_cons.mpr ⟨lg_mem e3, List.forall_mem_cons.mpr ⟨lg_mem e4, List.forall_mem_cons.mpr ⟨lg_mem e5, List.forall_mem_cons.mpr ⟨lg_mem e6, fun _ h => absurd h List.not_mem_nil⟩⟩⟩⟩⟩⟩⟩) (t_X12_feed_81 N (fun a0 x1 x2 x3 x4 x5 x6 g e => ih a0 x1 x2 x3 x4 x5 x6 g e) a0 x1 x2 x3 x4 x5 x6 s_0 g fe)
    cases e
set_option maxRecDepth 100000 in
theorem m_X12_feed (N : Nat) {a0 : Nat} {x1 : Int32} {x2 : Int32} {x3 : Int32} {x4 : Int32} {x5 : Int32} {h : mH} {q : Int32 × mH} (hf : f_X12_feed N a0 x1 x2 x3 x4 x5 h = some q) : MM y_X12_feed 5 [.ref a0, .int x1, .int x2, .int x3, .int x4, .int x5] h (some (.int q.1)) q.2 := by
  refine MM.of (mFx (j := 228) rfl).2.2.2.1 (Nat.le_of_ble_eq_true rfl) (fun X => ?_)
  refine ev_ok (o := 12) (ini := false) (Cl := C_X12_feed N) (Rc := RcI) (B := B_X12_feed) (K := fun pc ls st g => kb pc 28 (lgr 0 ls fun a0 => lgi 1 ls fun x1 => lgi 2 ls fun x2 => lgi 3 ls fun x3 => lgi 4 ls fun x4 => lgi 5 ls fun x5 => lgi 6 ls fun x6 => pe st (L_X12_feed_28 N N a0 x1 x2 x3 x4 x5 x6 g)) (none)) rfl (fun e => by cases e) (by decide) (rcI_ok rfl) ?_ (co_X12_feed N q) lb_X12_feed 3000 0 S_X12_feed_0 _ _ h ls_X12_feed_0 hf
  intro pc ls st g e
  rcases kb_s e with ⟨rfl, e⟩ | e
  · obtain ⟨a0, e0, f0⟩ := lgr_s e
    obtain ⟨x1, e1, f1⟩ := lgi_s f0
    obtain ⟨x2, e2, f2⟩ := lgi_s f1
    obtain ⟨x3, e3, f3⟩ := lgi_s f2
    obtain ⟨x4, e4, f4⟩ := lgi_s f3
    obtain ⟨x5, e5, f5⟩ := lgi_s f4
    obtain ⟨x6, e6, f6⟩ := lgi_s f5
    obtain ⟨qe, fe⟩ := pe_s f6
    subst qe
    exact MW.sub (List.forall_mem_cons.mpr ⟨lg_mem e0, List.forall_mem_cons.mpr ⟨lg_mem e1, List.forall_mem_cons.mpr ⟨lg_mem e2, List.forall_mem_cons.mpr ⟨lg_mem e3, List.forall_mem_cons.mpr ⟨lg_mem e4, List.forall_mem_cons.mpr ⟨lg_mem e5, List.forall_mem_cons.mpr ⟨lg_mem e6, fun _ h => absurd h List.not_mem_nil⟩⟩⟩⟩⟩⟩⟩) (t_X12_feed_28 N N a0 x1 x2 x3 x4 x5 x6 g fe)
  cases e
def f_X12_see (N : Nat) (a0 : Nat) (x1 : Int32) (h : mH) : Option (Int32 × mH) :=
  (gI h 12 a0 9).bind fun v1 =>
  if x1 < v1 then
    (gR h 12 a0 4).bind fun v2 =>
    (ldI 0 h v2 x1).bind fun v3 =>
    some (v3, h)
  else
    some (jI (-1), h)
def y_X12_see : mM := (yX12_see, cX12_see, 2, (some .int))
def B_X12_see : List (Nat × List mI) := [(17, [(.iconst (-1), 1, [], [-1])]), (18, [(.ireturn, 1, [], [])])]
def S_X12_see_0 : List mI := [(.iload_n 1, 1, [1], []), (.aload_n 0, 1, [0], []), (.getfield 88, 3, [12, 9, 0, 135], []), (.if_icmp .ge 12, 3, [17], []), (.aload_n 0, 1, [0], []), (.getfield 24, 3, [12, 4, 2, 130], []), (.iload_n 1, 1, [1], []), (.iaload, 1, [0], []), (.goto 4, 3, [18], [])]
theorem lb_X12_see : B_X12_see.all (fun b => lst y_X12_see.2.1 12 y_X12_see.2.2.1 false b.1 b.2) = true := by decide +kernel
theorem ls_X12_see_0 : lst y_X12_see.2.1 12 y_X12_see.2.2.1 false 0 S_X12_see_0 = true := by decide +kernel
def C_X12_see (N : Nat) : Nat → List Value → mH → (Option Value → mH → Option (Int32 × mH)) → Option (Int32 × mH) := fun j as g k => none
theorem co_X12_see (N : Nat) (q : Int32 × mH) : clOK 4 q (C_X12_see N) := by
  intro j as g k e
  cases e
set_option maxRecDepth 100000 in
theorem m_X12_see (N : Nat) {a0 : Nat} {x1 : Int32} {h : mH} {q : Int32 × mH} (hf : f_X12_see N a0 x1 h = some q) : MM y_X12_see 4 [.ref a0, .int x1] h (some (.int q.1)) q.2 := by
  refine MM.of (mFx (j := 229) rfl).2.2.2.1 (Nat.le_of_ble_eq_true rfl) (fun X => ?_)
  refine ev_ok (o := 12) (ini := false) (Cl := C_X12_see N) (Rc := RcI) (B := B_X12_see) (K := fun pc ls st g => none) rfl (fun e => by cases e) (by decide) (rcI_ok rfl) ?_ (co_X12_see N q) lb_X12_see 3000 0 S_X12_see_0 _ _ h ls_X12_see_0 hf
  intro pc ls st g e
  cases e
def f_X12_isSmall (N : Nat) (x0 : Int32) (h : mH) : Option (Int32 × mH) :=
  if x0 < (jI 97) then
    some (jI 0, h)
  else
    if (jI 122) < x0 then
      some (jI 0, h)
    else
      some (jI 1, h)
def y_X12_isSmall : mM := (yX12_isSmall, cX12_isSmall, 1, (some .boolean))
def B_X12_isSmall : List (Nat × List mI) := [(16, [(.iconst 0, 1, [], [0])]), (17, [(.ireturn, 1, [], [])])]
def S_X12_isSmall_0 : List mI := [(.iload_n 0, 1, [0], []), (.bipush 97, 2, [], [97]), (.if_icmp .lt 13, 3, [16], []), (.iload_n 0, 1, [0], []), (.bipush 122, 2, [], [122]), (.if_icmp .gt 7, 3, [16], []), (.iconst 1, 1, [], [1]), (.goto 4, 3, [17], [])]
theorem lb_X12_isSmall : B_X12_isSmall.all (fun b => lst y_X12_isSmall.2.1 12 y_X12_isSmall.2.2.1 false b.1 b.2) = true := by decide +kernel
theorem ls_X12_isSmall_0 : lst y_X12_isSmall.2.1 12 y_X12_isSmall.2.2.1 false 0 S_X12_isSmall_0 = true := by decide +kernel
def C_X12_isSmall (N : Nat) : Nat → List Value → mH → (Option Value → mH → Option (Int32 × mH)) → Option (Int32 × mH) := fun j as g k => none
theorem co_X12_isSmall (N : Nat) (q : Int32 × mH) : clOK 4 q (C_X12_isSmall N) := by
  intro j as g k e
  cases e
set_option maxRecDepth 100000 in
theorem m_X12_isSmall (N : Nat) {x0 : Int32} {h : mH} {q : Int32 × mH} (hf : f_X12_isSmall N x0 h = some q) : MM y_X12_isSmall 4 [.int x0] h (some (.int q.1)) q.2 := by
  refine MM.of (mFx (j := 230) rfl).2.2.2.1 (Nat.le_of_ble_eq_true rfl) (fun X => ?_)
  refine ev_ok (o := 12) (ini := false) (Cl := C_X12_isSmall N) (Rc := RcZ) (B := B_X12_isSmall) (K := fun pc ls st g => none) rfl (fun e => by cases e) (by decide) (rcZ_ok rfl) ?_ (co_X12_isSmall N q) lb_X12_isSmall 3000 0 S_X12_isSmall_0 _ _ h ls_X12_isSmall_0 hf
  intro pc ls st g e
  cases e
def f_X12_isDigit (N : Nat) (x0 : Int32) (h : mH) : Option (Int32 × mH) :=
  if x0 < (jI 48) then
    some (jI 0, h)
  else
    if (jI 57) < x0 then
      some (jI 0, h)
    else
      some (jI 1, h)
def y_X12_isDigit : mM := (yX12_isDigit, cX12_isDigit, 1, (some .boolean))
def B_X12_isDigit : List (Nat × List mI) := [(16, [(.iconst 0, 1, [], [0])]), (17, [(.ireturn, 1, [], [])])]
def S_X12_isDigit_0 : List mI := [(.iload_n 0, 1, [0], []), (.bipush 48, 2, [], [48]), (.if_icmp .lt 13, 3, [16], []), (.iload_n 0, 1, [0], []), (.bipush 57, 2, [], [57]), (.if_icmp .gt 7, 3, [16], []), (.iconst 1, 1, [], [1]), (.goto 4, 3, [17], [])]
theorem lb_X12_isDigit : B_X12_isDigit.all (fun b => lst y_X12_isDigit.2.1 12 y_X12_isDigit.2.2.1 false b.1 b.2) = true := by decide +kernel
theorem ls_X12_isDigit_0 : lst y_X12_isDigit.2.1 12 y_X12_isDigit.2.2.1 false 0 S_X12_isDigit_0 = true := by decide +kernel
def C_X12_isDigit (N : Nat) : Nat → List Value → mH → (Option Value → mH → Option (Int32 × mH)) → Option (Int32 × mH) := fun j as g k => none
theorem co_X12_isDigit (N : Nat) (q : Int32 × mH) : clOK 4 q (C_X12_isDigit N) := by
  intro j as g k e
  cases e
set_option maxRecDepth 100000 in
theorem m_X12_isDigit (N : Nat) {x0 : Int32} {h : mH} {q : Int32 × mH} (hf : f_X12_isDigit N x0 h = some q) : MM y_X12_isDigit 4 [.int x0] h (some (.int q.1)) q.2 := by
  refine MM.of (mFx (j := 231) rfl).2.2.2.1 (Nat.le_of_ble_eq_true rfl) (fun X => ?_)
  refine ev_ok (o := 12) (ini := false) (Cl := C_X12_isDigit N) (Rc := RcZ) (B := B_X12_isDigit) (K := fun pc ls st g => none) rfl (fun e => by cases e) (by decide) (rcZ_ok rfl) ?_ (co_X12_isDigit N q) lb_X12_isDigit 3000 0 S_X12_isDigit_0 _ _ h ls_X12_isDigit_0 hf
  intro pc ls st g e
  cases e
def L_X12_keyAt_97 (N : Nat) (k4 : Nat → Int32 → Int32 → mH → Option (Int32 × mH)) : Nat → Nat → Int32 → Int32 → mH → Option (Int32 × mH)
  | 0, _, _, _, _ => none
  | n + 1, a0, x1, x2, h =>
    (sChr (UInt32.ofNat 17) x2).bind fun v1 =>
    if v1 = (jI 32) then
      let w2 := iAdd x2 (jI 1)
      let w3 := iAdd x1 (jI 1)
      k4 a0 w3 w2 h
    else
      let w4 := iAdd x2 (jI 1)
      L_X12_keyAt_97 N k4 n a0 x1 w4 h
def J_X12_keyAt_69 (N : Nat) (k4 : Nat → Int32 → Int32 → mH → Option (Int32 × mH)) (a0 : Nat) (x1 : Int32) (x2 : Int32) (x3 : Int32) (h : mH) : Option (Int32 × mH) :=
  (sChr (UInt32.ofNat 17) (iAdd x2 x3)).bind fun v1 =>
  if v1 = (jI 32) then
    (gI h 12 a0 7).bind fun v2 =>
    (gI h 12 a0 8).bind fun v3 =>
    if (iAdd v2 x3) = v3 then
      some (x1, h)
    else
      L_X12_keyAt_97 N k4 N a0 x1 x2 h
  else
    L_X12_keyAt_97 N k4 N a0 x1 x2 h
def L_X12_keyAt_15 (N : Nat) (k4 : Nat → Int32 → Int32 → mH → Option (Int32 × mH)) : Nat → Nat → Int32 → Int32 → Int32 → mH → Option (Int32 × mH)
  | 0, _, _, _, _, _ => none
  | n + 1, a0, x1, x2, x3, h =>
    (sChr (UInt32.ofNat 17) (iAdd x2 x3)).bind fun v1 =>
    if v1 = (jI 32) then
      J_X12_keyAt_69 N k4 a0 x1 x2 x3 h
    else
      (gI h 12 a0 7).bind fun v2 =>
      (gI h 12 a0 8).bind fun v3 =>
      if (iAdd v2 x3) < v3 then
        (gR h 12 a0 4).bind fun v4 =>
        (gI h 12 a0 7).bind fun v5 =>
        (ldI 0 h v4 (iAdd v5 x3)).bind fun v6 =>
        (sChr (UInt32.ofNat 17) (iAdd x2 x3)).bind fun v7 =>
        if v6 = v7 then
          let w8 := iAdd x3 (jI 1)
          L_X12_keyAt_15 N k4 n a0 x1 x2 w8 h
        else
          J_X12_keyAt_69 N k4 a0 x1 x2 x3 h
      else
        J_X12_keyAt_69 N k4 a0 x1 x2 x3 h
def L_X12_keyAt_4 (N : Nat) : Nat → Nat → Int32 → Int32 → mH → Option (Int32 × mH)
  | 0, _, _, _, _ => none
  | n + 1, a0, x1, x2, h =>
    (sLn (UInt32.ofNat 17)).bind fun v1 =>
    if x2 < v1 then
      L_X12_keyAt_15 N (L_X12_keyAt_4 N n) N a0 x1 x2 (jI 0) h
    else
      some (jI 17, h)
def f_X12_keyAt (N : Nat) (a0 : Nat) (h : mH) : Option (Int32 × mH) :=
  L_X12_keyAt_4 N N a0 (jI 0) (jI 1) h
def y_X12_keyAt : mM := (yX12_keyAt, cX12_keyAt, 4, (some .int))
def B_X12_keyAt : List (Nat × List mI) := [(114, [(.iinc 2 1, 3, [2], [1]), (.iinc 1 1, 3, [1], [1]), (.goto (-116), 3, [4], [])]), (123, [(.bipush 17, 2, [], [17]), (.ireturn, 1, [], [])])]
def S_X12_keyAt_0 : List mI := [(.iconst 0, 1, [], [0]), (.istore_n 1, 1, [1], []), (.iconst 1, 1, [], [1]), (.istore_n 2, 1, [2], [])]
def S_X12_keyAt_4 : List mI := [(.iload_n 2, 1, [2], []), (.ldc 91, 2, [1, 17], []), (.invokevirtual 93, 3, [11, 0, 0, 0, 39], []), (.if_icmp .ge 113, 3, [123], []), (.iconst 0, 1, [], [0]), (.istore_n 3, 1, [3], [])]
def S_X12_keyAt_15 : List mI := [(.ldc 91, 2, [1, 17], []), (.iload_n 2, 1, [2], []), (.iload_n 3, 1, [3], []), (.iadd, 1, [], []), (.invokevirtual 99, 3, [12, 0, 0, 0, 40], []), (.bipush 32, 2, [], [32]), (.if_icmp .eq 44, 3, [69], []), (.aload_n 0, 1, [0], []), (.getfield 103, 3, [12, 7, 0, 133], []), (.iload_n 3, 1, [3], []), (.iadd, 1, [], []), (.aload_n 0, 1, [0], []), (.getfield 106, 3, [12, 8, 0, 134], []), (.if_icmp .ge 31, 3, [69], []), (.aload_n 0, 1, [0], []), (.getfield 24, 3, [12, 4, 2, 130], []), (.aload_n 0, 1, [0], []), (.getfield 103, 3, [12, 7, 0, 133], []), (.iload_n 3, 1, [3], []), (.iadd, 1, [], []), (.iaload, 1, [0], []), (.ldc 91, 2, [1, 17], []), (.iload_n 2, 1, [2], []), (.iload_n 3, 1, [3], []), (.iadd, 1, [], []), (.invokevirtual 99, 3, [12, 0, 0, 0, 40], []), (.if_icmp .ne 9, 3, [69], []), (.iinc 3 1, 3, [3], [1]), (.goto (-51), 3, [15], [])]
def S_X12_keyAt_69 : List mI := [(.ldc 91, 2, [1, 17], []), (.iload_n 2, 1, [2], []), (.iload_n 3, 1, [3], []), (.iadd, 1, [], []), (.invokevirtual 99, 3, [12, 0, 0, 0, 40], []), (.bipush 32, 2, [], [32]), (.if_icmp .ne 18, 3, [97], []), (.aload_n 0, 1, [0], []), (.getfield 103, 3, [12, 7, 0, 133], []), (.iload_n 3, 1, [3], []), (.iadd, 1, [], []), (.aload_n 0, 1, [0], []), (.getfield 106, 3, [12, 8, 0, 134], []), (.if_icmp .ne 5, 3, [97], []), (.iload_n 1, 1, [1], []), (.ireturn, 1, [], [])]
def S_X12_keyAt_97 : List mI := [(.ldc 91, 2, [1, 17], []), (.iload_n 2, 1, [2], []), (.invokevirtual 99, 3, [12, 0, 0, 0, 40], []), (.bipush 32, 2, [], [32]), (.if_icmp .eq 9, 3, [114], []), (.iinc 2 1, 3, [2], [1]), (.goto (-14), 3, [97], [])]
theorem lb_X12_keyAt : B_X12_keyAt.all (fun b => lst y_X12_keyAt.2.1 12 y_X12_keyAt.2.2.1 false b.1 b.2) = true := by decide +kernel
theorem ls_X12_keyAt_0 : lst y_X12_keyAt.2.1 12 y_X12_keyAt.2.2.1 false 0 S_X12_keyAt_0 = true := by decide +kernel
theorem ls_X12_keyAt_4 : lst y_X12_keyAt.2.1 12 y_X12_keyAt.2.2.1 false 4 S_X12_keyAt_4 = true := by decide +kernel
theorem ls_X12_keyAt_15 : lst y_X12_keyAt.2.1 12 y_X12_keyAt.2.2.1 false 15 S_X12_keyAt_15 = true := by decide +kernel
theorem ls_X12_keyAt_69 : lst y_X12_keyAt.2.1 12 y_X12_keyAt.2.2.1 false 69 S_X12_keyAt_69 = true := by decide +kernel
theorem ls_X12_keyAt_97 : lst y_X12_keyAt.2.1 12 y_X12_keyAt.2.2.1 false 97 S_X12_keyAt_97 = true := by decide +kernel
def C_X12_keyAt (N : Nat) : Nat → List Value → mH → (Option Value → mH → Option (Int32 × mH)) → Option (Int32 × mH) := fun j as g k => none
theorem co_X12_keyAt (N : Nat) (q : Int32 × mH) : clOK 4 q (C_X12_keyAt N) := by
  intro j as g k e
  cases e
set_option maxRecDepth 100000 in
theorem t_X12_keyAt_97 {X : Nat × (Nat → Int32)} (N : Nat) {q : Int32 × mH} {k4 : Nat → Int32 → Int32 → mH → Option (Int32 × mH)} (hk4 : ∀ (a0 : Nat) (x1 : Int32) (x2 : Int32) g, k4 a0 x1 x2 g = some q → MW X y_X12_keyAt 4 4 [(0, .ref a0), (1, .int x1), (2, .int x2)] [] g (some (.int q.1)) q.2) : ∀ (n : Nat) (a0 : Nat) (x1 : Int32) (x2 : Int32) (h : mH), L_X12_keyAt_97 N k4 n a0 x1 x2 h = some q → MW X y_X12_keyAt 4 97 [(0, .ref a0), (1, .int x1), (2, .int x2)] [] h (some (.int q.1)) q.2 := by
  intro n
  induction n with
  | zero => intro a0 x1 x2 h hf; cases hf
  | succ n ih =>
    intro a0 x1 x2 h hf
    refine ev_ok (o := 12) (ini := false) (Cl := C_X12_keyAt N) (Rc := RcI) (B := B_X12_keyAt) (K := fun pc ls st g => kb pc 4 (lgr 0 ls fun a0 => lgi 1 ls fun x1 => lgi 2 ls fun x2 => pe st (k4 a0 x1 x2 g)) (kb pc 97 (lgr 0 ls fun a0 => lgi 1 ls fun x1 => lgi 2 ls fun x2 => pe st (L_X12_keyAt_97 N k4 n a0 x1 x2 g)) (none))) rfl (fun e => by cases e) (by decide) (rcI_ok rfl) ?_ (co_X12_keyAt N q) lb_X12_keyAt 3000 97 S_X12_keyAt_97 _ _ h ls_X12_keyAt_97 hf
    intro pc ls st g e
    rcases kb_s e with ⟨rfl, e⟩ | e
    · obtain ⟨a0, e0, f0⟩ := lgr_s e
      obtain ⟨x1, e1, f1⟩ := lgi_s f0
      obtain ⟨x2, e2, f2⟩ := lgi_s f1
      obtain ⟨qe, fe⟩ := pe_s f2
      subst qe
      exact MW.sub (List.forall_mem_cons.mpr ⟨lg_mem e0, List.forall_mem_cons.mpr ⟨lg_mem e1, List.forall_mem_cons.mpr ⟨lg_mem e2, fun _ h => absurd h List.not_mem_nil⟩⟩⟩) (hk4 a0 x1 x2 g fe)
    rcases kb_s e with ⟨rfl, e⟩ | e
    · obtain ⟨a0, e0, f0⟩ := lgr_s e
      obtain ⟨x1, e1, f1⟩ := lgi_s f0
      obtain ⟨x2, e2, f2⟩ := lgi_s f1
      obtain ⟨qe, fe⟩ := pe_s f2
      subst qe
      exact MW.sub (List.forall_mem_cons.mpr ⟨lg_mem e0, List.forall_mem_cons.mpr ⟨lg_mem e1, List.forall_mem_cons.mpr ⟨lg_mem e2, fun _ h => absurd h List.not_mem_nil⟩⟩⟩) (ih a0 x1 x2 g fe)
    cases e
set_option maxRecDepth 100000 in
theorem t_X12_keyAt_69 {X : Nat × (Nat → Int32)} (N : Nat) {q : Int32 × mH} {k4 : Nat → Int32 → Int32 → mH → Option (Int32 × mH)} (hk4 : ∀ (a0 : Nat) (x1 : Int32) (x2 : Int32) g, k4 a0 x1 x2 g = some q → MW X y_X12_keyAt 4 4 [(0, .ref a0), (1, .int x1), (2, .int x2)] [] g (some (.int q.1)) q.2) (a0 : Nat) (x1 : Int32) (x2 : Int32) (x3 : Int32) (h : mH) (hf : J_X12_keyAt_69 N k4 a0 x1 x2 x3 h = some q) : MW X y_X12_keyAt 4 69 [(0, .ref a0), (1, .int x1), (2, .int x2), (3, .int x3)] [] h (some (.int q.1)) q.2 := by
  refine ev_ok (o := 12) (ini := false) (Cl := C_X12_keyAt N) (Rc := RcI) (B := B_X12_keyAt) (K := fun pc ls st g => kb pc 97 (lgr 0 ls fun a0 => lgi 1 ls fun x1 => lgi 2 ls fun x2 => pe st (L_X12_keyAt_97 N k4 N a0 x1 x2 g)) (none)) rfl (fun e => by cases e) (by decide) (rcI_ok rfl) ?_ (co_X12_keyAt N q) lb_X12_keyAt 3000 69 S_X12_keyAt_69 _ _ h ls_X12_keyAt_69 hf
  intro pc ls st g e
  rcases kb_s e with ⟨rfl, e⟩ | e
  · obtain ⟨a0, e0, f0⟩ := lgr_s e
    obtain ⟨x1, e1, f1⟩ := lgi_s f0
    obtain ⟨x2, e2, f2⟩ := lgi_s f1
    obtain ⟨qe, fe⟩ := pe_s f2
    subst qe
    exact MW.sub (List.forall_mem_cons.mpr ⟨lg_mem e0, List.forall_mem_cons.mpr ⟨lg_mem e1, List.forall_mem_cons.mpr ⟨lg_mem e2, fun _ h => absurd h List.not_mem_nil⟩⟩⟩) (t_X12_keyAt_97 N hk4 N a0 x1 x2 g fe)
  cases e
set_option maxRecDepth 100000 in
theorem t_X12_keyAt_15 {X : Nat × (Nat → Int32)} (N : Nat) {q : Int32 × mH} {k4 : Nat → Int32 → Int32 → mH → Option (Int32 × mH)} (hk4 : ∀ (a0 : Nat) (x1 : Int32) (x2 : Int32) g, k4 a0 x1 x2 g = some q → MW X y_X12_keyAt 4 4 [(0, .ref a0), (1, .int x1), (2, .int x2)] [] g (some (.int q.1)) q.2) : ∀ (n : Nat) (a0 : Nat) (x1 : Int32) (x2 : Int32) (x3 : Int32) (h : mH), L_X12_keyAt_15 N k4 n a0 x1 x2 x3 h = some q → MW X y_X12_keyAt 4 15 [(0, .ref a0), (1, .int x1), (2, .int x2), (3, .int x3)] [] h (some (.int q.1)) q.2 := by
  intro n
  induction n with
  | zero => intro a0 x1 x2 x3 h hf; cases hf
  | succ n ih =>
    intro a0 x1 x2 x3 h hf
    refine ev_ok (o := 12) (ini := false) (Cl := C_X12_keyAt N) (Rc := RcI) (B := B_X12_keyAt) (K := fun pc ls st g => kb pc 15 (lgr 0 ls fun a0 => lgi 1 ls fun x1 => lgi 2 ls fun x2 => lgi 3 ls fun x3 => pe st (L_X12_keyAt_15 N k4 n a0 x1 x2 x3 g)) (kb pc 69 (lgr 0 ls fun a0 => lgi 1 ls fun x1 => lgi 2 ls fun x2 => lgi 3 ls fun x3 => pe st (J_X12_keyAt_69 N k4 a0 x1 x2 x3 g)) (none))) rfl (fun e => by cases e) (by decide) (rcI_ok rfl) ?_ (co_X12_keyAt N q) lb_X12_keyAt 3000 15 S_X12_keyAt_15 _ _ h ls_X12_keyAt_15 hf
    intro pc ls st g e
    rcases kb_s e with ⟨rfl, e⟩ | e
    · obtain ⟨a0, e0, f0⟩ := lgr_s e
      obtain ⟨x1, e1, f1⟩ := lgi_s f0
      obtain ⟨x2, e2, f2⟩ := lgi_s f1
      obtain ⟨x3, e3, f3⟩ := lgi_s f2
      obtain ⟨qe, fe⟩ := pe_s f3
      subst qe
      exact MW.sub (List.forall_mem_cons.mpr ⟨lg_mem e0, List.forall_mem_cons.mpr ⟨lg_mem e1, List.forall_mem_cons.mpr ⟨lg_mem e2, List.forall_mem_cons.mpr ⟨lg_mem e3, fun _ h => absurd h List.not_mem_nil⟩⟩⟩⟩) (ih a0 x1 x2 x3 g fe)
    rcases kb_s e with ⟨rfl, e⟩ | e
    · obtain ⟨a0, e0, f0⟩ := lgr_s e
      obtain ⟨x1, e1, f1⟩ := lgi_s f0
      obtain ⟨x2, e2, f2⟩ := lgi_s f1
      obtain ⟨x3, e3, f3⟩ := lgi_s f2
      obtain ⟨qe, fe⟩ := pe_s f3
      subst qe
      exact MW.sub (List.forall_mem_cons.mpr ⟨lg_mem e0, List.forall_mem_cons.mpr ⟨lg_mem e1, List.forall_mem_cons.mpr ⟨lg_mem e2, List.forall_mem_cons.mpr ⟨lg_mem e3, fun _ h => absurd h List.not_mem_nil⟩⟩⟩⟩) (t_X12_keyAt_69 N hk4 a0 x1 x2 x3 g fe)
    cases e
set_option maxRecDepth 100000 in
theorem t_X12_keyAt_4 {X : Nat × (Nat → Int32)} (N : Nat) {q : Int32 × mH} : ∀ (n : Nat) (a0 : Nat) (x1 : Int32) (x2 : Int32) (h : mH), L_X12_keyAt_4 N n a0 x1 x2 h = some q → MW X y_X12_keyAt 4 4 [(0, .ref a0), (1, .int x1), (2, .int x2)] [] h (some (.int q.1)) q.2 := by
  intro n
  induction n with
  | zero => intro a0 x1 x2 h hf; cases hf
  | succ n ih =>
    intro a0 x1 x2 h hf
    refine ev_ok (o := 12) (ini := false) (Cl := C_X12_keyAt N) (Rc := RcI) (B := B_X12_keyAt) (K := fun pc ls st g => kb pc 15 (lgr 0 ls fun a0 => lgi 1 ls fun x1 => lgi 2 ls fun x2 => lgi 3 ls fun x3 => pe st (L_X12_keyAt_15 N (L_X12_keyAt_4 N n) N a0 x1 x2 x3 g)) (none)) rfl (fun e => by cases e) (by decide) (rcI_ok rfl) ?_ (co_X12_keyAt N q) lb_X12_keyAt 3000 4 S_X12_keyAt_4 _ _ h ls_X12_keyAt_4 hf
    intro pc ls st g e
    rcases kb_s e with ⟨rfl, e⟩ | e
    · obtain ⟨a0, e0, f0⟩ := lgr_s e
      obtain ⟨x1, e1, f1⟩ := lgi_s f0
      obtain ⟨x2, e2, f2⟩ := lgi_s f1
      obtain ⟨x3, e3, f3⟩ := lgi_s f2
      obtain ⟨qe, fe⟩ := pe_s f3
      subst qe
      exact MW.sub (List.forall_mem_cons.mpr ⟨lg_mem e0, List.forall_mem_cons.mpr ⟨lg_mem e1, List.forall_mem_cons.mpr ⟨lg_mem e2, List.forall_mem_cons.mpr ⟨lg_mem e3, fun _ h => absurd h List.not_mem_nil⟩⟩⟩⟩) (t_X12_keyAt_15 N (fun a0 x1 x2 g e => ih a0 x1 x2 g e) N a0 x1 x2 x3 g fe)
    cases e
set_option maxRecDepth 100000 in
theorem m_X12_keyAt (N : Nat) {a0 : Nat} {h : mH} {q : Int32 × mH} (hf : f_X12_keyAt N a0 h = some q) : MM y_X12_keyAt 4 [.ref a0] h (some (.int q.1)) q.2 := by
  refine MM.of (mFx (j := 232) rfl).2.2.2.1 (Nat.le_of_ble_eq_true rfl) (fun X => ?_)
  refine ev_ok (o := 12) (ini := false) (Cl := C_X12_keyAt N) (Rc := RcI) (B := B_X12_keyAt) (K := fun pc ls st g => kb pc 4 (lgr 0 ls fun a0 => lgi 1 ls fun x1 => lgi 2 ls fun x2 => pe st (L_X12_keyAt_4 N N a0 x1 x2 g)) (none)) rfl (fun e => by cases e) (by decide) (rcI_ok rfl) ?_ (co_X12_keyAt N q) lb_X12_keyAt 3000 0 S_X12_keyAt_0 _ _ h ls_X12_keyAt_0 hf
  intro pc ls st g e
  rcases kb_s e with ⟨rfl, e⟩ | e
  · obtain ⟨a0, e0, f0⟩ := lgr_s e
    obtain ⟨x1, e1, f1⟩ := lgi_s f0
    obtain ⟨x2, e2, f2⟩ := lgi_s f1
    obtain ⟨qe, fe⟩ := pe_s f2
    subst qe
    exact MW.sub (List.forall_mem_cons.mpr ⟨lg_mem e0, List.forall_mem_cons.mpr ⟨lg_mem e1, List.forall_mem_cons.mpr ⟨lg_mem e2, fun _ h => absurd h List.not_mem_nil⟩⟩⟩) (t_X12_keyAt_4 N N a0 x1 x2 g fe)
  cases e
