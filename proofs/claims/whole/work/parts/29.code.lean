/-! printed by wip/whole/gen_code.py: the functions of methods 320 to 351 (leaves first), and their contracts -/
def L_X12_heightOf_5 (N : Nat) : Nat → Nat → Int32 → Int32 → Int32 → Int32 → mH → Option (Int32 × mH)
  | 0, _, _, _, _, _, _ => none
  | n + 1, a0, x1, x2, x3, x4, h =>
    (gR h 12 a0 2).bind fun v1 =>
    (ldI 0 h v1 (iAdd (jI 27) x1)).bind fun v2 =>
    if x4 < v2 then
      (gR h 12 a0 2).bind fun v3 =>
      (rcv h 12 a0).bind fun _ =>
      (f_X12_kindOf N a0 x1 x4 h).bind fun p4 =>
      (ldI 0 p4.2 v3 (iAdd (jI 8) p4.1)).bind fun v5 =>
      if x2 = 0 then
        let w6 := iAdd x3 (iMul v5 (jI 100))
        let w7 := iAdd x4 (jI 1)
        L_X12_heightOf_5 N n a0 x1 x2 w6 w7 p4.2
      else
        (gR p4.2 12 a0 2).bind fun v8 =>
        (rcv p4.2 12 a0).bind fun _ =>
        (f_X12_kindOf N a0 x1 x4 p4.2).bind fun p9 =>
        (ldI 0 p9.2 v8 (iAdd (jI 14) p9.1)).bind fun v10 =>
        let w11 := iAdd x3 (iMul v5 (iSub (jI 100) v10))
        let w12 := iAdd x4 (jI 1)
        L_X12_heightOf_5 N n a0 x1 x2 w11 w12 p9.2
    else
      (gR h 12 a0 2).bind fun v13 =>
      (ldI 0 h v13 (iAdd (jI 51) x1)).bind fun v14 =>
      some (iMul x3 v14, h)
def f_X12_heightOf (N : Nat) (a0 : Nat) (x1 : Int32) (x2 : Int32) (h : mH) : Option (Int32 × mH) :=
  L_X12_heightOf_5 N N a0 x1 x2 (jI 0) (jI 0) h
def y_X12_heightOf : mM := (yX12_heightOf, cX12_heightOf, 5, (some .int))
def B_X12_heightOf : List (Nat × List mI) := [(60, [(.bipush 100, 2, [], [100])]), (62, [(.imul, 1, [], []), (.iadd, 1, [], []), (.istore_n 3, 1, [3], []), (.iinc 4 1, 3, [4], [1]), (.goto (-63), 3, [5], [])]), (71, [(.iload_n 3, 1, [3], []), (.aload_n 0, 1, [0], []), (.getfield 17, 3, [12, 2, 2, 128], []), (.bipush 51, 2, [], [51]), (.iload_n 1, 1, [1], []), (.iadd, 1, [], []), (.iaload, 1, [0], []), (.imul, 1, [], []), (.ireturn, 1, [], [])])]
def S_X12_heightOf_0 : List mI := [(.iconst 0, 1, [], [0]), (.istore_n 3, 1, [3], []), (.iconst 0, 1, [], [0]), (.istore 4, 2, [4], [])]
def S_X12_heightOf_5 : List mI := [(.iload 4, 2, [4], []), (.aload_n 0, 1, [0], []), (.getfield 17, 3, [12, 2, 2, 128], []), (.bipush 27, 2, [], [27]), (.iload_n 1, 1, [1], []), (.iadd, 1, [], []), (.iaload, 1, [0], []), (.if_icmp .ge 55, 3, [71], []), (.iload_n 3, 1, [3], []), (.aload_n 0, 1, [0], []), (.getfield 17, 3, [12, 2, 2, 128], []), (.bipush 8, 2, [], [8]), (.aload_n 0, 1, [0], []), (.iload_n 1, 1, [1], []), (.iload 4, 2, [4], []), (.invokevirtual 207, 3, [0, 261, 2, 12, 296], []), (.iadd, 1, [], []), (.iaload, 1, [0], []), (.iload_n 2, 1, [2], []), (.ifCond .eq 24, 3, [60], []), (.bipush 100, 2, [], [100]), (.aload_n 0, 1, [0], []), (.getfield 17, 3, [12, 2, 2, 128], []), (.bipush 14, 2, [], [14]), (.aload_n 0, 1, [0], []), (.iload_n 1, 1, [1], []), (.iload 4, 2, [4], []), (.invokevirtual 207, 3, [0, 261, 2, 12, 296], []), (.iadd, 1, [], []), (.iaload, 1, [0], []), (.isub, 1, [], []), (.goto 5, 3, [62], [])]
theorem lb_X12_heightOf : B_X12_heightOf.all (fun b => lst y_X12_heightOf.2.1 12 y_X12_heightOf.2.2.1 false b.1 b.2) = true := by decide +kernel
theorem ls_X12_heightOf_0 : lst y_X12_heightOf.2.1 12 y_X12_heightOf.2.2.1 false 0 S_X12_heightOf_0 = true := by decide +kernel
theorem ls_X12_heightOf_5 : lst y_X12_heightOf.2.1 12 y_X12_heightOf.2.2.1 false 5 S_X12_heightOf_5 = true := by decide +kernel
def C_X12_heightOf (N : Nat) : Nat → List Value → mH → (Option Value → mH → Option (Int32 × mH)) → Option (Int32 × mH) := fun j as g k => kb j 261 (pr1 as fun b0 as => pp1 as fun b1 as => pp1 as fun b2 as => pe as ((f_X12_kindOf N b0 b1 b2 g).bind fun p => k (some (.int p.1)) p.2)) (none)
theorem co_X12_heightOf (N : Nat) (q : Int32 × mH) : clOK 5 q (C_X12_heightOf N) := by
  intro j as g k e
  rcases kb_s e with ⟨rfl, e⟩ | e
  · obtain ⟨b0, r0, q0, f0⟩ := pr1_s e
    obtain ⟨b1, r1, q1, f1⟩ := pp1_s f0
    obtain ⟨b2, r2, q2, f2⟩ := pp1_s f1
    obtain ⟨qe, fe⟩ := pe_s f2
    obtain ⟨p, e1, e2⟩ := bnd_s fe
    subst qe
    subst q2
    subst q1
    subst q0
    exact ⟨_, _, _, _, 4, rfl, (by decide), m_X12_kindOf N e1, e2⟩
  cases e
set_option maxRecDepth 100000 in
theorem t_X12_heightOf_5 {X : Nat × (Nat → Int32)} (N : Nat) {q : Int32 × mH} : ∀ (n : Nat) (a0 : Nat) (x1 : Int32) (x2 : Int32) (x3 : Int32) (x4 : Int32) (h : mH), L_X12_heightOf_5 N n a0 x1 x2 x3 x4 h = some q → MW X y_X12_heightOf 5 5 [(0, .ref a0), (1, .int x1), (2, .int x2), (3, .int x3), (4, .int x4)] [] h (some (.int q.1)) q.2 := by
  intro n
  induction n with
  | zero => intro a0 x1 x2 x3 x4 h hf; cases hf
  | succ n ih =>
    intro a0 x1 x2 x3 x4 h hf
    refine ev_ok (o := 12) (ini := false) (Cl := C_X12_heightOf N) (Rc := RcI) (B := B_X12_heightOf) (K := fun pc ls st g => kb pc 5 (lgr 0 ls fun a0 => lgi 1 ls fun x1 => lgi 2 ls fun x2 => lgi 3 ls fun x3 => lgi 4 ls fun x4 => pe st (L_X12_heightOf_5 N n a0 x1 x2 x3 x4 g)) (none)) rfl (fun e => by cases e) (by decide) (rcI_ok rfl) ?_ (co_X12_heightOf N q) lb_X12_heightOf 3000 5 S_X12_heightOf_5 _ _ h ls_X12_heightOf_5 hf
    intro pc ls st g e
    rcases kb_s e with ⟨rfl, e⟩ | e
    · obtain ⟨a0, e0, f0⟩ := lgr_s e
      obtain ⟨x1, e1, f1⟩ := lgi_s f0
      obtain ⟨x2, e2, f2⟩ := lgi_s f1
      obtain ⟨x3, e3, f3⟩ := lgi_s f2
      obtain ⟨x4, e4, f4⟩ := lgi_s f3
      obtain ⟨qe, fe⟩ := pe_s f4
      subst qe
      exact MW.sub (List.forall_mem_cons.mpr ⟨lg_mem e0, List.forall_mem_cons.mpr ⟨lg_mem e1, List.forall_mem_cons.mpr ⟨lg_mem e2, List.forall_mem_cons.mpr ⟨lg_mem e3, List.forall_mem_cons.mpr ⟨lg_mem e4, fun _ h => absurd h List.not_mem_nil⟩⟩⟩⟩⟩) (ih a0 x1 x2 x3 x4 g fe)
    cases e
set_option maxRecDepth 100000 in
theorem m_X12_heightOf (N : Nat) {a0 : Nat} {x1 : Int32} {x2 : Int32} {h : mH} {q : Int32 × mH} (hf : f_X12_heightOf N a0 x1 x2 h = some q) : MM y_X12_heightOf 5 [.ref a0, .int x1, .int x2] h (some (.int q.1)) q.2 := by
  refine MM.of (mFx (j := 313) rfl).2.2.2.1 (Nat.le_of_ble_eq_true rfl) (fun X => ?_)
  refine ev_ok (o := 12) (ini := false) (Cl := C_X12_heightOf N) (Rc := RcI) (B := B_X12_heightOf) (K := fun pc ls st g => kb pc 5 (lgr 0 ls fun a0 => lgi 1 ls fun x1 => lgi 2 ls fun x2 => lgi 3 ls fun x3 => lgi 4 ls fun x4 => pe st (L_X12_heightOf_5 N N a0 x1 x2 x3 x4 g)) (none)) rfl (fun e => by cases e) (by decide) (rcI_ok rfl) ?_ (co_X12_heightOf N q) lb_X12_heightOf 3000 0 S_X12_heightOf_0 _ _ h ls_X12_heightOf_0 hf
  intro pc ls st g e
  rcases kb_s e with ⟨rfl, e⟩ | e
  · obtain ⟨a0, e0, f0⟩ := lgr_s e
    obtain ⟨x1, e1, f1⟩ := lgi_s f0
    obtain ⟨x2, e2, f2⟩ := lgi_s f1
    obtain ⟨x3, e3, f3⟩ := lgi_s f2
    obtain ⟨x4, e4, f4⟩ := lgi_s f3
    obtain ⟨qe, fe⟩ := pe_s f4
    subst qe
    exact MW.sub (List.forall_mem_cons.mpr ⟨lg_mem e0, List.forall_mem_cons.mpr ⟨lg_mem e1, List.forall_mem_cons.mpr ⟨lg_mem e2, List.forall_mem_cons.mpr ⟨lg_mem e3, List.forall_mem_cons.mpr ⟨lg_mem e4, fun _ h => absurd h List.not_mem_nil⟩⟩⟩⟩⟩) (t_X12_heightOf_5 N N a0 x1 x2 x3 x4 g fe)
  cases e
def L_X12_height_42 (N : Nat) : Nat → Nat → Int32 → Int32 → Int32 → mH → Option (Int32 × mH)
  | 0, _, _, _, _, _ => none
  | n + 1, a0, x2, x3, x4, h =>
    (gR h 12 a0 2).bind fun v1 =>
    (ldI 0 h v1 (jI 26)).bind fun v2 =>
    if x4 < v2 then
      (rcv h 12 a0).bind fun _ =>
      (f_X12_heightOf N a0 x4 x2 h).bind fun p3 =>
      let w4 := iAdd x3 p3.1
      let w5 := iAdd x4 (jI 1)
      L_X12_height_42 N n a0 x2 w4 w5 p3.2
    else
      some (x3, h)
def J_X12_height_25 (N : Nat) (a0 : Nat) (x1 : Int32) (x2 : Int32) (h : mH) : Option (Int32 × mH) :=
  if x1 = (jI (-1)) then
    L_X12_height_42 N N a0 x2 (jI 0) (jI 0) h
  else
    (rcv h 12 a0).bind fun _ =>
    (f_X12_heightOf N a0 x1 x2 h).bind fun p1 =>
    some (p1.1, p1.2)
def f_X12_height (N : Nat) (a0 : Nat) (x1 : Int32) (x2 : Int32) (h : mH) : Option (Int32 × mH) :=
  (pV h 12 a0 0 (.int (jI 0))).bind fun h1 =>
  if x1 = (jI (-1)) then
    J_X12_height_25 N a0 x1 x2 h1
  else
    (rcv h1 12 a0).bind fun _ =>
    (f_X12_isBand N a0 x1 h1).bind fun p2 =>
    if p2.1 = 0 then
      (rcv p2.2 12 a0).bind fun _ =>
      (f_X12_no N a0 (jI (-2)) p2.2).bind fun p3 =>
      some (p3.1, p3.2)
    else
      J_X12_height_25 N a0 x1 x2 p2.2
def y_X12_height : mM := (yX12_height, cX12_height, 5, (some .int))
def B_X12_height : List (Nat × List mI) := [(37, [(.iconst 0, 1, [], [0]), (.istore_n 3, 1, [3], []), (.iconst 0, 1, [], [0]), (.istore 4, 2, [4], [])]), (70, [(.iload_n 3, 1, [3], []), (.ireturn, 1, [], [])])]
def S_X12_height_0 : List mI := [(.aload_n 0, 1, [0], []), (.iconst 0, 1, [], [0]), (.putfield 1, 3, [12, 0, 0, 126], []), (.iload_n 1, 1, [1], []), (.iconst (-1), 1, [], [-1]), (.if_icmp .eq 18, 3, [25], []), (.aload_n 0, 1, [0], []), (.iload_n 1, 1, [1], []), (.invokevirtual 181, 3, [0, 247, 1, 12, 289], []), (.ifCond .ne 10, 3, [25], []), (.aload_n 0, 1, [0], []), (.bipush (-2), 2, [], [-2]), (.invokevirtual 84, 3, [0, 224, 1, 12, 267], []), (.ireturn, 1, [], [])]
def S_X12_height_25 : List mI := [(.iload_n 1, 1, [1], []), (.iconst (-1), 1, [], [-1]), (.if_icmp .eq 10, 3, [37], []), (.aload_n 0, 1, [0], []), (.iload_n 1, 1, [1], []), (.iload_n 2, 1, [2], []), (.invokevirtual 337, 3, [0, 313, 2, 12, 354], []), (.ireturn, 1, [], [])]
def S_X12_height_42 : List mI := [(.iload 4, 2, [4], []), (.aload_n 0, 1, [0], []), (.getfield 17, 3, [12, 2, 2, 128], []), (.bipush 26, 2, [], [26]), (.iaload, 1, [0], []), (.if_icmp .ge 19, 3, [70], []), (.iload_n 3, 1, [3], []), (.aload_n 0, 1, [0], []), (.iload 4, 2, [4], []), (.iload_n 2, 1, [2], []), (.invokevirtual 337, 3, [0, 313, 2, 12, 354], []), (.iadd, 1, [], []), (.istore_n 3, 1, [3], []), (.iinc 4 1, 3, [4], [1]), (.goto (-25), 3, [42], [])]
theorem lb_X12_height : B_X12_height.all (fun b => lst y_X12_height.2.1 12 y_X12_height.2.2.1 false b.1 b.2) = true := by decide +kernel
theorem ls_X12_height_0 : lst y_X12_height.2.1 12 y_X12_height.2.2.1 false 0 S_X12_height_0 = true := by decide +kernel
theorem ls_X12_height_25 : lst y_X12_height.2.1 12 y_X12_height.2.2.1 false 25 S_X12_height_25 = true := by decide +kernel
theorem ls_X12_height_42 : lst y_X12_height.2.1 12 y_X12_height.2.2.1 false 42 S_X12_height_42 = true := by decide +kernel
def C_X12_height (N : Nat) : Nat → List Value → mH → (Option Value → mH → Option (Int32 × mH)) → Option (Int32 × mH) := fun j as g k => kb j 247 (pr1 as fun b0 as => pp1 as fun b1 as => pe as ((f_X12_isBand N b0 b1 g).bind fun p => k (some (.int p.1)) p.2)) (kb j 224 (pr1 as fun b0 as => pp1 as fun b1 as => pe as ((f_X12_no N b0 b1 g).bind fun p => k (some (.int p.1)) p.2)) (kb j 313 (pr1 as fun b0 as => pp1 as fun b1 as => pp1 as fun b2 as => pe as ((f_X12_heightOf N b0 b1 b2 g).bind fun p => k (some (.int p.1)) p.2)) (none)))
theorem co_X12_height (N : Nat) (q : Int32 × mH) : clOK 6 q (C_X12_height N) := by
  intro j as g k e
  rcases kb_s e with ⟨rfl, e⟩ | e
  · obtain ⟨b0, r0, q0, f0⟩ := pr1_s e
    obtain ⟨b1, r1, q1, f1⟩ := pp1_s f0
    obtain ⟨qe, fe⟩ := pe_s f1
    obtain ⟨p, e1, e2⟩ := bnd_s fe
    subst qe
    subst q1
    subst q0
    exact ⟨_, _, _, _, 5, rfl, (by decide), m_X12_isBand N e1, e2⟩
  rcases kb_s e with ⟨rfl, e⟩ | e
  · obtain ⟨b0, r0, q0, f0⟩ := pr1_s e
    obtain ⟨b1, r1, q1, f1⟩ := pp1_s f0
    obtain ⟨qe, fe⟩ := pe_s f1
    obtain ⟨p, e1, e2⟩ := bnd_s fe
    subst qe
    subst q1
    subst q0
    exact ⟨_, _, _, _, 4, rfl, (by decide), m_X12_no N e1, e2⟩
  rcases kb_s e with ⟨rfl, e⟩ | e
  · obtain ⟨b0, r0, q0, f0⟩ := pr1_s e
    obtain ⟨b1, r1, q1, f1⟩ := pp1_s f0
    obtain ⟨b2, r2, q2, f2⟩ := pp1_s f1
    obtain ⟨qe, fe⟩ := pe_s f2
    obtain ⟨p, e1, e2⟩ := bnd_s fe
    subst qe
    subst q2
    subst q1
    subst q0
    exact ⟨_, _, _, _, 5, rfl, (by decide), m_X12_heightOf N e1, e2⟩
  cases e
set_option maxRecDepth 100000 in
theorem t_X12_height_42 {X : Nat × (Nat → Int32)} (N : Nat) {q : Int32 × mH} : ∀ (n : Nat) (a0 : Nat) (x2 : Int32) (x3 : Int32) (x4 : Int32) (h : mH), L_X12_height_42 N n a0 x2 x3 x4 h = some q → MW X y_X12_height 6 42 [(0, .ref a0), (2, .int x2), (3, .int x3), (4, .int x4)] [] h (some (.int q.1)) q.2 := by
  intro n
  induction n with
  | zero => intro a0 x2 x3 x4 h hf; cases hf
  | succ n ih =>
    intro a0 x2 x3 x4 h hf
    refine ev_ok (o := 12) (ini := false) (Cl := C_X12_height N) (Rc := RcI) (B := B_X12_height) (K := fun pc ls st g => kb pc 42 (lgr 0 ls fun a0 => lgi 2 ls fun x2 => lgi 3 ls fun x3 => lgi 4 ls fun x4 => pe st (L_X12_height_42 N n a0 x2 x3 x4 g)) (none)) rfl (fun e => by cases e) (by decide) (rcI_ok rfl) ?_ (co_X12_height N q) lb_X12_height 3000 42 S_X12_height_42 _ _ h ls_X12_height_42 hf
    intro pc ls st g e
    rcases kb_s e with ⟨rfl, e⟩ | e
    · obtain ⟨a0, e0, f0⟩ := lgr_s e
      obtain ⟨x2, e1, f1⟩ := lgi_s f0
      obtain ⟨x3, e2, f2⟩ := lgi_s f1
      obtain ⟨x4, e3, f3⟩ := lgi_s f2
      obtain ⟨qe, fe⟩ := pe_s f3
      subst qe
      exact MW.sub (List.forall_mem_cons.mpr ⟨lg_mem e0, List.forall_mem_cons.mpr ⟨lg_mem e1, List.forall_mem_cons.mpr ⟨lg_mem e2, List.forall_mem_cons.mpr ⟨lg_mem e3, fun _ h => absurd h List.not_mem_nil⟩⟩⟩⟩) (ih a0 x2 x3 x4 g fe)
    cases e
set_option maxRecDepth 100000 in
theorem t_X12_height_25 {X : Nat × (Nat → Int32)} (N : Nat) {q : Int32 × mH} (a0 : Nat) (x1 : Int32) (x2 : Int32) (h : mH) (hf : J_X12_height_25 N a0 x1 x2 h = some q) : MW X y_X12_height 6 25 [(0, .ref a0), (1, .int x1), (2, .int x2)] [] h (some (.int q.1)) q.2 := by
  refine ev_ok (o := 12) (ini := false) (Cl := C_X12_height N) (Rc := RcI) (B := B_X12_height) (K := fun pc ls st g => kb pc 42 (lgr 0 ls fun a0 => lgi 2 ls fun x2 => lgi 3 ls fun x3 => lgi 4 ls fun x4 => pe st (L_X12_height_42 N N a0 x2 x3 x4 g)) (none)) rfl (fun e => by cases e) (by decide) (rcI_ok rfl) ?_ (co_X12_height N q) lb_X12_height 3000 25 S_X12_height_25 _ _ h ls_X12_height_25 hf
  intro pc ls st g e
  rcases kb_s e with ⟨rfl, e⟩ | e
  · obtain ⟨a0, e0, f0⟩ := lgr_s e
    obtain ⟨x2, e1, f1⟩ := lgi_s f0
    obtain ⟨x3, e2, f2⟩ := lgi_s f1
    obtain ⟨x4, e3, f3⟩ := lgi_s f2
    obtain ⟨qe, fe⟩ := pe_s f3
    subst qe
    exact MW.sub (List.forall_mem_cons.mpr ⟨lg_mem e0, List.forall_mem_cons.mpr ⟨lg_mem e1, List.forall_mem_cons.mpr ⟨lg_mem e2, List.forall_mem_cons.mpr ⟨lg_mem e3, fun _ h => absurd h List.not_mem_nil⟩⟩⟩⟩) (t_X12_height_42 N N a0 x2 x3 x4 g fe)
  cases e
set_option maxRecDepth 100000 in
theorem m_X12_height (N : Nat) {a0 : Nat} {x1 : Int32} {x2 : Int32} {h : mH} {q : Int32 × mH} (hf : f_X12_height N a0 x1 x2 h = some q) : MM y_X12_height 6 [.ref a0, .int x1, .int x2] h (some (.int q.1)) q.2 := by
  refine MM.of (mFx (j := 314) rfl).2.2.2.1 (Nat.le_of_ble_eq_true rfl) (fun X => ?_)
  refine ev_ok (o := 12) (ini := false) (Cl := C_X12_height N) (Rc := RcI) (B := B_X12_height) (K := fun pc ls st g => kb pc 25 (lgr 0 ls fun a0 => lgi 1 ls fun x1 => lgi 2 ls fun x2 => pe st (J_X12_height_25 N a0 x1 x2 g)) (none)) rfl (fun e => by cases e) (by decide) (rcI_ok rfl) ?_ (co_X12_height N q) lb_X12_height 3000 0 S_X12_height_0 _ _ h ls_X12_height_0 hf
  intro pc ls st g e
  rcases kb_s e with ⟨rfl, e⟩ | e
  · obtain ⟨a0, e0, f0⟩ := lgr_s e
    obtain ⟨x1, e1, f1⟩ := lgi_s f0
    obtain ⟨x2, e2, f2⟩ := lgi_s f1
    obtain ⟨qe, fe⟩ := pe_s f2
    subst qe
    exact MW.sub (List.forall_mem_cons.mpr ⟨lg_mem e0, List.forall_mem_cons.mpr ⟨lg_mem e1, List.forall_mem_cons.mpr ⟨lg_mem e2, fun _ h => absurd h List.not_mem_nil⟩⟩⟩) (t_X12_height_25 N a0 x1 x2 g fe)
  cases e
def L_X12_loose_9 (N : Nat) : Nat → Nat → Int32 → Int32 → mH → Option (Int32 × mH)
  | 0, _, _, _, _ => none
  | n + 1, a0, x1, x2, h =>
    (gR h 12 a0 2).bind fun v1 =>
    (ldI 0 h v1 (jI 26)).bind fun v2 =>
    if x2 < v2 then
      (rcv h 12 a0).bind fun _ =>
      (f_X12_heightOf N a0 x2 (jI 0) h).bind fun p3 =>
      (rcv p3.2 12 a0).bind fun _ =>
      (f_X12_heightOf N a0 x2 (jI 1) p3.2).bind fun p4 =>
      let w5 := (iSub p3.1 p4.1).toInt64
      if x1 = (jI (-1)) then
        let w6 := iAdd x2 (jI 1)
        L_X12_loose_9 N n a0 x2 w6 p4.2
      else
        (rcv p4.2 12 a0).bind fun _ =>
        (f_X12_heightOf N a0 x1 (jI 0) p4.2).bind fun p7 =>
        (rcv p7.2 12 a0).bind fun _ =>
        (f_X12_heightOf N a0 x1 (jI 0) p7.2).bind fun p8 =>
        (rcv p8.2 12 a0).bind fun _ =>
        (f_X12_heightOf N a0 x1 (jI 1) p8.2).bind fun p9 =>
        (rcv p9.2 12 a0).bind fun _ =>
        (f_X12_heightOf N a0 x2 (jI 0) p9.2).bind fun p10 =>
        if (lMul ((iSub p8.1 p9.1).toInt64) p10.1.toInt64) < (lMul w5 p7.1.toInt64) then
          let w11 := iAdd x2 (jI 1)
          L_X12_loose_9 N n a0 x2 w11 p10.2
        else
          let w12 := iAdd x2 (jI 1)
          L_X12_loose_9 N n a0 x1 w12 p10.2
    else
      some (x1, h)
def f_X12_loose (N : Nat) (a0 : Nat) (h : mH) : Option (Int32 × mH) :=
  (pV h 12 a0 0 (.int (jI 0))).bind fun h1 =>
  L_X12_loose_9 N N a0 (jI (-1)) (jI 0) h1
def y_X12_loose : mM := (yX12_loose, cX12_loose, 5, (some .int))
def B_X12_loose : List (Nat × List mI) := [(78, [(.iload_n 2, 1, [2], []), (.istore_n 1, 1, [1], [])]), (80, [(.iinc 2 1, 3, [2], [1]), (.goto (-74), 3, [9], [])]), (86, [(.iload_n 1, 1, [1], []), (.ireturn, 1, [], [])])]
def S_X12_loose_0 : List mI := [(.aload_n 0, 1, [0], []), (.iconst 0, 1, [], [0]), (.putfield 1, 3, [12, 0, 0, 126], []), (.iconst (-1), 1, [], [-1]), (.istore_n 1, 1, [1], []), (.iconst 0, 1, [], [0]), (.istore_n 2, 1, [2], [])]
def S_X12_loose_9 : List mI := [(.iload_n 2, 1, [2], []), (.aload_n 0, 1, [0], []), (.getfield 17, 3, [12, 2, 2, 128], []), (.bipush 26, 2, [], [26]), (.iaload, 1, [0], []), (.if_icmp .ge 69, 3, [86], []), (.aload_n 0, 1, [0], []), (.iload_n 2, 1, [2], []), (.iconst 0, 1, [], [0]), (.invokevirtual 337, 3, [0, 313, 2, 12, 354], []), (.aload_n 0, 1, [0], []), (.iload_n 2, 1, [2], []), (.iconst 1, 1, [], [1]), (.invokevirtual 337, 3, [0, 313, 2, 12, 354], []), (.isub, 1, [], []), (.i2l, 1, [], []), (.lstore_n 3, 1, [3], []), (.iload_n 1, 1, [1], []), (.iconst (-1), 1, [], [-1]), (.if_icmp .eq 41, 3, [78], []), (.lload_n 3, 1, [3], []), (.aload_n 0, 1, [0], []), (.iload_n 1, 1, [1], []), (.iconst 0, 1, [], [0]), (.invokevirtual 337, 3, [0, 313, 2, 12, 354], []), (.i2l, 1, [], []), (.lmul, 1, [], []), (.aload_n 0, 1, [0], []), (.iload_n 1, 1, [1], []), (.iconst 0, 1, [], [0]), (.invokevirtual 337, 3, [0, 313, 2, 12, 354], []), (.aload_n 0, 1, [0], []), (.iload_n 1, 1, [1], []), (.iconst 1, 1, [], [1]), (.invokevirtual 337, 3, [0, 313, 2, 12, 354], []), (.isub, 1, [], []), (.i2l, 1, [], []), (.aload_n 0, 1, [0], []), (.iload_n 2, 1, [2], []), (.iconst 0, 1, [], [0]), (.invokevirtual 337, 3, [0, 313, 2, 12, 354], []), (.i2l, 1, [], []), (.lmul, 1, [], []), (.lcmp, 1, [], []), (.ifCond .gt 6, 3, [78], []), (.goto 5, 3, [80], [])]
theorem lb_X12_loose : B_X12_loose.all (fun b => lst y_X12_loose.2.1 12 y_X12_loose.2.2.1 false b.1 b.2) = true := by decide +kernel
theorem ls_X12_loose_0 : lst y_X12_loose.2.1 12 y_X12_loose.2.2.1 false 0 S_X12_loose_0 = true := by decide +kernel
theorem ls_X12_loose_9 : lst y_X12_loose.2.1 12 y_X12_loose.2.2.1 false 9 S_X12_loose_9 = true := by decide +kernel
def C_X12_loose (N : Nat) : Nat → List Value → mH → (Option Value → mH → Option (Int32 × mH)) → Option (Int32 × mH) := fun j as g k => kb j 313 (pr1 as fun b0 as => pp1 as fun b1 as => pp1 as fun b2 as => pe as ((f_X12_heightOf N b0 b1 b2 g).bind fun p => k (some (.int p.1)) p.2)) (none)
theorem co_X12_loose (N : Nat) (q : Int32 × mH) : clOK 6 q (C_X12_loose N) := by
  intro j as g k e
  rcases kb_s e with ⟨rfl, e⟩ | e
  · obtain ⟨b0, r0, q0, f0⟩ := pr1_s e
    obtain ⟨b1, r1, q1, f1⟩ := pp1_s f0
    obtain ⟨b2, r2, q2, f2⟩ := pp1_s f1
    obtain ⟨qe, fe⟩ := pe_s f2
    obtain ⟨p, e1, e2⟩ := bnd_s fe
    subst qe
    subst q2
    subst q1
    subst q0
    exact ⟨_, _, _, _, 5, rfl, (by decide), m_X12_heightOf N e1, e2⟩
  cases e
set_option maxRecDepth 100000 in
theorem t_X12_loose_9 {X : Nat × (Nat → Int32)} (N : Nat) {q : Int32 × mH} : ∀ (n : Nat) (a0 : Nat) (x1 : Int32) (x2 : Int32) (h : mH), L_X12_loose_9 N n a0 x1 x2 h = some q → MW X y_X12_loose 6 9 [(0, .ref a0), (1, .int x1), (2, .int x2)] [] h (some (.int q.1)) q.2 := by
  intro n
  induction n with
  | zero => intro a0 x1 x2 h hf; cases hf
  | succ n ih =>
    intro a0 x1 x2 h hf
    refine ev_ok (o := 12) (ini := false) (Cl := C_X12_loose N) (Rc := RcI) (B := B_X12_loose) (K := fun pc ls st g => kb pc 9 (lgr 0 ls fun a0 => lgi 1 ls fun x1 => lgi 2 ls fun x2 => pe st (L_X12_loose_9 N n a0 x1 x2 g)) (none)) rfl (fun e => by cases e) (by decide) (rcI_ok rfl) ?_ (co_X12_loose N q) lb_X12_loose 3000 9 S_X12_loose_9 _ _ h ls_X12_loose_9 hf
    intro pc ls st g e
    rcases kb_s e with ⟨rfl, e⟩ | e
    · obtain ⟨a0, e0, f0⟩ := lgr_s e
      obtain ⟨x1, e1, f1⟩ := lgi_s f0
      obtain ⟨x2, e2, f2⟩ := lgi_s f1
      obtain ⟨qe, fe⟩ := pe_s f2
      subst qe
      exact MW.sub (List.forall_mem_cons.mpr ⟨lg_mem e0, List.forall_mem_cons.mpr ⟨lg_mem e1, List.forall_mem_cons.mpr ⟨lg_mem e2, fun _ h => absurd h List.not_mem_nil⟩⟩⟩) (ih a0 x1 x2 g fe)
    cases e
set_option maxRecDepth 100000 in
theorem m_X12_loose (N : Nat) {a0 : Nat} {h : mH} {q : Int32 × mH} (hf : f_X12_loose N a0 h = some q) : MM y_X12_loose 6 [.ref a0] h (some (.int q.1)) q.2 := by
  refine MM.of (mFx (j := 315) rfl).2.2.2.1 (Nat.le_of_ble_eq_true rfl) (fun X => ?_)
  refine ev_ok (o := 12) (ini := false) (Cl := C_X12_loose N) (Rc := RcI) (B := B_X12_loose) (K := fun pc ls st g => kb pc 9 (lgr 0 ls fun a0 => lgi 1 ls fun x1 => lgi 2 ls fun x2 => pe st (L_X12_loose_9 N N a0 x1 x2 g)) (none)) rfl (fun e => by cases e) (by decide) (rcI_ok rfl) ?_ (co_X12_loose N q) lb_X12_loose 3000 0 S_X12_loose_0 _ _ h ls_X12_loose_0 hf
  intro pc ls st g e
  rcases kb_s e with ⟨rfl, e⟩ | e
  · obtain ⟨a0, e0, f0⟩ := lgr_s e
    obtain ⟨x1, e1, f1⟩ := lgi_s f0
    obtain ⟨x2, e2, f2⟩ := lgi_s f1
    obtain ⟨qe, fe⟩ := pe_s f2
    subst qe
    exact MW.sub (List.forall_mem_cons.mpr ⟨lg_mem e0, List.forall_mem_cons.mpr ⟨lg_mem e1, List.forall_mem_cons.mpr ⟨lg_mem e2, fun _ h => absurd h List.not_mem_nil⟩⟩⟩) (t_X12_loose_9 N N a0 x1 x2 g fe)
  cases e
def L_X12_holdOf_23 (N : Nat) (k4 : Nat → Int32 → Int32 → Int32 → mH → Option (Int32 × mH)) : Nat → Nat → Int32 → Int32 → Int32 → Int32 → Int32 → mH → Option (Int32 × mH)
  | 0, _, _, _, _, _, _, _ => none
  | n + 1, a0, x1, x2, x3, x4, x5, h =>
    (rcv h 12 a0).bind fun _ =>
    (f_X12_crossingsOf N a0 x1 h).bind fun p1 =>
    if x5 < p1.1 then
      (rcv p1.2 12 a0).bind fun _ =>
      (f_X12_isOver N a0 x1 x3 x5 p1.2).bind fun p2 =>
      (rcv p2.2 12 a0).bind fun _ =>
      (f_X12_isOver N a0 x1 x3 (iSub x5 (jI 1)) p2.2).bind fun p3 =>
      if p2.1 = p3.1 then
        let w4 := iAdd x4 (jI 0)
        let w5 := iAdd x5 (jI 1)
        L_X12_holdOf_23 N k4 n a0 x1 x2 x3 w4 w5 p3.2
      else
        let w6 := iAdd x4 (jI 1)
        let w7 := iAdd x5 (jI 1)
        L_X12_holdOf_23 N k4 n a0 x1 x2 x3 w6 w7 p3.2
    else
      (gR p1.2 12 a0 2).bind fun v8 =>
      (rcv p1.2 12 a0).bind fun _ =>
      (f_X12_kindOf N a0 x1 x3 p1.2).bind fun p9 =>
      (ldI 0 p9.2 v8 (iAdd (jI 8) p9.1)).bind fun v10 =>
      (gR p9.2 12 a0 2).bind fun v11 =>
      (rcv p9.2 12 a0).bind fun _ =>
      (f_X12_kindOf N a0 x1 x3 p9.2).bind fun p12 =>
      (ldI 0 p12.2 v11 (iAdd (jI 14) p12.1)).bind fun v13 =>
      let w14 := iAdd x2 (iMul (iMul x4 v10) (iSub (jI 100) v13))
      let w15 := iAdd x3 (jI 1)
      k4 a0 x1 w14 w15 p12.2
def L_X12_holdOf_4 (N : Nat) : Nat → Nat → Int32 → Int32 → Int32 → mH → Option (Int32 × mH)
  | 0, _, _, _, _, _ => none
  | n + 1, a0, x1, x2, x3, h =>
    (gR h 12 a0 2).bind fun v1 =>
    (ldI 0 h v1 (iAdd (jI 27) x1)).bind fun v2 =>
    if x3 < v2 then
      L_X12_holdOf_23 N (L_X12_holdOf_4 N n) N a0 x1 x2 x3 (jI 0) (jI 1) h
    else
      some (x2, h)
def f_X12_holdOf (N : Nat) (a0 : Nat) (x1 : Int32) (h : mH) : Option (Int32 × mH) :=
  L_X12_holdOf_4 N N a0 x1 (jI 0) (jI 0) h
def y_X12_holdOf : mM := (yX12_holdOf, cX12_holdOf, 6, (some .int))
def B_X12_holdOf : List (Nat × List mI) := [(60, [(.iconst 0, 1, [], [0])]), (61, [(.iadd, 1, [], []), (.istore 4, 2, [4], []), (.iinc 5 1, 3, [5], [1]), (.goto (-44), 3, [23], [])]), (70, [(.iload_n 2, 1, [2], []), (.iload 4, 2, [4], []), (.aload_n 0, 1, [0], []), (.getfield 17, 3, [12, 2, 2, 128], []), (.bipush 8, 2, [], [8]), (.aload_n 0, 1, [0], []), (.iload_n 1, 1, [1], []), (.iload_n 3, 1, [3], []), (.invokevirtual 207, 3, [0, 261, 2, 12, 296], []), (.iadd, 1, [], []), (.iaload, 1, [0], []), (.imul, 1, [], []), (.bipush 100, 2, [], [100]), (.aload_n 0, 1, [0], []), (.getfield 17, 3, [12, 2, 2, 128], []), (.bipush 14, 2, [], [14]), (.aload_n 0, 1, [0], []), (.iload_n 1, 1, [1], []), (.iload_n 3, 1, [3], []), (.invokevirtual 207, 3, [0, 261, 2, 12, 296], []), (.iadd, 1, [], []), (.iaload, 1, [0], []), (.isub, 1, [], []), (.imul, 1, [], []), (.iadd, 1, [], []), (.istore_n 2, 1, [2], []), (.iinc 3 1, 3, [3], [1]), (.goto (-107), 3, [4], [])]), (114, [(.iload_n 2, 1, [2], []), (.ireturn, 1, [], [])])]
def S_X12_holdOf_0 : List mI := [(.iconst 0, 1, [], [0]), (.istore_n 2, 1, [2], []), (.iconst 0, 1, [], [0]), (.istore_n 3, 1, [3], [])]
def S_X12_holdOf_4 : List mI := [(.iload_n 3, 1, [3], []), (.aload_n 0, 1, [0], []), (.getfield 17, 3, [12, 2, 2, 128], []), (.bipush 27, 2, [], [27]), (.iload_n 1, 1, [1], []), (.iadd, 1, [], []), (.iaload, 1, [0], []), (.if_icmp .ge 100, 3, [114], []), (.iconst 0, 1, [], [0]), (.istore 4, 2, [4], []), (.iconst 1, 1, [], [1]), (.istore 5, 2, [5], [])]
def S_X12_holdOf_23 : List mI := [(.iload 5, 2, [5], []), (.aload_n 0, 1, [0], []), (.iload_n 1, 1, [1], []), (.invokevirtual 198, 3, [0, 252, 1, 12, 294], []), (.if_icmp .ge 40, 3, [70], []), (.iload 4, 2, [4], []), (.aload_n 0, 1, [0], []), (.iload_n 1, 1, [1], []), (.iload_n 3, 1, [3], []), (.iload 5, 2, [5], []), (.invokevirtual 225, 3, [0, 256, 3, 12, 301], []), (.aload_n 0, 1, [0], []), (.iload_n 1, 1, [1], []), (.iload_n 3, 1, [3], []), (.iload 5, 2, [5], []), (.iconst 1, 1, [], [1]), (.isub, 1, [], []), (.invokevirtual 225, 3, [0, 256, 3, 12, 301], []), (.if_icmp .eq 7, 3, [60], []), (.iconst 1, 1, [], [1]), (.goto 4, 3, [61], [])]
theorem lb_X12_holdOf : B_X12_holdOf.all (fun b => lst y_X12_holdOf.2.1 12 y_X12_holdOf.2.2.1 false b.1 b.2) = true := by decide +kernel
theorem ls_X12_holdOf_0 : lst y_X12_holdOf.2.1 12 y_X12_holdOf.2.2.1 false 0 S_X12_holdOf_0 = true := by decide +kernel
theorem ls_X12_holdOf_4 : lst y_X12_holdOf.2.1 12 y_X12_holdOf.2.2.1 false 4 S_X12_holdOf_4 = true := by decide +kernel
theorem ls_X12_holdOf_23 : lst y_X12_holdOf.2.1 12 y_X12_holdOf.2.2.1 false 23 S_X12_holdOf_23 = true := by decide +kernel
def C_X12_holdOf (N : Nat) : Nat → List Value → mH → (Option Value → mH → Option (Int32 × mH)) → Option (Int32 × mH) := fun j as g k => kb j 252 (pr1 as fun b0 as => pp1 as fun b1 as => pe as ((f_X12_crossingsOf N b0 b1 g).bind fun p => k (some (.int p.1)) p.2)) (kb j 256 (pr1 as fun b0 as => pp1 as fun b1 as => pp1 as fun b2 as => pp1 as fun b3 as => pe as ((f_X12_isOver N b0 b1 b2 b3 g).bind fun p => k (some (.int p.1)) p.2)) (kb j 261 (pr1 as fun b0 as => pp1 as fun b1 as => pp1 as fun b2 as => pe as ((f_X12_kindOf N b0 b1 b2 g).bind fun p => k (some (.int p.1)) p.2)) (none)))
theorem co_X12_holdOf (N : Nat) (q : Int32 × mH) : clOK 6 q (C_X12_holdOf N) := by
  intro j as g k e
  rcases kb_s e with ⟨rfl, e⟩ | e
  · obtain ⟨b0, r0, q0, f0⟩ := pr1_s e
    obtain ⟨b1, r1, q1, f1⟩ := pp1_s f0
    obtain ⟨qe, fe⟩ := pe_s f1
    obtain ⟨p, e1, e2⟩ := bnd_s fe
    subst qe
    subst q1
    subst q0
    exact ⟨_, _, _, _, 4, rfl, (by decide), m_X12_crossingsOf N e1, e2⟩
  rcases kb_s e with ⟨rfl, e⟩ | e
  · obtain ⟨b0, r0, q0, f0⟩ := pr1_s e
    obtain ⟨b1, r1, q1, f1⟩ := pp1_s f0
    obtain ⟨b2, r2, q2, f2⟩ := pp1_s f1
    obtain ⟨b3, r3, q3, f3⟩ := pp1_s f2
    obtain ⟨qe, fe⟩ := pe_s f3
    obtain ⟨p, e1, e2⟩ := bnd_s fe
    subst qe
    subst q3
    subst q2
    subst q1
    subst q0
    exact ⟨_, _, _, _, 5, rfl, (by decide), m_X12_isOver N e1, e2⟩
  rcases kb_s e with ⟨rfl, e⟩ | e
  · obtain ⟨b0, r0, q0, f0⟩ := pr1_s e
    obtain ⟨b1, r1, q1, f1⟩ := pp1_s f0
    obtain ⟨b2, r2, q2, f2⟩ := pp1_s f1
    obtain ⟨qe, fe⟩ := pe_s f2
    obtain ⟨p, e1, e2⟩ := bnd_s fe
    subst qe
    subst q2
    subst q1
    subst q0
    exact ⟨_, _, _, _, 4, rfl, (by decide), m_X12_kindOf N e1, e2⟩
  cases e
set_option maxRecDepth 100000 in
theorem t_X12_holdOf_23 {X : Nat × (Nat → Int32)} (N : Nat) {q : Int32 × mH} {k4 : Nat → Int32 → Int32 → Int32 → mH → Option (Int32 × mH)} (hk4 : ∀ (a0 : Nat) (x1 : Int32) (x2 : Int32) (x3 : Int32) g, k4 a0 x1 x2 x3 g = some q → MW X y_X12_holdOf 6 4 [(0, .ref a0), (1, .int x1), (2, .int x2), (3, .int x3)] [] g (some (.int q.1)) q.2) : ∀ (n : Nat) (a0 : Nat) (x1 : Int32) (x2 : Int32) (x3 : Int32) (x4 : Int32) (x5 : Int32) (h : mH), L_X12_holdOf_23 N k4 n a0 x1 x2 x3 x4 x5 h = some q → MW X y_X12_holdOf 6 23 [(0, .ref a0), (1, .int x1), (2, .int x2), (3, .int x3), (4, .int x4), (5, .int x5)] [] h (some (.int q.1)) q.2 := by
  intro n
  induction n with
  | zero => intro a0 x1 x2 x3 x4 x5 h hf; cases hf
  | succ n ih =>
    intro a0 x1 x2 x3 x4 x5 h hf
    refine ev_ok (o := 12) (ini := false) (Cl := C_X12_holdOf N) (Rc := RcI) (B := B_X12_holdOf) (K := fun pc ls st g => kb pc 4 (lgr 0 ls fun a0 => lgi 1 ls fun x1 => lgi 2 ls fun x2 => lgi 3 ls fun x3 => pe st (k4 a0 x1 x2 x3 g)) (kb pc 23 (lgr 0 ls fun a0 => lgi 1 ls fun x1 => lgi 2 ls fun x2 => lgi 3 ls fun x3 => lgi 4 ls fun x4 => lgi 5 ls fun x5 => pe st (L_X12_holdOf_23 N k4 n a0 x1 x2 x3 x4 x5 g)) (none))) rfl (fun e => by cases e) (by decide) (rcI_ok rfl) ?_ (co_X12_holdOf N q) lb_X12_holdOf 3000 23 S_X12_holdOf_23 _ _ h ls_X12_holdOf_23 hf
    intro pc ls st g e
    rcases kb_s e with ⟨rfl, e⟩ | e
    · obtain ⟨a0, e0, f0⟩ := lgr_s e
      obtain ⟨x1, e1, f1⟩ := lgi_s f0
      obtain ⟨x2, e2, f2⟩ := lgi_s f1
      obtain ⟨x3, e3, f3⟩ := lgi_s f2
      obtain ⟨qe, fe⟩ := pe_s f3
      subst qe
      exact MW.sub (List.forall_mem_cons.mpr ⟨lg_mem e0, List.forall_mem_cons.mpr ⟨lg_mem e1, List.forall_mem_cons.mpr ⟨lg_mem e2, List.forall_mem_cons.mpr ⟨lg_mem e3, fun _ h => absurd h List.not_mem_nil⟩⟩⟩⟩) (hk4 a0 x1 x2 x3 g fe)
    rcases kb_s e with ⟨rfl, e⟩ | e
    · obtain ⟨a0, e0, f0⟩ := lgr_s e
      obtain ⟨x1, e1, f1⟩ := lgi_s f0
      obtain ⟨x2, e2, f2⟩ := lgi_s f1
      obtain ⟨x3, e3, f3⟩ := lgi_s f2
      obtain ⟨x4, e4, f4⟩ := lgi_s f3
      obtain ⟨x5, e5, f5⟩ := lgi_s f4
      obtain ⟨qe, fe⟩ := pe_s f5
      subst qe
      exact MW.sub (List.forall_mem_cons.mpr ⟨lg_mem e0, List.forall_mem_cons.mpr ⟨lg_mem e1, List.forall_mem_cons.mpr ⟨lg_mem e2, List.forall_mem_cons.mpr ⟨lg_mem e3, List.forall_mem_cons.mpr ⟨lg_mem e4, List.forall_mem_cons.mpr ⟨lg_mem e5, fun _ h => absurd h List.not_mem_nil⟩⟩⟩⟩⟩⟩) (ih a0 x1 x2 x3 x4 x5 g fe)
    cases e
set_option maxRecDepth 100000 in
theorem t_X12_holdOf_4 {X : Nat × (Nat → Int32)} (N : Nat) {q : Int32 × mH} : ∀ (n : Nat) (a0 : Nat) (x1 : Int32) (x2 : Int32) (x3 : Int32) (h : mH), L_X12_holdOf_4 N n a0 x1 x2 x3 h = some q → MW X y_X12_holdOf 6 4 [(0, .ref a0), (1, .int x1), (2, .int x2), (3, .int x3)] [] h (some (.int q.1)) q.2 := by
  intro n
  induction n with
  | zero => intro a0 x1 x2 x3 h hf; cases hf
  | succ n ih =>
    intro a0 x1 x2 x3 h hf
    refine ev_ok (o := 12) (ini := false) (Cl := C_X12_holdOf N) (Rc := RcI) (B := B_X12_holdOf) (K := fun pc ls st g => kb pc 23 (lgr 0 ls fun a0 => lgi 1 ls fun x1 => lgi 2 ls fun x2 => lgi 3 ls fun x3 => lgi 4 ls fun x4 => lgi 5 ls fun x5 => pe st (L_X12_holdOf_23 N (L_X12_holdOf_4 N n) N a0 x1 x2 x3 x4 x5 g)) (none)) rfl (fun e => by cases e) (by decide) (rcI_ok rfl) ?_ (co_X12_holdOf N q) lb_X12_holdOf 3000 4 S_X12_holdOf_4 _ _ h ls_X12_holdOf_4 hf
    intro pc ls st g e
    rcases kb_s e with ⟨rfl, e⟩ | e
    · obtain ⟨a0, e0, f0⟩ := lgr_s e
      obtain ⟨x1, e1, f1⟩ := lgi_s f0
      obtain ⟨x2, e2, f2⟩ := lgi_s f1
      obtain ⟨x3, e3, f3⟩ := lgi_s f2
      obtain ⟨x4, e4, f4⟩ := lgi_s f3
      obtain ⟨x5, e5, f5⟩ := lgi_s f4
      obtain ⟨qe, fe⟩ := pe_s f5
      subst qe
      exact MW.sub (List.forall_mem_cons.mpr ⟨lg_mem e0, List.forall_mem_cons.mpr ⟨lg_mem e1, List.forall_mem_cons.mpr ⟨lg_mem e2, List.forall_mem_cons.mpr ⟨lg_mem e3, List.forall_mem_cons.mpr ⟨lg_mem e4, List.forall_mem_cons.mpr ⟨lg_mem e5, fun _ h => absurd h List.not_mem_nil⟩⟩⟩⟩⟩⟩) (t_X12_holdOf_23 N (fun a0 x1 x2 x3 g e => ih a0 x1 x2 x3 g e) N a0 x1 x2 x3 x4 x5 g fe)
    cases e
set_option maxRecDepth 100000 in
theorem m_X12_holdOf (N : Nat) {a0 : Nat} {x1 : Int32} {h : mH} {q : Int32 × mH} (hf : f_X12_holdOf N a0 x1 h = some q) : MM y_X12_holdOf 6 [.ref a0, .int x1] h (some (.int q.1)) q.2 := by
  refine MM.of (mFx (j := 316) rfl).2.2.2.1 (Nat.le_of_ble_eq_true rfl) (fun X => ?_)
  refine ev_ok (o := 12) (ini := false) (Cl := C_X12_holdOf N) (Rc := RcI) (B := B_X12_holdOf) (K := fun pc ls st g => kb pc 4 (lgr 0 ls fun a0 => lgi 1 ls fun x1 => lgi 2 ls fun x2 => lgi 3 ls fun x3 => pe st (L_X12_holdOf_4 N N a0 x1 x2 x3 g)) (none)) rfl (fun e => by cases e) (by decide) (rcI_ok rfl) ?_ (co_X12_holdOf N q) lb_X12_holdOf 3000 0 S_X12_holdOf_0 _ _ h ls_X12_holdOf_0 hf
  intro pc ls st g e
  rcases kb_s e with ⟨rfl, e⟩ | e
  · obtain ⟨a0, e0, f0⟩ := lgr_s e
    obtain ⟨x1, e1, f1⟩ := lgi_s f0
    obtain ⟨x2, e2, f2⟩ := lgi_s f1
    obtain ⟨x3, e3, f3⟩ := lgi_s f2
    obtain ⟨qe, fe⟩ := pe_s f3
    subst qe
    exact MW.sub (List.forall_mem_cons.mpr ⟨lg_mem e0, List.forall_mem_cons.mpr ⟨lg_mem e1, List.forall_mem_cons.mpr ⟨lg_mem e2, List.forall_mem_cons.mpr ⟨lg_mem e3, fun _ h => absurd h List.not_mem_nil⟩⟩⟩⟩) (t_X12_holdOf_4 N N a0 x1 x2 x3 g fe)
  cases e
def f_X12_hold (N : Nat) (a0 : Nat) (x1 : Int32) (h : mH) : Option (Int32 × mH) :=
  (pV h 12 a0 0 (.int (jI 0))).bind fun h1 =>
  (rcv h1 12 a0).bind fun _ =>
  (f_X12_isBand N a0 x1 h1).bind fun p2 =>
  if p2.1 = 0 then
    (rcv p2.2 12 a0).bind fun _ =>
    (f_X12_no N a0 (jI (-2)) p2.2).bind fun p3 =>
    some (p3.1, p3.2)
  else
    (rcv p2.2 12 a0).bind fun _ =>
    (f_X12_holdOf N a0 x1 p2.2).bind fun p4 =>
    some (p4.1, p4.2)
def y_X12_hold : mM := (yX12_hold, cX12_hold, 2, (some .int))
def B_X12_hold : List (Nat × List mI) := [(21, [(.aload_n 0, 1, [0], []), (.bipush (-2), 2, [], [-2]), (.invokevirtual 84, 3, [0, 224, 1, 12, 267], [])]), (27, [(.ireturn, 1, [], [])])]
def S_X12_hold_0 : List mI := [(.aload_n 0, 1, [0], []), (.iconst 0, 1, [], [0]), (.putfield 1, 3, [12, 0, 0, 126], []), (.aload_n 0, 1, [0], []), (.iload_n 1, 1, [1], []), (.invokevirtual 181, 3, [0, 247, 1, 12, 289], []), (.ifCond .eq 11, 3, [21], []), (.aload_n 0, 1, [0], []), (.iload_n 1, 1, [1], []), (.invokevirtual 340, 3, [0, 316, 1, 12, 357], []), (.goto 9, 3, [27], [])]
theorem lb_X12_hold : B_X12_hold.all (fun b => lst y_X12_hold.2.1 12 y_X12_hold.2.2.1 false b.1 b.2) = true := by decide +kernel
theorem ls_X12_hold_0 : lst y_X12_hold.2.1 12 y_X12_hold.2.2.1 false 0 S_X12_hold_0 = true := by decide +kernel
def C_X12_hold (N : Nat) : Nat → List Value → mH → (Option Value → mH → Option (Int32 × mH)) → Option (Int32 × mH) := fun j as g k => kb j 247 (pr1 as fun b0 as => pp1 as fun b1 as => pe as ((f_X12_isBand N b0 b1 g).bind fun p => k (some (.int p.1)) p.2)) (kb j 316 (pr1 as fun b0 as => pp1 as fun b1 as => pe as ((f_X12_holdOf N b0 b1 g).bind fun p => k (some (.int p.1)) p.2)) (kb j 224 (pr1 as fun b0 as => pp1 as fun b1 as => pe as ((f_X12_no N b0 b1 g).bind fun p => k (some (.int p.1)) p.2)) (none)))
theorem co_X12_hold (N : Nat) (q : Int32 × mH) : clOK 7 q (C_X12_hold N) := by
  intro j as g k e
  rcases kb_s e with ⟨rfl, e⟩ | e
  · obtain ⟨b0, r0, q0, f0⟩ := pr1_s e
    obtain ⟨b1, r1, q1, f1⟩ := pp1_s f0
    obtain ⟨qe, fe⟩ := pe_s f1
    obtain ⟨p, e1, e2⟩ := bnd_s fe
    subst qe
    subst q1
    subst q0
    exact ⟨_, _, _, _, 5, rfl, (by decide), m_X12_isBand N e1, e2⟩
  rcases kb_s e with ⟨rfl, e⟩ | e
  · obtain ⟨b0, r0, q0, f0⟩ := pr1_s e
    obtain ⟨b1, r1, q1, f1⟩ := pp1_s f0
    obtain ⟨qe, fe⟩ := pe_s f1
    obtain ⟨p, e1, e2⟩ := bnd_s fe
    subst qe
    subst q1
    subst q0
    exact ⟨_, _, _, _, 6, rfl, (by decide), m_X12_holdOf N e1, e2⟩
  rcases kb_s e with ⟨rfl, e⟩ | e
  · obtain ⟨b0, r0, q0, f0⟩ := pr1_s e
    obtain ⟨b1, r1, q1, f1⟩ := pp1_s f0
    obtain ⟨qe, fe⟩ := pe_s f1
    obtain ⟨p, e1, e2⟩ := bnd_s fe
    subst qe
    subst q1
    subst q0
    exact ⟨_, _, _, _, 4, rfl, (by decide), m_X12_no N e1, e2⟩
  cases e
set_option maxRecDepth 100000 in
theorem m_X12_hold (N : Nat) {a0 : Nat} {x1 : Int32} {h : mH} {q : Int32 × mH} (hf : f_X12_hold N a0 x1 h = some q) : MM y_X12_hold 7 [.ref a0, .int x1] h (some (.int q.1)) q.2 := by
  refine MM.of (mFx (j := 317) rfl).2.2.2.1 (Nat.le_of_ble_eq_true rfl) (fun X => ?_)
  refine ev_ok (o := 12) (ini := false) (Cl := C_X12_hold N) (Rc := RcI) (B := B_X12_hold) (K := fun pc ls st g => none) rfl (fun e => by cases e) (by decide) (rcI_ok rfl) ?_ (co_X12_hold N q) lb_X12_hold 3000 0 S_X12_hold_0 _ _ h ls_X12_hold_0 hf
  intro pc ls st g e
  cases e
def L_X12_gives_20 (N : Nat) : Nat → Nat → Int32 → Int32 → Int32 → mH → Option (Int32 × mH)
  | 0, _, _, _, _, _ => none
  | n + 1, a0, x1, x2, x3, h =>
    (gR h 12 a0 2).bind fun v1 =>
    (ldI 0 h v1 (jI 26)).bind fun v2 =>
    if x3 < v2 then
      (rcv h 12 a0).bind fun _ =>
      (f_X12_holdOf N a0 x3 h).bind fun p3 =>
      if p3.1 < x1 then
        let w4 := iOr x2 (iShl (jI 1) x3)
        let w5 := iAdd x3 (jI 1)
        L_X12_gives_20 N n a0 x1 w4 w5 p3.2
      else
        let w6 := iOr x2 (jI 0)
        let w7 := iAdd x3 (jI 1)
        L_X12_gives_20 N n a0 x1 w6 w7 p3.2
    else
      some (x2, h)
def f_X12_gives (N : Nat) (a0 : Nat) (x1 : Int32) (h : mH) : Option (Int32 × mH) :=
  (pV h 12 a0 0 (.int (jI 0))).bind fun h1 =>
  if x1 < 0 then
    (rcv h1 12 a0).bind fun _ =>
    (f_X12_no N a0 (jI (-3)) h1).bind fun p2 =>
    some (p2.1, p2.2)
  else
    L_X12_gives_20 N N a0 x1 (jI 0) (jI 0) h1
def y_X12_gives : mM := (yX12_gives, cX12_gives, 4, (some .int))
def B_X12_gives : List (Nat × List mI) := [(16, [(.iconst 0, 1, [], [0]), (.istore_n 2, 1, [2], []), (.iconst 0, 1, [], [0]), (.istore_n 3, 1, [3], [])]), (47, [(.iconst 0, 1, [], [0])]), (48, [(.ior, 1, [], []), (.istore_n 2, 1, [2], []), (.iinc 3 1, 3, [3], [1]), (.goto (-33), 3, [20], [])]), (56, [(.iload_n 2, 1, [2], []), (.ireturn, 1, [], [])])]
def S_X12_gives_0 : List mI := [(.aload_n 0, 1, [0], []), (.iconst 0, 1, [], [0]), (.putfield 1, 3, [12, 0, 0, 126], []), (.iload_n 1, 1, [1], []), (.ifCond .ge 10, 3, [16], []), (.aload_n 0, 1, [0], []), (.bipush (-3), 2, [], [-3]), (.invokevirtual 84, 3, [0, 224, 1, 12, 267], []), (.ireturn, 1, [], [])]
def S_X12_gives_20 : List mI := [(.iload_n 3, 1, [3], []), (.aload_n 0, 1, [0], []), (.getfield 17, 3, [12, 2, 2, 128], []), (.bipush 26, 2, [], [26]), (.iaload, 1, [0], []), (.if_icmp .ge 28, 3, [56], []), (.iload_n 2, 1, [2], []), (.aload_n 0, 1, [0], []), (.iload_n 3, 1, [3], []), (.invokevirtual 340, 3, [0, 316, 1, 12, 357], []), (.iload_n 1, 1, [1], []), (.if_icmp .ge 9, 3, [47], []), (.iconst 1, 1, [], [1]), (.iload_n 3, 1, [3], []), (.ishl, 1, [], []), (.goto 4, 3, [48], [])]
theorem lb_X12_gives : B_X12_gives.all (fun b => lst y_X12_gives.2.1 12 y_X12_gives.2.2.1 false b.1 b.2) = true := by decide +kernel
theorem ls_X12_gives_0 : lst y_X12_gives.2.1 12 y_X12_gives.2.2.1 false 0 S_X12_gives_0 = true := by decide +kernel
theorem ls_X12_gives_20 : lst y_X12_gives.2.1 12 y_X12_gives.2.2.1 false 20 S_X12_gives_20 = true := by decide +kernel
def C_X12_gives (N : Nat) : Nat → List Value → mH → (Option Value → mH → Option (Int32 × mH)) → Option (Int32 × mH) := fun j as g k => kb j 224 (pr1 as fun b0 as => pp1 as fun b1 as => pe as ((f_X12_no N b0 b1 g).bind fun p => k (some (.int p.1)) p.2)) (kb j 316 (pr1 as fun b0 as => pp1 as fun b1 as => pe as ((f_X12_holdOf N b0 b1 g).bind fun p => k (some (.int p.1)) p.2)) (none))
theorem co_X12_gives (N : Nat) (q : Int32 × mH) : clOK 7 q (C_X12_gives N) := by
  intro j as g k e
  rcases kb_s e with ⟨rfl, e⟩ | e
  · obtain ⟨b0, r0, q0, f0⟩ := pr1_s e
    obtain ⟨b1, r1, q1, f1⟩ := pp1_s f0
    obtain ⟨qe, fe⟩ := pe_s f1
    obtain ⟨p, e1, e2⟩ := bnd_s fe
    subst qe
    subst q1
    subst q0
    exact ⟨_, _, _, _, 4, rfl, (by decide), m_X12_no N e1, e2⟩
  rcases kb_s e with ⟨rfl, e⟩ | e
  · obtain ⟨b0, r0, q0, f0⟩ := pr1_s e
    obtain ⟨b1, r1, q1, f1⟩ := pp1_s f0
    obtain ⟨qe, fe⟩ := pe_s f1
    obtain ⟨p, e1, e2⟩ := bnd_s fe
    subst qe
    subst q1
    subst q0
    exact ⟨_, _, _, _, 6, rfl, (by decide), m_X12_holdOf N e1, e2⟩
  cases e
set_option maxRecDepth 100000 in
theorem t_X12_gives_20 {X : Nat × (Nat → Int32)} (N : Nat) {q : Int32 × mH} : ∀ (n : Nat) (a0 : Nat) (x1 : Int32) (x2 : Int32) (x3 : Int32) (h : mH), L_X12_gives_20 N n a0 x1 x2 x3 h = some q → MW X y_X12_gives 7 20 [(0, .ref a0), (1, .int x1), (2, .int x2), (3, .int x3)] [] h (some (.int q.1)) q.2 := by
  intro n
  induction n with
  | zero => intro a0 x1 x2 x3 h hf; cases hf
  | succ n ih =>
    intro a0 x1 x2 x3 h hf
    refine ev_ok (o := 12) (ini := false) (Cl := C_X12_gives N) (Rc := RcI) (B := B_X12_gives) (K := fun pc ls st g => kb pc 20 (lgr 0 ls fun a0 => lgi 1 ls fun x1 => lgi 2 ls fun x2 => lgi 3 ls fun x3 => pe st (L_X12_gives_20 N n a0 x1 x2 x3 g)) (none)) rfl (fun e => by cases e) (by decide) (rcI_ok rfl) ?_ (co_X12_gives N q) lb_X12_gives 3000 20 S_X12_gives_20 _ _ h ls_X12_gives_20 hf
    intro pc ls st g e
    rcases kb_s e with ⟨rfl, e⟩ | e
    · obtain ⟨a0, e0, f0⟩ := lgr_s e
      obtain ⟨x1, e1, f1⟩ := lgi_s f0
      obtain ⟨x2, e2, f2⟩ := lgi_s f1
      obtain ⟨x3, e3, f3⟩ := lgi_s f2
      obtain ⟨qe, fe⟩ := pe_s f3
      subst qe
      exact MW.sub (List.forall_mem_cons.mpr ⟨lg_mem e0, List.forall_mem_cons.mpr ⟨lg_mem e1, List.forall_mem_cons.mpr ⟨lg_mem e2, List.forall_mem_cons.mpr ⟨lg_mem e3, fun _ h => absurd h List.not_mem_nil⟩⟩⟩⟩) (ih a0 x1 x2 x3 g fe)
    cases e
set_option maxRecDepth 100000 in
theorem m_X12_gives (N : Nat) {a0 : Nat} {x1 : Int32} {h : mH} {q : Int32 × mH} (hf : f_X12_gives N a0 x1 h = some q) : MM y_X12_gives 7 [.ref a0, .int x1] h (some (.int q.1)) q.2 := by
  refine MM.of (mFx (j := 318) rfl).2.2.2.1 (Nat.le_of_ble_eq_true rfl) (fun X => ?_)
  refine ev_ok (o := 12) (ini := false) (Cl := C_X12_gives N) (Rc := RcI) (B := B_X12_gives) (K := fun pc ls st g => kb pc 20 (lgr 0 ls fun a0 => lgi 1 ls fun x1 => lgi 2 ls fun x2 => lgi 3 ls fun x3 => pe st (L_X12_gives_20 N N a0 x1 x2 x3 g)) (none)) rfl (fun e => by cases e) (by decide) (rcI_ok rfl) ?_ (co_X12_gives N q) lb_X12_gives 3000 0 S_X12_gives_0 _ _ h ls_X12_gives_0 hf
  intro pc ls st g e
  rcases kb_s e with ⟨rfl, e⟩ | e
  · obtain ⟨a0, e0, f0⟩ := lgr_s e
    obtain ⟨x1, e1, f1⟩ := lgi_s f0
    obtain ⟨x2, e2, f2⟩ := lgi_s f1
    obtain ⟨x3, e3, f3⟩ := lgi_s f2
    obtain ⟨qe, fe⟩ := pe_s f3
    subst qe
    exact MW.sub (List.forall_mem_cons.mpr ⟨lg_mem e0, List.forall_mem_cons.mpr ⟨lg_mem e1, List.forall_mem_cons.mpr ⟨lg_mem e2, List.forall_mem_cons.mpr ⟨lg_mem e3, fun _ h => absurd h List.not_mem_nil⟩⟩⟩⟩) (t_X12_gives_20 N N a0 x1 x2 x3 g fe)
  cases e
def f_X12_atLeastOne (N : Nat) (x0 : Int32) (h : mH) : Option (Int32 × mH) :=
  if x0 < (jI 1) then
    some (jI 1, h)
  else
    some (x0, h)
def y_X12_atLeastOne : mM := (yX12_atLeastOne, cX12_atLeastOne, 1, (some .int))
def B_X12_atLeastOne : List (Nat × List mI) := [(9, [(.iload_n 0, 1, [0], [])]), (10, [(.ireturn, 1, [], [])])]
def S_X12_atLeastOne_0 : List mI := [(.iload_n 0, 1, [0], []), (.iconst 1, 1, [], [1]), (.if_icmp .ge 7, 3, [9], []), (.iconst 1, 1, [], [1]), (.goto 4, 3, [10], [])]
theorem lb_X12_atLeastOne : B_X12_atLeastOne.all (fun b => lst y_X12_atLeastOne.2.1 12 y_X12_atLeastOne.2.2.1 false b.1 b.2) = true := by decide +kernel
theorem ls_X12_atLeastOne_0 : lst y_X12_atLeastOne.2.1 12 y_X12_atLeastOne.2.2.1 false 0 S_X12_atLeastOne_0 = true := by decide +kernel
def C_X12_atLeastOne (N : Nat) : Nat → List Value → mH → (Option Value → mH → Option (Int32 × mH)) → Option (Int32 × mH) := fun j as g k => none
theorem co_X12_atLeastOne (N : Nat) (q : Int32 × mH) : clOK 4 q (C_X12_atLeastOne N) := by
  intro j as g k e
  cases e
set_option maxRecDepth 100000 in
theorem m_X12_atLeastOne (N : Nat) {x0 : Int32} {h : mH} {q : Int32 × mH} (hf : f_X12_atLeastOne N x0 h = some q) : MM y_X12_atLeastOne 4 [.int x0] h (some (.int q.1)) q.2 := by
  refine MM.of (mFx (j := 319) rfl).2.2.2.1 (Nat.le_of_ble_eq_true rfl) (fun X => ?_)
  refine ev_ok (o := 12) (ini := false) (Cl := C_X12_atLeastOne N) (Rc := RcI) (B := B_X12_atLeastOne) (K := fun pc ls st g => none) rfl (fun e => by cases e) (by decide) (rcI_ok rfl) ?_ (co_X12_atLeastOne N q) lb_X12_atLeastOne 3000 0 S_X12_atLeastOne_0 _ _ h ls_X12_atLeastOne_0 hf
  intro pc ls st g e
  cases e
def L_X12_width_36 (N : Nat) : Nat → Nat → Int32 → Int32 → Int32 → mH → Option (Int32 × mH)
  | 0, _, _, _, _, _ => none
  | n + 1, a0, x1, x2, x3, h =>
    if x1 < x3 then
      some (x2, h)
    else
      (gR h 12 a0 2).bind fun v1 =>
      (ldI 0 h v1 (iAdd (jI 75) x3)).bind fun v2 =>
      (gR h 12 a0 2).bind fun v3 =>
      (ldI 0 h v3 (iAdd (jI 51) x3)).bind fun v4 =>
      (f_X12_atLeastOne N (iAdd x2 (iMul v2 v4)) h).bind fun p5 =>
      let w6 := iAdd x3 (jI 1)
      L_X12_width_36 N n a0 x1 p5.1 w6 p5.2
def f_X12_width (N : Nat) (a0 : Nat) (x1 : Int32) (h : mH) : Option (Int32 × mH) :=
  (pV h 12 a0 0 (.int (jI 0))).bind fun h1 =>
  if x1 = (jI (-1)) then
    (gR h1 12 a0 2).bind fun v2 =>
    (ldI 0 h1 v2 (jI 141)).bind fun v3 =>
    L_X12_width_36 N N a0 x1 v3 (jI 0) h1
  else
    (rcv h1 12 a0).bind fun _ =>
    (f_X12_isBand N a0 x1 h1).bind fun p4 =>
    if p4.1 = 0 then
      (rcv p4.2 12 a0).bind fun _ =>
      (f_X12_no N a0 (jI (-2)) p4.2).bind fun p5 =>
      some (p5.1, p5.2)
    else
      (gR p4.2 12 a0 2).bind fun v6 =>
      (ldI 0 p4.2 v6 (jI 141)).bind fun v7 =>
      L_X12_width_36 N N a0 x1 v7 (jI 0) p4.2
def y_X12_width : mM := (yX12_width, cX12_width, 4, (some .int))
def B_X12_width : List (Nat × List mI) := [(25, [(.aload_n 0, 1, [0], []), (.getfield 17, 3, [12, 2, 2, 128], []), (.sipush 141, 3, [], [141]), (.iaload, 1, [0], []), (.istore_n 2, 1, [2], []), (.iconst 0, 1, [], [0]), (.istore_n 3, 1, [3], [])]), (72, [(.iload_n 2, 1, [2], []), (.ireturn, 1, [], [])])]
def S_X12_width_0 : List mI := [(.aload_n 0, 1, [0], []), (.iconst 0, 1, [], [0]), (.putfield 1, 3, [12, 0, 0, 126], []), (.iload_n 1, 1, [1], []), (.iconst (-1), 1, [], [-1]), (.if_icmp .eq 18, 3, [25], []), (.aload_n 0, 1, [0], []), (.iload_n 1, 1, [1], []), (.invokevirtual 181, 3, [0, 247, 1, 12, 289], []), (.ifCond .ne 10, 3, [25], []), (.aload_n 0, 1, [0], []), (.bipush (-2), 2, [], [-2]), (.invokevirtual 84, 3, [0, 224, 1, 12, 267], []), (.ireturn, 1, [], [])]
def S_X12_width_36 : List mI := [(.iload_n 3, 1, [3], []), (.iload_n 1, 1, [1], []), (.if_icmp .gt 34, 3, [72], []), (.iload_n 2, 1, [2], []), (.aload_n 0, 1, [0], []), (.getfield 17, 3, [12, 2, 2, 128], []), (.bipush 75, 2, [], [75]), (.iload_n 3, 1, [3], []), (.iadd, 1, [], []), (.iaload, 1, [0], []), (.aload_n 0, 1, [0], []), (.getfield 17, 3, [12, 2, 2, 128], []), (.bipush 51, 2, [], [51]), (.iload_n 3, 1, [3], []), (.iadd, 1, [], []), (.iaload, 1, [0], []), (.imul, 1, [], []), (.iadd, 1, [], []), (.invokestatic 343, 3, [1, 319, 1, 0, 360], []), (.istore_n 2, 1, [2], []), (.iinc 3 1, 3, [3], [1]), (.goto (-33), 3, [36], [])]
theorem lb_X12_width : B_X12_width.all (fun b => lst y_X12_width.2.1 12 y_X12_width.2.2.1 false b.1 b.2) = true := by decide +kernel
theorem ls_X12_width_0 : lst y_X12_width.2.1 12 y_X12_width.2.2.1 false 0 S_X12_width_0 = true := by decide +kernel
theorem ls_X12_width_36 : lst y_X12_width.2.1 12 y_X12_width.2.2.1 false 36 S_X12_width_36 = true := by decide +kernel
def C_X12_width (N : Nat) : Nat → List Value → mH → (Option Value → mH → Option (Int32 × mH)) → Option (Int32 × mH) := fun j as g k => kb j 247 (pr1 as fun b0 as => pp1 as fun b1 as => pe as ((f_X12_isBand N b0 b1 g).bind fun p => k (some (.int p.1)) p.2)) (kb j 224 (pr1 as fun b0 as => pp1 as fun b1 as => pe as ((f_X12_no N b0 b1 g).bind fun p => k (some (.int p.1)) p.2)) (kb j 319 (pp1 as fun b0 as => pe as ((f_X12_atLeastOne N b0 g).bind fun p => k (some (.int p.1)) p.2)) (none)))
theorem co_X12_width (N : Nat) (q : Int32 × mH) : clOK 6 q (C_X12_width N) := by
  intro j as g k e
  rcases kb_s e with ⟨rfl, e⟩ | e
  · obtain ⟨b0, r0, q0, f0⟩ := pr1_s e
    obtain ⟨b1, r1, q1, f1⟩ := pp1_s f0
    obtain ⟨qe, fe⟩ := pe_s f1
    obtain ⟨p, e1, e2⟩ := bnd_s fe
    subst qe
    subst q1
    subst q0
    exact ⟨_, _, _, _, 5, rfl, (by decide), m_X12_isBand N e1, e2⟩
  rcases kb_s e with ⟨rfl, e⟩ | e
  · obtain ⟨b0, r0, q0, f0⟩ := pr1_s e
    obtain ⟨b1, r1, q1, f1⟩ := pp1_s f0
    obtain ⟨qe, fe⟩ := pe_s f1
    obtain ⟨p, e1, e2⟩ := bnd_s fe
    subst qe
    subst q1
    subst q0
    exact ⟨_, _, _, _, 4, rfl, (by decide), m_X12_no N e1, e2⟩
  rcases kb_s e with ⟨rfl, e⟩ | e
  · obtain ⟨b0, r0, q0, f0⟩ := pp1_s e
    obtain ⟨qe, fe⟩ := pe_s f0
    obtain ⟨p, e1, e2⟩ := bnd_s fe
    subst qe
    subst q0
    exact ⟨_, _, _, _, 4, rfl, (by decide), m_X12_atLeastOne N e1, e2⟩
  cases e
set_option maxRecDepth 100000 in
theorem t_X12_width_36 {X : Nat × (Nat → Int32)} (N : Nat) {q : Int32 × mH} : ∀ (n : Nat) (a0 : Nat) (x1 : Int32) (x2 : Int32) (x3 : Int32) (h : mH), L_X12_width_36 N n a0 x1 x2 x3 h = some q → MW X y_X12_width 6 36 [(0, .ref a0), (1, .int x1), (2, .int x2), (3, .int x3)] [] h (some (.int q.1)) q.2 := by
  intro n
  induction n with
  | zero => intro a0 x1 x2 x3 h hf; cases hf
  | succ n ih =>
    intro a0 x1 x2 x3 h hf
    refine ev_ok (o := 12) (ini := false) (Cl := C_X12_width N) (Rc := RcI) (B := B_X12_width) (K := fun pc ls st g => kb pc 36 (lgr 0 ls fun a0 => lgi 1 ls fun x1 => lgi 2 ls fun x2 => lgi 3 ls fun x3 => pe st (L_X12_width_36 N n a0 x1 x2 x3 g)) (none)) rfl (fun e => by cases e) (by decide) (rcI_ok rfl) ?_ (co_X12_width N q) lb_X12_width 3000 36 S_X12_width_36 _ _ h ls_X12_width_36 hf
    intro pc ls st g e
    rcases kb_s e with ⟨rfl, e⟩ | e
    · obtain ⟨a0, e0, f0⟩ := lgr_s e
      obtain ⟨x1, e1, f1⟩ := lgi_s f0
      obtain ⟨x2, e2, f2⟩ := lgi_s f1
      obtain ⟨x3, e3, f3⟩ := lgi_s f2
      obtain ⟨qe, fe⟩ := pe_s f3
      subst qe
      exact MW.sub (List.forall_mem_cons.mpr ⟨lg_mem e0, List.forall_mem_cons.mpr ⟨lg_mem e1, List.forall_mem_cons.mpr ⟨lg_mem e2, List.forall_mem_cons.mpr ⟨lg_mem e3, fun _ h => absurd h List.not_mem_nil⟩⟩⟩⟩) (ih a0 x1 x2 x3 g fe)
    cases e
set_option maxRecDepth 100000 in
theorem m_X12_width (N : Nat) {a0 : Nat} {x1 : Int32} {h : mH} {q : Int32 × mH} (hf : f_X12_width N a0 x1 h = some q) : MM y_X12_width 6 [.ref a0, .int x1] h (some (.int q.1)) q.2 := by
  refine MM.of (mFx (j := 320) rfl).2.2.2.1 (Nat.le_of_ble_eq_true rfl) (fun X => ?_)
  refine ev_ok (o := 12) (ini := false) (Cl := C_X12_width N) (Rc := RcI) (B := B_X12_width) (K := fun pc ls st g => kb pc 36 (lgr 0 ls fun a0 => lgi 1 ls fun x1 => lgi 2 ls fun x2 => lgi 3 ls fun x3 => pe st (L_X12_width_36 N N a0 x1 x2 x3 g)) (none)) rfl (fun e => by cases e) (by decide) (rcI_ok rfl) ?_ (co_X12_width N q) lb_X12_width 3000 0 S_X12_width_0 _ _ h ls_X12_width_0 hf
  intro pc ls st g e
  rcases kb_s e with ⟨rfl, e⟩ | e
  · obtain ⟨a0, e0, f0⟩ := lgr_s e
    obtain ⟨x1, e1, f1⟩ := lgi_s f0
    obtain ⟨x2, e2, f2⟩ := lgi_s f1
    obtain ⟨x3, e3, f3⟩ := lgi_s f2
    obtain ⟨qe, fe⟩ := pe_s f3
    subst qe
    exact MW.sub (List.forall_mem_cons.mpr ⟨lg_mem e0, List.forall_mem_cons.mpr ⟨lg_mem e1, List.forall_mem_cons.mpr ⟨lg_mem e2, List.forall_mem_cons.mpr ⟨lg_mem e3, fun _ h => absurd h List.not_mem_nil⟩⟩⟩⟩) (t_X12_width_36 N N a0 x1 x2 x3 g fe)
  cases e
def f_X12_offAt (N : Nat) (a0 : Nat) (x1 : Int32) (x2 : Int32) (x3 : Int32) (h : mH) : Option (Int32 × mH) :=
  some (iAdd (iMul (iAdd (iMul x1 (jI 19)) x2) (jI 4000)) x3, h)
def y_X12_offAt : mM := (yX12_offAt, cX12_offAt, 4, (some .int))
def B_X12_offAt : List (Nat × List mI) := []
def S_X12_offAt_0 : List mI := [(.iload_n 1, 1, [1], []), (.bipush 19, 2, [], [19]), (.imul, 1, [], []), (.iload_n 2, 1, [2], []), (.iadd, 1, [], []), (.sipush 4000, 3, [], [4000]), (.imul, 1, [], []), (.iload_n 3, 1, [3], []), (.iadd, 1, [], []), (.ireturn, 1, [], [])]
theorem lb_X12_offAt : B_X12_offAt.all (fun b => lst y_X12_offAt.2.1 12 y_X12_offAt.2.2.1 false b.1 b.2) = true := by decide +kernel
theorem ls_X12_offAt_0 : lst y_X12_offAt.2.1 12 y_X12_offAt.2.2.1 false 0 S_X12_offAt_0 = true := by decide +kernel
def C_X12_offAt (N : Nat) : Nat → List Value → mH → (Option Value → mH → Option (Int32 × mH)) → Option (Int32 × mH) := fun j as g k => none
theorem co_X12_offAt (N : Nat) (q : Int32 × mH) : clOK 4 q (C_X12_offAt N) := by
  intro j as g k e
  cases e
set_option maxRecDepth 100000 in
theorem m_X12_offAt (N : Nat) {a0 : Nat} {x1 : Int32} {x2 : Int32} {x3 : Int32} {h : mH} {q : Int32 × mH} (hf : f_X12_offAt N a0 x1 x2 x3 h = some q) : MM y_X12_offAt 4 [.ref a0, .int x1, .int x2, .int x3] h (some (.int q.1)) q.2 := by
  refine MM.of (mFx (j := 321) rfl).2.2.2.1 (Nat.le_of_ble_eq_true rfl) (fun X => ?_)
  refine ev_ok (o := 12) (ini := false) (Cl := C_X12_offAt N) (Rc := RcI) (B := B_X12_offAt) (K := fun pc ls st g => none) rfl (fun e => by cases e) (by decide) (rcI_ok rfl) ?_ (co_X12_offAt N q) lb_X12_offAt 3000 0 S_X12_offAt_0 _ _ h ls_X12_offAt_0 hf
  intro pc ls st g e
  cases e
def J_X12_offBy_52 (N : Nat) (a0 : Nat) (x2 : Int32) (x3 : Int32) (x5 : Int32) (s_0 : Int32) (h : mH) : Option (Int32 × mH) :=
  (gR h 12 a0 2).bind fun v1 =>
  (ldI 0 h v1 (jI 26)).bind fun v2 =>
  if (iAdd x2 (jI 1)) < v2 then
    (gR h 12 a0 31).bind fun v3 =>
    (rcv h 12 a0).bind fun _ =>
    (f_X12_offAt N a0 (iAdd x2 (jI 1)) x3 x5 h).bind fun p4 =>
    (ldI 0 p4.2 v3 p4.1).bind fun v5 =>
    some (iAdd s_0 v5, p4.2)
  else
    some (iAdd s_0 (jI 0), h)
def f_X12_offBy (N : Nat) (a0 : Nat) (x1 : Int32) (x2 : Int32) (x3 : Int32) (x4 : Int32) (h : mH) : Option (Int32 × mH) :=
  (gR h 12 a0 2).bind fun v1 =>
  (ldI 0 h v1 (iAdd (jI 51) x2)).bind fun v2 =>
  (f_X12_atLeastOne N (iAdd x4 (iMul (iSub x3 (jI 9)) v2)) h).bind fun p3 =>
  (gR p3.2 12 a0 36).bind fun v4 =>
  (ldL p3.2 v4 (iAdd (iMul (jI 40) x1) x2)).bind fun v5 =>
  let w6 := iSub p3.1 v5.toInt32
  if w6 < 0 then
    J_X12_offBy_52 N a0 x2 x3 p3.1 (iNeg w6) p3.2
  else
    J_X12_offBy_52 N a0 x2 x3 p3.1 w6 p3.2
def y_X12_offBy : mM := (yX12_offBy, cX12_offBy, 7, (some .int))
def B_X12_offBy : List (Nat × List mI) := [(50, [(.iload 6, 2, [6], [])]), (87, [(.iconst 0, 1, [], [0])]), (88, [(.iadd, 1, [], []), (.ireturn, 1, [], [])])]
def S_X12_offBy_0 : List mI := [(.iload 4, 2, [4], []), (.iload_n 3, 1, [3], []), (.bipush 9, 2, [], [9]), (.isub, 1, [], []), (.aload_n 0, 1, [0], []), (.getfield 17, 3, [12, 2, 2, 128], []), (.bipush 51, 2, [], [51]), (.iload_n 2, 1, [2], []), (.iadd, 1, [], []), (.iaload, 1, [0], []), (.imul, 1, [], []), (.iadd, 1, [], []), (.invokestatic 343, 3, [1, 319, 1, 0, 360], []), (.istore 5, 2, [5], []), (.iload 5, 2, [5], []), (.aload_n 0, 1, [0], []), (.getfield 74, 3, [12, 36, 2, 162], []), (.bipush 40, 2, [], [40]), (.iload_n 1, 1, [1], []), (.imul, 1, [], []), (.iload_n 2, 1, [2], []), (.iadd, 1, [], []), (.laload, 1, [], []), (.l2i, 1, [], []), (.isub, 1, [], []), (.istore 6, 2, [6], []), (.iload 6, 2, [6], []), (.ifCond .ge 9, 3, [50], []), (.iload 6, 2, [6], []), (.ineg, 1, [], []), (.goto 5, 3, [52], [])]
def S_X12_offBy_52 : List mI := [(.istore 6, 2, [6], []), (.iload 6, 2, [6], []), (.iload_n 2, 1, [2], []), (.iconst 1, 1, [], [1]), (.iadd, 1, [], []), (.aload_n 0, 1, [0], []), (.getfield 17, 3, [12, 2, 2, 128], []), (.bipush 26, 2, [], [26]), (.iaload, 1, [0], []), (.if_icmp .ge 21, 3, [87], []), (.aload_n 0, 1, [0], []), (.getfield 59, 3, [12, 31, 2, 157], []), (.aload_n 0, 1, [0], []), (.iload_n 2, 1, [2], []), (.iconst 1, 1, [], [1]), (.iadd, 1, [], []), (.iload_n 3, 1, [3], []), (.iload 5, 2, [5], []), (.invokevirtual 346, 3, [0, 321, 3, 12, 364], []), (.iaload, 1, [0], []), (.goto 4, 3, [88], [])]
theorem lb_X12_offBy : B_X12_offBy.all (fun b => lst y_X12_offBy.2.1 12 y_X12_offBy.2.2.1 false b.1 b.2) = true := by decide +kernel
theorem ls_X12_offBy_0 : lst y_X12_offBy.2.1 12 y_X12_offBy.2.2.1 false 0 S_X12_offBy_0 = true := by decide +kernel
theorem ls_X12_offBy_52 : lst y_X12_offBy.2.1 12 y_X12_offBy.2.2.1 false 52 S_X12_offBy_52 = true := by decide +kernel
def C_X12_offBy (N : Nat) : Nat → List Value → mH → (Option Value → mH → Option (Int32 × mH)) → Option (Int32 × mH) := fun j as g k => kb j 319 (pp1 as fun b0 as => pe as ((f_X12_atLeastOne N b0 g).bind fun p => k (some (.int p.1)) p.2)) (kb j 321 (pr1 as fun b0 as => pp1 as fun b1 as => pp1 as fun b2 as => pp1 as fun b3 as => pe as ((f_X12_offAt N b0 b1 b2 b3 g).bind fun p => k (some (.int p.1)) p.2)) (none))
theorem co_X12_offBy (N : Nat) (q : Int32 × mH) : clOK 5 q (C_X12_offBy N) := by
  intro j as g k e
  rcases kb_s e with ⟨rfl, e⟩ | e
  · obtain ⟨b0, r0, q0, f0⟩ := pp1_s e
    obtain ⟨qe, fe⟩ := pe_s f0
    obtain ⟨p, e1, e2⟩ := bnd_s fe
    subst qe
    subst q0
    exact ⟨_, _, _, _, 4, rfl, (by decide), m_X12_atLeastOne N e1, e2⟩
  rcases kb_s e with ⟨rfl, e⟩ | e
  · obtain ⟨b0, r0, q0, f0⟩ := pr1_s e
    obtain ⟨b1, r1, q1, f1⟩ := pp1_s f0
    obtain ⟨b2, r2, q2, f2⟩ := pp1_s f1
    obtain ⟨b3, r3, q3, f3⟩ := pp1_s f2
    obtain ⟨qe, fe⟩ := pe_s f3
    obtain ⟨p, e1, e2⟩ := bnd_s fe
    subst qe
    subst q3
    subst q2
    subst q1
    subst q0
    exact ⟨_, _, _, _, 4, rfl, (by decide), m_X12_offAt N e1, e2⟩
  cases e
set_option maxRecDepth 100000 in
theorem t_X12_offBy_52 {X : Nat × (Nat → Int32)} (N : Nat) {q : Int32 × mH} (a0 : Nat) (x2 : Int32) (x3 : Int32) (x5 : Int32) (s_0 : Int32) (h : mH) (hf : J_X12_offBy_52 N a0 x2 x3 x5 s_0 h = some q) : MW X y_X12_offBy 5 52 [(0, .ref a0), (2, .int x2), (3, .int x3), (5, .int x5)] [.int s_0] h (some (.int q.1)) q.2 := by
  refine ev_ok (o := 12) (ini := false) (Cl := C_X12_offBy N) (Rc := RcI) (B := B_X12_offBy) (K := fun pc ls st g => none) rfl (fun e => by cases e) (by decide) (rcI_ok rfl) ?_ (co_X12_offBy N q) lb_X12_offBy 3000 52 S_X12_offBy_52 _ _ h ls_X12_offBy_52 hf
  intro pc ls st g e
  cases e
set_option maxRecDepth 100000 in
theorem m_X12_offBy (N : Nat) {a0 : Nat} {x1 : Int32} {x2 : Int32} {x3 : Int32} {x4 : Int32} {h : mH} {q : Int32 × mH} (hf : f_X12_offBy N a0 x1 x2 x3 x4 h = some q) : MM y_X12_offBy 5 [.ref a0, .int x1, .int x2, .int x3, .int x4] h (some (.int q.1)) q.2 := by
  refine MM.of (mFx (j := 322) rfl).2.2.2.1 (Nat.le_of_ble_eq_true rfl) (fun X => ?_)
  refine ev_ok (o := 12) (ini := false) (Cl := C_X12_offBy N) (Rc := RcI) (B := B_X12_offBy) (K := fun pc ls st g => kb pc 52 (lgr 0 ls fun a0 => lgi 2 ls fun x2 => lgi 3 ls fun x3 => lgi 5 ls fun x5 => pp1 st fun s_0 st => pe st (J_X12_offBy_52 N a0 x2 x3 x5 s_0 g)) (none)) rfl (fun e => by cases e) (by decide) (rcI_ok rfl) ?_ (co_X12_offBy N q) lb_X12_offBy 3000 0 S_X12_offBy_0 _ _ h ls_X12_offBy_0 hf
  intro pc ls st g e
  rcases kb_s e with ⟨rfl, e⟩ | e
  · obtain ⟨a0, e0, f0⟩ := lgr_s e
    obtain ⟨x2, e1, f1⟩ := lgi_s f0
    obtain ⟨x3, e2, f2⟩ := lgi_s f1
    obtain ⟨x5, e3, f3⟩ := lgi_s f2
    obtain ⟨s_0, r0, q0, g0⟩ := pp1_s f3
    obtain ⟨qe, fe⟩ := pe_s g0
    subst qe
    subst q0
    exact MW.sub (List.forall_mem_cons.mpr ⟨lg_mem e0, List.forall_mem_cons.mpr ⟨lg_mem e1, List.forall_mem_cons.mpr ⟨lg_mem e2, List.forall_mem_cons.mpr ⟨lg_mem e3, fun _ h => absurd h List.not_mem_nil⟩⟩⟩⟩) (t_X12_offBy_52 N a0 x2 x3 x5 s_0 g fe)
  cases e
def J_X12_leastBy_38 (N : Nat) (k6 : Nat → Int32 → Int32 → Int32 → Int32 → Int32 → Int32 → Int32 → mH → Option (Int32 × mH)) (a0 : Nat) (x1 : Int32) (x2 : Int32) (x3 : Int32) (x4 : Int32) (x5 : Int32) (x6 : Int32) (x7 : Int32) (h : mH) : Option (Int32 × mH) :=
  (rcv h 12 a0).bind fun _ =>
  (f_X12_offBy N a0 x1 x2 x7 x5 h).bind fun p1 =>
  if x6 = (jI (-1)) then
    let w2 := iAdd x7 (jI 1)
    k6 a0 x1 x2 x3 x4 x5 p1.1 w2 p1.2
  else
    if p1.1 < x6 then
      let w3 := iAdd x7 (jI 1)
      k6 a0 x1 x2 x3 x4 x5 p1.1 w3 p1.2
    else
      let w4 := iAdd x7 (jI 1)
      k6 a0 x1 x2 x3 x4 x5 x6 w4 p1.2
def L_X12_leastBy_6 (N : Nat) : Nat → Nat → Int32 → Int32 → Int32 → Int32 → Int32 → Int32 → Int32 → mH → Option (Int32 × mH)
  | 0, _, _, _, _, _, _, _, _, _ => none
  | n + 1, a0, x1, x2, x3, x4, x5, x6, x7, h =>
    if x7 < (jI 19) then
      if 0 < x2 then
        if x3 < (iSub x7 x4) then
          let w1 := iAdd x7 (jI 1)
          L_X12_leastBy_6 N n a0 x1 x2 x3 x4 x5 x6 w1 h
        else
          if x3 < (iSub x4 x7) then
            let w2 := iAdd x7 (jI 1)
            L_X12_leastBy_6 N n a0 x1 x2 x3 x4 x5 x6 w2 h
          else
            J_X12_leastBy_38 N (L_X12_leastBy_6 N n) a0 x1 x2 x3 x4 x5 x6 x7 h
      else
        J_X12_leastBy_38 N (L_X12_leastBy_6 N n) a0 x1 x2 x3 x4 x5 x6 x7 h
    else
      some (x6, h)
def f_X12_leastBy (N : Nat) (a0 : Nat) (x1 : Int32) (x2 : Int32) (x3 : Int32) (x4 : Int32) (x5 : Int32) (h : mH) : Option (Int32 × mH) :=
  L_X12_leastBy_6 N N a0 x1 x2 x3 x4 x5 (jI (-1)) (jI 0) h
def y_X12_leastBy : mM := (yX12_leastBy, cX12_leastBy, 9, (some .int))
def B_X12_leastBy : List (Nat × List mI) := [(63, [(.iload 8, 2, [8], []), (.goto 5, 3, [70], [])]), (68, [(.iload 6, 2, [6], [])]), (70, [(.istore 6, 2, [6], [])]), (72, [(.iinc 7 1, 3, [7], [1]), (.goto (-69), 3, [6], [])]), (78, [(.iload 6, 2, [6], []), (.ireturn, 1, [], [])])]
def S_X12_leastBy_0 : List mI := [(.iconst (-1), 1, [], [-1]), (.istore 6, 2, [6], []), (.iconst 0, 1, [], [0]), (.istore 7, 2, [7], [])]
def S_X12_leastBy_6 : List mI := [(.iload 7, 2, [7], []), (.bipush 19, 2, [], [19]), (.if_icmp .ge 68, 3, [78], []), (.iload_n 2, 1, [2], []), (.ifCond .le 24, 3, [38], []), (.iload 7, 2, [7], []), (.iload 4, 2, [4], []), (.isub, 1, [], []), (.iload_n 3, 1, [3], []), (.if_icmp .gt 49, 3, [72], []), (.iload 4, 2, [4], []), (.iload 7, 2, [7], []), (.isub, 1, [], []), (.iload_n 3, 1, [3], []), (.if_icmp .le 6, 3, [38], []), (.goto 37, 3, [72], [])]
def S_X12_leastBy_38 : List mI := [(.aload_n 0, 1, [0], []), (.iload_n 1, 1, [1], []), (.iload_n 2, 1, [2], []), (.iload 7, 2, [7], []), (.iload 5, 2, [5], []), (.invokevirtual 349, 3, [0, 322, 4, 12, 366], []), (.istore 8, 2, [8], []), (.iload 6, 2, [6], []), (.iconst (-1), 1, [], [-1]), (.if_icmp .eq 10, 3, [63], []), (.iload 8, 2, [8], []), (.iload 6, 2, [6], []), (.if_icmp .ge 8, 3, [68], [])]
theorem lb_X12_leastBy : B_X12_leastBy.all (fun b => lst y_X12_leastBy.2.1 12 y_X12_leastBy.2.2.1 false b.1 b.2) = true := by decide +kernel
theorem ls_X12_leastBy_0 : lst y_X12_leastBy.2.1 12 y_X12_leastBy.2.2.1 false 0 S_X12_leastBy_0 = true := by decide +kernel
theorem ls_X12_leastBy_6 : lst y_X12_leastBy.2.1 12 y_X12_leastBy.2.2.1 false 6 S_X12_leastBy_6 = true := by decide +kernel
theorem ls_X12_leastBy_38 : lst y_X12_leastBy.2.1 12 y_X12_leastBy.2.2.1 false 38 S_X12_leastBy_38 = true := by decide +kernel
def C_X12_leastBy (N : Nat) : Nat → List Value → mH → (Option Value → mH → Option (Int32 × mH)) → Option (Int32 × mH) := fun j as g k => kb j 322 (pr1 as fun b0 as => pp1 as fun b1 as => pp1 as fun b2 as => pp1 as fun b3 as => pp1 as fun b4 as => pe as ((f_X12_offBy N b0 b1 b2 b3 b4 g).bind fun p => k (some (.int p.1)) p.2)) (none)
theorem co_X12_leastBy (N : Nat) (q : Int32 × mH) : clOK 6 q (C_X12_leastBy N) := by
  intro j as g k e
  rcases kb_s e with ⟨rfl, e⟩ | e
  · obtain ⟨b0, r0, q0, f0⟩ := pr1_s e
    obtain ⟨b1, r1, q1, f1⟩ := pp1_s f0
    obtain ⟨b2, r2, q2, f2⟩ := pp1_s f1
    obtain ⟨b3, r3, q3, f3⟩ := pp1_s f2
    obtain ⟨b4, r4, q4, f4⟩ := pp1_s f3
    obtain ⟨qe, fe⟩ := pe_s f4
    obtain ⟨p, e1, e2⟩ := bnd_s fe
    subst qe
    subst q4
    subst q3
    subst q2
    subst q1
    subst q0
    exact ⟨_, _, _, _, 5, rfl, (by decide), m_X12_offBy N e1, e2⟩
  cases e
set_option maxRecDepth 100000 in
theorem t_X12_leastBy_38 {X : Nat × (Nat → Int32)} (N : Nat) {q : Int32 × mH} {k6 : Nat → Int32 → Int32 → Int32 → Int32 → Int32 → Int32 → Int32 → mH → Option (Int32 × mH)} (hk6 : ∀ (a0 : Nat) (x1 : Int32) (x2 : Int32) (x3 : Int32) (x4 : Int32) (x5 : Int32) (x6 : Int32) (x7 : Int32) g, k6 a0 x1 x2 x3 x4 x5 x6 x7 g = some q → MW X y_X12_leastBy 6 6 [(0, .ref a0), (1, .int x1), (2, .int x2), (3, .int x3), (4, .int x4), (5, .int x5), (6, .int x6), (7, .int x7)] [] g (some (.int q.1)) q.2) (a0 : Nat) (x1 : Int32) (x2 : Int32) (x3 : Int32) (x4 : Int32) (x5 : Int32) (x6 : Int32) (x7 : Int32) (h : mH) (hf : J_X12_leastBy_38 N k6 a0 x1 x2 x3 x4 x5 x6 x7 h = some q) : MW X y_X12_leastBy 6 38 [(0, .ref a0), (1, .int x1), (2, .int x2), (3, .int x3), (4, .int x4), (5, .int x5), (6, .int x6), (7, .int x7)] [] h (some (.int q.1)) q.2 := by
  refine ev_ok (o := 12) (ini := false) (Cl := C_X12_leastBy N) (Rc := RcI) (B := B_X12_leastBy) (K := fun pc ls st g => kb pc 6 (lgr 0 ls fun a0 => lgi 1 ls fun x1 => lgi 2 ls fun x2 => lgi 3 ls fun x3 => lgi 4 ls fun x4 => lgi 5 ls fun x5 => lgi 6 ls fun x6 => lgi 7 ls fun x7 => pe st (k6 a0 x1 x2 x3 x4 x5 x6 x7 g)) (none)) rfl (fun e => by cases e) (by decide) (rcI_ok rfl) ?_ (co_X12_leastBy N q) lb_X12_leastBy 3000 38 S_X12_leastBy_38 _ _ h ls_X12_leastBy_38 hf
  intro pc ls st g e
  rcases kb_s e with ⟨rfl, e⟩ | e
  · obtain ⟨a0, e0, f0⟩ := lgr_s e
    obtain ⟨x1, e1, f1⟩ := lgi_s f0
    obtain ⟨x2, e2, f2⟩ := lgi_s f1
    obtain ⟨x3, e3, f3⟩ := lgi_s f2
    obtain ⟨x4, e4, f4⟩ := lgi_s f3
    obtain ⟨x5, e5, f5⟩ := lgi_s f4
    obtain ⟨x6, e6, f6⟩ := lgi_s f5
    obtain ⟨x7, e7, f7⟩ := lgi_s f6
    obtain ⟨qe, fe⟩ := pe_s f7
    subst qe
    exact MW.sub (List.forall_mem_cons.mpr ⟨lg_mem e0, List.forall_mem_cons.mpr ⟨lg_mem e1, List.forall_mem_cons.mpr ⟨lg_mem e2, List.forall_mem_cons.mpr ⟨lg_mem e3, List.forall_mem_cons.mpr ⟨lg_mem e4, List.forall_mem_cons.mpr ⟨lg_mem e5, List.forall_mem_cons.mpr ⟨lg_mem e6, List.forall_mem_cons.mpr ⟨lg_mem e7, fun _ h => absurd h List.not_mem_nil⟩⟩⟩⟩⟩⟩⟩⟩) (hk6 a0 x1 x2 x3 x4 x5 x6 x7 g fe)
  cases e
set_option maxRecDepth 100000 in
theorem t_X12_leastBy_6 {X : Nat × (Nat → Int32)} (N : Nat) {q : Int32 × mH} : ∀ (n : Nat) (a0 : Nat) (x1 : Int32) (x2 : Int32) (x3 : Int32) (x4 : Int32) (x5 : Int32) (x6 : Int32) (x7 : Int32) (h : mH), L_X12_leastBy_6 N n a0 x1 x2 x3 x4 x5 x6 x7 h = some q → MW X y_X12_leastBy 6 6 [(0, .ref a0), (1, .int x1), (2, .int x2), (3, .int x3), (4, .int x4), (5, .int x5), (6, .int x6), (7, .int x7)] [] h (some (.int q.1)) q.2 := by
  intro n
  induction n with
  | zero => intro a0 x1 x2 x3 x4 x5 x6 x7 h hf; cases hf
  | succ n ih =>
    intro a0 x1 x2 x3 x4 x5 x6 x7 h hf
    refine ev_ok (o := 12) (ini := false) (Cl := C_X12_leastBy N) (Rc := RcI) (B := B_X12_leastBy) (K := fun pc ls st g => kb pc 6 (lgr 0 ls fun a0 => lgi 1 ls fun x1 => lgi 2 ls fun x2 => lgi 3 ls fun x3 => lgi 4 ls fun x4 => lgi 5 ls fun x5 => lgi 6 ls fun x6 => lgi 7 ls fun x7 => pe st (L_X12_leastBy_6 N n a0 x1 x2 x3 x4 x5 x6 x7 g)) (kb pc 38 (lgr 0 ls fun a0 => lgi 1 ls fun x1 => lgi 2 ls fun x2 => lgi 3 ls fun x3 => lgi 4 ls fun x4 => lgi 5 ls fun x5 => lgi 6 ls fun x6 => lgi 7 ls fun x7 => pe st (J_X12_leastBy_38 N (L_X12_leastBy_6 N n) a0 x1 x2 x3 x4 x5 x6 x7 g)) (none))) rfl (fun e => by cases e) (by decide) (rcI_ok rfl) ?_ (co_X12_leastBy N q) lb_X12_leastBy 3000 6 S_X12_leastBy_6 _ _ h ls_X12_leastBy_6 hf
    intro pc ls st g e
    rcases kb_s e with ⟨rfl, e⟩ | e
    · obtain ⟨a0, e0, f0⟩ := lgr_s e
      obtain ⟨x1, e1, f1⟩ := lgi_s f0
      obtain ⟨x2, e2, f2⟩ := lgi_s f1
      obtain ⟨x3, e3, f3⟩ := lgi_s f2
      obtain ⟨x4, e4, f4⟩ := lgi_s f3
      obtain ⟨x5, e5, f5⟩ := lgi_s f4
      obtain ⟨x6, e6, f6⟩ := lgi_s f5
      obtain ⟨x7, e7, f7⟩ := lgi_s f6
      obtain ⟨qe, fe⟩ := pe_s f7
      subst qe
      exact MW.sub (List.forall_mem_cons.mpr ⟨lg_mem e0, List.forall_mem_cons.mpr ⟨lg_mem e1, List.forall_mem_cons.mpr ⟨lg_mem e2, List.forall_mem_cons.mpr ⟨lg_mem e3, List.forall_mem_cons.mpr ⟨lg_mem e4, List.forall_mem_cons.mpr ⟨lg_mem e5, List.forall_mem_cons.mpr ⟨lg_mem e6, List.forall_mem_cons.mpr ⟨lg_mem e7, fun _ h => absurd h List.not_mem_nil⟩⟩⟩⟩⟩⟩⟩⟩) (ih a0 x1 x2 x3 x4 x5 x6 x7 g fe)
    rcases kb_s e with ⟨rfl, e⟩ | e
    · obtain ⟨a0, e0, f0⟩ := lgr_s e
      obtain ⟨x1, e1, f1⟩ := lgi_s f0
      obtain ⟨x2, e2, f2⟩ := lgi_s f1
      obtain ⟨x3, e3, f3⟩ := lgi_s f2
      obtain ⟨x4, e4, f4⟩ := lgi_s f3
      obtain ⟨x5, e5, f5⟩ := lgi_s f4
      obtain ⟨x6, e6, f6⟩ := lgi_s f5
      obtain ⟨x7, e7, f7⟩ := lgi_s f6
      obtain ⟨qe, fe⟩ := pe_s f7
      subst qe
      exact MW.sub (List.forall_mem_cons.mpr ⟨lg_mem e0, List.forall_mem_cons.mpr ⟨lg_mem e1, List.forall_mem_cons.mpr ⟨lg_mem e2, List.forall_mem_cons.mpr ⟨lg_mem e3, List.forall_mem_cons.mpr ⟨lg_mem e4, List.forall_mem_cons.mpr ⟨lg_mem e5, List.forall_mem_cons.mpr ⟨lg_mem e6, List.forall_mem_cons.mpr ⟨lg_mem e7, fun _ h => absurd h List.not_mem_nil⟩⟩⟩⟩⟩⟩⟩⟩) (t_X12_leastBy_38 N (fun a0 x1 x2 x3 x4 x5 x6 x7 g e => ih a0 x1 x2 x3 x4 x5 x6 x7 g e) a0 x1 x2 x3 x4 x5 x6 x7 g fe)
    cases e
set_option maxRecDepth 100000 in
theorem m_X12_leastBy (N : Nat) {a0 : Nat} {x1 : Int32} {x2 : Int32} {x3 : Int32} {x4 : Int32} {x5 : Int32} {h : mH} {q : Int32 × mH} (hf : f_X12_leastBy N a0 x1 x2 x3 x4 x5 h = some q) : MM y_X12_leastBy 6 [.ref a0, .int x1, .int x2, .int x3, .int x4, .int x5] h (some (.int q.1)) q.2 := by
  refine MM.of (mFx (j := 323) rfl).2.2.2.1 (Nat.le_of_ble_eq_true rfl) (fun X => ?_)
  refine ev_ok (o := 12) (ini := false) (Cl := C_X12_leastBy N) (Rc := RcI) (B := B_X12_leastBy) (K := fun pc ls st g => kb pc 6 (lgr 0 ls fun a0 => lgi 1 ls fun x1 => lgi 2 ls fun x2 => lgi 3 ls fun x3 => lgi 4 ls fun x4 => lgi 5 ls fun x5 => lgi 6 ls fun x6 => lgi 7 ls fun x7 => pe st (L_X12_leastBy_6 N N a0 x1 x2 x3 x4 x5 x6 x7 g)) (none)) rfl (fun e => by cases e) (by decide) (rcI_ok rfl) ?_ (co_X12_leastBy N q) lb_X12_leastBy 3000 0 S_X12_leastBy_0 _ _ h ls_X12_leastBy_0 hf
  intro pc ls st g e
  rcases kb_s e with ⟨rfl, e⟩ | e
  · obtain ⟨a0, e0, f0⟩ := lgr_s e
    obtain ⟨x1, e1, f1⟩ := lgi_s f0
    obtain ⟨x2, e2, f2⟩ := lgi_s f1
    obtain ⟨x3, e3, f3⟩ := lgi_s f2
    obtain ⟨x4, e4, f4⟩ := lgi_s f3
    obtain ⟨x5, e5, f5⟩ := lgi_s f4
    obtain ⟨x6, e6, f6⟩ := lgi_s f5
    obtain ⟨x7, e7, f7⟩ := lgi_s f6
    obtain ⟨qe, fe⟩ := pe_s f7
    subst qe
    exact MW.sub (List.forall_mem_cons.mpr ⟨lg_mem e0, List.forall_mem_cons.mpr ⟨lg_mem e1, List.forall_mem_cons.mpr ⟨lg_mem e2, List.forall_mem_cons.mpr ⟨lg_mem e3, List.forall_mem_cons.mpr ⟨lg_mem e4, List.forall_mem_cons.mpr ⟨lg_mem e5, List.forall_mem_cons.mpr ⟨lg_mem e6, List.forall_mem_cons.mpr ⟨lg_mem e7, fun _ h => absurd h List.not_mem_nil⟩⟩⟩⟩⟩⟩⟩⟩) (t_X12_leastBy_6 N N a0 x1 x2 x3 x4 x5 x6 x7 g fe)
  cases e
def L_X12_isBowl_86 (N : Nat) : Nat → Nat → Int32 → Int32 → mH → Option (Int32 × mH)
  | 0, _, _, _, _ => none
  | n + 1, a0, x1, x4, h =>
    (gR h 12 a0 2).bind fun v1 =>
    (ldI 0 h v1 (jI 26)).bind fun v2 =>
    if x4 < v2 then
      (gR h 12 a0 36).bind fun v3 =>
      (ldL h v3 (iAdd (iMul (jI 40) x1) x4)).bind fun v4 =>
      (f_X12_within N v4 (jL 1) (jL 9999) h).bind fun p5 =>
      if p5.1 = 0 then
        some (jI 0, p5.2)
      else
        let w6 := iAdd x4 (jI 1)
        L_X12_isBowl_86 N n a0 x1 w6 p5.2
    else
      some (jI 1, h)
def f_X12_isBowl (N : Nat) (a0 : Nat) (x1 : Int32) (x2 : Int32) (x3 : Int32) (h : mH) : Option (Int32 × mH) :=
  (f_X12_within N x1.toInt64 (jL 0) (jL 3) h).bind fun p1 =>
  if p1.1 = 0 then
    some (jI 0, p1.2)
  else
    (gR p1.2 12 a0 34).bind fun v2 =>
    (ldI 0 p1.2 v2 x1).bind fun v3 =>
    if v3 = (jI (-1)) then
      some (jI 0, p1.2)
    else
      (gR p1.2 12 a0 2).bind fun v4 =>
      (ldI 0 p1.2 v4 (jI 26)).bind fun v5 =>
      if v5 = 0 then
        some (jI 0, p1.2)
      else
        (gR p1.2 12 a0 35).bind fun v6 =>
        (ldI 0 p1.2 v6 x1).bind fun v7 =>
        (gR p1.2 12 a0 2).bind fun v8 =>
        (ldI 0 p1.2 v8 (jI 26)).bind fun v9 =>
        if v7 = v9 then
          (f_X12_within N x2.toInt64 (jL 0) (jL 18) p1.2).bind fun p10 =>
          if p10.1 = 0 then
            some (jI 0, p10.2)
          else
            (gR p10.2 12 a0 2).bind fun v11 =>
            (ldI 0 p10.2 v11 (jI 26)).bind fun v12 =>
            (f_X12_within N x3.toInt64 (jL (-1)) ((iSub v12 (jI 1)).toInt64) p10.2).bind fun p13 =>
            if p13.1 = 0 then
              some (jI 0, p13.2)
            else
              L_X12_isBowl_86 N N a0 x1 (jI 0) p13.2
        else
          some (jI 0, p1.2)
def y_X12_isBowl : mM := (yX12_isBowl, cX12_isBowl, 5, (some .boolean))
def B_X12_isBowl : List (Nat × List mI) := [(81, [(.iconst 0, 1, [], [0]), (.ireturn, 1, [], [])]), (83, [(.iconst 0, 1, [], [0]), (.istore 4, 2, [4], [])]), (122, [(.iinc 4 1, 3, [4], [1]), (.goto (-39), 3, [86], [])]), (128, [(.iconst 1, 1, [], [1]), (.ireturn, 1, [], [])])]
def S_X12_isBowl_0 : List mI := [(.iload_n 1, 1, [1], []), (.i2l, 1, [], []), (.lconst 0, 1, [], [0]), (.ldc2_w 179, 3, [5], [3]), (.invokestatic 147, 3, [1, 225, 3, 0, 269], []), (.ifCond .eq 72, 3, [81], []), (.aload_n 0, 1, [0], []), (.getfield 68, 3, [12, 34, 2, 160], []), (.iload_n 1, 1, [1], []), (.iaload, 1, [0], []), (.iconst (-1), 1, [], [-1]), (.if_icmp .eq 62, 3, [81], []), (.aload_n 0, 1, [0], []), (.getfield 17, 3, [12, 2, 2, 128], []), (.bipush 26, 2, [], [26]), (.iaload, 1, [0], []), (.ifCond .eq 52, 3, [81], []), (.aload_n 0, 1, [0], []), (.getfield 71, 3, [12, 35, 2, 161], []), (.iload_n 1, 1, [1], []), (.iaload, 1, [0], []), (.aload_n 0, 1, [0], []), (.getfield 17, 3, [12, 2, 2, 128], []), (.bipush 26, 2, [], [26]), (.iaload, 1, [0], []), (.if_icmp .ne 36, 3, [81], []), (.iload_n 2, 1, [2], []), (.i2l, 1, [], []), (.lconst 0, 1, [], [0]), (.ldc2_w 316, 3, [17], [18]), (.invokestatic 147, 3, [1, 225, 3, 0, 269], []), (.ifCond .eq 24, 3, [81], []), (.iload_n 3, 1, [3], []), (.i2l, 1, [], []), (.ldc2_w 314, 3, [16], [-1]), (.aload_n 0, 1, [0], []), (.getfield 17, 3, [12, 2, 2, 128], []), (.bipush 26, 2, [], [26]), (.iaload, 1, [0], []), (.iconst 1, 1, [], [1]), (.isub, 1, [], []), (.i2l, 1, [], []), (.invokestatic 147, 3, [1, 225, 3, 0, 269], []), (.ifCond .ne 5, 3, [83], [])]
def S_X12_isBowl_86 : List mI := [(.iload 4, 2, [4], []), (.aload_n 0, 1, [0], []), (.getfield 17, 3, [12, 2, 2, 128], []), (.bipush 26, 2, [], [26]), (.iaload, 1, [0], []), (.if_icmp .ge 33, 3, [128], []), (.aload_n 0, 1, [0], []), (.getfield 74, 3, [12, 36, 2, 162], []), (.bipush 40, 2, [], [40]), (.iload_n 1, 1, [1], []), (.imul, 1, [], []), (.iload 4, 2, [4], []), (.iadd, 1, [], []), (.laload, 1, [], []), (.lconst 1, 1, [], [1]), (.ldc2_w 256, 3, [12], [9999]), (.invokestatic 147, 3, [1, 225, 3, 0, 269], []), (.ifCond .ne 5, 3, [122], []), (.iconst 0, 1, [], [0]), (.ireturn, 1, [], [])]
theorem lb_X12_isBowl : B_X12_isBowl.all (fun b => lst y_X12_isBowl.2.1 12 y_X12_isBowl.2.2.1 false b.1 b.2) = true := by decide +kernel
theorem ls_X12_isBowl_0 : lst y_X12_isBowl.2.1 12 y_X12_isBowl.2.2.1 false 0 S_X12_isBowl_0 = true := by decide +kernel
theorem ls_X12_isBowl_86 : lst y_X12_isBowl.2.1 12 y_X12_isBowl.2.2.1 false 86 S_X12_isBowl_86 = true := by decide +kernel
def C_X12_isBowl (N : Nat) : Nat → List Value → mH → (Option Value → mH → Option (Int32 × mH)) → Option (Int32 × mH) := fun j as g k => kb j 225 (pl1 as fun b0 as => pl1 as fun b1 as => pl1 as fun b2 as => pe as ((f_X12_within N b0 b1 b2 g).bind fun p => k (some (.int p.1)) p.2)) (none)
theorem co_X12_isBowl (N : Nat) (q : Int32 × mH) : clOK 5 q (C_X12_isBowl N) := by
  intro j as g k e
  rcases kb_s e with ⟨rfl, e⟩ | e
  · obtain ⟨b0, r0, q0, f0⟩ := pl1_s e
    obtain ⟨b1, r1, q1, f1⟩ := pl1_s f0
    obtain ⟨b2, r2, q2, f2⟩ := pl1_s f1
    obtain ⟨qe, fe⟩ := pe_s f2
    obtain ⟨p, e1, e2⟩ := bnd_s fe
    subst qe
    subst q2
    subst q1
    subst q0
    exact ⟨_, _, _, _, 4, rfl, (by decide), m_X12_within N e1, e2⟩
  cases e
set_option maxRecDepth 100000 in
theorem t_X12_isBowl_86 {X : Nat × (Nat → Int32)} (N : Nat) {q : Int32 × mH} : ∀ (n : Nat) (a0 : Nat) (x1 : Int32) (x4 : Int32) (h : mH), L_X12_isBowl_86 N n a0 x1 x4 h = some q → MW X y_X12_isBowl 5 86 [(0, .ref a0), (1, .int x1), (4, .int x4)] [] h (some (.int q.1)) q.2 := by
  intro n
  induction n with
  | zero => intro a0 x1 x4 h hf; cases hf
  | succ n ih =>
    intro a0 x1 x4 h hf
    refine ev_ok (o := 12) (ini := false) (Cl := C_X12_isBowl N) (Rc := RcZ) (B := B_X12_isBowl) (K := fun pc ls st g => kb pc 86 (lgr 0 ls fun a0 => lgi 1 ls fun x1 => lgi 4 ls fun x4 => pe st (L_X12_isBowl_86 N n a0 x1 x4 g)) (none)) rfl (fun e => by cases e) (by decide) (rcZ_ok rfl) ?_ (co_X12_isBowl N q) lb_X12_isBowl 3000 86 S_X12_isBowl_86 _ _ h ls_X12_isBowl_86 hf
    intro pc ls st g e
    rcases kb_s e with ⟨rfl, e⟩ | e
    · obtain ⟨a0, e0, f0⟩ := lgr_s e
      obtain ⟨x1, e1, f1⟩ := lgi_s f0
      obtain ⟨x4, e2, f2⟩ := lgi_s f1
      obtain ⟨qe, fe⟩ := pe_s f2
      subst qe
      exact MW.sub (List.forall_mem_cons.mpr ⟨lg_mem e0, List.forall_mem_cons.mpr ⟨lg_mem e1, List.forall_mem_cons.mpr ⟨lg_mem e2, fun _ h => absurd h List.not_mem_nil⟩⟩⟩) (ih a0 x1 x4 g fe)
    cases e
set_option maxRecDepth 100000 in
theorem m_X12_isBowl (N : Nat) {a0 : Nat} {x1 : Int32} {x2 : Int32} {x3 : Int32} {h : mH} {q : Int32 × mH} (hf : f_X12_isBowl N a0 x1 x2 x3 h = some q) : MM y_X12_isBowl 5 [.ref a0, .int x1, .int x2, .int x3] h (some (.int q.1)) q.2 := by
  refine MM.of (mFx (j := 324) rfl).2.2.2.1 (Nat.le_of_ble_eq_true rfl) (fun X => ?_)
  refine ev_ok (o := 12) (ini := false) (Cl := C_X12_isBowl N) (Rc := RcZ) (B := B_X12_isBowl) (K := fun pc ls st g => kb pc 86 (lgr 0 ls fun a0 => lgi 1 ls fun x1 => lgi 4 ls fun x4 => pe st (L_X12_isBowl_86 N N a0 x1 x4 g)) (none)) rfl (fun e => by cases e) (by decide) (rcZ_ok rfl) ?_ (co_X12_isBowl N q) lb_X12_isBowl 3000 0 S_X12_isBowl_0 _ _ h ls_X12_isBowl_0 hf
  intro pc ls st g e
  rcases kb_s e with ⟨rfl, e⟩ | e
  · obtain ⟨a0, e0, f0⟩ := lgr_s e
    obtain ⟨x1, e1, f1⟩ := lgi_s f0
    obtain ⟨x4, e2, f2⟩ := lgi_s f1
    obtain ⟨qe, fe⟩ := pe_s f2
    subst qe
    exact MW.sub (List.forall_mem_cons.mpr ⟨lg_mem e0, List.forall_mem_cons.mpr ⟨lg_mem e1, List.forall_mem_cons.mpr ⟨lg_mem e2, fun _ h => absurd h List.not_mem_nil⟩⟩⟩) (t_X12_isBowl_86 N N a0 x1 x4 g fe)
  cases e
def L_X12_mostAhead_11 (N : Nat) : Nat → Nat → Int32 → Int32 → Int32 → mH → Option (Int32 × mH)
  | 0, _, _, _, _, _ => none
  | n + 1, a0, x1, x2, x3, h =>
    if x3 < x1 then
      (gR h 12 a0 2).bind fun v1 =>
      (ldI 0 h v1 (iAdd (jI 51) x3)).bind fun v2 =>
      let w3 := iAdd x2 (iMul (jI 9) v2)
      let w4 := iAdd x3 (jI 1)
      L_X12_mostAhead_11 N n a0 x1 w3 w4 h
    else
      some (x2, h)
def f_X12_mostAhead (N : Nat) (a0 : Nat) (x1 : Int32) (h : mH) : Option (Int32 × mH) :=
  (gR h 12 a0 2).bind fun v1 =>
  (ldI 0 h v1 (jI 141)).bind fun v2 =>
  L_X12_mostAhead_11 N N a0 x1 v2 (jI 0) h
def y_X12_mostAhead : mM := (yX12_mostAhead, cX12_mostAhead, 4, (some .int))
def B_X12_mostAhead : List (Nat × List mI) := [(37, [(.iload_n 2, 1, [2], []), (.ireturn, 1, [], [])])]
def S_X12_mostAhead_0 : List mI := [(.aload_n 0, 1, [0], []), (.getfield 17, 3, [12, 2, 2, 128], []), (.sipush 141, 3, [], [141]), (.iaload, 1, [0], []), (.istore_n 2, 1, [2], []), (.iconst 0, 1, [], [0]), (.istore_n 3, 1, [3], [])]
def S_X12_mostAhead_11 : List mI := [(.iload_n 3, 1, [3], []), (.iload_n 1, 1, [1], []), (.if_icmp .ge 24, 3, [37], []), (.iload_n 2, 1, [2], []), (.bipush 9, 2, [], [9]), (.aload_n 0, 1, [0], []), (.getfield 17, 3, [12, 2, 2, 128], []), (.bipush 51, 2, [], [51]), (.iload_n 3, 1, [3], []), (.iadd, 1, [], []), (.iaload, 1, [0], []), (.imul, 1, [], []), (.iadd, 1, [], []), (.istore_n 2, 1, [2], []), (.iinc 3 1, 3, [3], [1]), (.goto (-23), 3, [11], [])]
theorem lb_X12_mostAhead : B_X12_mostAhead.all (fun b => lst y_X12_mostAhead.2.1 12 y_X12_mostAhead.2.2.1 false b.1 b.2) = true := by decide +kernel
theorem ls_X12_mostAhead_0 : lst y_X12_mostAhead.2.1 12 y_X12_mostAhead.2.2.1 false 0 S_X12_mostAhead_0 = true := by decide +kernel
theorem ls_X12_mostAhead_11 : lst y_X12_mostAhead.2.1 12 y_X12_mostAhead.2.2.1 false 11 S_X12_mostAhead_11 = true := by decide +kernel
def C_X12_mostAhead (N : Nat) : Nat → List Value → mH → (Option Value → mH → Option (Int32 × mH)) → Option (Int32 × mH) := fun j as g k => none
theorem co_X12_mostAhead (N : Nat) (q : Int32 × mH) : clOK 4 q (C_X12_mostAhead N) := by
  intro j as g k e
  cases e
set_option maxRecDepth 100000 in
theorem t_X12_mostAhead_11 {X : Nat × (Nat → Int32)} (N : Nat) {q : Int32 × mH} : ∀ (n : Nat) (a0 : Nat) (x1 : Int32) (x2 : Int32) (x3 : Int32) (h : mH), L_X12_mostAhead_11 N n a0 x1 x2 x3 h = some q → MW X y_X12_mostAhead 4 11 [(0, .ref a0), (1, .int x1), (2, .int x2), (3, .int x3)] [] h (some (.int q.1)) q.2 := by
  intro n
  induction n with
  | zero => intro a0 x1 x2 x3 h hf; cases hf
  | succ n ih =>
    intro a0 x1 x2 x3 h hf
    refine ev_ok (o := 12) (ini := false) (Cl := C_X12_mostAhead N) (Rc := RcI) (B := B_X12_mostAhead) (K := fun pc ls st g => kb pc 11 (lgr 0 ls fun a0 => lgi 1 ls fun x1 => lgi 2 ls fun x2 => lgi 3 ls fun x3 => pe st (L_X12_mostAhead_11 N n a0 x1 x2 x3 g)) (none)) rfl (fun e => by cases e) (by decide) (rcI_ok rfl) ?_ (co_X12_mostAhead N q) lb_X12_mostAhead 3000 11 S_X12_mostAhead_11 _ _ h ls_X12_mostAhead_11 hf
    intro pc ls st g e
    rcases kb_s e with ⟨rfl, e⟩ | e
    · obtain ⟨a0, e0, f0⟩ := lgr_s e
      obtain ⟨x1, e1, f1⟩ := lgi_s f0
      obtain ⟨x2, e2, f2⟩ := lgi_s f1
      obtain ⟨x3, e3, f3⟩ := lgi_s f2
      obtain ⟨qe, fe⟩ := pe_s f3
      subst qe
      exact MW.sub (List.forall_mem_cons.mpr ⟨lg_mem e0, List.forall_mem_cons.mpr ⟨lg_mem e1, List.forall_mem_cons.mpr ⟨lg_mem e2, List.forall_mem_cons.mpr ⟨lg_mem e3, fun _ h => absurd h List.not_mem_nil⟩⟩⟩⟩) (ih a0 x1 x2 x3 g fe)
    cases e
set_option maxRecDepth 100000 in
theorem m_X12_mostAhead (N : Nat) {a0 : Nat} {x1 : Int32} {h : mH} {q : Int32 × mH} (hf : f_X12_mostAhead N a0 x1 h = some q) : MM y_X12_mostAhead 4 [.ref a0, .int x1] h (some (.int q.1)) q.2 := by
  refine MM.of (mFx (j := 325) rfl).2.2.2.1 (Nat.le_of_ble_eq_true rfl) (fun X => ?_)
  refine ev_ok (o := 12) (ini := false) (Cl := C_X12_mostAhead N) (Rc := RcI) (B := B_X12_mostAhead) (K := fun pc ls st g => kb pc 11 (lgr 0 ls fun a0 => lgi 1 ls fun x1 => lgi 2 ls fun x2 => lgi 3 ls fun x3 => pe st (L_X12_mostAhead_11 N N a0 x1 x2 x3 g)) (none)) rfl (fun e => by cases e) (by decide) (rcI_ok rfl) ?_ (co_X12_mostAhead N q) lb_X12_mostAhead 3000 0 S_X12_mostAhead_0 _ _ h ls_X12_mostAhead_0 hf
  intro pc ls st g e
  rcases kb_s e with ⟨rfl, e⟩ | e
  · obtain ⟨a0, e0, f0⟩ := lgr_s e
    obtain ⟨x1, e1, f1⟩ := lgi_s f0
    obtain ⟨x2, e2, f2⟩ := lgi_s f1
    obtain ⟨x3, e3, f3⟩ := lgi_s f2
    obtain ⟨qe, fe⟩ := pe_s f3
    subst qe
    exact MW.sub (List.forall_mem_cons.mpr ⟨lg_mem e0, List.forall_mem_cons.mpr ⟨lg_mem e1, List.forall_mem_cons.mpr ⟨lg_mem e2, List.forall_mem_cons.mpr ⟨lg_mem e3, fun _ h => absurd h List.not_mem_nil⟩⟩⟩⟩) (t_X12_mostAhead_11 N N a0 x1 x2 x3 g fe)
  cases e
def L_X12_bowl_54 (N : Nat) (k44 : Nat → Int32 → Int32 → Int32 → Int32 → Int32 → mH → Option (Int32 × mH)) : Nat → Nat → Int32 → Int32 → Int32 → Int32 → Int32 → Int32 → mH → Option (Int32 × mH)
  | 0, _, _, _, _, _, _, _, _ => none
  | n + 1, a0, x1, x2, x3, x4, x5, x6, h =>
    (rcv h 12 a0).bind fun _ =>
    (f_X12_mostAhead N a0 x4 h).bind fun p1 =>
    if p1.1 < x6 then
      let w2 := iAdd x5 (jI 1)
      k44 a0 x1 x2 x3 x4 w2 p1.2
    else
      (gR p1.2 12 a0 31).bind fun v3 =>
      (rcv p1.2 12 a0).bind fun _ =>
      (f_X12_offAt N a0 x4 x5 x6 p1.2).bind fun p4 =>
      (rcv p4.2 12 a0).bind fun _ =>
      (f_X12_leastBy N a0 x1 x4 x2 x5 x6 p4.2).bind fun p5 =>
      (stI 0 p5.2 v3 p4.1 p5.1).bind fun h6 =>
      let w7 := iAdd x6 (jI 1)
      L_X12_bowl_54 N k44 n a0 x1 x2 x3 x4 x5 w7 h6
def L_X12_bowl_44 (N : Nat) (k36 : Nat → Int32 → Int32 → Int32 → Int32 → mH → Option (Int32 × mH)) : Nat → Nat → Int32 → Int32 → Int32 → Int32 → Int32 → mH → Option (Int32 × mH)
  | 0, _, _, _, _, _, _, _ => none
  | n + 1, a0, x1, x2, x3, x4, x5, h =>
    if x5 < (jI 19) then
      L_X12_bowl_54 N (L_X12_bowl_44 N k36 n) N a0 x1 x2 x3 x4 x5 (jI 1) h
    else
      let w1 := iAdd x4 (jI (-1))
      k36 a0 x1 x2 x3 w1 h
def J_X12_bowl_192 (N : Nat) (k152 : Nat → Int32 → Int32 → Int32 → Int32 → Int32 → Int32 → mH → Option (Int32 × mH)) (k169 : Nat → Int32 → Int32 → Int32 → Int32 → Int32 → Int32 → Int32 → Int32 → mH → Option (Int32 × mH)) (a0 : Nat) (x1 : Int32) (x2 : Int32) (x3 : Int32) (x5 : Int32) (x6 : Int32) (x7 : Int32) (x8 : Int32) (x9 : Int32) (h : mH) : Option (Int32 × mH) :=
  (rcv h 12 a0).bind fun _ =>
  (f_X12_offBy N a0 x1 x7 x9 x5 h).bind fun p1 =>
  if p1.1 = x8 then
    if x7 = x3 then
      some (iSub x9 (jI 9), p1.2)
    else
      (gR p1.2 12 a0 2).bind fun v2 =>
      (ldI 0 p1.2 v2 (iAdd (jI 51) x7)).bind fun v3 =>
      (f_X12_atLeastOne N (iAdd x5 (iMul (iSub x9 (jI 9)) v3)) p1.2).bind fun p4 =>
      let w5 := iAdd x7 (jI 1)
      k152 a0 x1 x2 x3 p4.1 x9 w5 p4.2
  else
    let w6 := iAdd x9 (jI 1)
    k169 a0 x1 x2 x3 x5 x6 x7 x8 w6 p1.2
def L_X12_bowl_169 (N : Nat) (k152 : Nat → Int32 → Int32 → Int32 → Int32 → Int32 → Int32 → mH → Option (Int32 × mH)) : Nat → Nat → Int32 → Int32 → Int32 → Int32 → Int32 → Int32 → Int32 → Int32 → mH → Option (Int32 × mH)
  | 0, _, _, _, _, _, _, _, _, _, _ => none
  | n + 1, a0, x1, x2, x3, x5, x6, x7, x8, x9, h =>
    if 0 < x7 then
      if x2 < (iSub x9 x6) then
        let w1 := iAdd x9 (jI 1)
        L_X12_bowl_169 N k152 n a0 x1 x2 x3 x5 x6 x7 x8 w1 h
      else
        if x2 < (iSub x6 x9) then
          let w2 := iAdd x9 (jI 1)
          L_X12_bowl_169 N k152 n a0 x1 x2 x3 x5 x6 x7 x8 w2 h
        else
          J_X12_bowl_192 N k152 (L_X12_bowl_169 N k152 n) a0 x1 x2 x3 x5 x6 x7 x8 x9 h
    else
      J_X12_bowl_192 N k152 (L_X12_bowl_169 N k152 n) a0 x1 x2 x3 x5 x6 x7 x8 x9 h
def L_X12_bowl_152 (N : Nat) : Nat → Nat → Int32 → Int32 → Int32 → Int32 → Int32 → Int32 → mH → Option (Int32 × mH)
  | 0, _, _, _, _, _, _, _, _ => none
  | n + 1, a0, x1, x2, x3, x5, x6, x7, h =>
    (rcv h 12 a0).bind fun _ =>
    (f_X12_leastBy N a0 x1 x7 x2 x6 x5 h).bind fun p1 =>
    L_X12_bowl_169 N (L_X12_bowl_152 N n) N a0 x1 x2 x3 x5 x6 x7 p1.1 (jI 0) p1.2
def L_X12_bowl_36 (N : Nat) : Nat → Nat → Int32 → Int32 → Int32 → Int32 → mH → Option (Int32 × mH)
  | 0, _, _, _, _, _, _ => none
  | n + 1, a0, x1, x2, x3, x4, h =>
    if 0 < x4 then
      L_X12_bowl_44 N (L_X12_bowl_36 N n) N a0 x1 x2 x3 x4 (jI 0) h
    else
      (gR h 12 a0 2).bind fun v1 =>
      (ldI 0 h v1 (jI 141)).bind fun v2 =>
      (rcv h 12 a0).bind fun _ =>
      (f_X12_leastBy N a0 x1 (jI 0) x2 (jI 0) v2 h).bind fun p3 =>
      if x3 = (jI (-1)) then
        some (p3.1, p3.2)
      else
        (gR p3.2 12 a0 2).bind fun v4 =>
        (ldI 0 p3.2 v4 (jI 141)).bind fun v5 =>
        L_X12_bowl_152 N N a0 x1 x2 x3 v5 (jI 0) (jI 0) p3.2
def f_X12_bowl (N : Nat) (a0 : Nat) (x1 : Int32) (x2 : Int32) (x3 : Int32) (h : mH) : Option (Int32 × mH) :=
  (pV h 12 a0 0 (.int (jI 0))).bind fun h1 =>
  (rcv h1 12 a0).bind fun _ =>
  (f_X12_isBowl N a0 x1 x2 x3 h1).bind fun p2 =>
  if p2.1 = 0 then
    (rcv p2.2 12 a0).bind fun _ =>
    (f_X12_no N a0 (jI (-3)) p2.2).bind fun p3 =>
    some (jI (-100), p3.2)
  else
    (gR p2.2 12 a0 2).bind fun v4 =>
    (ldI 0 p2.2 v4 (jI 26)).bind fun v5 =>
    let w6 := iSub v5 (jI 1)
    L_X12_bowl_36 N N a0 x1 x2 x3 w6 p2.2
def y_X12_bowl : mM := (yX12_bowl, cX12_bowl, 10, (some .int))
def B_X12_bowl : List (Nat × List mI) := [(25, [(.aload_n 0, 1, [0], []), (.getfield 17, 3, [12, 2, 2, 128], []), (.bipush 26, 2, [], [26]), (.iaload, 1, [0], []), (.iconst 1, 1, [], [1]), (.isub, 1, [], []), (.istore 4, 2, [4], [])]), (98, [(.iinc 5 1, 3, [5], [1]), (.goto (-57), 3, [44], [])]), (104, [(.iinc 4 (-1), 3, [4], [-1]), (.goto (-71), 3, [36], [])]), (110, [(.aload_n 0, 1, [0], []), (.iload_n 1, 1, [1], []), (.iconst 0, 1, [], [0]), (.iload_n 2, 1, [2], []), (.iconst 0, 1, [], [0]), (.aload_n 0, 1, [0], []), (.getfield 17, 3, [12, 2, 2, 128], []), (.sipush 141, 3, [], [141]), (.iaload, 1, [0], []), (.invokevirtual 358, 3, [0, 323, 5, 12, 365], []), (.istore 4, 2, [4], []), (.iload_n 3, 1, [3], []), (.iconst (-1), 1, [], [-1]), (.if_icmp .ne 6, 3, [136], []), (.iload 4, 2, [4], []), (.ireturn, 1, [], [])]), (136, [(.aload_n 0, 1, [0], []), (.getfield 17, 3, [12, 2, 2, 128], []), (.sipush 141, 3, [], [141]), (.iaload, 1, [0], []), (.istore 5, 2, [5], []), (.iconst 0, 1, [], [0]), (.istore 6, 2, [6], []), (.iconst 0, 1, [], [0]), (.istore 7, 2, [7], [])]), (208, [(.iinc 9 1, 3, [9], [1]), (.goto (-42), 3, [169], [])]), (214, [(.iload 7, 2, [7], []), (.iload_n 3, 1, [3], []), (.if_icmp .ne 9, 3, [226], []), (.iload 9, 2, [9], []), (.bipush 9, 2, [], [9]), (.isub, 1, [], []), (.ireturn, 1, [], [])]), (226, [(.iload 5, 2, [5], []), (.iload 9, 2, [9], []), (.bipush 9, 2, [], [9]), (.isub, 1, [], []), (.aload_n 0, 1, [0], []), (.getfield 17, 3, [12, 2, 2, 128], []), (.bipush 51, 2, [], [51]), (.iload 7, 2, [7], []), (.iadd, 1, [], []), (.iaload, 1, [0], []), (.imul, 1, [], []), (.iadd, 1, [], []), (.invokestatic 343, 3, [1, 319, 1, 0, 360], []), (.istore 5, 2, [5], []), (.iload 9, 2, [9], []), (.istore 6, 2, [6], []), (.iinc 7 1, 3, [7], [1]), (.goto (-105), 3, [152], [])])]
def S_X12_bowl_0 : List mI := [(.aload_n 0, 1, [0], []), (.iconst 0, 1, [], [0]), (.putfield 1, 3, [12, 0, 0, 126], []), (.aload_n 0, 1, [0], []), (.iload_n 1, 1, [1], []), (.iload_n 2, 1, [2], []), (.iload_n 3, 1, [3], []), (.invokevirtual 352, 3, [0, 324, 3, 12, 362], []), (.ifCond .ne 13, 3, [25], []), (.aload_n 0, 1, [0], []), (.bipush (-3), 2, [], [-3]), (.invokevirtual 84, 3, [0, 224, 1, 12, 267], []), (.pop, 1, [], []), (.bipush (-100), 2, [], [-100]), (.ireturn, 1, [], [])]
def S_X12_bowl_36 : List mI := [(.iload 4, 2, [4], []), (.ifCond .le 72, 3, [110], []), (.iconst 0, 1, [], [0]), (.istore 5, 2, [5], [])]
def S_X12_bowl_44 : List mI := [(.iload 5, 2, [5], []), (.bipush 19, 2, [], [19]), (.if_icmp .ge 56, 3, [104], []), (.iconst 1, 1, [], [1]), (.istore 6, 2, [6], [])]
def S_X12_bowl_54 : List mI := [(.iload 6, 2, [6], []), (.aload_n 0, 1, [0], []), (.iload 4, 2, [4], []), (.invokevirtual 355, 3, [0, 325, 1, 12, 363], []), (.if_icmp .gt 36, 3, [98], []), (.aload_n 0, 1, [0], []), (.getfield 59, 3, [12, 31, 2, 157], []), (.aload_n 0, 1, [0], []), (.iload 4, 2, [4], []), (.iload 5, 2, [5], []), (.iload 6, 2, [6], []), (.invokevirtual 346, 3, [0, 321, 3, 12, 364], []), (.aload_n 0, 1, [0], []), (.iload_n 1, 1, [1], []), (.iload 4, 2, [4], []), (.iload_n 2, 1, [2], []), (.iload 5, 2, [5], []), (.iload 6, 2, [6], []), (.invokevirtual 358, 3, [0, 323, 5, 12, 365], []), (.iastore, 1, [], []), (.iinc 6 1, 3, [6], [1]), (.goto (-41), 3, [54], [])]
def S_X12_bowl_152 : List mI := [(.aload_n 0, 1, [0], []), (.iload_n 1, 1, [1], []), (.iload 7, 2, [7], []), (.iload_n 2, 1, [2], []), (.iload 6, 2, [6], []), (.iload 5, 2, [5], []), (.invokevirtual 358, 3, [0, 323, 5, 12, 365], []), (.istore 8, 2, [8], []), (.iconst 0, 1, [], [0]), (.istore 9, 2, [9], [])]
def S_X12_bowl_169 : List mI := [(.iload 7, 2, [7], []), (.ifCond .le 21, 3, [192], []), (.iload 9, 2, [9], []), (.iload 6, 2, [6], []), (.isub, 1, [], []), (.iload_n 2, 1, [2], []), (.if_icmp .gt 28, 3, [208], []), (.iload 6, 2, [6], []), (.iload 9, 2, [9], []), (.isub, 1, [], []), (.iload_n 2, 1, [2], []), (.if_icmp .gt 19, 3, [208], [])]
def S_X12_bowl_192 : List mI := [(.aload_n 0, 1, [0], []), (.iload_n 1, 1, [1], []), (.iload 7, 2, [7], []), (.iload 9, 2, [9], []), (.iload 5, 2, [5], []), (.invokevirtual 349, 3, [0, 322, 4, 12, 366], []), (.iload 8, 2, [8], []), (.if_icmp .eq 9, 3, [214], [])]
theorem lb_X12_bowl : B_X12_bowl.all (fun b => lst y_X12_bowl.2.1 12 y_X12_bowl.2.2.1 false b.1 b.2) = true := by decide +kernel
theorem ls_X12_bowl_0 : lst y_X12_bowl.2.1 12 y_X12_bowl.2.2.1 false 0 S_X12_bowl_0 = true := by decide +kernel
theorem ls_X12_bowl_36 : lst y_X12_bowl.2.1 12 y_X12_bowl.2.2.1 false 36 S_X12_bowl_36 = true := by decide +kernel
theorem ls_X12_bowl_44 : lst y_X12_bowl.2.1 12 y_X12_bowl.2.2.1 false 44 S_X12_bowl_44 = true := by decide +kernel
theorem ls_X12_bowl_54 : lst y_X12_bowl.2.1 12 y_X12_bowl.2.2.1 false 54 S_X12_bowl_54 = true := by decide +kernel
theorem ls_X12_bowl_152 : lst y_X12_bowl.2.1 12 y_X12_bowl.2.2.1 false 152 S_X12_bowl_152 = true := by decide +kernel
theorem ls_X12_bowl_169 : lst y_X12_bowl.2.1 12 y_X12_bowl.2.2.1 false 169 S_X12_bowl_169 = true := by decide +kernel
theorem ls_X12_bowl_192 : lst y_X12_bowl.2.1 12 y_X12_bowl.2.2.1 false 192 S_X12_bowl_192 = true := by decide +kernel
def C_X12_bowl (N : Nat) : Nat → List Value → mH → (Option Value → mH → Option (Int32 × mH)) → Option (Int32 × mH) := fun j as g k => kb j 324 (pr1 as fun b0 as => pp1 as fun b1 as => pp1 as fun b2 as => pp1 as fun b3 as => pe as ((f_X12_isBowl N b0 b1 b2 b3 g).bind fun p => k (some (.int p.1)) p.2)) (kb j 224 (pr1 as fun b0 as => pp1 as fun b1 as => pe as ((f_X12_no N b0 b1 g).bind fun p => k (some (.int p.1)) p.2)) (kb j 325 (pr1 as fun b0 as => pp1 as fun b1 as => pe as ((f_X12_mostAhead N b0 b1 g).bind fun p => k (some (.int p.1)) p.2)) (kb j 321 (pr1 as fun b0 as => pp1 as fun b1 as => pp1 as fun b2 as => pp1 as fun b3 as => pe as ((f_X12_offAt N b0 b1 b2 b3 g).bind fun p => k (some (.int p.1)) p.2)) (kb j 323 (pr1 as fun b0 as => pp1 as fun b1 as => pp1 as fun b2 as => pp1 as fun b3 as => pp1 as fun b4 as => pp1 as fun b5 as => pe as ((f_X12_leastBy N b0 b1 b2 b3 b4 b5 g).bind fun p => k (some (.int p.1)) p.2)) (kb j 322 (pr1 as fun b0 as => pp1 as fun b1 as => pp1 as fun b2 as => pp1 as fun b3 as => pp1 as fun b4 as => pe as ((f_X12_offBy N b0 b1 b2 b3 b4 g).bind fun p => k (some (.int p.1)) p.2)) (kb j 319 (pp1 as fun b0 as => pe as ((f_X12_atLeastOne N b0 g).bind fun p => k (some (.int p.1)) p.2)) (none)))))))
theorem co_X12_bowl (N : Nat) (q : Int32 × mH) : clOK 7 q (C_X12_bowl N) := by
  intro j as g k e
  rcases kb_s e with ⟨rfl, e⟩ | e
  · obtain ⟨b0, r0, q0, f0⟩ := pr1_s e
    obtain ⟨b1, r1, q1, f1⟩ := pp1_s f0
    obtain ⟨b2, r2, q2, f2⟩ := pp1_s f1
    obtain ⟨b3, r3, q3, f3⟩ := pp1_s f2
    obtain ⟨qe, fe⟩ := pe_s f3
    obtain ⟨p, e1, e2⟩ := bnd_s fe
    subst qe
    subst q3
    subst q2
    subst q1
    subst q0
    exact ⟨_, _, _, _, 5, rfl, (by decide), m_X12_isBowl N e1, e2⟩
  rcases kb_s e with ⟨rfl, e⟩ | e
  · obtain ⟨b0, r0, q0, f0⟩ := pr1_s e
    obtain ⟨b1, r1, q1, f1⟩ := pp1_s f0
    obtain ⟨qe, fe⟩ := pe_s f1
    obtain ⟨p, e1, e2⟩ := bnd_s fe
    subst qe
    subst q1
    subst q0
    exact ⟨_, _, _, _, 4, rfl, (by decide), m_X12_no N e1, e2⟩
  rcases kb_s e with ⟨rfl, e⟩ | e
  · obtain ⟨b0, r0, q0, f0⟩ := pr1_s e
    obtain ⟨b1, r1, q1, f1⟩ := pp1_s f0
    obtain ⟨qe, fe⟩ := pe_s f1
    obtain ⟨p, e1, e2⟩ := bnd_s fe
    subst qe
    subst q1
    subst q0
    exact ⟨_, _, _, _, 4, rfl, (by decide), m_X12_mostAhead N e1, e2⟩
  rcases kb_s e with ⟨rfl, e⟩ | e
  · obtain ⟨b0, r0, q0, f0⟩ := pr1_s e
    obtain ⟨b1, r1, q1, f1⟩ := pp1_s f0
    obtain ⟨b2, r2, q2, f2⟩ := pp1_s f1
    obtain ⟨b3, r3, q3, f3⟩ := pp1_s f2
    obtain ⟨qe, fe⟩ := pe_s f3
    obtain ⟨p, e1, e2⟩ := bnd_s fe
    subst qe
    subst q3
    subst q2
    subst q1
    subst q0
    exact ⟨_, _, _, _, 4, rfl, (by decide), m_X12_offAt N e1, e2⟩
  rcases kb_s e with ⟨rfl, e⟩ | e
  · obtain ⟨b0, r0, q0, f0⟩ := pr1_s e
    obtain ⟨b1, r1, q1, f1⟩ := pp1_s f0
    obtain ⟨b2, r2, q2, f2⟩ := pp1_s f1
    obtain ⟨b3, r3, q3, f3⟩ := pp1_s f2
    obtain ⟨b4, r4, q4, f4⟩ := pp1_s f3
    obtain ⟨b5, r5, q5, f5⟩ := pp1_s f4
    obtain ⟨qe, fe⟩ := pe_s f5
    obtain ⟨p, e1, e2⟩ := bnd_s fe
    subst qe
    subst q5
    subst q4
    subst q3
    subst q2
    subst q1
    subst q0
    exact ⟨_, _, _, _, 6, rfl, (by decide), m_X12_leastBy N e1, e2⟩
  rcases kb_s e with ⟨rfl, e⟩ | e
  · obtain ⟨b0, r0, q0, f0⟩ := pr1_s e
    obtain ⟨b1, r1, q1, f1⟩ := pp1_s f0
    obtain ⟨b2, r2, q2, f2⟩ := pp1_s f1
    obtain ⟨b3, r3, q3, f3⟩ := pp1_s f2
    obtain ⟨b4, r4, q4, f4⟩ := pp1_s f3
    obtain ⟨qe, fe⟩ := pe_s f4
    obtain ⟨p, e1, e2⟩ := bnd_s fe
    subst qe
    subst q4
    subst q3
    subst q2
    subst q1
    subst q0
    exact ⟨_, _, _, _, 5, rfl, (by decide), m_X12_offBy N e1, e2⟩
  rcases kb_s e with ⟨rfl, e⟩ | e
  · obtain ⟨b0, r0, q0, f0⟩ := pp1_s e
    obtain ⟨qe, fe⟩ := pe_s f0
    obtain ⟨p, e1, e2⟩ := bnd_s fe
    subst qe
    subst q0
    exact ⟨_, _, _, _, 4, rfl, (by decide), m_X12_atLeastOne N e1, e2⟩
  cases e
set_option maxRecDepth 100000 in
theorem t_X12_bowl_54 {X : Nat × (Nat → Int32)} (N : Nat) {q : Int32 × mH} {k44 : Nat → Int32 → Int32 → Int32 → Int32 → Int32 → mH → Option (Int32 × mH)} (hk44 : ∀ (a0 : Nat) (x1 : Int32) (x2 : Int32) (x3 : Int32) (x4 : Int32) (x5 : Int32) g, k44 a0 x1 x2 x3 x4 x5 g = some q → MW X y_X12_bowl 7 44 [(0, .ref a0), (1, .int x1), (2, .int x2), (3, .int x3), (4, .int x4), (5, .int x5)] [] g (some (.int q.1)) q.2) : ∀ (n : Nat) (a0 : Nat) (x1 : Int32) (x2 : Int32) (x3 : Int32) (x4 : Int32) (x5 : Int32) (x6 : Int32) (h : mH), L_X12_bowl_54 N k44 n a0 x1 x2 x3 x4 x5 x6 h = some q → MW X y_X12_bowl 7 54 [(0, .ref a0), (1, .int x1), (2, .int x2), (3, .int x3), (4, .int x4), (5, .int x5), (6, .int x6)] [] h (some (.int q.1)) q.2 := by
  intro n
  induction n with
  | zero => intro a0 x1 x2 x3 x4 x5 x6 h hf; cases hf
  | succ n ih =>
    intro a0 x1 x2 x3 x4 x5 x6 h hf
    refine ev_ok (o := 12) (ini := false) (Cl := C_X12_bowl N) (Rc := RcI) (B := B_X12_bowl) (K := fun pc ls st g => kb pc 44 (lgr 0 ls fun a0 => lgi 1 ls fun x1 => lgi 2 ls fun x2 => lgi 3 ls fun x3 => lgi 4 ls fun x4 => lgi 5 ls fun x5 => pe st (k44 a0 x1 x2 x3 x4 x5 g)) (kb pc 54 (lgr 0 ls fun a0 => lgi 1 ls fun x1 => lgi 2 ls fun x2 => lgi 3 ls fun x3 => lgi 4 ls fun x4 => lgi 5 ls fun x5 => lgi 6 ls fun x6 => pe st (L_X12_bowl_54 N k44 n a0 x1 x2 x3 x4 x5 x6 g)) (none))) rfl (fun e => by cases e) (by decide) (rcI_ok rfl) ?_ (co_X12_bowl N q) lb_X12_bowl 3000 54 S_X12_bowl_54 _ _ h ls_X12_bowl_54 hf
    intro pc ls st g e
    rcases kb_s e with ⟨rfl, e⟩ | e
    · obtain ⟨a0, e0, f0⟩ := lgr_s e
      obtain ⟨x1, e1, f1⟩ := lgi_s f0
      obtain ⟨x2, e2, f2⟩ := lgi_s f1
      obtain ⟨x3, e3, f3⟩ := lgi_s f2
      obtain ⟨x4, e4, f4⟩ := lgi_s f3
      obtain ⟨x5, e5, f5⟩ := lgi_s f4
      obtain ⟨qe, fe⟩ := pe_s f5
      subst qe
      exact MW.sub (List.forall_mem_cons.mpr ⟨lg_mem e0, List.forall_mem_cons.mpr ⟨lg_mem e1, List.forall_mem_cons.mpr ⟨lg_mem e2, List.forall_mem_cons.mpr ⟨lg_mem e3, List.forall_mem_cons.mpr ⟨lg_mem e4, List.forall_mem_cons.mpr ⟨lg_mem e5, fun _ h => absurd h List.not_mem_nil⟩⟩⟩⟩⟩⟩) (hk44 a0 x1 x2 x3 x4 x5 g fe)
    rcases kb_s e with ⟨rfl, e⟩ | e
    · obtain ⟨a0, e0, f0⟩ := lgr_s e
      obtain ⟨x1, e1, f1⟩ := lgi_s f0
      obtain ⟨x2, e2, f2⟩ := lgi_s f1
      obtain ⟨x3, e3, f3⟩ := lgi_s f2
      obtain ⟨x4, e4, f4⟩ := lgi_s f3
      obtain ⟨x5, e5, f5⟩ := lgi_s f4
      obtain ⟨x6, e6, f6⟩ := lgi_s f5
      obtain ⟨qe, fe⟩ := pe_s f6
      subst qe
      exact MW.sub (List.forall_mem_cons.mpr ⟨lg_mem e0, List.forall_mem_cons.mpr ⟨lg_mem e1, List.forall_mem_cons.mpr ⟨lg_mem e2, List.forall_mem_cons.mpr ⟨lg_mem e3, List.forall_mem_cons.mpr ⟨lg_mem e4, List.forall_mem_cons.mpr ⟨lg_mem e5, List.forall_mem_cons.mpr ⟨lg_mem e6, fun _ h => absurd h List.not_mem_nil⟩⟩⟩⟩⟩⟩⟩) (ih a0 x1 x2 x3 x4 x5 x6 g fe)
    cases e
set_option maxRecDepth 100000 in
theorem t_X12_bowl_44 {X : Nat × (Nat → Int32)} (N : Nat) {q : Int32 × mH} {k36 : Nat → Int32 → Int32 → Int32 → Int32 → mH → Option (Int32 × mH)} (hk36 : ∀ (a0 : Nat) (x1 : Int32) (x2 : Int32) (x3 : Int32) (x4 : Int32) g, k36 a0 x1 x2 x3 x4 g = some q → MW X y_X12_bowl 7 36 [(0, .ref a0), (1, .int x1), (2, .int x2), (3, .int x3), (4, .int x4)] [] g (some (.int q.1)) q.2) : ∀ (n : Nat) (a0 : Nat) (x1 : Int32) (x2 : Int32) (x3 : Int32) (x4 : Int32) (x5 : Int32) (h : mH), L_X12_bowl_44 N k36 n a0 x1 x2 x3 x4 x5 h = some q → MW X y_X12_bowl 7 44 [(0, .ref a0), (1, .int x1), (2, .int x2), (3, .int x3), (4, .int x4), (5, .int x5)] [] h (some (.int q.1)) q.2 := by
  intro n
  induction n with
  | zero => intro a0 x1 x2 x3 x4 x5 h hf; cases hf
  | succ n ih =>
    intro a0 x1 x2 x3 x4 x5 h hf
    refine ev_ok (o := 12) (ini := false) (Cl := C_X12_bowl N) (Rc := RcI) (B := B_X12_bowl) (K := fun pc ls st g => kb pc 36 (lgr 0 ls fun a0 => lgi 1 ls fun x1 => lgi 2 ls fun x2 => lgi 3 ls fun x3 => lgi 4 ls fun x4 => pe st (k36 a0 x1 x2 x3 x4 g)) (kb pc 54 (lgr 0 ls fun a0 => lgi 1 ls fun x1 => lgi 2 ls fun x2 => lgi 3 ls fun x3 => lgi 4 ls fun x4 => lgi 5 ls fun x5 => lgi 6 ls fun x6 => pe st (L_X12_bowl_54 N (L_X12_bowl_44 N k36 n) N a0 x1 x2 x3 x4 x5 x6 g)) (none))) rfl (fun e => by cases e) (by decide) (rcI_ok rfl) ?_ (co_X12_bowl N q) lb_X12_bowl 3000 44 S_X12_bowl_44 _ _ h ls_X12_bowl_44 hf
    intro pc ls st g e
    rcases kb_s e with ⟨rfl, e⟩ | e
    · obtain ⟨a0, e0, f0⟩ := lgr_s e
      obtain ⟨x1, e1, f1⟩ := lgi_s f0
      obtain ⟨x2, e2, f2⟩ := lgi_s f1
      obtain ⟨x3, e3, f3⟩ := lgi_s f2
      obtain ⟨x4, e4, f4⟩ := lgi_s f3
      obtain ⟨qe, fe⟩ := pe_s f4
      subst qe
      exact MW.sub (List.forall_mem_cons.mpr ⟨lg_mem e0, List.forall_mem_cons.mpr ⟨lg_mem e1, List.forall_mem_cons.mpr ⟨lg_mem e2, List.forall_mem_cons.mpr ⟨lg_mem e3, List.forall_mem_cons.mpr ⟨lg_mem e4, fun _ h => absurd h List.not_mem_nil⟩⟩⟩⟩⟩) (hk36 a0 x1 x2 x3 x4 g fe)
    rcases kb_s e with ⟨rfl, e⟩ | e
    · obtain ⟨a0, e0, f0⟩ := lgr_s e
      obtain ⟨x1, e1, f1⟩ := lgi_s f0
      obtain ⟨x2, e2, f2⟩ := lgi_s f1
      obtain ⟨x3, e3, f3⟩ := lgi_s f2
      obtain ⟨x4, e4, f4⟩ := lgi_s f3
      obtain ⟨x5, e5, f5⟩ := lgi_s f4
      obtain ⟨x6, e6, f6⟩ := lgi_s f5
      obtain ⟨qe, fe⟩ := pe_s f6
      subst qe
      exact MW.sub (List.forall_mem_cons.mpr ⟨lg_mem e0, List.forall_mem_cons.mpr ⟨lg_mem e1, List.forall_mem_cons.mpr ⟨lg_mem e2, List.forall_mem_cons.mpr ⟨lg_mem e3, List.forall_mem_cons.mpr ⟨lg_mem e4, List.forall_mem_cons.mpr ⟨lg_mem e5, List.forall_mem_cons.mpr ⟨lg_mem e6, fun _ h => absurd h List.not_mem_nil⟩⟩⟩⟩⟩⟩⟩) (t_X12_bowl_54 N (fun a0 x1 x2 x3 x4 x5 g e => ih a0 x1 x2 x3 x4 x5 g e) N a0 x1 x2 x3 x4 x5 x6 g fe)
    cases e
set_option maxRecDepth 100000 in
theorem t_X12_bowl_192 {X : Nat × (Nat → Int32)} (N : Nat) {q : Int32 × mH} {k152 : Nat → Int32 → Int32 → Int32 → Int32 → Int32 → Int32 → mH → Option (Int32 × mH)} {k169 : Nat → Int32 → Int32 → Int32 → Int32 → Int32 → Int32 → Int32 → Int32 → mH → Option (Int32 × mH)} (hk152 : ∀ (a0 : Nat) (x1 : Int32) (x2 : Int32) (x3 : Int32) (x5 : Int32) (x6 : Int32) (x7 : Int32) g, k152 a0 x1 x2 x3 x5 x6 x7 g = some q → MW X y_X12_bowl 7 152 [(0, .ref a0), (1, .int x1), (2, .int x2), (3, .int x3), (5, .int x5), (6, .int x6), (7, .int x7)] [] g (some (.int q.1)) q.2) (hk169 : ∀ (a0 : Nat) (x1 : Int32) (x2 : Int32) (x3 : Int32) (x5 : Int32) (x6 : Int32) (x7 : Int32) (x8 : Int32) (x9 : Int32) g, k169 a0 x1 x2 x3 x5 x6 x7 x8 x9 g = some q → MW X y_X12_bowl 7 169 [(0, .ref a0), (1, .int x1), (2, .int x2), (3, .int x3), (5, .int x5), (6, .int x6), (7, .int x7), (8, .int x8), (9, .int x9)] [] g (some (.int q.1)) q.2) (a0 : Nat) (x1 : Int32) (x2 : Int32) (x3 : Int32) (x5 : Int32) (x6 : Int32) (x7 : Int32) (x8 : Int32) (x9 : Int32) (h : mH) (hf : J_X12_bowl_192 N k152 k169 a0 x1 x2 x3 x5 x6 x7 x8 x9 h = some q) : MW X y_X12_bowl 7 192 [(0, .ref a0), (1, .int x1), (2, .int x2), (3, .int x3), (5, .int x5), (6, .int x6), (7, .int x7), (8, .int x8), (9, .int x9)] [] h (some (.int q.1)) q.2 := by
  refine ev_ok (o := 12) (ini := false) (Cl := C_X12_bowl N) (Rc := RcI) (B := B_X12_bowl) (K := fun pc ls st g => kb pc 152 (lgr 0 ls fun a0 => lgi 1 ls fun x1 => lgi 2 ls fun x2 => lgi 3 ls fun x3 => lgi 5 ls fun x5 => lgi 6 ls fun x6 => lgi 7 ls fun x7 => pe st (k152 a0 x1 x2 x3 x5 x6 x7 g)) (kb pc 169 (lgr 0 ls fun a0 => lgi 1 ls fun x1 => lgi 2 ls fun x2 => lgi 3 ls fun x3 => lgi 5 ls fun x5 => lgi 6 ls fun x6 => lgi 7 ls fun x7 => lgi 8 ls fun x8 => lgi 9 ls fun x9 => pe st (k169 a0 x1 x2 x3 x5 x6 x7 x8 x9 g)) (none))) rfl (fun e => by cases e) (by decide) (rcI_ok rfl) ?_ (co_X12_bowl N q) lb_X12_bowl 3000 192 S_X12_bowl_192 _ _ h ls_X12_bowl_192 hf
  intro pc ls st g e
  rcases kb_s e with ⟨rfl, e⟩ | e
  · obtain ⟨a0, e0, f0⟩ := lgr_s e
    obtain ⟨x1, e1, f1⟩ := lgi_s f0
    obtain ⟨x2, e2, f2⟩ := lgi_s f1
    obtain ⟨x3, e3, f3⟩ := lgi_s f2
    obtain ⟨x5, e4, f4⟩ := lgi_s f3
    obtain ⟨x6, e5, f5⟩ := lgi_s f4
    obtain ⟨x7, e6, f6⟩ := lgi_s f5
    obtain ⟨qe, fe⟩ := pe_s f6
    subst qe
    exact MW.sub (List.forall_mem_cons.mpr ⟨lg_mem e0, List.forall_mem_cons.mpr ⟨lg_mem e1, List.forall_mem_cons.mpr ⟨lg_mem e2, List.forall_mem_cons.mpr ⟨lg_mem e3, List.forall_mem_cons.mpr ⟨lg_mem e4, List.forall_mem_cons.mpr ⟨lg_mem e5, List.forall_mem_cons.mpr ⟨lg_mem e6, fun _ h => absurd h List.not_mem_nil⟩⟩⟩⟩⟩⟩⟩) (hk152 a0 x1 x2 x3 x5 x6 x7 g fe)
  rcases kb_s e with ⟨rfl, e⟩ | e
  · obtain ⟨a0, e0, f0⟩ := lgr_s e
    obtain ⟨x1, e1, f1⟩ := lgi_s f0
    obtain ⟨x2, e2, f2⟩ := lgi_s f1
    obtain ⟨x3, e3, f3⟩ := lgi_s f2
    obtain ⟨x5, e4, f4⟩ := lgi_s f3
    obtain ⟨x6, e5, f5⟩ := lgi_s f4
    obtain ⟨x7, e6, f6⟩ := lgi_s f5
    obtain ⟨x8, e7, f7⟩ := lgi_s f6
    obtain ⟨x9, e8, f8⟩ := lgi_s f7
    obtain ⟨qe, fe⟩ := pe_s f8
    subst qe
    exact MW.sub (List.forall_mem_cons.mpr ⟨lg_mem e0, List.forall_mem_cons.mpr ⟨lg_mem e1, List.forall_mem_cons.mpr ⟨lg_mem e2, List.forall_mem_cons.mpr ⟨lg_mem e3, List.forall_mem_cons.mpr ⟨lg_mem e4, List.forall_mem_cons.mpr ⟨lg_mem e5, List.forall_mem_cons.mpr ⟨lg_mem e6, List.forall_mem_cons.mpr ⟨lg_mem e7, List.forall_mem_cons.mpr ⟨lg_mem e8, fun _ h => absurd h List.not_mem_nil⟩⟩⟩⟩⟩⟩⟩⟩⟩) (hk169 a0 x1 x2 x3 x5 x6 x7 x8 x9 g fe)
  cases e
set_option maxRecDepth 100000 in
theorem t_X12_bowl_169 {X : Nat × (Nat → Int32)} (N : Nat) {q : Int32 × mH} {k152 : Nat → Int32 → Int32 → Int32 → Int32 → Int32 → Int32 → mH → Option (Int32 × mH)} (hk152 : ∀ (a0 : Nat) (x1 : Int32) (x2 : Int32) (x3 : Int32) (x5 : Int32) (x6 : Int32) (x7 : Int32) g, k152 a0 x1 x2 x3 x5 x6 x7 g = some q → MW X y_X12_bowl 7 152 [(0, .ref a0), (1, .int x1), (2, .int x2), (3, .int x3), (5, .int x5), (6, .int x6), (7, .int x7)] [] g (some (.int q.1)) q.2) : ∀ (n : Nat) (a0 : Nat) (x1 : Int32) (x2 : Int32) (x3 : Int32) (x5 : Int32) (x6 : Int32) (x7 : Int32) (x8 : Int32) (x9 : Int32) (h : mH), L_X12_bowl_169 N k152 n a0 x1 x2 x3 x5 x6 x7 x8 x9 h = some q → MW X y_X12_bowl 7 169 [(0, .ref a0), (1, .int x1), (2, .int x2), (3, .int x3), (5, .int x5), (6, .int x6), (7, .int x7), (8, .int x8), (9, .int x9)] [] h (some (.int q.1)) q.2 := by
  intro n
  induction n with
  | zero => intro a0 x1 x2 x3 x5 x6 x7 x8 x9 h hf; cases hf
  | succ n ih =>
    intro a0 x1 x2 x3 x5 x6 x7 x8 x9 h hf
    refine ev_ok (o := 12) (ini := false) (Cl := C_X12_bowl N) (Rc := RcI) (B := B_X12_bowl) (K := fun pc ls st g => kb pc 169 (lgr 0 ls fun a0 => lgi 1 ls fun x1 => lgi 2 ls fun x2 => lgi 3 ls fun x3 => lgi 5 ls fun x5 => lgi 6 ls fun x6 => lgi 7 ls fun x7 => lgi 8 ls fun x8 => lgi 9 ls fun x9 => pe st (L_X12_bowl_169 N k152 n a0 x1 x2 x3 x5 x6 x7 x8 x9 g)) (kb pc 192 (lgr 0 ls fun a0 => lgi 1 ls fun x1 => lgi 2 ls fun x2 => lgi 3 ls fun x3 => lgi 5 ls fun x5 => lgi 6 ls fun x6 => lgi 7 ls fun x7 => lgi 8 ls fun x8 => lgi 9 ls fun x9 => pe st (J_X12_bowl_192 N k152 (L_X12_bowl_169 N k152 n) a0 x1 x2 x3 x5 x6 x7 x8 x9 g)) (none))) rfl (fun e => by cases e) (by decide) (rcI_ok rfl) ?_ (co_X12_bowl N q) lb_X12_bowl 3000 169 S_X12_bowl_169 _ _ h ls_X12_bowl_169 hf
    intro pc ls st g e
    rcases kb_s e with ⟨rfl, e⟩ | e
    · obtain ⟨a0, e0, f0⟩ := lgr_s e
      obtain ⟨x1, e1, f1⟩ := lgi_s f0
      obtain ⟨x2, e2, f2⟩ := lgi_s f1
      obtain ⟨x3, e3, f3⟩ := lgi_s f2
      obtain ⟨x5, e4, f4⟩ := lgi_s f3
      obtain ⟨x6, e5, f5⟩ := lgi_s f4
      obtain ⟨x7, e6, f6⟩ := lgi_s f5
      obtain ⟨x8, e7, f7⟩ := lgi_s f6
      obtain ⟨x9, e8, f8⟩ := lgi_s f7
      obtain ⟨qe, fe⟩ := pe_s f8
      subst qe
      exact MW.sub (List.forall_mem_cons.mpr ⟨lg_mem e0, List.forall_mem_cons.mpr ⟨lg_mem e1, List.forall_mem_cons.mpr ⟨lg_mem e2, List.forall_mem_cons.mpr ⟨lg_mem e3, List.forall_mem_cons.mpr ⟨lg_mem e4, List.forall_mem_cons.mpr ⟨lg_mem e5, List.forall_mem_cons.mpr ⟨lg_mem e6, List.forall_mem_cons.mpr ⟨lg_mem e7, List.forall_mem_cons.mpr ⟨lg_mem e8, fun _ h => absurd h List.not_mem_nil⟩⟩⟩⟩⟩⟩⟩⟩⟩) (ih a0 x1 x2 x3 x5 x6 x7 x8 x9 g fe)
    rcases kb_s e with ⟨rfl, e⟩ | e
    · obtain ⟨a0, e0, f0⟩ := lgr_s e
      obtain ⟨x1, e1, f1⟩ := lgi_s f0
      obtain ⟨x2, e2, f2⟩ := lgi_s f1
      obtain ⟨x3, e3, f3⟩ := lgi_s f2
      obtain ⟨x5, e4, f4⟩ := lgi_s f3
      obtain ⟨x6, e5, f5⟩ := lgi_s f4
      obtain ⟨x7, e6, f6⟩ := lgi_s f5
      obtain ⟨x8, e7, f7⟩ := lgi_s f6
      obtain ⟨x9, e8, f8⟩ := lgi_s f7
      obtain ⟨qe, fe⟩ := pe_s f8
      subst qe
      exact MW.sub (List.forall_mem_cons.mpr ⟨lg_mem e0, List.forall_mem_cons.mpr ⟨lg_mem e1, List.forall_mem_cons.mpr ⟨lg_mem e2, List.forall_mem_cons.mpr ⟨lg_mem e3, List.forall_mem_cons.mpr ⟨lg_mem e4, List.forall_mem_cons.mpr ⟨lg_mem e5, List.forall_mem_cons.mpr ⟨lg_mem e6, List.forall_mem_cons.mpr ⟨lg_mem e7, List.forall_mem_cons.mpr ⟨lg_mem e8, fun _ h => absurd h List.not_mem_nil⟩⟩⟩⟩⟩⟩⟩⟩⟩) (t_X12_bowl_192 N hk152 (fun a0 x1 x2 x3 x5 x6 x7 x8 x9 g e => ih a0 x1 x2 x3 x5 x6 x7 x8 x9 g e) a0 x1 x2 x3 x5 x6 x7 x8 x9 g fe)
    cases e
set_option maxRecDepth 100000 in
theorem t_X12_bowl_152 {X : Nat × (Nat → Int32)} (N : Nat) {q : Int32 × mH} : ∀ (n : Nat) (a0 : Nat) (x1 : Int32) (x2 : Int32) (x3 : Int32) (x5 : Int32) (x6 : Int32) (x7 : Int32) (h : mH), L_X12_bowl_152 N n a0 x1 x2 x3 x5 x6 x7 h = some q → MW X y_X12_bowl 7 152 [(0, .ref a0), (1, .int x1), (2, .int x2), (3, .int x3), (5, .int x5), (6, .int x6), (7, .int x7)] [] h (some (.int q.1)) q.2 := by
  intro n
  induction n with
  | zero => intro a0 x1 x2 x3 x5 x6 x7 h hf; cases hf
  | succ n ih =>
    intro a0 x1 x2 x3 x5 x6 x7 h hf
    refine ev_ok (o := 12) (ini := false) (Cl := C_X12_bowl N) (Rc := RcI) (B := B_X12_bowl) (K := fun pc ls st g => kb pc 169 (lgr 0 ls fun a0 => lgi 1 ls fun x1 => lgi 2 ls fun x2 => lgi 3 ls fun x3 => lgi 5 ls fun x5 => lgi 6 ls fun x6 => lgi 7 ls fun x7 => lgi 8 ls fun x8 => lgi 9 ls fun x9 => pe st (L_X12_bowl_169 N (L_X12_bowl_152 N n) N a0 x1 x2 x3 x5 x6 x7 x8 x9 g)) (none)) rfl (fun e => by cases e) (by decide) (rcI_ok rfl) ?_ (co_X12_bowl N q) lb_X12_bowl 3000 152 S_X12_bowl_152 _ _ h ls_X12_bowl_152 hf
    intro pc ls st g e
    rcases kb_s e with ⟨rfl, e⟩ | e
    · obtain ⟨a0, e0, f0⟩ := lgr_s e
      obtain ⟨x1, e1, f1⟩ := lgi_s f0
      obtain ⟨x2, e2, f2⟩ := lgi_s f1
      obtain ⟨x3, e3, f3⟩ := lgi_s f2
      obtain ⟨x5, e4, f4⟩ := lgi_s f3
      obtain ⟨x6, e5, f5⟩ := lgi_s f4
      obtain ⟨x7, e6, f6⟩ := lgi_s f5
      obtain ⟨x8, e7, f7⟩ := lgi_s f6
      obtain ⟨x9, e8, f8⟩ := lgi_s f7
      obtain ⟨qe, fe⟩ := pe_s f8
      subst qe
      exact MW.sub (List.forall_mem_cons.mpr ⟨lg_mem e0, List.forall_mem_cons.mpr ⟨lg_mem e1, List.forall_mem_cons.mpr ⟨lg_mem e2, List.forall_mem_cons.mpr ⟨lg_mem e3, List.forall_mem_cons.mpr ⟨lg_mem e4, List.forall_mem_cons.mpr ⟨lg_mem e5, List.forall_mem_cons.mpr ⟨lg_mem e6, List.forall_mem_cons.mpr ⟨lg_mem e7, List.forall_mem_cons.mpr ⟨lg_mem e8, fun _ h => absurd h List.not_mem_nil⟩⟩⟩⟩⟩⟩⟩⟩⟩) (t_X12_bowl_169 N (fun a0 x1 x2 x3 x5 x6 x7 g e => ih a0 x1 x2 x3 x5 x6 x7 g e) N a0 x1 x2 x3 x5 x6 x7 x8 x9 g fe)
    cases e
set_option maxRecDepth 100000 in
theorem t_X12_bowl_36 {X : Nat × (Nat → Int32)} (N : Nat) {q : Int32 × mH} : ∀ (n : Nat) (a0 : Nat) (x1 : Int32) (x2 : Int32) (x3 : Int32) (x4 : Int32) (h : mH), L_X12_bowl_36 N n a0 x1 x2 x3 x4 h = some q → MW X y_X12_bowl 7 36 [(0, .ref a0), (1, .int x1), (2, .int x2), (3, .int x3), (4, .int x4)] [] h (some (.int q.1)) q.2 := by
  intro n
  induction n with
  | zero => intro a0 x1 x2 x3 x4 h hf; cases hf
  | succ n ih =>
    intro a0 x1 x2 x3 x4 h hf
    refine ev_ok (o := 12) (ini := false) (Cl := C_X12_bowl N) (Rc := RcI) (B := B_X12_bowl) (K := fun pc ls st g => kb pc 44 (lgr 0 ls fun a0 => lgi 1 ls fun x1 => lgi 2 ls fun x2 => lgi 3 ls fun x3 => lgi 4 ls fun x4 => lgi 5 ls fun x5 => pe st (L_X12_bowl_44 N (L_X12_bowl_36 N n) N a0 x1 x2 x3 x4 x5 g)) (kb pc 152 (lgr 0 ls fun a0 => lgi 1 ls fun x1 => lgi 2 ls fun x2 => lgi 3 ls fun x3 => lgi 5 ls fun x5 => lgi 6 ls fun x6 => lgi 7 ls fun x7 => pe st (L_X12_bowl_152 N N a0 x1 x2 x3 x5 x6 x7 g)) (none))) rfl (fun e => by cases e) (by decide) (rcI_ok rfl) ?_ (co_X12_bowl N q) lb_X12_bowl 3000 36 S_X12_bowl_36 _ _ h ls_X12_bowl_36 hf
    intro pc ls st g e
    rcases kb_s e with ⟨rfl, e⟩ | e
    · obtain ⟨a0, e0, f0⟩ := lgr_s e
      obtain ⟨x1, e1, f1⟩ := lgi_s f0
      obtain ⟨x2, e2, f2⟩ := lgi_s f1
      obtain ⟨x3, e3, f3⟩ := lgi_s f2
      obtain ⟨x4, e4, f4⟩ := lgi_s f3
      obtain ⟨x5, e5, f5⟩ := lgi_s f4
      obtain ⟨qe, fe⟩ := pe_s f5
      subst qe
      exact MW.sub (List.forall_mem_cons.mpr ⟨lg_mem e0, List.forall_mem_cons.mpr ⟨lg_mem e1, List.forall_mem_cons.mpr ⟨lg_mem e2, List.forall_mem_cons.mpr ⟨lg_mem e3, List.forall_mem_cons.mpr ⟨lg_mem e4, List.forall_mem_cons.mpr ⟨lg_mem e5, fun _ h => absurd h List.not_mem_nil⟩⟩⟩⟩⟩⟩) (t_X12_bowl_44 N (fun a0 x1 x2 x3 x4 g e => ih a0 x1 x2 x3 x4 g e) N a0 x1 x2 x3 x4 x5 g fe)
    rcases kb_s e with ⟨rfl, e⟩ | e
    · obtain ⟨a0, e0, f0⟩ := lgr_s e
      obtain ⟨x1, e1, f1⟩ := lgi_s f0
      obtain ⟨x2, e2, f2⟩ := lgi_s f1
      obtain ⟨x3, e3, f3⟩ := lgi_s f2
      obtain ⟨x5, e4, f4⟩ := lgi_s f3
      obtain ⟨x6, e5, f5⟩ := lgi_s f4
      obtain ⟨x7, e6, f6⟩ := lgi_s f5
      obtain ⟨qe, fe⟩ := pe_s f6
      subst qe
      exact MW.sub (List.forall_mem_cons.mpr ⟨lg_mem e0, List.forall_mem_cons.mpr ⟨lg_mem e1, List.forall_mem_cons.mpr ⟨lg_mem e2, List.forall_mem_cons.mpr ⟨lg_mem e3, List.forall_mem_cons.mpr ⟨lg_mem e4, List.forall_mem_cons.mpr ⟨lg_mem e5, List.forall_mem_cons.mpr ⟨lg_mem e6, fun _ h => absurd h List.not_mem_nil⟩⟩⟩⟩⟩⟩⟩) (t_X12_bowl_152 N N a0 x1 x2 x3 x5 x6 x7 g fe)
    cases e
set_option maxRecDepth 100000 in
theorem m_X12_bowl (N : Nat) {a0 : Nat} {x1 : Int32} {x2 : Int32} {x3 : Int32} {h : mH} {q : Int32 × mH} (hf : f_X12_bowl N a0 x1 x2 x3 h = some q) : MM y_X12_bowl 7 [.ref a0, .int x1, .int x2, .int x3] h (some (.int q.1)) q.2 := by
  refine MM.of (mFx (j := 326) rfl).2.2.2.1 (Nat.le_of_ble_eq_true rfl) (fun X => ?_)
  refine ev_ok (o := 12) (ini := false) (Cl := C_X12_bowl N) (Rc := RcI) (B := B_X12_bowl) (K := fun pc ls st g => kb pc 36 (lgr 0 ls fun a0 => lgi 1 ls fun x1 => lgi 2 ls fun x2 => lgi 3 ls fun x3 => lgi 4 ls fun x4 => pe st (L_X12_bowl_36 N N a0 x1 x2 x3 x4 g)) (none)) rfl (fun e => by cases e) (by decide) (rcI_ok rfl) ?_ (co_X12_bowl N q) lb_X12_bowl 3000 0 S_X12_bowl_0 _ _ h ls_X12_bowl_0 hf
  intro pc ls st g e
  rcases kb_s e with ⟨rfl, e⟩ | e
  · obtain ⟨a0, e0, f0⟩ := lgr_s e
    obtain ⟨x1, e1, f1⟩ := lgi_s f0
    obtain ⟨x2, e2, f2⟩ := lgi_s f1
    obtain ⟨x3, e3, f3⟩ := lgi_s f2
    obtain ⟨x4, e4, f4⟩ := lgi_s f3
    obtain ⟨qe, fe⟩ := pe_s f4
    subst qe
    exact MW.sub (List.forall_mem_cons.mpr ⟨lg_mem e0, List.forall_mem_cons.mpr ⟨lg_mem e1, List.forall_mem_cons.mpr ⟨lg_mem e2, List.forall_mem_cons.mpr ⟨lg_mem e3, List.forall_mem_cons.mpr ⟨lg_mem e4, fun _ h => absurd h List.not_mem_nil⟩⟩⟩⟩⟩) (t_X12_bowl_36 N N a0 x1 x2 x3 x4 g fe)
  cases e
def J_X12_wander_132 (N : Nat) (k60 : Nat → Int32 → Int32 → Int32 → Int32 → Int32 → Int32 → Int32 → mH → Option (Int32 × mH)) (a0 : Nat) (x2 : Int32) (x3 : Int32) (x4 : Int32) (x6 : Int32) (x7 : Int32) (x8 : Int32) (s_0 : Int32) (h : mH) : Option (Int32 × mH) :=
  if x6 < x4 then
    let w1 := iAdd x8 (jI 1)
    k60 a0 x2 x3 x4 s_0 x4 x7 w1 h
  else
    let w2 := iAdd x8 (jI 1)
    k60 a0 x2 x3 x4 s_0 x6 x7 w2 h
def L_X12_wander_60 (N : Nat) (k45 : Nat → Int32 → Int32 → Int32 → Int32 → Int32 → Int32 → mH → Option (Int32 × mH)) : Nat → Nat → Int32 → Int32 → Int32 → Int32 → Int32 → Int32 → Int32 → mH → Option (Int32 × mH)
  | 0, _, _, _, _, _, _, _, _, _ => none
  | n + 1, a0, x2, x3, x4, x5, x6, x7, x8, h =>
    (gR h 12 a0 2).bind fun v1 =>
    (ldI 0 h v1 (iAdd (jI 51) x7)).bind fun v2 =>
    if x8 < v2 then
      let w3 := iAdd (iMul (jI 1103515245) x3) (jI 12345)
      (gR h 12 a0 2).bind fun v4 =>
      (ldI 0 h v4 (iAdd (jI 75) x7)).bind fun v5 =>
      if (jI 3) = 0 then none else
      (f_X12_atLeastOne N (iSub (iAdd (iAdd x4 v5) (iRem (iUsr w3 (jI 16)) (jI 3))) (jI 1)) h).bind fun p6 =>
      if x5 = (jI (-1)) then
        J_X12_wander_132 N (L_X12_wander_60 N k45 n) a0 x2 w3 p6.1 x6 x7 x8 p6.1 p6.2
      else
        if p6.1 < x5 then
          J_X12_wander_132 N (L_X12_wander_60 N k45 n) a0 x2 w3 p6.1 x6 x7 x8 p6.1 p6.2
        else
          J_X12_wander_132 N (L_X12_wander_60 N k45 n) a0 x2 w3 p6.1 x6 x7 x8 x5 p6.2
    else
      let w7 := iAdd x7 (jI 1)
      k45 a0 x2 x3 x4 x5 x6 w7 h
def L_X12_wander_45 (N : Nat) : Nat → Nat → Int32 → Int32 → Int32 → Int32 → Int32 → Int32 → mH → Option (Int32 × mH)
  | 0, _, _, _, _, _, _, _, _ => none
  | n + 1, a0, x2, x3, x4, x5, x6, x7, h =>
    (gR h 12 a0 2).bind fun v1 =>
    (ldI 0 h v1 (jI 26)).bind fun v2 =>
    if x7 < v2 then
      L_X12_wander_60 N (L_X12_wander_45 N n) N a0 x2 x3 x4 x5 x6 x7 (jI 0) h
    else
      if x5 = (jI (-1)) then
        some (x4, h)
      else
        if x2 = 0 then
          some (x4, h)
        else
          if x2 = (jI 1) then
            some (x5, h)
          else
            some (x6, h)
def f_X12_wander (N : Nat) (a0 : Nat) (x1 : Int32) (x2 : Int32) (h : mH) : Option (Int32 × mH) :=
  (pV h 12 a0 0 (.int (jI 0))).bind fun h1 =>
  (f_X12_within N x2.toInt64 (jL 0) (jL 2) h1).bind fun p2 =>
  if p2.1 = 0 then
    (rcv p2.2 12 a0).bind fun _ =>
    (f_X12_no N a0 (jI (-2)) p2.2).bind fun p3 =>
    some (p3.1, p3.2)
  else
    (gR p2.2 12 a0 2).bind fun v4 =>
    (ldI 0 p2.2 v4 (jI 141)).bind fun v5 =>
    L_X12_wander_45 N N a0 x2 x1 v5 (jI (-1)) (jI (-1)) (jI 0) p2.2
def y_X12_wander : mM := (yX12_wander, cX12_wander, 9, (some .int))
def B_X12_wander : List (Nat × List mI) := [(24, [(.iload_n 1, 1, [1], []), (.istore_n 3, 1, [3], []), (.aload_n 0, 1, [0], []), (.getfield 17, 3, [12, 2, 2, 128], []), (.sipush 141, 3, [], [141]), (.iaload, 1, [0], []), (.istore 4, 2, [4], []), (.iconst (-1), 1, [], [-1]), (.istore 5, 2, [5], []), (.iconst (-1), 1, [], [-1]), (.istore 6, 2, [6], []), (.iconst 0, 1, [], [0]), (.istore 7, 2, [7], [])]), (125, [(.iload 4, 2, [4], []), (.goto 5, 3, [132], [])]), (130, [(.iload 5, 2, [5], [])]), (146, [(.iload 6, 2, [6], [])]), (148, [(.istore 6, 2, [6], []), (.iinc 8 1, 3, [8], [1]), (.goto (-93), 3, [60], [])]), (156, [(.iinc 7 1, 3, [7], [1]), (.goto (-114), 3, [45], [])]), (162, [(.iload 5, 2, [5], []), (.iconst (-1), 1, [], [-1]), (.if_icmp .ne 6, 3, [171], []), (.iload 4, 2, [4], []), (.ireturn, 1, [], [])]), (171, [(.iload_n 2, 1, [2], []), (.ifCond .ne 8, 3, [180], []), (.iload 4, 2, [4], []), (.goto 15, 3, [192], [])]), (180, [(.iload_n 2, 1, [2], []), (.iconst 1, 1, [], [1]), (.if_icmp .ne 8, 3, [190], []), (.iload 5, 2, [5], []), (.goto 5, 3, [192], [])]), (190, [(.iload 6, 2, [6], [])]), (192, [(.ireturn, 1, [], [])])]
def S_X12_wander_0 : List mI := [(.aload_n 0, 1, [0], []), (.iconst 0, 1, [], [0]), (.putfield 1, 3, [12, 0, 0, 126], []), (.iload_n 2, 1, [2], []), (.i2l, 1, [], []), (.lconst 0, 1, [], [0]), (.ldc2_w 245, 3, [11], [2]), (.invokestatic 147, 3, [1, 225, 3, 0, 269], []), (.ifCond .ne 10, 3, [24], []), (.aload_n 0, 1, [0], []), (.bipush (-2), 2, [], [-2]), (.invokevirtual 84, 3, [0, 224, 1, 12, 267], []), (.ireturn, 1, [], [])]
def S_X12_wander_45 : List mI := [(.iload 7, 2, [7], []), (.aload_n 0, 1, [0], []), (.getfield 17, 3, [12, 2, 2, 128], []), (.bipush 26, 2, [], [26]), (.iaload, 1, [0], []), (.if_icmp .ge 108, 3, [162], []), (.iconst 0, 1, [], [0]), (.istore 8, 2, [8], [])]
def S_X12_wander_60 : List mI := [(.iload 8, 2, [8], []), (.aload_n 0, 1, [0], []), (.getfield 17, 3, [12, 2, 2, 128], []), (.bipush 51, 2, [], [51]), (.iload 7, 2, [7], []), (.iadd, 1, [], []), (.iaload, 1, [0], []), (.if_icmp .ge 84, 3, [156], []), (.ldc_w 260, 3, [10], [1103515245]), (.iload_n 3, 1, [3], []), (.imul, 1, [], []), (.sipush 12345, 3, [], [12345]), (.iadd, 1, [], []), (.istore_n 3, 1, [3], []), (.iload 4, 2, [4], []), (.aload_n 0, 1, [0], []), (.getfield 17, 3, [12, 2, 2, 128], []), (.bipush 75, 2, [], [75]), (.iload 7, 2, [7], []), (.iadd, 1, [], []), (.iaload, 1, [0], []), (.iadd, 1, [], []), (.iload_n 3, 1, [3], []), (.bipush 16, 2, [], [16]), (.iushr, 1, [], []), (.iconst 3, 1, [], [3]), (.irem, 1, [], []), (.iadd, 1, [], []), (.iconst 1, 1, [], [1]), (.isub, 1, [], []), (.invokestatic 343, 3, [1, 319, 1, 0, 360], []), (.istore 4, 2, [4], []), (.iload 5, 2, [5], []), (.iconst (-1), 1, [], [-1]), (.if_icmp .eq 10, 3, [125], []), (.iload 4, 2, [4], []), (.iload 5, 2, [5], []), (.if_icmp .ge 8, 3, [130], [])]
def S_X12_wander_132 : List mI := [(.istore 5, 2, [5], []), (.iload 4, 2, [4], []), (.iload 6, 2, [6], []), (.if_icmp .le 8, 3, [146], []), (.iload 4, 2, [4], []), (.goto 5, 3, [148], [])]
theorem lb_X12_wander : B_X12_wander.all (fun b => lst y_X12_wander.2.1 12 y_X12_wander.2.2.1 false b.1 b.2) = true := by decide +kernel
theorem ls_X12_wander_0 : lst y_X12_wander.2.1 12 y_X12_wander.2.2.1 false 0 S_X12_wander_0 = true := by decide +kernel
theorem ls_X12_wander_45 : lst y_X12_wander.2.1 12 y_X12_wander.2.2.1 false 45 S_X12_wander_45 = true := by decide +kernel
theorem ls_X12_wander_60 : lst y_X12_wander.2.1 12 y_X12_wander.2.2.1 false 60 S_X12_wander_60 = true := by decide +kernel
theorem ls_X12_wander_132 : lst y_X12_wander.2.1 12 y_X12_wander.2.2.1 false 132 S_X12_wander_132 = true := by decide +kernel
def C_X12_wander (N : Nat) : Nat → List Value → mH → (Option Value → mH → Option (Int32 × mH)) → Option (Int32 × mH) := fun j as g k => kb j 225 (pl1 as fun b0 as => pl1 as fun b1 as => pl1 as fun b2 as => pe as ((f_X12_within N b0 b1 b2 g).bind fun p => k (some (.int p.1)) p.2)) (kb j 224 (pr1 as fun b0 as => pp1 as fun b1 as => pe as ((f_X12_no N b0 b1 g).bind fun p => k (some (.int p.1)) p.2)) (kb j 319 (pp1 as fun b0 as => pe as ((f_X12_atLeastOne N b0 g).bind fun p => k (some (.int p.1)) p.2)) (none)))
theorem co_X12_wander (N : Nat) (q : Int32 × mH) : clOK 5 q (C_X12_wander N) := by
  intro j as g k e
  rcases kb_s e with ⟨rfl, e⟩ | e
  · obtain ⟨b0, r0, q0, f0⟩ := pl1_s e
    obtain ⟨b1, r1, q1, f1⟩ := pl1_s f0
    obtain ⟨b2, r2, q2, f2⟩ := pl1_s f1
    obtain ⟨qe, fe⟩ := pe_s f2
    obtain ⟨p, e1, e2⟩ := bnd_s fe
    subst qe
    subst q2
    subst q1
    subst q0
    exact ⟨_, _, _, _, 4, rfl, (by decide), m_X12_within N e1, e2⟩
  rcases kb_s e with ⟨rfl, e⟩ | e
  · obtain ⟨b0, r0, q0, f0⟩ := pr1_s e
    obtain ⟨b1, r1, q1, f1⟩ := pp1_s f0
    obtain ⟨qe, fe⟩ := pe_s f1
    obtain ⟨p, e1, e2⟩ := bnd_s fe
    subst qe
    subst q1
    subst q0
    exact ⟨_, _, _, _, 4, rfl, (by decide), m_X12_no N e1, e2⟩
  rcases kb_s e with ⟨rfl, e⟩ | e
  · obtain ⟨b0, r0, q0, f0⟩ := pp1_s e
    obtain ⟨qe, fe⟩ := pe_s f0
    obtain ⟨p, e1, e2⟩ := bnd_s fe
    subst qe
    subst q0
    exact ⟨_, _, _, _, 4, rfl, (by decide), m_X12_atLeastOne N e1, e2⟩
  cases e
set_option maxRecDepth 100000 in
theorem t_X12_wander_132 {X : Nat × (Nat → Int32)} (N : Nat) {q : Int32 × mH} {k60 : Nat → Int32 → Int32 → Int32 → Int32 → Int32 → Int32 → Int32 → mH → Option (Int32 × mH)} (hk60 : ∀ (a0 : Nat) (x2 : Int32) (x3 : Int32) (x4 : Int32) (x5 : Int32) (x6 : Int32) (x7 : Int32) (x8 : Int32) g, k60 a0 x2 x3 x4 x5 x6 x7 x8 g = some q → MW X y_X12_wander 5 60 [(0, .ref a0), (2, .int x2), (3, .int x3), (4, .int x4), (5, .int x5), (6, .int x6), (7, .int x7), (8, .int x8)] [] g (some (.int q.1)) q.2) (a0 : Nat) (x2 : Int32) (x3 : Int32) (x4 : Int32) (x6 : Int32) (x7 : Int32) (x8 : Int32) (s_0 : Int32) (h : mH) (hf : J_X12_wander_132 N k60 a0 x2 x3 x4 x6 x7 x8 s_0 h = some q) : MW X y_X12_wander 5 132 [(0, .ref a0), (2, .int x2), (3, .int x3), (4, .int x4), (6, .int x6), (7, .int x7), (8, .int x8)] [.int s_0] h (some (.int q.1)) q.2 := by
  refine ev_ok (o := 12) (ini := false) (Cl := C_X12_wander N) (Rc := RcI) (B := B_X12_wander) (K := fun pc ls st g => kb pc 60 (lgr 0 ls fun a0 => lgi 2 ls fun x2 => lgi 3 ls fun x3 => lgi 4 ls fun x4 => lgi 5 ls fun x5 => lgi 6 ls fun x6 => lgi 7 ls fun x7 => lgi 8 ls fun x8 => pe st (k60 a0 x2 x3 x4 x5 x6 x7 x8 g)) (none)) rfl (fun e => by cases e) (by decide) (rcI_ok rfl) ?_ (co_X12_wander N q) lb_X12_wander 3000 132 S_X12_wander_132 _ _ h ls_X12_wander_132 hf
  intro pc ls st g e
  rcases kb_s e with ⟨rfl, e⟩ | e
  · obtain ⟨a0, e0, f0⟩ := lgr_s e
    obtain ⟨x2, e1, f1⟩ := lgi_s f0
    obtain ⟨x3, e2, f2⟩ := lgi_s f1
    obtain ⟨x4, e3, f3⟩ := lgi_s f2
    obtain ⟨x5, e4, f4⟩ := lgi_s f3
    obtain ⟨x6, e5, f5⟩ := lgi_s f4
    obtain ⟨x7, e6, f6⟩ := lgi_s f5
    obtain ⟨x8, e7, f7⟩ := lgi_s f6
    obtain ⟨qe, fe⟩ := pe_s f7
    subst qe
    exact MW.sub (List.forall_mem_cons.mpr ⟨lg_mem e0, List.forall_mem_cons.mpr ⟨lg_mem e1, List.forall_mem_cons.mpr ⟨lg_mem e2, List.forall_mem_cons.mpr ⟨lg_mem e3, List.forall_mem_cons.mpr ⟨lg_mem e4, List.forall_mem_cons.mpr ⟨lg_mem e5, List.forall_mem_cons.mpr ⟨lg_mem e6, List.forall_mem_cons.mpr ⟨lg_mem e7, fun _ h => absurd h List.not_mem_nil⟩⟩⟩⟩⟩⟩⟩⟩) (hk60 a0 x2 x3 x4 x5 x6 x7 x8 g fe)
  cases e
set_option maxRecDepth 100000 in
theorem t_X12_wander_60 {X : Nat × (Nat → Int32)} (N : Nat) {q : Int32 × mH} {k45 : Nat → Int32 → Int32 → Int32 → Int32 → Int32 → Int32 → mH → Option (Int32 × mH)} (hk45 : ∀ (a0 : Nat) (x2 : Int32) (x3 : Int32) (x4 : Int32) (x5 : Int32) (x6 : Int32) (x7 : Int32) g, k45 a0 x2 x3 x4 x5 x6 x7 g = some q → MW X y_X12_wander 5 45 [(0, .ref a0), (2, .int x2), (3, .int x3), (4, .int x4), (5, .int x5), (6, .int x6), (7, .int x7)] [] g (some (.int q.1)) q.2) : ∀ (n : Nat) (a0 : Nat) (x2 : Int32) (x3 : Int32) (x4 : Int32) (x5 : Int32) (x6 : Int32) (x7 : Int32) (x8 : Int32) (h : mH), L_X12_wander_60 N k45 n a0 x2 x3 x4 x5 x6 x7 x8 h = some q → MW X y_X12_wander 5 60 [(0, .ref a0), (2, .int x2), (3, .int x3), (4, .int x4), (5, .int x5), (6, .int x6), (7, .int x7), (8, .int x8)] [] h (some (.int q.1)) q.2 := by
  intro n
  induction n with
  | zero => intro a0 x2 x3 x4 x5 x6 x7 x8 h hf; cases hf
  | succ n ih =>
    intro a0 x2 x3 x4 x5 x6 x7 x8 h hf
    refine ev_ok (o := 12) (ini := false) (Cl := C_X12_wander N) (Rc := RcI) (B := B_X12_wander) (K := fun pc ls st g => kb pc 45 (lgr 0 ls fun a0 => lgi 2 ls fun x2 => lgi 3 ls fun x3 => lgi 4 ls fun x4 => lgi 5 ls fun x5 => lgi 6 ls fun x6 => lgi 7 ls fun x7 => pe st (k45 a0 x2 x3 x4 x5 x6 x7 g)) (kb pc 132 (lgr 0 ls fun a0 => lgi 2 ls fun x2 => lgi 3 ls fun x3 => lgi 4 ls fun x4 => lgi 6 ls fun x6 => lgi 7 ls fun x7 => lgi 8 ls fun x8 => pp1 st fun s_0 st => pe st (J_X12_wander_132 N (L_X12_wander_60 N k45 n) a0 x2 x3 x4 x6 x7 x8 s_0 g)) (none))) rfl (fun e => by cases e) (by decide) (rcI_ok rfl) ?_ (co_X12_wander N q) lb_X12_wander 3000 60 S_X12_wander_60 _ _ h ls_X12_wander_60 hf
    intro pc ls st g e
    rcases kb_s e with ⟨rfl, e⟩ | e
    · obtain ⟨a0, e0, f0⟩ := lgr_s e
      obtain ⟨x2, e1, f1⟩ := lgi_s f0
      obtain ⟨x3, e2, f2⟩ := lgi_s f1
      obtain ⟨x4, e3, f3⟩ := lgi_s f2
      obtain ⟨x5, e4, f4⟩ := lgi_s f3
      obtain ⟨x6, e5, f5⟩ := lgi_s f4
      obtain ⟨x7, e6, f6⟩ := lgi_s f5
      obtain ⟨qe, fe⟩ := pe_s f6
      subst qe
      exact MW.sub (List.forall_mem_cons.mpr ⟨lg_mem e0, List.forall_mem_cons.mpr ⟨lg_mem e1, List.forall_mem_cons.mpr ⟨lg_mem e2, List.forall_mem_cons.mpr ⟨lg_mem e3, List.forall_mem_cons.mpr ⟨lg_mem e4, List.forall_mem_cons.mpr ⟨lg_mem e5, List.forall_mem_cons.mpr ⟨lg_mem e6, fun _ h => absurd h List.not_mem_nil⟩⟩⟩⟩⟩⟩⟩) (hk45 a0 x2 x3 x4 x5 x6 x7 g fe)
    rcases kb_s e with ⟨rfl, e⟩ | e
    · obtain ⟨a0, e0, f0⟩ := lgr_s e
      obtain ⟨x2, e1, f1⟩ := lgi_s f0
      obtain ⟨x3, e2, f2⟩ := lgi_s f1
      obtain ⟨x4, e3, f3⟩ := lgi_s f2
      obtain ⟨x6, e4, f4⟩ := lgi_s f3
      obtain ⟨x7, e5, f5⟩ := lgi_s f4
      obtain ⟨x8, e6, f6⟩ := lgi_s f5
      obtain ⟨s_0, r0, q0, g0⟩ := pp1_s f6
      obtain ⟨qe, fe⟩ := pe_s g0
      subst qe
      subst q0
      exact MW.sub (List.forall_mem_cons.mpr ⟨lg_mem e0, List.forall_mem_cons.mpr ⟨lg_mem e1, List.forall_mem_cons.mpr ⟨lg_mem e2, List.forall_mem_cons.mpr ⟨lg_mem e3, List.forall_mem_cons.mpr ⟨lg_mem e4, List.forall_mem_cons.mpr ⟨lg_mem e5, List.forall_mem_cons.mpr ⟨lg_mem e6, fun _ h => absurd h List.not_mem_nil⟩⟩⟩⟩⟩⟩⟩) (t_X12_wander_132 N (fun a0 x2 x3 x4 x5 x6 x7 x8 g e => ih a0 x2 x3 x4 x5 x6 x7 x8 g e) a0 x2 x3 x4 x6 x7 x8 s_0 g fe)
    cases e
set_option maxRecDepth 100000 in
theorem t_X12_wander_45 {X : Nat × (Nat → Int32)} (N : Nat) {q : Int32 × mH} : ∀ (n : Nat) (a0 : Nat) (x2 : Int32) (x3 : Int32) (x4 : Int32) (x5 : Int32) (x6 : Int32) (x7 : Int32) (h : mH), L_X12_wander_45 N n a0 x2 x3 x4 x5 x6 x7 h = some q → MW X y_X12_wander 5 45 [(0, .ref a0), (2, .int x2), (3, .int x3), (4, .int x4), (5, .int x5), (6, .int x6), (7, .int x7)] [] h (some (.int q.1)) q.2 := by
  intro n
  induction n with
  | zero => intro a0 x2 x3 x4 x5 x6 x7 h hf; cases hf
  | succ n ih =>
    intro a0 x2 x3 x4 x5 x6 x7 h hf
    refine ev_ok (o := 12) (ini := false) (Cl := C_X12_wander N) (Rc := RcI) (B := B_X12_wander) (K := fun pc ls st g => kb pc 60 (lgr 0 ls fun a0 => lgi 2 ls fun x2 => lgi 3 ls fun x3 => lgi 4 ls fun x4 => lgi 5 ls fun x5 => lgi 6 ls fun x6 => lgi 7 ls fun x7 => lgi 8 ls fun x8 => pe st (L_X12_wander_60 N (L_X12_wander_45 N n) N a0 x2 x3 x4 x5 x6 x7 x8 g)) (none)) rfl (fun e => by cases e) (by decide) (rcI_ok rfl) ?_ (co_X12_wander N q) lb_X12_wander 3000 45 S_X12_wander_45 _ _ h ls_X12_wander_45 hf
    intro pc ls st g e
    rcases kb_s e with ⟨rfl, e⟩ | e
    · obtain ⟨a0, e0, f0⟩ := lgr_s e
      obtain ⟨x2, e1, f1⟩ := lgi_s f0
      obtain ⟨x3, e2, f2⟩ := lgi_s f1
      obtain ⟨x4, e3, f3⟩ := lgi_s f2
      obtain ⟨x5, e4, f4⟩ := lgi_s f3
      obtain ⟨x6, e5, f5⟩ := lgi_s f4
      obtain ⟨x7, e6, f6⟩ := lgi_s f5
      obtain ⟨x8, e7, f7⟩ := lgi_s f6
      obtain ⟨qe, fe⟩ := pe_s f7
      subst qe
      exact MW.sub (List.forall_mem_cons.mpr ⟨lg_mem e0, List.forall_mem_cons.mpr ⟨lg_mem e1, List.forall_mem_cons.mpr ⟨lg_mem e2, List.forall_mem_cons.mpr ⟨lg_mem e3, List.forall_mem_cons.mpr ⟨lg_mem e4, List.forall_mem_cons.mpr ⟨lg_mem e5, List.forall_mem_cons.mpr ⟨lg_mem e6, List.forall_mem_cons.mpr ⟨lg_mem e7, fun _ h => absurd h List.not_mem_nil⟩⟩⟩⟩⟩⟩⟩⟩) (t_X12_wander_60 N (fun a0 x2 x3 x4 x5 x6 x7 g e => ih a0 x2 x3 x4 x5 x6 x7 g e) N a0 x2 x3 x4 x5 x6 x7 x8 g fe)
    cases e
set_option maxRecDepth 100000 in
theorem m_X12_wander (N : Nat) {a0 : Nat} {x1 : Int32} {x2 : Int32} {h : mH} {q : Int32 × mH} (hf : f_X12_wander N a0 x1 x2 h = some q) : MM y_X12_wander 5 [.ref a0, .int x1, .int x2] h (some (.int q.1)) q.2 := by
  refine MM.of (mFx (j := 327) rfl).2.2.2.1 (Nat.le_of_ble_eq_true rfl) (fun X => ?_)
  refine ev_ok (o := 12) (ini := false) (Cl := C_X12_wander N) (Rc := RcI) (B := B_X12_wander) (K := fun pc ls st g => kb pc 45 (lgr 0 ls fun a0 => lgi 2 ls fun x2 => lgi 3 ls fun x3 => lgi 4 ls fun x4 => lgi 5 ls fun x5 => lgi 6 ls fun x6 => lgi 7 ls fun x7 => pe st (L_X12_wander_45 N N a0 x2 x3 x4 x5 x6 x7 g)) (none)) rfl (fun e => by cases e) (by decide) (rcI_ok rfl) ?_ (co_X12_wander N q) lb_X12_wander 3000 0 S_X12_wander_0 _ _ h ls_X12_wander_0 hf
  intro pc ls st g e
  rcases kb_s e with ⟨rfl, e⟩ | e
  · obtain ⟨a0, e0, f0⟩ := lgr_s e
    obtain ⟨x2, e1, f1⟩ := lgi_s f0
    obtain ⟨x3, e2, f2⟩ := lgi_s f1
    obtain ⟨x4, e3, f3⟩ := lgi_s f2
    obtain ⟨x5, e4, f4⟩ := lgi_s f3
    obtain ⟨x6, e5, f5⟩ := lgi_s f4
    obtain ⟨x7, e6, f6⟩ := lgi_s f5
    obtain ⟨qe, fe⟩ := pe_s f6
    subst qe
    exact MW.sub (List.forall_mem_cons.mpr ⟨lg_mem e0, List.forall_mem_cons.mpr ⟨lg_mem e1, List.forall_mem_cons.mpr ⟨lg_mem e2, List.forall_mem_cons.mpr ⟨lg_mem e3, List.forall_mem_cons.mpr ⟨lg_mem e4, List.forall_mem_cons.mpr ⟨lg_mem e5, List.forall_mem_cons.mpr ⟨lg_mem e6, fun _ h => absurd h List.not_mem_nil⟩⟩⟩⟩⟩⟩⟩) (t_X12_wander_45 N N a0 x2 x3 x4 x5 x6 x7 g fe)
  cases e
def L_X12_closesBy_5 (N : Nat) : Nat → Nat → Int32 → Int64 → Int32 → mH → Option (Int32 × mH)
  | 0, _, _, _, _, _ => none
  | n + 1, a0, x1, l2, x4, h =>
    (gR h 12 a0 2).bind fun v1 =>
    (ldI 0 h v1 (jI 0)).bind fun v2 =>
    if x4 < v2 then
      (gR h 12 a0 32).bind fun v3 =>
      if x1 = 0 then none else
      (ldI 0 h v3 (iRem x4 x1)).bind fun v4 =>
      (gR h 12 a0 2).bind fun v5 =>
      (ldI 0 h v5 (jI 0)).bind fun v6 =>
      if v6 = 0 then none else
      let w7 := iRem (iAdd x4 v4) v6
      if (lAnd (lShr l2 w7) (jL 1)) = (jL 1) then
        some (jI 0, h)
      else
        let w8 := lOr l2 (lShl (jL 1) w7)
        let w9 := iAdd x4 (jI 1)
        L_X12_closesBy_5 N n a0 x1 w8 w9 h
    else
      some (jI 1, h)
def f_X12_closesBy (N : Nat) (a0 : Nat) (x1 : Int32) (h : mH) : Option (Int32 × mH) :=
  L_X12_closesBy_5 N N a0 x1 (jL 0) (jI 0) h
def y_X12_closesBy : mM := (yX12_closesBy, cX12_closesBy, 6, (some .boolean))
def B_X12_closesBy : List (Nat × List mI) := [(50, [(.lload_n 2, 1, [2], []), (.lconst 1, 1, [], [1]), (.iload 5, 2, [5], []), (.lshl, 1, [], []), (.lor, 1, [], []), (.lstore_n 2, 1, [2], []), (.iinc 4 1, 3, [4], [1]), (.goto (-55), 3, [5], [])]), (63, [(.iconst 1, 1, [], [1]), (.ireturn, 1, [], [])])]
def S_X12_closesBy_0 : List mI := [(.lconst 0, 1, [], [0]), (.lstore_n 2, 1, [2], []), (.iconst 0, 1, [], [0]), (.istore 4, 2, [4], [])]
def S_X12_closesBy_5 : List mI := [(.iload 4, 2, [4], []), (.aload_n 0, 1, [0], []), (.getfield 17, 3, [12, 2, 2, 128], []), (.iconst 0, 1, [], [0]), (.iaload, 1, [0], []), (.if_icmp .ge 50, 3, [63], []), (.iload 4, 2, [4], []), (.aload_n 0, 1, [0], []), (.getfield 62, 3, [12, 32, 2, 158], []), (.iload 4, 2, [4], []), (.iload_n 1, 1, [1], []), (.irem, 1, [], []), (.iaload, 1, [0], []), (.iadd, 1, [], []), (.aload_n 0, 1, [0], []), (.getfield 17, 3, [12, 2, 2, 128], []), (.iconst 0, 1, [], [0]), (.iaload, 1, [0], []), (.irem, 1, [], []), (.istore 5, 2, [5], []), (.lload_n 2, 1, [2], []), (.iload 5, 2, [5], []), (.lshr, 1, [], []), (.lconst 1, 1, [], [1]), (.land, 1, [], []), (.lconst 1, 1, [], [1]), (.lcmp, 1, [], []), (.ifCond .ne 5, 3, [50], []), (.iconst 0, 1, [], [0]), (.ireturn, 1, [], [])]
theorem lb_X12_closesBy : B_X12_closesBy.all (fun b => lst y_X12_closesBy.2.1 12 y_X12_closesBy.2.2.1 false b.1 b.2) = true := by decide +kernel
theorem ls_X12_closesBy_0 : lst y_X12_closesBy.2.1 12 y_X12_closesBy.2.2.1 false 0 S_X12_closesBy_0 = true := by decide +kernel
theorem ls_X12_closesBy_5 : lst y_X12_closesBy.2.1 12 y_X12_closesBy.2.2.1 false 5 S_X12_closesBy_5 = true := by decide +kernel
def C_X12_closesBy (N : Nat) : Nat → List Value → mH → (Option Value → mH → Option (Int32 × mH)) → Option (Int32 × mH) := fun j as g k => none
theorem co_X12_closesBy (N : Nat) (q : Int32 × mH) : clOK 4 q (C_X12_closesBy N) := by
  intro j as g k e
  cases e
set_option maxRecDepth 100000 in
theorem t_X12_closesBy_5 {X : Nat × (Nat → Int32)} (N : Nat) {q : Int32 × mH} : ∀ (n : Nat) (a0 : Nat) (x1 : Int32) (l2 : Int64) (x4 : Int32) (h : mH), L_X12_closesBy_5 N n a0 x1 l2 x4 h = some q → MW X y_X12_closesBy 4 5 [(0, .ref a0), (1, .int x1), (2, .long l2), (4, .int x4)] [] h (some (.int q.1)) q.2 := by
  intro n
  induction n with
  | zero => intro a0 x1 l2 x4 h hf; cases hf
  | succ n ih =>
    intro a0 x1 l2 x4 h hf
    refine ev_ok (o := 12) (ini := false) (Cl := C_X12_closesBy N) (Rc := RcZ) (B := B_X12_closesBy) (K := fun pc ls st g => kb pc 5 (lgr 0 ls fun a0 => lgi 1 ls fun x1 => lgl_ 2 ls fun l2 => lgi 4 ls fun x4 => pe st (L_X12_closesBy_5 N n a0 x1 l2 x4 g)) (none)) rfl (fun e => by cases e) (by decide) (rcZ_ok rfl) ?_ (co_X12_closesBy N q) lb_X12_closesBy 3000 5 S_X12_closesBy_5 _ _ h ls_X12_closesBy_5 hf
    intro pc ls st g e
    rcases kb_s e with ⟨rfl, e⟩ | e
    · obtain ⟨a0, e0, f0⟩ := lgr_s e
      obtain ⟨x1, e1, f1⟩ := lgi_s f0
      obtain ⟨l2, e2, f2⟩ := lgl_s f1
      obtain ⟨x4, e3, f3⟩ := lgi_s f2
      obtain ⟨qe, fe⟩ := pe_s f3
      subst qe
      exact MW.sub (List.forall_mem_cons.mpr ⟨lg_mem e0, List.forall_mem_cons.mpr ⟨lg_mem e1, List.forall_mem_cons.mpr ⟨lg_mem e2, List.forall_mem_cons.mpr ⟨lg_mem e3, fun _ h => absurd h List.not_mem_nil⟩⟩⟩⟩) (ih a0 x1 l2 x4 g fe)
    cases e
set_option maxRecDepth 100000 in
theorem m_X12_closesBy (N : Nat) {a0 : Nat} {x1 : Int32} {h : mH} {q : Int32 × mH} (hf : f_X12_closesBy N a0 x1 h = some q) : MM y_X12_closesBy 4 [.ref a0, .int x1] h (some (.int q.1)) q.2 := by
  refine MM.of (mFx (j := 328) rfl).2.2.2.1 (Nat.le_of_ble_eq_true rfl) (fun X => ?_)
  refine ev_ok (o := 12) (ini := false) (Cl := C_X12_closesBy N) (Rc := RcZ) (B := B_X12_closesBy) (K := fun pc ls st g => kb pc 5 (lgr 0 ls fun a0 => lgi 1 ls fun x1 => lgl_ 2 ls fun l2 => lgi 4 ls fun x4 => pe st (L_X12_closesBy_5 N N a0 x1 l2 x4 g)) (none)) rfl (fun e => by cases e) (by decide) (rcZ_ok rfl) ?_ (co_X12_closesBy N q) lb_X12_closesBy 3000 0 S_X12_closesBy_0 _ _ h ls_X12_closesBy_0 hf
  intro pc ls st g e
  rcases kb_s e with ⟨rfl, e⟩ | e
  · obtain ⟨a0, e0, f0⟩ := lgr_s e
    obtain ⟨x1, e1, f1⟩ := lgi_s f0
    obtain ⟨l2, e2, f2⟩ := lgl_s f1
    obtain ⟨x4, e3, f3⟩ := lgi_s f2
    obtain ⟨qe, fe⟩ := pe_s f3
    subst qe
    exact MW.sub (List.forall_mem_cons.mpr ⟨lg_mem e0, List.forall_mem_cons.mpr ⟨lg_mem e1, List.forall_mem_cons.mpr ⟨lg_mem e2, List.forall_mem_cons.mpr ⟨lg_mem e3, fun _ h => absurd h List.not_mem_nil⟩⟩⟩⟩) (t_X12_closesBy_5 N N a0 x1 l2 x4 g fe)
  cases e
def L_X12_closes_75 (N : Nat) : Nat → Nat → Int32 → Int32 → mH → Option (Int32 × mH)
  | 0, _, _, _, _ => none
  | n + 1, a0, x1, x2, h =>
    (gR h 12 a0 35).bind fun v1 =>
    (ldI 0 h v1 x1).bind fun v2 =>
    if x2 < v2 then
      (gR h 12 a0 36).bind fun v3 =>
      (ldL h v3 (iAdd (iMul (jI 40) x1) x2)).bind fun v4 =>
      (gR h 12 a0 2).bind fun v5 =>
      (ldI 0 h v5 (jI 0)).bind fun v6 =>
      (f_X12_within N v4 (jL 1) ((iSub v6 (jI 1)).toInt64) h).bind fun p7 =>
      if p7.1 = 0 then
        (rcv p7.2 12 a0).bind fun _ =>
        (f_X12_no N a0 (jI (-3)) p7.2).bind fun p8 =>
        some (p8.1, p8.2)
      else
        (gR p7.2 12 a0 32).bind fun v9 =>
        (gR p7.2 12 a0 36).bind fun v10 =>
        (ldL p7.2 v10 (iAdd (iMul (jI 40) x1) x2)).bind fun v11 =>
        (stI 0 p7.2 v9 x2 v11.toInt32).bind fun h12 =>
        let w13 := iAdd x2 (jI 1)
        L_X12_closes_75 N n a0 x1 w13 h12
    else
      (gR h 12 a0 35).bind fun v14 =>
      (ldI 0 h v14 x1).bind fun v15 =>
      (rcv h 12 a0).bind fun _ =>
      (f_X12_closesBy N a0 v15 h).bind fun p16 =>
      if p16.1 = 0 then
        some (jI 0, p16.2)
      else
        some (jI 1, p16.2)
def f_X12_closes (N : Nat) (a0 : Nat) (x1 : Int32) (h : mH) : Option (Int32 × mH) :=
  (pV h 12 a0 0 (.int (jI 0))).bind fun h1 =>
  (f_X12_within N x1.toInt64 (jL 0) (jL 3) h1).bind fun p2 =>
  if p2.1 = 0 then
    (rcv p2.2 12 a0).bind fun _ =>
    (f_X12_no N a0 (jI (-2)) p2.2).bind fun p3 =>
    some (p3.1, p3.2)
  else
    (gR p2.2 12 a0 2).bind fun v4 =>
    (ldI 0 p2.2 v4 (jI 0)).bind fun v5 =>
    if v5 = 0 then
      (rcv p2.2 12 a0).bind fun _ =>
      (f_X12_no N a0 (jI (-5)) p2.2).bind fun p6 =>
      some (p6.1, p6.2)
    else
      (gR p2.2 12 a0 34).bind fun v7 =>
      (ldI 0 p2.2 v7 x1).bind fun v8 =>
      if v8 = (jI (-1)) then
        (rcv p2.2 12 a0).bind fun _ =>
        (f_X12_no N a0 (jI (-6)) p2.2).bind fun p9 =>
        some (p9.1, p9.2)
      else
        (gR p2.2 12 a0 35).bind fun v10 =>
        (ldI 0 p2.2 v10 x1).bind fun v11 =>
        if v11 = 0 then
          (rcv p2.2 12 a0).bind fun _ =>
          (f_X12_no N a0 (jI (-3)) p2.2).bind fun p12 =>
          some (p12.1, p12.2)
        else
          L_X12_closes_75 N N a0 x1 (jI 0) p2.2
def y_X12_closes : mM := (yX12_closes, cX12_closes, 3, (some .int))
def B_X12_closes : List (Nat × List mI) := [(24, [(.aload_n 0, 1, [0], []), (.getfield 17, 3, [12, 2, 2, 128], []), (.iconst 0, 1, [], [0]), (.iaload, 1, [0], []), (.ifCond .ne 10, 3, [40], []), (.aload_n 0, 1, [0], []), (.bipush (-5), 2, [], [-5]), (.invokevirtual 84, 3, [0, 224, 1, 12, 267], []), (.ireturn, 1, [], [])]), (40, [(.aload_n 0, 1, [0], []), (.getfield 68, 3, [12, 34, 2, 160], []), (.iload_n 1, 1, [1], []), (.iaload, 1, [0], []), (.iconst (-1), 1, [], [-1]), (.if_icmp .ne 10, 3, [57], []), (.aload_n 0, 1, [0], []), (.bipush (-6), 2, [], [-6]), (.invokevirtual 84, 3, [0, 224, 1, 12, 267], []), (.ireturn, 1, [], [])]), (57, [(.aload_n 0, 1, [0], []), (.getfield 71, 3, [12, 35, 2, 161], []), (.iload_n 1, 1, [1], []), (.iaload, 1, [0], []), (.ifCond .ne 10, 3, [73], []), (.aload_n 0, 1, [0], []), (.bipush (-3), 2, [], [-3]), (.invokevirtual 84, 3, [0, 224, 1, 12, 267], []), (.ireturn, 1, [], [])]), (73, [(.iconst 0, 1, [], [0]), (.istore_n 2, 1, [2], [])]), (119, [(.aload_n 0, 1, [0], []), (.getfield 62, 3, [12, 32, 2, 158], []), (.iload_n 2, 1, [2], []), (.aload_n 0, 1, [0], []), (.getfield 74, 3, [12, 36, 2, 162], []), (.bipush 40, 2, [], [40]), (.iload_n 1, 1, [1], []), (.imul, 1, [], []), (.iload_n 2, 1, [2], []), (.iadd, 1, [], []), (.laload, 1, [], []), (.l2i, 1, [], []), (.iastore, 1, [], []), (.iinc 2 1, 3, [2], [1]), (.goto (-65), 3, [75], [])]), (143, [(.aload_n 0, 1, [0], []), (.aload_n 0, 1, [0], []), (.getfield 71, 3, [12, 35, 2, 161], []), (.iload_n 1, 1, [1], []), (.iaload, 1, [0], []), (.invokevirtual 362, 3, [0, 328, 1, 12, 369], []), (.ifCond .eq 7, 3, [160], []), (.iconst 1, 1, [], [1]), (.goto 4, 3, [161], [])]), (160, [(.iconst 0, 1, [], [0])]), (161, [(.ireturn, 1, [], [])])]
def S_X12_closes_0 : List mI := [(.aload_n 0, 1, [0], []), (.iconst 0, 1, [], [0]), (.putfield 1, 3, [12, 0, 0, 126], []), (.iload_n 1, 1, [1], []), (.i2l, 1, [], []), (.lconst 0, 1, [], [0]), (.ldc2_w 179, 3, [5], [3]), (.invokestatic 147, 3, [1, 225, 3, 0, 269], []), (.ifCond .ne 10, 3, [24], []), (.aload_n 0, 1, [0], []), (.bipush (-2), 2, [], [-2]), (.invokevirtual 84, 3, [0, 224, 1, 12, 267], []), (.ireturn, 1, [], [])]
def S_X12_closes_75 : List mI := [(.iload_n 2, 1, [2], []), (.aload_n 0, 1, [0], []), (.getfield 71, 3, [12, 35, 2, 161], []), (.iload_n 1, 1, [1], []), (.iaload, 1, [0], []), (.if_icmp .ge 61, 3, [143], []), (.aload_n 0, 1, [0], []), (.getfield 74, 3, [12, 36, 2, 162], []), (.bipush 40, 2, [], [40]), (.iload_n 1, 1, [1], []), (.imul, 1, [], []), (.iload_n 2, 1, [2], []), (.iadd, 1, [], []), (.laload, 1, [], []), (.lconst 1, 1, [], [1]), (.aload_n 0, 1, [0], []), (.getfield 17, 3, [12, 2, 2, 128], []), (.iconst 0, 1, [], [0]), (.iaload, 1, [0], []), (.iconst 1, 1, [], [1]), (.isub, 1, [], []), (.i2l, 1, [], []), (.invokestatic 147, 3, [1, 225, 3, 0, 269], []), (.ifCond .ne 10, 3, [119], []), (.aload_n 0, 1, [0], []), (.bipush (-3), 2, [], [-3]), (.invokevirtual 84, 3, [0, 224, 1, 12, 267], []), (.ireturn, 1, [], [])]
theorem lb_X12_closes : B_X12_closes.all (fun b => lst y_X12_closes.2.1 12 y_X12_closes.2.2.1 false b.1 b.2) = true := by decide +kernel
theorem ls_X12_closes_0 : lst y_X12_closes.2.1 12 y_X12_closes.2.2.1 false 0 S_X12_closes_0 = true := by decide +kernel
theorem ls_X12_closes_75 : lst y_X12_closes.2.1 12 y_X12_closes.2.2.1 false 75 S_X12_closes_75 = true := by decide +kernel
def C_X12_closes (N : Nat) : Nat → List Value → mH → (Option Value → mH → Option (Int32 × mH)) → Option (Int32 × mH) := fun j as g k => kb j 225 (pl1 as fun b0 as => pl1 as fun b1 as => pl1 as fun b2 as => pe as ((f_X12_within N b0 b1 b2 g).bind fun p => k (some (.int p.1)) p.2)) (kb j 224 (pr1 as fun b0 as => pp1 as fun b1 as => pe as ((f_X12_no N b0 b1 g).bind fun p => k (some (.int p.1)) p.2)) (kb j 328 (pr1 as fun b0 as => pp1 as fun b1 as => pe as ((f_X12_closesBy N b0 b1 g).bind fun p => k (some (.int p.1)) p.2)) (none)))
theorem co_X12_closes (N : Nat) (q : Int32 × mH) : clOK 5 q (C_X12_closes N) := by
  intro j as g k e
  rcases kb_s e with ⟨rfl, e⟩ | e
  · obtain ⟨b0, r0, q0, f0⟩ := pl1_s e
    obtain ⟨b1, r1, q1, f1⟩ := pl1_s f0
    obtain ⟨b2, r2, q2, f2⟩ := pl1_s f1
    obtain ⟨qe, fe⟩ := pe_s f2
    obtain ⟨p, e1, e2⟩ := bnd_s fe
    subst qe
    subst q2
    subst q1
    subst q0
    exact ⟨_, _, _, _, 4, rfl, (by decide), m_X12_within N e1, e2⟩
  rcases kb_s e with ⟨rfl, e⟩ | e
  · obtain ⟨b0, r0, q0, f0⟩ := pr1_s e
    obtain ⟨b1, r1, q1, f1⟩ := pp1_s f0
    obtain ⟨qe, fe⟩ := pe_s f1
    obtain ⟨p, e1, e2⟩ := bnd_s fe
    subst qe
    subst q1
    subst q0
    exact ⟨_, _, _, _, 4, rfl, (by decide), m_X12_no N e1, e2⟩
  rcases kb_s e with ⟨rfl, e⟩ | e
  · obtain ⟨b0, r0, q0, f0⟩ := pr1_s e
    obtain ⟨b1, r1, q1, f1⟩ := pp1_s f0
    obtain ⟨qe, fe⟩ := pe_s f1
    obtain ⟨p, e1, e2⟩ := bnd_s fe
    subst qe
    subst q1
    subst q0
    exact ⟨_, _, _, _, 4, rfl, (by decide), m_X12_closesBy N e1, e2⟩
  cases e
set_option maxRecDepth 100000 in
theorem t_X12_closes_75 {X : Nat × (Nat → Int32)} (N : Nat) {q : Int32 × mH} : ∀ (n : Nat) (a0 : Nat) (x1 : Int32) (x2 : Int32) (h : mH), L_X12_closes_75 N n a0 x1 x2 h = some q → MW X y_X12_closes 5 75 [(0, .ref a0), (1, .int x1), (2, .int x2)] [] h (some (.int q.1)) q.2 := by
  intro n
  induction n with
  | zero => intro a0 x1 x2 h hf; cases hf
  | succ n ih =>
    intro a0 x1 x2 h hf
    refine ev_ok (o := 12) (ini := false) (Cl := C_X12_closes N) (Rc := RcI) (B := B_X12_closes) (K := fun pc ls st g => kb pc 75 (lgr 0 ls fun a0 => lgi 1 ls fun x1 => lgi 2 ls fun x2 => pe st (L_X12_closes_75 N n a0 x1 x2 g)) (none)) rfl (fun e => by cases e) (by decide) (rcI_ok rfl) ?_ (co_X12_closes N q) lb_X12_closes 3000 75 S_X12_closes_75 _ _ h ls_X12_closes_75 hf
    intro pc ls st g e
    rcases kb_s e with ⟨rfl, e⟩ | e
    · obtain ⟨a0, e0, f0⟩ := lgr_s e
      obtain ⟨x1, e1, f1⟩ := lgi_s f0
      obtain ⟨x2, e2, f2⟩ := lgi_s f1
      obtain ⟨qe, fe⟩ := pe_s f2
      subst qe
      exact MW.sub (List.forall_mem_cons.mpr ⟨lg_mem e0, List.forall_mem_cons.mpr ⟨lg_mem e1, List.forall_mem_cons.mpr ⟨lg_mem e2, fun _ h => absurd h List.not_mem_nil⟩⟩⟩) (ih a0 x1 x2 g fe)
    cases e
set_option maxRecDepth 100000 in
theorem m_X12_closes (N : Nat) {a0 : Nat} {x1 : Int32} {h : mH} {q : Int32 × mH} (hf : f_X12_closes N a0 x1 h = some q) : MM y_X12_closes 5 [.ref a0, .int x1] h (some (.int q.1)) q.2 := by
  refine MM.of (mFx (j := 329) rfl).2.2.2.1 (Nat.le_of_ble_eq_true rfl) (fun X => ?_)
  refine ev_ok (o := 12) (ini := false) (Cl := C_X12_closes N) (Rc := RcI) (B := B_X12_closes) (K := fun pc ls st g => kb pc 75 (lgr 0 ls fun a0 => lgi 1 ls fun x1 => lgi 2 ls fun x2 => pe st (L_X12_closes_75 N N a0 x1 x2 g)) (none)) rfl (fun e => by cases e) (by decide) (rcI_ok rfl) ?_ (co_X12_closes N q) lb_X12_closes 3000 0 S_X12_closes_0 _ _ h ls_X12_closes_0 hf
  intro pc ls st g e
  rcases kb_s e with ⟨rfl, e⟩ | e
  · obtain ⟨a0, e0, f0⟩ := lgr_s e
    obtain ⟨x1, e1, f1⟩ := lgi_s f0
    obtain ⟨x2, e2, f2⟩ := lgi_s f1
    obtain ⟨qe, fe⟩ := pe_s f2
    subst qe
    exact MW.sub (List.forall_mem_cons.mpr ⟨lg_mem e0, List.forall_mem_cons.mpr ⟨lg_mem e1, List.forall_mem_cons.mpr ⟨lg_mem e2, fun _ h => absurd h List.not_mem_nil⟩⟩⟩) (t_X12_closes_75 N N a0 x1 x2 g fe)
  cases e
def L_X12_border_218 (N : Nat) (k117 : Nat → Int32 → Int32 → Int32 → Int32 → Int32 → Int32 → Int32 → Int32 → mH → Option (Int32 × mH)) : Nat → Nat → Int32 → Int32 → Int32 → Int32 → Int32 → Int32 → Int32 → Int32 → Int32 → mH → Option (Int32 × mH)
  | 0, _, _, _, _, _, _, _, _, _, _, _ => none
  | n + 1, a0, x1, x2, x3, x4, x5, x6, x7, x8, x11, h =>
    if x11 < x1 then
      (gR h 12 a0 32).bind fun v1 =>
      (ldI 0 h v1 x11).bind fun v2 =>
      let w3 := iAdd (iMul (jI 10) x7) v2
      let w4 := iAdd x11 (jI 1)
      L_X12_border_218 N k117 n a0 x1 x2 x3 x4 x5 x6 w3 x8 w4 h
    else
      let w5 := iAdd x8 (jI 1)
      k117 a0 x1 x2 x3 x4 x5 x6 x7 w5 h
def L_X12_border_136 (N : Nat) (k117 : Nat → Int32 → Int32 → Int32 → Int32 → Int32 → Int32 → Int32 → Int32 → mH → Option (Int32 × mH)) : Nat → Nat → Int32 → Int32 → Int32 → Int32 → Int32 → Int32 → Int32 → Int32 → Int32 → Int32 → Int32 → mH → Option (Int32 × mH)
  | 0, _, _, _, _, _, _, _, _, _, _, _, _, _ => none
  | n + 1, a0, x1, x2, x3, x4, x5, x6, x7, x8, x9, x10, x11, h =>
    if x11 < 0 then
      (rcv h 12 a0).bind fun _ =>
      (f_X12_closesBy N a0 x1 h).bind fun p1 =>
      if p1.1 = 0 then
        let w2 := iAdd x8 (jI 1)
        k117 a0 x1 x2 x3 x4 x5 x6 x7 w2 p1.2
      else
        let w3 := iAdd x5 (jI 1)
        if x6 = (jI (-1)) then
          L_X12_border_218 N k117 N a0 x1 x2 x3 x4 w3 x10 (jI 0) x8 (jI 0) p1.2
        else
          if x10 < x6 then
            L_X12_border_218 N k117 N a0 x1 x2 x3 x4 w3 x10 (jI 0) x8 (jI 0) p1.2
          else
            let w4 := iAdd x8 (jI 1)
            k117 a0 x1 x2 x3 x4 w3 x6 x7 w4 p1.2
    else
      (gR h 12 a0 32).bind fun v5 =>
      if x2 = 0 then none else
      (stI 0 h v5 x11 (iAdd (jI 1) (iRem x9 x2))).bind fun h6 =>
      if x2 = 0 then none else
      let w7 := iDiv x9 x2
      (gR h6 12 a0 32).bind fun v8 =>
      (ldI 0 h6 v8 x11).bind fun v9 =>
      let w10 := iAdd x10 v9
      let w11 := iAdd x11 (jI (-1))
      L_X12_border_136 N k117 n a0 x1 x2 x3 x4 x5 x6 x7 x8 w7 w10 w11 h6
def L_X12_border_117 (N : Nat) : Nat → Nat → Int32 → Int32 → Int32 → Int32 → Int32 → Int32 → Int32 → Int32 → mH → Option (Int32 × mH)
  | 0, _, _, _, _, _, _, _, _, _, _ => none
  | n + 1, a0, x1, x2, x3, x4, x5, x6, x7, x8, h =>
    if x8 < x4 then
      let w1 := iSub x1 (jI 1)
      L_X12_border_136 N (L_X12_border_117 N n) N a0 x1 x2 x3 x4 x5 x6 x7 x8 x8 (jI 0) w1 h
    else
      if x3 = 0 then
        some (x5, h)
      else
        if x3 = (jI 1) then
          some (x6, h)
        else
          some (x7, h)
def L_X12_border_87 (N : Nat) : Nat → Nat → Int32 → Int32 → Int32 → Int32 → Int32 → mH → Option (Int32 × mH)
  | 0, _, _, _, _, _, _, _ => none
  | n + 1, a0, x1, x2, x3, x4, x5, h =>
    if x5 < x1 then
      let w1 := iMul x4 x2
      let w2 := iAdd x5 (jI 1)
      L_X12_border_87 N n a0 x1 x2 x3 w1 w2 h
    else
      L_X12_border_117 N N a0 x1 x2 x3 x4 (jI 0) (jI (-1)) (jI (-1)) (jI 0) h
def f_X12_border (N : Nat) (a0 : Nat) (x1 : Int32) (x2 : Int32) (x3 : Int32) (h : mH) : Option (Int32 × mH) :=
  (pV h 12 a0 0 (.int (jI 0))).bind fun h1 =>
  (gR h1 12 a0 2).bind fun v2 =>
  (ldI 0 h1 v2 (jI 0)).bind fun v3 =>
  if v3 = 0 then
    (rcv h1 12 a0).bind fun _ =>
    (f_X12_no N a0 (jI (-5)) h1).bind fun p4 =>
    some (p4.1, p4.2)
  else
    (f_X12_within N x1.toInt64 (jL 1) (jL 4) h1).bind fun p5 =>
    if p5.1 = 0 then
      (rcv p5.2 12 a0).bind fun _ =>
      (f_X12_no N a0 (jI (-3)) p5.2).bind fun p6 =>
      some (p6.1, p6.2)
    else
      (f_X12_within N x2.toInt64 (jL 1) (jL 6) p5.2).bind fun p7 =>
      if p7.1 = 0 then
        (rcv p7.2 12 a0).bind fun _ =>
        (f_X12_no N a0 (jI (-3)) p7.2).bind fun p8 =>
        some (p8.1, p8.2)
      else
        (gR p7.2 12 a0 2).bind fun v9 =>
        (ldI 0 p7.2 v9 (jI 0)).bind fun v10 =>
        if x2 < v10 then
          (f_X12_within N x3.toInt64 (jL 0) (jL 2) p7.2).bind fun p11 =>
          if p11.1 = 0 then
            (rcv p11.2 12 a0).bind fun _ =>
            (f_X12_no N a0 (jI (-2)) p11.2).bind fun p12 =>
            some (p12.1, p12.2)
          else
            L_X12_border_87 N N a0 x1 x2 x3 (jI 1) (jI 0) p11.2
        else
          (rcv p7.2 12 a0).bind fun _ =>
          (f_X12_no N a0 (jI (-3)) p7.2).bind fun p13 =>
          some (p13.1, p13.2)
def y_X12_border : mM := (yX12_border, cX12_border, 12, (some .int))
def B_X12_border : List (Nat × List mI) := [(21, [(.iload_n 1, 1, [1], []), (.i2l, 1, [], []), (.lconst 1, 1, [], [1]), (.ldc2_w 365, 3, [21], [4]), (.invokestatic 147, 3, [1, 225, 3, 0, 269], []), (.ifCond .eq 25, 3, [55], []), (.iload_n 2, 1, [2], []), (.i2l, 1, [], []), (.lconst 1, 1, [], [1]), (.ldc2_w 186, 3, [7], [6]), (.invokestatic 147, 3, [1, 225, 3, 0, 269], []), (.ifCond .eq 13, 3, [55], []), (.iload_n 2, 1, [2], []), (.aload_n 0, 1, [0], []), (.getfield 17, 3, [12, 2, 2, 128], []), (.iconst 0, 1, [], [0]), (.iaload, 1, [0], []), (.if_icmp .lt 10, 3, [62], [])]), (55, [(.aload_n 0, 1, [0], []), (.bipush (-3), 2, [], [-3]), (.invokevirtual 84, 3, [0, 224, 1, 12, 267], []), (.ireturn, 1, [], [])]), (62, [(.iload_n 3, 1, [3], []), (.i2l, 1, [], []), (.lconst 0, 1, [], [0]), (.ldc2_w 245, 3, [11], [2]), (.invokestatic 147, 3, [1, 225, 3, 0, 269], []), (.ifCond .ne 10, 3, [81], []), (.aload_n 0, 1, [0], []), (.bipush (-2), 2, [], [-2]), (.invokevirtual 84, 3, [0, 224, 1, 12, 267], []), (.ireturn, 1, [], [])]), (81, [(.iconst 1, 1, [], [1]), (.istore 4, 2, [4], []), (.iconst 0, 1, [], [0]), (.istore 5, 2, [5], [])]), (105, [(.iconst 0, 1, [], [0]), (.istore 5, 2, [5], []), (.iconst (-1), 1, [], [-1]), (.istore 6, 2, [6], []), (.iconst (-1), 1, [], [-1]), (.istore 7, 2, [7], []), (.iconst 0, 1, [], [0]), (.istore 8, 2, [8], [])]), (178, [(.aload_n 0, 1, [0], []), (.iload_n 1, 1, [1], []), (.invokevirtual 362, 3, [0, 328, 1, 12, 369], []), (.ifCond .ne 6, 3, [189], []), (.goto 59, 3, [245], [])]), (189, [(.iinc 5 1, 3, [5], [1]), (.iload 6, 2, [6], []), (.iconst (-1), 1, [], [-1]), (.if_icmp .eq 13, 3, [208], []), (.iload 10, 2, [10], []), (.iload 6, 2, [6], []), (.if_icmp .lt 6, 3, [208], []), (.goto 40, 3, [245], [])]), (208, [(.iload 10, 2, [10], []), (.istore 6, 2, [6], []), (.iconst 0, 1, [], [0]), (.istore 7, 2, [7], []), (.iconst 0, 1, [], [0]), (.istore 11, 2, [11], [])]), (245, [(.iinc 8 1, 3, [8], [1]), (.goto (-131), 3, [117], [])]), (251, [(.iload_n 3, 1, [3], []), (.ifCond .ne 8, 3, [260], []), (.iload 5, 2, [5], []), (.goto 15, 3, [272], [])]), (260, [(.iload_n 3, 1, [3], []), (.iconst 1, 1, [], [1]), (.if_icmp .ne 8, 3, [270], []), (.iload 6, 2, [6], []), (.goto 5, 3, [272], [])]), (270, [(.iload 7, 2, [7], [])]), (272, [(.ireturn, 1, [], [])])]
def S_X12_border_0 : List mI := [(.aload_n 0, 1, [0], []), (.iconst 0, 1, [], [0]), (.putfield 1, 3, [12, 0, 0, 126], []), (.aload_n 0, 1, [0], []), (.getfield 17, 3, [12, 2, 2, 128], []), (.iconst 0, 1, [], [0]), (.iaload, 1, [0], []), (.ifCond .ne 10, 3, [21], []), (.aload_n 0, 1, [0], []), (.bipush (-5), 2, [], [-5]), (.invokevirtual 84, 3, [0, 224, 1, 12, 267], []), (.ireturn, 1, [], [])]
def S_X12_border_87 : List mI := [(.iload 5, 2, [5], []), (.iload_n 1, 1, [1], []), (.if_icmp .ge 15, 3, [105], []), (.iload 4, 2, [4], []), (.iload_n 2, 1, [2], []), (.imul, 1, [], []), (.istore 4, 2, [4], []), (.iinc 5 1, 3, [5], [1]), (.goto (-15), 3, [87], [])]
def S_X12_border_117 : List mI := [(.iload 8, 2, [8], []), (.iload 4, 2, [4], []), (.if_icmp .ge 130, 3, [251], []), (.iload 8, 2, [8], []), (.istore 9, 2, [9], []), (.iconst 0, 1, [], [0]), (.istore 10, 2, [10], []), (.iload_n 1, 1, [1], []), (.iconst 1, 1, [], [1]), (.isub, 1, [], []), (.istore 11, 2, [11], [])]
def S_X12_border_136 : List mI := [(.iload 11, 2, [11], []), (.ifCond .lt 40, 3, [178], []), (.aload_n 0, 1, [0], []), (.getfield 62, 3, [12, 32, 2, 158], []), (.iload 11, 2, [11], []), (.iconst 1, 1, [], [1]), (.iload 9, 2, [9], []), (.iload_n 2, 1, [2], []), (.irem, 1, [], []), (.iadd, 1, [], []), (.iastore, 1, [], []), (.iload 9, 2, [9], []), (.iload_n 2, 1, [2], []), (.idiv, 1, [], []), (.istore 9, 2, [9], []), (.iload 10, 2, [10], []), (.aload_n 0, 1, [0], []), (.getfield 62, 3, [12, 32, 2, 158], []), (.iload 11, 2, [11], []), (.iaload, 1, [0], []), (.iadd, 1, [], []), (.istore 10, 2, [10], []), (.iinc 11 (-1), 3, [11], [-1]), (.goto (-39), 3, [136], [])]
def S_X12_border_218 : List mI := [(.iload 11, 2, [11], []), (.iload_n 1, 1, [1], []), (.if_icmp .ge 24, 3, [245], []), (.bipush 10, 2, [], [10]), (.iload 7, 2, [7], []), (.imul, 1, [], []), (.aload_n 0, 1, [0], []), (.getfield 62, 3, [12, 32, 2, 158], []), (.iload 11, 2, [11], []), (.iaload, 1, [0], []), (.iadd, 1, [], []), (.istore 7, 2, [7], []), (.iinc 11 1, 3, [11], [1]), (.goto (-24), 3, [218], [])]
theorem lb_X12_border : B_X12_border.all (fun b => lst y_X12_border.2.1 12 y_X12_border.2.2.1 false b.1 b.2) = true := by decide +kernel
theorem ls_X12_border_0 : lst y_X12_border.2.1 12 y_X12_border.2.2.1 false 0 S_X12_border_0 = true := by decide +kernel
theorem ls_X12_border_87 : lst y_X12_border.2.1 12 y_X12_border.2.2.1 false 87 S_X12_border_87 = true := by decide +kernel
theorem ls_X12_border_117 : lst y_X12_border.2.1 12 y_X12_border.2.2.1 false 117 S_X12_border_117 = true := by decide +kernel
theorem ls_X12_border_136 : lst y_X12_border.2.1 12 y_X12_border.2.2.1 false 136 S_X12_border_136 = true := by decide +kernel
theorem ls_X12_border_218 : lst y_X12_border.2.1 12 y_X12_border.2.2.1 false 218 S_X12_border_218 = true := by decide +kernel
def C_X12_border (N : Nat) : Nat → List Value → mH → (Option Value → mH → Option (Int32 × mH)) → Option (Int32 × mH) := fun j as g k => kb j 224 (pr1 as fun b0 as => pp1 as fun b1 as => pe as ((f_X12_no N b0 b1 g).bind fun p => k (some (.int p.1)) p.2)) (kb j 225 (pl1 as fun b0 as => pl1 as fun b1 as => pl1 as fun b2 as => pe as ((f_X12_within N b0 b1 b2 g).bind fun p => k (some (.int p.1)) p.2)) (kb j 328 (pr1 as fun b0 as => pp1 as fun b1 as => pe as ((f_X12_closesBy N b0 b1 g).bind fun p => k (some (.int p.1)) p.2)) (none)))
theorem co_X12_border (N : Nat) (q : Int32 × mH) : clOK 5 q (C_X12_border N) := by
  intro j as g k e
  rcases kb_s e with ⟨rfl, e⟩ | e
  · obtain ⟨b0, r0, q0, f0⟩ := pr1_s e
    obtain ⟨b1, r1, q1, f1⟩ := pp1_s f0
    obtain ⟨qe, fe⟩ := pe_s f1
    obtain ⟨p, e1, e2⟩ := bnd_s fe
    subst qe
    subst q1
    subst q0
    exact ⟨_, _, _, _, 4, rfl, (by decide), m_X12_no N e1, e2⟩
  rcases kb_s e with ⟨rfl, e⟩ | e
  · obtain ⟨b0, r0, q0, f0⟩ := pl1_s e
    obtain ⟨b1, r1, q1, f1⟩ := pl1_s f0
    obtain ⟨b2, r2, q2, f2⟩ := pl1_s f1
    obtain ⟨qe, fe⟩ := pe_s f2
    obtain ⟨p, e1, e2⟩ := bnd_s fe
    subst qe
    subst q2
    subst q1
    subst q0
    exact ⟨_, _, _, _, 4, rfl, (by decide), m_X12_within N e1, e2⟩
  rcases kb_s e with ⟨rfl, e⟩ | e
  · obtain ⟨b0, r0, q0, f0⟩ := pr1_s e
    obtain ⟨b1, r1, q1, f1⟩ := pp1_s f0
    obtain ⟨qe, fe⟩ := pe_s f1
    obtain ⟨p, e1, e2⟩ := bnd_s fe
    subst qe
    subst q1
    subst q0
    exact ⟨_, _, _, _, 4, rfl, (by decide), m_X12_closesBy N e1, e2⟩
  cases e
set_option maxRecDepth 100000 in
theorem t_X12_border_218 {X : Nat × (Nat → Int32)} (N : Nat) {q : Int32 × mH} {k117 : Nat → Int32 → Int32 → Int32 → Int32 → Int32 → Int32 → Int32 → Int32 → mH → Option (Int32 × mH)} (hk117 : ∀ (a0 : Nat) (x1 : Int32) (x2 : Int32) (x3 : Int32) (x4 : Int32) (x5 : Int32) (x6 : Int32) (x7 : Int32) (x8 : Int32) g, k117 a0 x1 x2 x3 x4 x5 x6 x7 x8 g = some q → MW X y_X12_border 5 117 [(0, .ref a0), (1, .int x1), (2, .int x2), (3, .int x3), (4, .int x4), (5, .int x5), (6, .int x6), (7, .int x7), (8, .int x8)] [] g (some (.int q.1)) q.2) : ∀ (n : Nat) (a0 : Nat) (x1 : Int32) (x2 : Int32) (x3 : Int32) (x4 : Int32) (x5 : Int32) (x6 : Int32) (x7 : Int32) (x8 : Int32) (x11 : Int32) (h : mH), L_X12_border_218 N k117 n a0 x1 x2 x3 x4 x5 x6 x7 x8 x11 h = some q → MW X y_X12_border 5 218 [(0, .ref a0), (1, .int x1), (2, .int x2), (3, .int x3), (4, .int x4), (5, .int x5), (6, .int x6), (7, .int x7), (8, .int x8), (11, .int x11)] [] h (some (.int q.1)) q.2 := by
  intro n
  induction n with
  | zero => intro a0 x1 x2 x3 x4 x5 x6 x7 x8 x11 h hf; cases hf
  | succ n ih =>
    intro a0 x1 x2 x3 x4 x5 x6 x7 x8 x11 h hf
    refine ev_ok (o := 12) (ini := false) (Cl := C_X12_border N) (Rc := RcI) (B := B_X12_border) (K := fun pc ls st g => kb pc 117 (lgr 0 ls fun a0 => lgi 1 ls fun x1 => lgi 2 ls fun x2 => lgi 3 ls fun x3 => lgi 4 ls fun x4 => lgi 5 ls fun x5 => lgi 6 ls fun x6 => lgi 7 ls fun x7 => lgi 8 ls fun x8 => pe st (k117 a0 x1 x2 x3 x4 x5 x6 x7 x8 g)) (kb pc 218 (lgr 0 ls fun a0 => lgi 1 ls fun x1 => lgi 2 ls fun x2 => lgi 3 ls fun x3 => lgi 4 ls fun x4 => lgi 5 ls fun x5 => lgi 6 ls fun x6 => lgi 7 ls fun x7 => lgi 8 ls fun x8 => lgi 11 ls fun x11 => pe st (L_X12_border_218 N k117 n a0 x1 x2 x3 x4 x5 x6 x7 x8 x11 g)) (none))) rfl (fun e => by cases e) (by decide) (rcI_ok rfl) ?_ (co_X12_border N q) lb_X12_border 3000 218 S_X12_border_218 _ _ h ls_X12_border_218 hf
    intro pc ls st g e
    rcases kb_s e with ⟨rfl, e⟩ | e
    · obtain ⟨a0, e0, f0⟩ := lgr_s e
      obtain ⟨x1, e1, f1⟩ := lgi_s f0
      obtain ⟨x2, e2, f2⟩ := lgi_s f1
      obtain ⟨x3, e3, f3⟩ := lgi_s f2
      obtain ⟨x4, e4, f4⟩ := lgi_s f3
      obtain ⟨x5, e5, f5⟩ := lgi_s f4
      obtain ⟨x6, e6, f6⟩ := lgi_s f5
      obtain ⟨x7, e7, f7⟩ := lgi_s f6
      obtain ⟨x8, e8, f8⟩ := lgi_s f7
      obtain ⟨qe, fe⟩ := pe_s f8
      subst qe
      exact MW.sub (List.forall_mem_cons.mpr ⟨lg_mem e0, List.forall_mem_cons.mpr ⟨lg_mem e1, List.forall_mem_cons.mpr ⟨lg_mem e2, List.forall_mem_cons.mpr ⟨lg_mem e3, List.forall_mem_cons.mpr ⟨lg_mem e4, List.forall_mem_cons.mpr ⟨lg_mem e5, List.forall_mem_cons.mpr ⟨lg_mem e6, List.forall_mem_cons.mpr ⟨lg_mem e7, List.forall_mem_cons.mpr ⟨lg_mem e8, fun _ h => absurd h List.not_mem_nil⟩⟩⟩⟩⟩⟩⟩⟩⟩) (hk117 a0 x1 x2 x3 x4 x5 x6 x7 x8 g fe)
    rcases kb_s e with ⟨rfl, e⟩ | e
    · obtain ⟨a0, e0, f0⟩ := lgr_s e
      obtain ⟨x1, e1, f1⟩ := lgi_s f0
      obtain ⟨x2, e2, f2⟩ := lgi_s f1
      obtain ⟨x3, e3, f3⟩ := lgi_s f2
      obtain ⟨x4, e4, f4⟩ := lgi_s f3
      obtain ⟨x5, e5, f5⟩ := lgi_s f4
      obtain ⟨x6, e6, f6⟩ := lgi_s f5
      obtain ⟨x7, e7, f7⟩ := lgi_s f6
      obtain ⟨x8, e8, f8⟩ := lgi_s f7
      obtain ⟨x11, e9, f9⟩ := lgi_s f8
      obtain ⟨qe, fe⟩ := pe_s f9
      subst qe
      exact MW.sub (List.forall_mem_cons.mpr ⟨lg_mem e0, List.forall_mem_cons.mpr ⟨lg_mem e1, List.forall_mem_cons.mpr ⟨lg_mem e2, List.forall_mem_cons.mpr ⟨lg_mem e3, List.forall_mem_cons.mpr ⟨lg_mem e4, List.forall_mem_cons.mpr ⟨lg_mem e5, List.forall_mem_cons.mpr ⟨lg_mem e6, List.forall_mem_cons.mpr ⟨lg_mem e7, List.forall_mem_cons.mpr ⟨lg_mem e8, List.forall_mem_cons.mpr ⟨lg_mem e9, fun _ h => absurd h List.not_mem_nil⟩⟩⟩⟩⟩⟩⟩⟩⟩⟩) (ih a0 x1 x2 x3 x4 x5 x6 x7 x8 x11 g fe)
    cases e
set_option maxRecDepth 100000 in
theorem t_X12_border_136 {X : Nat × (Nat → Int32)} (N : Nat) {q : Int32 × mH} {k117 : Nat → Int32 → Int32 → Int32 → Int32 → Int32 → Int32 → Int32 → Int32 → mH → Option (Int32 × mH)} (hk117 : ∀ (a0 : Nat) (x1 : Int32) (x2 : Int32) (x3 : Int32) (x4 : Int32) (x5 : Int32) (x6 : Int32) (x7 : Int32) (x8 : Int32) g, k117 a0 x1 x2 x3 x4 x5 x6 x7 x8 g = some q → MW X y_X12_border 5 117 [(0, .ref a0), (1, .int x1), (2, .int x2), (3, .int x3), (4, .int x4), (5, .int x5), (6, .int x6), (7, .int x7), (8, .int x8)] [] g (some (.int q.1)) q.2) : ∀ (n : Nat) (a0 : Nat) (x1 : Int32) (x2 : Int32) (x3 : Int32) (x4 : Int32) (x5 : Int32) (x6 : Int32) (x7 : Int32) (x8 : Int32) (x9 : Int32) (x10 : Int32) (x11 : Int32) (h : mH), L_X12_border_136 N k117 n a0 x1 x2 x3 x4 x5 x6 x7 x8 x9 x10 x11 h = some q → MW X y_X12_border 5 136 [(0, .ref a0), (1, .int x1), (2, .int x2), (3, .int x3), (4, .int x4), (5, .int x5), (6, .int x6), (7, .int x7), (8, .int x8), (9, .int x9), (10, .int x10), (11, .int x11)] [] h (some (.int q.1)) q.2 := by
  intro n
  induction n with
  | zero => intro a0 x1 x2 x3 x4 x5 x6 x7 x8 x9 x10 x11 h hf; cases hf
  | succ n ih =>
    intro a0 x1 x2 x3 x4 x5 x6 x7 x8 x9 x10 x11 h hf
    refine ev_ok (o := 12) (ini := false) (Cl := C_X12_border N) (Rc := RcI) (B := B_X12_border) (K := fun pc ls st g => kb pc 117 (lgr 0 ls fun a0 => lgi 1 ls fun x1 => lgi 2 ls fun x2 => lgi 3 ls fun x3 => lgi 4 ls fun x4 => lgi 5 ls fun x5 => lgi 6 ls fun x6 => lgi 7 ls fun x7 => lgi 8 ls fun x8 => pe st (k117 a0 x1 x2 x3 x4 x5 x6 x7 x8 g)) (kb pc 136 (lgr 0 ls fun a0 => lgi 1 ls fun x1 => lgi 2 ls fun x2 => lgi 3 ls fun x3 => lgi 4 ls fun x4 => lgi 5 ls fun x5 => lgi 6 ls fun x6 => lgi 7 ls fun x7 => lgi 8 ls fun x8 => lgi 9 ls fun x9 => lgi 10 ls fun x10 => lgi 11 ls fun x11 => pe st (L_X12_border_136 N k117 n a0 x1 x2 x3 x4 x5 x6 x7 x8 x9 x10 x11 g)) (kb pc 218 (lgr 0 ls fun a0 => lgi 1 ls fun x1 => lgi 2 ls fun x2 => lgi 3 ls fun x3 => lgi 4 ls fun x4 => lgi 5 ls fun x5 => lgi 6 ls fun x6 => lgi 7 ls fun x7 => lgi 8 ls fun x8 => lgi 11 ls fun x11 => pe st (L_X12_border_218 N k117 N a0 x1 x2 x3 x4 x5 x6 x7 x8 x11 g)) (none)))) rfl (fun e => by cases e) (by decide) (rcI_ok rfl) ?_ (co_X12_border N q) lb_X12_border 3000 136 S_X12_border_136 _ _ h ls_X12_border_136 hf
    intro pc ls st g e
    rcases kb_s e with ⟨rfl, e⟩ | e
    · obtain ⟨a0, e0, f0⟩ := lgr_s e
      obtain ⟨x1, e1, f1⟩ := lgi_s f0
      obtain ⟨x2, e2, f2⟩ := lgi_s f1
      obtain ⟨x3, e3, f3⟩ := lgi_s f2
      obtain ⟨x4, e4, f4⟩ := lgi_s f3
      obtain ⟨x5, e5, f5⟩ := lgi_s f4
      obtain ⟨x6, e6, f6⟩ := lgi_s f5
      obtain ⟨x7, e7, f7⟩ := lgi_s f6
      obtain ⟨x8, e8, f8⟩ := lgi_s f7
      obtain ⟨qe, fe⟩ := pe_s f8
      subst qe
      exact MW.sub (List.forall_mem_cons.mpr ⟨lg_mem e0, List.forall_mem_cons.mpr ⟨lg_mem e1, List.forall_mem_cons.mpr ⟨lg_mem e2, List.forall_mem_cons.mpr ⟨lg_mem e3, List.forall_mem_cons.mpr ⟨lg_mem e4, List.forall_mem_cons.mpr ⟨lg_mem e5, List.forall_mem_cons.mpr ⟨lg_mem e6, List.forall_mem_cons.mpr ⟨lg_mem e7, List.forall_mem_cons.mpr ⟨lg_mem e8, fun _ h => absurd h List.not_mem_nil⟩⟩⟩⟩⟩⟩⟩⟩⟩) (hk117 a0 x1 x2 x3 x4 x5 x6 x7 x8 g fe)
    rcases kb_s e with ⟨rfl, e⟩ | e
    · obtain ⟨a0, e0, f0⟩ := lgr_s e
      obtain ⟨x1, e1, f1⟩ := lgi_s f0
      obtain ⟨x2, e2, f2⟩ := lgi_s f1
      obtain ⟨x3, e3, f3⟩ := lgi_s f2
      obtain ⟨x4, e4, f4⟩ := lgi_s f3
      obtain ⟨x5, e5, f5⟩ := lgi_s f4
      obtain ⟨x6, e6, f6⟩ := lgi_s f5
      obtain ⟨x7, e7, f7⟩ := lgi_s f6
      obtain ⟨x8, e8, f8⟩ := lgi_s f7
      obtain ⟨x9, e9, f9⟩ := lgi_s f8
      obtain ⟨x10, e10, f10⟩ := lgi_s f9
      obtain ⟨x11, e11, f11⟩ := lgi_s f10
      obtain ⟨qe, fe⟩ := pe_s f11
      subst qe
      exact MW.sub (List.forall_mem_cons.mpr ⟨lg_mem e0, List.forall_mem_cons.mpr ⟨lg_mem e1, List.forall_mem_cons.mpr ⟨lg_mem e2, List.forall_mem_cons.mpr ⟨lg_mem e3, List.forall_mem_cons.mpr ⟨lg_mem e4, List.forall_mem_cons.mpr ⟨lg_mem e5, List.forall_mem_cons.mpr ⟨lg_mem e6, List.forall_mem_cons.mpr ⟨lg_mem e7, List.forall_mem_cons.mpr ⟨lg_mem e8, List.forall_mem_cons.mpr ⟨lg_mem e9, List.forall_mem_cons.mpr ⟨lg_mem e10, List.forall_mem_cons.mpr ⟨lg_mem e11, fun _ h => absurd h List.not_mem_nil⟩⟩⟩⟩⟩⟩⟩⟩⟩⟩⟩⟩) (ih a0 x1 x2 x3 x4 x5 x6 x7 x8 x9 x10 x11 g fe)
    rcases kb_s e with ⟨rfl, e⟩ | e
    · obtain ⟨a0, e0, f0⟩ := lgr_s e
      obtain ⟨x1, e1, f1⟩ := lgi_s f0
      obtain ⟨x2, e2, f2⟩ := lgi_s f1
      obtain ⟨x3, e3, f3⟩ := lgi_s f2
      obtain ⟨x4, e4, f4⟩ := lgi_s f3
      obtain ⟨x5, e5, f5⟩ := lgi_s f4
      obtain ⟨x6, e6, f6⟩ := lgi_s f5
      obtain ⟨x7, e7, f7⟩ := lgi_s f6
      obtain ⟨x8, e8, f8⟩ := lgi_s f7
      obtain ⟨x11, e9, f9⟩ := lgi_s f8
      obtain ⟨qe, fe⟩ := pe_s f9
      subst qe
      exact MW.sub (List.forall_mem_cons.mpr ⟨lg_mem e0, List.forall_mem_cons.mpr ⟨lg_mem e1, List.forall_mem_cons.mpr ⟨lg_mem e2, List.forall_mem_cons.mpr ⟨lg_mem e3, List.forall_mem_cons.mpr ⟨lg_mem e4, List.forall_mem_cons.mpr ⟨lg_mem e5, List.forall_mem_cons.mpr ⟨lg_mem e6, List.forall_mem_cons.mpr ⟨lg_mem e7, List.forall_mem_cons.mpr ⟨lg_mem e8, List.forall_mem_cons.mpr ⟨lg_mem e9, fun _ h => absurd h List.not_mem_nil⟩⟩⟩⟩⟩⟩⟩⟩⟩⟩) (t_X12_border_218 N hk117 N a0 x1 x2 x3 x4 x5 x6 x7 x8 x11 g fe)
    cases e
set_option maxRecDepth 100000 in
theorem t_X12_border_117 {X : Nat × (Nat → Int32)} (N : Nat) {q : Int32 × mH} : ∀ (n : Nat) (a0 : Nat) (x1 : Int32) (x2 : Int32) (x3 : Int32) (x4 : Int32) (x5 : Int32) (x6 : Int32) (x7 : Int32) (x8 : Int32) (h : mH), L_X12_border_117 N n a0 x1 x2 x3 x4 x5 x6 x7 x8 h = some q → MW X y_X12_border 5 117 [(0, .ref a0), (1, .int x1), (2, .int x2), (3, .int x3), (4, .int x4), (5, .int x5), (6, .int x6), (7, .int x7), (8, .int x8)] [] h (some (.int q.1)) q.2 := by
  intro n
  induction n with
  | zero => intro a0 x1 x2 x3 x4 x5 x6 x7 x8 h hf; cases hf
  | succ n ih =>
    intro a0 x1 x2 x3 x4 x5 x6 x7 x8 h hf
    refine ev_ok (o := 12) (ini := false) (Cl := C_X12_border N) (Rc := RcI) (B := B_X12_border) (K := fun pc ls st g => kb pc 136 (lgr 0 ls fun a0 => lgi 1 ls fun x1 => lgi 2 ls fun x2 => lgi 3 ls fun x3 => lgi 4 ls fun x4 => lgi 5 ls fun x5 => lgi 6 ls fun x6 => lgi 7 ls fun x7 => lgi 8 ls fun x8 => lgi 9 ls fun x9 => lgi 10 ls fun x10 => lgi 11 ls fun x11 => pe st (L_X12_border_136 N (L_X12_border_117 N n) N a0 x1 x2 x3 x4 x5 x6 x7 x8 x9 x10 x11 g)) (none)) rfl (fun e => by cases e) (by decide) (rcI_ok rfl) ?_ (co_X12_border N q) lb_X12_border 3000 117 S_X12_border_117 _ _ h ls_X12_border_117 hf
    intro pc ls st g e
    rcases kb_s e with ⟨rfl, e⟩ | e
    · obtain ⟨a0, e0, f0⟩ := lgr_s e
      obtain ⟨x1, e1, f1⟩ := lgi_s f0
      obtain ⟨x2, e2, f2⟩ := lgi_s f1
      obtain ⟨x3, e3, f3⟩ := lgi_s f2
      obtain ⟨x4, e4, f4⟩ := lgi_s f3
      obtain ⟨x5, e5, f5⟩ := lgi_s f4
      obtain ⟨x6, e6, f6⟩ := lgi_s f5
      obtain ⟨x7, e7, f7⟩ := lgi_s f6
      obtain ⟨x8, e8, f8⟩ := lgi_s f7
      obtain ⟨x9, e9, f9⟩ := lgi_s f8
      obtain ⟨x10, e10, f10⟩ := lgi_s f9
      obtain ⟨x11, e11, f11⟩ := lgi_s f10
      obtain ⟨qe, fe⟩ := pe_s f11
      subst qe
      exact MW.sub (List.forall_mem_cons.mpr ⟨lg_mem e0, List.forall_mem_cons.mpr ⟨lg_mem e1, List.forall_mem_cons.mpr ⟨lg_mem e2, List.forall_mem_cons.mpr ⟨lg_mem e3, List.forall_mem_cons.mpr ⟨lg_mem e4, List.forall_mem_cons.mpr ⟨lg_mem e5, List.forall_mem_cons.mpr ⟨lg_mem e6, List.forall_mem_cons.mpr ⟨lg_mem e7, List.forall_mem_cons.mpr ⟨lg_mem e8, List.forall_mem_cons.mpr ⟨lg_mem e9, List.forall_mem_cons.mpr ⟨lg_mem e10, List.forall_mem_cons.mpr ⟨lg_mem e11, fun _ h => absurd h List.not_mem_nil⟩⟩⟩⟩⟩⟩⟩⟩⟩⟩⟩⟩) (t_X12_border_136 N (fun a0 x1 x2 x3 x4 x5 x6 x7 x8 g e => ih a0 x1 x2 x3 x4 x5 x6 x7 x8 g e) N a0 x1 x2 x3 x4 x5 x6 x7 x8 x9 x10 x11 g fe)
    cases e
set_option maxRecDepth 100000 in
theorem t_X12_border_87 {X : Nat × (Nat → Int32)} (N : Nat) {q : Int32 × mH} : ∀ (n : Nat) (a0 : Nat) (x1 : Int32) (x2 : Int32) (x3 : Int32) (x4 : Int32) (x5 : Int32) (h : mH), L_X12_border_87 N n a0 x1 x2 x3 x4 x5 h = some q → MW X y_X12_border 5 87 [(0, .ref a0), (1, .int x1), (2, .int x2), (3, .int x3), (4, .int x4), (5, .int x5)] [] h (some (.int q.1)) q.2 := by
  intro n
  induction n with
  | zero => intro a0 x1 x2 x3 x4 x5 h hf; cases hf
  | succ n ih =>
    intro a0 x1 x2 x3 x4 x5 h hf
    refine ev_ok (o := 12) (ini := false) (Cl := C_X12_border N) (Rc := RcI) (B := B_X12_border) (K := fun pc ls st g => kb pc 87 (lgr 0 ls fun a0 => lgi 1 ls fun x1 => lgi 2 ls fun x2 => lgi 3 ls fun x3 => lgi 4 ls fun x4 => lgi 5 ls fun x5 => pe st (L_X12_border_87 N n a0 x1 x2 x3 x4 x5 g)) (kb pc 117 (lgr 0 ls fun a0 => lgi 1 ls fun x1 => lgi 2 ls fun x2 => lgi 3 ls fun x3 => lgi 4 ls fun x4 => lgi 5 ls fun x5 => lgi 6 ls fun x6 => lgi 7 ls fun x7 => lgi 8 ls fun x8 => pe st (L_X12_border_117 N N a0 x1 x2 x3 x4 x5 x6 x7 x8 g)) (none))) rfl (fun e => by cases e) (by decide) (rcI_ok rfl) ?_ (co_X12_border N q) lb_X12_border 3000 87 S_X12_border_87 _ _ h ls_X12_border_87 hf
    intro pc ls st g e
    rcases kb_s e with ⟨rfl, e⟩ | e
    · obtain ⟨a0, e0, f0⟩ := lgr_s e
      obtain ⟨x1, e1, f1⟩ := lgi_s f0
      obtain ⟨x2, e2, f2⟩ := lgi_s f1
      obtain ⟨x3, e3, f3⟩ := lgi_s f2
      obtain ⟨x4, e4, f4⟩ := lgi_s f3
      obtain ⟨x5, e5, f5⟩ := lgi_s f4
      obtain ⟨qe, fe⟩ := pe_s f5
      subst qe
      exact MW.sub (List.forall_mem_cons.mpr ⟨lg_mem e0, List.forall_mem_cons.mpr ⟨lg_mem e1, List.forall_mem_cons.mpr ⟨lg_mem e2, List.forall_mem_cons.mpr ⟨lg_mem e3, List.forall_mem_cons.mpr ⟨lg_mem e4, List.forall_mem_cons.mpr ⟨lg_mem e5, fun _ h => absurd h List.not_mem_nil⟩⟩⟩⟩⟩⟩) (ih a0 x1 x2 x3 x4 x5 g fe)
    rcases kb_s e with ⟨rfl, e⟩ | e
    · obtain ⟨a0, e0, f0⟩ := lgr_s e
      obtain ⟨x1, e1, f1⟩ := lgi_s f0
      obtain ⟨x2, e2, f2⟩ := lgi_s f1
      obtain ⟨x3, e3, f3⟩ := lgi_s f2
      obtain ⟨x4, e4, f4⟩ := lgi_s f3
      obtain ⟨x5, e5, f5⟩ := lgi_s f4
      obtain ⟨x6, e6, f6⟩ := lgi_s f5
      obtain ⟨x7, e7, f7⟩ := lgi_s f6
      obtain ⟨x8, e8, f8⟩ := lgi_s f7
      obtain ⟨qe, fe⟩ := pe_s f8
      subst qe
      exact MW.sub (List.forall_mem_cons.mpr ⟨lg_mem e0, List.forall_mem_cons.mpr ⟨lg_mem e1, List.forall_mem_cons.mpr ⟨lg_mem e2, List.forall_mem_cons.mpr ⟨lg_mem e3, List.forall_mem_cons.mpr ⟨lg_mem e4, List.forall_mem_cons.mpr ⟨lg_mem e5, List.forall_mem_cons.mpr ⟨lg_mem e6, List.forall_mem_cons.mpr ⟨lg_mem e7, List.forall_mem_cons.mpr ⟨lg_mem e8, fun _ h => absurd h List.not_mem_nil⟩⟩⟩⟩⟩⟩⟩⟩⟩) (t_X12_border_117 N N a0 x1 x2 x3 x4 x5 x6 x7 x8 g fe)
    cases e
set_option maxRecDepth 100000 in
theorem m_X12_border (N : Nat) {a0 : Nat} {x1 : Int32} {x2 : Int32} {x3 : Int32} {h : mH} {q : Int32 × mH} (hf : f_X12_border N a0 x1 x2 x3 h = some q) : MM y_X12_border 5 [.ref a0, .int x1, .int x2, .int x3] h (some (.int q.1)) q.2 := by
  refine MM.of (mFx (j := 330) rfl).2.2.2.1 (Nat.le_of_ble_eq_true rfl) (fun X => ?_)
  refine ev_ok (o := 12) (ini := false) (Cl := C_X12_border N) (Rc := RcI) (B := B_X12_border) (K := fun pc ls st g => kb pc 87 (lgr 0 ls fun a0 => lgi 1 ls fun x1 => lgi 2 ls fun x2 => lgi 3 ls fun x3 => lgi 4 ls fun x4 => lgi 5 ls fun x5 => pe st (L_X12_border_87 N N a0 x1 x2 x3 x4 x5 g)) (none)) rfl (fun e => by cases e) (by decide) (rcI_ok rfl) ?_ (co_X12_border N q) lb_X12_border 3000 0 S_X12_border_0 _ _ h ls_X12_border_0 hf
  intro pc ls st g e
  rcases kb_s e with ⟨rfl, e⟩ | e
  · obtain ⟨a0, e0, f0⟩ := lgr_s e
    obtain ⟨x1, e1, f1⟩ := lgi_s f0
    obtain ⟨x2, e2, f2⟩ := lgi_s f1
    obtain ⟨x3, e3, f3⟩ := lgi_s f2
    obtain ⟨x4, e4, f4⟩ := lgi_s f3
    obtain ⟨x5, e5, f5⟩ := lgi_s f4
    obtain ⟨qe, fe⟩ := pe_s f5
    subst qe
    exact MW.sub (List.forall_mem_cons.mpr ⟨lg_mem e0, List.forall_mem_cons.mpr ⟨lg_mem e1, List.forall_mem_cons.mpr ⟨lg_mem e2, List.forall_mem_cons.mpr ⟨lg_mem e3, List.forall_mem_cons.mpr ⟨lg_mem e4, List.forall_mem_cons.mpr ⟨lg_mem e5, fun _ h => absurd h List.not_mem_nil⟩⟩⟩⟩⟩⟩) (t_X12_border_87 N N a0 x1 x2 x3 x4 x5 g fe)
  cases e
def f_X12_ways (N : Nat) (a0 : Nat) (x1 : Int32) (x2 : Int32) (h : mH) : Option (Int32 × mH) :=
  (pV h 12 a0 0 (.int (jI 0))).bind fun h1 =>
  (f_X12_within N x1.toInt64 (jL 0) (jL 7) h1).bind fun p2 =>
  if p2.1 = 0 then
    (rcv p2.2 12 a0).bind fun _ =>
    (f_X12_no N a0 (jI (-2)) p2.2).bind fun p3 =>
    some (p3.1, p3.2)
  else
    (f_X12_within N x2.toInt64 (jL (-1)) (jL 255) p2.2).bind fun p4 =>
    if p4.1 = 0 then
      (rcv p4.2 12 a0).bind fun _ =>
      (f_X12_no N a0 (jI (-3)) p4.2).bind fun p5 =>
      some (p5.1, p5.2)
    else
      (gR p4.2 12 a0 2).bind fun v6 =>
      (ldI 0 p4.2 v6 (iAdd (jI 657) x1)).bind fun v7 =>
      (gR p4.2 12 a0 2).bind fun v8 =>
      (stI 0 p4.2 v8 (iAdd (jI 657) x1) x2).bind fun h9 =>
      some (v7, h9)
def y_X12_ways : mM := (yX12_ways, cX12_ways, 4, (some .int))
def B_X12_ways : List (Nat × List mI) := [(24, [(.iload_n 2, 1, [2], []), (.i2l, 1, [], []), (.ldc2_w 314, 3, [16], [-1]), (.ldc2_w 367, 3, [22], [255]), (.invokestatic 147, 3, [1, 225, 3, 0, 269], []), (.ifCond .ne 10, 3, [45], []), (.aload_n 0, 1, [0], []), (.bipush (-3), 2, [], [-3]), (.invokevirtual 84, 3, [0, 224, 1, 12, 267], []), (.ireturn, 1, [], [])]), (45, [(.aload_n 0, 1, [0], []), (.getfield 17, 3, [12, 2, 2, 128], []), (.sipush 657, 3, [], [657]), (.iload_n 1, 1, [1], []), (.iadd, 1, [], []), (.iaload, 1, [0], []), (.istore_n 3, 1, [3], []), (.aload_n 0, 1, [0], []), (.getfield 17, 3, [12, 2, 2, 128], []), (.sipush 657, 3, [], [657]), (.iload_n 1, 1, [1], []), (.iadd, 1, [], []), (.iload_n 2, 1, [2], []), (.iastore, 1, [], []), (.iload_n 3, 1, [3], []), (.ireturn, 1, [], [])])]
def S_X12_ways_0 : List mI := [(.aload_n 0, 1, [0], []), (.iconst 0, 1, [], [0]), (.putfield 1, 3, [12, 0, 0, 126], []), (.iload_n 1, 1, [1], []), (.i2l, 1, [], []), (.lconst 0, 1, [], [0]), (.ldc2_w 331, 3, [18], [7]), (.invokestatic 147, 3, [1, 225, 3, 0, 269], []), (.ifCond .ne 10, 3, [24], []), (.aload_n 0, 1, [0], []), (.bipush (-2), 2, [], [-2]), (.invokevirtual 84, 3, [0, 224, 1, 12, 267], []), (.ireturn, 1, [], [])]
theorem lb_X12_ways : B_X12_ways.all (fun b => lst y_X12_ways.2.1 12 y_X12_ways.2.2.1 false b.1 b.2) = true := by decide +kernel
theorem ls_X12_ways_0 : lst y_X12_ways.2.1 12 y_X12_ways.2.2.1 false 0 S_X12_ways_0 = true := by decide +kernel
def C_X12_ways (N : Nat) : Nat → List Value → mH → (Option Value → mH → Option (Int32 × mH)) → Option (Int32 × mH) := fun j as g k => kb j 225 (pl1 as fun b0 as => pl1 as fun b1 as => pl1 as fun b2 as => pe as ((f_X12_within N b0 b1 b2 g).bind fun p => k (some (.int p.1)) p.2)) (kb j 224 (pr1 as fun b0 as => pp1 as fun b1 as => pe as ((f_X12_no N b0 b1 g).bind fun p => k (some (.int p.1)) p.2)) (none))
theorem co_X12_ways (N : Nat) (q : Int32 × mH) : clOK 5 q (C_X12_ways N) := by
  intro j as g k e
  rcases kb_s e with ⟨rfl, e⟩ | e
  · obtain ⟨b0, r0, q0, f0⟩ := pl1_s e
    obtain ⟨b1, r1, q1, f1⟩ := pl1_s f0
    obtain ⟨b2, r2, q2, f2⟩ := pl1_s f1
    obtain ⟨qe, fe⟩ := pe_s f2
    obtain ⟨p, e1, e2⟩ := bnd_s fe
    subst qe
    subst q2
    subst q1
    subst q0
    exact ⟨_, _, _, _, 4, rfl, (by decide), m_X12_within N e1, e2⟩
  rcases kb_s e with ⟨rfl, e⟩ | e
  · obtain ⟨b0, r0, q0, f0⟩ := pr1_s e
    obtain ⟨b1, r1, q1, f1⟩ := pp1_s f0
    obtain ⟨qe, fe⟩ := pe_s f1
    obtain ⟨p, e1, e2⟩ := bnd_s fe
    subst qe
    subst q1
    subst q0
    exact ⟨_, _, _, _, 4, rfl, (by decide), m_X12_no N e1, e2⟩
  cases e
set_option maxRecDepth 100000 in
theorem m_X12_ways (N : Nat) {a0 : Nat} {x1 : Int32} {x2 : Int32} {h : mH} {q : Int32 × mH} (hf : f_X12_ways N a0 x1 x2 h = some q) : MM y_X12_ways 5 [.ref a0, .int x1, .int x2] h (some (.int q.1)) q.2 := by
  refine MM.of (mFx (j := 331) rfl).2.2.2.1 (Nat.le_of_ble_eq_true rfl) (fun X => ?_)
  refine ev_ok (o := 12) (ini := false) (Cl := C_X12_ways N) (Rc := RcI) (B := B_X12_ways) (K := fun pc ls st g => none) rfl (fun e => by cases e) (by decide) (rcI_ok rfl) ?_ (co_X12_ways N q) lb_X12_ways 3000 0 S_X12_ways_0 _ _ h ls_X12_ways_0 hf
  intro pc ls st g e
  cases e
def L_X12_bitsOf_4 (N : Nat) : Nat → Int32 → Int32 → Int32 → mH → Option (Int32 × mH)
  | 0, _, _, _, _ => none
  | n + 1, x0, x1, x2, h =>
    if x2 < (jI 8) then
      let w1 := iAdd x1 (iAnd (iShr x0 x2) (jI 1))
      let w2 := iAdd x2 (jI 1)
      L_X12_bitsOf_4 N n x0 w1 w2 h
    else
      some (x1, h)
def f_X12_bitsOf (N : Nat) (x0 : Int32) (h : mH) : Option (Int32 × mH) :=
  L_X12_bitsOf_4 N N x0 (jI 0) (jI 0) h
def y_X12_bitsOf : mM := (yX12_bitsOf, cX12_bitsOf, 3, (some .int))
def B_X12_bitsOf : List (Nat × List mI) := [(24, [(.iload_n 1, 1, [1], []), (.ireturn, 1, [], [])])]
def S_X12_bitsOf_0 : List mI := [(.iconst 0, 1, [], [0]), (.istore_n 1, 1, [1], []), (.iconst 0, 1, [], [0]), (.istore_n 2, 1, [2], [])]
def S_X12_bitsOf_4 : List mI := [(.iload_n 2, 1, [2], []), (.bipush 8, 2, [], [8]), (.if_icmp .ge 17, 3, [24], []), (.iload_n 1, 1, [1], []), (.iload_n 0, 1, [0], []), (.iload_n 2, 1, [2], []), (.ishr, 1, [], []), (.iconst 1, 1, [], [1]), (.iand, 1, [], []), (.iadd, 1, [], []), (.istore_n 1, 1, [1], []), (.iinc 2 1, 3, [2], [1]), (.goto (-17), 3, [4], [])]
theorem lb_X12_bitsOf : B_X12_bitsOf.all (fun b => lst y_X12_bitsOf.2.1 12 y_X12_bitsOf.2.2.1 false b.1 b.2) = true := by decide +kernel
theorem ls_X12_bitsOf_0 : lst y_X12_bitsOf.2.1 12 y_X12_bitsOf.2.2.1 false 0 S_X12_bitsOf_0 = true := by decide +kernel
theorem ls_X12_bitsOf_4 : lst y_X12_bitsOf.2.1 12 y_X12_bitsOf.2.2.1 false 4 S_X12_bitsOf_4 = true := by decide +kernel
def C_X12_bitsOf (N : Nat) : Nat → List Value → mH → (Option Value → mH → Option (Int32 × mH)) → Option (Int32 × mH) := fun j as g k => none
theorem co_X12_bitsOf (N : Nat) (q : Int32 × mH) : clOK 4 q (C_X12_bitsOf N) := by
  intro j as g k e
  cases e
set_option maxRecDepth 100000 in
theorem t_X12_bitsOf_4 {X : Nat × (Nat → Int32)} (N : Nat) {q : Int32 × mH} : ∀ (n : Nat) (x0 : Int32) (x1 : Int32) (x2 : Int32) (h : mH), L_X12_bitsOf_4 N n x0 x1 x2 h = some q → MW X y_X12_bitsOf 4 4 [(0, .int x0), (1, .int x1), (2, .int x2)] [] h (some (.int q.1)) q.2 := by
  intro n
  induction n with
  | zero => intro x0 x1 x2 h hf; cases hf
  | succ n ih =>
    intro x0 x1 x2 h hf
    refine ev_ok (o := 12) (ini := false) (Cl := C_X12_bitsOf N) (Rc := RcI) (B := B_X12_bitsOf) (K := fun pc ls st g => kb pc 4 (lgi 0 ls fun x0 => lgi 1 ls fun x1 => lgi 2 ls fun x2 => pe st (L_X12_bitsOf_4 N n x0 x1 x2 g)) (none)) rfl (fun e => by cases e) (by decide) (rcI_ok rfl) ?_ (co_X12_bitsOf N q) lb_X12_bitsOf 3000 4 S_X12_bitsOf_4 _ _ h ls_X12_bitsOf_4 hf
    intro pc ls st g e
    rcases kb_s e with ⟨rfl, e⟩ | e
    · obtain ⟨x0, e0, f0⟩ := lgi_s e
      obtain ⟨x1, e1, f1⟩ := lgi_s f0
      obtain ⟨x2, e2, f2⟩ := lgi_s f1
      obtain ⟨qe, fe⟩ := pe_s f2
      subst qe
      exact MW.sub (List.forall_mem_cons.mpr ⟨lg_mem e0, List.forall_mem_cons.mpr ⟨lg_mem e1, List.forall_mem_cons.mpr ⟨lg_mem e2, fun _ h => absurd h List.not_mem_nil⟩⟩⟩) (ih x0 x1 x2 g fe)
    cases e
set_option maxRecDepth 100000 in
theorem m_X12_bitsOf (N : Nat) {x0 : Int32} {h : mH} {q : Int32 × mH} (hf : f_X12_bitsOf N x0 h = some q) : MM y_X12_bitsOf 4 [.int x0] h (some (.int q.1)) q.2 := by
  refine MM.of (mFx (j := 332) rfl).2.2.2.1 (Nat.le_of_ble_eq_true rfl) (fun X => ?_)
  refine ev_ok (o := 12) (ini := false) (Cl := C_X12_bitsOf N) (Rc := RcI) (B := B_X12_bitsOf) (K := fun pc ls st g => kb pc 4 (lgi 0 ls fun x0 => lgi 1 ls fun x1 => lgi 2 ls fun x2 => pe st (L_X12_bitsOf_4 N N x0 x1 x2 g)) (none)) rfl (fun e => by cases e) (by decide) (rcI_ok rfl) ?_ (co_X12_bitsOf N q) lb_X12_bitsOf 3000 0 S_X12_bitsOf_0 _ _ h ls_X12_bitsOf_0 hf
  intro pc ls st g e
  rcases kb_s e with ⟨rfl, e⟩ | e
  · obtain ⟨x0, e0, f0⟩ := lgi_s e
    obtain ⟨x1, e1, f1⟩ := lgi_s f0
    obtain ⟨x2, e2, f2⟩ := lgi_s f1
    obtain ⟨qe, fe⟩ := pe_s f2
    subst qe
    exact MW.sub (List.forall_mem_cons.mpr ⟨lg_mem e0, List.forall_mem_cons.mpr ⟨lg_mem e1, List.forall_mem_cons.mpr ⟨lg_mem e2, fun _ h => absurd h List.not_mem_nil⟩⟩⟩) (t_X12_bitsOf_4 N N x0 x1 x2 g fe)
  cases e
def L_X12_teaches_83 (N : Nat) (k73 : Nat → Int32 → Int32 → Int32 → Int32 → Int32 → Int32 → mH → Option (Int32 × mH)) : Nat → Nat → Int32 → Int32 → Int32 → Int32 → Int32 → Int32 → Int32 → mH → Option (Int32 × mH)
  | 0, _, _, _, _, _, _, _, _, _ => none
  | n + 1, a0, x1, x2, x3, x4, x5, x6, x7, h =>
    if x7 < (jI 8) then
      if (iAnd (iShr x1 x6) (jI 1)) = 0 then
        let w1 := iAdd x7 (jI 1)
        L_X12_teaches_83 N k73 n a0 x1 x2 x3 x4 x5 x6 w1 h
      else
        if (iAnd (iShr x1 x7) (jI 1)) = (jI 1) then
          let w2 := iAdd x7 (jI 1)
          L_X12_teaches_83 N k73 n a0 x1 x2 x3 x4 x5 x6 w2 h
        else
          (gR h 12 a0 2).bind fun v3 =>
          (ldI 0 h v3 (iAdd (jI 657) x7)).bind fun v4 =>
          if v4 = (jI (-1)) then
            let w5 := iAdd x7 (jI 1)
            L_X12_teaches_83 N k73 n a0 x1 x2 x3 x4 x5 x6 w5 h
          else
            (gR h 12 a0 2).bind fun v6 =>
            (ldI 0 h v6 (iAdd (jI 657) x6)).bind fun v7 =>
            (gR h 12 a0 2).bind fun v8 =>
            (ldI 0 h v8 (iAdd (jI 657) x7)).bind fun v9 =>
            (f_X12_bitsOf N (iXor v7 v9) h).bind fun p10 =>
            if p10.1 < x5 then
              let w11 := iAdd x7 (jI 1)
              L_X12_teaches_83 N k73 n a0 x1 x2 x6 x7 p10.1 x6 w11 p10.2
            else
              let w12 := iAdd x7 (jI 1)
              L_X12_teaches_83 N k73 n a0 x1 x2 x3 x4 x5 x6 w12 p10.2
    else
      let w13 := iAdd x6 (jI 1)
      k73 a0 x1 x2 x3 x4 x5 w13 h
def L_X12_teaches_73 (N : Nat) (k56 : Nat → Int32 → Int32 → Int32 → mH → Option (Int32 × mH)) : Nat → Nat → Int32 → Int32 → Int32 → Int32 → Int32 → Int32 → mH → Option (Int32 × mH)
  | 0, _, _, _, _, _, _, _, _ => none
  | n + 1, a0, x1, x2, x3, x4, x5, x6, h =>
    if x6 < (jI 8) then
      L_X12_teaches_83 N (L_X12_teaches_73 N k56 n) N a0 x1 x2 x3 x4 x5 x6 (jI 0) h
    else
      if x3 = (jI (-1)) then
        k56 a0 x1 x2 x3 h
      else
        (gR h 12 a0 33).bind fun v1 =>
        (stI 0 h v1 x4 x3).bind fun h2 =>
        let w3 := iOr x1 (iShl (jI 1) x4)
        let w4 := iAdd x2 x5
        k56 a0 w3 w4 x3 h2
def L_X12_teaches_56 (N : Nat) : Nat → Nat → Int32 → Int32 → Int32 → mH → Option (Int32 × mH)
  | 0, _, _, _, _, _ => none
  | n + 1, a0, x1, x2, x3, h =>
    if x3 = (jI (-1)) then
      some (x2, h)
    else
      L_X12_teaches_73 N (L_X12_teaches_56 N n) N a0 x1 x2 (jI (-1)) (jI (-1)) (jI 9) (jI 0) h
def L_X12_teaches_5 (N : Nat) : Nat → Nat → Int32 → Int32 → mH → Option (Int32 × mH)
  | 0, _, _, _, _ => none
  | n + 1, a0, x1, x2, h =>
    if x2 < 0 then
      if x1 = 0 then
        L_X12_teaches_56 N N a0 x1 (jI 0) (jI (-1)) h
      else
        L_X12_teaches_56 N N a0 x1 (jI 0) (jI 0) h
    else
      (gR h 12 a0 33).bind fun v1 =>
      (stI 0 h v1 x2 (jI (-1))).bind fun h2 =>
      (gR h2 12 a0 2).bind fun v3 =>
      (ldI 0 h2 v3 (iAdd (jI 657) x2)).bind fun v4 =>
      if v4 = (jI (-1)) then
        let w5 := iAdd x2 (jI (-1))
        L_X12_teaches_5 N n a0 x1 w5 h2
      else
        let w6 := iShl (jI 1) x2
        let w7 := iAdd x2 (jI (-1))
        L_X12_teaches_5 N n a0 w6 w7 h2
def f_X12_teaches (N : Nat) (a0 : Nat) (h : mH) : Option (Int32 × mH) :=
  L_X12_teaches_5 N N a0 (jI 0) (jI 7) h
def y_X12_teaches : mM := (yX12_teaches, cX12_teaches, 9, (some .int))
def B_X12_teaches : List (Nat × List mI) := [(34, [(.iconst 1, 1, [], [1]), (.iload_n 2, 1, [2], []), (.ishl, 1, [], [])]), (37, [(.istore_n 1, 1, [1], []), (.iinc 2 (-1), 3, [2], [-1]), (.goto (-36), 3, [5], [])]), (44, [(.iconst 0, 1, [], [0]), (.istore_n 2, 1, [2], []), (.iload_n 1, 1, [1], []), (.ifCond .ne 7, 3, [54], []), (.iconst (-1), 1, [], [-1]), (.goto 4, 3, [55], [])]), (54, [(.iconst 0, 1, [], [0])]), (55, [(.istore_n 3, 1, [3], [])]), (127, [(.aload_n 0, 1, [0], []), (.getfield 17, 3, [12, 2, 2, 128], []), (.sipush 657, 3, [], [657]), (.iload 6, 2, [6], []), (.iadd, 1, [], []), (.iaload, 1, [0], []), (.aload_n 0, 1, [0], []), (.getfield 17, 3, [12, 2, 2, 128], []), (.sipush 657, 3, [], [657]), (.iload 7, 2, [7], []), (.iadd, 1, [], []), (.iaload, 1, [0], []), (.ixor, 1, [], []), (.invokestatic 369, 3, [1, 332, 1, 0, 374], []), (.istore 8, 2, [8], []), (.iload 8, 2, [8], []), (.iload 5, 2, [5], []), (.if_icmp .lt 6, 3, [165], []), (.goto 14, 3, [176], [])]), (165, [(.iload 8, 2, [8], []), (.istore 5, 2, [5], []), (.iload 6, 2, [6], []), (.istore_n 3, 1, [3], []), (.iload 7, 2, [7], []), (.istore 4, 2, [4], [])]), (176, [(.iinc 7 1, 3, [7], [1]), (.goto (-96), 3, [83], [])]), (182, [(.iinc 6 1, 3, [6], [1]), (.goto (-112), 3, [73], [])]), (188, [(.iload_n 3, 1, [3], []), (.iconst (-1), 1, [], [-1]), (.if_icmp .ne 6, 3, [196], []), (.goto (-137), 3, [56], [])]), (196, [(.aload_n 0, 1, [0], []), (.getfield 65, 3, [12, 33, 2, 159], []), (.iload 4, 2, [4], []), (.iload_n 3, 1, [3], []), (.iastore, 1, [], []), (.iload_n 1, 1, [1], []), (.iconst 1, 1, [], [1]), (.iload 4, 2, [4], []), (.ishl, 1, [], []), (.ior, 1, [], []), (.istore_n 1, 1, [1], []), (.iload_n 2, 1, [2], []), (.iload 5, 2, [5], []), (.iadd, 1, [], []), (.istore_n 2, 1, [2], []), (.goto (-160), 3, [56], [])]), (219, [(.iload_n 2, 1, [2], []), (.ireturn, 1, [], [])])]
def S_X12_teaches_0 : List mI := [(.iconst 0, 1, [], [0]), (.istore_n 1, 1, [1], []), (.bipush 7, 2, [], [7]), (.istore_n 2, 1, [2], [])]
def S_X12_teaches_5 : List mI := [(.iload_n 2, 1, [2], []), (.ifCond .lt 38, 3, [44], []), (.aload_n 0, 1, [0], []), (.getfield 65, 3, [12, 33, 2, 159], []), (.iload_n 2, 1, [2], []), (.iconst (-1), 1, [], [-1]), (.iastore, 1, [], []), (.aload_n 0, 1, [0], []), (.getfield 17, 3, [12, 2, 2, 128], []), (.sipush 657, 3, [], [657]), (.iload_n 2, 1, [2], []), (.iadd, 1, [], []), (.iaload, 1, [0], []), (.iconst (-1), 1, [], [-1]), (.if_icmp .ne 7, 3, [34], []), (.iload_n 1, 1, [1], []), (.goto 6, 3, [37], [])]
def S_X12_teaches_56 : List mI := [(.iload_n 3, 1, [3], []), (.iconst (-1), 1, [], [-1]), (.if_icmp .eq 161, 3, [219], []), (.iconst (-1), 1, [], [-1]), (.istore_n 3, 1, [3], []), (.iconst (-1), 1, [], [-1]), (.istore 4, 2, [4], []), (.bipush 9, 2, [], [9]), (.istore 5, 2, [5], []), (.iconst 0, 1, [], [0]), (.istore 6, 2, [6], [])]
def S_X12_teaches_73 : List mI := [(.iload 6, 2, [6], []), (.bipush 8, 2, [], [8]), (.if_icmp .ge 111, 3, [188], []), (.iconst 0, 1, [], [0]), (.istore 7, 2, [7], [])]
def S_X12_teaches_83 : List mI := [(.iload 7, 2, [7], []), (.bipush 8, 2, [], [8]), (.if_icmp .ge 95, 3, [182], []), (.iload_n 1, 1, [1], []), (.iload 6, 2, [6], []), (.ishr, 1, [], []), (.iconst 1, 1, [], [1]), (.iand, 1, [], []), (.ifCond .eq 80, 3, [176], []), (.iload_n 1, 1, [1], []), (.iload 7, 2, [7], []), (.ishr, 1, [], []), (.iconst 1, 1, [], [1]), (.iand, 1, [], []), (.iconst 1, 1, [], [1]), (.if_icmp .eq 70, 3, [176], []), (.aload_n 0, 1, [0], []), (.getfield 17, 3, [12, 2, 2, 128], []), (.sipush 657, 3, [], [657]), (.iload 7, 2, [7], []), (.iadd, 1, [], []), (.iaload, 1, [0], []), (.iconst (-1), 1, [], [-1]), (.if_icmp .ne 6, 3, [127], []), (.goto 52, 3, [176], [])]
theorem lb_X12_teaches : B_X12_teaches.all (fun b => lst y_X12_teaches.2.1 12 y_X12_teaches.2.2.1 false b.1 b.2) = true := by decide +kernel
theorem ls_X12_teaches_0 : lst y_X12_teaches.2.1 12 y_X12_teaches.2.2.1 false 0 S_X12_teaches_0 = true := by decide +kernel
theorem ls_X12_teaches_5 : lst y_X12_teaches.2.1 12 y_X12_teaches.2.2.1 false 5 S_X12_teaches_5 = true := by decide +kernel
theorem ls_X12_teaches_56 : lst y_X12_teaches.2.1 12 y_X12_teaches.2.2.1 false 56 S_X12_teaches_56 = true := by decide +kernel
theorem ls_X12_teaches_73 : lst y_X12_teaches.2.1 12 y_X12_teaches.2.2.1 false 73 S_X12_teaches_73 = true := by decide +kernel
theorem ls_X12_teaches_83 : lst y_X12_teaches.2.1 12 y_X12_teaches.2.2.1 false 83 S_X12_teaches_83 = true := by decide +kernel
def C_X12_teaches (N : Nat) : Nat → List Value → mH → (Option Value → mH → Option (Int32 × mH)) → Option (Int32 × mH) := fun j as g k => kb j 332 (pp1 as fun b0 as => pe as ((f_X12_bitsOf N b0 g).bind fun p => k (some (.int p.1)) p.2)) (none)
theorem co_X12_teaches (N : Nat) (q : Int32 × mH) : clOK 5 q (C_X12_teaches N) := by
  intro j as g k e
  rcases kb_s e with ⟨rfl, e⟩ | e
  · obtain ⟨b0, r0, q0, f0⟩ := pp1_s e
    obtain ⟨qe, fe⟩ := pe_s f0
    obtain ⟨p, e1, e2⟩ := bnd_s fe
    subst qe
    subst q0
    exact ⟨_, _, _, _, 4, rfl, (by decide), m_X12_bitsOf N e1, e2⟩
  cases e
set_option maxRecDepth 100000 in
theorem t_X12_teaches_83 {X : Nat × (Nat → Int32)} (N : Nat) {q : Int32 × mH} {k73 : Nat → Int32 → Int32 → Int32 → Int32 → Int32 → Int32 → mH → Option (Int32 × mH)} (hk73 : ∀ (a0 : Nat) (x1 : Int32) (x2 : Int32) (x3 : Int32) (x4 : Int32) (x5 : Int32) (x6 : Int32) g, k73 a0 x1 x2 x3 x4 x5 x6 g = some q → MW X y_X12_teaches 5 73 [(0, .ref a0), (1, .int x1), (2, .int x2), (3, .int x3), (4, .int x4), (5, .int x5), (6, .int x6)] [] g (some (.int q.1)) q.2) : ∀ (n : Nat) (a0 : Nat) (x1 : Int32) (x2 : Int32) (x3 : Int32) (x4 : Int32) (x5 : Int32) (x6 : Int32) (x7 : Int32) (h : mH), L_X12_teaches_83 N k73 n a0 x1 x2 x3 x4 x5 x6 x7 h = some q → MW X y_X12_teaches 5 83 [(0, .ref a0), (1, .int x1), (2, .int x2), (3, .int x3), (4, .int x4), (5, .int x5), (6, .int x6), (7, .int x7)] [] h (some (.int q.1)) q.2 := by
  intro n
  induction n with
  | zero => intro a0 x1 x2 x3 x4 x5 x6 x7 h hf; cases hf
  | succ n ih =>
    intro a0 x1 x2 x3 x4 x5 x6 x7 h hf
    refine ev_ok (o := 12) (ini := false) (Cl := C_X12_teaches N) (Rc := RcI) (B := B_X12_teaches) (K := fun pc ls st g => kb pc 73 (lgr 0 ls fun a0 => lgi 1 ls fun x1 => lgi 2 ls fun x2 => lgi 3 ls fun x3 => lgi 4 ls fun x4 => lgi 5 ls fun x5 => lgi 6 ls fun x6 => pe st (k73 a0 x1 x2 x3 x4 x5 x6 g)) (kb pc 83 (lgr 0 ls fun a0 => lgi 1 ls fun x1 => lgi 2 ls fun x2 => lgi 3 ls fun x3 => lgi 4 ls fun x4 => lgi 5 ls fun x5 => lgi 6 ls fun x6 => lgi 7 ls fun x7 => pe st (L_X12_teaches_83 N k73 n a0 x1 x2 x3 x4 x5 x6 x7 g)) (none))) rfl (fun e => by cases e) (by decide) (rcI_ok rfl) ?_ (co_X12_teaches N q) lb_X12_teaches 3000 83 S_X12_teaches_83 _ _ h ls_X12_teaches_83 hf
    intro pc ls st g e
    rcases kb_s e with ⟨rfl, e⟩ | e
    · obtain ⟨a0, e0, f0⟩ := lgr_s e
      obtain ⟨x1, e1, f1⟩ := lgi_s f0
      obtain ⟨x2, e2, f2⟩ := lgi_s f1
      obtain ⟨x3, e3, f3⟩ := lgi_s f2
      obtain ⟨x4, e4, f4⟩ := lgi_s f3
      obtain ⟨x5, e5, f5⟩ := lgi_s f4
      obtain ⟨x6, e6, f6⟩ := lgi_s f5
      obtain ⟨qe, fe⟩ := pe_s f6
      subst qe
      exact MW.sub (List.forall_mem_cons.mpr ⟨lg_mem e0, List.forall_mem_cons.mpr ⟨lg_mem e1, List.forall_mem_cons.mpr ⟨lg_mem e2, List.forall_mem_cons.mpr ⟨lg_mem e3, List.forall_mem_cons.mpr ⟨lg_mem e4, List.forall_mem_cons.mpr ⟨lg_mem e5, List.forall_mem_cons.mpr ⟨lg_mem e6, fun _ h => absurd h List.not_mem_nil⟩⟩⟩⟩⟩⟩⟩) (hk73 a0 x1 x2 x3 x4 x5 x6 g fe)
    rcases kb_s e with ⟨rfl, e⟩ | e
    · obtain ⟨a0, e0, f0⟩ := lgr_s e
      obtain ⟨x1, e1, f1⟩ := lgi_s f0
      obtain ⟨x2, e2, f2⟩ := lgi_s f1
      obtain ⟨x3, e3, f3⟩ := lgi_s f2
      obtain ⟨x4, e4, f4⟩ := lgi_s f3
      obtain ⟨x5, e5, f5⟩ := lgi_s f4
      obtain ⟨x6, e6, f6⟩ := lgi_s f5
      obtain ⟨x7, e7, f7⟩ := lgi_s f6
      obtain ⟨qe, fe⟩ := pe_s f7
      subst qe
      exact MW.sub (List.forall_mem_cons.mpr ⟨lg_mem e0, List.forall_mem_cons.mpr ⟨lg_mem e1, List.forall_mem_cons.mpr ⟨lg_mem e2, List.forall_mem_cons.mpr ⟨lg_mem e3, List.forall_mem_cons.mpr ⟨lg_mem e4, List.forall_mem_cons.mpr ⟨lg_mem e5, List.forall_mem_cons.mpr ⟨lg_mem e6, List.forall_mem_cons.mpr ⟨lg_mem e7, fun _ h => absurd h List.not_mem_nil⟩⟩⟩⟩⟩⟩⟩⟩) (ih a0 x1 x2 x3 x4 x5 x6 x7 g fe)
    cases e
set_option maxRecDepth 100000 in
theorem t_X12_teaches_73 {X : Nat × (Nat → Int32)} (N : Nat) {q : Int32 × mH} {k56 : Nat → Int32 → Int32 → Int32 → mH → Option (Int32 × mH)} (hk56 : ∀ (a0 : Nat) (x1 : Int32) (x2 : Int32) (x3 : Int32) g, k56 a0 x1 x2 x3 g = some q → MW X y_X12_teaches 5 56 [(0, .ref a0), (1, .int x1), (2, .int x2), (3, .int x3)] [] g (some (.int q.1)) q.2) : ∀ (n : Nat) (a0 : Nat) (x1 : Int32) (x2 : Int32) (x3 : Int32) (x4 : Int32) (x5 : Int32) (x6 : Int32) (h : mH), L_X12_teaches_73 N k56 n a0 x1 x2 x3 x4 x5 x6 h = some q → MW X y_X12_teaches 5 73 [(0, .ref a0), (1, .int x1), (2, .int x2), (3, .int x3), (4, .int x4), (5, .int x5), (6, .int x6)] [] h (some (.int q.1)) q.2 := by
  intro n
  induction n with
  | zero => intro a0 x1 x2 x3 x4 x5 x6 h hf; cases hf
  | succ n ih =>
    intro a0 x1 x2 x3 x4 x5 x6 h hf
    refine ev_ok (o := 12) (ini := false) (Cl := C_X12_teaches N) (Rc := RcI) (B := B_X12_teaches) (K := fun pc ls st g => kb pc 56 (lgr 0 ls fun a0 => lgi 1 ls fun x1 => lgi 2 ls fun x2 => lgi 3 ls fun x3 => pe st (k56 a0 x1 x2 x3 g)) (kb pc 83 (lgr 0 ls fun a0 => lgi 1 ls fun x1 => lgi 2 ls fun x2 => lgi 3 ls fun x3 => lgi 4 ls fun x4 => lgi 5 ls fun x5 => lgi 6 ls fun x6 => lgi 7 ls fun x7 => pe st (L_X12_teaches_83 N (L_X12_teaches_73 N k56 n) N a0 x1 x2 x3 x4 x5 x6 x7 g)) (none))) rfl (fun e => by cases e) (by decide) (rcI_ok rfl) ?_ (co_X12_teaches N q) lb_X12_teaches 3000 73 S_X12_teaches_73 _ _ h ls_X12_teaches_73 hf
    intro pc ls st g e
    rcases kb_s e with ⟨rfl, e⟩ | e
    · obtain ⟨a0, e0, f0⟩ := lgr_s e
      obtain ⟨x1, e1, f1⟩ := lgi_s f0
      obtain ⟨x2, e2, f2⟩ := lgi_s f1
      obtain ⟨x3, e3, f3⟩ := lgi_s f2
      obtain ⟨qe, fe⟩ := pe_s f3
      subst qe
      exact MW.sub (List.forall_mem_cons.mpr ⟨lg_mem e0, List.forall_mem_cons.mpr ⟨lg_mem e1, List.forall_mem_cons.mpr ⟨lg_mem e2, List.forall_mem_cons.mpr ⟨lg_mem e3, fun _ h => absurd h List.not_mem_nil⟩⟩⟩⟩) (hk56 a0 x1 x2 x3 g fe)
    rcases kb_s e with ⟨rfl, e⟩ | e
    · obtain ⟨a0, e0, f0⟩ := lgr_s e
      obtain ⟨x1, e1, f1⟩ := lgi_s f0
      obtain ⟨x2, e2, f2⟩ := lgi_s f1
      obtain ⟨x3, e3, f3⟩ := lgi_s f2
      obtain ⟨x4, e4, f4⟩ := lgi_s f3
      obtain ⟨x5, e5, f5⟩ := lgi_s f4
      obtain ⟨x6, e6, f6⟩ := lgi_s f5
      obtain ⟨x7, e7, f7⟩ := lgi_s f6
      obtain ⟨qe, fe⟩ := pe_s f7
      subst qe
      exact MW.sub (List.forall_mem_cons.mpr ⟨lg_mem e0, List.forall_mem_cons.mpr ⟨lg_mem e1, List.forall_mem_cons.mpr ⟨lg_mem e2, List.forall_mem_cons.mpr ⟨lg_mem e3, List.forall_mem_cons.mpr ⟨lg_mem e4, List.forall_mem_cons.mpr ⟨lg_mem e5, List.forall_mem_cons.mpr ⟨lg_mem e6, List.forall_mem_cons.mpr ⟨lg_mem e7, fun _ h => absurd h List.not_mem_nil⟩⟩⟩⟩⟩⟩⟩⟩) (t_X12_teaches_83 N (fun a0 x1 x2 x3 x4 x5 x6 g e => ih a0 x1 x2 x3 x4 x5 x6 g e) N a0 x1 x2 x3 x4 x5 x6 x7 g fe)
    cases e
set_option maxRecDepth 100000 in
theorem t_X12_teaches_56 {X : Nat × (Nat → Int32)} (N : Nat) {q : Int32 × mH} : ∀ (n : Nat) (a0 : Nat) (x1 : Int32) (x2 : Int32) (x3 : Int32) (h : mH), L_X12_teaches_56 N n a0 x1 x2 x3 h = some q → MW X y_X12_teaches 5 56 [(0, .ref a0), (1, .int x1), (2, .int x2), (3, .int x3)] [] h (some (.int q.1)) q.2 := by
  intro n
  induction n with
  | zero => intro a0 x1 x2 x3 h hf; cases hf
  | succ n ih =>
    intro a0 x1 x2 x3 h hf
    refine ev_ok (o := 12) (ini := false) (Cl := C_X12_teaches N) (Rc := RcI) (B := B_X12_teaches) (K := fun pc ls st g => kb pc 73 (lgr 0 ls fun a0 => lgi 1 ls fun x1 => lgi 2 ls fun x2 => lgi 3 ls fun x3 => lgi 4 ls fun x4 => lgi 5 ls fun x5 => lgi 6 ls fun x6 => pe st (L_X12_teaches_73 N (L_X12_teaches_56 N n) N a0 x1 x2 x3 x4 x5 x6 g)) (none)) rfl (fun e => by cases e) (by decide) (rcI_ok rfl) ?_ (co_X12_teaches N q) lb_X12_teaches 3000 56 S_X12_teaches_56 _ _ h ls_X12_teaches_56 hf
    intro pc ls st g e
    rcases kb_s e with ⟨rfl, e⟩ | e
    · obtain ⟨a0, e0, f0⟩ := lgr_s e
      obtain ⟨x1, e1, f1⟩ := lgi_s f0
      obtain ⟨x2, e2, f2⟩ := lgi_s f1
      obtain ⟨x3, e3, f3⟩ := lgi_s f2
      obtain ⟨x4, e4, f4⟩ := lgi_s f3
      obtain ⟨x5, e5, f5⟩ := lgi_s f4
      obtain ⟨x6, e6, f6⟩ := lgi_s f5
      obtain ⟨qe, fe⟩ := pe_s f6
      subst qe
      exact MW.sub (List.forall_mem_cons.mpr ⟨lg_mem e0, List.forall_mem_cons.mpr ⟨lg_mem e1, List.forall_mem_cons.mpr ⟨lg_mem e2, List.forall_mem_cons.mpr ⟨lg_mem e3, List.forall_mem_cons.mpr ⟨lg_mem e4, List.forall_mem_cons.mpr ⟨lg_mem e5, List.forall_mem_cons.mpr ⟨lg_mem e6, fun _ h => absurd h List.not_mem_nil⟩⟩⟩⟩⟩⟩⟩) (t_X12_teaches_73 N (fun a0 x1 x2 x3 g e => ih a0 x1 x2 x3 g e) N a0 x1 x2 x3 x4 x5 x6 g fe)
    cases e
set_option maxRecDepth 100000 in
theorem t_X12_teaches_5 {X : Nat × (Nat → Int32)} (N : Nat) {q : Int32 × mH} : ∀ (n : Nat) (a0 : Nat) (x1 : Int32) (x2 : Int32) (h : mH), L_X12_teaches_5 N n a0 x1 x2 h = some q → MW X y_X12_teaches 5 5 [(0, .ref a0), (1, .int x1), (2, .int x2)] [] h (some (.int q.1)) q.2 := by
  intro n
  induction n with
  | zero => intro a0 x1 x2 h hf; cases hf
  | succ n ih =>
    intro a0 x1 x2 h hf
    refine ev_ok (o := 12) (ini := false) (Cl := C_X12_teaches N) (Rc := RcI) (B := B_X12_teaches) (K := fun pc ls st g => kb pc 5 (lgr 0 ls fun a0 => lgi 1 ls fun x1 => lgi 2 ls fun x2 => pe st (L_X12_teaches_5 N n a0 x1 x2 g)) (kb pc 56 (lgr 0 ls fun a0 => lgi 1 ls fun x1 => lgi 2 ls fun x2 => lgi 3 ls fun x3 => pe st (L_X12_teaches_56 N N a0 x1 x2 x3 g)) (none))) rfl (fun e => by cases e) (by decide) (rcI_ok rfl) ?_ (co_X12_teaches N q) lb_X12_teaches 3000 5 S_X12_teaches_5 _ _ h ls_X12_teaches_5 hf
    intro pc ls st g e
    rcases kb_s e with ⟨rfl, e⟩ | e
    · obtain ⟨a0, e0, f0⟩ := lgr_s e
      obtain ⟨x1, e1, f1⟩ := lgi_s f0
      obtain ⟨x2, e2, f2⟩ := lgi_s f1
      obtain ⟨qe, fe⟩ := pe_s f2
      subst qe
      exact MW.sub (List.forall_mem_cons.mpr ⟨lg_mem e0, List.forall_mem_cons.mpr ⟨lg_mem e1, List.forall_mem_cons.mpr ⟨lg_mem e2, fun _ h => absurd h List.not_mem_nil⟩⟩⟩) (ih a0 x1 x2 g fe)
    rcases kb_s e with ⟨rfl, e⟩ | e
    · obtain ⟨a0, e0, f0⟩ := lgr_s e
      obtain ⟨x1, e1, f1⟩ := lgi_s f0
      obtain ⟨x2, e2, f2⟩ := lgi_s f1
      obtain ⟨x3, e3, f3⟩ := lgi_s f2
      obtain ⟨qe, fe⟩ := pe_s f3
      subst qe
      exact MW.sub (List.forall_mem_cons.mpr ⟨lg_mem e0, List.forall_mem_cons.mpr ⟨lg_mem e1, List.forall_mem_cons.mpr ⟨lg_mem e2, List.forall_mem_cons.mpr ⟨lg_mem e3, fun _ h => absurd h List.not_mem_nil⟩⟩⟩⟩) (t_X12_teaches_56 N N a0 x1 x2 x3 g fe)
    cases e
set_option maxRecDepth 100000 in
theorem m_X12_teaches (N : Nat) {a0 : Nat} {h : mH} {q : Int32 × mH} (hf : f_X12_teaches N a0 h = some q) : MM y_X12_teaches 5 [.ref a0] h (some (.int q.1)) q.2 := by
  refine MM.of (mFx (j := 333) rfl).2.2.2.1 (Nat.le_of_ble_eq_true rfl) (fun X => ?_)
  refine ev_ok (o := 12) (ini := false) (Cl := C_X12_teaches N) (Rc := RcI) (B := B_X12_teaches) (K := fun pc ls st g => kb pc 5 (lgr 0 ls fun a0 => lgi 1 ls fun x1 => lgi 2 ls fun x2 => pe st (L_X12_teaches_5 N N a0 x1 x2 g)) (none)) rfl (fun e => by cases e) (by decide) (rcI_ok rfl) ?_ (co_X12_teaches N q) lb_X12_teaches 3000 0 S_X12_teaches_0 _ _ h ls_X12_teaches_0 hf
  intro pc ls st g e
  rcases kb_s e with ⟨rfl, e⟩ | e
  · obtain ⟨a0, e0, f0⟩ := lgr_s e
    obtain ⟨x1, e1, f1⟩ := lgi_s f0
    obtain ⟨x2, e2, f2⟩ := lgi_s f1
    obtain ⟨qe, fe⟩ := pe_s f2
    subst qe
    exact MW.sub (List.forall_mem_cons.mpr ⟨lg_mem e0, List.forall_mem_cons.mpr ⟨lg_mem e1, List.forall_mem_cons.mpr ⟨lg_mem e2, fun _ h => absurd h List.not_mem_nil⟩⟩⟩) (t_X12_teaches_5 N N a0 x1 x2 g fe)
  cases e
def J_X12_taught_43 (N : Nat) (a0 : Nat) (x1 : Int32) (h : mH) : Option (Int32 × mH) :=
  (rcv h 12 a0).bind fun _ =>
  (f_X12_teaches N a0 h).bind fun p1 =>
  if x1 = (jI (-1)) then
    some (p1.1, p1.2)
  else
    (gR p1.2 12 a0 33).bind fun v2 =>
    (ldI 0 p1.2 v2 x1).bind fun v3 =>
    some (v3, p1.2)
def f_X12_taught (N : Nat) (a0 : Nat) (x1 : Int32) (h : mH) : Option (Int32 × mH) :=
  (pV h 12 a0 0 (.int (jI 0))).bind fun h1 =>
  if x1 = (jI (-1)) then
    J_X12_taught_43 N a0 x1 h1
  else
    (f_X12_within N x1.toInt64 (jL 0) (jL 7) h1).bind fun p2 =>
    if p2.1 = 0 then
      (rcv p2.2 12 a0).bind fun _ =>
      (f_X12_no N a0 (jI (-2)) p2.2).bind fun p3 =>
      some (p3.1, p3.2)
    else
      (gR p2.2 12 a0 2).bind fun v4 =>
      (ldI 0 p2.2 v4 (iAdd (jI 657) x1)).bind fun v5 =>
      if v5 = (jI (-1)) then
        (rcv p2.2 12 a0).bind fun _ =>
        (f_X12_no N a0 (jI (-2)) p2.2).bind fun p6 =>
        some (p6.1, p6.2)
      else
        J_X12_taught_43 N a0 x1 p2.2
def y_X12_taught : mM := (yX12_taught, cX12_taught, 3, (some .int))
def B_X12_taught : List (Nat × List mI) := [(36, [(.aload_n 0, 1, [0], []), (.bipush (-2), 2, [], [-2]), (.invokevirtual 84, 3, [0, 224, 1, 12, 267], []), (.ireturn, 1, [], [])]), (57, [(.aload_n 0, 1, [0], []), (.getfield 65, 3, [12, 33, 2, 159], []), (.iload_n 1, 1, [1], []), (.iaload, 1, [0], [])]), (63, [(.ireturn, 1, [], [])])]
def S_X12_taught_0 : List mI := [(.aload_n 0, 1, [0], []), (.iconst 0, 1, [], [0]), (.putfield 1, 3, [12, 0, 0, 126], []), (.iload_n 1, 1, [1], []), (.iconst (-1), 1, [], [-1]), (.if_icmp .eq 36, 3, [43], []), (.iload_n 1, 1, [1], []), (.i2l, 1, [], []), (.lconst 0, 1, [], [0]), (.ldc2_w 331, 3, [18], [7]), (.invokestatic 147, 3, [1, 225, 3, 0, 269], []), (.ifCond .eq 17, 3, [36], []), (.aload_n 0, 1, [0], []), (.getfield 17, 3, [12, 2, 2, 128], []), (.sipush 657, 3, [], [657]), (.iload_n 1, 1, [1], []), (.iadd, 1, [], []), (.iaload, 1, [0], []), (.iconst (-1), 1, [], [-1]), (.if_icmp .ne 10, 3, [43], [])]
def S_X12_taught_43 : List mI := [(.aload_n 0, 1, [0], []), (.invokevirtual 372, 3, [0, 333, 0, 12, 373], []), (.istore_n 2, 1, [2], []), (.iload_n 1, 1, [1], []), (.iconst (-1), 1, [], [-1]), (.if_icmp .ne 7, 3, [57], []), (.iload_n 2, 1, [2], []), (.goto 9, 3, [63], [])]
theorem lb_X12_taught : B_X12_taught.all (fun b => lst y_X12_taught.2.1 12 y_X12_taught.2.2.1 false b.1 b.2) = true := by decide +kernel
theorem ls_X12_taught_0 : lst y_X12_taught.2.1 12 y_X12_taught.2.2.1 false 0 S_X12_taught_0 = true := by decide +kernel
theorem ls_X12_taught_43 : lst y_X12_taught.2.1 12 y_X12_taught.2.2.1 false 43 S_X12_taught_43 = true := by decide +kernel
def C_X12_taught (N : Nat) : Nat → List Value → mH → (Option Value → mH → Option (Int32 × mH)) → Option (Int32 × mH) := fun j as g k => kb j 225 (pl1 as fun b0 as => pl1 as fun b1 as => pl1 as fun b2 as => pe as ((f_X12_within N b0 b1 b2 g).bind fun p => k (some (.int p.1)) p.2)) (kb j 224 (pr1 as fun b0 as => pp1 as fun b1 as => pe as ((f_X12_no N b0 b1 g).bind fun p => k (some (.int p.1)) p.2)) (kb j 333 (pr1 as fun b0 as => pe as ((f_X12_teaches N b0 g).bind fun p => k (some (.int p.1)) p.2)) (none)))
theorem co_X12_taught (N : Nat) (q : Int32 × mH) : clOK 6 q (C_X12_taught N) := by
  intro j as g k e
  rcases kb_s e with ⟨rfl, e⟩ | e
  · obtain ⟨b0, r0, q0, f0⟩ := pl1_s e
    obtain ⟨b1, r1, q1, f1⟩ := pl1_s f0
    obtain ⟨b2, r2, q2, f2⟩ := pl1_s f1
    obtain ⟨qe, fe⟩ := pe_s f2
    obtain ⟨p, e1, e2⟩ := bnd_s fe
    subst qe
    subst q2
    subst q1
    subst q0
    exact ⟨_, _, _, _, 4, rfl, (by decide), m_X12_within N e1, e2⟩
  rcases kb_s e with ⟨rfl, e⟩ | e
  · obtain ⟨b0, r0, q0, f0⟩ := pr1_s e
    obtain ⟨b1, r1, q1, f1⟩ := pp1_s f0
    obtain ⟨qe, fe⟩ := pe_s f1
    obtain ⟨p, e1, e2⟩ := bnd_s fe
    subst qe
    subst q1
    subst q0
    exact ⟨_, _, _, _, 4, rfl, (by decide), m_X12_no N e1, e2⟩
  rcases kb_s e with ⟨rfl, e⟩ | e
  · obtain ⟨b0, r0, q0, f0⟩ := pr1_s e
    obtain ⟨qe, fe⟩ := pe_s f0
    obtain ⟨p, e1, e2⟩ := bnd_s fe
    subst qe
    subst q0
    exact ⟨_, _, _, _, 5, rfl, (by decide), m_X12_teaches N e1, e2⟩
  cases e
set_option maxRecDepth 100000 in
theorem t_X12_taught_43 {X : Nat × (Nat → Int32)} (N : Nat) {q : Int32 × mH} (a0 : Nat) (x1 : Int32) (h : mH) (hf : J_X12_taught_43 N a0 x1 h = some q) : MW X y_X12_taught 6 43 [(0, .ref a0), (1, .int x1)] [] h (some (.int q.1)) q.2 := by
  refine ev_ok (o := 12) (ini := false) (Cl := C_X12_taught N) (Rc := RcI) (B := B_X12_taught) (K := fun pc ls st g => none) rfl (fun e => by cases e) (by decide) (rcI_ok rfl) ?_ (co_X12_taught N q) lb_X12_taught 3000 43 S_X12_taught_43 _ _ h ls_X12_taught_43 hf
  intro pc ls st g e
  cases e
set_option maxRecDepth 100000 in
theorem m_X12_taught (N : Nat) {a0 : Nat} {x1 : Int32} {h : mH} {q : Int32 × mH} (hf : f_X12_taught N a0 x1 h = some q) : MM y_X12_taught 6 [.ref a0, .int x1] h (some (.int q.1)) q.2 := by
  refine MM.of (mFx (j := 334) rfl).2.2.2.1 (Nat.le_of_ble_eq_true rfl) (fun X => ?_)
  refine ev_ok (o := 12) (ini := false) (Cl := C_X12_taught N) (Rc := RcI) (B := B_X12_taught) (K := fun pc ls st g => kb pc 43 (lgr 0 ls fun a0 => lgi 1 ls fun x1 => pe st (J_X12_taught_43 N a0 x1 g)) (none)) rfl (fun e => by cases e) (by decide) (rcI_ok rfl) ?_ (co_X12_taught N q) lb_X12_taught 3000 0 S_X12_taught_0 _ _ h ls_X12_taught_0 hf
  intro pc ls st g e
  rcases kb_s e with ⟨rfl, e⟩ | e
  · obtain ⟨a0, e0, f0⟩ := lgr_s e
    obtain ⟨x1, e1, f1⟩ := lgi_s f0
    obtain ⟨qe, fe⟩ := pe_s f1
    subst qe
    exact MW.sub (List.forall_mem_cons.mpr ⟨lg_mem e0, List.forall_mem_cons.mpr ⟨lg_mem e1, fun _ h => absurd h List.not_mem_nil⟩⟩) (t_X12_taught_43 N a0 x1 g fe)
  cases e
def f_X12_dried (N : Nat) (a0 : Nat) (x1 : Int32) (x2 : Int32) (h : mH) : Option (Int32 × mH) :=
  (gR h 12 a0 2).bind fun v1 =>
  (ldI 0 h v1 (iAdd (jI 14) x1)).bind fun v2 =>
  if (jI 100) = 0 then none else
  some (iDiv (iMul x2 (iSub (jI 100) v2)) (jI 100), h)
def y_X12_dried : mM := (yX12_dried, cX12_dried, 3, (some .int))
def B_X12_dried : List (Nat × List mI) := []
def S_X12_dried_0 : List mI := [(.iload_n 2, 1, [2], []), (.bipush 100, 2, [], [100]), (.aload_n 0, 1, [0], []), (.getfield 17, 3, [12, 2, 2, 128], []), (.bipush 14, 2, [], [14]), (.iload_n 1, 1, [1], []), (.iadd, 1, [], []), (.iaload, 1, [0], []), (.isub, 1, [], []), (.imul, 1, [], []), (.bipush 100, 2, [], [100]), (.idiv, 1, [], []), (.ireturn, 1, [], [])]
theorem lb_X12_dried : B_X12_dried.all (fun b => lst y_X12_dried.2.1 12 y_X12_dried.2.2.1 false b.1 b.2) = true := by decide +kernel
theorem ls_X12_dried_0 : lst y_X12_dried.2.1 12 y_X12_dried.2.2.1 false 0 S_X12_dried_0 = true := by decide +kernel
def C_X12_dried (N : Nat) : Nat → List Value → mH → (Option Value → mH → Option (Int32 × mH)) → Option (Int32 × mH) := fun j as g k => none
theorem co_X12_dried (N : Nat) (q : Int32 × mH) : clOK 4 q (C_X12_dried N) := by
  intro j as g k e
  cases e
set_option maxRecDepth 100000 in
theorem m_X12_dried (N : Nat) {a0 : Nat} {x1 : Int32} {x2 : Int32} {h : mH} {q : Int32 × mH} (hf : f_X12_dried N a0 x1 x2 h = some q) : MM y_X12_dried 4 [.ref a0, .int x1, .int x2] h (some (.int q.1)) q.2 := by
  refine MM.of (mFx (j := 335) rfl).2.2.2.1 (Nat.le_of_ble_eq_true rfl) (fun X => ?_)
  refine ev_ok (o := 12) (ini := false) (Cl := C_X12_dried N) (Rc := RcI) (B := B_X12_dried) (K := fun pc ls st g => none) rfl (fun e => by cases e) (by decide) (rcI_ok rfl) ?_ (co_X12_dried N q) lb_X12_dried 3000 0 S_X12_dried_0 _ _ h ls_X12_dried_0 hf
  intro pc ls st g e
  cases e
def L_X12_lid_93 (N : Nat) : Nat → Nat → Int32 → Int32 → Int32 → Int32 → Int32 → Int32 → Int32 → Int32 → mH → Option (Int32 × mH)
  | 0, _, _, _, _, _, _, _, _, _, _ => none
  | n + 1, a0, x1, x4, x5, x6, x7, x8, x9, x10, h =>
    if (jI 2000) < x10 then
      if x5 = 0 then
        some (x7, h)
      else
        if x5 = (jI 1) then
          some (x8, h)
        else
          some (x9, h)
    else
      (rcv h 12 a0).bind fun _ =>
      (f_X12_dried N a0 x1 x10 h).bind fun p1 =>
      (f_X12_within N ((iSub p1.1 x6).toInt64) (jL 1) x4.toInt64 p1.2).bind fun p2 =>
      if p2.1 = 0 then
        let w3 := iAdd x10 (jI 1)
        L_X12_lid_93 N n a0 x1 x4 x5 x6 x7 x8 x9 w3 p2.2
      else
        if x7 = (jI (-1)) then
          let w4 := iAdd x9 (jI 1)
          let w5 := iAdd x10 (jI 1)
          L_X12_lid_93 N n a0 x1 x4 x5 x6 x10 x10 w4 w5 p2.2
        else
          let w6 := iAdd x9 (jI 1)
          let w7 := iAdd x10 (jI 1)
          L_X12_lid_93 N n a0 x1 x4 x5 x6 x7 x10 w6 w7 p2.2
def f_X12_lid (N : Nat) (a0 : Nat) (x1 : Int32) (x2 : Int32) (x3 : Int32) (x4 : Int32) (x5 : Int32) (h : mH) : Option (Int32 × mH) :=
  (pV h 12 a0 0 (.int (jI 0))).bind fun h1 =>
  (rcv h1 12 a0).bind fun _ =>
  (f_X12_isKind N a0 x1 h1).bind fun p2 =>
  if p2.1 = 0 then
    (rcv p2.2 12 a0).bind fun _ =>
    (f_X12_no N a0 (jI (-2)) p2.2).bind fun p3 =>
    some (p3.1, p3.2)
  else
    (rcv p2.2 12 a0).bind fun _ =>
    (f_X12_isKind N a0 x2 p2.2).bind fun p4 =>
    if p4.1 = 0 then
      (rcv p4.2 12 a0).bind fun _ =>
      (f_X12_no N a0 (jI (-2)) p4.2).bind fun p5 =>
      some (p5.1, p5.2)
    else
      (f_X12_within N x5.toInt64 (jL 0) (jL 2) p4.2).bind fun p6 =>
      if p6.1 = 0 then
        (rcv p6.2 12 a0).bind fun _ =>
        (f_X12_no N a0 (jI (-2)) p6.2).bind fun p7 =>
        some (p7.1, p7.2)
      else
        (f_X12_within N x3.toInt64 (jL 1) (jL 1500) p6.2).bind fun p8 =>
        if p8.1 = 0 then
          (rcv p8.2 12 a0).bind fun _ =>
          (f_X12_no N a0 (jI (-3)) p8.2).bind fun p9 =>
          some (p9.1, p9.2)
        else
          (f_X12_within N x4.toInt64 (jL 1) (jL 99) p8.2).bind fun p10 =>
          if p10.1 = 0 then
            (rcv p10.2 12 a0).bind fun _ =>
            (f_X12_no N a0 (jI (-3)) p10.2).bind fun p11 =>
            some (p11.1, p11.2)
          else
            (rcv p10.2 12 a0).bind fun _ =>
            (f_X12_dried N a0 x2 x3 p10.2).bind fun p12 =>
            L_X12_lid_93 N N a0 x1 x4 x5 p12.1 (jI (-1)) (jI (-1)) (jI 0) (jI 1) p12.2
def y_X12_lid : mM := (yX12_lid, cX12_lid, 11, (some .int))
def B_X12_lid : List (Nat × List mI) := [(34, [(.aload_n 0, 1, [0], []), (.bipush (-2), 2, [], [-2]), (.invokevirtual 84, 3, [0, 224, 1, 12, 267], []), (.ireturn, 1, [], [])]), (41, [(.iload_n 3, 1, [3], []), (.i2l, 1, [], []), (.lconst 1, 1, [], [1]), (.ldc2_w 375, 3, [23], [1500]), (.invokestatic 147, 3, [1, 225, 3, 0, 269], []), (.ifCond .eq 16, 3, [66], []), (.iload 4, 2, [4], []), (.i2l, 1, [], []), (.lconst 1, 1, [], [1]), (.ldc2_w 335, 3, [20], [99]), (.invokestatic 147, 3, [1, 225, 3, 0, 269], []), (.ifCond .ne 10, 3, [73], [])]), (66, [(.aload_n 0, 1, [0], []), (.bipush (-3), 2, [], [-3]), (.invokevirtual 84, 3, [0, 224, 1, 12, 267], []), (.ireturn, 1, [], [])]), (73, [(.aload_n 0, 1, [0], []), (.iload_n 2, 1, [2], []), (.iload_n 3, 1, [3], []), (.invokevirtual 377, 3, [0, 335, 2, 12, 376], []), (.istore 6, 2, [6], []), (.iconst (-1), 1, [], [-1]), (.istore 7, 2, [7], []), (.iconst (-1), 1, [], [-1]), (.istore 8, 2, [8], []), (.iconst 0, 1, [], [0]), (.istore 9, 2, [9], []), (.iconst 1, 1, [], [1]), (.istore 10, 2, [10], [])]), (125, [(.iload 7, 2, [7], []), (.iconst (-1), 1, [], [-1]), (.if_icmp .ne 8, 3, [136], []), (.iload 10, 2, [10], []), (.goto 5, 3, [138], [])]), (136, [(.iload 7, 2, [7], [])]), (138, [(.istore 7, 2, [7], []), (.iload 10, 2, [10], []), (.istore 8, 2, [8], []), (.iinc 9 1, 3, [9], [1])]), (147, [(.iinc 10 1, 3, [10], [1]), (.goto (-57), 3, [93], [])]), (153, [(.iload 5, 2, [5], []), (.ifCond .ne 8, 3, [163], []), (.iload 7, 2, [7], []), (.goto 16, 3, [176], [])]), (163, [(.iload 5, 2, [5], []), (.iconst 1, 1, [], [1]), (.if_icmp .ne 8, 3, [174], []), (.iload 8, 2, [8], []), (.goto 5, 3, [176], [])]), (174, [(.iload 9, 2, [9], [])]), (176, [(.ireturn, 1, [], [])])]
def S_X12_lid_0 : List mI := [(.aload_n 0, 1, [0], []), (.iconst 0, 1, [], [0]), (.putfield 1, 3, [12, 0, 0, 126], []), (.aload_n 0, 1, [0], []), (.iload_n 1, 1, [1], []), (.invokevirtual 176, 3, [0, 246, 1, 12, 287], []), (.ifCond .eq 24, 3, [34], []), (.aload_n 0, 1, [0], []), (.iload_n 2, 1, [2], []), (.invokevirtual 176, 3, [0, 246, 1, 12, 287], []), (.ifCond .eq 16, 3, [34], []), (.iload 5, 2, [5], []), (.i2l, 1, [], []), (.lconst 0, 1, [], [0]), (.ldc2_w 245, 3, [11], [2]), (.invokestatic 147, 3, [1, 225, 3, 0, 269], []), (.ifCond .ne 10, 3, [41], [])]
def S_X12_lid_93 : List mI := [(.iload 10, 2, [10], []), (.sipush 2000, 3, [], [2000]), (.if_icmp .gt 55, 3, [153], []), (.aload_n 0, 1, [0], []), (.iload_n 1, 1, [1], []), (.iload 10, 2, [10], []), (.invokevirtual 377, 3, [0, 335, 2, 12, 376], []), (.iload 6, 2, [6], []), (.isub, 1, [], []), (.i2l, 1, [], []), (.lconst 1, 1, [], [1]), (.iload 4, 2, [4], []), (.i2l, 1, [], []), (.invokestatic 147, 3, [1, 225, 3, 0, 269], []), (.ifCond .ne 6, 3, [125], []), (.goto 25, 3, [147], [])]
theorem lb_X12_lid : B_X12_lid.all (fun b => lst y_X12_lid.2.1 12 y_X12_lid.2.2.1 false b.1 b.2) = true := by decide +kernel
theorem ls_X12_lid_0 : lst y_X12_lid.2.1 12 y_X12_lid.2.2.1 false 0 S_X12_lid_0 = true := by decide +kernel
theorem ls_X12_lid_93 : lst y_X12_lid.2.1 12 y_X12_lid.2.2.1 false 93 S_X12_lid_93 = true := by decide +kernel
def C_X12_lid (N : Nat) : Nat → List Value → mH → (Option Value → mH → Option (Int32 × mH)) → Option (Int32 × mH) := fun j as g k => kb j 246 (pr1 as fun b0 as => pp1 as fun b1 as => pe as ((f_X12_isKind N b0 b1 g).bind fun p => k (some (.int p.1)) p.2)) (kb j 225 (pl1 as fun b0 as => pl1 as fun b1 as => pl1 as fun b2 as => pe as ((f_X12_within N b0 b1 b2 g).bind fun p => k (some (.int p.1)) p.2)) (kb j 224 (pr1 as fun b0 as => pp1 as fun b1 as => pe as ((f_X12_no N b0 b1 g).bind fun p => k (some (.int p.1)) p.2)) (kb j 335 (pr1 as fun b0 as => pp1 as fun b1 as => pp1 as fun b2 as => pe as ((f_X12_dried N b0 b1 b2 g).bind fun p => k (some (.int p.1)) p.2)) (none))))
theorem co_X12_lid (N : Nat) (q : Int32 × mH) : clOK 6 q (C_X12_lid N) := by
  intro j as g k e
  rcases kb_s e with ⟨rfl, e⟩ | e
  · obtain ⟨b0, r0, q0, f0⟩ := pr1_s e
    obtain ⟨b1, r1, q1, f1⟩ := pp1_s f0
    obtain ⟨qe, fe⟩ := pe_s f1
    obtain ⟨p, e1, e2⟩ := bnd_s fe
    subst qe
    subst q1
    subst q0
    exact ⟨_, _, _, _, 5, rfl, (by decide), m_X12_isKind N e1, e2⟩
  rcases kb_s e with ⟨rfl, e⟩ | e
  · obtain ⟨b0, r0, q0, f0⟩ := pl1_s e
    obtain ⟨b1, r1, q1, f1⟩ := pl1_s f0
    obtain ⟨b2, r2, q2, f2⟩ := pl1_s f1
    obtain ⟨qe, fe⟩ := pe_s f2
    obtain ⟨p, e1, e2⟩ := bnd_s fe
    subst qe
    subst q2
    subst q1
    subst q0
    exact ⟨_, _, _, _, 4, rfl, (by decide), m_X12_within N e1, e2⟩
  rcases kb_s e with ⟨rfl, e⟩ | e
  · obtain ⟨b0, r0, q0, f0⟩ := pr1_s e
    obtain ⟨b1, r1, q1, f1⟩ := pp1_s f0
    obtain ⟨qe, fe⟩ := pe_s f1
    obtain ⟨p, e1, e2⟩ := bnd_s fe
    subst qe
    subst q1
    subst q0
    exact ⟨_, _, _, _, 4, rfl, (by decide), m_X12_no N e1, e2⟩
  rcases kb_s e with ⟨rfl, e⟩ | e
  · obtain ⟨b0, r0, q0, f0⟩ := pr1_s e
    obtain ⟨b1, r1, q1, f1⟩ := pp1_s f0
    obtain ⟨b2, r2, q2, f2⟩ := pp1_s f1
    obtain ⟨qe, fe⟩ := pe_s f2
    obtain ⟨p, e1, e2⟩ := bnd_s fe
    subst qe
    subst q2
    subst q1
    subst q0
    exact ⟨_, _, _, _, 4, rfl, (by decide), m_X12_dried N e1, e2⟩
  cases e
set_option maxRecDepth 100000 in
theorem t_X12_lid_93 {X : Nat × (Nat → Int32)} (N : Nat) {q : Int32 × mH} : ∀ (n : Nat) (a0 : Nat) (x1 : Int32) (x4 : Int32) (x5 : Int32) (x6 : Int32) (x7 : Int32) (x8 : Int32) (x9 : Int32) (x10 : Int32) (h : mH), L_X12_lid_93 N n a0 x1 x4 x5 x6 x7 x8 x9 x10 h = some q → MW X y_X12_lid 6 93 [(0, .ref a0), (1, .int x1), (4, .int x4), (5, .int x5), (6, .int x6), (7, .int x7), (8, .int x8), (9, .int x9), (10, .int x10)] [] h (some (.int q.1)) q.2 := by
  intro n
  induction n with
  | zero => intro a0 x1 x4 x5 x6 x7 x8 x9 x10 h hf; cases hf
  | succ n ih =>
    intro a0 x1 x4 x5 x6 x7 x8 x9 x10 h hf
    refine ev_ok (o := 12) (ini := false) (Cl := C_X12_lid N) (Rc := RcI) (B := B_X12_lid) (K := fun pc ls st g => kb pc 93 (lgr 0 ls fun a0 => lgi 1 ls fun x1 => lgi 4 ls fun x4 => lgi 5 ls fun x5 => lgi 6 ls fun x6 => lgi 7 ls fun x7 => lgi 8 ls fun x8 => lgi 9 ls fun x9 => lgi 10 ls fun x10 => pe st (L_X12_lid_93 N n a0 x1 x4 x5 x6 x7 x8 x9 x10 g)) (none)) rfl (fun e => by cases e) (by decide) (rcI_ok rfl) ?_ (co_X12_lid N q) lb_X12_lid 3000 93 S_X12_lid_93 _ _ h ls_X12_lid_93 hf
    intro pc ls st g e
    rcases kb_s e with ⟨rfl, e⟩ | e
    · obtain ⟨a0, e0, f0⟩ := lgr_s e
      obtain ⟨x1, e1, f1⟩ := lgi_s f0
      obtain ⟨x4, e2, f2⟩ := lgi_s f1
      obtain ⟨x5, e3, f3⟩ := lgi_s f2
      obtain ⟨x6, e4, f4⟩ := lgi_s f3
      obtain ⟨x7, e5, f5⟩ := lgi_s f4
      obtain ⟨x8, e6, f6⟩ := lgi_s f5
      obtain ⟨x9, e7, f7⟩ := lgi_s f6
      obtain ⟨x10, e8, f8⟩ := lgi_s f7
      obtain ⟨qe, fe⟩ := pe_s f8
      subst qe
      exact MW.sub (List.forall_mem_cons.mpr ⟨lg_mem e0, List.forall_mem_cons.mpr ⟨lg_mem e1, List.forall_mem_cons.mpr ⟨lg_mem e2, List.forall_mem_cons.mpr ⟨lg_mem e3, List.forall_mem_cons.mpr ⟨lg_mem e4, List.forall_mem_cons.mpr ⟨lg_mem e5, List.forall_mem_cons.mpr ⟨lg_mem e6, List.forall_mem_cons.mpr ⟨lg_mem e7, List.forall_mem_cons.mpr ⟨lg_mem e8, fun _ h => absurd h List.not_mem_nil⟩⟩⟩⟩⟩⟩⟩⟩⟩) (ih a0 x1 x4 x5 x6 x7 x8 x9 x10 g fe)
    cases e
set_option maxRecDepth 100000 in
theorem m_X12_lid (N : Nat) {a0 : Nat} {x1 : Int32} {x2 : Int32} {x3 : Int32} {x4 : Int32} {x5 : Int32} {h : mH} {q : Int32 × mH} (hf : f_X12_lid N a0 x1 x2 x3 x4 x5 h = some q) : MM y_X12_lid 6 [.ref a0, .int x1, .int x2, .int x3, .int x4, .int x5] h (some (.int q.1)) q.2 := by
  refine MM.of (mFx (j := 336) rfl).2.2.2.1 (Nat.le_of_ble_eq_true rfl) (fun X => ?_)
  refine ev_ok (o := 12) (ini := false) (Cl := C_X12_lid N) (Rc := RcI) (B := B_X12_lid) (K := fun pc ls st g => kb pc 93 (lgr 0 ls fun a0 => lgi 1 ls fun x1 => lgi 4 ls fun x4 => lgi 5 ls fun x5 => lgi 6 ls fun x6 => lgi 7 ls fun x7 => lgi 8 ls fun x8 => lgi 9 ls fun x9 => lgi 10 ls fun x10 => pe st (L_X12_lid_93 N N a0 x1 x4 x5 x6 x7 x8 x9 x10 g)) (none)) rfl (fun e => by cases e) (by decide) (rcI_ok rfl) ?_ (co_X12_lid N q) lb_X12_lid 3000 0 S_X12_lid_0 _ _ h ls_X12_lid_0 hf
  intro pc ls st g e
  rcases kb_s e with ⟨rfl, e⟩ | e
  · obtain ⟨a0, e0, f0⟩ := lgr_s e
    obtain ⟨x1, e1, f1⟩ := lgi_s f0
    obtain ⟨x4, e2, f2⟩ := lgi_s f1
    obtain ⟨x5, e3, f3⟩ := lgi_s f2
    obtain ⟨x6, e4, f4⟩ := lgi_s f3
    obtain ⟨x7, e5, f5⟩ := lgi_s f4
    obtain ⟨x8, e6, f6⟩ := lgi_s f5
    obtain ⟨x9, e7, f7⟩ := lgi_s f6
    obtain ⟨x10, e8, f8⟩ := lgi_s f7
    obtain ⟨qe, fe⟩ := pe_s f8
    subst qe
    exact MW.sub (List.forall_mem_cons.mpr ⟨lg_mem e0, List.forall_mem_cons.mpr ⟨lg_mem e1, List.forall_mem_cons.mpr ⟨lg_mem e2, List.forall_mem_cons.mpr ⟨lg_mem e3, List.forall_mem_cons.mpr ⟨lg_mem e4, List.forall_mem_cons.mpr ⟨lg_mem e5, List.forall_mem_cons.mpr ⟨lg_mem e6, List.forall_mem_cons.mpr ⟨lg_mem e7, List.forall_mem_cons.mpr ⟨lg_mem e8, fun _ h => absurd h List.not_mem_nil⟩⟩⟩⟩⟩⟩⟩⟩⟩) (t_X12_lid_93 N N a0 x1 x4 x5 x6 x7 x8 x9 x10 g fe)
  cases e
def f_X12_cut (N : Nat) (l0 : Int64) (x2 : Int32) (h : mH) : Option (Int64 × mH) :=
  if x2 = 0 then
    some ((iByt l0.toInt32).toInt64, h)
  else
    if x2 = (jI 1) then
      some ((iSho l0.toInt32).toInt64, h)
    else
      if x2 = (jI 2) then
        some (l0.toInt32.toInt64, h)
      else
        some (l0, h)
def y_X12_cut : mM := (yX12_cut, cX12_cut, 3, (some .long))
def B_X12_cut : List (Nat × List mI) := [(11, [(.iload_n 2, 1, [2], []), (.iconst 1, 1, [], [1]), (.if_icmp .ne 10, 3, [23], []), (.lload_n 0, 1, [0], []), (.l2i, 1, [], []), (.i2s, 1, [], []), (.i2l, 1, [], []), (.goto 15, 3, [35], [])]), (23, [(.iload_n 2, 1, [2], []), (.iconst 2, 1, [], [2]), (.if_icmp .ne 9, 3, [34], []), (.lload_n 0, 1, [0], []), (.l2i, 1, [], []), (.i2l, 1, [], []), (.goto 4, 3, [35], [])]), (34, [(.lload_n 0, 1, [0], [])]), (35, [(.lreturn, 1, [], [])])]
def S_X12_cut_0 : List mI := [(.iload_n 2, 1, [2], []), (.ifCond .ne 10, 3, [11], []), (.lload_n 0, 1, [0], []), (.l2i, 1, [], []), (.i2b, 1, [], []), (.i2l, 1, [], []), (.goto 27, 3, [35], [])]
theorem lb_X12_cut : B_X12_cut.all (fun b => lst y_X12_cut.2.1 12 y_X12_cut.2.2.1 false b.1 b.2) = true := by decide +kernel
theorem ls_X12_cut_0 : lst y_X12_cut.2.1 12 y_X12_cut.2.2.1 false 0 S_X12_cut_0 = true := by decide +kernel
def C_X12_cut (N : Nat) : Nat → List Value → mH → (Option Value → mH → Option (Int64 × mH)) → Option (Int64 × mH) := fun j as g k => none
theorem co_X12_cut (N : Nat) (q : Int64 × mH) : clOK 4 q (C_X12_cut N) := by
  intro j as g k e
  cases e
set_option maxRecDepth 100000 in
theorem m_X12_cut (N : Nat) {l0 : Int64} {x2 : Int32} {h : mH} {q : Int64 × mH} (hf : f_X12_cut N l0 x2 h = some q) : MM y_X12_cut 4 [.long l0, .int x2] h (some (.long q.1)) q.2 := by
  refine MM.of (mFx (j := 337) rfl).2.2.2.1 (Nat.le_of_ble_eq_true rfl) (fun X => ?_)
  refine ev_ok (o := 12) (ini := false) (Cl := C_X12_cut N) (Rc := RcJ) (B := B_X12_cut) (K := fun pc ls st g => none) rfl (fun e => by cases e) (by decide) (rcJ_ok rfl) ?_ (co_X12_cut N q) lb_X12_cut 3000 0 S_X12_cut_0 _ _ h ls_X12_cut_0 hf
  intro pc ls st g e
  cases e
def L_X12_numbers_72 (N : Nat) : Nat → Nat → Int32 → Int32 → Int32 → mH → Option (Int32 × mH)
  | 0, _, _, _, _, _ => none
  | n + 1, a0, x1, x3, x4, h =>
    if x4 < x3 then
      (gR h 12 a0 36).bind fun v1 =>
      (stL h v1 (iAdd (iMul (jI 40) x1) x4) (jL 0)).bind fun h2 =>
      let w3 := iAdd x4 (jI 1)
      L_X12_numbers_72 N n a0 x1 x3 w3 h2
    else
      some (jI 0, h)
def f_X12_numbers (N : Nat) (a0 : Nat) (x1 : Int32) (x2 : Int32) (x3 : Int32) (h : mH) : Option (Int32 × mH) :=
  (pV h 12 a0 0 (.int (jI 0))).bind fun h1 =>
  (f_X12_within N x1.toInt64 (jL 0) (jL 3) h1).bind fun p2 =>
  if p2.1 = 0 then
    (rcv p2.2 12 a0).bind fun _ =>
    (f_X12_no N a0 (jI (-2)) p2.2).bind fun p3 =>
    some (p3.1, p3.2)
  else
    (f_X12_within N x2.toInt64 (jL 0) (jL 3) p2.2).bind fun p4 =>
    if p4.1 = 0 then
      (rcv p4.2 12 a0).bind fun _ =>
      (f_X12_no N a0 (jI (-2)) p4.2).bind fun p5 =>
      some (p5.1, p5.2)
    else
      (f_X12_within N x3.toInt64 (jL 0) (jL 40) p4.2).bind fun p6 =>
      if p6.1 = 0 then
        (rcv p6.2 12 a0).bind fun _ =>
        (f_X12_no N a0 (jI (-3)) p6.2).bind fun p7 =>
        some (p7.1, p7.2)
      else
        (gR p6.2 12 a0 34).bind fun v8 =>
        (stI 0 p6.2 v8 x1 x2).bind fun h9 =>
        (gR h9 12 a0 35).bind fun v10 =>
        (stI 0 h9 v10 x1 x3).bind fun h11 =>
        L_X12_numbers_72 N N a0 x1 x3 (jI 0) h11
def y_X12_numbers : mM := (yX12_numbers, cX12_numbers, 5, (some .int))
def B_X12_numbers : List (Nat × List mI) := [(29, [(.aload_n 0, 1, [0], []), (.bipush (-2), 2, [], [-2]), (.invokevirtual 84, 3, [0, 224, 1, 12, 267], []), (.ireturn, 1, [], [])]), (36, [(.iload_n 3, 1, [3], []), (.i2l, 1, [], []), (.lconst 0, 1, [], [0]), (.ldc2_w 380, 3, [24], [40]), (.invokestatic 147, 3, [1, 225, 3, 0, 269], []), (.ifCond .ne 10, 3, [55], []), (.aload_n 0, 1, [0], []), (.bipush (-3), 2, [], [-3]), (.invokevirtual 84, 3, [0, 224, 1, 12, 267], []), (.ireturn, 1, [], [])]), (55, [(.aload_n 0, 1, [0], []), (.getfield 68, 3, [12, 34, 2, 160], []), (.iload_n 1, 1, [1], []), (.iload_n 2, 1, [2], []), (.iastore, 1, [], []), (.aload_n 0, 1, [0], []), (.getfield 71, 3, [12, 35, 2, 161], []), (.iload_n 1, 1, [1], []), (.iload_n 3, 1, [3], []), (.iastore, 1, [], []), (.iconst 0, 1, [], [0]), (.istore 4, 2, [4], [])]), (97, [(.iconst 0, 1, [], [0]), (.ireturn, 1, [], [])])]
def S_X12_numbers_0 : List mI := [(.aload_n 0, 1, [0], []), (.iconst 0, 1, [], [0]), (.putfield 1, 3, [12, 0, 0, 126], []), (.iload_n 1, 1, [1], []), (.i2l, 1, [], []), (.lconst 0, 1, [], [0]), (.ldc2_w 179, 3, [5], [3]), (.invokestatic 147, 3, [1, 225, 3, 0, 269], []), (.ifCond .eq 15, 3, [29], []), (.iload_n 2, 1, [2], []), (.i2l, 1, [], []), (.lconst 0, 1, [], [0]), (.ldc2_w 179, 3, [5], [3]), (.invokestatic 147, 3, [1, 225, 3, 0, 269], []), (.ifCond .ne 10, 3, [36], [])]
def S_X12_numbers_72 : List mI := [(.iload 4, 2, [4], []), (.iload_n 3, 1, [3], []), (.if_icmp .ge 22, 3, [97], []), (.aload_n 0, 1, [0], []), (.getfield 74, 3, [12, 36, 2, 162], []), (.bipush 40, 2, [], [40]), (.iload_n 1, 1, [1], []), (.imul, 1, [], []), (.iload 4, 2, [4], []), (.iadd, 1, [], []), (.lconst 0, 1, [], [0]), (.lastore, 1, [], []), (.iinc 4 1, 3, [4], [1]), (.goto (-22), 3, [72], [])]
theorem lb_X12_numbers : B_X12_numbers.all (fun b => lst y_X12_numbers.2.1 12 y_X12_numbers.2.2.1 false b.1 b.2) = true := by decide +kernel
theorem ls_X12_numbers_0 : lst y_X12_numbers.2.1 12 y_X12_numbers.2.2.1 false 0 S_X12_numbers_0 = true := by decide +kernel
theorem ls_X12_numbers_72 : lst y_X12_numbers.2.1 12 y_X12_numbers.2.2.1 false 72 S_X12_numbers_72 = true := by decide +kernel
def C_X12_numbers (N : Nat) : Nat → List Value → mH → (Option Value → mH → Option (Int32 × mH)) → Option (Int32 × mH) := fun j as g k => kb j 225 (pl1 as fun b0 as => pl1 as fun b1 as => pl1 as fun b2 as => pe as ((f_X12_within N b0 b1 b2 g).bind fun p => k (some (.int p.1)) p.2)) (kb j 224 (pr1 as fun b0 as => pp1 as fun b1 as => pe as ((f_X12_no N b0 b1 g).bind fun p => k (some (.int p.1)) p.2)) (none))
theorem co_X12_numbers (N : Nat) (q : Int32 × mH) : clOK 5 q (C_X12_numbers N) := by
  intro j as g k e
  rcases kb_s e with ⟨rfl, e⟩ | e
  · obtain ⟨b0, r0, q0, f0⟩ := pl1_s e
    obtain ⟨b1, r1, q1, f1⟩ := pl1_s f0
    obtain ⟨b2, r2, q2, f2⟩ := pl1_s f1
    obtain ⟨qe, fe⟩ := pe_s f2
    obtain ⟨p, e1, e2⟩ := bnd_s fe
    subst qe
    subst q2
    subst q1
    subst q0
    exact ⟨_, _, _, _, 4, rfl, (by decide), m_X12_within N e1, e2⟩
  rcases kb_s e with ⟨rfl, e⟩ | e
  · obtain ⟨b0, r0, q0, f0⟩ := pr1_s e
    obtain ⟨b1, r1, q1, f1⟩ := pp1_s f0
    obtain ⟨qe, fe⟩ := pe_s f1
    obtain ⟨p, e1, e2⟩ := bnd_s fe
    subst qe
    subst q1
    subst q0
    exact ⟨_, _, _, _, 4, rfl, (by decide), m_X12_no N e1, e2⟩
  cases e
set_option maxRecDepth 100000 in
theorem t_X12_numbers_72 {X : Nat × (Nat → Int32)} (N : Nat) {q : Int32 × mH} : ∀ (n : Nat) (a0 : Nat) (x1 : Int32) (x3 : Int32) (x4 : Int32) (h : mH), L_X12_numbers_72 N n a0 x1 x3 x4 h = some q → MW X y_X12_numbers 5 72 [(0, .ref a0), (1, .int x1), (3, .int x3), (4, .int x4)] [] h (some (.int q.1)) q.2 := by
  intro n
  induction n with
  | zero => intro a0 x1 x3 x4 h hf; cases hf
  | succ n ih =>
    intro a0 x1 x3 x4 h hf
    refine ev_ok (o := 12) (ini := false) (Cl := C_X12_numbers N) (Rc := RcI) (B := B_X12_numbers) (K := fun pc ls st g => kb pc 72 (lgr 0 ls fun a0 => lgi 1 ls fun x1 => lgi 3 ls fun x3 => lgi 4 ls fun x4 => pe st (L_X12_numbers_72 N n a0 x1 x3 x4 g)) (none)) rfl (fun e => by cases e) (by decide) (rcI_ok rfl) ?_ (co_X12_numbers N q) lb_X12_numbers 3000 72 S_X12_numbers_72 _ _ h ls_X12_numbers_72 hf
    intro pc ls st g e
    rcases kb_s e with ⟨rfl, e⟩ | e
    · obtain ⟨a0, e0, f0⟩ := lgr_s e
      obtain ⟨x1, e1, f1⟩ := lgi_s f0
      obtain ⟨x3, e2, f2⟩ := lgi_s f1
      obtain ⟨x4, e3, f3⟩ := lgi_s f2
      obtain ⟨qe, fe⟩ := pe_s f3
      subst qe
      exact MW.sub (List.forall_mem_cons.mpr ⟨lg_mem e0, List.forall_mem_cons.mpr ⟨lg_mem e1, List.forall_mem_cons.mpr ⟨lg_mem e2, List.forall_mem_cons.mpr ⟨lg_mem e3, fun _ h => absurd h List.not_mem_nil⟩⟩⟩⟩) (ih a0 x1 x3 x4 g fe)
    cases e
set_option maxRecDepth 100000 in
theorem m_X12_numbers (N : Nat) {a0 : Nat} {x1 : Int32} {x2 : Int32} {x3 : Int32} {h : mH} {q : Int32 × mH} (hf : f_X12_numbers N a0 x1 x2 x3 h = some q) : MM y_X12_numbers 5 [.ref a0, .int x1, .int x2, .int x3] h (some (.int q.1)) q.2 := by
  refine MM.of (mFx (j := 338) rfl).2.2.2.1 (Nat.le_of_ble_eq_true rfl) (fun X => ?_)
  refine ev_ok (o := 12) (ini := false) (Cl := C_X12_numbers N) (Rc := RcI) (B := B_X12_numbers) (K := fun pc ls st g => kb pc 72 (lgr 0 ls fun a0 => lgi 1 ls fun x1 => lgi 3 ls fun x3 => lgi 4 ls fun x4 => pe st (L_X12_numbers_72 N N a0 x1 x3 x4 g)) (none)) rfl (fun e => by cases e) (by decide) (rcI_ok rfl) ?_ (co_X12_numbers N q) lb_X12_numbers 3000 0 S_X12_numbers_0 _ _ h ls_X12_numbers_0 hf
  intro pc ls st g e
  rcases kb_s e with ⟨rfl, e⟩ | e
  · obtain ⟨a0, e0, f0⟩ := lgr_s e
    obtain ⟨x1, e1, f1⟩ := lgi_s f0
    obtain ⟨x3, e2, f2⟩ := lgi_s f1
    obtain ⟨x4, e3, f3⟩ := lgi_s f2
    obtain ⟨qe, fe⟩ := pe_s f3
    subst qe
    exact MW.sub (List.forall_mem_cons.mpr ⟨lg_mem e0, List.forall_mem_cons.mpr ⟨lg_mem e1, List.forall_mem_cons.mpr ⟨lg_mem e2, List.forall_mem_cons.mpr ⟨lg_mem e3, fun _ h => absurd h List.not_mem_nil⟩⟩⟩⟩) (t_X12_numbers_72 N N a0 x1 x3 x4 g fe)
  cases e
def f_X12_write (N : Nat) (a0 : Nat) (x1 : Int32) (x2 : Int32) (l3 : Int64) (h : mH) : Option (Int64 × mH) :=
  (pV h 12 a0 0 (.int (jI 0))).bind fun h1 =>
  (f_X12_within N x1.toInt64 (jL 0) (jL 3) h1).bind fun p2 =>
  if p2.1 = 0 then
    (rcv p2.2 12 a0).bind fun _ =>
    (f_X12_no N a0 (jI (-2)) p2.2).bind fun p3 =>
    some (p3.1.toInt64, p3.2)
  else
    (gR p2.2 12 a0 34).bind fun v4 =>
    (ldI 0 p2.2 v4 x1).bind fun v5 =>
    if v5 = (jI (-1)) then
      (rcv p2.2 12 a0).bind fun _ =>
      (f_X12_no N a0 (jI (-6)) p2.2).bind fun p6 =>
      some (p6.1.toInt64, p6.2)
    else
      (gR p2.2 12 a0 35).bind fun v7 =>
      (ldI 0 p2.2 v7 x1).bind fun v8 =>
      (f_X12_within N x2.toInt64 (jL 0) ((iSub v8 (jI 1)).toInt64) p2.2).bind fun p9 =>
      if p9.1 = 0 then
        (rcv p9.2 12 a0).bind fun _ =>
        (f_X12_no N a0 (jI (-7)) p9.2).bind fun p10 =>
        some (p10.1.toInt64, p10.2)
      else
        (gR p9.2 12 a0 36).bind fun v11 =>
        (gR p9.2 12 a0 34).bind fun v12 =>
        (ldI 0 p9.2 v12 x1).bind fun v13 =>
        (f_X12_cut N l3 v13 p9.2).bind fun p14 =>
        (stL p14.2 v11 (iAdd (iMul (jI 40) x1) x2) p14.1).bind fun h15 =>
        (gR h15 12 a0 36).bind fun v16 =>
        (ldL h15 v16 (iAdd (iMul (jI 40) x1) x2)).bind fun v17 =>
        some (v17, h15)
def y_X12_write : mM := (yX12_write, cX12_write, 5, (some .long))
def B_X12_write : List (Nat × List mI) := [(25, [(.aload_n 0, 1, [0], []), (.getfield 68, 3, [12, 34, 2, 160], []), (.iload_n 1, 1, [1], []), (.iaload, 1, [0], []), (.iconst (-1), 1, [], [-1]), (.if_icmp .ne 11, 3, [43], []), (.aload_n 0, 1, [0], []), (.bipush (-6), 2, [], [-6]), (.invokevirtual 84, 3, [0, 224, 1, 12, 267], []), (.i2l, 1, [], []), (.lreturn, 1, [], [])]), (43, [(.iload_n 2, 1, [2], []), (.i2l, 1, [], []), (.lconst 0, 1, [], [0]), (.aload_n 0, 1, [0], []), (.getfield 71, 3, [12, 35, 2, 161], []), (.iload_n 1, 1, [1], []), (.iaload, 1, [0], []), (.iconst 1, 1, [], [1]), (.isub, 1, [], []), (.i2l, 1, [], []), (.invokestatic 147, 3, [1, 225, 3, 0, 269], []), (.ifCond .ne 11, 3, [69], []), (.aload_n 0, 1, [0], []), (.bipush (-7), 2, [], [-7]), (.invokevirtual 84, 3, [0, 224, 1, 12, 267], []), (.i2l, 1, [], []), (.lreturn, 1, [], [])]), (69, [(.aload_n 0, 1, [0], []), (.getfield 74, 3, [12, 36, 2, 162], []), (.bipush 40, 2, [], [40]), (.iload_n 1, 1, [1], []), (.imul, 1, [], []), (.iload_n 2, 1, [2], []), (.iadd, 1, [], []), (.lload_n 3, 1, [3], []), (.aload_n 0, 1, [0], []), (.getfield 68, 3, [12, 34, 2, 160], []), (.iload_n 1, 1, [1], []), (.iaload, 1, [0], []), (.invokestatic 382, 3, [1, 337, 2, 0, 379], []), (.lastore, 1, [], []), (.aload_n 0, 1, [0], []), (.getfield 74, 3, [12, 36, 2, 162], []), (.bipush 40, 2, [], [40]), (.iload_n 1, 1, [1], []), (.imul, 1, [], []), (.iload_n 2, 1, [2], []), (.iadd, 1, [], []), (.laload, 1, [], []), (.lreturn, 1, [], [])])]
def S_X12_write_0 : List mI := [(.aload_n 0, 1, [0], []), (.iconst 0, 1, [], [0]), (.putfield 1, 3, [12, 0, 0, 126], []), (.iload_n 1, 1, [1], []), (.i2l, 1, [], []), (.lconst 0, 1, [], [0]), (.ldc2_w 179, 3, [5], [3]), (.invokestatic 147, 3, [1, 225, 3, 0, 269], []), (.ifCond .ne 11, 3, [25], []), (.aload_n 0, 1, [0], []), (.bipush (-2), 2, [], [-2]), (.invokevirtual 84, 3, [0, 224, 1, 12, 267], []), (.i2l, 1, [], []), (.lreturn, 1, [], [])]
theorem lb_X12_write : B_X12_write.all (fun b => lst y_X12_write.2.1 12 y_X12_write.2.2.1 false b.1 b.2) = true := by decide +kernel
theorem ls_X12_write_0 : lst y_X12_write.2.1 12 y_X12_write.2.2.1 false 0 S_X12_write_0 = true := by decide +kernel
def C_X12_write (N : Nat) : Nat → List Value → mH → (Option Value → mH → Option (Int64 × mH)) → Option (Int64 × mH) := fun j as g k => kb j 225 (pl1 as fun b0 as => pl1 as fun b1 as => pl1 as fun b2 as => pe as ((f_X12_within N b0 b1 b2 g).bind fun p => k (some (.int p.1)) p.2)) (kb j 224 (pr1 as fun b0 as => pp1 as fun b1 as => pe as ((f_X12_no N b0 b1 g).bind fun p => k (some (.int p.1)) p.2)) (kb j 337 (pl1 as fun b0 as => pp1 as fun b1 as => pe as ((f_X12_cut N b0 b1 g).bind fun p => k (some (.long p.1)) p.2)) (none)))
theorem co_X12_write (N : Nat) (q : Int64 × mH) : clOK 5 q (C_X12_write N) := by
  intro j as g k e
  rcases kb_s e with ⟨rfl, e⟩ | e
  · obtain ⟨b0, r0, q0, f0⟩ := pl1_s e
    obtain ⟨b1, r1, q1, f1⟩ := pl1_s f0
    obtain ⟨b2, r2, q2, f2⟩ := pl1_s f1
    obtain ⟨qe, fe⟩ := pe_s f2
    obtain ⟨p, e1, e2⟩ := bnd_s fe
    subst qe
    subst q2
    subst q1
    subst q0
    exact ⟨_, _, _, _, 4, rfl, (by decide), m_X12_within N e1, e2⟩
  rcases kb_s e with ⟨rfl, e⟩ | e
  · obtain ⟨b0, r0, q0, f0⟩ := pr1_s e
    obtain ⟨b1, r1, q1, f1⟩ := pp1_s f0
    obtain ⟨qe, fe⟩ := pe_s f1
    obtain ⟨p, e1, e2⟩ := bnd_s fe
    subst qe
    subst q1
    subst q0
    exact ⟨_, _, _, _, 4, rfl, (by decide), m_X12_no N e1, e2⟩
  rcases kb_s e with ⟨rfl, e⟩ | e
  · obtain ⟨b0, r0, q0, f0⟩ := pl1_s e
    obtain ⟨b1, r1, q1, f1⟩ := pp1_s f0
    obtain ⟨qe, fe⟩ := pe_s f1
    obtain ⟨p, e1, e2⟩ := bnd_s fe
    subst qe
    subst q1
    subst q0
    exact ⟨_, _, _, _, 4, rfl, (by decide), m_X12_cut N e1, e2⟩
  cases e
set_option maxRecDepth 100000 in
theorem m_X12_write (N : Nat) {a0 : Nat} {x1 : Int32} {x2 : Int32} {l3 : Int64} {h : mH} {q : Int64 × mH} (hf : f_X12_write N a0 x1 x2 l3 h = some q) : MM y_X12_write 5 [.ref a0, .int x1, .int x2, .long l3] h (some (.long q.1)) q.2 := by
  refine MM.of (mFx (j := 339) rfl).2.2.2.1 (Nat.le_of_ble_eq_true rfl) (fun X => ?_)
  refine ev_ok (o := 12) (ini := false) (Cl := C_X12_write N) (Rc := RcJ) (B := B_X12_write) (K := fun pc ls st g => none) rfl (fun e => by cases e) (by decide) (rcJ_ok rfl) ?_ (co_X12_write N q) lb_X12_write 3000 0 S_X12_write_0 _ _ h ls_X12_write_0 hf
  intro pc ls st g e
  cases e
def L_X12_copy_56 (N : Nat) : Nat → Nat → Int32 → Int32 → Int32 → Int32 → Int32 → mH → Option (Int32 × mH)
  | 0, _, _, _, _, _, _, _ => none
  | n + 1, a0, x1, x2, x3, x4, x5, h =>
    (gR h 12 a0 35).bind fun v1 =>
    (ldI 0 h v1 x4).bind fun v2 =>
    if x5 < v2 then
      (gR h 12 a0 36).bind fun v3 =>
      (rcv h 12 a0).bind fun _ =>
      (f_X12_crossingsOf N a0 x1 h).bind fun p4 =>
      if p4.1 = 0 then none else
      (rcv p4.2 12 a0).bind fun _ =>
      (f_X12_isOver N a0 x1 x2 (iRem (iAdd x3 x5) p4.1) p4.2).bind fun p5 =>
      if p5.1 = 0 then
        (stL p5.2 v3 (iAdd (iMul (jI 40) x4) x5) (jL 0)).bind fun h6 =>
        let w7 := iAdd x5 (jI 1)
        L_X12_copy_56 N n a0 x1 x2 x3 x4 w7 h6
      else
        (stL p5.2 v3 (iAdd (iMul (jI 40) x4) x5) (jL 1)).bind fun h8 =>
        let w9 := iAdd x5 (jI 1)
        L_X12_copy_56 N n a0 x1 x2 x3 x4 w9 h8
    else
      (gR h 12 a0 35).bind fun v10 =>
      (ldI 0 h v10 x4).bind fun v11 =>
      some (v11, h)
def f_X12_copy (N : Nat) (a0 : Nat) (x1 : Int32) (x2 : Int32) (x3 : Int32) (x4 : Int32) (h : mH) : Option (Int32 × mH) :=
  (pV h 12 a0 0 (.int (jI 0))).bind fun h1 =>
  (rcv h1 12 a0).bind fun _ =>
  (f_X12_isCrossing N a0 x1 x2 x3 h1).bind fun p2 =>
  if p2.1 = 0 then
    (rcv p2.2 12 a0).bind fun _ =>
    (f_X12_no N a0 (jI (-2)) p2.2).bind fun p3 =>
    some (p3.1, p3.2)
  else
    (f_X12_within N x4.toInt64 (jL 0) (jL 3) p2.2).bind fun p4 =>
    if p4.1 = 0 then
      (rcv p4.2 12 a0).bind fun _ =>
      (f_X12_no N a0 (jI (-2)) p4.2).bind fun p5 =>
      some (p5.1, p5.2)
    else
      (gR p4.2 12 a0 34).bind fun v6 =>
      (ldI 0 p4.2 v6 x4).bind fun v7 =>
      if v7 = (jI (-1)) then
        (rcv p4.2 12 a0).bind fun _ =>
        (f_X12_no N a0 (jI (-6)) p4.2).bind fun p8 =>
        some (p8.1, p8.2)
      else
        L_X12_copy_56 N N a0 x1 x2 x3 x4 (jI 0) p4.2
def y_X12_copy : mM := (yX12_copy, cX12_copy, 6, (some .int))
def B_X12_copy : List (Nat × List mI) := [(28, [(.aload_n 0, 1, [0], []), (.bipush (-2), 2, [], [-2]), (.invokevirtual 84, 3, [0, 224, 1, 12, 267], []), (.ireturn, 1, [], [])]), (35, [(.aload_n 0, 1, [0], []), (.getfield 68, 3, [12, 34, 2, 160], []), (.iload 4, 2, [4], []), (.iaload, 1, [0], []), (.iconst (-1), 1, [], [-1]), (.if_icmp .ne 10, 3, [53], []), (.aload_n 0, 1, [0], []), (.bipush (-6), 2, [], [-6]), (.invokevirtual 84, 3, [0, 224, 1, 12, 267], []), (.ireturn, 1, [], [])]), (53, [(.iconst 0, 1, [], [0]), (.istore 5, 2, [5], [])]), (103, [(.lconst 0, 1, [], [0])]), (104, [(.lastore, 1, [], []), (.iinc 5 1, 3, [5], [1]), (.goto (-52), 3, [56], [])]), (111, [(.aload_n 0, 1, [0], []), (.getfield 71, 3, [12, 35, 2, 161], []), (.iload 4, 2, [4], []), (.iaload, 1, [0], []), (.ireturn, 1, [], [])])]
def S_X12_copy_0 : List mI := [(.aload_n 0, 1, [0], []), (.iconst 0, 1, [], [0]), (.putfield 1, 3, [12, 0, 0, 126], []), (.aload_n 0, 1, [0], []), (.iload_n 1, 1, [1], []), (.iload_n 2, 1, [2], []), (.iload_n 3, 1, [3], []), (.invokevirtual 213, 3, [0, 263, 3, 12, 293], []), (.ifCond .eq 16, 3, [28], []), (.iload 4, 2, [4], []), (.i2l, 1, [], []), (.lconst 0, 1, [], [0]), (.ldc2_w 179, 3, [5], [3]), (.invokestatic 147, 3, [1, 225, 3, 0, 269], []), (.ifCond .ne 10, 3, [35], [])]
def S_X12_copy_56 : List mI := [(.iload 5, 2, [5], []), (.aload_n 0, 1, [0], []), (.getfield 71, 3, [12, 35, 2, 161], []), (.iload 4, 2, [4], []), (.iaload, 1, [0], []), (.if_icmp .ge 46, 3, [111], []), (.aload_n 0, 1, [0], []), (.getfield 74, 3, [12, 36, 2, 162], []), (.bipush 40, 2, [], [40]), (.iload 4, 2, [4], []), (.imul, 1, [], []), (.iload 5, 2, [5], []), (.iadd, 1, [], []), (.aload_n 0, 1, [0], []), (.iload_n 1, 1, [1], []), (.iload_n 2, 1, [2], []), (.iload_n 3, 1, [3], []), (.iload 5, 2, [5], []), (.iadd, 1, [], []), (.aload_n 0, 1, [0], []), (.iload_n 1, 1, [1], []), (.invokevirtual 198, 3, [0, 252, 1, 12, 294], []), (.irem, 1, [], []), (.invokevirtual 225, 3, [0, 256, 3, 12, 301], []), (.ifCond .eq 7, 3, [103], []), (.lconst 1, 1, [], [1]), (.goto 4, 3, [104], [])]
theorem lb_X12_copy : B_X12_copy.all (fun b => lst y_X12_copy.2.1 12 y_X12_copy.2.2.1 false b.1 b.2) = true := by decide +kernel
theorem ls_X12_copy_0 : lst y_X12_copy.2.1 12 y_X12_copy.2.2.1 false 0 S_X12_copy_0 = true := by decide +kernel
theorem ls_X12_copy_56 : lst y_X12_copy.2.1 12 y_X12_copy.2.2.1 false 56 S_X12_copy_56 = true := by decide +kernel
def C_X12_copy (N : Nat) : Nat → List Value → mH → (Option Value → mH → Option (Int32 × mH)) → Option (Int32 × mH) := fun j as g k => kb j 263 (pr1 as fun b0 as => pp1 as fun b1 as => pp1 as fun b2 as => pp1 as fun b3 as => pe as ((f_X12_isCrossing N b0 b1 b2 b3 g).bind fun p => k (some (.int p.1)) p.2)) (kb j 225 (pl1 as fun b0 as => pl1 as fun b1 as => pl1 as fun b2 as => pe as ((f_X12_within N b0 b1 b2 g).bind fun p => k (some (.int p.1)) p.2)) (kb j 224 (pr1 as fun b0 as => pp1 as fun b1 as => pe as ((f_X12_no N b0 b1 g).bind fun p => k (some (.int p.1)) p.2)) (kb j 252 (pr1 as fun b0 as => pp1 as fun b1 as => pe as ((f_X12_crossingsOf N b0 b1 g).bind fun p => k (some (.int p.1)) p.2)) (kb j 256 (pr1 as fun b0 as => pp1 as fun b1 as => pp1 as fun b2 as => pp1 as fun b3 as => pe as ((f_X12_isOver N b0 b1 b2 b3 g).bind fun p => k (some (.int p.1)) p.2)) (none)))))
theorem co_X12_copy (N : Nat) (q : Int32 × mH) : clOK 7 q (C_X12_copy N) := by
  intro j as g k e
  rcases kb_s e with ⟨rfl, e⟩ | e
  · obtain ⟨b0, r0, q0, f0⟩ := pr1_s e
    obtain ⟨b1, r1, q1, f1⟩ := pp1_s f0
    obtain ⟨b2, r2, q2, f2⟩ := pp1_s f1
    obtain ⟨b3, r3, q3, f3⟩ := pp1_s f2
    obtain ⟨qe, fe⟩ := pe_s f3
    obtain ⟨p, e1, e2⟩ := bnd_s fe
    subst qe
    subst q3
    subst q2
    subst q1
    subst q0
    exact ⟨_, _, _, _, 6, rfl, (by decide), m_X12_isCrossing N e1, e2⟩
  rcases kb_s e with ⟨rfl, e⟩ | e
  · obtain ⟨b0, r0, q0, f0⟩ := pl1_s e
    obtain ⟨b1, r1, q1, f1⟩ := pl1_s f0
    obtain ⟨b2, r2, q2, f2⟩ := pl1_s f1
    obtain ⟨qe, fe⟩ := pe_s f2
    obtain ⟨p, e1, e2⟩ := bnd_s fe
    subst qe
    subst q2
    subst q1
    subst q0
    exact ⟨_, _, _, _, 4, rfl, (by decide), m_X12_within N e1, e2⟩
  rcases kb_s e with ⟨rfl, e⟩ | e
  · obtain ⟨b0, r0, q0, f0⟩ := pr1_s e
    obtain ⟨b1, r1, q1, f1⟩ := pp1_s f0
    obtain ⟨qe, fe⟩ := pe_s f1
    obtain ⟨p, e1, e2⟩ := bnd_s fe
    subst qe
    subst q1
    subst q0
    exact ⟨_, _, _, _, 4, rfl, (by decide), m_X12_no N e1, e2⟩
  rcases kb_s e with ⟨rfl, e⟩ | e
  · obtain ⟨b0, r0, q0, f0⟩ := pr1_s e
    obtain ⟨b1, r1, q1, f1⟩ := pp1_s f0
    obtain ⟨qe, fe⟩ := pe_s f1
    obtain ⟨p, e1, e2⟩ := bnd_s fe
    subst qe
    subst q1
    subst q0
    exact ⟨_, _, _, _, 4, rfl, (by decide), m_X12_crossingsOf N e1, e2⟩
  rcases kb_s e with ⟨rfl, e⟩ | e
  · obtain ⟨b0, r0, q0, f0⟩ := pr1_s e
    obtain ⟨b1, r1, q1, f1⟩ := pp1_s f0
    obtain ⟨b2, r2, q2, f2⟩ := pp1_s f1
    obtain ⟨b3, r3, q3, f3⟩ := pp1_s f2
    obtain ⟨qe, fe⟩ := pe_s f3
    obtain ⟨p, e1, e2⟩ := bnd_s fe
    subst qe
    subst q3
    subst q2
    subst q1
    subst q0
    exact ⟨_, _, _, _, 5, rfl, (by decide), m_X12_isOver N e1, e2⟩
  cases e
set_option maxRecDepth 100000 in
theorem t_X12_copy_56 {X : Nat × (Nat → Int32)} (N : Nat) {q : Int32 × mH} : ∀ (n : Nat) (a0 : Nat) (x1 : Int32) (x2 : Int32) (x3 : Int32) (x4 : Int32) (x5 : Int32) (h : mH), L_X12_copy_56 N n a0 x1 x2 x3 x4 x5 h = some q → MW X y_X12_copy 7 56 [(0, .ref a0), (1, .int x1), (2, .int x2), (3, .int x3), (4, .int x4), (5, .int x5)] [] h (some (.int q.1)) q.2 := by
  intro n
  induction n with
  | zero => intro a0 x1 x2 x3 x4 x5 h hf; cases hf
  | succ n ih =>
    intro a0 x1 x2 x3 x4 x5 h hf
    refine ev_ok (o := 12) (ini := false) (Cl := C_X12_copy N) (Rc := RcI) (B := B_X12_copy) (K := fun pc ls st g => kb pc 56 (lgr 0 ls fun a0 => lgi 1 ls fun x1 => lgi 2 ls fun x2 => lgi 3 ls fun x3 => lgi 4 ls fun x4 => lgi 5 ls fun x5 => pe st (L_X12_copy_56 N n a0 x1 x2 x3 x4 x5 g)) (none)) rfl (fun e => by cases e) (by decide) (rcI_ok rfl) ?_ (co_X12_copy N q) lb_X12_copy 3000 56 S_X12_copy_56 _ _ h ls_X12_copy_56 hf
    intro pc ls st g e
    rcases kb_s e with ⟨rfl, e⟩ | e
    · obtain ⟨a0, e0, f0⟩ := lgr_s e
      obtain ⟨x1, e1, f1⟩ := lgi_s f0
      obtain ⟨x2, e2, f2⟩ := lgi_s f1
      obtain ⟨x3, e3, f3⟩ := lgi_s f2
      obtain ⟨x4, e4, f4⟩ := lgi_s f3
      obtain ⟨x5, e5, f5⟩ := lgi_s f4
      obtain ⟨qe, fe⟩ := pe_s f5
      subst qe
      exact MW.sub (List.forall_mem_cons.mpr ⟨lg_mem e0, List.forall_mem_cons.mpr ⟨lg_mem e1, List.forall_mem_cons.mpr ⟨lg_mem e2, List.forall_mem_cons.mpr ⟨lg_mem e3, List.forall_mem_cons.mpr ⟨lg_mem e4, List.forall_mem_cons.mpr ⟨lg_mem e5, fun _ h => absurd h List.not_mem_nil⟩⟩⟩⟩⟩⟩) (ih a0 x1 x2 x3 x4 x5 g fe)
    cases e
set_option maxRecDepth 100000 in
theorem m_X12_copy (N : Nat) {a0 : Nat} {x1 : Int32} {x2 : Int32} {x3 : Int32} {x4 : Int32} {h : mH} {q : Int32 × mH} (hf : f_X12_copy N a0 x1 x2 x3 x4 h = some q) : MM y_X12_copy 7 [.ref a0, .int x1, .int x2, .int x3, .int x4] h (some (.int q.1)) q.2 := by
  refine MM.of (mFx (j := 340) rfl).2.2.2.1 (Nat.le_of_ble_eq_true rfl) (fun X => ?_)
  refine ev_ok (o := 12) (ini := false) (Cl := C_X12_copy N) (Rc := RcI) (B := B_X12_copy) (K := fun pc ls st g => kb pc 56 (lgr 0 ls fun a0 => lgi 1 ls fun x1 => lgi 2 ls fun x2 => lgi 3 ls fun x3 => lgi 4 ls fun x4 => lgi 5 ls fun x5 => pe st (L_X12_copy_56 N N a0 x1 x2 x3 x4 x5 g)) (none)) rfl (fun e => by cases e) (by decide) (rcI_ok rfl) ?_ (co_X12_copy N q) lb_X12_copy 3000 0 S_X12_copy_0 _ _ h ls_X12_copy_0 hf
  intro pc ls st g e
  rcases kb_s e with ⟨rfl, e⟩ | e
  · obtain ⟨a0, e0, f0⟩ := lgr_s e
    obtain ⟨x1, e1, f1⟩ := lgi_s f0
    obtain ⟨x2, e2, f2⟩ := lgi_s f1
    obtain ⟨x3, e3, f3⟩ := lgi_s f2
    obtain ⟨x4, e4, f4⟩ := lgi_s f3
    obtain ⟨x5, e5, f5⟩ := lgi_s f4
    obtain ⟨qe, fe⟩ := pe_s f5
    subst qe
    exact MW.sub (List.forall_mem_cons.mpr ⟨lg_mem e0, List.forall_mem_cons.mpr ⟨lg_mem e1, List.forall_mem_cons.mpr ⟨lg_mem e2, List.forall_mem_cons.mpr ⟨lg_mem e3, List.forall_mem_cons.mpr ⟨lg_mem e4, List.forall_mem_cons.mpr ⟨lg_mem e5, fun _ h => absurd h List.not_mem_nil⟩⟩⟩⟩⟩⟩) (t_X12_copy_56 N N a0 x1 x2 x3 x4 x5 g fe)
  cases e
def L_X12_image_24 (N : Nat) : Nat → Nat → Int32 → Int32 → mH → Option (Int32 × mH)
  | 0, _, _, _, _ => none
  | n + 1, a0, x1, x2, h =>
    if x2 < (jI 665) then
      (gR h 12 a0 2).bind fun v1 =>
      (gR h 12 a0 2).bind fun v2 =>
      (ldI 0 h v2 x2).bind fun v3 =>
      (stI 0 h v1 (iAdd (iMul (jI 665) (iAdd x1 (jI 1))) x2) v3).bind fun h4 =>
      let w5 := iAdd x2 (jI 1)
      L_X12_image_24 N n a0 x1 w5 h4
    else
      (gR h 12 a0 3).bind fun v6 =>
      (stI 3 h v6 x1 (jI 1)).bind fun h7 =>
      some (jI 0, h7)
def f_X12_image (N : Nat) (a0 : Nat) (x1 : Int32) (h : mH) : Option (Int32 × mH) :=
  (pV h 12 a0 0 (.int (jI 0))).bind fun h1 =>
  (f_X12_within N x1.toInt64 (jL 0) (jL 1) h1).bind fun p2 =>
  if p2.1 = 0 then
    (rcv p2.2 12 a0).bind fun _ =>
    (f_X12_no N a0 (jI (-2)) p2.2).bind fun p3 =>
    some (p3.1, p3.2)
  else
    L_X12_image_24 N N a0 x1 (jI 0) p2.2
def y_X12_image : mM := (yX12_image, cX12_image, 3, (some .int))
def B_X12_image : List (Nat × List mI) := [(22, [(.iconst 0, 1, [], [0]), (.istore_n 2, 1, [2], [])]), (57, [(.aload_n 0, 1, [0], []), (.getfield 20, 3, [12, 3, 2, 129], []), (.iload_n 1, 1, [1], []), (.iconst 1, 1, [], [1]), (.bastore, 1, [3], []), (.iconst 0, 1, [], [0]), (.ireturn, 1, [], [])])]
def S_X12_image_0 : List mI := [(.aload_n 0, 1, [0], []), (.iconst 0, 1, [], [0]), (.putfield 1, 3, [12, 0, 0, 126], []), (.iload_n 1, 1, [1], []), (.i2l, 1, [], []), (.lconst 0, 1, [], [0]), (.lconst 1, 1, [], [1]), (.invokestatic 147, 3, [1, 225, 3, 0, 269], []), (.ifCond .ne 10, 3, [22], []), (.aload_n 0, 1, [0], []), (.bipush (-2), 2, [], [-2]), (.invokevirtual 84, 3, [0, 224, 1, 12, 267], []), (.ireturn, 1, [], [])]
def S_X12_image_24 : List mI := [(.iload_n 2, 1, [2], []), (.sipush 665, 3, [], [665]), (.if_icmp .ge 29, 3, [57], []), (.aload_n 0, 1, [0], []), (.getfield 17, 3, [12, 2, 2, 128], []), (.sipush 665, 3, [], [665]), (.iload_n 1, 1, [1], []), (.iconst 1, 1, [], [1]), (.iadd, 1, [], []), (.imul, 1, [], []), (.iload_n 2, 1, [2], []), (.iadd, 1, [], []), (.aload_n 0, 1, [0], []), (.getfield 17, 3, [12, 2, 2, 128], []), (.iload_n 2, 1, [2], []), (.iaload, 1, [0], []), (.iastore, 1, [], []), (.iinc 2 1, 3, [2], [1]), (.goto (-30), 3, [24], [])]
theorem lb_X12_image : B_X12_image.all (fun b => lst y_X12_image.2.1 12 y_X12_image.2.2.1 false b.1 b.2) = true := by decide +kernel
theorem ls_X12_image_0 : lst y_X12_image.2.1 12 y_X12_image.2.2.1 false 0 S_X12_image_0 = true := by decide +kernel
theorem ls_X12_image_24 : lst y_X12_image.2.1 12 y_X12_image.2.2.1 false 24 S_X12_image_24 = true := by decide +kernel
def C_X12_image (N : Nat) : Nat → List Value → mH → (Option Value → mH → Option (Int32 × mH)) → Option (Int32 × mH) := fun j as g k => kb j 225 (pl1 as fun b0 as => pl1 as fun b1 as => pl1 as fun b2 as => pe as ((f_X12_within N b0 b1 b2 g).bind fun p => k (some (.int p.1)) p.2)) (kb j 224 (pr1 as fun b0 as => pp1 as fun b1 as => pe as ((f_X12_no N b0 b1 g).bind fun p => k (some (.int p.1)) p.2)) (none))
theorem co_X12_image (N : Nat) (q : Int32 × mH) : clOK 5 q (C_X12_image N) := by
  intro j as g k e
  rcases kb_s e with ⟨rfl, e⟩ | e
  · obtain ⟨b0, r0, q0, f0⟩ := pl1_s e
    obtain ⟨b1, r1, q1, f1⟩ := pl1_s f0
    obtain ⟨b2, r2, q2, f2⟩ := pl1_s f1
    obtain ⟨qe, fe⟩ := pe_s f2
    obtain ⟨p, e1, e2⟩ := bnd_s fe
    subst qe
    subst q2
    subst q1
    subst q0
    exact ⟨_, _, _, _, 4, rfl, (by decide), m_X12_within N e1, e2⟩
  rcases kb_s e with ⟨rfl, e⟩ | e
  · obtain ⟨b0, r0, q0, f0⟩ := pr1_s e
    obtain ⟨b1, r1, q1, f1⟩ := pp1_s f0
    obtain ⟨qe, fe⟩ := pe_s f1
    obtain ⟨p, e1, e2⟩ := bnd_s fe
    subst qe
    subst q1
    subst q0
    exact ⟨_, _, _, _, 4, rfl, (by decide), m_X12_no N e1, e2⟩
  cases e
set_option maxRecDepth 100000 in
theorem t_X12_image_24 {X : Nat × (Nat → Int32)} (N : Nat) {q : Int32 × mH} : ∀ (n : Nat) (a0 : Nat) (x1 : Int32) (x2 : Int32) (h : mH), L_X12_image_24 N n a0 x1 x2 h = some q → MW X y_X12_image 5 24 [(0, .ref a0), (1, .int x1), (2, .int x2)] [] h (some (.int q.1)) q.2 := by
  intro n
  induction n with
  | zero => intro a0 x1 x2 h hf; cases hf
  | succ n ih =>
    intro a0 x1 x2 h hf
    refine ev_ok (o := 12) (ini := false) (Cl := C_X12_image N) (Rc := RcI) (B := B_X12_image) (K := fun pc ls st g => kb pc 24 (lgr 0 ls fun a0 => lgi 1 ls fun x1 => lgi 2 ls fun x2 => pe st (L_X12_image_24 N n a0 x1 x2 g)) (none)) rfl (fun e => by cases e) (by decide) (rcI_ok rfl) ?_ (co_X12_image N q) lb_X12_image 3000 24 S_X12_image_24 _ _ h ls_X12_image_24 hf
    intro pc ls st g e
    rcases kb_s e with ⟨rfl, e⟩ | e
    · obtain ⟨a0, e0, f0⟩ := lgr_s e
      obtain ⟨x1, e1, f1⟩ := lgi_s f0
      obtain ⟨x2, e2, f2⟩ := lgi_s f1
      obtain ⟨qe, fe⟩ := pe_s f2
      subst qe
      exact MW.sub (List.forall_mem_cons.mpr ⟨lg_mem e0, List.forall_mem_cons.mpr ⟨lg_mem e1, List.forall_mem_cons.mpr ⟨lg_mem e2, fun _ h => absurd h List.not_mem_nil⟩⟩⟩) (ih a0 x1 x2 g fe)
    cases e
set_option maxRecDepth 100000 in
theorem m_X12_image (N : Nat) {a0 : Nat} {x1 : Int32} {h : mH} {q : Int32 × mH} (hf : f_X12_image N a0 x1 h = some q) : MM y_X12_image 5 [.ref a0, .int x1] h (some (.int q.1)) q.2 := by
  refine MM.of (mFx (j := 341) rfl).2.2.2.1 (Nat.le_of_ble_eq_true rfl) (fun X => ?_)
  refine ev_ok (o := 12) (ini := false) (Cl := C_X12_image N) (Rc := RcI) (B := B_X12_image) (K := fun pc ls st g => kb pc 24 (lgr 0 ls fun a0 => lgi 1 ls fun x1 => lgi 2 ls fun x2 => pe st (L_X12_image_24 N N a0 x1 x2 g)) (none)) rfl (fun e => by cases e) (by decide) (rcI_ok rfl) ?_ (co_X12_image N q) lb_X12_image 3000 0 S_X12_image_0 _ _ h ls_X12_image_0 hf
  intro pc ls st g e
  rcases kb_s e with ⟨rfl, e⟩ | e
  · obtain ⟨a0, e0, f0⟩ := lgr_s e
    obtain ⟨x1, e1, f1⟩ := lgi_s f0
    obtain ⟨x2, e2, f2⟩ := lgi_s f1
    obtain ⟨qe, fe⟩ := pe_s f2
    subst qe
    exact MW.sub (List.forall_mem_cons.mpr ⟨lg_mem e0, List.forall_mem_cons.mpr ⟨lg_mem e1, List.forall_mem_cons.mpr ⟨lg_mem e2, fun _ h => absurd h List.not_mem_nil⟩⟩⟩) (t_X12_image_24 N N a0 x1 x2 g fe)
  cases e
def L_X12_restore_40 (N : Nat) : Nat → Nat → Int32 → Int32 → mH → Option (Int32 × mH)
  | 0, _, _, _, _ => none
  | n + 1, a0, x1, x2, h =>
    if x2 < (jI 665) then
      (gR h 12 a0 2).bind fun v1 =>
      (gR h 12 a0 2).bind fun v2 =>
      (ldI 0 h v2 (iAdd (iMul (jI 665) (iAdd x1 (jI 1))) x2)).bind fun v3 =>
      (stI 0 h v1 x2 v3).bind fun h4 =>
      let w5 := iAdd x2 (jI 1)
      L_X12_restore_40 N n a0 x1 w5 h4
    else
      some (jI 0, h)
def f_X12_restore (N : Nat) (a0 : Nat) (x1 : Int32) (h : mH) : Option (Int32 × mH) :=
  (pV h 12 a0 0 (.int (jI 0))).bind fun h1 =>
  (f_X12_within N x1.toInt64 (jL 0) (jL 1) h1).bind fun p2 =>
  if p2.1 = 0 then
    (rcv p2.2 12 a0).bind fun _ =>
    (f_X12_no N a0 (jI (-2)) p2.2).bind fun p3 =>
    some (p3.1, p3.2)
  else
    (gR p2.2 12 a0 3).bind fun v4 =>
    (ldI 3 p2.2 v4 x1).bind fun v5 =>
    if v5 = 0 then
      (rcv p2.2 12 a0).bind fun _ =>
      (f_X12_no N a0 (jI (-5)) p2.2).bind fun p6 =>
      some (p6.1, p6.2)
    else
      L_X12_restore_40 N N a0 x1 (jI 0) p2.2
def y_X12_restore : mM := (yX12_restore, cX12_restore, 3, (some .int))
def B_X12_restore : List (Nat × List mI) := [(22, [(.aload_n 0, 1, [0], []), (.getfield 20, 3, [12, 3, 2, 129], []), (.iload_n 1, 1, [1], []), (.baload, 1, [3], []), (.ifCond .ne 10, 3, [38], []), (.aload_n 0, 1, [0], []), (.bipush (-5), 2, [], [-5]), (.invokevirtual 84, 3, [0, 224, 1, 12, 267], []), (.ireturn, 1, [], [])]), (38, [(.iconst 0, 1, [], [0]), (.istore_n 2, 1, [2], [])]), (73, [(.iconst 0, 1, [], [0]), (.ireturn, 1, [], [])])]
def S_X12_restore_0 : List mI := [(.aload_n 0, 1, [0], []), (.iconst 0, 1, [], [0]), (.putfield 1, 3, [12, 0, 0, 126], []), (.iload_n 1, 1, [1], []), (.i2l, 1, [], []), (.lconst 0, 1, [], [0]), (.lconst 1, 1, [], [1]), (.invokestatic 147, 3, [1, 225, 3, 0, 269], []), (.ifCond .ne 10, 3, [22], []), (.aload_n 0, 1, [0], []), (.bipush (-2), 2, [], [-2]), (.invokevirtual 84, 3, [0, 224, 1, 12, 267], []), (.ireturn, 1, [], [])]
def S_X12_restore_40 : List mI := [(.iload_n 2, 1, [2], []), (.sipush 665, 3, [], [665]), (.if_icmp .ge 29, 3, [73], []), (.aload_n 0, 1, [0], []), (.getfield 17, 3, [12, 2, 2, 128], []), (.iload_n 2, 1, [2], []), (.aload_n 0, 1, [0], []), (.getfield 17, 3, [12, 2, 2, 128], []), (.sipush 665, 3, [], [665]), (.iload_n 1, 1, [1], []), (.iconst 1, 1, [], [1]), (.iadd, 1, [], []), (.imul, 1, [], []), (.iload_n 2, 1, [2], []), (.iadd, 1, [], []), (.iaload, 1, [0], []), (.iastore, 1, [], []), (.iinc 2 1, 3, [2], [1]), (.goto (-30), 3, [40], [])]
theorem lb_X12_restore : B_X12_restore.all (fun b => lst y_X12_restore.2.1 12 y_X12_restore.2.2.1 false b.1 b.2) = true := by decide +kernel
theorem ls_X12_restore_0 : lst y_X12_restore.2.1 12 y_X12_restore.2.2.1 false 0 S_X12_restore_0 = true := by decide +kernel
theorem ls_X12_restore_40 : lst y_X12_restore.2.1 12 y_X12_restore.2.2.1 false 40 S_X12_restore_40 = true := by decide +kernel
def C_X12_restore (N : Nat) : Nat → List Value → mH → (Option Value → mH → Option (Int32 × mH)) → Option (Int32 × mH) := fun j as g k => kb j 225 (pl1 as fun b0 as => pl1 as fun b1 as => pl1 as fun b2 as => pe as ((f_X12_within N b0 b1 b2 g).bind fun p => k (some (.int p.1)) p.2)) (kb j 224 (pr1 as fun b0 as => pp1 as fun b1 as => pe as ((f_X12_no N b0 b1 g).bind fun p => k (some (.int p.1)) p.2)) (none))
theorem co_X12_restore (N : Nat) (q : Int32 × mH) : clOK 5 q (C_X12_restore N) := by
  intro j as g k e
  rcases kb_s e with ⟨rfl, e⟩ | e
  · obtain ⟨b0, r0, q0, f0⟩ := pl1_s e
    obtain ⟨b1, r1, q1, f1⟩ := pl1_s f0
    obtain ⟨b2, r2, q2, f2⟩ := pl1_s f1
    obtain ⟨qe, fe⟩ := pe_s f2
    obtain ⟨p, e1, e2⟩ := bnd_s fe
    subst qe
    subst q2
    subst q1
    subst q0
    exact ⟨_, _, _, _, 4, rfl, (by decide), m_X12_within N e1, e2⟩
  rcases kb_s e with ⟨rfl, e⟩ | e
  · obtain ⟨b0, r0, q0, f0⟩ := pr1_s e
    obtain ⟨b1, r1, q1, f1⟩ := pp1_s f0
    obtain ⟨qe, fe⟩ := pe_s f1
    obtain ⟨p, e1, e2⟩ := bnd_s fe
    subst qe
    subst q1
    subst q0
    exact ⟨_, _, _, _, 4, rfl, (by decide), m_X12_no N e1, e2⟩
  cases e
set_option maxRecDepth 100000 in
theorem t_X12_restore_40 {X : Nat × (Nat → Int32)} (N : Nat) {q : Int32 × mH} : ∀ (n : Nat) (a0 : Nat) (x1 : Int32) (x2 : Int32) (h : mH), L_X12_restore_40 N n a0 x1 x2 h = some q → MW X y_X12_restore 5 40 [(0, .ref a0), (1, .int x1), (2, .int x2)] [] h (some (.int q.1)) q.2 := by
  intro n
  induction n with
  | zero => intro a0 x1 x2 h hf; cases hf
  | succ n ih =>
    intro a0 x1 x2 h hf
    refine ev_ok (o := 12) (ini := false) (Cl := C_X12_restore N) (Rc := RcI) (B := B_X12_restore) (K := fun pc ls st g => kb pc 40 (lgr 0 ls fun a0 => lgi 1 ls fun x1 => lgi 2 ls fun x2 => pe st (L_X12_restore_40 N n a0 x1 x2 g)) (none)) rfl (fun e => by cases e) (by decide) (rcI_ok rfl) ?_ (co_X12_restore N q) lb_X12_restore 3000 40 S_X12_restore_40 _ _ h ls_X12_restore_40 hf
    intro pc ls st g e
    rcases kb_s e with ⟨rfl, e⟩ | e
    · obtain ⟨a0, e0, f0⟩ := lgr_s e
      obtain ⟨x1, e1, f1⟩ := lgi_s f0
      obtain ⟨x2, e2, f2⟩ := lgi_s f1
      obtain ⟨qe, fe⟩ := pe_s f2
      subst qe
      exact MW.sub (List.forall_mem_cons.mpr ⟨lg_mem e0, List.forall_mem_cons.mpr ⟨lg_mem e1, List.forall_mem_cons.mpr ⟨lg_mem e2, fun _ h => absurd h List.not_mem_nil⟩⟩⟩) (ih a0 x1 x2 g fe)
    cases e
set_option maxRecDepth 100000 in
theorem m_X12_restore (N : Nat) {a0 : Nat} {x1 : Int32} {h : mH} {q : Int32 × mH} (hf : f_X12_restore N a0 x1 h = some q) : MM y_X12_restore 5 [.ref a0, .int x1] h (some (.int q.1)) q.2 := by
  refine MM.of (mFx (j := 342) rfl).2.2.2.1 (Nat.le_of_ble_eq_true rfl) (fun X => ?_)
  refine ev_ok (o := 12) (ini := false) (Cl := C_X12_restore N) (Rc := RcI) (B := B_X12_restore) (K := fun pc ls st g => kb pc 40 (lgr 0 ls fun a0 => lgi 1 ls fun x1 => lgi 2 ls fun x2 => pe st (L_X12_restore_40 N N a0 x1 x2 g)) (none)) rfl (fun e => by cases e) (by decide) (rcI_ok rfl) ?_ (co_X12_restore N q) lb_X12_restore 3000 0 S_X12_restore_0 _ _ h ls_X12_restore_0 hf
  intro pc ls st g e
  rcases kb_s e with ⟨rfl, e⟩ | e
  · obtain ⟨a0, e0, f0⟩ := lgr_s e
    obtain ⟨x1, e1, f1⟩ := lgi_s f0
    obtain ⟨x2, e2, f2⟩ := lgi_s f1
    obtain ⟨qe, fe⟩ := pe_s f2
    subst qe
    exact MW.sub (List.forall_mem_cons.mpr ⟨lg_mem e0, List.forall_mem_cons.mpr ⟨lg_mem e1, List.forall_mem_cons.mpr ⟨lg_mem e2, fun _ h => absurd h List.not_mem_nil⟩⟩⟩) (t_X12_restore_40 N N a0 x1 x2 g fe)
  cases e
def f_X12_status (N : Nat) (a0 : Nat) (x1 : Int32) (h : mH) : Option (Int32 × mH) :=
  (pV h 12 a0 0 (.int (jI 0))).bind fun h1 =>
  (f_X12_within N x1.toInt64 (jL 0) (jL 5) h1).bind fun p2 =>
  if p2.1 = 0 then
    some (jI (-1), p2.2)
  else
    (gR p2.2 12 a0 1).bind fun v3 =>
    (ldI 0 p2.2 v3 x1).bind fun v4 =>
    some (v4, p2.2)
def y_X12_status : mM := (yX12_status, cX12_status, 2, (some .int))
def B_X12_status : List (Nat × List mI) := [(26, [(.iconst (-1), 1, [], [-1])]), (27, [(.ireturn, 1, [], [])])]
def S_X12_status_0 : List mI := [(.aload_n 0, 1, [0], []), (.iconst 0, 1, [], [0]), (.putfield 1, 3, [12, 0, 0, 126], []), (.iload_n 1, 1, [1], []), (.i2l, 1, [], []), (.lconst 0, 1, [], [0]), (.ldc2_w 217, 3, [8], [5]), (.invokestatic 147, 3, [1, 225, 3, 0, 269], []), (.ifCond .eq 12, 3, [26], []), (.aload_n 0, 1, [0], []), (.getfield 7, 3, [12, 1, 2, 127], []), (.iload_n 1, 1, [1], []), (.iaload, 1, [0], []), (.goto 4, 3, [27], [])]
theorem lb_X12_status : B_X12_status.all (fun b => lst y_X12_status.2.1 12 y_X12_status.2.2.1 false b.1 b.2) = true := by decide +kernel
theorem ls_X12_status_0 : lst y_X12_status.2.1 12 y_X12_status.2.2.1 false 0 S_X12_status_0 = true := by decide +kernel
def C_X12_status (N : Nat) : Nat → List Value → mH → (Option Value → mH → Option (Int32 × mH)) → Option (Int32 × mH) := fun j as g k => kb j 225 (pl1 as fun b0 as => pl1 as fun b1 as => pl1 as fun b2 as => pe as ((f_X12_within N b0 b1 b2 g).bind fun p => k (some (.int p.1)) p.2)) (none)
theorem co_X12_status (N : Nat) (q : Int32 × mH) : clOK 5 q (C_X12_status N) := by
  intro j as g k e
  rcases kb_s e with ⟨rfl, e⟩ | e
  · obtain ⟨b0, r0, q0, f0⟩ := pl1_s e
    obtain ⟨b1, r1, q1, f1⟩ := pl1_s f0
    obtain ⟨b2, r2, q2, f2⟩ := pl1_s f1
    obtain ⟨qe, fe⟩ := pe_s f2
    obtain ⟨p, e1, e2⟩ := bnd_s fe
    subst qe
    subst q2
    subst q1
    subst q0
    exact ⟨_, _, _, _, 4, rfl, (by decide), m_X12_within N e1, e2⟩
  cases e
set_option maxRecDepth 100000 in
theorem m_X12_status (N : Nat) {a0 : Nat} {x1 : Int32} {h : mH} {q : Int32 × mH} (hf : f_X12_status N a0 x1 h = some q) : MM y_X12_status 5 [.ref a0, .int x1] h (some (.int q.1)) q.2 := by
  refine MM.of (mFx (j := 343) rfl).2.2.2.1 (Nat.le_of_ble_eq_true rfl) (fun X => ?_)
  refine ev_ok (o := 12) (ini := false) (Cl := C_X12_status N) (Rc := RcI) (B := B_X12_status) (K := fun pc ls st g => none) rfl (fun e => by cases e) (by decide) (rcI_ok rfl) ?_ (co_X12_status N q) lb_X12_status 3000 0 S_X12_status_0 _ _ h ls_X12_status_0 hf
  intro pc ls st g e
  cases e
def f_X12_count (N : Nat) (a0 : Nat) (x1 : Int32) (h : mH) : Option (Int32 × mH) :=
  (pV h 12 a0 0 (.int (jI 0))).bind fun h1 =>
  if x1 = jI 0 then
    (gR h1 12 a0 2).bind fun v2 =>
    (ldI 0 h1 v2 (jI 0)).bind fun v3 =>
    some (v3, h1)
  else
  if x1 = jI 1 then
    (gR h1 12 a0 2).bind fun v4 =>
    (ldI 0 h1 v4 (jI 1)).bind fun v5 =>
    some (v5, h1)
  else
  if x1 = jI 2 then
    (gR h1 12 a0 2).bind fun v6 =>
    (ldI 0 h1 v6 (jI 26)).bind fun v7 =>
    some (v7, h1)
  else
  if x1 = jI 3 then
    (gR h1 12 a0 2).bind fun v8 =>
    (ldI 0 h1 v8 (jI 115)).bind fun v9 =>
    some (v9, h1)
  else
  if x1 = jI 4 then
    (gR h1 12 a0 2).bind fun v10 =>
    (ldI 0 h1 v10 (jI 140)).bind fun v11 =>
    some (v11, h1)
  else
  if x1 = jI 5 then
    (gR h1 12 a0 2).bind fun v12 =>
    (ldI 0 h1 v12 (jI 141)).bind fun v13 =>
    some (v13, h1)
  else
  if x1 = jI 6 then
    (gR h1 12 a0 2).bind fun v14 =>
    (ldI 0 h1 v14 (jI 142)).bind fun v15 =>
    some (v15, h1)
  else
  if x1 = jI 7 then
    (gI h1 12 a0 6).bind fun v16 =>
    some (v16, h1)
  else
  if x1 = jI 8 then
    (gR h1 12 a0 2).bind fun v17 =>
    (ldI 0 h1 v17 (jI 143)).bind fun v18 =>
    some (v18, h1)
  else
  if x1 = jI 9 then
    (gR h1 12 a0 2).bind fun v19 =>
    (ldI 0 h1 v19 (jI 400)).bind fun v20 =>
    some (v20, h1)
  else
  some (jI (-1), h1)
def y_X12_count : mM := (yX12_count, cX12_count, 2, (some .int))
def B_X12_count : List (Nat × List mI) := [(60, [(.aload_n 0, 1, [0], []), (.getfield 17, 3, [12, 2, 2, 128], []), (.iconst 0, 1, [], [0]), (.iaload, 1, [0], []), (.ireturn, 1, [], [])]), (67, [(.aload_n 0, 1, [0], []), (.getfield 17, 3, [12, 2, 2, 128], []), (.iconst 1, 1, [], [1]), (.iaload, 1, [0], []), (.ireturn, 1, [], [])]), (74, [(.aload_n 0, 1, [0], []), (.getfield 17, 3, [12, 2, 2, 128], []), (.bipush 26, 2, [], [26]), (.iaload, 1, [0], []), (.ireturn, 1, [], [])]), (82, [(.aload_n 0, 1, [0], []), (.getfield 17, 3, [12, 2, 2, 128], []), (.bipush 115, 2, [], [115]), (.iaload, 1, [0], []), (.ireturn, 1, [], [])]), (90, [(.aload_n 0, 1, [0], []), (.getfield 17, 3, [12, 2, 2, 128], []), (.sipush 140, 3, [], [140]), (.iaload, 1, [0], []), (.ireturn, 1, [], [])]), (99, [(.aload_n 0, 1, [0], []), (.getfield 17, 3, [12, 2, 2, 128], []), (.sipush 141, 3, [], [141]), (.iaload, 1, [0], []), (.ireturn, 1, [], [])]), (108, [(.aload_n 0, 1, [0], []), (.getfield 17, 3, [12, 2, 2, 128], []), (.sipush 142, 3, [], [142]), (.iaload, 1, [0], []), (.ireturn, 1, [], [])]), (117, [(.aload_n 0, 1, [0], []), (.getfield 81, 3, [12, 6, 0, 132], []), (.ireturn, 1, [], [])]), (122, [(.aload_n 0, 1, [0], []), (.getfield 17, 3, [12, 2, 2, 128], []), (.sipush 143, 3, [], [143]), (.iaload, 1, [0], []), (.ireturn, 1, [], [])]), (131, [(.aload_n 0, 1, [0], []), (.getfield 17, 3, [12, 2, 2, 128], []), (.sipush 400, 3, [], [400]), (.iaload, 1, [0], []), (.ireturn, 1, [], [])]), (140, [(.iconst (-1), 1, [], [-1]), (.ireturn, 1, [], [])])]
def S_X12_count_0 : List mI := [(.aload_n 0, 1, [0], []), (.iconst 0, 1, [], [0]), (.putfield 1, 3, [12, 0, 0, 126], []), (.iload_n 1, 1, [1], []), (.tableswitch 134 0 9 #[54, 61, 68, 76, 84, 93, 102, 111, 116, 125], 54, [140, 60, 67, 74, 82, 90, 99, 108, 117, 122, 131], [0, 1, 2, 3, 4, 5, 6, 7, 8, 9])]
theorem lb_X12_count : B_X12_count.all (fun b => lst y_X12_count.2.1 12 y_X12_count.2.2.1 false b.1 b.2) = true := by decide +kernel
theorem ls_X12_count_0 : lst y_X12_count.2.1 12 y_X12_count.2.2.1 false 0 S_X12_count_0 = true := by decide +kernel
def C_X12_count (N : Nat) : Nat → List Value → mH → (Option Value → mH → Option (Int32 × mH)) → Option (Int32 × mH) := fun j as g k => none
theorem co_X12_count (N : Nat) (q : Int32 × mH) : clOK 4 q (C_X12_count N) := by
  intro j as g k e
  cases e
set_option maxRecDepth 100000 in
theorem m_X12_count (N : Nat) {a0 : Nat} {x1 : Int32} {h : mH} {q : Int32 × mH} (hf : f_X12_count N a0 x1 h = some q) : MM y_X12_count 4 [.ref a0, .int x1] h (some (.int q.1)) q.2 := by
  refine MM.of (mFx (j := 344) rfl).2.2.2.1 (Nat.le_of_ble_eq_true rfl) (fun X => ?_)
  refine ev_ok (o := 12) (ini := false) (Cl := C_X12_count N) (Rc := RcI) (B := B_X12_count) (K := fun pc ls st g => none) rfl (fun e => by cases e) (by decide) (rcI_ok rfl) ?_ (co_X12_count N q) lb_X12_count 3000 0 S_X12_count_0 _ _ h ls_X12_count_0 hf
  intro pc ls st g e
  cases e
