/-! printed by wip/whole/gen_code.py: the functions of methods 120 to 159 (leaves first), and their contracts -/
def f_X9_ofMaker (N : Nat) (a0 : Nat) (x1 : Int32) (h : mH) : Option (Int32 × mH) :=
  if x1 < 0 then
    some (jI (-1), h)
  else
    (gR h 9 a0 5).bind fun v1 =>
    (lnA h v1).bind fun v2 =>
    if x1 < v2 then
      (gR h 9 a0 5).bind fun v3 =>
      (ldI 0 h v3 x1).bind fun v4 =>
      some (v4, h)
    else
      some (jI (-1), h)
def y_X9_ofMaker : mM := (yX9_ofMaker, cX9_ofMaker, 2, (some .int))
def B_X9_ofMaker : List (Nat × List mI) := [(22, [(.iconst (-1), 1, [], [-1])]), (23, [(.ireturn, 1, [], [])])]
def S_X9_ofMaker_0 : List mI := [(.iload_n 1, 1, [1], []), (.ifCond .lt 21, 3, [22], []), (.iload_n 1, 1, [1], []), (.aload_n 0, 1, [0], []), (.getfield 31, 3, [9, 5, 2, 60], []), (.arraylength, 1, [0], []), (.if_icmp .ge 12, 3, [22], []), (.aload_n 0, 1, [0], []), (.getfield 31, 3, [9, 5, 2, 60], []), (.iload_n 1, 1, [1], []), (.iaload, 1, [0], []), (.goto 4, 3, [23], [])]
theorem lb_X9_ofMaker : B_X9_ofMaker.all (fun b => lst y_X9_ofMaker.2.1 9 y_X9_ofMaker.2.2.1 false b.1 b.2) = true := by decide +kernel
theorem ls_X9_ofMaker_0 : lst y_X9_ofMaker.2.1 9 y_X9_ofMaker.2.2.1 false 0 S_X9_ofMaker_0 = true := by decide +kernel
def C_X9_ofMaker (N : Nat) : Nat → List Value → mH → (Option Value → mH → Option (Int32 × mH)) → Option (Int32 × mH) := fun j as g k => none
theorem co_X9_ofMaker (N : Nat) (q : Int32 × mH) : clOK 4 q (C_X9_ofMaker N) := by
  intro j as g k e
  cases e
set_option maxRecDepth 100000 in
theorem m_X9_ofMaker (N : Nat) {a0 : Nat} {x1 : Int32} {h : mH} {q : Int32 × mH} (hf : f_X9_ofMaker N a0 x1 h = some q) : MM y_X9_ofMaker 4 [.ref a0, .int x1] h (some (.int q.1)) q.2 := by
  refine MM.of (mFx (j := 112) rfl).2.2.2.1 (Nat.le_of_ble_eq_true rfl) (fun X => ?_)
  refine ev_ok (o := 9) (ini := false) (Cl := C_X9_ofMaker N) (Rc := RcI) (B := B_X9_ofMaker) (K := fun pc ls st g => none) rfl (fun e => by cases e) (by decide) (rcI_ok rfl) ?_ (co_X9_ofMaker N q) lb_X9_ofMaker 3000 0 S_X9_ofMaker_0 _ _ h ls_X9_ofMaker_0 hf
  intro pc ls st g e
  cases e
def f_X9_ofReader (N : Nat) (a0 : Nat) (x1 : Int32) (x2 : Int32) (h : mH) : Option (Int32 × mH) :=
  let w1 := iAdd (iMul x1 (jI 8)) x2
  if w1 < 0 then
    some (jI (-1), h)
  else
    (gR h 9 a0 6).bind fun v2 =>
    (lnA h v2).bind fun v3 =>
    if w1 < v3 then
      (gR h 9 a0 6).bind fun v4 =>
      (ldI 0 h v4 w1).bind fun v5 =>
      some (v5, h)
    else
      some (jI (-1), h)
def y_X9_ofReader : mM := (yX9_ofReader, cX9_ofReader, 4, (some .int))
def B_X9_ofReader : List (Nat × List mI) := [(29, [(.iconst (-1), 1, [], [-1])]), (30, [(.ireturn, 1, [], [])])]
def S_X9_ofReader_0 : List mI := [(.iload_n 1, 1, [1], []), (.bipush 8, 2, [], [8]), (.imul, 1, [], []), (.iload_n 2, 1, [2], []), (.iadd, 1, [], []), (.istore_n 3, 1, [3], []), (.iload_n 3, 1, [3], []), (.ifCond .lt 21, 3, [29], []), (.iload_n 3, 1, [3], []), (.aload_n 0, 1, [0], []), (.getfield 34, 3, [9, 6, 2, 61], []), (.arraylength, 1, [0], []), (.if_icmp .ge 12, 3, [29], []), (.aload_n 0, 1, [0], []), (.getfield 34, 3, [9, 6, 2, 61], []), (.iload_n 3, 1, [3], []), (.iaload, 1, [0], []), (.goto 4, 3, [30], [])]
theorem lb_X9_ofReader : B_X9_ofReader.all (fun b => lst y_X9_ofReader.2.1 9 y_X9_ofReader.2.2.1 false b.1 b.2) = true := by decide +kernel
theorem ls_X9_ofReader_0 : lst y_X9_ofReader.2.1 9 y_X9_ofReader.2.2.1 false 0 S_X9_ofReader_0 = true := by decide +kernel
def C_X9_ofReader (N : Nat) : Nat → List Value → mH → (Option Value → mH → Option (Int32 × mH)) → Option (Int32 × mH) := fun j as g k => none
theorem co_X9_ofReader (N : Nat) (q : Int32 × mH) : clOK 4 q (C_X9_ofReader N) := by
  intro j as g k e
  cases e
set_option maxRecDepth 100000 in
theorem m_X9_ofReader (N : Nat) {a0 : Nat} {x1 : Int32} {x2 : Int32} {h : mH} {q : Int32 × mH} (hf : f_X9_ofReader N a0 x1 x2 h = some q) : MM y_X9_ofReader 4 [.ref a0, .int x1, .int x2] h (some (.int q.1)) q.2 := by
  refine MM.of (mFx (j := 113) rfl).2.2.2.1 (Nat.le_of_ble_eq_true rfl) (fun X => ?_)
  refine ev_ok (o := 9) (ini := false) (Cl := C_X9_ofReader N) (Rc := RcI) (B := B_X9_ofReader) (K := fun pc ls st g => none) rfl (fun e => by cases e) (by decide) (rcI_ok rfl) ?_ (co_X9_ofReader N q) lb_X9_ofReader 3000 0 S_X9_ofReader_0 _ _ h ls_X9_ofReader_0 hf
  intro pc ls st g e
  cases e
def f_X11_maskOf (N : Nat) (x0 : Int32) (h : mH) : Option (Int32 × mH) :=
  if x0 < (jI 32) then
    some (iSub (iShl (jI 1) x0) (jI 1), h)
  else
    some (jI (-1), h)
def y_X11_maskOf : mM := (yX11_maskOf, cX11_maskOf, 1, (some .int))
def B_X11_maskOf : List (Nat × List mI) := [(10, [(.iconst 1, 1, [], [1]), (.iload_n 0, 1, [0], []), (.ishl, 1, [], []), (.iconst 1, 1, [], [1]), (.isub, 1, [], [])]), (15, [(.ireturn, 1, [], [])])]
def S_X11_maskOf_0 : List mI := [(.iload_n 0, 1, [0], []), (.bipush 32, 2, [], [32]), (.if_icmp .lt 7, 3, [10], []), (.iconst (-1), 1, [], [-1]), (.goto 8, 3, [15], [])]
theorem lb_X11_maskOf : B_X11_maskOf.all (fun b => lst y_X11_maskOf.2.1 11 y_X11_maskOf.2.2.1 false b.1 b.2) = true := by decide +kernel
theorem ls_X11_maskOf_0 : lst y_X11_maskOf.2.1 11 y_X11_maskOf.2.2.1 false 0 S_X11_maskOf_0 = true := by decide +kernel
def C_X11_maskOf (N : Nat) : Nat → List Value → mH → (Option Value → mH → Option (Int32 × mH)) → Option (Int32 × mH) := fun j as g k => none
theorem co_X11_maskOf (N : Nat) (q : Int32 × mH) : clOK 4 q (C_X11_maskOf N) := by
  intro j as g k e
  cases e
set_option maxRecDepth 100000 in
theorem m_X11_maskOf (N : Nat) {x0 : Int32} {h : mH} {q : Int32 × mH} (hf : f_X11_maskOf N x0 h = some q) : MM y_X11_maskOf 4 [.int x0] h (some (.int q.1)) q.2 := by
  refine MM.of (mFx (j := 221) rfl).2.2.2.1 (Nat.le_of_ble_eq_true rfl) (fun X => ?_)
  refine ev_ok (o := 11) (ini := false) (Cl := C_X11_maskOf N) (Rc := RcI) (B := B_X11_maskOf) (K := fun pc ls st g => none) rfl (fun e => by cases e) (by decide) (rcI_ok rfl) ?_ (co_X11_maskOf N q) lb_X11_maskOf 3000 0 S_X11_maskOf_0 _ _ h ls_X11_maskOf_0 hf
  intro pc ls st g e
  cases e
def L_X9_kindOfWeaver_5 (N : Nat) : Nat → Nat → Int32 → Int32 → Int32 → mH → Option (Int32 × mH)
  | 0, _, _, _, _, _ => none
  | n + 1, a0, x1, x3, x4, h =>
    (gI h 6 a0 0).bind fun v1 =>
    if x4 < v1 then
      if x4 < (jI 8) then
        (gR h 6 a0 3).bind fun v2 =>
        (ldI 0 h v2 x4).bind fun v3 =>
        if x3 = (jI (-1)) then
          let w4 := iAdd x4 (iMax (jI 1) x1)
          L_X9_kindOfWeaver_5 N n a0 x1 v3 w4 h
        else
          if v3 = (jI (-1)) then
            let w5 := iAdd x4 (iMax (jI 1) x1)
            L_X9_kindOfWeaver_5 N n a0 x1 x3 w5 h
          else
            if v3 = x3 then
              let w6 := iAdd x4 (iMax (jI 1) x1)
              L_X9_kindOfWeaver_5 N n a0 x1 x3 w6 h
            else
              some (jI (-2), h)
      else
        some (x3, h)
    else
      some (x3, h)
def f_X9_kindOfWeaver (N : Nat) (a0 : Nat) (x1 : Int32) (x2 : Int32) (h : mH) : Option (Int32 × mH) :=
  L_X9_kindOfWeaver_5 N N a0 x1 (jI (-1)) x2 h
def y_X9_kindOfWeaver : mM := (yX9_kindOfWeaver, cX9_kindOfWeaver, 6, (some .int))
def B_X9_kindOfWeaver : List (Nat × List mI) := [(41, [(.iload 5, 2, [5], []), (.iconst (-1), 1, [], [-1]), (.if_icmp .eq 12, 3, [56], []), (.iload 5, 2, [5], []), (.iload_n 3, 1, [3], []), (.if_icmp .eq 6, 3, [56], []), (.bipush (-2), 2, [], [-2]), (.ireturn, 1, [], [])]), (56, [(.iload 4, 2, [4], []), (.iconst 1, 1, [], [1]), (.iload_n 1, 1, [1], []), (.invokestatic 80, 3, [6, 0, 0, 0, 23], []), (.iadd, 1, [], []), (.istore 4, 2, [4], []), (.goto (-61), 3, [5], [])]), (69, [(.iload_n 3, 1, [3], []), (.ireturn, 1, [], [])])]
def S_X9_kindOfWeaver_0 : List mI := [(.iconst (-1), 1, [], [-1]), (.istore_n 3, 1, [3], []), (.iload_n 2, 1, [2], []), (.istore 4, 2, [4], [])]
def S_X9_kindOfWeaver_5 : List mI := [(.iload 4, 2, [4], []), (.aload_n 0, 1, [0], []), (.getfield 54, 3, [6, 0, 0, 47], []), (.if_icmp .ge 58, 3, [69], []), (.iload 4, 2, [4], []), (.bipush 8, 2, [], [8]), (.if_icmp .ge 51, 3, [69], []), (.aload_n 0, 1, [0], []), (.getfield 77, 3, [6, 3, 2, 54], []), (.iload 4, 2, [4], []), (.iaload, 1, [0], []), (.istore 5, 2, [5], []), (.iload_n 3, 1, [3], []), (.iconst (-1), 1, [], [-1]), (.if_icmp .ne 9, 3, [41], []), (.iload 5, 2, [5], []), (.istore_n 3, 1, [3], []), (.goto 18, 3, [56], [])]
theorem lb_X9_kindOfWeaver : B_X9_kindOfWeaver.all (fun b => lst y_X9_kindOfWeaver.2.1 9 y_X9_kindOfWeaver.2.2.1 false b.1 b.2) = true := by decide +kernel
theorem ls_X9_kindOfWeaver_0 : lst y_X9_kindOfWeaver.2.1 9 y_X9_kindOfWeaver.2.2.1 false 0 S_X9_kindOfWeaver_0 = true := by decide +kernel
theorem ls_X9_kindOfWeaver_5 : lst y_X9_kindOfWeaver.2.1 9 y_X9_kindOfWeaver.2.2.1 false 5 S_X9_kindOfWeaver_5 = true := by decide +kernel
def C_X9_kindOfWeaver (N : Nat) : Nat → List Value → mH → (Option Value → mH → Option (Int32 × mH)) → Option (Int32 × mH) := fun j as g k => none
theorem co_X9_kindOfWeaver (N : Nat) (q : Int32 × mH) : clOK 4 q (C_X9_kindOfWeaver N) := by
  intro j as g k e
  cases e
set_option maxRecDepth 100000 in
theorem t_X9_kindOfWeaver_5 {X : Nat × (Nat → Int32)} (N : Nat) {q : Int32 × mH} : ∀ (n : Nat) (a0 : Nat) (x1 : Int32) (x3 : Int32) (x4 : Int32) (h : mH), L_X9_kindOfWeaver_5 N n a0 x1 x3 x4 h = some q → MW X y_X9_kindOfWeaver 4 5 [(0, .ref a0), (1, .int x1), (3, .int x3), (4, .int x4)] [] h (some (.int q.1)) q.2 := by
  intro n
  induction n with
  | zero => intro a0 x1 x3 x4 h hf; cases hf
  | succ n ih =>
    intro a0 x1 x3 x4 h hf
    refine ev_ok (o := 9) (ini := false) (Cl := C_X9_kindOfWeaver N) (Rc := RcI) (B := B_X9_kindOfWeaver) (K := fun pc ls st g => kb pc 5 (lgr 0 ls fun a0 => lgi 1 ls fun x1 => lgi 3 ls fun x3 => lgi 4 ls fun x4 => pe st (L_X9_kindOfWeaver_5 N n a0 x1 x3 x4 g)) (none)) rfl (fun e => by cases e) (by decide) (rcI_ok rfl) ?_ (co_X9_kindOfWeaver N q) lb_X9_kindOfWeaver 3000 5 S_X9_kindOfWeaver_5 _ _ h ls_X9_kindOfWeaver_5 hf
    intro pc ls st g e
    rcases kb_s e with ⟨rfl, e⟩ | e
    · obtain ⟨a0, e0, f0⟩ := lgr_s e
      obtain ⟨x1, e1, f1⟩ := lgi_s f0
      obtain ⟨x3, e2, f2⟩ := lgi_s f1
      obtain ⟨x4, e3, f3⟩ := lgi_s f2
      obtain ⟨qe, fe⟩ := pe_s f3
      subst qe
      exact MW.sub (List.forall_mem_cons.mpr ⟨lg_mem e0, List.forall_mem_cons.mpr ⟨lg_mem e1, List.forall_mem_cons.mpr ⟨lg_mem e2, List.forall_mem_cons.mpr ⟨lg_mem e3, fun _ h => absurd h List.not_mem_nil⟩⟩⟩⟩) (ih a0 x1 x3 x4 g fe)
    cases e
set_option maxRecDepth 100000 in
theorem m_X9_kindOfWeaver (N : Nat) {a0 : Nat} {x1 : Int32} {x2 : Int32} {h : mH} {q : Int32 × mH} (hf : f_X9_kindOfWeaver N a0 x1 x2 h = some q) : MM y_X9_kindOfWeaver 4 [.ref a0, .int x1, .int x2] h (some (.int q.1)) q.2 := by
  refine MM.of (mFx (j := 116) rfl).2.2.2.1 (Nat.le_of_ble_eq_true rfl) (fun X => ?_)
  refine ev_ok (o := 9) (ini := false) (Cl := C_X9_kindOfWeaver N) (Rc := RcI) (B := B_X9_kindOfWeaver) (K := fun pc ls st g => kb pc 5 (lgr 0 ls fun a0 => lgi 1 ls fun x1 => lgi 3 ls fun x3 => lgi 4 ls fun x4 => pe st (L_X9_kindOfWeaver_5 N N a0 x1 x3 x4 g)) (none)) rfl (fun e => by cases e) (by decide) (rcI_ok rfl) ?_ (co_X9_kindOfWeaver N q) lb_X9_kindOfWeaver 3000 0 S_X9_kindOfWeaver_0 _ _ h ls_X9_kindOfWeaver_0 hf
  intro pc ls st g e
  rcases kb_s e with ⟨rfl, e⟩ | e
  · obtain ⟨a0, e0, f0⟩ := lgr_s e
    obtain ⟨x1, e1, f1⟩ := lgi_s f0
    obtain ⟨x3, e2, f2⟩ := lgi_s f1
    obtain ⟨x4, e3, f3⟩ := lgi_s f2
    obtain ⟨qe, fe⟩ := pe_s f3
    subst qe
    exact MW.sub (List.forall_mem_cons.mpr ⟨lg_mem e0, List.forall_mem_cons.mpr ⟨lg_mem e1, List.forall_mem_cons.mpr ⟨lg_mem e2, List.forall_mem_cons.mpr ⟨lg_mem e3, fun _ h => absurd h List.not_mem_nil⟩⟩⟩⟩) (t_X9_kindOfWeaver_5 N N a0 x1 x3 x4 g fe)
  cases e
def L_X9_kindsAgree_2 (N : Nat) : Nat → Nat → Int32 → Int32 → mH → Option (Int32 × mH)
  | 0, _, _, _, _ => none
  | n + 1, a0, x1, x2, h =>
    if x2 < x1 then
      (f_X9_kindOfWeaver N a0 x1 x2 h).bind fun p1 =>
      if p1.1 = (jI (-2)) then
        some (jI 0, p1.2)
      else
        let w2 := iAdd x2 (jI 1)
        L_X9_kindsAgree_2 N n a0 x1 w2 p1.2
    else
      some (jI 1, h)
def f_X9_kindsAgree (N : Nat) (a0 : Nat) (x1 : Int32) (h : mH) : Option (Int32 × mH) :=
  L_X9_kindsAgree_2 N N a0 x1 (jI 0) h
def y_X9_kindsAgree : mM := (yX9_kindsAgree, cX9_kindsAgree, 3, (some .boolean))
def B_X9_kindsAgree : List (Nat × List mI) := [(20, [(.iinc 2 1, 3, [2], [1]), (.goto (-21), 3, [2], [])]), (26, [(.iconst 1, 1, [], [1]), (.ireturn, 1, [], [])])]
def S_X9_kindsAgree_0 : List mI := [(.iconst 0, 1, [], [0]), (.istore_n 2, 1, [2], [])]
def S_X9_kindsAgree_2 : List mI := [(.iload_n 2, 1, [2], []), (.iload_n 1, 1, [1], []), (.if_icmp .ge 22, 3, [26], []), (.aload_n 0, 1, [0], []), (.iload_n 1, 1, [1], []), (.iload_n 2, 1, [2], []), (.invokestatic 73, 3, [1, 116, 3, 0, 139], []), (.bipush (-2), 2, [], [-2]), (.if_icmp .ne 5, 3, [20], []), (.iconst 0, 1, [], [0]), (.ireturn, 1, [], [])]
theorem lb_X9_kindsAgree : B_X9_kindsAgree.all (fun b => lst y_X9_kindsAgree.2.1 9 y_X9_kindsAgree.2.2.1 false b.1 b.2) = true := by decide +kernel
theorem ls_X9_kindsAgree_0 : lst y_X9_kindsAgree.2.1 9 y_X9_kindsAgree.2.2.1 false 0 S_X9_kindsAgree_0 = true := by decide +kernel
theorem ls_X9_kindsAgree_2 : lst y_X9_kindsAgree.2.1 9 y_X9_kindsAgree.2.2.1 false 2 S_X9_kindsAgree_2 = true := by decide +kernel
def C_X9_kindsAgree (N : Nat) : Nat → List Value → mH → (Option Value → mH → Option (Int32 × mH)) → Option (Int32 × mH) := fun j as g k => kb j 116 (pr1 as fun b0 as => pp1 as fun b1 as => pp1 as fun b2 as => pe as ((f_X9_kindOfWeaver N b0 b1 b2 g).bind fun p => k (some (.int p.1)) p.2)) (none)
theorem co_X9_kindsAgree (N : Nat) (q : Int32 × mH) : clOK 5 q (C_X9_kindsAgree N) := by
  intro j as g k e
  rcases kb_s e with ⟨rfl, e⟩ | e
  · obtain ⟨b0, r0, q0, f0⟩ := pr1_s e
    obtain ⟨b1, r1, q1, f1⟩ := pp1_s f0
    obtain ⟨b2, r2, q2, f2⟩ := pp1_s f1
    obtain ⟨qe, fe⟩ := pe_s f2
    obtain ⟨p, e1, e2⟩ := bnd_s fe
    subst qe
    subst q2
    subst q1
    subst q0
    exact ⟨_, _, _, _, 4, rfl, (by decide), m_X9_kindOfWeaver N e1, e2⟩
  cases e
set_option maxRecDepth 100000 in
theorem t_X9_kindsAgree_2 {X : Nat × (Nat → Int32)} (N : Nat) {q : Int32 × mH} : ∀ (n : Nat) (a0 : Nat) (x1 : Int32) (x2 : Int32) (h : mH), L_X9_kindsAgree_2 N n a0 x1 x2 h = some q → MW X y_X9_kindsAgree 5 2 [(0, .ref a0), (1, .int x1), (2, .int x2)] [] h (some (.int q.1)) q.2 := by
  intro n
  induction n with
  | zero => intro a0 x1 x2 h hf; cases hf
  | succ n ih =>
    intro a0 x1 x2 h hf
    refine ev_ok (o := 9) (ini := false) (Cl := C_X9_kindsAgree N) (Rc := RcZ) (B := B_X9_kindsAgree) (K := fun pc ls st g => kb pc 2 (lgr 0 ls fun a0 => lgi 1 ls fun x1 => lgi 2 ls fun x2 => pe st (L_X9_kindsAgree_2 N n a0 x1 x2 g)) (none)) rfl (fun e => by cases e) (by decide) (rcZ_ok rfl) ?_ (co_X9_kindsAgree N q) lb_X9_kindsAgree 3000 2 S_X9_kindsAgree_2 _ _ h ls_X9_kindsAgree_2 hf
    intro pc ls st g e
    rcases kb_s e with ⟨rfl, e⟩ | e
    · obtain ⟨a0, e0, f0⟩ := lgr_s e
      obtain ⟨x1, e1, f1⟩ := lgi_s f0
      obtain ⟨x2, e2, f2⟩ := lgi_s f1
      obtain ⟨qe, fe⟩ := pe_s f2
      subst qe
      exact MW.sub (List.forall_mem_cons.mpr ⟨lg_mem e0, List.forall_mem_cons.mpr ⟨lg_mem e1, List.forall_mem_cons.mpr ⟨lg_mem e2, fun _ h => absurd h List.not_mem_nil⟩⟩⟩) (ih a0 x1 x2 g fe)
    cases e
set_option maxRecDepth 100000 in
theorem m_X9_kindsAgree (N : Nat) {a0 : Nat} {x1 : Int32} {h : mH} {q : Int32 × mH} (hf : f_X9_kindsAgree N a0 x1 h = some q) : MM y_X9_kindsAgree 5 [.ref a0, .int x1] h (some (.int q.1)) q.2 := by
  refine MM.of (mFx (j := 115) rfl).2.2.2.1 (Nat.le_of_ble_eq_true rfl) (fun X => ?_)
  refine ev_ok (o := 9) (ini := false) (Cl := C_X9_kindsAgree N) (Rc := RcZ) (B := B_X9_kindsAgree) (K := fun pc ls st g => kb pc 2 (lgr 0 ls fun a0 => lgi 1 ls fun x1 => lgi 2 ls fun x2 => pe st (L_X9_kindsAgree_2 N N a0 x1 x2 g)) (none)) rfl (fun e => by cases e) (by decide) (rcZ_ok rfl) ?_ (co_X9_kindsAgree N q) lb_X9_kindsAgree 3000 0 S_X9_kindsAgree_0 _ _ h ls_X9_kindsAgree_0 hf
  intro pc ls st g e
  rcases kb_s e with ⟨rfl, e⟩ | e
  · obtain ⟨a0, e0, f0⟩ := lgr_s e
    obtain ⟨x1, e1, f1⟩ := lgi_s f0
    obtain ⟨x2, e2, f2⟩ := lgi_s f1
    obtain ⟨qe, fe⟩ := pe_s f2
    subst qe
    exact MW.sub (List.forall_mem_cons.mpr ⟨lg_mem e0, List.forall_mem_cons.mpr ⟨lg_mem e1, List.forall_mem_cons.mpr ⟨lg_mem e2, fun _ h => absurd h List.not_mem_nil⟩⟩⟩) (t_X9_kindsAgree_2 N N a0 x1 x2 g fe)
  cases e
def L_X11_mirrored_4 (N : Nat) : Nat → Int32 → Int32 → Int32 → Int32 → mH → Option (Int32 × mH)
  | 0, _, _, _, _, _ => none
  | n + 1, x0, x1, x2, x3, h =>
    if x3 < x1 then
      let w1 := iOr (iShl x2 (jI 1)) (iAnd (iUsr x0 x3) (jI 1))
      let w2 := iAdd x3 (jI 1)
      L_X11_mirrored_4 N n x0 x1 w1 w2 h
    else
      some (x2, h)
def f_X11_mirrored (N : Nat) (x0 : Int32) (x1 : Int32) (h : mH) : Option (Int32 × mH) :=
  L_X11_mirrored_4 N N x0 x1 (jI 0) (jI 0) h
def y_X11_mirrored : mM := (yX11_mirrored, cX11_mirrored, 4, (some .int))
def B_X11_mirrored : List (Nat × List mI) := [(25, [(.iload_n 2, 1, [2], []), (.ireturn, 1, [], [])])]
def S_X11_mirrored_0 : List mI := [(.iconst 0, 1, [], [0]), (.istore_n 2, 1, [2], []), (.iconst 0, 1, [], [0]), (.istore_n 3, 1, [3], [])]
def S_X11_mirrored_4 : List mI := [(.iload_n 3, 1, [3], []), (.iload_n 1, 1, [1], []), (.if_icmp .ge 19, 3, [25], []), (.iload_n 2, 1, [2], []), (.iconst 1, 1, [], [1]), (.ishl, 1, [], []), (.iload_n 0, 1, [0], []), (.iload_n 3, 1, [3], []), (.iushr, 1, [], []), (.iconst 1, 1, [], [1]), (.iand, 1, [], []), (.ior, 1, [], []), (.istore_n 2, 1, [2], []), (.iinc 3 1, 3, [3], [1]), (.goto (-18), 3, [4], [])]
theorem lb_X11_mirrored : B_X11_mirrored.all (fun b => lst y_X11_mirrored.2.1 11 y_X11_mirrored.2.2.1 false b.1 b.2) = true := by decide +kernel
theorem ls_X11_mirrored_0 : lst y_X11_mirrored.2.1 11 y_X11_mirrored.2.2.1 false 0 S_X11_mirrored_0 = true := by decide +kernel
theorem ls_X11_mirrored_4 : lst y_X11_mirrored.2.1 11 y_X11_mirrored.2.2.1 false 4 S_X11_mirrored_4 = true := by decide +kernel
def C_X11_mirrored (N : Nat) : Nat → List Value → mH → (Option Value → mH → Option (Int32 × mH)) → Option (Int32 × mH) := fun j as g k => none
theorem co_X11_mirrored (N : Nat) (q : Int32 × mH) : clOK 4 q (C_X11_mirrored N) := by
  intro j as g k e
  cases e
set_option maxRecDepth 100000 in
theorem t_X11_mirrored_4 {X : Nat × (Nat → Int32)} (N : Nat) {q : Int32 × mH} : ∀ (n : Nat) (x0 : Int32) (x1 : Int32) (x2 : Int32) (x3 : Int32) (h : mH), L_X11_mirrored_4 N n x0 x1 x2 x3 h = some q → MW X y_X11_mirrored 4 4 [(0, .int x0), (1, .int x1), (2, .int x2), (3, .int x3)] [] h (some (.int q.1)) q.2 := by
  intro n
  induction n with
  | zero => intro x0 x1 x2 x3 h hf; cases hf
  | succ n ih =>
    intro x0 x1 x2 x3 h hf
    refine ev_ok (o := 11) (ini := false) (Cl := C_X11_mirrored N) (Rc := RcI) (B := B_X11_mirrored) (K := fun pc ls st g => kb pc 4 (lgi 0 ls fun x0 => lgi 1 ls fun x1 => lgi 2 ls fun x2 => lgi 3 ls fun x3 => pe st (L_X11_mirrored_4 N n x0 x1 x2 x3 g)) (none)) rfl (fun e => by cases e) (by decide) (rcI_ok rfl) ?_ (co_X11_mirrored N q) lb_X11_mirrored 3000 4 S_X11_mirrored_4 _ _ h ls_X11_mirrored_4 hf
    intro pc ls st g e
    rcases kb_s e with ⟨rfl, e⟩ | e
    · obtain ⟨x0, e0, f0⟩ := lgi_s e
      obtain ⟨x1, e1, f1⟩ := lgi_s f0
      obtain ⟨x2, e2, f2⟩ := lgi_s f1
      obtain ⟨x3, e3, f3⟩ := lgi_s f2
      obtain ⟨qe, fe⟩ := pe_s f3
      subst qe
      exact MW.sub (List.forall_mem_cons.mpr ⟨lg_mem e0, List.forall_mem_cons.mpr ⟨lg_mem e1, List.forall_mem_cons.mpr ⟨lg_mem e2, List.forall_mem_cons.mpr ⟨lg_mem e3, fun _ h => absurd h List.not_mem_nil⟩⟩⟩⟩) (ih x0 x1 x2 x3 g fe)
    cases e
set_option maxRecDepth 100000 in
theorem m_X11_mirrored (N : Nat) {x0 : Int32} {x1 : Int32} {h : mH} {q : Int32 × mH} (hf : f_X11_mirrored N x0 x1 h = some q) : MM y_X11_mirrored 4 [.int x0, .int x1] h (some (.int q.1)) q.2 := by
  refine MM.of (mFx (j := 223) rfl).2.2.2.1 (Nat.le_of_ble_eq_true rfl) (fun X => ?_)
  refine ev_ok (o := 11) (ini := false) (Cl := C_X11_mirrored N) (Rc := RcI) (B := B_X11_mirrored) (K := fun pc ls st g => kb pc 4 (lgi 0 ls fun x0 => lgi 1 ls fun x1 => lgi 2 ls fun x2 => lgi 3 ls fun x3 => pe st (L_X11_mirrored_4 N N x0 x1 x2 x3 g)) (none)) rfl (fun e => by cases e) (by decide) (rcI_ok rfl) ?_ (co_X11_mirrored N q) lb_X11_mirrored 3000 0 S_X11_mirrored_0 _ _ h ls_X11_mirrored_0 hf
  intro pc ls st g e
  rcases kb_s e with ⟨rfl, e⟩ | e
  · obtain ⟨x0, e0, f0⟩ := lgi_s e
    obtain ⟨x1, e1, f1⟩ := lgi_s f0
    obtain ⟨x2, e2, f2⟩ := lgi_s f1
    obtain ⟨x3, e3, f3⟩ := lgi_s f2
    obtain ⟨qe, fe⟩ := pe_s f3
    subst qe
    exact MW.sub (List.forall_mem_cons.mpr ⟨lg_mem e0, List.forall_mem_cons.mpr ⟨lg_mem e1, List.forall_mem_cons.mpr ⟨lg_mem e2, List.forall_mem_cons.mpr ⟨lg_mem e3, fun _ h => absurd h List.not_mem_nil⟩⟩⟩⟩) (t_X11_mirrored_4 N N x0 x1 x2 x3 g fe)
  cases e
def J_X9_weaveRounds_81 (N : Nat) (k53 : Nat → Int32 → Int32 → Int32 → Int32 → Int32 → mH → Option (mH)) (a0 : Nat) (x1 : Int32) (x2 : Int32) (x3 : Int32) (x4 : Int32) (x5 : Int32) (h : mH) : Option (mH) :=
  if (iAdd x2 (jI 1)) < x1 then
    let w1 := iAdd x2 (jI 1)
    let w2 := iAdd x5 (jI 1)
    k53 a0 x1 w1 x3 x4 w2 h
  else
    let w3 := iAdd x5 (jI 1)
    k53 a0 x1 (jI 0) x3 x4 w3 h
def L_X9_weaveRounds_53 (N : Nat) (k22 : Nat → Int32 → Int32 → Int32 → mH → Option (mH)) : Nat → Nat → Int32 → Int32 → Int32 → Int32 → Int32 → mH → Option (mH)
  | 0, _, _, _, _, _, _, _ => none
  | n + 1, a0, x1, x2, x3, x4, x5, h =>
    (gI h 9 a0 9).bind fun v1 =>
    if x5 < v1 then
      (gR h 9 a0 4).bind fun v2 =>
      (ldI 0 h v2 (jI 1)).bind fun v3 =>
      if x2 < v3 then
        let w4 := iOr x4 (iShl (jI 1) x5)
        J_X9_weaveRounds_81 N (L_X9_weaveRounds_53 N k22 n) a0 x1 x2 x3 w4 x5 h
      else
        J_X9_weaveRounds_81 N (L_X9_weaveRounds_53 N k22 n) a0 x1 x2 x3 x4 x5 h
    else
      (gR h 9 a0 0).bind fun v5 =>
      (stI 0 h v5 x3 x4).bind fun h6 =>
      (gR h6 9 a0 1).bind fun v7 =>
      (gI h6 9 a0 9).bind fun v8 =>
      (f_X11_mirrored N x4 v8 h6).bind fun p9 =>
      (stI 0 p9.2 v7 x3 p9.1).bind fun h10 =>
      let w11 := iAdd x3 (jI 1)
      k22 a0 x1 x2 w11 h10
def L_X9_weaveRounds_22 (N : Nat) : Nat → Nat → Int32 → Int32 → Int32 → mH → Option (mH)
  | 0, _, _, _, _, _ => none
  | n + 1, a0, x1, x2, x3, h =>
    (gI h 9 a0 10).bind fun v1 =>
    (gR h 9 a0 4).bind fun v2 =>
    (ldI 0 h v2 (jI 0)).bind fun v3 =>
    if (iMax (jI 1) v3) = 0 then none else
    if x3 < (iDiv v1 (iMax (jI 1) v3)) then
      if x3 < (jI 8) then
        L_X9_weaveRounds_53 N (L_X9_weaveRounds_22 N n) N a0 x1 x2 x3 (jI 0) (jI 0) h
      else
        some h
    else
      some h
def f_X9_weaveRounds (N : Nat) (a0 : Nat) (h : mH) : Option (mH) :=
  (gR h 9 a0 4).bind fun v1 =>
  (ldI 0 h v1 (jI 1)).bind fun v2 =>
  (gR h 9 a0 4).bind fun v3 =>
  (ldI 0 h v3 (jI 2)).bind fun v4 =>
  let w5 := iMax (jI 1) (iAdd v2 v4)
  L_X9_weaveRounds_22 N N a0 w5 (jI 0) (jI 0) h
def y_X9_weaveRounds : mM := (yX9_weaveRounds, cX9_weaveRounds, 6, none)
def B_X9_weaveRounds : List (Nat × List mI) := [(94, [(.iconst 0, 1, [], [0])]), (95, [(.istore_n 2, 1, [2], []), (.iinc 5 1, 3, [5], [1]), (.goto (-46), 3, [53], [])]), (102, [(.aload_n 0, 1, [0], []), (.getfield 11, 3, [9, 0, 2, 55], []), (.iload_n 3, 1, [3], []), (.iload 4, 2, [4], []), (.iastore, 1, [], []), (.aload_n 0, 1, [0], []), (.getfield 17, 3, [9, 1, 2, 56], []), (.iload_n 3, 1, [3], []), (.iload 4, 2, [4], []), (.aload_n 0, 1, [0], []), (.getfield 50, 3, [9, 9, 0, 64], []), (.invokestatic 106, 3, [3, 223, 2, 0, 11], []), (.iastore, 1, [], []), (.iinc 3 1, 3, [3], [1]), (.goto (-106), 3, [22], [])]), (131, [(.return_, 1, [], [])])]
def S_X9_weaveRounds_0 : List mI := [(.iconst 1, 1, [], [1]), (.aload_n 0, 1, [0], []), (.getfield 26, 3, [9, 4, 2, 59], []), (.iconst 1, 1, [], [1]), (.iaload, 1, [0], []), (.aload_n 0, 1, [0], []), (.getfield 26, 3, [9, 4, 2, 59], []), (.iconst 2, 1, [], [2]), (.iaload, 1, [0], []), (.iadd, 1, [], []), (.invokestatic 80, 3, [6, 0, 0, 0, 23], []), (.istore_n 1, 1, [1], []), (.iconst 0, 1, [], [0]), (.istore_n 2, 1, [2], []), (.iconst 0, 1, [], [0]), (.istore_n 3, 1, [3], [])]
def S_X9_weaveRounds_22 : List mI := [(.iload_n 3, 1, [3], []), (.aload_n 0, 1, [0], []), (.getfield 57, 3, [9, 10, 0, 65], []), (.iconst 1, 1, [], [1]), (.aload_n 0, 1, [0], []), (.getfield 26, 3, [9, 4, 2, 59], []), (.iconst 0, 1, [], [0]), (.iaload, 1, [0], []), (.invokestatic 80, 3, [6, 0, 0, 0, 23], []), (.idiv, 1, [], []), (.if_icmp .ge 93, 3, [131], []), (.iload_n 3, 1, [3], []), (.bipush 8, 2, [], [8]), (.if_icmp .ge 87, 3, [131], []), (.iconst 0, 1, [], [0]), (.istore 4, 2, [4], []), (.iconst 0, 1, [], [0]), (.istore 5, 2, [5], [])]
def S_X9_weaveRounds_53 : List mI := [(.iload 5, 2, [5], []), (.aload_n 0, 1, [0], []), (.getfield 50, 3, [9, 9, 0, 64], []), (.if_icmp .ge 43, 3, [102], []), (.iload_n 2, 1, [2], []), (.aload_n 0, 1, [0], []), (.getfield 26, 3, [9, 4, 2, 59], []), (.iconst 1, 1, [], [1]), (.iaload, 1, [0], []), (.if_icmp .ge 12, 3, [81], []), (.iload 4, 2, [4], []), (.iconst 1, 1, [], [1]), (.iload 5, 2, [5], []), (.ishl, 1, [], []), (.ior, 1, [], []), (.istore 4, 2, [4], [])]
def S_X9_weaveRounds_81 : List mI := [(.iload_n 2, 1, [2], []), (.iconst 1, 1, [], [1]), (.iadd, 1, [], []), (.iload_n 1, 1, [1], []), (.if_icmp .ge 9, 3, [94], []), (.iload_n 2, 1, [2], []), (.iconst 1, 1, [], [1]), (.iadd, 1, [], []), (.goto 4, 3, [95], [])]
theorem lb_X9_weaveRounds : B_X9_weaveRounds.all (fun b => lst y_X9_weaveRounds.2.1 9 y_X9_weaveRounds.2.2.1 false b.1 b.2) = true := by decide +kernel
theorem ls_X9_weaveRounds_0 : lst y_X9_weaveRounds.2.1 9 y_X9_weaveRounds.2.2.1 false 0 S_X9_weaveRounds_0 = true := by decide +kernel
theorem ls_X9_weaveRounds_22 : lst y_X9_weaveRounds.2.1 9 y_X9_weaveRounds.2.2.1 false 22 S_X9_weaveRounds_22 = true := by decide +kernel
theorem ls_X9_weaveRounds_53 : lst y_X9_weaveRounds.2.1 9 y_X9_weaveRounds.2.2.1 false 53 S_X9_weaveRounds_53 = true := by decide +kernel
theorem ls_X9_weaveRounds_81 : lst y_X9_weaveRounds.2.1 9 y_X9_weaveRounds.2.2.1 false 81 S_X9_weaveRounds_81 = true := by decide +kernel
def C_X9_weaveRounds (N : Nat) : Nat → List Value → mH → (Option Value → mH → Option (mH)) → Option (mH) := fun j as g k => kb j 223 (pp1 as fun b0 as => pp1 as fun b1 as => pe as ((f_X11_mirrored N b0 b1 g).bind fun p => k (some (.int p.1)) p.2)) (none)
theorem co_X9_weaveRounds (N : Nat) (q : mH) : clOK 5 q (C_X9_weaveRounds N) := by
  intro j as g k e
  rcases kb_s e with ⟨rfl, e⟩ | e
  · obtain ⟨b0, r0, q0, f0⟩ := pp1_s e
    obtain ⟨b1, r1, q1, f1⟩ := pp1_s f0
    obtain ⟨qe, fe⟩ := pe_s f1
    obtain ⟨p, e1, e2⟩ := bnd_s fe
    subst qe
    subst q1
    subst q0
    exact ⟨_, _, _, _, 4, rfl, (by decide), m_X11_mirrored N e1, e2⟩
  cases e
set_option maxRecDepth 100000 in
theorem t_X9_weaveRounds_81 {X : Nat × (Nat → Int32)} (N : Nat) {q : mH} {k53 : Nat → Int32 → Int32 → Int32 → Int32 → Int32 → mH → Option (mH)} (hk53 : ∀ (a0 : Nat) (x1 : Int32) (x2 : Int32) (x3 : Int32) (x4 : Int32) (x5 : Int32) g, k53 a0 x1 x2 x3 x4 x5 g = some q → MW X y_X9_weaveRounds 5 53 [(0, .ref a0), (1, .int x1), (2, .int x2), (3, .int x3), (4, .int x4), (5, .int x5)] [] g none q) (a0 : Nat) (x1 : Int32) (x2 : Int32) (x3 : Int32) (x4 : Int32) (x5 : Int32) (h : mH) (hf : J_X9_weaveRounds_81 N k53 a0 x1 x2 x3 x4 x5 h = some q) : MW X y_X9_weaveRounds 5 81 [(0, .ref a0), (1, .int x1), (2, .int x2), (3, .int x3), (4, .int x4), (5, .int x5)] [] h none q := by
  refine ev_ok (o := 9) (ini := false) (Cl := C_X9_weaveRounds N) (Rc := RcV) (B := B_X9_weaveRounds) (K := fun pc ls st g => kb pc 53 (lgr 0 ls fun a0 => lgi 1 ls fun x1 => lgi 2 ls fun x2 => lgi 3 ls fun x3 => lgi 4 ls fun x4 => lgi 5 ls fun x5 => pe st (k53 a0 x1 x2 x3 x4 x5 g)) (none)) rfl (fun e => by cases e) (by decide) (rcV_ok rfl) ?_ (co_X9_weaveRounds N q) lb_X9_weaveRounds 3000 81 S_X9_weaveRounds_81 _ _ h ls_X9_weaveRounds_81 hf
  intro pc ls st g e
  rcases kb_s e with ⟨rfl, e⟩ | e
  · obtain ⟨a0, e0, f0⟩ := lgr_s e
    obtain ⟨x1, e1, f1⟩ := lgi_s f0
    obtain ⟨x2, e2, f2⟩ := lgi_s f1
    obtain ⟨x3, e3, f3⟩ := lgi_s f2
    obtain ⟨x4, e4, f4⟩ := lgi_s f3
    obtain ⟨x5, e5, f5⟩ := lgi_s f4
    obtain ⟨qe, fe⟩ := pe_s f5
    subst qe
    exact MW.sub (List.forall_mem_cons.mpr ⟨lg_mem e0, List.forall_mem_cons.mpr ⟨lg_mem e1, List.forall_mem_cons.mpr ⟨lg_mem e2, List.forall_mem_cons.mpr ⟨lg_mem e3, List.forall_mem_cons.mpr ⟨lg_mem e4, List.forall_mem_cons.mpr ⟨lg_mem e5, fun _ h => absurd h List.not_mem_nil⟩⟩⟩⟩⟩⟩) (hk53 a0 x1 x2 x3 x4 x5 g fe)
  cases e
set_option maxRecDepth 100000 in
theorem t_X9_weaveRounds_53 {X : Nat × (Nat → Int32)} (N : Nat) {q : mH} {k22 : Nat → Int32 → Int32 → Int32 → mH → Option (mH)} (hk22 : ∀ (a0 : Nat) (x1 : Int32) (x2 : Int32) (x3 : Int32) g, k22 a0 x1 x2 x3 g = some q → MW X y_X9_weaveRounds 5 22 [(0, .ref a0), (1, .int x1), (2, .int x2), (3, .int x3)] [] g none q) : ∀ (n : Nat) (a0 : Nat) (x1 : Int32) (x2 : Int32) (x3 : Int32) (x4 : Int32) (x5 : Int32) (h : mH), L_X9_weaveRounds_53 N k22 n a0 x1 x2 x3 x4 x5 h = some q → MW X y_X9_weaveRounds 5 53 [(0, .ref a0), (1, .int x1), (2, .int x2), (3, .int x3), (4, .int x4), (5, .int x5)] [] h none q := by
  intro n
  induction n with
  | zero => intro a0 x1 x2 x3 x4 x5 h hf; cases hf
  | succ n ih =>
    intro a0 x1 x2 x3 x4 x5 h hf
    refine ev_ok (o := 9) (ini := false) (Cl := C_X9_weaveRounds N) (Rc := RcV) (B := B_X9_weaveRounds) (K := fun pc ls st g => kb pc 22 (lgr 0 ls fun a0 => lgi 1 ls fun x1 => lgi 2 ls fun x2 => lgi 3 ls fun x3 => pe st (k22 a0 x1 x2 x3 g)) (kb pc 81 (lgr 0 ls fun a0 => lgi 1 ls fun x1 => lgi 2 ls fun x2 => lgi 3 ls fun x3 => lgi 4 ls fun x4 => lgi 5 ls fun x5 => pe st (J_X9_weaveRounds_81 N (L_X9_weaveRounds_53 N k22 n) a0 x1 x2 x3 x4 x5 g)) (none))) rfl (fun e => by cases e) (by decide) (rcV_ok rfl) ?_ (co_X9_weaveRounds N q) lb_X9_weaveRounds 3000 53 S_X9_weaveRounds_53 _ _ h ls_X9_weaveRounds_53 hf
    intro pc ls st g e
    rcases kb_s e with ⟨rfl, e⟩ | e
    · obtain ⟨a0, e0, f0⟩ := lgr_s e
      obtain ⟨x1, e1, f1⟩ := lgi_s f0
      obtain ⟨x2, e2, f2⟩ := lgi_s f1
      obtain ⟨x3, e3, f3⟩ := lgi_s f2
      obtain ⟨qe, fe⟩ := pe_s f3
      subst qe
      exact MW.sub (List.forall_mem_cons.mpr ⟨lg_mem e0, List.forall_mem_cons.mpr ⟨lg_mem e1, List.forall_mem_cons.mpr ⟨lg_mem e2, List.forall_mem_cons.mpr ⟨lg_mem e3, fun _ h => absurd h List.not_mem_nil⟩⟩⟩⟩) (hk22 a0 x1 x2 x3 g fe)
    rcases kb_s e with ⟨rfl, e⟩ | e
    · obtain ⟨a0, e0, f0⟩ := lgr_s e
      obtain ⟨x1, e1, f1⟩ := lgi_s f0
      obtain ⟨x2, e2, f2⟩ := lgi_s f1
      obtain ⟨x3, e3, f3⟩ := lgi_s f2
      obtain ⟨x4, e4, f4⟩ := lgi_s f3
      obtain ⟨x5, e5, f5⟩ := lgi_s f4
      obtain ⟨qe, fe⟩ := pe_s f5
      subst qe
      exact MW.sub (List.forall_mem_cons.mpr ⟨lg_mem e0, List.forall_mem_cons.mpr ⟨lg_mem e1, List.forall_mem_cons.mpr ⟨lg_mem e2, List.forall_mem_cons.mpr ⟨lg_mem e3, List.forall_mem_cons.mpr ⟨lg_mem e4, List.forall_mem_cons.mpr ⟨lg_mem e5, fun _ h => absurd h List.not_mem_nil⟩⟩⟩⟩⟩⟩) (t_X9_weaveRounds_81 N (fun a0 x1 x2 x3 x4 x5 g e => ih a0 x1 x2 x3 x4 x5 g e) a0 x1 x2 x3 x4 x5 g fe)
    cases e
set_option maxRecDepth 100000 in
theorem t_X9_weaveRounds_22 {X : Nat × (Nat → Int32)} (N : Nat) {q : mH} : ∀ (n : Nat) (a0 : Nat) (x1 : Int32) (x2 : Int32) (x3 : Int32) (h : mH), L_X9_weaveRounds_22 N n a0 x1 x2 x3 h = some q → MW X y_X9_weaveRounds 5 22 [(0, .ref a0), (1, .int x1), (2, .int x2), (3, .int x3)] [] h none q := by
  intro n
  induction n with
  | zero => intro a0 x1 x2 x3 h hf; cases hf
  | succ n ih =>
    intro a0 x1 x2 x3 h hf
    refine ev_ok (o := 9) (ini := false) (Cl := C_X9_weaveRounds N) (Rc := RcV) (B := B_X9_weaveRounds) (K := fun pc ls st g => kb pc 53 (lgr 0 ls fun a0 => lgi 1 ls fun x1 => lgi 2 ls fun x2 => lgi 3 ls fun x3 => lgi 4 ls fun x4 => lgi 5 ls fun x5 => pe st (L_X9_weaveRounds_53 N (L_X9_weaveRounds_22 N n) N a0 x1 x2 x3 x4 x5 g)) (none)) rfl (fun e => by cases e) (by decide) (rcV_ok rfl) ?_ (co_X9_weaveRounds N q) lb_X9_weaveRounds 3000 22 S_X9_weaveRounds_22 _ _ h ls_X9_weaveRounds_22 hf
    intro pc ls st g e
    rcases kb_s e with ⟨rfl, e⟩ | e
    · obtain ⟨a0, e0, f0⟩ := lgr_s e
      obtain ⟨x1, e1, f1⟩ := lgi_s f0
      obtain ⟨x2, e2, f2⟩ := lgi_s f1
      obtain ⟨x3, e3, f3⟩ := lgi_s f2
      obtain ⟨x4, e4, f4⟩ := lgi_s f3
      obtain ⟨x5, e5, f5⟩ := lgi_s f4
      obtain ⟨qe, fe⟩ := pe_s f5
      subst qe
      exact MW.sub (List.forall_mem_cons.mpr ⟨lg_mem e0, List.forall_mem_cons.mpr ⟨lg_mem e1, List.forall_mem_cons.mpr ⟨lg_mem e2, List.forall_mem_cons.mpr ⟨lg_mem e3, List.forall_mem_cons.mpr ⟨lg_mem e4, List.forall_mem_cons.mpr ⟨lg_mem e5, fun _ h => absurd h List.not_mem_nil⟩⟩⟩⟩⟩⟩) (t_X9_weaveRounds_53 N (fun a0 x1 x2 x3 g e => ih a0 x1 x2 x3 g e) N a0 x1 x2 x3 x4 x5 g fe)
    cases e
set_option maxRecDepth 100000 in
theorem m_X9_weaveRounds (N : Nat) {a0 : Nat} {h : mH} {q : mH} (hf : f_X9_weaveRounds N a0 h = some q) : MM y_X9_weaveRounds 5 [.ref a0] h none q := by
  refine MM.of (mFx (j := 123) rfl).2.2.2.1 (Nat.le_of_ble_eq_true rfl) (fun X => ?_)
  refine ev_ok (o := 9) (ini := false) (Cl := C_X9_weaveRounds N) (Rc := RcV) (B := B_X9_weaveRounds) (K := fun pc ls st g => kb pc 22 (lgr 0 ls fun a0 => lgi 1 ls fun x1 => lgi 2 ls fun x2 => lgi 3 ls fun x3 => pe st (L_X9_weaveRounds_22 N N a0 x1 x2 x3 g)) (none)) rfl (fun e => by cases e) (by decide) (rcV_ok rfl) ?_ (co_X9_weaveRounds N q) lb_X9_weaveRounds 3000 0 S_X9_weaveRounds_0 _ _ h ls_X9_weaveRounds_0 hf
  intro pc ls st g e
  rcases kb_s e with ⟨rfl, e⟩ | e
  · obtain ⟨a0, e0, f0⟩ := lgr_s e
    obtain ⟨x1, e1, f1⟩ := lgi_s f0
    obtain ⟨x2, e2, f2⟩ := lgi_s f1
    obtain ⟨x3, e3, f3⟩ := lgi_s f2
    obtain ⟨qe, fe⟩ := pe_s f3
    subst qe
    exact MW.sub (List.forall_mem_cons.mpr ⟨lg_mem e0, List.forall_mem_cons.mpr ⟨lg_mem e1, List.forall_mem_cons.mpr ⟨lg_mem e2, List.forall_mem_cons.mpr ⟨lg_mem e3, fun _ h => absurd h List.not_mem_nil⟩⟩⟩⟩) (t_X9_weaveRounds_22 N N a0 x1 x2 x3 g fe)
  cases e
def f_X9_begin (N : Nat) (a0 : Nat) (x1 : Int32) (h : mH) : Option (mH) :=
  (gR h 9 a0 4).bind fun v1 =>
  (stI 0 h v1 (jI 0) x1).bind fun h2 =>
  (gR h2 9 a0 4).bind fun v3 =>
  (stI 0 h2 v3 (jI 1) (jI 1)).bind fun h4 =>
  (gR h4 9 a0 4).bind fun v5 =>
  (stI 0 h4 v5 (jI 2) (jI 1)).bind fun h6 =>
  (gR h6 9 a0 4).bind fun v7 =>
  (stI 0 h6 v7 (jI 3) (jI 0)).bind fun h8 =>
  (gR h8 9 a0 4).bind fun v9 =>
  (stI 0 h8 v9 (jI 4) (jI 0)).bind fun h10 =>
  (rcv h10 9 a0).bind fun _ =>
  (f_X9_weaveRounds N a0 h10).bind fun h11 =>
  some h11
def y_X9_begin : mM := (yX9_begin, cX9_begin, 2, none)
def B_X9_begin : List (Nat × List mI) := []
def S_X9_begin_0 : List mI := [(.aload_n 0, 1, [0], []), (.getfield 26, 3, [9, 4, 2, 59], []), (.iconst 0, 1, [], [0]), (.iload_n 1, 1, [1], []), (.iastore, 1, [], []), (.aload_n 0, 1, [0], []), (.getfield 26, 3, [9, 4, 2, 59], []), (.iconst 1, 1, [], [1]), (.iconst 1, 1, [], [1]), (.iastore, 1, [], []), (.aload_n 0, 1, [0], []), (.getfield 26, 3, [9, 4, 2, 59], []), (.iconst 2, 1, [], [2]), (.iconst 1, 1, [], [1]), (.iastore, 1, [], []), (.aload_n 0, 1, [0], []), (.getfield 26, 3, [9, 4, 2, 59], []), (.iconst 3, 1, [], [3]), (.iconst 0, 1, [], [0]), (.iastore, 1, [], []), (.aload_n 0, 1, [0], []), (.getfield 26, 3, [9, 4, 2, 59], []), (.iconst 4, 1, [], [4]), (.iconst 0, 1, [], [0]), (.iastore, 1, [], []), (.aload_n 0, 1, [0], []), (.invokevirtual 117, 3, [0, 123, 0, 9, 142], []), (.return_, 1, [], [])]
theorem lb_X9_begin : B_X9_begin.all (fun b => lst y_X9_begin.2.1 9 y_X9_begin.2.2.1 false b.1 b.2) = true := by decide +kernel
theorem ls_X9_begin_0 : lst y_X9_begin.2.1 9 y_X9_begin.2.2.1 false 0 S_X9_begin_0 = true := by decide +kernel
def C_X9_begin (N : Nat) : Nat → List Value → mH → (Option Value → mH → Option (mH)) → Option (mH) := fun j as g k => kb j 123 (pr1 as fun b0 as => pe as ((f_X9_weaveRounds N b0 g).bind fun p => k none p)) (none)
theorem co_X9_begin (N : Nat) (q : mH) : clOK 6 q (C_X9_begin N) := by
  intro j as g k e
  rcases kb_s e with ⟨rfl, e⟩ | e
  · obtain ⟨b0, r0, q0, f0⟩ := pr1_s e
    obtain ⟨qe, fe⟩ := pe_s f0
    obtain ⟨p, e1, e2⟩ := bnd_s fe
    subst qe
    subst q0
    exact ⟨_, _, _, _, 5, rfl, (by decide), m_X9_weaveRounds N e1, e2⟩
  cases e
set_option maxRecDepth 100000 in
theorem m_X9_begin (N : Nat) {a0 : Nat} {x1 : Int32} {h : mH} {q : mH} (hf : f_X9_begin N a0 x1 h = some q) : MM y_X9_begin 6 [.ref a0, .int x1] h none q := by
  refine MM.of (mFx (j := 121) rfl).2.2.2.1 (Nat.le_of_ble_eq_true rfl) (fun X => ?_)
  refine ev_ok (o := 9) (ini := false) (Cl := C_X9_begin N) (Rc := RcV) (B := B_X9_begin) (K := fun pc ls st g => none) rfl (fun e => by cases e) (by decide) (rcV_ok rfl) ?_ (co_X9_begin N q) lb_X9_begin 3000 0 S_X9_begin_0 _ _ h ls_X9_begin_0 hf
  intro pc ls st g e
  cases e
def f_X11_turned (N : Nat) (x0 : Int32) (x1 : Int32) (x2 : Int32) (h : mH) : Option (Int32 × mH) :=
  (f_J9_floorMod_7cf53 N x1 (iMax (jI 1) x2) h).bind fun p1 =>
  if p1.1 = 0 then
    some (x0, p1.2)
  else
    (f_X11_maskOf N x2 p1.2).bind fun p2 =>
    some (iAnd (iOr (iShl x0 p1.1) (iUsr x0 (iSub x2 p1.1))) p2.1, p2.2)
def y_X11_turned : mM := (yX11_turned, cX11_turned, 4, (some .int))
def B_X11_turned : List (Nat × List mI) := [(18, [(.iload_n 0, 1, [0], []), (.iload_n 3, 1, [3], []), (.ishl, 1, [], []), (.iload_n 0, 1, [0], []), (.iload_n 2, 1, [2], []), (.iload_n 3, 1, [3], []), (.isub, 1, [], []), (.iushr, 1, [], []), (.ior, 1, [], []), (.iload_n 2, 1, [2], []), (.invokestatic 475, 3, [1, 221, 1, 0, 107], []), (.iand, 1, [], [])]), (32, [(.ireturn, 1, [], [])])]
def S_X11_turned_0 : List mI := [(.iload_n 1, 1, [1], []), (.iconst 1, 1, [], [1]), (.iload_n 2, 1, [2], []), (.invokestatic 459, 3, [6, 0, 0, 0, 19], []), (.invokestatic 472, 3, [1, 346, 2, 0, 106], []), (.istore_n 3, 1, [3], []), (.iload_n 3, 1, [3], []), (.ifCond .ne 7, 3, [18], []), (.iload_n 0, 1, [0], []), (.goto 17, 3, [32], [])]
theorem lb_X11_turned : B_X11_turned.all (fun b => lst y_X11_turned.2.1 11 y_X11_turned.2.2.1 false b.1 b.2) = true := by decide +kernel
theorem ls_X11_turned_0 : lst y_X11_turned.2.1 11 y_X11_turned.2.2.1 false 0 S_X11_turned_0 = true := by decide +kernel
def C_X11_turned (N : Nat) : Nat → List Value → mH → (Option Value → mH → Option (Int32 × mH)) → Option (Int32 × mH) := fun j as g k => kb j 346 (pp1 as fun b0 as => pp1 as fun b1 as => pe as ((f_J9_floorMod_7cf53 N b0 b1 g).bind fun p => k (some (.int p.1)) p.2)) (kb j 221 (pp1 as fun b0 as => pe as ((f_X11_maskOf N b0 g).bind fun p => k (some (.int p.1)) p.2)) (none))
theorem co_X11_turned (N : Nat) (q : Int32 × mH) : clOK 5 q (C_X11_turned N) := by
  intro j as g k e
  rcases kb_s e with ⟨rfl, e⟩ | e
  · obtain ⟨b0, r0, q0, f0⟩ := pp1_s e
    obtain ⟨b1, r1, q1, f1⟩ := pp1_s f0
    obtain ⟨qe, fe⟩ := pe_s f1
    obtain ⟨p, e1, e2⟩ := bnd_s fe
    subst qe
    subst q1
    subst q0
    exact ⟨_, _, _, _, 4, rfl, (by decide), m_J9_floorMod_7cf53 N e1, e2⟩
  rcases kb_s e with ⟨rfl, e⟩ | e
  · obtain ⟨b0, r0, q0, f0⟩ := pp1_s e
    obtain ⟨qe, fe⟩ := pe_s f0
    obtain ⟨p, e1, e2⟩ := bnd_s fe
    subst qe
    subst q0
    exact ⟨_, _, _, _, 4, rfl, (by decide), m_X11_maskOf N e1, e2⟩
  cases e
set_option maxRecDepth 100000 in
theorem m_X11_turned (N : Nat) {x0 : Int32} {x1 : Int32} {x2 : Int32} {h : mH} {q : Int32 × mH} (hf : f_X11_turned N x0 x1 x2 h = some q) : MM y_X11_turned 5 [.int x0, .int x1, .int x2] h (some (.int q.1)) q.2 := by
  refine MM.of (mFx (j := 222) rfl).2.2.2.1 (Nat.le_of_ble_eq_true rfl) (fun X => ?_)
  refine ev_ok (o := 11) (ini := false) (Cl := C_X11_turned N) (Rc := RcI) (B := B_X11_turned) (K := fun pc ls st g => none) rfl (fun e => by cases e) (by decide) (rcI_ok rfl) ?_ (co_X11_turned N q) lb_X11_turned 3000 0 S_X11_turned_0 _ _ h ls_X11_turned_0 hf
  intro pc ls st g e
  cases e
def J_X9_mistakesOf_90 (N : Nat) (k10 : Nat → Int32 → Int32 → Int32 → Int32 → Int32 → mH → Option (Int32 × mH)) (a0 : Nat) (x1 : Int32) (x2 : Int32) (x3 : Int32) (x4 : Int32) (x5 : Int32) (s_0 : Int32) (h : mH) : Option (Int32 × mH) :=
  (gR h 9 a0 3).bind fun v1 =>
  (ldI 0 h v1 x5).bind fun v2 =>
  (gR h 9 a0 2).bind fun v3 =>
  (ldI 0 h v3 x5).bind fun v4 =>
  (f_J6_bitCount_0f7a4 N (iOr (iAnd v2 s_0) (iAnd v4 (iXor s_0 (jI (-1))))) h).bind fun p5 =>
  let w6 := iAdd x2 p5.1
  let w7 := iAdd x3 (jI 1)
  (gR p5.2 9 a0 4).bind fun v8 =>
  (ldI 0 p5.2 v8 (jI 0)).bind fun v9 =>
  if w7 < v9 then
    let w10 := iAdd x5 (jI 1)
    k10 a0 x1 w6 w7 x4 w10 p5.2
  else
    let w11 := iAdd x4 (jI 1)
    let w12 := iAdd x5 (jI 1)
    k10 a0 x1 w6 (jI 0) w11 w12 p5.2
def L_X9_mistakesOf_10 (N : Nat) : Nat → Nat → Int32 → Int32 → Int32 → Int32 → Int32 → mH → Option (Int32 × mH)
  | 0, _, _, _, _, _, _, _ => none
  | n + 1, a0, x1, x2, x3, x4, x5, h =>
    (gI h 9 a0 10).bind fun v1 =>
    if x5 < v1 then
      if x5 < (jI 8) then
        if x1 < x2 then
          some (x2, h)
        else
          (gR h 9 a0 4).bind fun v2 =>
          (ldI 0 h v2 (jI 4)).bind fun v3 =>
          if v3 = (jI 1) then
            (gR h 9 a0 1).bind fun v4 =>
            (ldI 0 h v4 x4).bind fun v5 =>
            (gR h 9 a0 4).bind fun v6 =>
            (ldI 0 h v6 (jI 3)).bind fun v7 =>
            (gI h 9 a0 9).bind fun v8 =>
            (f_X11_turned N v5 (iAdd (iSub v7 x3) (jI 1)) v8 h).bind fun p9 =>
            J_X9_mistakesOf_90 N (L_X9_mistakesOf_10 N n) a0 x1 x2 x3 x4 x5 p9.1 p9.2
          else
            (gR h 9 a0 0).bind fun v10 =>
            (ldI 0 h v10 x4).bind fun v11 =>
            (gR h 9 a0 4).bind fun v12 =>
            (ldI 0 h v12 (jI 3)).bind fun v13 =>
            (gI h 9 a0 9).bind fun v14 =>
            (f_X11_turned N v11 (iAdd v13 x3) v14 h).bind fun p15 =>
            J_X9_mistakesOf_90 N (L_X9_mistakesOf_10 N n) a0 x1 x2 x3 x4 x5 p15.1 p15.2
      else
        some (x2, h)
    else
      some (x2, h)
def f_X9_mistakesOf (N : Nat) (a0 : Nat) (x1 : Int32) (h : mH) : Option (Int32 × mH) :=
  L_X9_mistakesOf_10 N N a0 x1 (jI 0) (jI 0) (jI 0) (jI 0) h
def y_X9_mistakesOf : mM := (yX9_mistakesOf, cX9_mistakesOf, 7, (some .int))
def B_X9_mistakesOf : List (Nat × List mI) := [(68, [(.aload_n 0, 1, [0], []), (.getfield 11, 3, [9, 0, 2, 55], []), (.iload 4, 2, [4], []), (.iaload, 1, [0], []), (.aload_n 0, 1, [0], []), (.getfield 26, 3, [9, 4, 2, 59], []), (.iconst 3, 1, [], [3]), (.iaload, 1, [0], []), (.iload_n 3, 1, [3], []), (.iadd, 1, [], []), (.aload_n 0, 1, [0], []), (.getfield 50, 3, [9, 9, 0, 64], []), (.invokestatic 120, 3, [3, 222, 3, 0, 12], [])]), (139, [(.iinc 5 1, 3, [5], [1]), (.goto (-132), 3, [10], [])]), (145, [(.iload_n 2, 1, [2], []), (.ireturn, 1, [], [])])]
def S_X9_mistakesOf_0 : List mI := [(.iconst 0, 1, [], [0]), (.istore_n 2, 1, [2], []), (.iconst 0, 1, [], [0]), (.istore_n 3, 1, [3], []), (.iconst 0, 1, [], [0]), (.istore 4, 2, [4], []), (.iconst 0, 1, [], [0]), (.istore 5, 2, [5], [])]
def S_X9_mistakesOf_10 : List mI := [(.iload 5, 2, [5], []), (.aload_n 0, 1, [0], []), (.getfield 57, 3, [9, 10, 0, 65], []), (.if_icmp .ge 129, 3, [145], []), (.iload 5, 2, [5], []), (.bipush 8, 2, [], [8]), (.if_icmp .ge 122, 3, [145], []), (.iload_n 2, 1, [2], []), (.iload_n 1, 1, [1], []), (.if_icmp .gt 117, 3, [145], []), (.aload_n 0, 1, [0], []), (.getfield 26, 3, [9, 4, 2, 59], []), (.iconst 4, 1, [], [4]), (.iaload, 1, [0], []), (.iconst 1, 1, [], [1]), (.if_icmp .ne 30, 3, [68], []), (.aload_n 0, 1, [0], []), (.getfield 17, 3, [9, 1, 2, 56], []), (.iload 4, 2, [4], []), (.iaload, 1, [0], []), (.aload_n 0, 1, [0], []), (.getfield 26, 3, [9, 4, 2, 59], []), (.iconst 3, 1, [], [3]), (.iaload, 1, [0], []), (.iload_n 3, 1, [3], []), (.isub, 1, [], []), (.iconst 1, 1, [], [1]), (.iadd, 1, [], []), (.aload_n 0, 1, [0], []), (.getfield 50, 3, [9, 9, 0, 64], []), (.invokestatic 120, 3, [3, 222, 3, 0, 12], []), (.goto 25, 3, [90], [])]
def S_X9_mistakesOf_90 : List mI := [(.istore 6, 2, [6], []), (.iload_n 2, 1, [2], []), (.aload_n 0, 1, [0], []), (.getfield 23, 3, [9, 3, 2, 58], []), (.iload 5, 2, [5], []), (.iaload, 1, [0], []), (.iload 6, 2, [6], []), (.iand, 1, [], []), (.aload_n 0, 1, [0], []), (.getfield 20, 3, [9, 2, 2, 57], []), (.iload 5, 2, [5], []), (.iaload, 1, [0], []), (.iload 6, 2, [6], []), (.iconst (-1), 1, [], [-1]), (.ixor, 1, [], []), (.iand, 1, [], []), (.ior, 1, [], []), (.invokestatic 124, 3, [1, 345, 1, 0, 144], []), (.iadd, 1, [], []), (.istore_n 2, 1, [2], []), (.iinc 3 1, 3, [3], [1]), (.iload_n 3, 1, [3], []), (.aload_n 0, 1, [0], []), (.getfield 26, 3, [9, 4, 2, 59], []), (.iconst 0, 1, [], [0]), (.iaload, 1, [0], []), (.if_icmp .lt 8, 3, [139], []), (.iconst 0, 1, [], [0]), (.istore_n 3, 1, [3], []), (.iinc 4 1, 3, [4], [1])]
theorem lb_X9_mistakesOf : B_X9_mistakesOf.all (fun b => lst y_X9_mistakesOf.2.1 9 y_X9_mistakesOf.2.2.1 false b.1 b.2) = true := by decide +kernel
theorem ls_X9_mistakesOf_0 : lst y_X9_mistakesOf.2.1 9 y_X9_mistakesOf.2.2.1 false 0 S_X9_mistakesOf_0 = true := by decide +kernel
theorem ls_X9_mistakesOf_10 : lst y_X9_mistakesOf.2.1 9 y_X9_mistakesOf.2.2.1 false 10 S_X9_mistakesOf_10 = true := by decide +kernel
theorem ls_X9_mistakesOf_90 : lst y_X9_mistakesOf.2.1 9 y_X9_mistakesOf.2.2.1 false 90 S_X9_mistakesOf_90 = true := by decide +kernel
def C_X9_mistakesOf (N : Nat) : Nat → List Value → mH → (Option Value → mH → Option (Int32 × mH)) → Option (Int32 × mH) := fun j as g k => kb j 222 (pp1 as fun b0 as => pp1 as fun b1 as => pp1 as fun b2 as => pe as ((f_X11_turned N b0 b1 b2 g).bind fun p => k (some (.int p.1)) p.2)) (kb j 345 (pp1 as fun b0 as => pe as ((f_J6_bitCount_0f7a4 N b0 g).bind fun p => k (some (.int p.1)) p.2)) (none))
theorem co_X9_mistakesOf (N : Nat) (q : Int32 × mH) : clOK 6 q (C_X9_mistakesOf N) := by
  intro j as g k e
  rcases kb_s e with ⟨rfl, e⟩ | e
  · obtain ⟨b0, r0, q0, f0⟩ := pp1_s e
    obtain ⟨b1, r1, q1, f1⟩ := pp1_s f0
    obtain ⟨b2, r2, q2, f2⟩ := pp1_s f1
    obtain ⟨qe, fe⟩ := pe_s f2
    obtain ⟨p, e1, e2⟩ := bnd_s fe
    subst qe
    subst q2
    subst q1
    subst q0
    exact ⟨_, _, _, _, 5, rfl, (by decide), m_X11_turned N e1, e2⟩
  rcases kb_s e with ⟨rfl, e⟩ | e
  · obtain ⟨b0, r0, q0, f0⟩ := pp1_s e
    obtain ⟨qe, fe⟩ := pe_s f0
    obtain ⟨p, e1, e2⟩ := bnd_s fe
    subst qe
    subst q0
    exact ⟨_, _, _, _, 4, rfl, (by decide), m_J6_bitCount_0f7a4 N e1, e2⟩
  cases e
set_option maxRecDepth 100000 in
theorem t_X9_mistakesOf_90 {X : Nat × (Nat → Int32)} (N : Nat) {q : Int32 × mH} {k10 : Nat → Int32 → Int32 → Int32 → Int32 → Int32 → mH → Option (Int32 × mH)} (hk10 : ∀ (a0 : Nat) (x1 : Int32) (x2 : Int32) (x3 : Int32) (x4 : Int32) (x5 : Int32) g, k10 a0 x1 x2 x3 x4 x5 g = some q → MW X y_X9_mistakesOf 6 10 [(0, .ref a0), (1, .int x1), (2, .int x2), (3, .int x3), (4, .int x4), (5, .int x5)] [] g (some (.int q.1)) q.2) (a0 : Nat) (x1 : Int32) (x2 : Int32) (x3 : Int32) (x4 : Int32) (x5 : Int32) (s_0 : Int32) (h : mH) (hf : J_X9_mistakesOf_90 N k10 a0 x1 x2 x3 x4 x5 s_0 h = some q) : MW X y_X9_mistakesOf 6 90 [(0, .ref a0), (1, .int x1), (2, .int x2), (3, .int x3), (4, .int x4), (5, .int x5)] [.int s_0] h (some (.int q.1)) q.2 := by
  refine ev_ok (o := 9) (ini := false) (Cl := C_X9_mistakesOf N) (Rc := RcI) (B := B_X9_mistakesOf) (K := fun pc ls st g => kb pc 10 (lgr 0 ls fun a0 => lgi 1 ls fun x1 => lgi 2 ls fun x2 => lgi 3 ls fun x3 => lgi 4 ls fun x4 => lgi 5 ls fun x5 => pe st (k10 a0 x1 x2 x3 x4 x5 g)) (none)) rfl (fun e => by cases e) (by decide) (rcI_ok rfl) ?_ (co_X9_mistakesOf N q) lb_X9_mistakesOf 3000 90 S_X9_mistakesOf_90 _ _ h ls_X9_mistakesOf_90 hf
  intro pc ls st g e
  rcases kb_s e with ⟨rfl, e⟩ | e
  · obtain ⟨a0, e0, f0⟩ := lgr_s e
    obtain ⟨x1, e1, f1⟩ := lgi_s f0
    obtain ⟨x2, e2, f2⟩ := lgi_s f1
    obtain ⟨x3, e3, f3⟩ := lgi_s f2
    obtain ⟨x4, e4, f4⟩ := lgi_s f3
    obtain ⟨x5, e5, f5⟩ := lgi_s f4
    obtain ⟨qe, fe⟩ := pe_s f5
    subst qe
    exact MW.sub (List.forall_mem_cons.mpr ⟨lg_mem e0, List.forall_mem_cons.mpr ⟨lg_mem e1, List.forall_mem_cons.mpr ⟨lg_mem e2, List.forall_mem_cons.mpr ⟨lg_mem e3, List.forall_mem_cons.mpr ⟨lg_mem e4, List.forall_mem_cons.mpr ⟨lg_mem e5, fun _ h => absurd h List.not_mem_nil⟩⟩⟩⟩⟩⟩) (hk10 a0 x1 x2 x3 x4 x5 g fe)
  cases e
set_option maxRecDepth 100000 in
theorem t_X9_mistakesOf_10 {X : Nat × (Nat → Int32)} (N : Nat) {q : Int32 × mH} : ∀ (n : Nat) (a0 : Nat) (x1 : Int32) (x2 : Int32) (x3 : Int32) (x4 : Int32) (x5 : Int32) (h : mH), L_X9_mistakesOf_10 N n a0 x1 x2 x3 x4 x5 h = some q → MW X y_X9_mistakesOf 6 10 [(0, .ref a0), (1, .int x1), (2, .int x2), (3, .int x3), (4, .int x4), (5, .int x5)] [] h (some (.int q.1)) q.2 := by
  intro n
  induction n with
  | zero => intro a0 x1 x2 x3 x4 x5 h hf; cases hf
  | succ n ih =>
    intro a0 x1 x2 x3 x4 x5 h hf
    refine ev_ok (o := 9) (ini := false) (Cl := C_X9_mistakesOf N) (Rc := RcI) (B := B_X9_mistakesOf) (K := fun pc ls st g => kb pc 90 (lgr 0 ls fun a0 => lgi 1 ls fun x1 => lgi 2 ls fun x2 => lgi 3 ls fun x3 => lgi 4 ls fun x4 => lgi 5 ls fun x5 => pp1 st fun s_0 st => pe st (J_X9_mistakesOf_90 N (L_X9_mistakesOf_10 N n) a0 x1 x2 x3 x4 x5 s_0 g)) (none)) rfl (fun e => by cases e) (by decide) (rcI_ok rfl) ?_ (co_X9_mistakesOf N q) lb_X9_mistakesOf 3000 10 S_X9_mistakesOf_10 _ _ h ls_X9_mistakesOf_10 hf
    intro pc ls st g e
    rcases kb_s e with ⟨rfl, e⟩ | e
    · obtain ⟨a0, e0, f0⟩ := lgr_s e
      obtain ⟨x1, e1, f1⟩ := lgi_s f0
      obtain ⟨x2, e2, f2⟩ := lgi_s f1
      obtain ⟨x3, e3, f3⟩ := lgi_s f2
      obtain ⟨x4, e4, f4⟩ := lgi_s f3
      obtain ⟨x5, e5, f5⟩ := lgi_s f4
      obtain ⟨s_0, r0, q0, g0⟩ := pp1_s f5
      obtain ⟨qe, fe⟩ := pe_s g0
      subst qe
      subst q0
      exact MW.sub (List.forall_mem_cons.mpr ⟨lg_mem e0, List.forall_mem_cons.mpr ⟨lg_mem e1, List.forall_mem_cons.mpr ⟨lg_mem e2, List.forall_mem_cons.mpr ⟨lg_mem e3, List.forall_mem_cons.mpr ⟨lg_mem e4, List.forall_mem_cons.mpr ⟨lg_mem e5, fun _ h => absurd h List.not_mem_nil⟩⟩⟩⟩⟩⟩) (t_X9_mistakesOf_90 N (fun a0 x1 x2 x3 x4 x5 g e => ih a0 x1 x2 x3 x4 x5 g e) a0 x1 x2 x3 x4 x5 s_0 g fe)
    cases e
set_option maxRecDepth 100000 in
theorem m_X9_mistakesOf (N : Nat) {a0 : Nat} {x1 : Int32} {h : mH} {q : Int32 × mH} (hf : f_X9_mistakesOf N a0 x1 h = some q) : MM y_X9_mistakesOf 6 [.ref a0, .int x1] h (some (.int q.1)) q.2 := by
  refine MM.of (mFx (j := 124) rfl).2.2.2.1 (Nat.le_of_ble_eq_true rfl) (fun X => ?_)
  refine ev_ok (o := 9) (ini := false) (Cl := C_X9_mistakesOf N) (Rc := RcI) (B := B_X9_mistakesOf) (K := fun pc ls st g => kb pc 10 (lgr 0 ls fun a0 => lgi 1 ls fun x1 => lgi 2 ls fun x2 => lgi 3 ls fun x3 => lgi 4 ls fun x4 => lgi 5 ls fun x5 => pe st (L_X9_mistakesOf_10 N N a0 x1 x2 x3 x4 x5 g)) (none)) rfl (fun e => by cases e) (by decide) (rcI_ok rfl) ?_ (co_X9_mistakesOf N q) lb_X9_mistakesOf 3000 0 S_X9_mistakesOf_0 _ _ h ls_X9_mistakesOf_0 hf
  intro pc ls st g e
  rcases kb_s e with ⟨rfl, e⟩ | e
  · obtain ⟨a0, e0, f0⟩ := lgr_s e
    obtain ⟨x1, e1, f1⟩ := lgi_s f0
    obtain ⟨x2, e2, f2⟩ := lgi_s f1
    obtain ⟨x3, e3, f3⟩ := lgi_s f2
    obtain ⟨x4, e4, f4⟩ := lgi_s f3
    obtain ⟨x5, e5, f5⟩ := lgi_s f4
    obtain ⟨qe, fe⟩ := pe_s f5
    subst qe
    exact MW.sub (List.forall_mem_cons.mpr ⟨lg_mem e0, List.forall_mem_cons.mpr ⟨lg_mem e1, List.forall_mem_cons.mpr ⟨lg_mem e2, List.forall_mem_cons.mpr ⟨lg_mem e3, List.forall_mem_cons.mpr ⟨lg_mem e4, List.forall_mem_cons.mpr ⟨lg_mem e5, fun _ h => absurd h List.not_mem_nil⟩⟩⟩⟩⟩⟩) (t_X9_mistakesOf_10 N N a0 x1 x2 x3 x4 x5 g fe)
  cases e
def f_X9_goOn (N : Nat) (a0 : Nat) (h : mH) : Option (Int32 × mH) :=
  (gR h 9 a0 4).bind fun v1 =>
  (ldI 0 h v1 (jI 4)).bind fun v2 =>
  (stI 0 h v1 (jI 4) (iAdd v2 (jI 1))).bind fun h3 =>
  (gR h3 9 a0 4).bind fun v4 =>
  (ldI 0 h3 v4 (jI 4)).bind fun v5 =>
  if v5 < (jI 2) then
    some (jI 1, h3)
  else
    (gR h3 9 a0 4).bind fun v6 =>
    (stI 0 h3 v6 (jI 4) (jI 0)).bind fun h7 =>
    (gR h7 9 a0 4).bind fun v8 =>
    (ldI 0 h7 v8 (jI 3)).bind fun v9 =>
    (stI 0 h7 v8 (jI 3) (iAdd v9 (jI 1))).bind fun h10 =>
    (gR h10 9 a0 4).bind fun v11 =>
    (ldI 0 h10 v11 (jI 3)).bind fun v12 =>
    (gI h10 9 a0 9).bind fun v13 =>
    if v12 < v13 then
      some (jI 1, h10)
    else
      (gR h10 9 a0 4).bind fun v14 =>
      (stI 0 h10 v14 (jI 3) (jI 0)).bind fun h15 =>
      (gR h15 9 a0 4).bind fun v16 =>
      (ldI 0 h15 v16 (jI 2)).bind fun v17 =>
      (stI 0 h15 v16 (jI 2) (iAdd v17 (jI 1))).bind fun h18 =>
      (gR h18 9 a0 4).bind fun v19 =>
      (ldI 0 h18 v19 (jI 2)).bind fun v20 =>
      if (jI 4) < v20 then
        (gR h18 9 a0 4).bind fun v21 =>
        (stI 0 h18 v21 (jI 2) (jI 1)).bind fun h22 =>
        (gR h22 9 a0 4).bind fun v23 =>
        (ldI 0 h22 v23 (jI 1)).bind fun v24 =>
        (stI 0 h22 v23 (jI 1) (iAdd v24 (jI 1))).bind fun h25 =>
        (gR h25 9 a0 4).bind fun v26 =>
        (ldI 0 h25 v26 (jI 1)).bind fun v27 =>
        if (jI 4) < v27 then
          some (jI 0, h25)
        else
          (rcv h25 9 a0).bind fun _ =>
          (f_X9_weaveRounds N a0 h25).bind fun h28 =>
          some (jI 1, h28)
      else
        (gR h18 9 a0 4).bind fun v29 =>
        (ldI 0 h18 v29 (jI 1)).bind fun v30 =>
        if (jI 4) < v30 then
          some (jI 0, h18)
        else
          (rcv h18 9 a0).bind fun _ =>
          (f_X9_weaveRounds N a0 h18).bind fun h31 =>
          some (jI 1, h31)
def y_X9_goOn : mM := (yX9_goOn, cX9_goOn, 1, (some .boolean))
def B_X9_goOn : List (Nat × List mI) := [(22, [(.aload_n 0, 1, [0], []), (.getfield 26, 3, [9, 4, 2, 59], []), (.iconst 4, 1, [], [4]), (.iconst 0, 1, [], [0]), (.iastore, 1, [], []), (.aload_n 0, 1, [0], []), (.getfield 26, 3, [9, 4, 2, 59], []), (.iconst 3, 1, [], [3]), (.dup2, 1, [], []), (.iaload, 1, [0], []), (.iconst 1, 1, [], [1]), (.iadd, 1, [], []), (.iastore, 1, [], []), (.aload_n 0, 1, [0], []), (.getfield 26, 3, [9, 4, 2, 59], []), (.iconst 3, 1, [], [3]), (.iaload, 1, [0], []), (.aload_n 0, 1, [0], []), (.getfield 50, 3, [9, 9, 0, 64], []), (.if_icmp .ge 5, 3, [54], []), (.iconst 1, 1, [], [1]), (.ireturn, 1, [], [])]), (54, [(.aload_n 0, 1, [0], []), (.getfield 26, 3, [9, 4, 2, 59], []), (.iconst 3, 1, [], [3]), (.iconst 0, 1, [], [0]), (.iastore, 1, [], []), (.aload_n 0, 1, [0], []), (.getfield 26, 3, [9, 4, 2, 59], []), (.iconst 2, 1, [], [2]), (.dup2, 1, [], []), (.iaload, 1, [0], []), (.iconst 1, 1, [], [1]), (.iadd, 1, [], []), (.iastore, 1, [], []), (.aload_n 0, 1, [0], []), (.getfield 26, 3, [9, 4, 2, 59], []), (.iconst 2, 1, [], [2]), (.iaload, 1, [0], []), (.iconst 4, 1, [], [4]), (.if_icmp .le 20, 3, [98], []), (.aload_n 0, 1, [0], []), (.getfield 26, 3, [9, 4, 2, 59], []), (.iconst 2, 1, [], [2]), (.iconst 1, 1, [], [1]), (.iastore, 1, [], []), (.aload_n 0, 1, [0], []), (.getfield 26, 3, [9, 4, 2, 59], []), (.iconst 1, 1, [], [1]), (.dup2, 1, [], []), (.iaload, 1, [0], []), (.iconst 1, 1, [], [1]), (.iadd, 1, [], []), (.iastore, 1, [], [])]), (98, [(.aload_n 0, 1, [0], []), (.getfield 26, 3, [9, 4, 2, 59], []), (.iconst 1, 1, [], [1]), (.iaload, 1, [0], []), (.iconst 4, 1, [], [4]), (.if_icmp .le 5, 3, [110], []), (.iconst 0, 1, [], [0]), (.ireturn, 1, [], [])]), (110, [(.aload_n 0, 1, [0], []), (.invokevirtual 117, 3, [0, 123, 0, 9, 142], []), (.iconst 1, 1, [], [1]), (.ireturn, 1, [], [])])]
def S_X9_goOn_0 : List mI := [(.aload_n 0, 1, [0], []), (.getfield 26, 3, [9, 4, 2, 59], []), (.iconst 4, 1, [], [4]), (.dup2, 1, [], []), (.iaload, 1, [0], []), (.iconst 1, 1, [], [1]), (.iadd, 1, [], []), (.iastore, 1, [], []), (.aload_n 0, 1, [0], []), (.getfield 26, 3, [9, 4, 2, 59], []), (.iconst 4, 1, [], [4]), (.iaload, 1, [0], []), (.iconst 2, 1, [], [2]), (.if_icmp .ge 5, 3, [22], []), (.iconst 1, 1, [], [1]), (.ireturn, 1, [], [])]
theorem lb_X9_goOn : B_X9_goOn.all (fun b => lst y_X9_goOn.2.1 9 y_X9_goOn.2.2.1 false b.1 b.2) = true := by decide +kernel
theorem ls_X9_goOn_0 : lst y_X9_goOn.2.1 9 y_X9_goOn.2.2.1 false 0 S_X9_goOn_0 = true := by decide +kernel
def C_X9_goOn (N : Nat) : Nat → List Value → mH → (Option Value → mH → Option (Int32 × mH)) → Option (Int32 × mH) := fun j as g k => kb j 123 (pr1 as fun b0 as => pe as ((f_X9_weaveRounds N b0 g).bind fun p => k none p)) (none)
theorem co_X9_goOn (N : Nat) (q : Int32 × mH) : clOK 6 q (C_X9_goOn N) := by
  intro j as g k e
  rcases kb_s e with ⟨rfl, e⟩ | e
  · obtain ⟨b0, r0, q0, f0⟩ := pr1_s e
    obtain ⟨qe, fe⟩ := pe_s f0
    obtain ⟨p, e1, e2⟩ := bnd_s fe
    subst qe
    subst q0
    exact ⟨_, _, _, _, 5, rfl, (by decide), m_X9_weaveRounds N e1, e2⟩
  cases e
set_option maxRecDepth 100000 in
theorem m_X9_goOn (N : Nat) {a0 : Nat} {h : mH} {q : Int32 × mH} (hf : f_X9_goOn N a0 h = some q) : MM y_X9_goOn 6 [.ref a0] h (some (.int q.1)) q.2 := by
  refine MM.of (mFx (j := 122) rfl).2.2.2.1 (Nat.le_of_ble_eq_true rfl) (fun X => ?_)
  refine ev_ok (o := 9) (ini := false) (Cl := C_X9_goOn N) (Rc := RcZ) (B := B_X9_goOn) (K := fun pc ls st g => none) rfl (fun e => by cases e) (by decide) (rcZ_ok rfl) ?_ (co_X9_goOn N q) lb_X9_goOn 3000 0 S_X9_goOn_0 _ _ h ls_X9_goOn_0 hf
  intro pc ls st g e
  cases e
def J_X9_makeWith_93 (N : Nat) (k10 : Nat → Nat → Int32 → Int32 → Int32 → mH → Option (mH)) (a0 : Nat) (a1 : Nat) (x2 : Int32) (x4 : Int32) (h : mH) : Option (mH) :=
  (gR h 9 a0 5).bind fun v1 =>
  (ldI 0 h v1 (jI 5)).bind fun v2 =>
  (stI 0 h v1 (jI 5) (iAdd v2 (jI 1))).bind fun h3 =>
  (rcv h3 9 a0).bind fun _ =>
  (f_X9_goOn N a0 h3).bind fun p4 =>
  let w5 := iAdd x4 (jI 1)
  k10 a0 a1 x2 p4.1 w5 p4.2
def L_X9_makeWith_60 (N : Nat) (k10 : Nat → Nat → Int32 → Int32 → Int32 → mH → Option (mH)) : Nat → Nat → Nat → Int32 → Int32 → Int32 → mH → Option (mH)
  | 0, _, _, _, _, _, _ => none
  | n + 1, a0, a1, x2, x4, x5, h =>
    if x5 < x2 then
      (gR h 9 a0 5).bind fun v1 =>
      (f_X9_kindOfWeaver N a1 x2 x5 h).bind fun p2 =>
      (stI 0 p2.2 v1 (iAdd (jI 6) x5) (iMax (jI 0) p2.1)).bind fun h3 =>
      let w4 := iAdd x5 (jI 1)
      L_X9_makeWith_60 N k10 n a0 a1 x2 x4 w4 h3
    else
      J_X9_makeWith_93 N k10 a0 a1 x2 x4 h
def L_X9_makeWith_10 (N : Nat) : Nat → Nat → Nat → Int32 → Int32 → Int32 → mH → Option (mH)
  | 0, _, _, _, _, _, _ => none
  | n + 1, a0, a1, x2, x3, x4, h =>
    if x4 < (jI 1024) then
      if x3 = 0 then
        some h
      else
        (rcv h 9 a0).bind fun _ =>
        (f_X9_mistakesOf N a0 (jI 0) h).bind fun p1 =>
        if p1.1 = 0 then
          (gR p1.2 9 a0 5).bind fun v2 =>
          (ldI 0 p1.2 v2 (jI 5)).bind fun v3 =>
          if v3 = 0 then
            (gR p1.2 9 a0 4).bind fun v4 =>
            (gR p1.2 9 a0 5).bind fun v5 =>
            (gR p1.2 9 a0 4).bind fun v6 =>
            (lnA p1.2 v6).bind fun v7 =>
            (cpI p1.2 v4 (jI 0) v5 (jI 0) v7).bind fun h8 =>
            L_X9_makeWith_60 N (L_X9_makeWith_10 N n) N a0 a1 x2 x4 (jI 0) h8
          else
            J_X9_makeWith_93 N (L_X9_makeWith_10 N n) a0 a1 x2 x4 p1.2
        else
          (rcv p1.2 9 a0).bind fun _ =>
          (f_X9_goOn N a0 p1.2).bind fun p9 =>
          let w10 := iAdd x4 (jI 1)
          L_X9_makeWith_10 N n a0 a1 x2 p9.1 w10 p9.2
    else
      some h
def f_X9_makeWith (N : Nat) (a0 : Nat) (a1 : Nat) (x2 : Int32) (h : mH) : Option (mH) :=
  (rcv h 9 a0).bind fun _ =>
  (f_X9_begin N a0 x2 h).bind fun h1 =>
  L_X9_makeWith_10 N N a0 a1 x2 (jI 1) (jI 0) h1
def y_X9_makeWith : mM := (yX9_makeWith, cX9_makeWith, 6, none)
def B_X9_makeWith : List (Nat × List mI) := [(103, [(.aload_n 0, 1, [0], []), (.invokevirtual 99, 3, [0, 122, 0, 9, 145], []), (.istore_n 3, 1, [3], []), (.iinc 4 1, 3, [4], [1]), (.goto (-101), 3, [10], [])]), (114, [(.return_, 1, [], [])])]
def S_X9_makeWith_0 : List mI := [(.aload_n 0, 1, [0], []), (.iload_n 2, 1, [2], []), (.invokevirtual 86, 3, [0, 121, 1, 9, 141], []), (.iconst 1, 1, [], [1]), (.istore_n 3, 1, [3], []), (.iconst 0, 1, [], [0]), (.istore 4, 2, [4], [])]
def S_X9_makeWith_10 : List mI := [(.iload 4, 2, [4], []), (.sipush 1024, 3, [], [1024]), (.if_icmp .ge 99, 3, [114], []), (.iload_n 3, 1, [3], []), (.ifCond .eq 95, 3, [114], []), (.aload_n 0, 1, [0], []), (.iconst 0, 1, [], [0]), (.invokevirtual 90, 3, [0, 124, 1, 9, 143], []), (.ifCond .ne 76, 3, [103], []), (.aload_n 0, 1, [0], []), (.getfield 31, 3, [9, 5, 2, 60], []), (.iconst 5, 1, [], [5]), (.iaload, 1, [0], []), (.ifCond .ne 57, 3, [93], []), (.aload_n 0, 1, [0], []), (.getfield 26, 3, [9, 4, 2, 59], []), (.iconst 0, 1, [], [0]), (.aload_n 0, 1, [0], []), (.getfield 31, 3, [9, 5, 2, 60], []), (.iconst 0, 1, [], [0]), (.aload_n 0, 1, [0], []), (.getfield 26, 3, [9, 4, 2, 59], []), (.arraylength, 1, [0], []), (.invokestatic 93, 3, [10, 0, 0, 0, 24], []), (.iconst 0, 1, [], [0]), (.istore 5, 2, [5], [])]
def S_X9_makeWith_60 : List mI := [(.iload 5, 2, [5], []), (.iload_n 2, 1, [2], []), (.if_icmp .ge 30, 3, [93], []), (.aload_n 0, 1, [0], []), (.getfield 31, 3, [9, 5, 2, 60], []), (.bipush 6, 2, [], [6]), (.iload 5, 2, [5], []), (.iadd, 1, [], []), (.iconst 0, 1, [], [0]), (.aload_n 1, 1, [1], []), (.iload_n 2, 1, [2], []), (.iload 5, 2, [5], []), (.invokestatic 73, 3, [1, 116, 3, 0, 139], []), (.invokestatic 80, 3, [6, 0, 0, 0, 23], []), (.iastore, 1, [], []), (.iinc 5 1, 3, [5], [1]), (.goto (-30), 3, [60], [])]
def S_X9_makeWith_93 : List mI := [(.aload_n 0, 1, [0], []), (.getfield 31, 3, [9, 5, 2, 60], []), (.iconst 5, 1, [], [5]), (.dup2, 1, [], []), (.iaload, 1, [0], []), (.iconst 1, 1, [], [1]), (.iadd, 1, [], []), (.iastore, 1, [], [])]
theorem lb_X9_makeWith : B_X9_makeWith.all (fun b => lst y_X9_makeWith.2.1 9 y_X9_makeWith.2.2.1 false b.1 b.2) = true := by decide +kernel
theorem ls_X9_makeWith_0 : lst y_X9_makeWith.2.1 9 y_X9_makeWith.2.2.1 false 0 S_X9_makeWith_0 = true := by decide +kernel
theorem ls_X9_makeWith_10 : lst y_X9_makeWith.2.1 9 y_X9_makeWith.2.2.1 false 10 S_X9_makeWith_10 = true := by decide +kernel
theorem ls_X9_makeWith_60 : lst y_X9_makeWith.2.1 9 y_X9_makeWith.2.2.1 false 60 S_X9_makeWith_60 = true := by decide +kernel
theorem ls_X9_makeWith_93 : lst y_X9_makeWith.2.1 9 y_X9_makeWith.2.2.1 false 93 S_X9_makeWith_93 = true := by decide +kernel
def C_X9_makeWith (N : Nat) : Nat → List Value → mH → (Option Value → mH → Option (mH)) → Option (mH) := fun j as g k => kb j 121 (pr1 as fun b0 as => pp1 as fun b1 as => pe as ((f_X9_begin N b0 b1 g).bind fun p => k none p)) (kb j 124 (pr1 as fun b0 as => pp1 as fun b1 as => pe as ((f_X9_mistakesOf N b0 b1 g).bind fun p => k (some (.int p.1)) p.2)) (kb j 116 (pr1 as fun b0 as => pp1 as fun b1 as => pp1 as fun b2 as => pe as ((f_X9_kindOfWeaver N b0 b1 b2 g).bind fun p => k (some (.int p.1)) p.2)) (kb j 122 (pr1 as fun b0 as => pe as ((f_X9_goOn N b0 g).bind fun p => k (some (.int p.1)) p.2)) (none))))
theorem co_X9_makeWith (N : Nat) (q : mH) : clOK 7 q (C_X9_makeWith N) := by
  intro j as g k e
  rcases kb_s e with ⟨rfl, e⟩ | e
  · obtain ⟨b0, r0, q0, f0⟩ := pr1_s e
    obtain ⟨b1, r1, q1, f1⟩ := pp1_s f0
    obtain ⟨qe, fe⟩ := pe_s f1
    obtain ⟨p, e1, e2⟩ := bnd_s fe
    subst qe
    subst q1
    subst q0
    exact ⟨_, _, _, _, 6, rfl, (by decide), m_X9_begin N e1, e2⟩
  rcases kb_s e with ⟨rfl, e⟩ | e
  · obtain ⟨b0, r0, q0, f0⟩ := pr1_s e
    obtain ⟨b1, r1, q1, f1⟩ := pp1_s f0
    obtain ⟨qe, fe⟩ := pe_s f1
    obtain ⟨p, e1, e2⟩ := bnd_s fe
    subst qe
    subst q1
    subst q0
    exact ⟨_, _, _, _, 6, rfl, (by decide), m_X9_mistakesOf N e1, e2⟩
  rcases kb_s e with ⟨rfl, e⟩ | e
  · obtain ⟨b0, r0, q0, f0⟩ := pr1_s e
    obtain ⟨b1, r1, q1, f1⟩ := pp1_s f0
    obtain ⟨b2, r2, q2, f2⟩ := pp1_s f1
    obtain ⟨qe, fe⟩ := pe_s f2
    obtain ⟨p, e1, e2⟩ := bnd_s fe
    subst qe
    subst q2
    subst q1
    subst q0
    exact ⟨_, _, _, _, 4, rfl, (by decide), m_X9_kindOfWeaver N e1, e2⟩
  rcases kb_s e with ⟨rfl, e⟩ | e
  · obtain ⟨b0, r0, q0, f0⟩ := pr1_s e
    obtain ⟨qe, fe⟩ := pe_s f0
    obtain ⟨p, e1, e2⟩ := bnd_s fe
    subst qe
    subst q0
    exact ⟨_, _, _, _, 6, rfl, (by decide), m_X9_goOn N e1, e2⟩
  cases e
set_option maxRecDepth 100000 in
theorem t_X9_makeWith_93 {X : Nat × (Nat → Int32)} (N : Nat) {q : mH} {k10 : Nat → Nat → Int32 → Int32 → Int32 → mH → Option (mH)} (hk10 : ∀ (a0 : Nat) (a1 : Nat) (x2 : Int32) (x3 : Int32) (x4 : Int32) g, k10 a0 a1 x2 x3 x4 g = some q → MW X y_X9_makeWith 7 10 [(0, .ref a0), (1, .ref a1), (2, .int x2), (3, .int x3), (4, .int x4)] [] g none q) (a0 : Nat) (a1 : Nat) (x2 : Int32) (x4 : Int32) (h : mH) (hf : J_X9_makeWith_93 N k10 a0 a1 x2 x4 h = some q) : MW X y_X9_makeWith 7 93 [(0, .ref a0), (1, .ref a1), (2, .int x2), (4, .int x4)] [] h none q := by
  refine ev_ok (o := 9) (ini := false) (Cl := C_X9_makeWith N) (Rc := RcV) (B := B_X9_makeWith) (K := fun pc ls st g => kb pc 10 (lgr 0 ls fun a0 => lgr 1 ls fun a1 => lgi 2 ls fun x2 => lgi 3 ls fun x3 => lgi 4 ls fun x4 => pe st (k10 a0 a1 x2 x3 x4 g)) (none)) rfl (fun e => by cases e) (by decide) (rcV_ok rfl) ?_ (co_X9_makeWith N q) lb_X9_makeWith 3000 93 S_X9_makeWith_93 _ _ h ls_X9_makeWith_93 hf
  intro pc ls st g e
  rcases kb_s e with ⟨rfl, e⟩ | e
  · obtain ⟨a0, e0, f0⟩ := lgr_s e
    obtain ⟨a1, e1, f1⟩ := lgr_s f0
    obtain ⟨x2, e2, f2⟩ := lgi_s f1
    obtain ⟨x3, e3, f3⟩ := lgi_s f2
    obtain ⟨x4, e4, f4⟩ := lgi_s f3
    obtain ⟨qe, fe⟩ := pe_s f4
    subst qe
    exact MW.sub (List.forall_mem_cons.mpr ⟨lg_mem e0, List.forall_mem_cons.mpr ⟨lg_mem e1, List.forall_mem_cons.mpr ⟨lg_mem e2, List.forall_mem_cons.mpr ⟨lg_mem e3, List.forall_mem_cons.mpr ⟨lg_mem e4, fun _ h => absurd h List.not_mem_nil⟩⟩⟩⟩⟩) (hk10 a0 a1 x2 x3 x4 g fe)
  cases e
set_option maxRecDepth 100000 in
theorem t_X9_makeWith_60 {X : Nat × (Nat → Int32)} (N : Nat) {q : mH} {k10 : Nat → Nat → Int32 → Int32 → Int32 → mH → Option (mH)} (hk10 : ∀ (a0 : Nat) (a1 : Nat) (x2 : Int32) (x3 : Int32) (x4 : Int32) g, k10 a0 a1 x2 x3 x4 g = some q → MW X y_X9_makeWith 7 10 [(0, .ref a0), (1, .ref a1), (2, .int x2), (3, .int x3), (4, .int x4)] [] g none q) : ∀ (n : Nat) (a0 : Nat) (a1 : Nat) (x2 : Int32) (x4 : Int32) (x5 : Int32) (h : mH), L_X9_makeWith_60 N k10 n a0 a1 x2 x4 x5 h = some q → MW X y_X9_makeWith 7 60 [(0, .ref a0), (1, .ref a1), (2, .int x2), (4, .int x4), (5, .int x5)] [] h none q := by
  intro n
  induction n with
  | zero => intro a0 a1 x2 x4 x5 h hf; cases hf
  | succ n ih =>
    intro a0 a1 x2 x4 x5 h hf
    refine ev_ok (o := 9) (ini := false) (Cl := C_X9_makeWith N) (Rc := RcV) (B := B_X9_makeWith) (K := fun pc ls st g => kb pc 60 (lgr 0 ls fun a0 => lgr 1 ls fun a1 => lgi 2 ls fun x2 => lgi 4 ls fun x4 => lgi 5 ls fun x5 => pe st (L_X9_makeWith_60 N k10 n a0 a1 x2 x4 x5 g)) (kb pc 93 (lgr 0 ls fun a0 => lgr 1 ls fun a1 => lgi 2 ls fun x2 => lgi 4 ls fun x4 => pe st (J_X9_makeWith_93 N k10 a0 a1 x2 x4 g)) (none))) rfl (fun e => by cases e) (by decide) (rcV_ok rfl) ?_ (co_X9_makeWith N q) lb_X9_makeWith 3000 60 S_X9_makeWith_60 _ _ h ls_X9_makeWith_60 hf
    intro pc ls st g e
    rcases kb_s e with ⟨rfl, e⟩ | e
    · obtain ⟨a0, e0, f0⟩ := lgr_s e
      obtain ⟨a1, e1, f1⟩ := lgr_s f0
      obtain ⟨x2, e2, f2⟩ := lgi_s f1
      obtain ⟨x4, e3, f3⟩ := lgi_s f2
      obtain ⟨x5, e4, f4⟩ := lgi_s f3
      obtain ⟨qe, fe⟩ := pe_s f4
      subst qe
      exact MW.sub (List.forall_mem_cons.mpr ⟨lg_mem e0, List.forall_mem_cons.mpr ⟨lg_mem e1, List.forall_mem_cons.mpr ⟨lg_mem e2, List.forall_mem_cons.mpr ⟨lg_mem e3, List.forall_mem_cons.mpr ⟨lg_mem e4, fun _ h => absurd h List.not_mem_nil⟩⟩⟩⟩⟩) (ih a0 a1 x2 x4 x5 g fe)
    rcases kb_s e with ⟨rfl, e⟩ | e
    · obtain ⟨a0, e0, f0⟩ := lgr_s e
      obtain ⟨a1, e1, f1⟩ := lgr_s f0
      obtain ⟨x2, e2, f2⟩ := lgi_s f1
      obtain ⟨x4, e3, f3⟩ := lgi_s f2
      obtain ⟨qe, fe⟩ := pe_s f3
      subst qe
      exact MW.sub (List.forall_mem_cons.mpr ⟨lg_mem e0, List.forall_mem_cons.mpr ⟨lg_mem e1, List.forall_mem_cons.mpr ⟨lg_mem e2, List.forall_mem_cons.mpr ⟨lg_mem e3, fun _ h => absurd h List.not_mem_nil⟩⟩⟩⟩) (t_X9_makeWith_93 N hk10 a0 a1 x2 x4 g fe)
    cases e
set_option maxRecDepth 100000 in
theorem t_X9_makeWith_10 {X : Nat × (Nat → Int32)} (N : Nat) {q : mH} : ∀ (n : Nat) (a0 : Nat) (a1 : Nat) (x2 : Int32) (x3 : Int32) (x4 : Int32) (h : mH), L_X9_makeWith_10 N n a0 a1 x2 x3 x4 h = some q → MW X y_X9_makeWith 7 10 [(0, .ref a0), (1, .ref a1), (2, .int x2), (3, .int x3), (4, .int x4)] [] h none q := by
  intro n
  induction n with
  | zero => intro a0 a1 x2 x3 x4 h hf; cases hf
  | succ n ih =>
    intro a0 a1 x2 x3 x4 h hf
    refine ev_ok (o := 9) (ini := false) (Cl := C_X9_makeWith N) (Rc := RcV) (B := B_X9_makeWith) (K := fun pc ls st g => kb pc 10 (lgr 0 ls fun a0 => lgr 1 ls fun a1 => lgi 2 ls fun x2 => lgi 3 ls fun x3 => lgi 4 ls fun x4 => pe st (L_X9_makeWith_10 N n a0 a1 x2 x3 x4 g)) (kb pc 60 (lgr 0 ls fun a0 => lgr 1 ls fun a1 => lgi 2 ls fun x2 => lgi 4 ls fun x4 => lgi 5 ls fun x5 => pe st (L_X9_makeWith_60 N (L_X9_makeWith_10 N n) N a0 a1 x2 x4 x5 g)) (kb pc 93 (lgr 0 ls fun a0 => lgr 1 ls fun a1 => lgi 2 ls fun x2 => lgi 4 ls fun x4 => pe st (J_X9_makeWith_93 N (L_X9_makeWith_10 N n) a0 a1 x2 x4 g)) (none)))) rfl (fun e => by cases e) (by decide) (rcV_ok rfl) ?_ (co_X9_makeWith N q) lb_X9_makeWith 3000 10 S_X9_makeWith_10 _ _ h ls_X9_makeWith_10 hf
    intro pc ls st g e
    rcases kb_s e with ⟨rfl, e⟩ | e
    · obtain ⟨a0, e0, f0⟩ := lgr_s e
      obtain ⟨a1, e1, f1⟩ := lgr_s f0
      obtain ⟨x2, e2, f2⟩ := lgi_s f1
      obtain ⟨x3, e3, f3⟩ := lgi_s f2
      obtain ⟨x4, e4, f4⟩ := lgi_s f3
      obtain ⟨qe, fe⟩ := pe_s f4
      subst qe
      exact MW.sub (List.forall_mem_cons.mpr ⟨lg_mem e0, List.forall_mem_cons.mpr ⟨lg_mem e1, List.forall_mem_cons.mpr ⟨lg_mem e2, List.forall_mem_cons.mpr ⟨lg_mem e3, List.forall_mem_cons.mpr ⟨lg_mem e4, fun _ h => absurd h List.not_mem_nil⟩⟩⟩⟩⟩) (ih a0 a1 x2 x3 x4 g fe)
    rcases kb_s e with ⟨rfl, e⟩ | e
    · obtain ⟨a0, e0, f0⟩ := lgr_s e
      obtain ⟨a1, e1, f1⟩ := lgr_s f0
      obtain ⟨x2, e2, f2⟩ := lgi_s f1
      obtain ⟨x4, e3, f3⟩ := lgi_s f2
      obtain ⟨x5, e4, f4⟩ := lgi_s f3
      obtain ⟨qe, fe⟩ := pe_s f4
      subst qe
      exact MW.sub (List.forall_mem_cons.mpr ⟨lg_mem e0, List.forall_mem_cons.mpr ⟨lg_mem e1, List.forall_mem_cons.mpr ⟨lg_mem e2, List.forall_mem_cons.mpr ⟨lg_mem e3, List.forall_mem_cons.mpr ⟨lg_mem e4, fun _ h => absurd h List.not_mem_nil⟩⟩⟩⟩⟩) (t_X9_makeWith_60 N (fun a0 a1 x2 x3 x4 g e => ih a0 a1 x2 x3 x4 g e) N a0 a1 x2 x4 x5 g fe)
    rcases kb_s e with ⟨rfl, e⟩ | e
    · obtain ⟨a0, e0, f0⟩ := lgr_s e
      obtain ⟨a1, e1, f1⟩ := lgr_s f0
      obtain ⟨x2, e2, f2⟩ := lgi_s f1
      obtain ⟨x4, e3, f3⟩ := lgi_s f2
      obtain ⟨qe, fe⟩ := pe_s f3
      subst qe
      exact MW.sub (List.forall_mem_cons.mpr ⟨lg_mem e0, List.forall_mem_cons.mpr ⟨lg_mem e1, List.forall_mem_cons.mpr ⟨lg_mem e2, List.forall_mem_cons.mpr ⟨lg_mem e3, fun _ h => absurd h List.not_mem_nil⟩⟩⟩⟩) (t_X9_makeWith_93 N (fun a0 a1 x2 x3 x4 g e => ih a0 a1 x2 x3 x4 g e) a0 a1 x2 x4 g fe)
    cases e
set_option maxRecDepth 100000 in
theorem m_X9_makeWith (N : Nat) {a0 : Nat} {a1 : Nat} {x2 : Int32} {h : mH} {q : mH} (hf : f_X9_makeWith N a0 a1 x2 h = some q) : MM y_X9_makeWith 7 [.ref a0, .ref a1, .int x2] h none q := by
  refine MM.of (mFx (j := 117) rfl).2.2.2.1 (Nat.le_of_ble_eq_true rfl) (fun X => ?_)
  refine ev_ok (o := 9) (ini := false) (Cl := C_X9_makeWith N) (Rc := RcV) (B := B_X9_makeWith) (K := fun pc ls st g => kb pc 10 (lgr 0 ls fun a0 => lgr 1 ls fun a1 => lgi 2 ls fun x2 => lgi 3 ls fun x3 => lgi 4 ls fun x4 => pe st (L_X9_makeWith_10 N N a0 a1 x2 x3 x4 g)) (none)) rfl (fun e => by cases e) (by decide) (rcV_ok rfl) ?_ (co_X9_makeWith N q) lb_X9_makeWith 3000 0 S_X9_makeWith_0 _ _ h ls_X9_makeWith_0 hf
  intro pc ls st g e
  rcases kb_s e with ⟨rfl, e⟩ | e
  · obtain ⟨a0, e0, f0⟩ := lgr_s e
    obtain ⟨a1, e1, f1⟩ := lgr_s f0
    obtain ⟨x2, e2, f2⟩ := lgi_s f1
    obtain ⟨x3, e3, f3⟩ := lgi_s f2
    obtain ⟨x4, e4, f4⟩ := lgi_s f3
    obtain ⟨qe, fe⟩ := pe_s f4
    subst qe
    exact MW.sub (List.forall_mem_cons.mpr ⟨lg_mem e0, List.forall_mem_cons.mpr ⟨lg_mem e1, List.forall_mem_cons.mpr ⟨lg_mem e2, List.forall_mem_cons.mpr ⟨lg_mem e3, List.forall_mem_cons.mpr ⟨lg_mem e4, fun _ h => absurd h List.not_mem_nil⟩⟩⟩⟩⟩) (t_X9_makeWith_10 N N a0 a1 x2 x3 x4 g fe)
  cases e
def L_X9_makeKnown_96 (N : Nat) : Nat → Nat → Nat → Int32 → mH → Option (mH)
  | 0, _, _, _, _ => none
  | n + 1, a0, a1, x3, h =>
    if (jI 4) < x3 then
      some h
    else
      (gI h 9 a0 10).bind fun v1 =>
      if x3 = 0 then none else
      if (iRem v1 x3) = 0 then
        (f_X9_kindsAgree N a1 x3 h).bind fun p2 =>
        if p2.1 = 0 then
          let w3 := iAdd x3 (jI 1)
          L_X9_makeKnown_96 N n a0 a1 w3 p2.2
        else
          (rcv p2.2 9 a0).bind fun _ =>
          (f_X9_makeWith N a0 a1 x3 p2.2).bind fun h4 =>
          let w5 := iAdd x3 (jI 1)
          L_X9_makeKnown_96 N n a0 a1 w5 h4
      else
        let w6 := iAdd x3 (jI 1)
        L_X9_makeKnown_96 N n a0 a1 w6 h
def L_X9_makeKnown_43 (N : Nat) : Nat → Nat → Nat → Int32 → Int32 → mH → Option (mH)
  | 0, _, _, _, _, _ => none
  | n + 1, a0, a1, x2, x3, h =>
    (gI h 9 a0 10).bind fun v1 =>
    if x3 < v1 then
      if x3 < (jI 8) then
        (gR h 9 a0 2).bind fun v2 =>
        (gR h 6 a1 1).bind fun v3 =>
        (ldI 0 h v3 x3).bind fun v4 =>
        (stI 0 h v2 x3 v4).bind fun h5 =>
        (gR h5 9 a0 3).bind fun v6 =>
        (f_X11_maskOf N x2 h5).bind fun p7 =>
        (gR p7.2 6 a1 1).bind fun v8 =>
        (ldI 0 p7.2 v8 x3).bind fun v9 =>
        (stI 0 p7.2 v6 x3 (iAnd p7.1 (iXor v9 (jI (-1))))).bind fun h10 =>
        let w11 := iAdd x3 (jI 1)
        L_X9_makeKnown_43 N n a0 a1 x2 w11 h10
      else
        L_X9_makeKnown_96 N N a0 a1 (jI 1) h
    else
      L_X9_makeKnown_96 N N a0 a1 (jI 1) h
def f_X9_makeKnown (N : Nat) (a0 : Nat) (a1 : Nat) (x2 : Int32) (h : mH) : Option (mH) :=
  (gI h 9 a0 7).bind fun v1 =>
  if v1 = 0 then
    (pV h 9 a0 7 (.int (jI 1))).bind fun h2 =>
    (gR h2 9 a0 5).bind fun v3 =>
    (f_J7_fill_53178 N v3 (jI (-1)) h2).bind fun h4 =>
    (gR h4 9 a0 5).bind fun v5 =>
    (stI 0 h4 v5 (jI 5) (jI 0)).bind fun h6 =>
    (pV h6 9 a0 9 (.int x2)).bind fun h7 =>
    (gI h7 6 a1 0).bind fun v8 =>
    (pV h7 9 a0 10 (.int v8)).bind fun h9 =>
    L_X9_makeKnown_43 N N a0 a1 x2 (jI 0) h9
  else
    some h
def y_X9_makeKnown : mM := (yX9_makeKnown, cX9_makeKnown, 4, none)
def B_X9_makeKnown : List (Nat × List mI) := [(8, [(.aload_n 0, 1, [0], []), (.iconst 1, 1, [], [1]), (.putfield 37, 3, [9, 7, 3, 62], []), (.aload_n 0, 1, [0], []), (.getfield 31, 3, [9, 5, 2, 60], []), (.iconst (-1), 1, [], [-1]), (.invokestatic 44, 3, [1, 350, 2, 0, 137], []), (.aload_n 0, 1, [0], []), (.getfield 31, 3, [9, 5, 2, 60], []), (.iconst 5, 1, [], [5]), (.iconst 0, 1, [], [0]), (.iastore, 1, [], []), (.aload_n 0, 1, [0], []), (.iload_n 2, 1, [2], []), (.putfield 50, 3, [9, 9, 0, 64], []), (.aload_n 0, 1, [0], []), (.aload_n 1, 1, [1], []), (.getfield 54, 3, [6, 0, 0, 47], []), (.putfield 57, 3, [9, 10, 0, 65], []), (.iconst 0, 1, [], [0]), (.istore_n 3, 1, [3], [])]), (94, [(.iconst 1, 1, [], [1]), (.istore_n 3, 1, [3], [])]), (124, [(.iinc 3 1, 3, [3], [1]), (.goto (-31), 3, [96], [])]), (130, [(.return_, 1, [], [])])]
def S_X9_makeKnown_0 : List mI := [(.aload_n 0, 1, [0], []), (.getfield 37, 3, [9, 7, 0, 62], []), (.ifCond .eq 4, 3, [8], []), (.return_, 1, [], [])]
def S_X9_makeKnown_43 : List mI := [(.iload_n 3, 1, [3], []), (.aload_n 0, 1, [0], []), (.getfield 57, 3, [9, 10, 0, 65], []), (.if_icmp .ge 46, 3, [94], []), (.iload_n 3, 1, [3], []), (.bipush 8, 2, [], [8]), (.if_icmp .ge 40, 3, [94], []), (.aload_n 0, 1, [0], []), (.getfield 20, 3, [9, 2, 2, 57], []), (.iload_n 3, 1, [3], []), (.aload_n 1, 1, [1], []), (.getfield 58, 3, [6, 1, 2, 50], []), (.iload_n 3, 1, [3], []), (.iaload, 1, [0], []), (.iastore, 1, [], []), (.aload_n 0, 1, [0], []), (.getfield 23, 3, [9, 3, 2, 58], []), (.iload_n 3, 1, [3], []), (.iload_n 2, 1, [2], []), (.invokestatic 61, 3, [3, 221, 1, 0, 10], []), (.aload_n 1, 1, [1], []), (.getfield 58, 3, [6, 1, 2, 50], []), (.iload_n 3, 1, [3], []), (.iaload, 1, [0], []), (.iconst (-1), 1, [], [-1]), (.ixor, 1, [], []), (.iand, 1, [], []), (.iastore, 1, [], []), (.iinc 3 1, 3, [3], [1]), (.goto (-48), 3, [43], [])]
def S_X9_makeKnown_96 : List mI := [(.iload_n 3, 1, [3], []), (.iconst 4, 1, [], [4]), (.if_icmp .gt 32, 3, [130], []), (.aload_n 0, 1, [0], []), (.getfield 57, 3, [9, 10, 0, 65], []), (.iload_n 3, 1, [3], []), (.irem, 1, [], []), (.ifCond .ne 17, 3, [124], []), (.aload_n 1, 1, [1], []), (.iload_n 3, 1, [3], []), (.invokestatic 65, 3, [1, 115, 2, 0, 138], []), (.ifCond .eq 9, 3, [124], []), (.aload_n 0, 1, [0], []), (.aload_n 1, 1, [1], []), (.iload_n 3, 1, [3], []), (.invokevirtual 69, 3, [0, 117, 2, 9, 140], [])]
theorem lb_X9_makeKnown : B_X9_makeKnown.all (fun b => lst y_X9_makeKnown.2.1 9 y_X9_makeKnown.2.2.1 false b.1 b.2) = true := by decide +kernel
theorem ls_X9_makeKnown_0 : lst y_X9_makeKnown.2.1 9 y_X9_makeKnown.2.2.1 false 0 S_X9_makeKnown_0 = true := by decide +kernel
theorem ls_X9_makeKnown_43 : lst y_X9_makeKnown.2.1 9 y_X9_makeKnown.2.2.1 false 43 S_X9_makeKnown_43 = true := by decide +kernel
theorem ls_X9_makeKnown_96 : lst y_X9_makeKnown.2.1 9 y_X9_makeKnown.2.2.1 false 96 S_X9_makeKnown_96 = true := by decide +kernel
def C_X9_makeKnown (N : Nat) : Nat → List Value → mH → (Option Value → mH → Option (mH)) → Option (mH) := fun j as g k => kb j 350 (pr1 as fun b0 as => pp1 as fun b1 as => pe as ((f_J7_fill_53178 N b0 b1 g).bind fun p => k none p)) (kb j 221 (pp1 as fun b0 as => pe as ((f_X11_maskOf N b0 g).bind fun p => k (some (.int p.1)) p.2)) (kb j 115 (pr1 as fun b0 as => pp1 as fun b1 as => pe as ((f_X9_kindsAgree N b0 b1 g).bind fun p => k (some (.int p.1)) p.2)) (kb j 117 (pr1 as fun b0 as => pr1 as fun b1 as => pp1 as fun b2 as => pe as ((f_X9_makeWith N b0 b1 b2 g).bind fun p => k none p)) (none))))
theorem co_X9_makeKnown (N : Nat) (q : mH) : clOK 8 q (C_X9_makeKnown N) := by
  intro j as g k e
  rcases kb_s e with ⟨rfl, e⟩ | e
  · obtain ⟨b0, r0, q0, f0⟩ := pr1_s e
    obtain ⟨b1, r1, q1, f1⟩ := pp1_s f0
    obtain ⟨qe, fe⟩ := pe_s f1
    obtain ⟨p, e1, e2⟩ := bnd_s fe
    subst qe
    subst q1
    subst q0
    exact ⟨_, _, _, _, 4, rfl, (by decide), m_J7_fill_53178 N e1, e2⟩
  rcases kb_s e with ⟨rfl, e⟩ | e
  · obtain ⟨b0, r0, q0, f0⟩ := pp1_s e
    obtain ⟨qe, fe⟩ := pe_s f0
    obtain ⟨p, e1, e2⟩ := bnd_s fe
    subst qe
    subst q0
    exact ⟨_, _, _, _, 4, rfl, (by decide), m_X11_maskOf N e1, e2⟩
  rcases kb_s e with ⟨rfl, e⟩ | e
  · obtain ⟨b0, r0, q0, f0⟩ := pr1_s e
    obtain ⟨b1, r1, q1, f1⟩ := pp1_s f0
    obtain ⟨qe, fe⟩ := pe_s f1
    obtain ⟨p, e1, e2⟩ := bnd_s fe
    subst qe
    subst q1
    subst q0
    exact ⟨_, _, _, _, 5, rfl, (by decide), m_X9_kindsAgree N e1, e2⟩
  rcases kb_s e with ⟨rfl, e⟩ | e
  · obtain ⟨b0, r0, q0, f0⟩ := pr1_s e
    obtain ⟨b1, r1, q1, f1⟩ := pr1_s f0
    obtain ⟨b2, r2, q2, f2⟩ := pp1_s f1
    obtain ⟨qe, fe⟩ := pe_s f2
    obtain ⟨p, e1, e2⟩ := bnd_s fe
    subst qe
    subst q2
    subst q1
    subst q0
    exact ⟨_, _, _, _, 7, rfl, (by decide), m_X9_makeWith N e1, e2⟩
  cases e
set_option maxRecDepth 100000 in
theorem t_X9_makeKnown_96 {X : Nat × (Nat → Int32)} (N : Nat) {q : mH} : ∀ (n : Nat) (a0 : Nat) (a1 : Nat) (x3 : Int32) (h : mH), L_X9_makeKnown_96 N n a0 a1 x3 h = some q → MW X y_X9_makeKnown 8 96 [(0, .ref a0), (1, .ref a1), (3, .int x3)] [] h none q := by
  intro n
  induction n with
  | zero => intro a0 a1 x3 h hf; cases hf
  | succ n ih =>
    intro a0 a1 x3 h hf
    refine ev_ok (o := 9) (ini := false) (Cl := C_X9_makeKnown N) (Rc := RcV) (B := B_X9_makeKnown) (K := fun pc ls st g => kb pc 96 (lgr 0 ls fun a0 => lgr 1 ls fun a1 => lgi 3 ls fun x3 => pe st (L_X9_makeKnown_96 N n a0 a1 x3 g)) (none)) rfl (fun e => by cases e) (by decide) (rcV_ok rfl) ?_ (co_X9_makeKnown N q) lb_X9_makeKnown 3000 96 S_X9_makeKnown_96 _ _ h ls_X9_makeKnown_96 hf
    intro pc ls st g e
    rcases kb_s e with ⟨rfl, e⟩ | e
    · obtain ⟨a0, e0, f0⟩ := lgr_s e
      obtain ⟨a1, e1, f1⟩ := lgr_s f0
      obtain ⟨x3, e2, f2⟩ := lgi_s f1
      obtain ⟨qe, fe⟩ := pe_s f2
      subst qe
      exact MW.sub (List.forall_mem_cons.mpr ⟨lg_mem e0, List.forall_mem_cons.mpr ⟨lg_mem e1, List.forall_mem_cons.mpr ⟨lg_mem e2, fun _ h => absurd h List.not_mem_nil⟩⟩⟩) (ih a0 a1 x3 g fe)
    cases e
set_option maxRecDepth 100000 in
theorem t_X9_makeKnown_43 {X : Nat × (Nat → Int32)} (N : Nat) {q : mH} : ∀ (n : Nat) (a0 : Nat) (a1 : Nat) (x2 : Int32) (x3 : Int32) (h : mH), L_X9_makeKnown_43 N n a0 a1 x2 x3 h = some q → MW X y_X9_makeKnown 8 43 [(0, .ref a0), (1, .ref a1), (2, .int x2), (3, .int x3)] [] h none q := by
  intro n
  induction n with
  | zero => intro a0 a1 x2 x3 h hf; cases hf
  | succ n ih =>
    intro a0 a1 x2 x3 h hf
    refine ev_ok (o := 9) (ini := false) (Cl := C_X9_makeKnown N) (Rc := RcV) (B := B_X9_makeKnown) (K := fun pc ls st g => kb pc 43 (lgr 0 ls fun a0 => lgr 1 ls fun a1 => lgi 2 ls fun x2 => lgi 3 ls fun x3 => pe st (L_X9_makeKnown_43 N n a0 a1 x2 x3 g)) (kb pc 96 (lgr 0 ls fun a0 => lgr 1 ls fun a1 => lgi 3 ls fun x3 => pe st (L_X9_makeKnown_96 N N a0 a1 x3 g)) (none))) rfl (fun e => by cases e) (by decide) (rcV_ok rfl) ?_ (co_X9_makeKnown N q) lb_X9_makeKnown 3000 43 S_X9_makeKnown_43 _ _ h ls_X9_makeKnown_43 hf
    intro pc ls st g e
    rcases kb_s e with ⟨rfl, e⟩ | e
    · obtain ⟨a0, e0, f0⟩ := lgr_s e
      obtain ⟨a1, e1, f1⟩ := lgr_s f0
      obtain ⟨x2, e2, f2⟩ := lgi_s f1
      obtain ⟨x3, e3, f3⟩ := lgi_s f2
      obtain ⟨qe, fe⟩ := pe_s f3
      subst qe
      exact MW.sub (List.forall_mem_cons.mpr ⟨lg_mem e0, List.forall_mem_cons.mpr ⟨lg_mem e1, List.forall_mem_cons.mpr ⟨lg_mem e2, List.forall_mem_cons.mpr ⟨lg_mem e3, fun _ h => absurd h List.not_mem_nil⟩⟩⟩⟩) (ih a0 a1 x2 x3 g fe)
    rcases kb_s e with ⟨rfl, e⟩ | e
    · obtain ⟨a0, e0, f0⟩ := lgr_s e
      obtain ⟨a1, e1, f1⟩ := lgr_s f0
      obtain ⟨x3, e2, f2⟩ := lgi_s f1
      obtain ⟨qe, fe⟩ := pe_s f2
      subst qe
      exact MW.sub (List.forall_mem_cons.mpr ⟨lg_mem e0, List.forall_mem_cons.mpr ⟨lg_mem e1, List.forall_mem_cons.mpr ⟨lg_mem e2, fun _ h => absurd h List.not_mem_nil⟩⟩⟩) (t_X9_makeKnown_96 N N a0 a1 x3 g fe)
    cases e
set_option maxRecDepth 100000 in
theorem m_X9_makeKnown (N : Nat) {a0 : Nat} {a1 : Nat} {x2 : Int32} {h : mH} {q : mH} (hf : f_X9_makeKnown N a0 a1 x2 h = some q) : MM y_X9_makeKnown 8 [.ref a0, .ref a1, .int x2] h none q := by
  refine MM.of (mFx (j := 114) rfl).2.2.2.1 (Nat.le_of_ble_eq_true rfl) (fun X => ?_)
  refine ev_ok (o := 9) (ini := false) (Cl := C_X9_makeKnown N) (Rc := RcV) (B := B_X9_makeKnown) (K := fun pc ls st g => kb pc 43 (lgr 0 ls fun a0 => lgr 1 ls fun a1 => lgi 2 ls fun x2 => lgi 3 ls fun x3 => pe st (L_X9_makeKnown_43 N N a0 a1 x2 x3 g)) (none)) rfl (fun e => by cases e) (by decide) (rcV_ok rfl) ?_ (co_X9_makeKnown N q) lb_X9_makeKnown 3000 0 S_X9_makeKnown_0 _ _ h ls_X9_makeKnown_0 hf
  intro pc ls st g e
  rcases kb_s e with ⟨rfl, e⟩ | e
  · obtain ⟨a0, e0, f0⟩ := lgr_s e
    obtain ⟨a1, e1, f1⟩ := lgr_s f0
    obtain ⟨x2, e2, f2⟩ := lgi_s f1
    obtain ⟨x3, e3, f3⟩ := lgi_s f2
    obtain ⟨qe, fe⟩ := pe_s f3
    subst qe
    exact MW.sub (List.forall_mem_cons.mpr ⟨lg_mem e0, List.forall_mem_cons.mpr ⟨lg_mem e1, List.forall_mem_cons.mpr ⟨lg_mem e2, List.forall_mem_cons.mpr ⟨lg_mem e3, fun _ h => absurd h List.not_mem_nil⟩⟩⟩⟩) (t_X9_makeKnown_43 N N a0 a1 x2 x3 g fe)
  cases e
def J_X9_readWith_77 (N : Nat) (k10 : Nat → Int32 → Int32 → Int32 → mH → Option (mH)) (a0 : Nat) (x2 : Int32) (x4 : Int32) (x5 : Int32) (h : mH) : Option (mH) :=
  if x5 = 0 then
    (gR h 9 a0 6).bind fun v1 =>
    (ldI 0 h v1 (iAdd x2 (jI 6))).bind fun v2 =>
    (stI 0 h v1 (iAdd x2 (jI 6)) (iAdd v2 (jI 1))).bind fun h3 =>
    (gR h3 9 a0 6).bind fun v4 =>
    (ldI 0 h3 v4 (iAdd x2 (jI 7))).bind fun v5 =>
    (gR h3 9 a0 4).bind fun v6 =>
    (ldI 0 h3 v6 (jI 4)).bind fun v7 =>
    (stI 0 h3 v4 (iAdd x2 (jI 7)) (iAdd v5 v7)).bind fun h8 =>
    (rcv h8 9 a0).bind fun _ =>
    (f_X9_goOn N a0 h8).bind fun p9 =>
    let w10 := iAdd x4 (jI 1)
    k10 a0 x2 p9.1 w10 p9.2
  else
    (rcv h 9 a0).bind fun _ =>
    (f_X9_goOn N a0 h).bind fun p11 =>
    let w12 := iAdd x4 (jI 1)
    k10 a0 x2 p11.1 w12 p11.2
def L_X9_readWith_10 (N : Nat) : Nat → Nat → Int32 → Int32 → Int32 → mH → Option (mH)
  | 0, _, _, _, _, _ => none
  | n + 1, a0, x2, x3, x4, h =>
    if x4 < (jI 1024) then
      if x3 = 0 then
        some h
      else
        (gR h 9 a0 6).bind fun v1 =>
        (ldI 0 h v1 (iAdd x2 (jI 5))).bind fun v2 =>
        (rcv h 9 a0).bind fun _ =>
        (f_X9_mistakesOf N a0 v2 h).bind fun p3 =>
        (gR p3.2 9 a0 6).bind fun v4 =>
        (ldI 0 p3.2 v4 (iAdd x2 (jI 5))).bind fun v5 =>
        if p3.1 < v5 then
          (gR p3.2 9 a0 4).bind fun v6 =>
          (gR p3.2 9 a0 6).bind fun v7 =>
          (gR p3.2 9 a0 4).bind fun v8 =>
          (lnA p3.2 v8).bind fun v9 =>
          (cpI p3.2 v6 (jI 0) v7 x2 v9).bind fun h10 =>
          (gR h10 9 a0 6).bind fun v11 =>
          (stI 0 h10 v11 (iAdd x2 (jI 5)) p3.1).bind fun h12 =>
          J_X9_readWith_77 N (L_X9_readWith_10 N n) a0 x2 x4 p3.1 h12
        else
          J_X9_readWith_77 N (L_X9_readWith_10 N n) a0 x2 x4 p3.1 p3.2
    else
      some h
def f_X9_readWith (N : Nat) (a0 : Nat) (x1 : Int32) (x2 : Int32) (h : mH) : Option (mH) :=
  (rcv h 9 a0).bind fun _ =>
  (f_X9_begin N a0 x1 h).bind fun h1 =>
  L_X9_readWith_10 N N a0 x2 (jI 1) (jI 0) h1
def y_X9_readWith : mM := (yX9_readWith, cX9_readWith, 6, none)
def B_X9_readWith : List (Nat × List mI) := [(113, [(.aload_n 0, 1, [0], []), (.invokevirtual 99, 3, [0, 122, 0, 9, 145], []), (.istore_n 3, 1, [3], []), (.iinc 4 1, 3, [4], [1]), (.goto (-111), 3, [10], [])]), (124, [(.return_, 1, [], [])])]
def S_X9_readWith_0 : List mI := [(.aload_n 0, 1, [0], []), (.iload_n 1, 1, [1], []), (.invokevirtual 86, 3, [0, 121, 1, 9, 141], []), (.iconst 1, 1, [], [1]), (.istore_n 3, 1, [3], []), (.iconst 0, 1, [], [0]), (.istore 4, 2, [4], [])]
def S_X9_readWith_10 : List mI := [(.iload 4, 2, [4], []), (.sipush 1024, 3, [], [1024]), (.if_icmp .ge 109, 3, [124], []), (.iload_n 3, 1, [3], []), (.ifCond .eq 105, 3, [124], []), (.aload_n 0, 1, [0], []), (.aload_n 0, 1, [0], []), (.getfield 34, 3, [9, 6, 2, 61], []), (.iload_n 2, 1, [2], []), (.iconst 5, 1, [], [5]), (.iadd, 1, [], []), (.iaload, 1, [0], []), (.invokevirtual 90, 3, [0, 124, 1, 9, 143], []), (.istore 5, 2, [5], []), (.iload 5, 2, [5], []), (.aload_n 0, 1, [0], []), (.getfield 34, 3, [9, 6, 2, 61], []), (.iload_n 2, 1, [2], []), (.iconst 5, 1, [], [5]), (.iadd, 1, [], []), (.iaload, 1, [0], []), (.if_icmp .ge 31, 3, [77], []), (.aload_n 0, 1, [0], []), (.getfield 26, 3, [9, 4, 2, 59], []), (.iconst 0, 1, [], [0]), (.aload_n 0, 1, [0], []), (.getfield 34, 3, [9, 6, 2, 61], []), (.iload_n 2, 1, [2], []), (.aload_n 0, 1, [0], []), (.getfield 26, 3, [9, 4, 2, 59], []), (.arraylength, 1, [0], []), (.invokestatic 93, 3, [10, 0, 0, 0, 24], []), (.aload_n 0, 1, [0], []), (.getfield 34, 3, [9, 6, 2, 61], []), (.iload_n 2, 1, [2], []), (.iconst 5, 1, [], [5]), (.iadd, 1, [], []), (.iload 5, 2, [5], []), (.iastore, 1, [], [])]
def S_X9_readWith_77 : List mI := [(.iload 5, 2, [5], []), (.ifCond .ne 34, 3, [113], []), (.aload_n 0, 1, [0], []), (.getfield 34, 3, [9, 6, 2, 61], []), (.iload_n 2, 1, [2], []), (.bipush 6, 2, [], [6]), (.iadd, 1, [], []), (.dup2, 1, [], []), (.iaload, 1, [0], []), (.iconst 1, 1, [], [1]), (.iadd, 1, [], []), (.iastore, 1, [], []), (.aload_n 0, 1, [0], []), (.getfield 34, 3, [9, 6, 2, 61], []), (.iload_n 2, 1, [2], []), (.bipush 7, 2, [], [7]), (.iadd, 1, [], []), (.dup2, 1, [], []), (.iaload, 1, [0], []), (.aload_n 0, 1, [0], []), (.getfield 26, 3, [9, 4, 2, 59], []), (.iconst 4, 1, [], [4]), (.iaload, 1, [0], []), (.iadd, 1, [], []), (.iastore, 1, [], [])]
theorem lb_X9_readWith : B_X9_readWith.all (fun b => lst y_X9_readWith.2.1 9 y_X9_readWith.2.2.1 false b.1 b.2) = true := by decide +kernel
theorem ls_X9_readWith_0 : lst y_X9_readWith.2.1 9 y_X9_readWith.2.2.1 false 0 S_X9_readWith_0 = true := by decide +kernel
theorem ls_X9_readWith_10 : lst y_X9_readWith.2.1 9 y_X9_readWith.2.2.1 false 10 S_X9_readWith_10 = true := by decide +kernel
theorem ls_X9_readWith_77 : lst y_X9_readWith.2.1 9 y_X9_readWith.2.2.1 false 77 S_X9_readWith_77 = true := by decide +kernel
def C_X9_readWith (N : Nat) : Nat → List Value → mH → (Option Value → mH → Option (mH)) → Option (mH) := fun j as g k => kb j 121 (pr1 as fun b0 as => pp1 as fun b1 as => pe as ((f_X9_begin N b0 b1 g).bind fun p => k none p)) (kb j 124 (pr1 as fun b0 as => pp1 as fun b1 as => pe as ((f_X9_mistakesOf N b0 b1 g).bind fun p => k (some (.int p.1)) p.2)) (kb j 122 (pr1 as fun b0 as => pe as ((f_X9_goOn N b0 g).bind fun p => k (some (.int p.1)) p.2)) (none)))
theorem co_X9_readWith (N : Nat) (q : mH) : clOK 7 q (C_X9_readWith N) := by
  intro j as g k e
  rcases kb_s e with ⟨rfl, e⟩ | e
  · obtain ⟨b0, r0, q0, f0⟩ := pr1_s e
    obtain ⟨b1, r1, q1, f1⟩ := pp1_s f0
    obtain ⟨qe, fe⟩ := pe_s f1
    obtain ⟨p, e1, e2⟩ := bnd_s fe
    subst qe
    subst q1
    subst q0
    exact ⟨_, _, _, _, 6, rfl, (by decide), m_X9_begin N e1, e2⟩
  rcases kb_s e with ⟨rfl, e⟩ | e
  · obtain ⟨b0, r0, q0, f0⟩ := pr1_s e
    obtain ⟨b1, r1, q1, f1⟩ := pp1_s f0
    obtain ⟨qe, fe⟩ := pe_s f1
    obtain ⟨p, e1, e2⟩ := bnd_s fe
    subst qe
    subst q1
    subst q0
    exact ⟨_, _, _, _, 6, rfl, (by decide), m_X9_mistakesOf N e1, e2⟩
  rcases kb_s e with ⟨rfl, e⟩ | e
  · obtain ⟨b0, r0, q0, f0⟩ := pr1_s e
    obtain ⟨qe, fe⟩ := pe_s f0
    obtain ⟨p, e1, e2⟩ := bnd_s fe
    subst qe
    subst q0
    exact ⟨_, _, _, _, 6, rfl, (by decide), m_X9_goOn N e1, e2⟩
  cases e
set_option maxRecDepth 100000 in
theorem t_X9_readWith_77 {X : Nat × (Nat → Int32)} (N : Nat) {q : mH} {k10 : Nat → Int32 → Int32 → Int32 → mH → Option (mH)} (hk10 : ∀ (a0 : Nat) (x2 : Int32) (x3 : Int32) (x4 : Int32) g, k10 a0 x2 x3 x4 g = some q → MW X y_X9_readWith 7 10 [(0, .ref a0), (2, .int x2), (3, .int x3), (4, .int x4)] [] g none q) (a0 : Nat) (x2 : Int32) (x4 : Int32) (x5 : Int32) (h : mH) (hf : J_X9_readWith_77 N k10 a0 x2 x4 x5 h = some q) : MW X y_X9_readWith 7 77 [(0, .ref a0), (2, .int x2), (4, .int x4), (5, .int x5)] [] h none q := by
  refine ev_ok (o := 9) (ini := false) (Cl := C_X9_readWith N) (Rc := RcV) (B := B_X9_readWith) (K := fun pc ls st g => kb pc 10 (lgr 0 ls fun a0 => lgi 2 ls fun x2 => lgi 3 ls fun x3 => lgi 4 ls fun x4 => pe st (k10 a0 x2 x3 x4 g)) (none)) rfl (fun e => by cases e) (by decide) (rcV_ok rfl) ?_ (co_X9_readWith N q) lb_X9_readWith 3000 77 S_X9_readWith_77 _ _ h ls_X9_readWith_77 hf
  intro pc ls st g e
  rcases kb_s e with ⟨rfl, e⟩ | e
  · obtain ⟨a0, e0, f0⟩ := lgr_s e
    obtain ⟨x2, e1, f1⟩ := lgi_s f0
    obtain ⟨x3, e2, f2⟩ := lgi_s f1
    obtain ⟨x4, e3, f3⟩ := lgi_s f2
    obtain ⟨qe, fe⟩ := pe_s f3
    subst qe
    exact MW.sub (List.forall_mem_cons.mpr ⟨lg_mem e0, List.forall_mem_cons.mpr ⟨lg_mem e1, List.forall_mem_cons.mpr ⟨lg_mem e2, List.forall_mem_cons.mpr ⟨lg_mem e3, fun _ h => absurd h List.not_mem_nil⟩⟩⟩⟩) (hk10 a0 x2 x3 x4 g fe)
  cases e
set_option maxRecDepth 100000 in
theorem t_X9_readWith_10 {X : Nat × (Nat → Int32)} (N : Nat) {q : mH} : ∀ (n : Nat) (a0 : Nat) (x2 : Int32) (x3 : Int32) (x4 : Int32) (h : mH), L_X9_readWith_10 N n a0 x2 x3 x4 h = some q → MW X y_X9_readWith 7 10 [(0, .ref a0), (2, .int x2), (3, .int x3), (4, .int x4)] [] h none q := by
  intro n
  induction n with
  | zero => intro a0 x2 x3 x4 h hf; cases hf
  | succ n ih =>
    intro a0 x2 x3 x4 h hf
    refine ev_ok (o := 9) (ini := false) (Cl := C_X9_readWith N) (Rc := RcV) (B := B_X9_readWith) (K := fun pc ls st g => kb pc 77 (lgr 0 ls fun a0 => lgi 2 ls fun x2 => lgi 4 ls fun x4 => lgi 5 ls fun x5 => pe st (J_X9_readWith_77 N (L_X9_readWith_10 N n) a0 x2 x4 x5 g)) (none)) rfl (fun e => by cases e) (by decide) (rcV_ok rfl) ?_ (co_X9_readWith N q) lb_X9_readWith 3000 10 S_X9_readWith_10 _ _ h ls_X9_readWith_10 hf
    intro pc ls st g e
    rcases kb_s e with ⟨rfl, e⟩ | e
    · obtain ⟨a0, e0, f0⟩ := lgr_s e
      obtain ⟨x2, e1, f1⟩ := lgi_s f0
      obtain ⟨x4, e2, f2⟩ := lgi_s f1
      obtain ⟨x5, e3, f3⟩ := lgi_s f2
      obtain ⟨qe, fe⟩ := pe_s f3
      subst qe
      exact MW.sub (List.forall_mem_cons.mpr ⟨lg_mem e0, List.forall_mem_cons.mpr ⟨lg_mem e1, List.forall_mem_cons.mpr ⟨lg_mem e2, List.forall_mem_cons.mpr ⟨lg_mem e3, fun _ h => absurd h List.not_mem_nil⟩⟩⟩⟩) (t_X9_readWith_77 N (fun a0 x2 x3 x4 g e => ih a0 x2 x3 x4 g e) a0 x2 x4 x5 g fe)
    cases e
set_option maxRecDepth 100000 in
theorem m_X9_readWith (N : Nat) {a0 : Nat} {x1 : Int32} {x2 : Int32} {h : mH} {q : mH} (hf : f_X9_readWith N a0 x1 x2 h = some q) : MM y_X9_readWith 7 [.ref a0, .int x1, .int x2] h none q := by
  refine MM.of (mFx (j := 120) rfl).2.2.2.1 (Nat.le_of_ble_eq_true rfl) (fun X => ?_)
  refine ev_ok (o := 9) (ini := false) (Cl := C_X9_readWith N) (Rc := RcV) (B := B_X9_readWith) (K := fun pc ls st g => kb pc 10 (lgr 0 ls fun a0 => lgi 2 ls fun x2 => lgi 3 ls fun x3 => lgi 4 ls fun x4 => pe st (L_X9_readWith_10 N N a0 x2 x3 x4 g)) (none)) rfl (fun e => by cases e) (by decide) (rcV_ok rfl) ?_ (co_X9_readWith N q) lb_X9_readWith 3000 0 S_X9_readWith_0 _ _ h ls_X9_readWith_0 hf
  intro pc ls st g e
  rcases kb_s e with ⟨rfl, e⟩ | e
  · obtain ⟨a0, e0, f0⟩ := lgr_s e
    obtain ⟨x2, e1, f1⟩ := lgi_s f0
    obtain ⟨x3, e2, f2⟩ := lgi_s f1
    obtain ⟨x4, e3, f3⟩ := lgi_s f2
    obtain ⟨qe, fe⟩ := pe_s f3
    subst qe
    exact MW.sub (List.forall_mem_cons.mpr ⟨lg_mem e0, List.forall_mem_cons.mpr ⟨lg_mem e1, List.forall_mem_cons.mpr ⟨lg_mem e2, List.forall_mem_cons.mpr ⟨lg_mem e3, fun _ h => absurd h List.not_mem_nil⟩⟩⟩⟩) (t_X9_readWith_10 N N a0 x2 x3 x4 g fe)
  cases e
def L_X9_readSide_12 (N : Nat) : Nat → Nat → Int32 → Int32 → mH → Option (mH)
  | 0, _, _, _, _ => none
  | n + 1, a0, x1, x2, h =>
    if (jI 4) < x2 then
      some h
    else
      (gI h 9 a0 10).bind fun v1 =>
      if x2 = 0 then none else
      if (iRem v1 x2) = 0 then
        (rcv h 9 a0).bind fun _ =>
        (f_X9_readWith N a0 x2 x1 h).bind fun h2 =>
        let w3 := iAdd x2 (jI 1)
        L_X9_readSide_12 N n a0 x1 w3 h2
      else
        let w4 := iAdd x2 (jI 1)
        L_X9_readSide_12 N n a0 x1 w4 h
def f_X9_readSide (N : Nat) (a0 : Nat) (x1 : Int32) (h : mH) : Option (mH) :=
  (gR h 9 a0 6).bind fun v1 =>
  (stI 0 h v1 (iAdd x1 (jI 5)) (jI 2147483647)).bind fun h2 =>
  L_X9_readSide_12 N N a0 x1 (jI 1) h2
def y_X9_readSide : mM := (yX9_readSide, cX9_readSide, 3, none)
def B_X9_readSide : List (Nat × List mI) := [(32, [(.iinc 2 1, 3, [2], [1]), (.goto (-23), 3, [12], [])]), (38, [(.return_, 1, [], [])])]
def S_X9_readSide_0 : List mI := [(.aload_n 0, 1, [0], []), (.getfield 34, 3, [9, 6, 2, 61], []), (.iload_n 1, 1, [1], []), (.iconst 5, 1, [], [5]), (.iadd, 1, [], []), (.ldc 112, 2, [0, 4], [2147483647]), (.iastore, 1, [], []), (.iconst 1, 1, [], [1]), (.istore_n 2, 1, [2], [])]
def S_X9_readSide_12 : List mI := [(.iload_n 2, 1, [2], []), (.iconst 4, 1, [], [4]), (.if_icmp .gt 24, 3, [38], []), (.aload_n 0, 1, [0], []), (.getfield 57, 3, [9, 10, 0, 65], []), (.iload_n 2, 1, [2], []), (.irem, 1, [], []), (.ifCond .ne 9, 3, [32], []), (.aload_n 0, 1, [0], []), (.iload_n 2, 1, [2], []), (.iload_n 1, 1, [1], []), (.invokevirtual 113, 3, [0, 120, 2, 9, 151], [])]
theorem lb_X9_readSide : B_X9_readSide.all (fun b => lst y_X9_readSide.2.1 9 y_X9_readSide.2.2.1 false b.1 b.2) = true := by decide +kernel
theorem ls_X9_readSide_0 : lst y_X9_readSide.2.1 9 y_X9_readSide.2.2.1 false 0 S_X9_readSide_0 = true := by decide +kernel
theorem ls_X9_readSide_12 : lst y_X9_readSide.2.1 9 y_X9_readSide.2.2.1 false 12 S_X9_readSide_12 = true := by decide +kernel
def C_X9_readSide (N : Nat) : Nat → List Value → mH → (Option Value → mH → Option (mH)) → Option (mH) := fun j as g k => kb j 120 (pr1 as fun b0 as => pp1 as fun b1 as => pp1 as fun b2 as => pe as ((f_X9_readWith N b0 b1 b2 g).bind fun p => k none p)) (none)
theorem co_X9_readSide (N : Nat) (q : mH) : clOK 8 q (C_X9_readSide N) := by
  intro j as g k e
  rcases kb_s e with ⟨rfl, e⟩ | e
  · obtain ⟨b0, r0, q0, f0⟩ := pr1_s e
    obtain ⟨b1, r1, q1, f1⟩ := pp1_s f0
    obtain ⟨b2, r2, q2, f2⟩ := pp1_s f1
    obtain ⟨qe, fe⟩ := pe_s f2
    obtain ⟨p, e1, e2⟩ := bnd_s fe
    subst qe
    subst q2
    subst q1
    subst q0
    exact ⟨_, _, _, _, 7, rfl, (by decide), m_X9_readWith N e1, e2⟩
  cases e
set_option maxRecDepth 100000 in
theorem t_X9_readSide_12 {X : Nat × (Nat → Int32)} (N : Nat) {q : mH} : ∀ (n : Nat) (a0 : Nat) (x1 : Int32) (x2 : Int32) (h : mH), L_X9_readSide_12 N n a0 x1 x2 h = some q → MW X y_X9_readSide 8 12 [(0, .ref a0), (1, .int x1), (2, .int x2)] [] h none q := by
  intro n
  induction n with
  | zero => intro a0 x1 x2 h hf; cases hf
  | succ n ih =>
    intro a0 x1 x2 h hf
    refine ev_ok (o := 9) (ini := false) (Cl := C_X9_readSide N) (Rc := RcV) (B := B_X9_readSide) (K := fun pc ls st g => kb pc 12 (lgr 0 ls fun a0 => lgi 1 ls fun x1 => lgi 2 ls fun x2 => pe st (L_X9_readSide_12 N n a0 x1 x2 g)) (none)) rfl (fun e => by cases e) (by decide) (rcV_ok rfl) ?_ (co_X9_readSide N q) lb_X9_readSide 3000 12 S_X9_readSide_12 _ _ h ls_X9_readSide_12 hf
    intro pc ls st g e
    rcases kb_s e with ⟨rfl, e⟩ | e
    · obtain ⟨a0, e0, f0⟩ := lgr_s e
      obtain ⟨x1, e1, f1⟩ := lgi_s f0
      obtain ⟨x2, e2, f2⟩ := lgi_s f1
      obtain ⟨qe, fe⟩ := pe_s f2
      subst qe
      exact MW.sub (List.forall_mem_cons.mpr ⟨lg_mem e0, List.forall_mem_cons.mpr ⟨lg_mem e1, List.forall_mem_cons.mpr ⟨lg_mem e2, fun _ h => absurd h List.not_mem_nil⟩⟩⟩) (ih a0 x1 x2 g fe)
    cases e
set_option maxRecDepth 100000 in
theorem m_X9_readSide (N : Nat) {a0 : Nat} {x1 : Int32} {h : mH} {q : mH} (hf : f_X9_readSide N a0 x1 h = some q) : MM y_X9_readSide 8 [.ref a0, .int x1] h none q := by
  refine MM.of (mFx (j := 119) rfl).2.2.2.1 (Nat.le_of_ble_eq_true rfl) (fun X => ?_)
  refine ev_ok (o := 9) (ini := false) (Cl := C_X9_readSide N) (Rc := RcV) (B := B_X9_readSide) (K := fun pc ls st g => kb pc 12 (lgr 0 ls fun a0 => lgi 1 ls fun x1 => lgi 2 ls fun x2 => pe st (L_X9_readSide_12 N N a0 x1 x2 g)) (none)) rfl (fun e => by cases e) (by decide) (rcV_ok rfl) ?_ (co_X9_readSide N q) lb_X9_readSide 3000 0 S_X9_readSide_0 _ _ h ls_X9_readSide_0 hf
  intro pc ls st g e
  rcases kb_s e with ⟨rfl, e⟩ | e
  · obtain ⟨a0, e0, f0⟩ := lgr_s e
    obtain ⟨x1, e1, f1⟩ := lgi_s f0
    obtain ⟨x2, e2, f2⟩ := lgi_s f1
    obtain ⟨qe, fe⟩ := pe_s f2
    subst qe
    exact MW.sub (List.forall_mem_cons.mpr ⟨lg_mem e0, List.forall_mem_cons.mpr ⟨lg_mem e1, List.forall_mem_cons.mpr ⟨lg_mem e2, fun _ h => absurd h List.not_mem_nil⟩⟩⟩) (t_X9_readSide_12 N N a0 x1 x2 g fe)
  cases e
def J_X9_readKnown_99 (N : Nat) (k44 : Nat → Nat → Int32 → Int32 → Int32 → mH → Option (mH)) (a0 : Nat) (a1 : Nat) (x2 : Int32) (x3 : Int32) (x4 : Int32) (x5 : Int32) (x6 : Int32) (s_0 : Nat) (s_1 : Int32) (s_2 : Int32) (h : mH) : Option (mH) :=
  (stI 0 h s_0 s_1 s_2).bind fun h1 =>
  (gR h1 9 a0 3).bind fun v2 =>
  if x3 = 0 then
    (stI 0 h1 v2 x4 x6).bind fun h3 =>
    let w4 := iAdd x4 (jI 1)
    k44 a0 a1 x2 x3 w4 h3
  else
    (f_X11_mirrored N x5 x2 h1).bind fun p5 =>
    (stI 0 p5.2 v2 x4 p5.1).bind fun h6 =>
    let w7 := iAdd x4 (jI 1)
    k44 a0 a1 x2 x3 w7 h6
def L_X9_readKnown_44 (N : Nat) (k36 : Nat → Nat → Int32 → Int32 → mH → Option (mH)) : Nat → Nat → Nat → Int32 → Int32 → Int32 → mH → Option (mH)
  | 0, _, _, _, _, _, _ => none
  | n + 1, a0, a1, x2, x3, x4, h =>
    (gI h 9 a0 10).bind fun v1 =>
    if x4 < v1 then
      if x4 < (jI 8) then
        (gR h 6 a1 1).bind fun v2 =>
        (ldI 0 h v2 x4).bind fun v3 =>
        (gR h 6 a1 2).bind fun v4 =>
        (ldI 0 h v4 x4).bind fun v5 =>
        (gR h 9 a0 2).bind fun v6 =>
        if x3 = 0 then
          J_X9_readKnown_99 N (L_X9_readKnown_44 N k36 n) a0 a1 x2 x3 x4 v3 v5 v6 x4 v3 h
        else
          (f_X11_mirrored N v5 x2 h).bind fun p7 =>
          J_X9_readKnown_99 N (L_X9_readKnown_44 N k36 n) a0 a1 x2 x3 x4 v3 v5 v6 x4 p7.1 p7.2
      else
        (rcv h 9 a0).bind fun _ =>
        (f_X9_readSide N a0 (iMul x3 (jI 8)) h).bind fun h8 =>
        let w9 := iAdd x3 (jI 1)
        k36 a0 a1 x2 w9 h8
    else
      (rcv h 9 a0).bind fun _ =>
      (f_X9_readSide N a0 (iMul x3 (jI 8)) h).bind fun h10 =>
      let w11 := iAdd x3 (jI 1)
      k36 a0 a1 x2 w11 h10
def L_X9_readKnown_36 (N : Nat) : Nat → Nat → Nat → Int32 → Int32 → mH → Option (mH)
  | 0, _, _, _, _, _ => none
  | n + 1, a0, a1, x2, x3, h =>
    if x3 < (jI 2) then
      L_X9_readKnown_44 N (L_X9_readKnown_36 N n) N a0 a1 x2 x3 (jI 0) h
    else
      some h
def f_X9_readKnown (N : Nat) (a0 : Nat) (a1 : Nat) (x2 : Int32) (h : mH) : Option (mH) :=
  (gI h 9 a0 8).bind fun v1 =>
  if v1 = 0 then
    (pV h 9 a0 8 (.int (jI 1))).bind fun h2 =>
    (gR h2 9 a0 6).bind fun v3 =>
    (f_J7_fill_53178 N v3 (jI 0) h2).bind fun h4 =>
    (pV h4 9 a0 9 (.int x2)).bind fun h5 =>
    (gI h5 6 a1 0).bind fun v6 =>
    (pV h5 9 a0 10 (.int v6)).bind fun h7 =>
    L_X9_readKnown_36 N N a0 a1 x2 (jI 0) h7
  else
    some h
def y_X9_readKnown : mM := (yX9_readKnown, cX9_readKnown, 7, none)
def B_X9_readKnown : List (Nat × List mI) := [(8, [(.aload_n 0, 1, [0], []), (.iconst 1, 1, [], [1]), (.putfield 41, 3, [9, 8, 3, 63], []), (.aload_n 0, 1, [0], []), (.getfield 34, 3, [9, 6, 2, 61], []), (.iconst 0, 1, [], [0]), (.invokestatic 44, 3, [1, 350, 2, 0, 137], []), (.aload_n 0, 1, [0], []), (.iload_n 2, 1, [2], []), (.putfield 50, 3, [9, 9, 0, 64], []), (.aload_n 0, 1, [0], []), (.aload_n 1, 1, [1], []), (.getfield 54, 3, [6, 0, 0, 47], []), (.putfield 57, 3, [9, 10, 0, 65], []), (.iconst 0, 1, [], [0]), (.istore_n 3, 1, [3], [])]), (93, [(.iload 6, 2, [6], []), (.iload_n 2, 1, [2], []), (.invokestatic 106, 3, [3, 223, 2, 0, 11], [])]), (115, [(.iload 5, 2, [5], []), (.iload_n 2, 1, [2], []), (.invokestatic 106, 3, [3, 223, 2, 0, 11], [])]), (121, [(.iastore, 1, [], []), (.iinc 4 1, 3, [4], [1]), (.goto (-81), 3, [44], [])]), (128, [(.aload_n 0, 1, [0], []), (.iload_n 3, 1, [3], []), (.bipush 8, 2, [], [8]), (.imul, 1, [], []), (.invokevirtual 109, 3, [0, 119, 1, 9, 150], []), (.iinc 3 1, 3, [3], [1]), (.goto (-103), 3, [36], [])]), (142, [(.return_, 1, [], [])])]
def S_X9_readKnown_0 : List mI := [(.aload_n 0, 1, [0], []), (.getfield 41, 3, [9, 8, 0, 63], []), (.ifCond .eq 4, 3, [8], []), (.return_, 1, [], [])]
def S_X9_readKnown_36 : List mI := [(.iload_n 3, 1, [3], []), (.iconst 2, 1, [], [2]), (.if_icmp .ge 104, 3, [142], []), (.iconst 0, 1, [], [0]), (.istore 4, 2, [4], [])]
def S_X9_readKnown_44 : List mI := [(.iload 4, 2, [4], []), (.aload_n 0, 1, [0], []), (.getfield 57, 3, [9, 10, 0, 65], []), (.if_icmp .ge 78, 3, [128], []), (.iload 4, 2, [4], []), (.bipush 8, 2, [], [8]), (.if_icmp .ge 71, 3, [128], []), (.aload_n 1, 1, [1], []), (.getfield 58, 3, [6, 1, 2, 50], []), (.iload 4, 2, [4], []), (.iaload, 1, [0], []), (.istore 5, 2, [5], []), (.aload_n 1, 1, [1], []), (.getfield 103, 3, [6, 2, 2, 52], []), (.iload 4, 2, [4], []), (.iaload, 1, [0], []), (.istore 6, 2, [6], []), (.aload_n 0, 1, [0], []), (.getfield 20, 3, [9, 2, 2, 57], []), (.iload 4, 2, [4], []), (.iload_n 3, 1, [3], []), (.ifCond .ne 8, 3, [93], []), (.iload 5, 2, [5], []), (.goto 9, 3, [99], [])]
def S_X9_readKnown_99 : List mI := [(.iastore, 1, [], []), (.aload_n 0, 1, [0], []), (.getfield 23, 3, [9, 3, 2, 58], []), (.iload 4, 2, [4], []), (.iload_n 3, 1, [3], []), (.ifCond .ne 8, 3, [115], []), (.iload 6, 2, [6], []), (.goto 9, 3, [121], [])]
theorem lb_X9_readKnown : B_X9_readKnown.all (fun b => lst y_X9_readKnown.2.1 9 y_X9_readKnown.2.2.1 false b.1 b.2) = true := by decide +kernel
theorem ls_X9_readKnown_0 : lst y_X9_readKnown.2.1 9 y_X9_readKnown.2.2.1 false 0 S_X9_readKnown_0 = true := by decide +kernel
theorem ls_X9_readKnown_36 : lst y_X9_readKnown.2.1 9 y_X9_readKnown.2.2.1 false 36 S_X9_readKnown_36 = true := by decide +kernel
theorem ls_X9_readKnown_44 : lst y_X9_readKnown.2.1 9 y_X9_readKnown.2.2.1 false 44 S_X9_readKnown_44 = true := by decide +kernel
theorem ls_X9_readKnown_99 : lst y_X9_readKnown.2.1 9 y_X9_readKnown.2.2.1 false 99 S_X9_readKnown_99 = true := by decide +kernel
def C_X9_readKnown (N : Nat) : Nat → List Value → mH → (Option Value → mH → Option (mH)) → Option (mH) := fun j as g k => kb j 350 (pr1 as fun b0 as => pp1 as fun b1 as => pe as ((f_J7_fill_53178 N b0 b1 g).bind fun p => k none p)) (kb j 223 (pp1 as fun b0 as => pp1 as fun b1 as => pe as ((f_X11_mirrored N b0 b1 g).bind fun p => k (some (.int p.1)) p.2)) (kb j 119 (pr1 as fun b0 as => pp1 as fun b1 as => pe as ((f_X9_readSide N b0 b1 g).bind fun p => k none p)) (none)))
theorem co_X9_readKnown (N : Nat) (q : mH) : clOK 9 q (C_X9_readKnown N) := by
  intro j as g k e
  rcases kb_s e with ⟨rfl, e⟩ | e
  · obtain ⟨b0, r0, q0, f0⟩ := pr1_s e
    obtain ⟨b1, r1, q1, f1⟩ := pp1_s f0
    obtain ⟨qe, fe⟩ := pe_s f1
    obtain ⟨p, e1, e2⟩ := bnd_s fe
    subst qe
    subst q1
    subst q0
    exact ⟨_, _, _, _, 4, rfl, (by decide), m_J7_fill_53178 N e1, e2⟩
  rcases kb_s e with ⟨rfl, e⟩ | e
  · obtain ⟨b0, r0, q0, f0⟩ := pp1_s e
    obtain ⟨b1, r1, q1, f1⟩ := pp1_s f0
    obtain ⟨qe, fe⟩ := pe_s f1
    obtain ⟨p, e1, e2⟩ := bnd_s fe
    subst qe
    subst q1
    subst q0
    exact ⟨_, _, _, _, 4, rfl, (by decide), m_X11_mirrored N e1, e2⟩
  rcases kb_s e with ⟨rfl, e⟩ | e
  · obtain ⟨b0, r0, q0, f0⟩ := pr1_s e
    obtain ⟨b1, r1, q1, f1⟩ := pp1_s f0
    obtain ⟨qe, fe⟩ := pe_s f1
    obtain ⟨p, e1, e2⟩ := bnd_s fe
    subst qe
    subst q1
    subst q0
    exact ⟨_, _, _, _, 8, rfl, (by decide), m_X9_readSide N e1, e2⟩
  cases e
set_option maxRecDepth 100000 in
theorem t_X9_readKnown_99 {X : Nat × (Nat → Int32)} (N : Nat) {q : mH} {k44 : Nat → Nat → Int32 → Int32 → Int32 → mH → Option (mH)} (hk44 : ∀ (a0 : Nat) (a1 : Nat) (x2 : Int32) (x3 : Int32) (x4 : Int32) g, k44 a0 a1 x2 x3 x4 g = some q → MW X y_X9_readKnown 9 44 [(0, .ref a0), (1, .ref a1), (2, .int x2), (3, .int x3), (4, .int x4)] [] g none q) (a0 : Nat) (a1 : Nat) (x2 : Int32) (x3 : Int32) (x4 : Int32) (x5 : Int32) (x6 : Int32) (s_0 : Nat) (s_1 : Int32) (s_2 : Int32) (h : mH) (hf : J_X9_readKnown_99 N k44 a0 a1 x2 x3 x4 x5 x6 s_0 s_1 s_2 h = some q) : MW X y_X9_readKnown 9 99 [(0, .ref a0), (1, .ref a1), (2, .int x2), (3, .int x3), (4, .int x4), (5, .int x5), (6, .int x6)] [.int s_2, .int s_1, .ref s_0] h none q := by
  refine ev_ok (o := 9) (ini := false) (Cl := C_X9_readKnown N) (Rc := RcV) (B := B_X9_readKnown) (K := fun pc ls st g => kb pc 44 (lgr 0 ls fun a0 => lgr 1 ls fun a1 => lgi 2 ls fun x2 => lgi 3 ls fun x3 => lgi 4 ls fun x4 => pe st (k44 a0 a1 x2 x3 x4 g)) (none)) rfl (fun e => by cases e) (by decide) (rcV_ok rfl) ?_ (co_X9_readKnown N q) lb_X9_readKnown 3000 99 S_X9_readKnown_99 _ _ h ls_X9_readKnown_99 hf
  intro pc ls st g e
  rcases kb_s e with ⟨rfl, e⟩ | e
  · obtain ⟨a0, e0, f0⟩ := lgr_s e
    obtain ⟨a1, e1, f1⟩ := lgr_s f0
    obtain ⟨x2, e2, f2⟩ := lgi_s f1
    obtain ⟨x3, e3, f3⟩ := lgi_s f2
    obtain ⟨x4, e4, f4⟩ := lgi_s f3
    obtain ⟨qe, fe⟩ := pe_s f4
    subst qe
    exact MW.sub (List.forall_mem_cons.mpr ⟨lg_mem e0, List.forall_mem_cons.mpr ⟨lg_mem e1, List.forall_mem_cons.mpr ⟨lg_mem e2, List.forall_mem_cons.mpr ⟨lg_mem e3, List.forall_mem_cons.mpr ⟨lg_mem e4, fun _ h => absurd h List.not_mem_nil⟩⟩⟩⟩⟩) (hk44 a0 a1 x2 x3 x4 g fe)
  cases e
set_option maxRecDepth 100000 in
theorem t_X9_readKnown_44 {X : Nat × (Nat → Int32)} (N : Nat) {q : mH} {k36 : Nat → Nat → Int32 → Int32 → mH → Option (mH)} (hk36 : ∀ (a0 : Nat) (a1 : Nat) (x2 : Int32) (x3 : Int32) g, k36 a0 a1 x2 x3 g = some q → MW X y_X9_readKnown 9 36 [(0, .ref a0), (1, .ref a1), (2, .int x2), (3, .int x3)] [] g none q) : ∀ (n : Nat) (a0 : Nat) (a1 : Nat) (x2 : Int32) (x3 : Int32) (x4 : Int32) (h : mH), L_X9_readKnown_44 N k36 n a0 a1 x2 x3 x4 h = some q → MW X y_X9_readKnown 9 44 [(0, .ref a0), (1, .ref a1), (2, .int x2), (3, .int x3), (4, .int x4)] [] h none q := by
  intro n
  induction n with
  | zero => intro a0 a1 x2 x3 x4 h hf; cases hf
  | succ n ih =>
    intro a0 a1 x2 x3 x4 h hf
    refine ev_ok (o := 9) (ini := false) (Cl := C_X9_readKnown N) (Rc := RcV) (B := B_X9_readKnown) (K := fun pc ls st g => kb pc 36 (lgr 0 ls fun a0 => lgr 1 ls fun a1 => lgi 2 ls fun x2 => lgi 3 ls fun x3 => pe st (k36 a0 a1 x2 x3 g)) (kb pc 99 (lgr 0 ls fun a0 => lgr 1 ls fun a1 => lgi 2 ls fun x2 => lgi 3 ls fun x3 => lgi 4 ls fun x4 => lgi 5 ls fun x5 => lgi 6 ls fun x6 => pp1 st fun s_2 st => pp1 st fun s_1 st => pr1 st fun s_0 st => pe st (J_X9_readKnown_99 N (L_X9_readKnown_44 N k36 n) a0 a1 x2 x3 x4 x5 x6 s_0 s_1 s_2 g)) (none))) rfl (fun e => by cases e) (by decide) (rcV_ok rfl) ?_ (co_X9_readKnown N q) lb_X9_readKnown 3000 44 S_X9_readKnown_44 _ _ h ls_X9_readKnown_44 hf
    intro pc ls st g e
    rcases kb_s e with ⟨rfl, e⟩ | e
    · obtain ⟨a0, e0, f0⟩ := lgr_s e
      obtain ⟨a1, e1, f1⟩ := lgr_s f0
      obtain ⟨x2, e2, f2⟩ := lgi_s f1
      obtain ⟨x3, e3, f3⟩ := lgi_s f2
      obtain ⟨qe, fe⟩ := pe_s f3
      subst qe
      exact MW.sub (List.forall_mem_cons.mpr ⟨lg_mem e0, List.forall_mem_cons.mpr ⟨lg_mem e1, List.forall_mem_cons.mpr ⟨lg_mem e2, List.forall_mem_cons.mpr ⟨lg_mem e3, fun _ h => absurd h List.not_mem_nil⟩⟩⟩⟩) (hk36 a0 a1 x2 x3 g fe)
    rcases kb_s e with ⟨rfl, e⟩ | e
    · obtain ⟨a0, e0, f0⟩ := lgr_s e
      obtain ⟨a1, e1, f1⟩ := lgr_s f0
      obtain ⟨x2, e2, f2⟩ := lgi_s f1
      obtain ⟨x3, e3, f3⟩ := lgi_s f2
      obtain ⟨x4, e4, f4⟩ := lgi_s f3
      obtain ⟨x5, e5, f5⟩ := lgi_s f4
      obtain ⟨x6, e6, f6⟩ := lgi_s f5
      obtain ⟨s_2, r0, q0, g0⟩ := pp1_s f6
      obtain ⟨s_1, r1, q1, g1⟩ := pp1_s g0
      obtain ⟨s_0, r2, q2, g2⟩ := pr1_s g1
      obtain ⟨qe, fe⟩ := pe_s g2
      subst qe
      subst q2
      subst q1
      subst q0
      exact MW.sub (List.forall_mem_cons.mpr ⟨lg_mem e0, List.forall_mem_cons.mpr ⟨lg_mem e1, List.forall_mem_cons.mpr ⟨lg_mem e2, List.forall_mem_cons.mpr ⟨lg_mem e3, List.forall_mem_cons.mpr ⟨lg_mem e4, List.forall_mem_cons.mpr ⟨lg_mem e5, List.forall_mem_cons.mpr ⟨lg_mem e6, fun _ h => absurd h List.not_mem_nil⟩⟩⟩⟩⟩⟩⟩) (t_X9_readKnown_99 N (fun a0 a1 x2 x3 x4 g e => ih a0 a1 x2 x3 x4 g e) a0 a1 x2 x3 x4 x5 x6 s_0 s_1 s_2 g fe)
    cases e
set_option maxRecDepth 100000 in
theorem t_X9_readKnown_36 {X : Nat × (Nat → Int32)} (N : Nat) {q : mH} : ∀ (n : Nat) (a0 : Nat) (a1 : Nat) (x2 : Int32) (x3 : Int32) (h : mH), L_X9_readKnown_36 N n a0 a1 x2 x3 h = some q → MW X y_X9_readKnown 9 36 [(0, .ref a0), (1, .ref a1), (2, .int x2), (3, .int x3)] [] h none q := by
  intro n
  induction n with
  | zero => intro a0 a1 x2 x3 h hf; cases hf
  | succ n ih =>
    intro a0 a1 x2 x3 h hf
    refine ev_ok (o := 9) (ini := false) (Cl := C_X9_readKnown N) (Rc := RcV) (B := B_X9_readKnown) (K := fun pc ls st g => kb pc 44 (lgr 0 ls fun a0 => lgr 1 ls fun a1 => lgi 2 ls fun x2 => lgi 3 ls fun x3 => lgi 4 ls fun x4 => pe st (L_X9_readKnown_44 N (L_X9_readKnown_36 N n) N a0 a1 x2 x3 x4 g)) (none)) rfl (fun e => by cases e) (by decide) (rcV_ok rfl) ?_ (co_X9_readKnown N q) lb_X9_readKnown 3000 36 S_X9_readKnown_36 _ _ h ls_X9_readKnown_36 hf
    intro pc ls st g e
    rcases kb_s e with ⟨rfl, e⟩ | e
    · obtain ⟨a0, e0, f0⟩ := lgr_s e
      obtain ⟨a1, e1, f1⟩ := lgr_s f0
      obtain ⟨x2, e2, f2⟩ := lgi_s f1
      obtain ⟨x3, e3, f3⟩ := lgi_s f2
      obtain ⟨x4, e4, f4⟩ := lgi_s f3
      obtain ⟨qe, fe⟩ := pe_s f4
      subst qe
      exact MW.sub (List.forall_mem_cons.mpr ⟨lg_mem e0, List.forall_mem_cons.mpr ⟨lg_mem e1, List.forall_mem_cons.mpr ⟨lg_mem e2, List.forall_mem_cons.mpr ⟨lg_mem e3, List.forall_mem_cons.mpr ⟨lg_mem e4, fun _ h => absurd h List.not_mem_nil⟩⟩⟩⟩⟩) (t_X9_readKnown_44 N (fun a0 a1 x2 x3 g e => ih a0 a1 x2 x3 g e) N a0 a1 x2 x3 x4 g fe)
    cases e
set_option maxRecDepth 100000 in
theorem m_X9_readKnown (N : Nat) {a0 : Nat} {a1 : Nat} {x2 : Int32} {h : mH} {q : mH} (hf : f_X9_readKnown N a0 a1 x2 h = some q) : MM y_X9_readKnown 9 [.ref a0, .ref a1, .int x2] h none q := by
  refine MM.of (mFx (j := 118) rfl).2.2.2.1 (Nat.le_of_ble_eq_true rfl) (fun X => ?_)
  refine ev_ok (o := 9) (ini := false) (Cl := C_X9_readKnown N) (Rc := RcV) (B := B_X9_readKnown) (K := fun pc ls st g => kb pc 36 (lgr 0 ls fun a0 => lgr 1 ls fun a1 => lgi 2 ls fun x2 => lgi 3 ls fun x3 => pe st (L_X9_readKnown_36 N N a0 a1 x2 x3 g)) (none)) rfl (fun e => by cases e) (by decide) (rcV_ok rfl) ?_ (co_X9_readKnown N q) lb_X9_readKnown 3000 0 S_X9_readKnown_0 _ _ h ls_X9_readKnown_0 hf
  intro pc ls st g e
  rcases kb_s e with ⟨rfl, e⟩ | e
  · obtain ⟨a0, e0, f0⟩ := lgr_s e
    obtain ⟨a1, e1, f1⟩ := lgr_s f0
    obtain ⟨x2, e2, f2⟩ := lgi_s f1
    obtain ⟨x3, e3, f3⟩ := lgi_s f2
    obtain ⟨qe, fe⟩ := pe_s f3
    subst qe
    exact MW.sub (List.forall_mem_cons.mpr ⟨lg_mem e0, List.forall_mem_cons.mpr ⟨lg_mem e1, List.forall_mem_cons.mpr ⟨lg_mem e2, List.forall_mem_cons.mpr ⟨lg_mem e3, fun _ h => absurd h List.not_mem_nil⟩⟩⟩⟩) (t_X9_readKnown_36 N N a0 a1 x2 x3 g fe)
  cases e
def f_X10_init (N : Nat) (a0 : Nat) (a1 : Nat) (h : mH) : Option (mH) :=
  (nwA h 0 (jI 1280)).bind fun h1 =>
  (pV h1 10 a0 1 (.ref h.1)).bind fun h2 =>
  (nwA h2 0 (jI 4)).bind fun h3 =>
  (pV h3 10 a0 2 (.ref h2.1)).bind fun h4 =>
  (nwA h4 0 (jI 4)).bind fun h5 =>
  (pV h5 10 a0 3 (.ref h4.1)).bind fun h6 =>
  (nwA h6 0 (jI 6)).bind fun h7 =>
  (pV h7 10 a0 4 (.ref h6.1)).bind fun h8 =>
  (pV h8 10 a0 0 (.ref a1)).bind fun h9 =>
  some h9
def y_X10_init : mM := (yX10_init, cX10_init, 2, none)
def B_X10_init : List (Nat × List mI) := []
def S_X10_init_0 : List mI := [(.aload_n 0, 1, [0], []), (.invokespecial 3, 3, [5, 0, 0, 0, 3], []), (.aload_n 0, 1, [0], []), (.sipush 1280, 3, [], [1280]), (.newarray .int, 2, [0], []), (.putfield 13, 3, [10, 1, 2, 41], []), (.aload_n 0, 1, [0], []), (.iconst 4, 1, [], [4]), (.newarray .int, 2, [0], []), (.putfield 17, 3, [10, 2, 2, 42], []), (.aload_n 0, 1, [0], []), (.iconst 4, 1, [], [4]), (.newarray .int, 2, [0], []), (.putfield 20, 3, [10, 3, 2, 43], []), (.aload_n 0, 1, [0], []), (.bipush 6, 2, [], [6]), (.newarray .int, 2, [0], []), (.putfield 23, 3, [10, 4, 2, 44], []), (.aload_n 0, 1, [0], []), (.aload_n 1, 1, [1], []), (.putfield 26, 3, [10, 0, 2, 40], []), (.return_, 1, [], [])]
theorem lb_X10_init : B_X10_init.all (fun b => lst y_X10_init.2.1 10 y_X10_init.2.2.1 true b.1 b.2) = true := by decide +kernel
theorem ls_X10_init_0 : lst y_X10_init.2.1 10 y_X10_init.2.2.1 true 0 S_X10_init_0 = true := by decide +kernel
def C_X10_init (N : Nat) : Nat → List Value → mH → (Option Value → mH → Option (mH)) → Option (mH) := fun j as g k => none
theorem co_X10_init (N : Nat) (q : mH) : clOK 4 q (C_X10_init N) := by
  intro j as g k e
  cases e
set_option maxRecDepth 100000 in
theorem m_X10_init (N : Nat) {a0 : Nat} {a1 : Nat} {h : mH} {q : mH} (hf : f_X10_init N a0 a1 h = some q) : MM y_X10_init 4 [.ref a0, .ref a1] h none q := by
  refine MM.of (mFx (j := 125) rfl).2.2.2.1 (Nat.le_of_ble_eq_true rfl) (fun X => ?_)
  refine ev_ok (o := 10) (ini := true) (Cl := C_X10_init N) (Rc := RcV) (B := B_X10_init) (K := fun pc ls st g => none) rfl (fun _ => rfl) (by decide) (rcV_ok rfl) ?_ (co_X10_init N q) lb_X10_init 3000 0 S_X10_init_0 _ _ h ls_X10_init_0 hf
  intro pc ls st g e
  cases e
def f_X10_forget (N : Nat) (a0 : Nat) (h : mH) : Option (mH) :=
  (pV h 10 a0 5 (.int (jI 0))).bind fun h1 =>
  some h1
def y_X10_forget : mM := (yX10_forget, cX10_forget, 1, none)
def B_X10_forget : List (Nat × List mI) := []
def S_X10_forget_0 : List mI := [(.aload_n 0, 1, [0], []), (.iconst 0, 1, [], [0]), (.putfield 30, 3, [10, 5, 0, 45], []), (.return_, 1, [], [])]
theorem lb_X10_forget : B_X10_forget.all (fun b => lst y_X10_forget.2.1 10 y_X10_forget.2.2.1 false b.1 b.2) = true := by decide +kernel
theorem ls_X10_forget_0 : lst y_X10_forget.2.1 10 y_X10_forget.2.2.1 false 0 S_X10_forget_0 = true := by decide +kernel
def C_X10_forget (N : Nat) : Nat → List Value → mH → (Option Value → mH → Option (mH)) → Option (mH) := fun j as g k => none
theorem co_X10_forget (N : Nat) (q : mH) : clOK 4 q (C_X10_forget N) := by
  intro j as g k e
  cases e
set_option maxRecDepth 100000 in
theorem m_X10_forget (N : Nat) {a0 : Nat} {h : mH} {q : mH} (hf : f_X10_forget N a0 h = some q) : MM y_X10_forget 4 [.ref a0] h none q := by
  refine MM.of (mFx (j := 126) rfl).2.2.2.1 (Nat.le_of_ble_eq_true rfl) (fun X => ?_)
  refine ev_ok (o := 10) (ini := false) (Cl := C_X10_forget N) (Rc := RcV) (B := B_X10_forget) (K := fun pc ls st g => none) rfl (fun e => by cases e) (by decide) (rcV_ok rfl) ?_ (co_X10_forget N q) lb_X10_forget 3000 0 S_X10_forget_0 _ _ h ls_X10_forget_0 hf
  intro pc ls st g e
  cases e
def J_X10_weaveOne_111 (N : Nat) (k78 : Nat → Int32 → Int32 → Int32 → Int32 → Int32 → Int32 → Int32 → Int32 → Int32 → Int32 → Int32 → mH → Option (mH)) (a0 : Nat) (x1 : Int32) (x2 : Int32) (x3 : Int32) (x4 : Int32) (x5 : Int32) (x6 : Int32) (x7 : Int32) (x8 : Int32) (x9 : Int32) (x10 : Int32) (x11 : Int32) (h : mH) : Option (mH) :=
  if x4 = 0 then none else
  let w1 := iRem x7 x4
  if w1 < x3 then
    let w2 := iOr x10 (iShl (jI 1) x11)
    let w3 := iAdd w1 (jI 1)
    let w4 := iAdd x6 (jI 1)
    let w5 := iAdd x11 (jI 1)
    k78 a0 x1 x2 x3 x4 x5 w4 w3 x8 x9 w2 w5 h
  else
    let w6 := iAdd w1 (jI 1)
    let w7 := iAdd x6 (jI 1)
    let w8 := iAdd x11 (jI 1)
    k78 a0 x1 x2 x3 x4 x5 w7 w6 x8 x9 x10 w8 h
def L_X10_weaveOne_78 (N : Nat) (k50 : Nat → Int32 → Int32 → Int32 → Int32 → Int32 → Int32 → Int32 → Int32 → Int32 → mH → Option (mH)) : Nat → Nat → Int32 → Int32 → Int32 → Int32 → Int32 → Int32 → Int32 → Int32 → Int32 → Int32 → Int32 → mH → Option (mH)
  | 0, _, _, _, _, _, _, _, _, _, _, _, _, _ => none
  | n + 1, a0, x1, x2, x3, x4, x5, x6, x7, x8, x9, x10, x11, h =>
    (gR h 10 a0 0).bind fun v1 =>
    (gI h 0 v1 0).bind fun v2 =>
    if x11 < v2 then
      if x5 = 0 then
        J_X10_weaveOne_111 N (L_X10_weaveOne_78 N k50 n) a0 x1 x2 x3 x4 x5 x6 x7 x8 x9 x10 x11 h
      else
        (gR h 10 a0 0).bind fun v3 =>
        (rcv h 0 v3).bind fun _ =>
        (f_X0_slipsAt N v3 x1 x2 x6 h).bind fun p4 =>
        let w5 := iAdd x7 p4.1
        J_X10_weaveOne_111 N (L_X10_weaveOne_78 N k50 n) a0 x1 x2 x3 x4 x5 x6 w5 x8 x9 x10 x11 p4.2
    else
      (gR h 10 a0 1).bind fun v6 =>
      (stI 0 h v6 (iAdd (iMul x1 (jI 160)) x8) x10).bind fun h7 =>
      (gR h7 10 a0 0).bind fun v8 =>
      (rcv h7 0 v8).bind fun _ =>
      (f_X0_weaversOf N v8 x1 h7).bind fun p9 =>
      let w10 := iAdd x8 p9.1
      let w11 := iAdd x9 (jI 1)
      k50 a0 x1 x2 x3 x4 x5 x6 x7 w10 w11 p9.2
def L_X10_weaveOne_50 (N : Nat) : Nat → Nat → Int32 → Int32 → Int32 → Int32 → Int32 → Int32 → Int32 → Int32 → Int32 → mH → Option (mH)
  | 0, _, _, _, _, _, _, _, _, _, _, _ => none
  | n + 1, a0, x1, x2, x3, x4, x5, x6, x7, x8, x9, h =>
    (gR h 10 a0 0).bind fun v1 =>
    (rcv h 0 v1).bind fun _ =>
    (f_X0_ofBand N v1 x1 (jI 3) h).bind fun p2 =>
    if x9 < p2.1 then
      if x8 < (jI 160) then
        L_X10_weaveOne_78 N (L_X10_weaveOne_50 N n) N a0 x1 x2 x3 x4 x5 x6 x7 x8 x9 (jI 0) (jI 0) p2.2
      else
        some p2.2
    else
      some p2.2
def f_X10_weaveOne (N : Nat) (a0 : Nat) (x1 : Int32) (x2 : Int32) (h : mH) : Option (mH) :=
  (gR h 10 a0 0).bind fun v1 =>
  (rcv h 0 v1).bind fun _ =>
  (f_X0_ofBand N v1 x1 (jI 1) h).bind fun p2 =>
  (gR p2.2 10 a0 0).bind fun v3 =>
  (rcv p2.2 0 v3).bind fun _ =>
  (f_X0_periodOf N v3 x1 p2.2).bind fun p4 =>
  (gR p4.2 10 a0 0).bind fun v5 =>
  (rcv p4.2 0 v5).bind fun _ =>
  (f_X0_slipsOfBand N v5 x1 p4.2).bind fun p6 =>
  if 0 < p6.1 then
    L_X10_weaveOne_50 N N a0 x1 x2 p2.1 p4.1 (jI 1) (jI 0) (jI 0) x2 (jI 0) p6.2
  else
    L_X10_weaveOne_50 N N a0 x1 x2 p2.1 p4.1 (jI 0) (jI 0) (jI 0) x2 (jI 0) p6.2
def y_X10_weaveOne : mM := (yX10_weaveOne, cX10_weaveOne, 12, none)
def B_X10_weaveOne : List (Nat × List mI) := [(35, [(.iconst 0, 1, [], [0])]), (36, [(.istore 5, 2, [5], []), (.iconst 0, 1, [], [0]), (.istore 6, 2, [6], []), (.iconst 0, 1, [], [0]), (.istore 7, 2, [7], []), (.iload_n 2, 1, [2], []), (.istore 8, 2, [8], []), (.iconst 0, 1, [], [0]), (.istore 9, 2, [9], [])]), (133, [(.iinc 7 1, 3, [7], [1]), (.iinc 6 1, 3, [6], [1]), (.iinc 11 1, 3, [11], [1]), (.goto (-64), 3, [78], [])]), (145, [(.aload_n 0, 1, [0], []), (.getfield 13, 3, [10, 1, 2, 41], []), (.iload_n 1, 1, [1], []), (.sipush 160, 3, [], [160]), (.imul, 1, [], []), (.iload 8, 2, [8], []), (.iadd, 1, [], []), (.iload 10, 2, [10], []), (.iastore, 1, [], []), (.iload 8, 2, [8], []), (.aload_n 0, 1, [0], []), (.getfield 26, 3, [10, 0, 2, 40], []), (.iload_n 1, 1, [1], []), (.invokevirtual 38, 3, [0, 12, 1, 0, 67], []), (.iadd, 1, [], []), (.istore 8, 2, [8], []), (.iinc 9 1, 3, [9], [1]), (.goto (-126), 3, [50], [])]), (179, [(.return_, 1, [], [])])]
def S_X10_weaveOne_0 : List mI := [(.aload_n 0, 1, [0], []), (.getfield 26, 3, [10, 0, 2, 40], []), (.iload_n 1, 1, [1], []), (.iconst 1, 1, [], [1]), (.invokevirtual 46, 3, [0, 9, 2, 0, 71], []), (.istore_n 3, 1, [3], []), (.aload_n 0, 1, [0], []), (.getfield 26, 3, [10, 0, 2, 40], []), (.iload_n 1, 1, [1], []), (.invokevirtual 50, 3, [0, 13, 1, 0, 72], []), (.istore 4, 2, [4], []), (.aload_n 0, 1, [0], []), (.getfield 26, 3, [10, 0, 2, 40], []), (.iload_n 1, 1, [1], []), (.invokevirtual 53, 3, [0, 16, 1, 0, 73], []), (.ifCond .le 7, 3, [35], []), (.iconst 1, 1, [], [1]), (.goto 4, 3, [36], [])]
def S_X10_weaveOne_50 : List mI := [(.iload 9, 2, [9], []), (.aload_n 0, 1, [0], []), (.getfield 26, 3, [10, 0, 2, 40], []), (.iload_n 1, 1, [1], []), (.iconst 3, 1, [], [3]), (.invokevirtual 46, 3, [0, 9, 2, 0, 71], []), (.if_icmp .ge 118, 3, [179], []), (.iload 8, 2, [8], []), (.sipush 160, 3, [], [160]), (.if_icmp .ge 110, 3, [179], []), (.iconst 0, 1, [], [0]), (.istore 10, 2, [10], []), (.iconst 0, 1, [], [0]), (.istore 11, 2, [11], [])]
def S_X10_weaveOne_78 : List mI := [(.iload 11, 2, [11], []), (.aload_n 0, 1, [0], []), (.getfield 26, 3, [10, 0, 2, 40], []), (.getfield 56, 3, [0, 0, 0, 2], []), (.if_icmp .ge 58, 3, [145], []), (.iload 5, 2, [5], []), (.ifCond .eq 19, 3, [111], []), (.iload 7, 2, [7], []), (.aload_n 0, 1, [0], []), (.getfield 26, 3, [10, 0, 2, 40], []), (.iload_n 1, 1, [1], []), (.iload_n 2, 1, [2], []), (.iload 6, 2, [6], []), (.invokevirtual 59, 3, [0, 17, 3, 0, 74], []), (.iadd, 1, [], []), (.istore 7, 2, [7], [])]
def S_X10_weaveOne_111 : List mI := [(.iload 7, 2, [7], []), (.iload 4, 2, [4], []), (.irem, 1, [], []), (.istore 7, 2, [7], []), (.iload 7, 2, [7], []), (.iload_n 3, 1, [3], []), (.if_icmp .ge 12, 3, [133], []), (.iload 10, 2, [10], []), (.iconst 1, 1, [], [1]), (.iload 11, 2, [11], []), (.ishl, 1, [], []), (.ior, 1, [], []), (.istore 10, 2, [10], [])]
theorem lb_X10_weaveOne : B_X10_weaveOne.all (fun b => lst y_X10_weaveOne.2.1 10 y_X10_weaveOne.2.2.1 false b.1 b.2) = true := by decide +kernel
theorem ls_X10_weaveOne_0 : lst y_X10_weaveOne.2.1 10 y_X10_weaveOne.2.2.1 false 0 S_X10_weaveOne_0 = true := by decide +kernel
theorem ls_X10_weaveOne_50 : lst y_X10_weaveOne.2.1 10 y_X10_weaveOne.2.2.1 false 50 S_X10_weaveOne_50 = true := by decide +kernel
theorem ls_X10_weaveOne_78 : lst y_X10_weaveOne.2.1 10 y_X10_weaveOne.2.2.1 false 78 S_X10_weaveOne_78 = true := by decide +kernel
theorem ls_X10_weaveOne_111 : lst y_X10_weaveOne.2.1 10 y_X10_weaveOne.2.2.1 false 111 S_X10_weaveOne_111 = true := by decide +kernel
def C_X10_weaveOne (N : Nat) : Nat → List Value → mH → (Option Value → mH → Option (mH)) → Option (mH) := fun j as g k => kb j 9 (pr1 as fun b0 as => pp1 as fun b1 as => pp1 as fun b2 as => pe as ((f_X0_ofBand N b0 b1 b2 g).bind fun p => k (some (.int p.1)) p.2)) (kb j 13 (pr1 as fun b0 as => pp1 as fun b1 as => pe as ((f_X0_periodOf N b0 b1 g).bind fun p => k (some (.int p.1)) p.2)) (kb j 16 (pr1 as fun b0 as => pp1 as fun b1 as => pe as ((f_X0_slipsOfBand N b0 b1 g).bind fun p => k (some (.int p.1)) p.2)) (kb j 17 (pr1 as fun b0 as => pp1 as fun b1 as => pp1 as fun b2 as => pp1 as fun b3 as => pe as ((f_X0_slipsAt N b0 b1 b2 b3 g).bind fun p => k (some (.int p.1)) p.2)) (kb j 12 (pr1 as fun b0 as => pp1 as fun b1 as => pe as ((f_X0_weaversOf N b0 b1 g).bind fun p => k (some (.int p.1)) p.2)) (none)))))
theorem co_X10_weaveOne (N : Nat) (q : mH) : clOK 6 q (C_X10_weaveOne N) := by
  intro j as g k e
  rcases kb_s e with ⟨rfl, e⟩ | e
  · obtain ⟨b0, r0, q0, f0⟩ := pr1_s e
    obtain ⟨b1, r1, q1, f1⟩ := pp1_s f0
    obtain ⟨b2, r2, q2, f2⟩ := pp1_s f1
    obtain ⟨qe, fe⟩ := pe_s f2
    obtain ⟨p, e1, e2⟩ := bnd_s fe
    subst qe
    subst q2
    subst q1
    subst q0
    exact ⟨_, _, _, _, 4, rfl, (by decide), m_X0_ofBand N e1, e2⟩
  rcases kb_s e with ⟨rfl, e⟩ | e
  · obtain ⟨b0, r0, q0, f0⟩ := pr1_s e
    obtain ⟨b1, r1, q1, f1⟩ := pp1_s f0
    obtain ⟨qe, fe⟩ := pe_s f1
    obtain ⟨p, e1, e2⟩ := bnd_s fe
    subst qe
    subst q1
    subst q0
    exact ⟨_, _, _, _, 5, rfl, (by decide), m_X0_periodOf N e1, e2⟩
  rcases kb_s e with ⟨rfl, e⟩ | e
  · obtain ⟨b0, r0, q0, f0⟩ := pr1_s e
    obtain ⟨b1, r1, q1, f1⟩ := pp1_s f0
    obtain ⟨qe, fe⟩ := pe_s f1
    obtain ⟨p, e1, e2⟩ := bnd_s fe
    subst qe
    subst q1
    subst q0
    exact ⟨_, _, _, _, 4, rfl, (by decide), m_X0_slipsOfBand N e1, e2⟩
  rcases kb_s e with ⟨rfl, e⟩ | e
  · obtain ⟨b0, r0, q0, f0⟩ := pr1_s e
    obtain ⟨b1, r1, q1, f1⟩ := pp1_s f0
    obtain ⟨b2, r2, q2, f2⟩ := pp1_s f1
    obtain ⟨b3, r3, q3, f3⟩ := pp1_s f2
    obtain ⟨qe, fe⟩ := pe_s f3
    obtain ⟨p, e1, e2⟩ := bnd_s fe
    subst qe
    subst q3
    subst q2
    subst q1
    subst q0
    exact ⟨_, _, _, _, 4, rfl, (by decide), m_X0_slipsAt N e1, e2⟩
  rcases kb_s e with ⟨rfl, e⟩ | e
  · obtain ⟨b0, r0, q0, f0⟩ := pr1_s e
    obtain ⟨b1, r1, q1, f1⟩ := pp1_s f0
    obtain ⟨qe, fe⟩ := pe_s f1
    obtain ⟨p, e1, e2⟩ := bnd_s fe
    subst qe
    subst q1
    subst q0
    exact ⟨_, _, _, _, 5, rfl, (by decide), m_X0_weaversOf N e1, e2⟩
  cases e
set_option maxRecDepth 100000 in
theorem t_X10_weaveOne_111 {X : Nat × (Nat → Int32)} (N : Nat) {q : mH} {k78 : Nat → Int32 → Int32 → Int32 → Int32 → Int32 → Int32 → Int32 → Int32 → Int32 → Int32 → Int32 → mH → Option (mH)} (hk78 : ∀ (a0 : Nat) (x1 : Int32) (x2 : Int32) (x3 : Int32) (x4 : Int32) (x5 : Int32) (x6 : Int32) (x7 : Int32) (x8 : Int32) (x9 : Int32) (x10 : Int32) (x11 : Int32) g, k78 a0 x1 x2 x3 x4 x5 x6 x7 x8 x9 x10 x11 g = some q → MW X y_X10_weaveOne 6 78 [(0, .ref a0), (1, .int x1), (2, .int x2), (3, .int x3), (4, .int x4), (5, .int x5), (6, .int x6), (7, .int x7), (8, .int x8), (9, .int x9), (10, .int x10), (11, .int x11)] [] g none q) (a0 : Nat) (x1 : Int32) (x2 : Int32) (x3 : Int32) (x4 : Int32) (x5 : Int32) (x6 : Int32) (x7 : Int32) (x8 : Int32) (x9 : Int32) (x10 : Int32) (x11 : Int32) (h : mH) (hf : J_X10_weaveOne_111 N k78 a0 x1 x2 x3 x4 x5 x6 x7 x8 x9 x10 x11 h = some q) : MW X y_X10_weaveOne 6 111 [(0, .ref a0), (1, .int x1), (2, .int x2), (3, .int x3), (4, .int x4), (5, .int x5), (6, .int x6), (7, .int x7), (8, .int x8), (9, .int x9), (10, .int x10), (11, .int x11)] [] h none q := by
  refine ev_ok (o := 10) (ini := false) (Cl := C_X10_weaveOne N) (Rc := RcV) (B := B_X10_weaveOne) (K := fun pc ls st g => kb pc 78 (lgr 0 ls fun a0 => lgi 1 ls fun x1 => lgi 2 ls fun x2 => lgi 3 ls fun x3 => lgi 4 ls fun x4 => lgi 5 ls fun x5 => lgi 6 ls fun x6 => lgi 7 ls fun x7 => lgi 8 ls fun x8 => lgi 9 ls fun x9 => lgi 10 ls fun x10 => lgi 11 ls fun x11 => pe st (k78 a0 x1 x2 x3 x4 x5 x6 x7 x8 x9 x10 x11 g)) (none)) rfl (fun e => by cases e) (by decide) (rcV_ok rfl) ?_ (co_X10_weaveOne N q) lb_X10_weaveOne 3000 111 S_X10_weaveOne_111 _ _ h ls_X10_weaveOne_111 hf
  intro pc ls st g e
  rcases kb_s e with ⟨rfl, e⟩ | e
  · obtain ⟨a0, e0, f0⟩ := lgr_s e
    obtain ⟨x1, e1, f1⟩ := lgi_s f0
    obtain ⟨x2, e2, f2⟩ := lgi_s f1
    obtain ⟨x3, e3, f3⟩ := lgi_s f2
    obtain ⟨x4, e4, f4⟩ := lgi_s f3
    obtain ⟨x5, e5, f5⟩ := lgi_s f4
    obtain ⟨x6, e6, f6⟩ := lgi_s f5
    obtain ⟨x7, e7, f7⟩ := lgi_s f6
    obtain ⟨x8, e8, f8⟩ := lgi_s f7
    obtain ⟨x9, e9, f9⟩ := lgi_s f8
    obtain ⟨x10, e10, f10⟩ := lgi_s f9
    obtain ⟨x11, e11, f11⟩ := lgi_s f10
    obtain ⟨qe, fe⟩ := pe_s f11
    subst qe
    exact MW.sub (List.forall_mem_cons.mpr ⟨lg_mem e0, List.forall_mem_cons.mpr ⟨lg_mem e1, List.forall_mem_cons.mpr ⟨lg_mem e2, List.forall_mem_cons.mpr ⟨lg_mem e3, List.forall_mem_cons.mpr ⟨lg_mem e4, List.forall_mem_cons.mpr ⟨lg_mem e5, List.forall_mem_cons.mpr ⟨lg_mem e6, List.forall_mem_cons.mpr ⟨lg_mem e7, List.forall_mem_cons.mpr ⟨lg_mem e8, List.forall_mem_cons.mpr ⟨lg_mem e9, List.forall_mem_cons.mpr ⟨lg_mem e10, List.forall_mem_cons.mpr ⟨lg_mem e11, fun _ h => absurd h List.not_mem_nil⟩⟩⟩⟩⟩⟩⟩⟩⟩⟩⟩⟩) (hk78 a0 x1 x2 x3 x4 x5 x6 x7 x8 x9 x10 x11 g fe)
  cases e
set_option maxRecDepth 100000 in
theorem t_X10_weaveOne_78 {X : Nat × (Nat → Int32)} (N : Nat) {q : mH} {k50 : Nat → Int32 → Int32 → Int32 → Int32 → Int32 → Int32 → Int32 → Int32 → Int32 → mH → Option (mH)} (hk50 : ∀ (a0 : Nat) (x1 : Int32) (x2 : Int32) (x3 : Int32) (x4 : Int32) (x5 : Int32) (x6 : Int32) (x7 : Int32) (x8 : Int32) (x9 : Int32) g, k50 a0 x1 x2 x3 x4 x5 x6 x7 x8 x9 g = some q → MW X y_X10_weaveOne 6 50 [(0, .ref a0), (1, .int x1), (2, .int x2), (3, .int x3), (4, .int x4), (5, .int x5), (6, .int x6), (7, .int x7), (8, .int x8), (9, .int x9)] [] g none q) : ∀ (n : Nat) (a0 : Nat) (x1 : Int32) (x2 : Int32) (x3 : Int32) (x4 : Int32) (x5 : Int32) (x6 : Int32) (x7 : Int32) (x8 : Int32) (x9 : Int32) (x10 : Int32) (x11 : Int32) (h : mH), L_X10_weaveOne_78 N k50 n a0 x1 x2 x3 x4 x5 x6 x7 x8 x9 x10 x11 h = some q → MW X y_X10_weaveOne 6 78 [(0, .ref a0), (1, .int x1), (2, .int x2), (3, .int x3), (4, .int x4), (5, .int x5), (6, .int x6), (7, .int x7), (8, .int x8), (9, .int x9), (10, .int x10), (11, .int x11)] [] h none q := by
  intro n
  induction n with
  | zero => intro a0 x1 x2 x3 x4 x5 x6 x7 x8 x9 x10 x11 h hf; cases hf
  | succ n ih =>
    intro a0 x1 x2 x3 x4 x5 x6 x7 x8 x9 x10 x11 h hf
    refine ev_ok (o := 10) (ini := false) (Cl := C_X10_weaveOne N) (Rc := RcV) (B := B_X10_weaveOne) (K := fun pc ls st g => kb pc 50 (lgr 0 ls fun a0 => lgi 1 ls fun x1 => lgi 2 ls fun x2 => lgi 3 ls fun x3 => lgi 4 ls fun x4 => lgi 5 ls fun x5 => lgi 6 ls fun x6 => lgi 7 ls fun x7 => lgi 8 ls fun x8 => lgi 9 ls fun x9 => pe st (k50 a0 x1 x2 x3 x4 x5 x6 x7 x8 x9 g)) (kb pc 111 (lgr 0 ls fun a0 => lgi 1 ls fun x1 => lgi 2 ls fun x2 => lgi 3 ls fun x3 => lgi 4 ls fun x4 => lgi 5 ls fun x5 => lgi 6 ls fun x6 => lgi 7 ls fun x7 => lgi 8 ls fun x8 => lgi 9 ls fun x9 => lgi 10 ls fun x10 => lgi 11 ls fun x11 => pe st (J_X10_weaveOne_111 N (L_X10_weaveOne_78 N k50 n) a0 x1 x2 x3 x4 x5 x6 x7 x8 x9 x10 x11 g)) (none))) rfl (fun e => by cases e) (by decide) (rcV_ok rfl) ?_ (co_X10_weaveOne N q) lb_X10_weaveOne 3000 78 S_X10_weaveOne_78 _ _ h ls_X10_weaveOne_78 hf
    intro pc ls st g e
    rcases kb_s e with ⟨rfl, e⟩ | e
    · obtain ⟨a0, e0, f0⟩ := lgr_s e
      obtain ⟨x1, e1, f1⟩ := lgi_s f0
      obtain ⟨x2, e2, f2⟩ := lgi_s f1
      obtain ⟨x3, e3, f3⟩ := lgi_s f2
      obtain ⟨x4, e4, f4⟩ := lgi_s f3
      obtain ⟨x5, e5, f5⟩ := lgi_s f4
      obtain ⟨x6, e6, f6⟩ := lgi_s f5
      obtain ⟨x7, e7, f7⟩ := lgi_s f6
      obtain ⟨x8, e8, f8⟩ := lgi_s f7
      obtain ⟨x9, e9, f9⟩ := lgi_s f8
      obtain ⟨qe, fe⟩ := pe_s f9
      subst qe
      exact MW.sub (List.forall_mem_cons.mpr ⟨lg_mem e0, List.forall_mem_cons.mpr ⟨lg_mem e1, List.forall_mem_cons.mpr ⟨lg_mem e2, List.forall_mem_cons.mpr ⟨lg_mem e3, List.forall_mem_cons.mpr ⟨lg_mem e4, List.forall_mem_cons.mpr ⟨lg_mem e5, List.forall_mem_cons.mpr ⟨lg_mem e6, List.forall_mem_cons.mpr ⟨lg_mem e7, List.forall_mem_cons.mpr ⟨lg_mem e8, List.forall_mem_cons.mpr ⟨lg_mem e9, fun _ h => absurd h List.not_mem_nil⟩⟩⟩⟩⟩⟩⟩⟩⟩⟩) (hk50 a0 x1 x2 x3 x4 x5 x6 x7 x8 x9 g fe)
    rcases kb_s e with ⟨rfl, e⟩ | e
    · obtain ⟨a0, e0, f0⟩ := lgr_s e
      obtain ⟨x1, e1, f1⟩ := lgi_s f0
      obtain ⟨x2, e2, f2⟩ := lgi_s f1
      obtain ⟨x3, e3, f3⟩ := lgi_s f2
      obtain ⟨x4, e4, f4⟩ := lgi_s f3
      obtain ⟨x5, e5, f5⟩ := lgi_s f4
      obtain ⟨x6, e6, f6⟩ := lgi_s f5
      obtain ⟨x7, e7, f7⟩ := lgi_s f6
      obtain ⟨x8, e8, f8⟩ := lgi_s f7
      obtain ⟨x9, e9, f9⟩ := lgi_s f8
      obtain ⟨x10, e10, f10⟩ := lgi_s f9
      obtain ⟨x11, e11, f11⟩ := lgi_s f10
      obtain ⟨qe, fe⟩ := pe_s f11
      subst qe
      exact MW.sub (List.forall_mem_cons.mpr ⟨lg_mem e0, List.forall_mem_cons.mpr ⟨lg_mem e1, List.forall_mem_cons.mpr ⟨lg_mem e2, List.forall_mem_cons.mpr ⟨lg_mem e3, List.forall_mem_cons.mpr ⟨lg_mem e4, List.forall_mem_cons.mpr ⟨lg_mem e5, List.forall_mem_cons.mpr ⟨lg_mem e6, List.forall_mem_cons.mpr ⟨lg_mem e7, List.forall_mem_cons.mpr ⟨lg_mem e8, List.forall_mem_cons.mpr ⟨lg_mem e9, List.forall_mem_cons.mpr ⟨lg_mem e10, List.forall_mem_cons.mpr ⟨lg_mem e11, fun _ h => absurd h List.not_mem_nil⟩⟩⟩⟩⟩⟩⟩⟩⟩⟩⟩⟩) (t_X10_weaveOne_111 N (fun a0 x1 x2 x3 x4 x5 x6 x7 x8 x9 x10 x11 g e => ih a0 x1 x2 x3 x4 x5 x6 x7 x8 x9 x10 x11 g e) a0 x1 x2 x3 x4 x5 x6 x7 x8 x9 x10 x11 g fe)
    cases e
set_option maxRecDepth 100000 in
theorem t_X10_weaveOne_50 {X : Nat × (Nat → Int32)} (N : Nat) {q : mH} : ∀ (n : Nat) (a0 : Nat) (x1 : Int32) (x2 : Int32) (x3 : Int32) (x4 : Int32) (x5 : Int32) (x6 : Int32) (x7 : Int32) (x8 : Int32) (x9 : Int32) (h : mH), L_X10_weaveOne_50 N n a0 x1 x2 x3 x4 x5 x6 x7 x8 x9 h = some q → MW X y_X10_weaveOne 6 50 [(0, .ref a0), (1, .int x1), (2, .int x2), (3, .int x3), (4, .int x4), (5, .int x5), (6, .int x6), (7, .int x7), (8, .int x8), (9, .int x9)] [] h none q := by
  intro n
  induction n with
  | zero => intro a0 x1 x2 x3 x4 x5 x6 x7 x8 x9 h hf; cases hf
  | succ n ih =>
    intro a0 x1 x2 x3 x4 x5 x6 x7 x8 x9 h hf
    refine ev_ok (o := 10) (ini := false) (Cl := C_X10_weaveOne N) (Rc := RcV) (B := B_X10_weaveOne) (K := fun pc ls st g => kb pc 78 (lgr 0 ls fun a0 => lgi 1 ls fun x1 => lgi 2 ls fun x2 => lgi 3 ls fun x3 => lgi 4 ls fun x4 => lgi 5 ls fun x5 => lgi 6 ls fun x6 => lgi 7 ls fun x7 => lgi 8 ls fun x8 => lgi 9 ls fun x9 => lgi 10 ls fun x10 => lgi 11 ls fun x11 => pe st (L_X10_weaveOne_78 N (L_X10_weaveOne_50 N n) N a0 x1 x2 x3 x4 x5 x6 x7 x8 x9 x10 x11 g)) (none)) rfl (fun e => by cases e) (by decide) (rcV_ok rfl) ?_ (co_X10_weaveOne N q) lb_X10_weaveOne 3000 50 S_X10_weaveOne_50 _ _ h ls_X10_weaveOne_50 hf
    intro pc ls st g e
    rcases kb_s e with ⟨rfl, e⟩ | e
    · obtain ⟨a0, e0, f0⟩ := lgr_s e
      obtain ⟨x1, e1, f1⟩ := lgi_s f0
      obtain ⟨x2, e2, f2⟩ := lgi_s f1
      obtain ⟨x3, e3, f3⟩ := lgi_s f2
      obtain ⟨x4, e4, f4⟩ := lgi_s f3
      obtain ⟨x5, e5, f5⟩ := lgi_s f4
      obtain ⟨x6, e6, f6⟩ := lgi_s f5
      obtain ⟨x7, e7, f7⟩ := lgi_s f6
      obtain ⟨x8, e8, f8⟩ := lgi_s f7
      obtain ⟨x9, e9, f9⟩ := lgi_s f8
      obtain ⟨x10, e10, f10⟩ := lgi_s f9
      obtain ⟨x11, e11, f11⟩ := lgi_s f10
      obtain ⟨qe, fe⟩ := pe_s f11
      subst qe
      exact MW.sub (List.forall_mem_cons.mpr ⟨lg_mem e0, List.forall_mem_cons.mpr ⟨lg_mem e1, List.forall_mem_cons.mpr ⟨lg_mem e2, List.forall_mem_cons.mpr ⟨lg_mem e3, List.forall_mem_cons.mpr ⟨lg_mem e4, List.forall_mem_cons.mpr ⟨lg_mem e5, List.forall_mem_cons.mpr ⟨lg_mem e6, List.forall_mem_cons.mpr ⟨lg_mem e7, List.forall_mem_cons.mpr ⟨lg_mem e8, List.forall_mem_cons.mpr ⟨lg_mem e9, List.forall_mem_cons.mpr ⟨lg_mem e10, List.forall_mem_cons.mpr ⟨lg_mem e11, fun _ h => absurd h List.not_mem_nil⟩⟩⟩⟩⟩⟩⟩⟩⟩⟩⟩⟩) (t_X10_weaveOne_78 N (fun a0 x1 x2 x3 x4 x5 x6 x7 x8 x9 g e => ih a0 x1 x2 x3 x4 x5 x6 x7 x8 x9 g e) N a0 x1 x2 x3 x4 x5 x6 x7 x8 x9 x10 x11 g fe)
    cases e
set_option maxRecDepth 100000 in
theorem m_X10_weaveOne (N : Nat) {a0 : Nat} {x1 : Int32} {x2 : Int32} {h : mH} {q : mH} (hf : f_X10_weaveOne N a0 x1 x2 h = some q) : MM y_X10_weaveOne 6 [.ref a0, .int x1, .int x2] h none q := by
  refine MM.of (mFx (j := 128) rfl).2.2.2.1 (Nat.le_of_ble_eq_true rfl) (fun X => ?_)
  refine ev_ok (o := 10) (ini := false) (Cl := C_X10_weaveOne N) (Rc := RcV) (B := B_X10_weaveOne) (K := fun pc ls st g => kb pc 50 (lgr 0 ls fun a0 => lgi 1 ls fun x1 => lgi 2 ls fun x2 => lgi 3 ls fun x3 => lgi 4 ls fun x4 => lgi 5 ls fun x5 => lgi 6 ls fun x6 => lgi 7 ls fun x7 => lgi 8 ls fun x8 => lgi 9 ls fun x9 => pe st (L_X10_weaveOne_50 N N a0 x1 x2 x3 x4 x5 x6 x7 x8 x9 g)) (none)) rfl (fun e => by cases e) (by decide) (rcV_ok rfl) ?_ (co_X10_weaveOne N q) lb_X10_weaveOne 3000 0 S_X10_weaveOne_0 _ _ h ls_X10_weaveOne_0 hf
  intro pc ls st g e
  rcases kb_s e with ⟨rfl, e⟩ | e
  · obtain ⟨a0, e0, f0⟩ := lgr_s e
    obtain ⟨x1, e1, f1⟩ := lgi_s f0
    obtain ⟨x2, e2, f2⟩ := lgi_s f1
    obtain ⟨x3, e3, f3⟩ := lgi_s f2
    obtain ⟨x4, e4, f4⟩ := lgi_s f3
    obtain ⟨x5, e5, f5⟩ := lgi_s f4
    obtain ⟨x6, e6, f6⟩ := lgi_s f5
    obtain ⟨x7, e7, f7⟩ := lgi_s f6
    obtain ⟨x8, e8, f8⟩ := lgi_s f7
    obtain ⟨x9, e9, f9⟩ := lgi_s f8
    obtain ⟨qe, fe⟩ := pe_s f9
    subst qe
    exact MW.sub (List.forall_mem_cons.mpr ⟨lg_mem e0, List.forall_mem_cons.mpr ⟨lg_mem e1, List.forall_mem_cons.mpr ⟨lg_mem e2, List.forall_mem_cons.mpr ⟨lg_mem e3, List.forall_mem_cons.mpr ⟨lg_mem e4, List.forall_mem_cons.mpr ⟨lg_mem e5, List.forall_mem_cons.mpr ⟨lg_mem e6, List.forall_mem_cons.mpr ⟨lg_mem e7, List.forall_mem_cons.mpr ⟨lg_mem e8, List.forall_mem_cons.mpr ⟨lg_mem e9, fun _ h => absurd h List.not_mem_nil⟩⟩⟩⟩⟩⟩⟩⟩⟩⟩) (t_X10_weaveOne_50 N N a0 x1 x2 x3 x4 x5 x6 x7 x8 x9 g fe)
  cases e
def L_X10_rowBits_37 (N : Nat) : Nat → Nat → Int32 → Int32 → Int32 → mH → Option (Int32 × mH)
  | 0, _, _, _, _, _ => none
  | n + 1, a0, x1, x2, x3, h =>
    (gR h 10 a0 0).bind fun v1 =>
    (rcv h 0 v1).bind fun _ =>
    (f_X0_weaversOf N v1 x1 h).bind fun p2 =>
    if x3 < p2.1 then
      (rcv p2.2 10 a0).bind fun _ =>
      (f_X10_weaveOne N a0 x1 x3 p2.2).bind fun h3 =>
      let w4 := iAdd x3 (jI 1)
      L_X10_rowBits_37 N n a0 x1 x2 w4 h3
    else
      (gI p2.2 10 a0 5).bind fun v5 =>
      (pV p2.2 10 a0 5 (.int (iOr v5 (iShl (jI 1) x1)))).bind fun h6 =>
      (gR h6 10 a0 1).bind fun v7 =>
      (ldI 0 h6 v7 (iAdd (iMul x1 (jI 160)) x2)).bind fun v8 =>
      some (v8, h6)
def f_X10_rowBits (N : Nat) (a0 : Nat) (x1 : Int32) (x2 : Int32) (h : mH) : Option (Int32 × mH) :=
  (gR h 10 a0 0).bind fun v1 =>
  (rcv h 0 v1).bind fun _ =>
  (f_X0_hasBand N v1 x1 h).bind fun p2 =>
  if p2.1 = 0 then
    some (jI 0, p2.2)
  else
    if x2 < 0 then
      some (jI 0, p2.2)
    else
      if x2 < (jI 160) then
        (gI p2.2 10 a0 5).bind fun v3 =>
        if (iAnd (iUsr v3 x1) (jI 1)) = 0 then
          L_X10_rowBits_37 N N a0 x1 x2 (jI 0) p2.2
        else
          (gR p2.2 10 a0 1).bind fun v4 =>
          (ldI 0 p2.2 v4 (iAdd (iMul x1 (jI 160)) x2)).bind fun v5 =>
          some (v5, p2.2)
      else
        some (jI 0, p2.2)
def y_X10_rowBits : mM := (yX10_rowBits, cX10_rowBits, 4, (some .int))
def B_X10_rowBits : List (Nat × List mI) := [(22, [(.iconst 0, 1, [], [0]), (.ireturn, 1, [], [])]), (24, [(.aload_n 0, 1, [0], []), (.getfield 30, 3, [10, 5, 0, 45], []), (.iload_n 1, 1, [1], []), (.iushr, 1, [], []), (.iconst 1, 1, [], [1]), (.iand, 1, [], []), (.ifCond .ne 41, 3, [73], []), (.iconst 0, 1, [], [0]), (.istore_n 3, 1, [3], [])]), (61, [(.aload_n 0, 1, [0], []), (.dup, 1, [], []), (.getfield 30, 3, [10, 5, 0, 45], []), (.iconst 1, 1, [], [1]), (.iload_n 1, 1, [1], []), (.ishl, 1, [], []), (.ior, 1, [], []), (.putfield 30, 3, [10, 5, 0, 45], [])]), (73, [(.aload_n 0, 1, [0], []), (.getfield 13, 3, [10, 1, 2, 41], []), (.iload_n 1, 1, [1], []), (.sipush 160, 3, [], [160]), (.imul, 1, [], []), (.iload_n 2, 1, [2], []), (.iadd, 1, [], []), (.iaload, 1, [0], []), (.ireturn, 1, [], [])])]
def S_X10_rowBits_0 : List mI := [(.aload_n 0, 1, [0], []), (.getfield 26, 3, [10, 0, 2, 40], []), (.iload_n 1, 1, [1], []), (.invokevirtual 34, 3, [0, 4, 1, 0, 69], []), (.ifCond .eq 14, 3, [22], []), (.iload_n 2, 1, [2], []), (.ifCond .lt 10, 3, [22], []), (.iload_n 2, 1, [2], []), (.sipush 160, 3, [], [160]), (.if_icmp .lt 5, 3, [24], [])]
def S_X10_rowBits_37 : List mI := [(.iload_n 3, 1, [3], []), (.aload_n 0, 1, [0], []), (.getfield 26, 3, [10, 0, 2, 40], []), (.iload_n 1, 1, [1], []), (.invokevirtual 38, 3, [0, 12, 1, 0, 67], []), (.if_icmp .ge 15, 3, [61], []), (.aload_n 0, 1, [0], []), (.iload_n 1, 1, [1], []), (.iload_n 3, 1, [3], []), (.invokevirtual 42, 3, [0, 128, 2, 10, 70], []), (.iinc 3 1, 3, [3], [1]), (.goto (-21), 3, [37], [])]
theorem lb_X10_rowBits : B_X10_rowBits.all (fun b => lst y_X10_rowBits.2.1 10 y_X10_rowBits.2.2.1 false b.1 b.2) = true := by decide +kernel
theorem ls_X10_rowBits_0 : lst y_X10_rowBits.2.1 10 y_X10_rowBits.2.2.1 false 0 S_X10_rowBits_0 = true := by decide +kernel
theorem ls_X10_rowBits_37 : lst y_X10_rowBits.2.1 10 y_X10_rowBits.2.2.1 false 37 S_X10_rowBits_37 = true := by decide +kernel
def C_X10_rowBits (N : Nat) : Nat → List Value → mH → (Option Value → mH → Option (Int32 × mH)) → Option (Int32 × mH) := fun j as g k => kb j 4 (pr1 as fun b0 as => pp1 as fun b1 as => pe as ((f_X0_hasBand N b0 b1 g).bind fun p => k (some (.int p.1)) p.2)) (kb j 12 (pr1 as fun b0 as => pp1 as fun b1 as => pe as ((f_X0_weaversOf N b0 b1 g).bind fun p => k (some (.int p.1)) p.2)) (kb j 128 (pr1 as fun b0 as => pp1 as fun b1 as => pp1 as fun b2 as => pe as ((f_X10_weaveOne N b0 b1 b2 g).bind fun p => k none p)) (none)))
theorem co_X10_rowBits (N : Nat) (q : Int32 × mH) : clOK 7 q (C_X10_rowBits N) := by
  intro j as g k e
  rcases kb_s e with ⟨rfl, e⟩ | e
  · obtain ⟨b0, r0, q0, f0⟩ := pr1_s e
    obtain ⟨b1, r1, q1, f1⟩ := pp1_s f0
    obtain ⟨qe, fe⟩ := pe_s f1
    obtain ⟨p, e1, e2⟩ := bnd_s fe
    subst qe
    subst q1
    subst q0
    exact ⟨_, _, _, _, 4, rfl, (by decide), m_X0_hasBand N e1, e2⟩
  rcases kb_s e with ⟨rfl, e⟩ | e
  · obtain ⟨b0, r0, q0, f0⟩ := pr1_s e
    obtain ⟨b1, r1, q1, f1⟩ := pp1_s f0
    obtain ⟨qe, fe⟩ := pe_s f1
    obtain ⟨p, e1, e2⟩ := bnd_s fe
    subst qe
    subst q1
    subst q0
    exact ⟨_, _, _, _, 5, rfl, (by decide), m_X0_weaversOf N e1, e2⟩
  rcases kb_s e with ⟨rfl, e⟩ | e
  · obtain ⟨b0, r0, q0, f0⟩ := pr1_s e
    obtain ⟨b1, r1, q1, f1⟩ := pp1_s f0
    obtain ⟨b2, r2, q2, f2⟩ := pp1_s f1
    obtain ⟨qe, fe⟩ := pe_s f2
    obtain ⟨p, e1, e2⟩ := bnd_s fe
    subst qe
    subst q2
    subst q1
    subst q0
    exact ⟨_, _, _, _, 6, rfl, (by decide), m_X10_weaveOne N e1, e2⟩
  cases e
set_option maxRecDepth 100000 in
theorem t_X10_rowBits_37 {X : Nat × (Nat → Int32)} (N : Nat) {q : Int32 × mH} : ∀ (n : Nat) (a0 : Nat) (x1 : Int32) (x2 : Int32) (x3 : Int32) (h : mH), L_X10_rowBits_37 N n a0 x1 x2 x3 h = some q → MW X y_X10_rowBits 7 37 [(0, .ref a0), (1, .int x1), (2, .int x2), (3, .int x3)] [] h (some (.int q.1)) q.2 := by
  intro n
  induction n with
  | zero => intro a0 x1 x2 x3 h hf; cases hf
  | succ n ih =>
    intro a0 x1 x2 x3 h hf
    refine ev_ok (o := 10) (ini := false) (Cl := C_X10_rowBits N) (Rc := RcI) (B := B_X10_rowBits) (K := fun pc ls st g => kb pc 37 (lgr 0 ls fun a0 => lgi 1 ls fun x1 => lgi 2 ls fun x2 => lgi 3 ls fun x3 => pe st (L_X10_rowBits_37 N n a0 x1 x2 x3 g)) (none)) rfl (fun e => by cases e) (by decide) (rcI_ok rfl) ?_ (co_X10_rowBits N q) lb_X10_rowBits 3000 37 S_X10_rowBits_37 _ _ h ls_X10_rowBits_37 hf
    intro pc ls st g e
    rcases kb_s e with ⟨rfl, e⟩ | e
    · obtain ⟨a0, e0, f0⟩ := lgr_s e
      obtain ⟨x1, e1, f1⟩ := lgi_s f0
      obtain ⟨x2, e2, f2⟩ := lgi_s f1
      obtain ⟨x3, e3, f3⟩ := lgi_s f2
      obtain ⟨qe, fe⟩ := pe_s f3
      subst qe
      exact MW.sub (List.forall_mem_cons.mpr ⟨lg_mem e0, List.forall_mem_cons.mpr ⟨lg_mem e1, List.forall_mem_cons.mpr ⟨lg_mem e2, List.forall_mem_cons.mpr ⟨lg_mem e3, fun _ h => absurd h List.not_mem_nil⟩⟩⟩⟩) (ih a0 x1 x2 x3 g fe)
    cases e
set_option maxRecDepth 100000 in
theorem m_X10_rowBits (N : Nat) {a0 : Nat} {x1 : Int32} {x2 : Int32} {h : mH} {q : Int32 × mH} (hf : f_X10_rowBits N a0 x1 x2 h = some q) : MM y_X10_rowBits 7 [.ref a0, .int x1, .int x2] h (some (.int q.1)) q.2 := by
  refine MM.of (mFx (j := 127) rfl).2.2.2.1 (Nat.le_of_ble_eq_true rfl) (fun X => ?_)
  refine ev_ok (o := 10) (ini := false) (Cl := C_X10_rowBits N) (Rc := RcI) (B := B_X10_rowBits) (K := fun pc ls st g => kb pc 37 (lgr 0 ls fun a0 => lgi 1 ls fun x1 => lgi 2 ls fun x2 => lgi 3 ls fun x3 => pe st (L_X10_rowBits_37 N N a0 x1 x2 x3 g)) (none)) rfl (fun e => by cases e) (by decide) (rcI_ok rfl) ?_ (co_X10_rowBits N q) lb_X10_rowBits 3000 0 S_X10_rowBits_0 _ _ h ls_X10_rowBits_0 hf
  intro pc ls st g e
  rcases kb_s e with ⟨rfl, e⟩ | e
  · obtain ⟨a0, e0, f0⟩ := lgr_s e
    obtain ⟨x1, e1, f1⟩ := lgi_s f0
    obtain ⟨x2, e2, f2⟩ := lgi_s f1
    obtain ⟨x3, e3, f3⟩ := lgi_s f2
    obtain ⟨qe, fe⟩ := pe_s f3
    subst qe
    exact MW.sub (List.forall_mem_cons.mpr ⟨lg_mem e0, List.forall_mem_cons.mpr ⟨lg_mem e1, List.forall_mem_cons.mpr ⟨lg_mem e2, List.forall_mem_cons.mpr ⟨lg_mem e3, fun _ h => absurd h List.not_mem_nil⟩⟩⟩⟩) (t_X10_rowBits_37 N N a0 x1 x2 x3 g fe)
  cases e
def f_X10_goesOver (N : Nat) (a0 : Nat) (x1 : Int32) (x2 : Int32) (x3 : Int32) (h : mH) : Option (Int32 × mH) :=
  (gR h 10 a0 0).bind fun v1 =>
  (rcv h 0 v1).bind fun _ =>
  (f_X0_ring N v1 h).bind fun p2 =>
  if p2.1 = 0 then none else
  let w3 := iDiv x3 p2.1
  (gR p2.2 10 a0 0).bind fun v4 =>
  (rcv p2.2 0 v4).bind fun _ =>
  (f_X0_weaversOf N v4 x1 p2.2).bind fun p5 =>
  (rcv p5.2 10 a0).bind fun _ =>
  (f_X10_rowBits N a0 x1 (iAdd (iMul w3 p5.1) x2) p5.2).bind fun p6 =>
  (gR p6.2 10 a0 0).bind fun v7 =>
  (rcv p6.2 0 v7).bind fun _ =>
  (f_X0_ring N v7 p6.2).bind fun p8 =>
  if (iAnd (iUsr p6.1 (iSub x3 (iMul w3 p8.1))) (jI 1)) = (jI 1) then
    some (jI 1, p8.2)
  else
    some (jI 0, p8.2)
def y_X10_goesOver : mM := (yX10_goesOver, cX10_goesOver, 6, (some .boolean))
def B_X10_goesOver : List (Nat × List mI) := [(56, [(.iconst 0, 1, [], [0])]), (57, [(.ireturn, 1, [], [])])]
def S_X10_goesOver_0 : List mI := [(.iload_n 3, 1, [3], []), (.aload_n 0, 1, [0], []), (.getfield 26, 3, [10, 0, 2, 40], []), (.invokevirtual 63, 3, [0, 11, 0, 0, 66], []), (.idiv, 1, [], []), (.istore 4, 2, [4], []), (.aload_n 0, 1, [0], []), (.iload_n 1, 1, [1], []), (.iload 4, 2, [4], []), (.aload_n 0, 1, [0], []), (.getfield 26, 3, [10, 0, 2, 40], []), (.iload_n 1, 1, [1], []), (.invokevirtual 38, 3, [0, 12, 1, 0, 67], []), (.imul, 1, [], []), (.iload_n 2, 1, [2], []), (.iadd, 1, [], []), (.invokevirtual 67, 3, [0, 127, 2, 10, 68], []), (.istore 5, 2, [5], []), (.iload 5, 2, [5], []), (.iload_n 3, 1, [3], []), (.iload 4, 2, [4], []), (.aload_n 0, 1, [0], []), (.getfield 26, 3, [10, 0, 2, 40], []), (.invokevirtual 63, 3, [0, 11, 0, 0, 66], []), (.imul, 1, [], []), (.isub, 1, [], []), (.iushr, 1, [], []), (.iconst 1, 1, [], [1]), (.iand, 1, [], []), (.iconst 1, 1, [], [1]), (.if_icmp .ne 7, 3, [56], []), (.iconst 1, 1, [], [1]), (.goto 4, 3, [57], [])]
theorem lb_X10_goesOver : B_X10_goesOver.all (fun b => lst y_X10_goesOver.2.1 10 y_X10_goesOver.2.2.1 false b.1 b.2) = true := by decide +kernel
theorem ls_X10_goesOver_0 : lst y_X10_goesOver.2.1 10 y_X10_goesOver.2.2.1 false 0 S_X10_goesOver_0 = true := by decide +kernel
def C_X10_goesOver (N : Nat) : Nat → List Value → mH → (Option Value → mH → Option (Int32 × mH)) → Option (Int32 × mH) := fun j as g k => kb j 11 (pr1 as fun b0 as => pe as ((f_X0_ring N b0 g).bind fun p => k (some (.int p.1)) p.2)) (kb j 12 (pr1 as fun b0 as => pp1 as fun b1 as => pe as ((f_X0_weaversOf N b0 b1 g).bind fun p => k (some (.int p.1)) p.2)) (kb j 127 (pr1 as fun b0 as => pp1 as fun b1 as => pp1 as fun b2 as => pe as ((f_X10_rowBits N b0 b1 b2 g).bind fun p => k (some (.int p.1)) p.2)) (none)))
theorem co_X10_goesOver (N : Nat) (q : Int32 × mH) : clOK 8 q (C_X10_goesOver N) := by
  intro j as g k e
  rcases kb_s e with ⟨rfl, e⟩ | e
  · obtain ⟨b0, r0, q0, f0⟩ := pr1_s e
    obtain ⟨qe, fe⟩ := pe_s f0
    obtain ⟨p, e1, e2⟩ := bnd_s fe
    subst qe
    subst q0
    exact ⟨_, _, _, _, 4, rfl, (by decide), m_X0_ring N e1, e2⟩
  rcases kb_s e with ⟨rfl, e⟩ | e
  · obtain ⟨b0, r0, q0, f0⟩ := pr1_s e
    obtain ⟨b1, r1, q1, f1⟩ := pp1_s f0
    obtain ⟨qe, fe⟩ := pe_s f1
    obtain ⟨p, e1, e2⟩ := bnd_s fe
    subst qe
    subst q1
    subst q0
    exact ⟨_, _, _, _, 5, rfl, (by decide), m_X0_weaversOf N e1, e2⟩
  rcases kb_s e with ⟨rfl, e⟩ | e
  · obtain ⟨b0, r0, q0, f0⟩ := pr1_s e
    obtain ⟨b1, r1, q1, f1⟩ := pp1_s f0
    obtain ⟨b2, r2, q2, f2⟩ := pp1_s f1
    obtain ⟨qe, fe⟩ := pe_s f2
    obtain ⟨p, e1, e2⟩ := bnd_s fe
    subst qe
    subst q2
    subst q1
    subst q0
    exact ⟨_, _, _, _, 7, rfl, (by decide), m_X10_rowBits N e1, e2⟩
  cases e
set_option maxRecDepth 100000 in
theorem m_X10_goesOver (N : Nat) {a0 : Nat} {x1 : Int32} {x2 : Int32} {x3 : Int32} {h : mH} {q : Int32 × mH} (hf : f_X10_goesOver N a0 x1 x2 x3 h = some q) : MM y_X10_goesOver 8 [.ref a0, .int x1, .int x2, .int x3] h (some (.int q.1)) q.2 := by
  refine MM.of (mFx (j := 129) rfl).2.2.2.1 (Nat.le_of_ble_eq_true rfl) (fun X => ?_)
  refine ev_ok (o := 10) (ini := false) (Cl := C_X10_goesOver N) (Rc := RcZ) (B := B_X10_goesOver) (K := fun pc ls st g => none) rfl (fun e => by cases e) (by decide) (rcZ_ok rfl) ?_ (co_X10_goesOver N q) lb_X10_goesOver 3000 0 S_X10_goesOver_0 _ _ h ls_X10_goesOver_0 hf
  intro pc ls st g e
  cases e
def f_X10_overAt (N : Nat) (a0 : Nat) (x1 : Int32) (x2 : Int32) (x3 : Int32) (h : mH) : Option (Int32 × mH) :=
  (gR h 10 a0 0).bind fun v1 =>
  (rcv h 0 v1).bind fun _ =>
  (f_X0_weaversOf N v1 x1 h).bind fun p2 =>
  if p2.1 = 0 then none else
  let w3 := iRem x2 p2.1
  (rcv p2.2 10 a0).bind fun _ =>
  (f_X10_rowBits N a0 x1 x2 p2.2).bind fun p4 =>
  (gR p4.2 10 a0 0).bind fun v5 =>
  (rcv p4.2 0 v5).bind fun _ =>
  (f_X0_offsetOf N v5 x1 w3 x3 p4.2).bind fun p6 =>
  if (iAnd (iUsr p4.1 p6.1) (jI 1)) = (jI 1) then
    some (jI 1, p6.2)
  else
    some (jI 0, p6.2)
def y_X10_overAt : mM := (yX10_overAt, cX10_overAt, 5, (some .boolean))
def B_X10_overAt : List (Nat × List mI) := [(40, [(.iconst 0, 1, [], [0])]), (41, [(.ireturn, 1, [], [])])]
def S_X10_overAt_0 : List mI := [(.iload_n 2, 1, [2], []), (.aload_n 0, 1, [0], []), (.getfield 26, 3, [10, 0, 2, 40], []), (.iload_n 1, 1, [1], []), (.invokevirtual 38, 3, [0, 12, 1, 0, 67], []), (.irem, 1, [], []), (.istore 4, 2, [4], []), (.aload_n 0, 1, [0], []), (.iload_n 1, 1, [1], []), (.iload_n 2, 1, [2], []), (.invokevirtual 67, 3, [0, 127, 2, 10, 68], []), (.aload_n 0, 1, [0], []), (.getfield 26, 3, [10, 0, 2, 40], []), (.iload_n 1, 1, [1], []), (.iload 4, 2, [4], []), (.iload_n 3, 1, [3], []), (.invokevirtual 70, 3, [0, 19, 3, 0, 83], []), (.iushr, 1, [], []), (.iconst 1, 1, [], [1]), (.iand, 1, [], []), (.iconst 1, 1, [], [1]), (.if_icmp .ne 7, 3, [40], []), (.iconst 1, 1, [], [1]), (.goto 4, 3, [41], [])]
theorem lb_X10_overAt : B_X10_overAt.all (fun b => lst y_X10_overAt.2.1 10 y_X10_overAt.2.2.1 false b.1 b.2) = true := by decide +kernel
theorem ls_X10_overAt_0 : lst y_X10_overAt.2.1 10 y_X10_overAt.2.2.1 false 0 S_X10_overAt_0 = true := by decide +kernel
def C_X10_overAt (N : Nat) : Nat → List Value → mH → (Option Value → mH → Option (Int32 × mH)) → Option (Int32 × mH) := fun j as g k => kb j 12 (pr1 as fun b0 as => pp1 as fun b1 as => pe as ((f_X0_weaversOf N b0 b1 g).bind fun p => k (some (.int p.1)) p.2)) (kb j 127 (pr1 as fun b0 as => pp1 as fun b1 as => pp1 as fun b2 as => pe as ((f_X10_rowBits N b0 b1 b2 g).bind fun p => k (some (.int p.1)) p.2)) (kb j 19 (pr1 as fun b0 as => pp1 as fun b1 as => pp1 as fun b2 as => pp1 as fun b3 as => pe as ((f_X0_offsetOf N b0 b1 b2 b3 g).bind fun p => k (some (.int p.1)) p.2)) (none)))
theorem co_X10_overAt (N : Nat) (q : Int32 × mH) : clOK 8 q (C_X10_overAt N) := by
  intro j as g k e
  rcases kb_s e with ⟨rfl, e⟩ | e
  · obtain ⟨b0, r0, q0, f0⟩ := pr1_s e
    obtain ⟨b1, r1, q1, f1⟩ := pp1_s f0
    obtain ⟨qe, fe⟩ := pe_s f1
    obtain ⟨p, e1, e2⟩ := bnd_s fe
    subst qe
    subst q1
    subst q0
    exact ⟨_, _, _, _, 5, rfl, (by decide), m_X0_weaversOf N e1, e2⟩
  rcases kb_s e with ⟨rfl, e⟩ | e
  · obtain ⟨b0, r0, q0, f0⟩ := pr1_s e
    obtain ⟨b1, r1, q1, f1⟩ := pp1_s f0
    obtain ⟨b2, r2, q2, f2⟩ := pp1_s f1
    obtain ⟨qe, fe⟩ := pe_s f2
    obtain ⟨p, e1, e2⟩ := bnd_s fe
    subst qe
    subst q2
    subst q1
    subst q0
    exact ⟨_, _, _, _, 7, rfl, (by decide), m_X10_rowBits N e1, e2⟩
  rcases kb_s e with ⟨rfl, e⟩ | e
  · obtain ⟨b0, r0, q0, f0⟩ := pr1_s e
    obtain ⟨b1, r1, q1, f1⟩ := pp1_s f0
    obtain ⟨b2, r2, q2, f2⟩ := pp1_s f1
    obtain ⟨b3, r3, q3, f3⟩ := pp1_s f2
    obtain ⟨qe, fe⟩ := pe_s f3
    obtain ⟨p, e1, e2⟩ := bnd_s fe
    subst qe
    subst q3
    subst q2
    subst q1
    subst q0
    exact ⟨_, _, _, _, 5, rfl, (by decide), m_X0_offsetOf N e1, e2⟩
  cases e
set_option maxRecDepth 100000 in
theorem m_X10_overAt (N : Nat) {a0 : Nat} {x1 : Int32} {x2 : Int32} {x3 : Int32} {h : mH} {q : Int32 × mH} (hf : f_X10_overAt N a0 x1 x2 x3 h = some q) : MM y_X10_overAt 8 [.ref a0, .int x1, .int x2, .int x3] h (some (.int q.1)) q.2 := by
  refine MM.of (mFx (j := 130) rfl).2.2.2.1 (Nat.le_of_ble_eq_true rfl) (fun X => ?_)
  refine ev_ok (o := 10) (ini := false) (Cl := C_X10_overAt N) (Rc := RcZ) (B := B_X10_overAt) (K := fun pc ls st g => none) rfl (fun e => by cases e) (by decide) (rcZ_ok rfl) ?_ (co_X10_overAt N q) lb_X10_overAt 3000 0 S_X10_overAt_0 _ _ h ls_X10_overAt_0 hf
  intro pc ls st g e
  cases e
def f_X10_kindSeen (N : Nat) (a0 : Nat) (x1 : Int32) (x2 : Int32) (x3 : Int32) (x4 : Int32) (h : mH) : Option (Int32 × mH) :=
  (rcv h 10 a0).bind fun _ =>
  (f_X10_overAt N a0 x1 x2 x3 h).bind fun p1 =>
  if p1.1 = x4 then
    some (jI (-1), p1.2)
  else
    (gR p1.2 10 a0 0).bind fun v2 =>
    (gR p1.2 10 a0 0).bind fun v3 =>
    (rcv p1.2 0 v3).bind fun _ =>
    (f_X0_weaversOf N v3 x1 p1.2).bind fun p4 =>
    if p4.1 = 0 then none else
    (rcv p4.2 0 v2).bind fun _ =>
    (f_X0_kindOf N v2 x1 (iRem x2 p4.1) p4.2).bind fun p5 =>
    some (p5.1, p5.2)
def y_X10_kindSeen : mM := (yX10_kindSeen, cX10_kindSeen, 5, (some .int))
def B_X10_kindSeen : List (Nat × List mI) := [(14, [(.aload_n 0, 1, [0], []), (.getfield 26, 3, [10, 0, 2, 40], []), (.iload_n 1, 1, [1], []), (.iload_n 2, 1, [2], []), (.aload_n 0, 1, [0], []), (.getfield 26, 3, [10, 0, 2, 40], []), (.iload_n 1, 1, [1], []), (.invokevirtual 38, 3, [0, 12, 1, 0, 67], []), (.irem, 1, [], []), (.invokevirtual 77, 3, [0, 10, 2, 0, 84], []), (.ireturn, 1, [], [])])]
def S_X10_kindSeen_0 : List mI := [(.aload_n 0, 1, [0], []), (.iload_n 1, 1, [1], []), (.iload_n 2, 1, [2], []), (.iload_n 3, 1, [3], []), (.invokevirtual 73, 3, [0, 130, 3, 10, 82], []), (.iload 4, 2, [4], []), (.if_icmp .ne 5, 3, [14], []), (.iconst (-1), 1, [], [-1]), (.ireturn, 1, [], [])]
theorem lb_X10_kindSeen : B_X10_kindSeen.all (fun b => lst y_X10_kindSeen.2.1 10 y_X10_kindSeen.2.2.1 false b.1 b.2) = true := by decide +kernel
theorem ls_X10_kindSeen_0 : lst y_X10_kindSeen.2.1 10 y_X10_kindSeen.2.2.1 false 0 S_X10_kindSeen_0 = true := by decide +kernel
def C_X10_kindSeen (N : Nat) : Nat → List Value → mH → (Option Value → mH → Option (Int32 × mH)) → Option (Int32 × mH) := fun j as g k => kb j 130 (pr1 as fun b0 as => pp1 as fun b1 as => pp1 as fun b2 as => pp1 as fun b3 as => pe as ((f_X10_overAt N b0 b1 b2 b3 g).bind fun p => k (some (.int p.1)) p.2)) (kb j 12 (pr1 as fun b0 as => pp1 as fun b1 as => pe as ((f_X0_weaversOf N b0 b1 g).bind fun p => k (some (.int p.1)) p.2)) (kb j 10 (pr1 as fun b0 as => pp1 as fun b1 as => pp1 as fun b2 as => pe as ((f_X0_kindOf N b0 b1 b2 g).bind fun p => k (some (.int p.1)) p.2)) (none)))
theorem co_X10_kindSeen (N : Nat) (q : Int32 × mH) : clOK 9 q (C_X10_kindSeen N) := by
  intro j as g k e
  rcases kb_s e with ⟨rfl, e⟩ | e
  · obtain ⟨b0, r0, q0, f0⟩ := pr1_s e
    obtain ⟨b1, r1, q1, f1⟩ := pp1_s f0
    obtain ⟨b2, r2, q2, f2⟩ := pp1_s f1
    obtain ⟨b3, r3, q3, f3⟩ := pp1_s f2
    obtain ⟨qe, fe⟩ := pe_s f3
    obtain ⟨p, e1, e2⟩ := bnd_s fe
    subst qe
    subst q3
    subst q2
    subst q1
    subst q0
    exact ⟨_, _, _, _, 8, rfl, (by decide), m_X10_overAt N e1, e2⟩
  rcases kb_s e with ⟨rfl, e⟩ | e
  · obtain ⟨b0, r0, q0, f0⟩ := pr1_s e
    obtain ⟨b1, r1, q1, f1⟩ := pp1_s f0
    obtain ⟨qe, fe⟩ := pe_s f1
    obtain ⟨p, e1, e2⟩ := bnd_s fe
    subst qe
    subst q1
    subst q0
    exact ⟨_, _, _, _, 5, rfl, (by decide), m_X0_weaversOf N e1, e2⟩
  rcases kb_s e with ⟨rfl, e⟩ | e
  · obtain ⟨b0, r0, q0, f0⟩ := pr1_s e
    obtain ⟨b1, r1, q1, f1⟩ := pp1_s f0
    obtain ⟨b2, r2, q2, f2⟩ := pp1_s f1
    obtain ⟨qe, fe⟩ := pe_s f2
    obtain ⟨p, e1, e2⟩ := bnd_s fe
    subst qe
    subst q2
    subst q1
    subst q0
    exact ⟨_, _, _, _, 5, rfl, (by decide), m_X0_kindOf N e1, e2⟩
  cases e
set_option maxRecDepth 100000 in
theorem m_X10_kindSeen (N : Nat) {a0 : Nat} {x1 : Int32} {x2 : Int32} {x3 : Int32} {x4 : Int32} {h : mH} {q : Int32 × mH} (hf : f_X10_kindSeen N a0 x1 x2 x3 x4 h = some q) : MM y_X10_kindSeen 9 [.ref a0, .int x1, .int x2, .int x3, .int x4] h (some (.int q.1)) q.2 := by
  refine MM.of (mFx (j := 131) rfl).2.2.2.1 (Nat.le_of_ble_eq_true rfl) (fun X => ?_)
  refine ev_ok (o := 10) (ini := false) (Cl := C_X10_kindSeen N) (Rc := RcI) (B := B_X10_kindSeen) (K := fun pc ls st g => none) rfl (fun e => by cases e) (by decide) (rcI_ok rfl) ?_ (co_X10_kindSeen N q) lb_X10_kindSeen 3000 0 S_X10_kindSeen_0 _ _ h ls_X10_kindSeen_0 hf
  intro pc ls st g e
  cases e
def L_X10_oversAt_5 (N : Nat) : Nat → Nat → Int32 → Int32 → Int32 → Int32 → mH → Option (Int32 × mH)
  | 0, _, _, _, _, _, _ => none
  | n + 1, a0, x1, x2, x3, x4, h =>
    (gR h 10 a0 0).bind fun v1 =>
    (rcv h 0 v1).bind fun _ =>
    (f_X0_rowsOf N v1 x1 h).bind fun p2 =>
    if x4 < p2.1 then
      (rcv p2.2 10 a0).bind fun _ =>
      (f_X10_overAt N a0 x1 x4 x2 p2.2).bind fun p3 =>
      if p3.1 = 0 then
        let w4 := iAdd x4 (jI 1)
        L_X10_oversAt_5 N n a0 x1 x2 x3 w4 p3.2
      else
        let w5 := iAdd x3 (jI 1)
        let w6 := iAdd x4 (jI 1)
        L_X10_oversAt_5 N n a0 x1 x2 w5 w6 p3.2
    else
      some (x3, p2.2)
def f_X10_oversAt (N : Nat) (a0 : Nat) (x1 : Int32) (x2 : Int32) (h : mH) : Option (Int32 × mH) :=
  L_X10_oversAt_5 N N a0 x1 x2 (jI 0) (jI 0) h
def y_X10_oversAt : mM := (yX10_oversAt, cX10_oversAt, 5, (some .int))
def B_X10_oversAt : List (Nat × List mI) := [(32, [(.iinc 4 1, 3, [4], [1]), (.goto (-30), 3, [5], [])]), (38, [(.iload_n 3, 1, [3], []), (.ireturn, 1, [], [])])]
def S_X10_oversAt_0 : List mI := [(.iconst 0, 1, [], [0]), (.istore_n 3, 1, [3], []), (.iconst 0, 1, [], [0]), (.istore 4, 2, [4], [])]
def S_X10_oversAt_5 : List mI := [(.iload 4, 2, [4], []), (.aload_n 0, 1, [0], []), (.getfield 26, 3, [10, 0, 2, 40], []), (.iload_n 1, 1, [1], []), (.invokevirtual 80, 3, [0, 15, 1, 0, 87], []), (.if_icmp .ge 23, 3, [38], []), (.aload_n 0, 1, [0], []), (.iload_n 1, 1, [1], []), (.iload 4, 2, [4], []), (.iload_n 2, 1, [2], []), (.invokevirtual 73, 3, [0, 130, 3, 10, 82], []), (.ifCond .eq 6, 3, [32], []), (.iinc 3 1, 3, [3], [1])]
theorem lb_X10_oversAt : B_X10_oversAt.all (fun b => lst y_X10_oversAt.2.1 10 y_X10_oversAt.2.2.1 false b.1 b.2) = true := by decide +kernel
theorem ls_X10_oversAt_0 : lst y_X10_oversAt.2.1 10 y_X10_oversAt.2.2.1 false 0 S_X10_oversAt_0 = true := by decide +kernel
theorem ls_X10_oversAt_5 : lst y_X10_oversAt.2.1 10 y_X10_oversAt.2.2.1 false 5 S_X10_oversAt_5 = true := by decide +kernel
def C_X10_oversAt (N : Nat) : Nat → List Value → mH → (Option Value → mH → Option (Int32 × mH)) → Option (Int32 × mH) := fun j as g k => kb j 15 (pr1 as fun b0 as => pp1 as fun b1 as => pe as ((f_X0_rowsOf N b0 b1 g).bind fun p => k (some (.int p.1)) p.2)) (kb j 130 (pr1 as fun b0 as => pp1 as fun b1 as => pp1 as fun b2 as => pp1 as fun b3 as => pe as ((f_X10_overAt N b0 b1 b2 b3 g).bind fun p => k (some (.int p.1)) p.2)) (none))
theorem co_X10_oversAt (N : Nat) (q : Int32 × mH) : clOK 9 q (C_X10_oversAt N) := by
  intro j as g k e
  rcases kb_s e with ⟨rfl, e⟩ | e
  · obtain ⟨b0, r0, q0, f0⟩ := pr1_s e
    obtain ⟨b1, r1, q1, f1⟩ := pp1_s f0
    obtain ⟨qe, fe⟩ := pe_s f1
    obtain ⟨p, e1, e2⟩ := bnd_s fe
    subst qe
    subst q1
    subst q0
    exact ⟨_, _, _, _, 5, rfl, (by decide), m_X0_rowsOf N e1, e2⟩
  rcases kb_s e with ⟨rfl, e⟩ | e
  · obtain ⟨b0, r0, q0, f0⟩ := pr1_s e
    obtain ⟨b1, r1, q1, f1⟩ := pp1_s f0
    obtain ⟨b2, r2, q2, f2⟩ := pp1_s f1
    obtain ⟨b3, r3, q3, f3⟩ := pp1_s f2
    obtain ⟨qe, fe⟩ := pe_s f3
    obtain ⟨p, e1, e2⟩ := bnd_s fe
    subst qe
    subst q3
    subst q2
    subst q1
    subst q0
    exact ⟨_, _, _, _, 8, rfl, (by decide), m_X10_overAt N e1, e2⟩
  cases e
set_option maxRecDepth 100000 in
theorem t_X10_oversAt_5 {X : Nat × (Nat → Int32)} (N : Nat) {q : Int32 × mH} : ∀ (n : Nat) (a0 : Nat) (x1 : Int32) (x2 : Int32) (x3 : Int32) (x4 : Int32) (h : mH), L_X10_oversAt_5 N n a0 x1 x2 x3 x4 h = some q → MW X y_X10_oversAt 9 5 [(0, .ref a0), (1, .int x1), (2, .int x2), (3, .int x3), (4, .int x4)] [] h (some (.int q.1)) q.2 := by
  intro n
  induction n with
  | zero => intro a0 x1 x2 x3 x4 h hf; cases hf
  | succ n ih =>
    intro a0 x1 x2 x3 x4 h hf
    refine ev_ok (o := 10) (ini := false) (Cl := C_X10_oversAt N) (Rc := RcI) (B := B_X10_oversAt) (K := fun pc ls st g => kb pc 5 (lgr 0 ls fun a0 => lgi 1 ls fun x1 => lgi 2 ls fun x2 => lgi 3 ls fun x3 => lgi 4 ls fun x4 => pe st (L_X10_oversAt_5 N n a0 x1 x2 x3 x4 g)) (none)) rfl (fun e => by cases e) (by decide) (rcI_ok rfl) ?_ (co_X10_oversAt N q) lb_X10_oversAt 3000 5 S_X10_oversAt_5 _ _ h ls_X10_oversAt_5 hf
    intro pc ls st g e
    rcases kb_s e with ⟨rfl, e⟩ | e
    · obtain ⟨a0, e0, f0⟩ := lgr_s e
      obtain ⟨x1, e1, f1⟩ := lgi_s f0
      obtain ⟨x2, e2, f2⟩ := lgi_s f1
      obtain ⟨x3, e3, f3⟩ := lgi_s f2
      obtain ⟨x4, e4, f4⟩ := lgi_s f3
      obtain ⟨qe, fe⟩ := pe_s f4
      subst qe
      exact MW.sub (List.forall_mem_cons.mpr ⟨lg_mem e0, List.forall_mem_cons.mpr ⟨lg_mem e1, List.forall_mem_cons.mpr ⟨lg_mem e2, List.forall_mem_cons.mpr ⟨lg_mem e3, List.forall_mem_cons.mpr ⟨lg_mem e4, fun _ h => absurd h List.not_mem_nil⟩⟩⟩⟩⟩) (ih a0 x1 x2 x3 x4 g fe)
    cases e
set_option maxRecDepth 100000 in
theorem m_X10_oversAt (N : Nat) {a0 : Nat} {x1 : Int32} {x2 : Int32} {h : mH} {q : Int32 × mH} (hf : f_X10_oversAt N a0 x1 x2 h = some q) : MM y_X10_oversAt 9 [.ref a0, .int x1, .int x2] h (some (.int q.1)) q.2 := by
  refine MM.of (mFx (j := 132) rfl).2.2.2.1 (Nat.le_of_ble_eq_true rfl) (fun X => ?_)
  refine ev_ok (o := 10) (ini := false) (Cl := C_X10_oversAt N) (Rc := RcI) (B := B_X10_oversAt) (K := fun pc ls st g => kb pc 5 (lgr 0 ls fun a0 => lgi 1 ls fun x1 => lgi 2 ls fun x2 => lgi 3 ls fun x3 => lgi 4 ls fun x4 => pe st (L_X10_oversAt_5 N N a0 x1 x2 x3 x4 g)) (none)) rfl (fun e => by cases e) (by decide) (rcI_ok rfl) ?_ (co_X10_oversAt N q) lb_X10_oversAt 3000 0 S_X10_oversAt_0 _ _ h ls_X10_oversAt_0 hf
  intro pc ls st g e
  rcases kb_s e with ⟨rfl, e⟩ | e
  · obtain ⟨a0, e0, f0⟩ := lgr_s e
    obtain ⟨x1, e1, f1⟩ := lgi_s f0
    obtain ⟨x2, e2, f2⟩ := lgi_s f1
    obtain ⟨x3, e3, f3⟩ := lgi_s f2
    obtain ⟨x4, e4, f4⟩ := lgi_s f3
    obtain ⟨qe, fe⟩ := pe_s f4
    subst qe
    exact MW.sub (List.forall_mem_cons.mpr ⟨lg_mem e0, List.forall_mem_cons.mpr ⟨lg_mem e1, List.forall_mem_cons.mpr ⟨lg_mem e2, List.forall_mem_cons.mpr ⟨lg_mem e3, List.forall_mem_cons.mpr ⟨lg_mem e4, fun _ h => absurd h List.not_mem_nil⟩⟩⟩⟩⟩) (t_X10_oversAt_5 N N a0 x1 x2 x3 x4 g fe)
  cases e
def L_X10_longestRun_11 (N : Nat) : Nat → Nat → Int32 → Int32 → Int32 → Int32 → Int32 → Int32 → mH → Option (Int32 × mH)
  | 0, _, _, _, _, _, _, _, _ => none
  | n + 1, a0, x1, x2, x3, x4, x5, x6, h =>
    (gR h 10 a0 0).bind fun v1 =>
    (rcv h 0 v1).bind fun _ =>
    (f_X0_rowsOf N v1 x1 h).bind fun p2 =>
    if x6 < p2.1 then
      (rcv p2.2 10 a0).bind fun _ =>
      (f_X10_overAt N a0 x1 x6 x2 p2.2).bind fun p3 =>
      if 0 < x6 then
        if p3.1 = x5 then
          let w4 := iAdd x4 (jI 1)
          let w5 := iMax x3 w4
          let w6 := iAdd x6 (jI 1)
          L_X10_longestRun_11 N n a0 x1 x2 w5 w4 p3.1 w6 p3.2
        else
          let w7 := iMax x3 (jI 1)
          let w8 := iAdd x6 (jI 1)
          L_X10_longestRun_11 N n a0 x1 x2 w7 (jI 1) p3.1 w8 p3.2
      else
        let w9 := iMax x3 (jI 1)
        let w10 := iAdd x6 (jI 1)
        L_X10_longestRun_11 N n a0 x1 x2 w9 (jI 1) p3.1 w10 p3.2
    else
      some (x3, p2.2)
def f_X10_longestRun (N : Nat) (a0 : Nat) (x1 : Int32) (x2 : Int32) (h : mH) : Option (Int32 × mH) :=
  L_X10_longestRun_11 N N a0 x1 x2 (jI 0) (jI 0) (jI 0) (jI 0) h
def y_X10_longestRun : mM := (yX10_longestRun, cX10_longestRun, 8, (some .int))
def B_X10_longestRun : List (Nat × List mI) := [(53, [(.iconst 1, 1, [], [1])]), (54, [(.istore 4, 2, [4], []), (.iload 7, 2, [7], []), (.istore 5, 2, [5], []), (.iload_n 3, 1, [3], []), (.iload 4, 2, [4], []), (.invokestatic 83, 3, [6, 0, 0, 0, 18], []), (.istore_n 3, 1, [3], []), (.iinc 6 1, 3, [6], [1]), (.goto (-59), 3, [11], [])]), (73, [(.iload_n 3, 1, [3], []), (.ireturn, 1, [], [])])]
def S_X10_longestRun_0 : List mI := [(.iconst 0, 1, [], [0]), (.istore_n 3, 1, [3], []), (.iconst 0, 1, [], [0]), (.istore 4, 2, [4], []), (.iconst 0, 1, [], [0]), (.istore 5, 2, [5], []), (.iconst 0, 1, [], [0]), (.istore 6, 2, [6], [])]
def S_X10_longestRun_11 : List mI := [(.iload 6, 2, [6], []), (.aload_n 0, 1, [0], []), (.getfield 26, 3, [10, 0, 2, 40], []), (.iload_n 1, 1, [1], []), (.invokevirtual 80, 3, [0, 15, 1, 0, 87], []), (.if_icmp .ge 52, 3, [73], []), (.aload_n 0, 1, [0], []), (.iload_n 1, 1, [1], []), (.iload 6, 2, [6], []), (.iload_n 2, 1, [2], []), (.invokevirtual 73, 3, [0, 130, 3, 10, 82], []), (.istore 7, 2, [7], []), (.iload 6, 2, [6], []), (.ifCond .le 17, 3, [53], []), (.iload 7, 2, [7], []), (.iload 5, 2, [5], []), (.if_icmp .ne 10, 3, [53], []), (.iload 4, 2, [4], []), (.iconst 1, 1, [], [1]), (.iadd, 1, [], []), (.goto 4, 3, [54], [])]
theorem lb_X10_longestRun : B_X10_longestRun.all (fun b => lst y_X10_longestRun.2.1 10 y_X10_longestRun.2.2.1 false b.1 b.2) = true := by decide +kernel
theorem ls_X10_longestRun_0 : lst y_X10_longestRun.2.1 10 y_X10_longestRun.2.2.1 false 0 S_X10_longestRun_0 = true := by decide +kernel
theorem ls_X10_longestRun_11 : lst y_X10_longestRun.2.1 10 y_X10_longestRun.2.2.1 false 11 S_X10_longestRun_11 = true := by decide +kernel
def C_X10_longestRun (N : Nat) : Nat → List Value → mH → (Option Value → mH → Option (Int32 × mH)) → Option (Int32 × mH) := fun j as g k => kb j 15 (pr1 as fun b0 as => pp1 as fun b1 as => pe as ((f_X0_rowsOf N b0 b1 g).bind fun p => k (some (.int p.1)) p.2)) (kb j 130 (pr1 as fun b0 as => pp1 as fun b1 as => pp1 as fun b2 as => pp1 as fun b3 as => pe as ((f_X10_overAt N b0 b1 b2 b3 g).bind fun p => k (some (.int p.1)) p.2)) (none))
theorem co_X10_longestRun (N : Nat) (q : Int32 × mH) : clOK 9 q (C_X10_longestRun N) := by
  intro j as g k e
  rcases kb_s e with ⟨rfl, e⟩ | e
  · obtain ⟨b0, r0, q0, f0⟩ := pr1_s e
    obtain ⟨b1, r1, q1, f1⟩ := pp1_s f0
    obtain ⟨qe, fe⟩ := pe_s f1
    obtain ⟨p, e1, e2⟩ := bnd_s fe
    subst qe
    subst q1
    subst q0
    exact ⟨_, _, _, _, 5, rfl, (by decide), m_X0_rowsOf N e1, e2⟩
  rcases kb_s e with ⟨rfl, e⟩ | e
  · obtain ⟨b0, r0, q0, f0⟩ := pr1_s e
    obtain ⟨b1, r1, q1, f1⟩ := pp1_s f0
    obtain ⟨b2, r2, q2, f2⟩ := pp1_s f1
    obtain ⟨b3, r3, q3, f3⟩ := pp1_s f2
    obtain ⟨qe, fe⟩ := pe_s f3
    obtain ⟨p, e1, e2⟩ := bnd_s fe
    subst qe
    subst q3
    subst q2
    subst q1
    subst q0
    exact ⟨_, _, _, _, 8, rfl, (by decide), m_X10_overAt N e1, e2⟩
  cases e
set_option maxRecDepth 100000 in
theorem t_X10_longestRun_11 {X : Nat × (Nat → Int32)} (N : Nat) {q : Int32 × mH} : ∀ (n : Nat) (a0 : Nat) (x1 : Int32) (x2 : Int32) (x3 : Int32) (x4 : Int32) (x5 : Int32) (x6 : Int32) (h : mH), L_X10_longestRun_11 N n a0 x1 x2 x3 x4 x5 x6 h = some q → MW X y_X10_longestRun 9 11 [(0, .ref a0), (1, .int x1), (2, .int x2), (3, .int x3), (4, .int x4), (5, .int x5), (6, .int x6)] [] h (some (.int q.1)) q.2 := by
  intro n
  induction n with
  | zero => intro a0 x1 x2 x3 x4 x5 x6 h hf; cases hf
  | succ n ih =>
    intro a0 x1 x2 x3 x4 x5 x6 h hf
    refine ev_ok (o := 10) (ini := false) (Cl := C_X10_longestRun N) (Rc := RcI) (B := B_X10_longestRun) (K := fun pc ls st g => kb pc 11 (lgr 0 ls fun a0 => lgi 1 ls fun x1 => lgi 2 ls fun x2 => lgi 3 ls fun x3 => lgi 4 ls fun x4 => lgi 5 ls fun x5 => lgi 6 ls fun x6 => pe st (L_X10_longestRun_11 N n a0 x1 x2 x3 x4 x5 x6 g)) (none)) rfl (fun e => by cases e) (by decide) (rcI_ok rfl) ?_ (co_X10_longestRun N q) lb_X10_longestRun 3000 11 S_X10_longestRun_11 _ _ h ls_X10_longestRun_11 hf
    intro pc ls st g e
    rcases kb_s e with ⟨rfl, e⟩ | e
    · obtain ⟨a0, e0, f0⟩ := lgr_s e
      obtain ⟨x1, e1, f1⟩ := lgi_s f0
      obtain ⟨x2, e2, f2⟩ := lgi_s f1
      obtain ⟨x3, e3, f3⟩ := lgi_s f2
      obtain ⟨x4, e4, f4⟩ := lgi_s f3
      obtain ⟨x5, e5, f5⟩ := lgi_s f4
      obtain ⟨x6, e6, f6⟩ := lgi_s f5
      obtain ⟨qe, fe⟩ := pe_s f6
      subst qe
      exact MW.sub (List.forall_mem_cons.mpr ⟨lg_mem e0, List.forall_mem_cons.mpr ⟨lg_mem e1, List.forall_mem_cons.mpr ⟨lg_mem e2, List.forall_mem_cons.mpr ⟨lg_mem e3, List.forall_mem_cons.mpr ⟨lg_mem e4, List.forall_mem_cons.mpr ⟨lg_mem e5, List.forall_mem_cons.mpr ⟨lg_mem e6, fun _ h => absurd h List.not_mem_nil⟩⟩⟩⟩⟩⟩⟩) (ih a0 x1 x2 x3 x4 x5 x6 g fe)
    cases e
set_option maxRecDepth 100000 in
theorem m_X10_longestRun (N : Nat) {a0 : Nat} {x1 : Int32} {x2 : Int32} {h : mH} {q : Int32 × mH} (hf : f_X10_longestRun N a0 x1 x2 h = some q) : MM y_X10_longestRun 9 [.ref a0, .int x1, .int x2] h (some (.int q.1)) q.2 := by
  refine MM.of (mFx (j := 133) rfl).2.2.2.1 (Nat.le_of_ble_eq_true rfl) (fun X => ?_)
  refine ev_ok (o := 10) (ini := false) (Cl := C_X10_longestRun N) (Rc := RcI) (B := B_X10_longestRun) (K := fun pc ls st g => kb pc 11 (lgr 0 ls fun a0 => lgi 1 ls fun x1 => lgi 2 ls fun x2 => lgi 3 ls fun x3 => lgi 4 ls fun x4 => lgi 5 ls fun x5 => lgi 6 ls fun x6 => pe st (L_X10_longestRun_11 N N a0 x1 x2 x3 x4 x5 x6 g)) (none)) rfl (fun e => by cases e) (by decide) (rcI_ok rfl) ?_ (co_X10_longestRun N q) lb_X10_longestRun 3000 0 S_X10_longestRun_0 _ _ h ls_X10_longestRun_0 hf
  intro pc ls st g e
  rcases kb_s e with ⟨rfl, e⟩ | e
  · obtain ⟨a0, e0, f0⟩ := lgr_s e
    obtain ⟨x1, e1, f1⟩ := lgi_s f0
    obtain ⟨x2, e2, f2⟩ := lgi_s f1
    obtain ⟨x3, e3, f3⟩ := lgi_s f2
    obtain ⟨x4, e4, f4⟩ := lgi_s f3
    obtain ⟨x5, e5, f5⟩ := lgi_s f4
    obtain ⟨x6, e6, f6⟩ := lgi_s f5
    obtain ⟨qe, fe⟩ := pe_s f6
    subst qe
    exact MW.sub (List.forall_mem_cons.mpr ⟨lg_mem e0, List.forall_mem_cons.mpr ⟨lg_mem e1, List.forall_mem_cons.mpr ⟨lg_mem e2, List.forall_mem_cons.mpr ⟨lg_mem e3, List.forall_mem_cons.mpr ⟨lg_mem e4, List.forall_mem_cons.mpr ⟨lg_mem e5, List.forall_mem_cons.mpr ⟨lg_mem e6, fun _ h => absurd h List.not_mem_nil⟩⟩⟩⟩⟩⟩⟩) (t_X10_longestRun_11 N N a0 x1 x2 x3 x4 x5 x6 g fe)
  cases e
def f_X10_stakeBits (N : Nat) (a0 : Nat) (x1 : Int32) (x2 : Int32) (x3 : Int32) (h : mH) : Option (Int32 × mH) :=
  (gR h 10 a0 0).bind fun v1 =>
  (gI h 0 v1 0).bind fun v2 =>
  (gR h 10 a0 0).bind fun v3 =>
  (rcv h 0 v3).bind fun _ =>
  (f_X0_weaversOf N v3 x1 h).bind fun p4 =>
  if p4.1 = 0 then none else
  let w5 := iRem x2 p4.1
  (rcv p4.2 10 a0).bind fun _ =>
  (f_X10_rowBits N a0 x1 x2 p4.2).bind fun p6 =>
  (gR p6.2 10 a0 0).bind fun v7 =>
  (rcv p6.2 0 v7).bind fun _ =>
  (f_X0_ofBand N v7 x1 (jI 5) p6.2).bind fun p8 =>
  if p8.1 = (jI 1) then
    (f_X11_mirrored N p6.1 v2 p8.2).bind fun p9 =>
    (f_X11_turned N p9.1 (iAdd (iSub x3 w5) (jI 1)) v2 p9.2).bind fun p10 =>
    some (p10.1, p10.2)
  else
    (f_X11_turned N p6.1 (iAdd x3 w5) v2 p8.2).bind fun p11 =>
    some (p11.1, p11.2)
def y_X10_stakeBits : mM := (yX10_stakeBits, cX10_stakeBits, 7, (some .int))
def B_X10_stakeBits : List (Nat × List mI) := [(61, [(.iload 6, 2, [6], []), (.iload_n 3, 1, [3], []), (.iload 5, 2, [5], []), (.iadd, 1, [], []), (.iload 4, 2, [4], []), (.invokestatic 91, 3, [3, 222, 3, 0, 8], []), (.ireturn, 1, [], [])])]
def S_X10_stakeBits_0 : List mI := [(.aload_n 0, 1, [0], []), (.getfield 26, 3, [10, 0, 2, 40], []), (.getfield 56, 3, [0, 0, 0, 2], []), (.istore 4, 2, [4], []), (.iload_n 2, 1, [2], []), (.aload_n 0, 1, [0], []), (.getfield 26, 3, [10, 0, 2, 40], []), (.iload_n 1, 1, [1], []), (.invokevirtual 38, 3, [0, 12, 1, 0, 67], []), (.irem, 1, [], []), (.istore 5, 2, [5], []), (.aload_n 0, 1, [0], []), (.iload_n 1, 1, [1], []), (.iload_n 2, 1, [2], []), (.invokevirtual 67, 3, [0, 127, 2, 10, 68], []), (.istore 6, 2, [6], []), (.aload_n 0, 1, [0], []), (.getfield 26, 3, [10, 0, 2, 40], []), (.iload_n 1, 1, [1], []), (.iconst 5, 1, [], [5]), (.invokevirtual 46, 3, [0, 9, 2, 0, 71], []), (.iconst 1, 1, [], [1]), (.if_icmp .ne 22, 3, [61], []), (.iload 6, 2, [6], []), (.iload 4, 2, [4], []), (.invokestatic 88, 3, [3, 223, 2, 0, 7], []), (.iload_n 3, 1, [3], []), (.iload 5, 2, [5], []), (.isub, 1, [], []), (.iconst 1, 1, [], [1]), (.iadd, 1, [], []), (.iload 4, 2, [4], []), (.invokestatic 91, 3, [3, 222, 3, 0, 8], []), (.ireturn, 1, [], [])]
theorem lb_X10_stakeBits : B_X10_stakeBits.all (fun b => lst y_X10_stakeBits.2.1 10 y_X10_stakeBits.2.2.1 false b.1 b.2) = true := by decide +kernel
theorem ls_X10_stakeBits_0 : lst y_X10_stakeBits.2.1 10 y_X10_stakeBits.2.2.1 false 0 S_X10_stakeBits_0 = true := by decide +kernel
def C_X10_stakeBits (N : Nat) : Nat → List Value → mH → (Option Value → mH → Option (Int32 × mH)) → Option (Int32 × mH) := fun j as g k => kb j 12 (pr1 as fun b0 as => pp1 as fun b1 as => pe as ((f_X0_weaversOf N b0 b1 g).bind fun p => k (some (.int p.1)) p.2)) (kb j 127 (pr1 as fun b0 as => pp1 as fun b1 as => pp1 as fun b2 as => pe as ((f_X10_rowBits N b0 b1 b2 g).bind fun p => k (some (.int p.1)) p.2)) (kb j 9 (pr1 as fun b0 as => pp1 as fun b1 as => pp1 as fun b2 as => pe as ((f_X0_ofBand N b0 b1 b2 g).bind fun p => k (some (.int p.1)) p.2)) (kb j 223 (pp1 as fun b0 as => pp1 as fun b1 as => pe as ((f_X11_mirrored N b0 b1 g).bind fun p => k (some (.int p.1)) p.2)) (kb j 222 (pp1 as fun b0 as => pp1 as fun b1 as => pp1 as fun b2 as => pe as ((f_X11_turned N b0 b1 b2 g).bind fun p => k (some (.int p.1)) p.2)) (none)))))
theorem co_X10_stakeBits (N : Nat) (q : Int32 × mH) : clOK 8 q (C_X10_stakeBits N) := by
  intro j as g k e
  rcases kb_s e with ⟨rfl, e⟩ | e
  · obtain ⟨b0, r0, q0, f0⟩ := pr1_s e
    obtain ⟨b1, r1, q1, f1⟩ := pp1_s f0
    obtain ⟨qe, fe⟩ := pe_s f1
    obtain ⟨p, e1, e2⟩ := bnd_s fe
    subst qe
    subst q1
    subst q0
    exact ⟨_, _, _, _, 5, rfl, (by decide), m_X0_weaversOf N e1, e2⟩
  rcases kb_s e with ⟨rfl, e⟩ | e
  · obtain ⟨b0, r0, q0, f0⟩ := pr1_s e
    obtain ⟨b1, r1, q1, f1⟩ := pp1_s f0
    obtain ⟨b2, r2, q2, f2⟩ := pp1_s f1
    obtain ⟨qe, fe⟩ := pe_s f2
    obtain ⟨p, e1, e2⟩ := bnd_s fe
    subst qe
    subst q2
    subst q1
    subst q0
    exact ⟨_, _, _, _, 7, rfl, (by decide), m_X10_rowBits N e1, e2⟩
  rcases kb_s e with ⟨rfl, e⟩ | e
  · obtain ⟨b0, r0, q0, f0⟩ := pr1_s e
    obtain ⟨b1, r1, q1, f1⟩ := pp1_s f0
    obtain ⟨b2, r2, q2, f2⟩ := pp1_s f1
    obtain ⟨qe, fe⟩ := pe_s f2
    obtain ⟨p, e1, e2⟩ := bnd_s fe
    subst qe
    subst q2
    subst q1
    subst q0
    exact ⟨_, _, _, _, 4, rfl, (by decide), m_X0_ofBand N e1, e2⟩
  rcases kb_s e with ⟨rfl, e⟩ | e
  · obtain ⟨b0, r0, q0, f0⟩ := pp1_s e
    obtain ⟨b1, r1, q1, f1⟩ := pp1_s f0
    obtain ⟨qe, fe⟩ := pe_s f1
    obtain ⟨p, e1, e2⟩ := bnd_s fe
    subst qe
    subst q1
    subst q0
    exact ⟨_, _, _, _, 4, rfl, (by decide), m_X11_mirrored N e1, e2⟩
  rcases kb_s e with ⟨rfl, e⟩ | e
  · obtain ⟨b0, r0, q0, f0⟩ := pp1_s e
    obtain ⟨b1, r1, q1, f1⟩ := pp1_s f0
    obtain ⟨b2, r2, q2, f2⟩ := pp1_s f1
    obtain ⟨qe, fe⟩ := pe_s f2
    obtain ⟨p, e1, e2⟩ := bnd_s fe
    subst qe
    subst q2
    subst q1
    subst q0
    exact ⟨_, _, _, _, 5, rfl, (by decide), m_X11_turned N e1, e2⟩
  cases e
set_option maxRecDepth 100000 in
theorem m_X10_stakeBits (N : Nat) {a0 : Nat} {x1 : Int32} {x2 : Int32} {x3 : Int32} {h : mH} {q : Int32 × mH} (hf : f_X10_stakeBits N a0 x1 x2 x3 h = some q) : MM y_X10_stakeBits 8 [.ref a0, .int x1, .int x2, .int x3] h (some (.int q.1)) q.2 := by
  refine MM.of (mFx (j := 134) rfl).2.2.2.1 (Nat.le_of_ble_eq_true rfl) (fun X => ?_)
  refine ev_ok (o := 10) (ini := false) (Cl := C_X10_stakeBits N) (Rc := RcI) (B := B_X10_stakeBits) (K := fun pc ls st g => none) rfl (fun e => by cases e) (by decide) (rcI_ok rfl) ?_ (co_X10_stakeBits N q) lb_X10_stakeBits 3000 0 S_X10_stakeBits_0 _ _ h ls_X10_stakeBits_0 hf
  intro pc ls st g e
  cases e
def f_X10_alike (N : Nat) (a0 : Nat) (x1 : Int32) (x2 : Int32) (h : mH) : Option (Int32 × mH) :=
  (gR h 10 a0 0).bind fun v1 =>
  (rcv h 0 v1).bind fun _ =>
  (f_X0_rowsOf N v1 x1 h).bind fun p2 =>
  (gR p2.2 10 a0 0).bind fun v3 =>
  (rcv p2.2 0 v3).bind fun _ =>
  (f_X0_ofBand N v3 x1 (jI 4) p2.2).bind fun p4 =>
  (rcv p4.2 10 a0).bind fun _ =>
  (f_X10_stakeBits N a0 x1 (iSub p2.1 (jI 1)) p4.1 p4.2).bind fun p5 =>
  (rcv p5.2 10 a0).bind fun _ =>
  (f_X10_stakeBits N a0 (iAdd x1 (jI 1)) (jI 0) x2 p5.2).bind fun p6 =>
  (gR p6.2 10 a0 0).bind fun v7 =>
  (gI p6.2 0 v7 0).bind fun v8 =>
  (f_J6_bitCount_0f7a4 N (iXor p5.1 p6.1) p6.2).bind fun p9 =>
  some (iSub v8 p9.1, p9.2)
def y_X10_alike : mM := (yX10_alike, cX10_alike, 5, (some .int))
def B_X10_alike : List (Nat × List mI) := []
def S_X10_alike_0 : List mI := [(.aload_n 0, 1, [0], []), (.iload_n 1, 1, [1], []), (.aload_n 0, 1, [0], []), (.getfield 26, 3, [10, 0, 2, 40], []), (.iload_n 1, 1, [1], []), (.invokevirtual 80, 3, [0, 15, 1, 0, 87], []), (.iconst 1, 1, [], [1]), (.isub, 1, [], []), (.aload_n 0, 1, [0], []), (.getfield 26, 3, [10, 0, 2, 40], []), (.iload_n 1, 1, [1], []), (.iconst 4, 1, [], [4]), (.invokevirtual 46, 3, [0, 9, 2, 0, 71], []), (.invokevirtual 94, 3, [0, 134, 3, 10, 105], []), (.istore_n 3, 1, [3], []), (.aload_n 0, 1, [0], []), (.iload_n 1, 1, [1], []), (.iconst 1, 1, [], [1]), (.iadd, 1, [], []), (.iconst 0, 1, [], [0]), (.iload_n 2, 1, [2], []), (.invokevirtual 94, 3, [0, 134, 3, 10, 105], []), (.istore 4, 2, [4], []), (.aload_n 0, 1, [0], []), (.getfield 26, 3, [10, 0, 2, 40], []), (.getfield 56, 3, [0, 0, 0, 2], []), (.iload_n 3, 1, [3], []), (.iload 4, 2, [4], []), (.ixor, 1, [], []), (.invokestatic 97, 3, [1, 345, 1, 0, 108], []), (.isub, 1, [], []), (.ireturn, 1, [], [])]
theorem lb_X10_alike : B_X10_alike.all (fun b => lst y_X10_alike.2.1 10 y_X10_alike.2.2.1 false b.1 b.2) = true := by decide +kernel
theorem ls_X10_alike_0 : lst y_X10_alike.2.1 10 y_X10_alike.2.2.1 false 0 S_X10_alike_0 = true := by decide +kernel
def C_X10_alike (N : Nat) : Nat → List Value → mH → (Option Value → mH → Option (Int32 × mH)) → Option (Int32 × mH) := fun j as g k => kb j 15 (pr1 as fun b0 as => pp1 as fun b1 as => pe as ((f_X0_rowsOf N b0 b1 g).bind fun p => k (some (.int p.1)) p.2)) (kb j 9 (pr1 as fun b0 as => pp1 as fun b1 as => pp1 as fun b2 as => pe as ((f_X0_ofBand N b0 b1 b2 g).bind fun p => k (some (.int p.1)) p.2)) (kb j 134 (pr1 as fun b0 as => pp1 as fun b1 as => pp1 as fun b2 as => pp1 as fun b3 as => pe as ((f_X10_stakeBits N b0 b1 b2 b3 g).bind fun p => k (some (.int p.1)) p.2)) (kb j 345 (pp1 as fun b0 as => pe as ((f_J6_bitCount_0f7a4 N b0 g).bind fun p => k (some (.int p.1)) p.2)) (none))))
theorem co_X10_alike (N : Nat) (q : Int32 × mH) : clOK 9 q (C_X10_alike N) := by
  intro j as g k e
  rcases kb_s e with ⟨rfl, e⟩ | e
  · obtain ⟨b0, r0, q0, f0⟩ := pr1_s e
    obtain ⟨b1, r1, q1, f1⟩ := pp1_s f0
    obtain ⟨qe, fe⟩ := pe_s f1
    obtain ⟨p, e1, e2⟩ := bnd_s fe
    subst qe
    subst q1
    subst q0
    exact ⟨_, _, _, _, 5, rfl, (by decide), m_X0_rowsOf N e1, e2⟩
  rcases kb_s e with ⟨rfl, e⟩ | e
  · obtain ⟨b0, r0, q0, f0⟩ := pr1_s e
    obtain ⟨b1, r1, q1, f1⟩ := pp1_s f0
    obtain ⟨b2, r2, q2, f2⟩ := pp1_s f1
    obtain ⟨qe, fe⟩ := pe_s f2
    obtain ⟨p, e1, e2⟩ := bnd_s fe
    subst qe
    subst q2
    subst q1
    subst q0
    exact ⟨_, _, _, _, 4, rfl, (by decide), m_X0_ofBand N e1, e2⟩
  rcases kb_s e with ⟨rfl, e⟩ | e
  · obtain ⟨b0, r0, q0, f0⟩ := pr1_s e
    obtain ⟨b1, r1, q1, f1⟩ := pp1_s f0
    obtain ⟨b2, r2, q2, f2⟩ := pp1_s f1
    obtain ⟨b3, r3, q3, f3⟩ := pp1_s f2
    obtain ⟨qe, fe⟩ := pe_s f3
    obtain ⟨p, e1, e2⟩ := bnd_s fe
    subst qe
    subst q3
    subst q2
    subst q1
    subst q0
    exact ⟨_, _, _, _, 8, rfl, (by decide), m_X10_stakeBits N e1, e2⟩
  rcases kb_s e with ⟨rfl, e⟩ | e
  · obtain ⟨b0, r0, q0, f0⟩ := pp1_s e
    obtain ⟨qe, fe⟩ := pe_s f0
    obtain ⟨p, e1, e2⟩ := bnd_s fe
    subst qe
    subst q0
    exact ⟨_, _, _, _, 4, rfl, (by decide), m_J6_bitCount_0f7a4 N e1, e2⟩
  cases e
set_option maxRecDepth 100000 in
theorem m_X10_alike (N : Nat) {a0 : Nat} {x1 : Int32} {x2 : Int32} {h : mH} {q : Int32 × mH} (hf : f_X10_alike N a0 x1 x2 h = some q) : MM y_X10_alike 9 [.ref a0, .int x1, .int x2] h (some (.int q.1)) q.2 := by
  refine MM.of (mFx (j := 135) rfl).2.2.2.1 (Nat.le_of_ble_eq_true rfl) (fun X => ?_)
  refine ev_ok (o := 10) (ini := false) (Cl := C_X10_alike N) (Rc := RcI) (B := B_X10_alike) (K := fun pc ls st g => none) rfl (fun e => by cases e) (by decide) (rcI_ok rfl) ?_ (co_X10_alike N q) lb_X10_alike 3000 0 S_X10_alike_0 _ _ h ls_X10_alike_0 hf
  intro pc ls st g e
  cases e
def L_X10_bestFrom_12 (N : Nat) : Nat → Nat → Int32 → Int32 → Int32 → Int32 → mH → Option (Int32 × mH)
  | 0, _, _, _, _, _, _ => none
  | n + 1, a0, x1, x2, x3, x4, h =>
    (gR h 10 a0 0).bind fun v1 =>
    (gI h 0 v1 0).bind fun v2 =>
    if x4 < v2 then
      (rcv h 10 a0).bind fun _ =>
      (f_X10_alike N a0 x1 x4 h).bind fun p3 =>
      if p3.1 < x3 then
        let w4 := iAdd x4 (jI 1)
        L_X10_bestFrom_12 N n a0 x1 x4 p3.1 w4 p3.2
      else
        let w5 := iAdd x4 (jI 1)
        L_X10_bestFrom_12 N n a0 x1 x2 x3 w5 p3.2
    else
      some (x2, h)
def f_X10_bestFrom (N : Nat) (a0 : Nat) (x1 : Int32) (h : mH) : Option (Int32 × mH) :=
  (rcv h 10 a0).bind fun _ =>
  (f_X10_alike N a0 x1 (jI 0) h).bind fun p1 =>
  L_X10_bestFrom_12 N N a0 x1 (jI 0) p1.1 (jI 1) p1.2
def y_X10_bestFrom : mM := (yX10_bestFrom, cX10_bestFrom, 6, (some .int))
def B_X10_bestFrom : List (Nat × List mI) := [(45, [(.iinc 4 1, 3, [4], [1]), (.goto (-36), 3, [12], [])]), (51, [(.iload_n 2, 1, [2], []), (.ireturn, 1, [], [])])]
def S_X10_bestFrom_0 : List mI := [(.iconst 0, 1, [], [0]), (.istore_n 2, 1, [2], []), (.aload_n 0, 1, [0], []), (.iload_n 1, 1, [1], []), (.iconst 0, 1, [], [0]), (.invokevirtual 102, 3, [0, 135, 2, 10, 111], []), (.istore_n 3, 1, [3], []), (.iconst 1, 1, [], [1]), (.istore 4, 2, [4], [])]
def S_X10_bestFrom_12 : List mI := [(.iload 4, 2, [4], []), (.aload_n 0, 1, [0], []), (.getfield 26, 3, [10, 0, 2, 40], []), (.getfield 56, 3, [0, 0, 0, 2], []), (.if_icmp .ge 30, 3, [51], []), (.aload_n 0, 1, [0], []), (.iload_n 1, 1, [1], []), (.iload 4, 2, [4], []), (.invokevirtual 102, 3, [0, 135, 2, 10, 111], []), (.istore 5, 2, [5], []), (.iload 5, 2, [5], []), (.iload_n 3, 1, [3], []), (.if_icmp .ge 9, 3, [45], []), (.iload 5, 2, [5], []), (.istore_n 3, 1, [3], []), (.iload 4, 2, [4], []), (.istore_n 2, 1, [2], [])]
theorem lb_X10_bestFrom : B_X10_bestFrom.all (fun b => lst y_X10_bestFrom.2.1 10 y_X10_bestFrom.2.2.1 false b.1 b.2) = true := by decide +kernel
theorem ls_X10_bestFrom_0 : lst y_X10_bestFrom.2.1 10 y_X10_bestFrom.2.2.1 false 0 S_X10_bestFrom_0 = true := by decide +kernel
theorem ls_X10_bestFrom_12 : lst y_X10_bestFrom.2.1 10 y_X10_bestFrom.2.2.1 false 12 S_X10_bestFrom_12 = true := by decide +kernel
def C_X10_bestFrom (N : Nat) : Nat → List Value → mH → (Option Value → mH → Option (Int32 × mH)) → Option (Int32 × mH) := fun j as g k => kb j 135 (pr1 as fun b0 as => pp1 as fun b1 as => pp1 as fun b2 as => pe as ((f_X10_alike N b0 b1 b2 g).bind fun p => k (some (.int p.1)) p.2)) (none)
theorem co_X10_bestFrom (N : Nat) (q : Int32 × mH) : clOK 10 q (C_X10_bestFrom N) := by
  intro j as g k e
  rcases kb_s e with ⟨rfl, e⟩ | e
  · obtain ⟨b0, r0, q0, f0⟩ := pr1_s e
    obtain ⟨b1, r1, q1, f1⟩ := pp1_s f0
    obtain ⟨b2, r2, q2, f2⟩ := pp1_s f1
    obtain ⟨qe, fe⟩ := pe_s f2
    obtain ⟨p, e1, e2⟩ := bnd_s fe
    subst qe
    subst q2
    subst q1
    subst q0
    exact ⟨_, _, _, _, 9, rfl, (by decide), m_X10_alike N e1, e2⟩
  cases e
set_option maxRecDepth 100000 in
theorem t_X10_bestFrom_12 {X : Nat × (Nat → Int32)} (N : Nat) {q : Int32 × mH} : ∀ (n : Nat) (a0 : Nat) (x1 : Int32) (x2 : Int32) (x3 : Int32) (x4 : Int32) (h : mH), L_X10_bestFrom_12 N n a0 x1 x2 x3 x4 h = some q → MW X y_X10_bestFrom 10 12 [(0, .ref a0), (1, .int x1), (2, .int x2), (3, .int x3), (4, .int x4)] [] h (some (.int q.1)) q.2 := by
  intro n
  induction n with
  | zero => intro a0 x1 x2 x3 x4 h hf; cases hf
  | succ n ih =>
    intro a0 x1 x2 x3 x4 h hf
    refine ev_ok (o := 10) (ini := false) (Cl := C_X10_bestFrom N) (Rc := RcI) (B := B_X10_bestFrom) (K := fun pc ls st g => kb pc 12 (lgr 0 ls fun a0 => lgi 1 ls fun x1 => lgi 2 ls fun x2 => lgi 3 ls fun x3 => lgi 4 ls fun x4 => pe st (L_X10_bestFrom_12 N n a0 x1 x2 x3 x4 g)) (none)) rfl (fun e => by cases e) (by decide) (rcI_ok rfl) ?_ (co_X10_bestFrom N q) lb_X10_bestFrom 3000 12 S_X10_bestFrom_12 _ _ h ls_X10_bestFrom_12 hf
    intro pc ls st g e
    rcases kb_s e with ⟨rfl, e⟩ | e
    · obtain ⟨a0, e0, f0⟩ := lgr_s e
      obtain ⟨x1, e1, f1⟩ := lgi_s f0
      obtain ⟨x2, e2, f2⟩ := lgi_s f1
      obtain ⟨x3, e3, f3⟩ := lgi_s f2
      obtain ⟨x4, e4, f4⟩ := lgi_s f3
      obtain ⟨qe, fe⟩ := pe_s f4
      subst qe
      exact MW.sub (List.forall_mem_cons.mpr ⟨lg_mem e0, List.forall_mem_cons.mpr ⟨lg_mem e1, List.forall_mem_cons.mpr ⟨lg_mem e2, List.forall_mem_cons.mpr ⟨lg_mem e3, List.forall_mem_cons.mpr ⟨lg_mem e4, fun _ h => absurd h List.not_mem_nil⟩⟩⟩⟩⟩) (ih a0 x1 x2 x3 x4 g fe)
    cases e
set_option maxRecDepth 100000 in
theorem m_X10_bestFrom (N : Nat) {a0 : Nat} {x1 : Int32} {h : mH} {q : Int32 × mH} (hf : f_X10_bestFrom N a0 x1 h = some q) : MM y_X10_bestFrom 10 [.ref a0, .int x1] h (some (.int q.1)) q.2 := by
  refine MM.of (mFx (j := 136) rfl).2.2.2.1 (Nat.le_of_ble_eq_true rfl) (fun X => ?_)
  refine ev_ok (o := 10) (ini := false) (Cl := C_X10_bestFrom N) (Rc := RcI) (B := B_X10_bestFrom) (K := fun pc ls st g => kb pc 12 (lgr 0 ls fun a0 => lgi 1 ls fun x1 => lgi 2 ls fun x2 => lgi 3 ls fun x3 => lgi 4 ls fun x4 => pe st (L_X10_bestFrom_12 N N a0 x1 x2 x3 x4 g)) (none)) rfl (fun e => by cases e) (by decide) (rcI_ok rfl) ?_ (co_X10_bestFrom N q) lb_X10_bestFrom 3000 0 S_X10_bestFrom_0 _ _ h ls_X10_bestFrom_0 hf
  intro pc ls st g e
  rcases kb_s e with ⟨rfl, e⟩ | e
  · obtain ⟨a0, e0, f0⟩ := lgr_s e
    obtain ⟨x1, e1, f1⟩ := lgi_s f0
    obtain ⟨x2, e2, f2⟩ := lgi_s f1
    obtain ⟨x3, e3, f3⟩ := lgi_s f2
    obtain ⟨x4, e4, f4⟩ := lgi_s f3
    obtain ⟨qe, fe⟩ := pe_s f4
    subst qe
    exact MW.sub (List.forall_mem_cons.mpr ⟨lg_mem e0, List.forall_mem_cons.mpr ⟨lg_mem e1, List.forall_mem_cons.mpr ⟨lg_mem e2, List.forall_mem_cons.mpr ⟨lg_mem e3, List.forall_mem_cons.mpr ⟨lg_mem e4, fun _ h => absurd h List.not_mem_nil⟩⟩⟩⟩⟩) (t_X10_bestFrom_12 N N a0 x1 x2 x3 x4 g fe)
  cases e
def L_X10_turnBetween_59 (N : Nat) : Nat → Nat → Int32 → Int32 → Int32 → mH → Option (Int32 × mH)
  | 0, _, _, _, _, _ => none
  | n + 1, a0, x6, x7, x8, h =>
    (gR h 10 a0 0).bind fun v1 =>
    (gI h 0 v1 0).bind fun v2 =>
    if x8 < v2 then
      (gR h 10 a0 0).bind fun v3 =>
      (gI h 0 v3 0).bind fun v4 =>
      (f_X11_turned N x6 x8 v4 h).bind fun p5 =>
      if p5.1 = x7 then
        some (x8, p5.2)
      else
        let w6 := iAdd x8 (jI 1)
        L_X10_turnBetween_59 N n a0 x6 x7 w6 p5.2
    else
      some (jI (-1), h)
def f_X10_turnBetween (N : Nat) (a0 : Nat) (x1 : Int32) (x2 : Int32) (x3 : Int32) (h : mH) : Option (Int32 × mH) :=
  (gR h 10 a0 0).bind fun v1 =>
  (rcv h 0 v1).bind fun _ =>
  (f_X0_weaversOf N v1 x1 h).bind fun p2 =>
  let w3 := iAdd (iMul x3 p2.1) x2
  (gR p2.2 10 a0 0).bind fun v4 =>
  (rcv p2.2 0 v4).bind fun _ =>
  (f_X0_ofBand N v4 x1 (jI 4) p2.2).bind fun p5 =>
  (rcv p5.2 10 a0).bind fun _ =>
  (f_X10_stakeBits N a0 x1 w3 p5.1 p5.2).bind fun p6 =>
  (gR p6.2 10 a0 0).bind fun v7 =>
  (rcv p6.2 0 v7).bind fun _ =>
  (f_X0_weaversOf N v7 x1 p6.2).bind fun p8 =>
  (rcv p8.2 10 a0).bind fun _ =>
  (f_X10_stakeBits N a0 x1 (iAdd w3 p8.1) p5.1 p8.2).bind fun p9 =>
  L_X10_turnBetween_59 N N a0 p6.1 p9.1 (jI 0) p9.2
def y_X10_turnBetween : mM := (yX10_turnBetween, cX10_turnBetween, 9, (some .int))
def B_X10_turnBetween : List (Nat × List mI) := [(93, [(.iinc 8 1, 3, [8], [1]), (.goto (-37), 3, [59], [])]), (99, [(.iconst (-1), 1, [], [-1]), (.ireturn, 1, [], [])])]
def S_X10_turnBetween_0 : List mI := [(.iload_n 3, 1, [3], []), (.aload_n 0, 1, [0], []), (.getfield 26, 3, [10, 0, 2, 40], []), (.iload_n 1, 1, [1], []), (.invokevirtual 38, 3, [0, 12, 1, 0, 67], []), (.imul, 1, [], []), (.iload_n 2, 1, [2], []), (.iadd, 1, [], []), (.istore 4, 2, [4], []), (.aload_n 0, 1, [0], []), (.getfield 26, 3, [10, 0, 2, 40], []), (.iload_n 1, 1, [1], []), (.iconst 4, 1, [], [4]), (.invokevirtual 46, 3, [0, 9, 2, 0, 71], []), (.istore 5, 2, [5], []), (.aload_n 0, 1, [0], []), (.iload_n 1, 1, [1], []), (.iload 4, 2, [4], []), (.iload 5, 2, [5], []), (.invokevirtual 94, 3, [0, 134, 3, 10, 105], []), (.istore 6, 2, [6], []), (.aload_n 0, 1, [0], []), (.iload_n 1, 1, [1], []), (.iload 4, 2, [4], []), (.aload_n 0, 1, [0], []), (.getfield 26, 3, [10, 0, 2, 40], []), (.iload_n 1, 1, [1], []), (.invokevirtual 38, 3, [0, 12, 1, 0, 67], []), (.iadd, 1, [], []), (.iload 5, 2, [5], []), (.invokevirtual 94, 3, [0, 134, 3, 10, 105], []), (.istore 7, 2, [7], []), (.iconst 0, 1, [], [0]), (.istore 8, 2, [8], [])]
def S_X10_turnBetween_59 : List mI := [(.iload 8, 2, [8], []), (.aload_n 0, 1, [0], []), (.getfield 26, 3, [10, 0, 2, 40], []), (.getfield 56, 3, [0, 0, 0, 2], []), (.if_icmp .ge 31, 3, [99], []), (.iload 6, 2, [6], []), (.iload 8, 2, [8], []), (.aload_n 0, 1, [0], []), (.getfield 26, 3, [10, 0, 2, 40], []), (.getfield 56, 3, [0, 0, 0, 2], []), (.invokestatic 91, 3, [3, 222, 3, 0, 8], []), (.iload 7, 2, [7], []), (.if_icmp .ne 6, 3, [93], []), (.iload 8, 2, [8], []), (.ireturn, 1, [], [])]
theorem lb_X10_turnBetween : B_X10_turnBetween.all (fun b => lst y_X10_turnBetween.2.1 10 y_X10_turnBetween.2.2.1 false b.1 b.2) = true := by decide +kernel
theorem ls_X10_turnBetween_0 : lst y_X10_turnBetween.2.1 10 y_X10_turnBetween.2.2.1 false 0 S_X10_turnBetween_0 = true := by decide +kernel
theorem ls_X10_turnBetween_59 : lst y_X10_turnBetween.2.1 10 y_X10_turnBetween.2.2.1 false 59 S_X10_turnBetween_59 = true := by decide +kernel
def C_X10_turnBetween (N : Nat) : Nat → List Value → mH → (Option Value → mH → Option (Int32 × mH)) → Option (Int32 × mH) := fun j as g k => kb j 12 (pr1 as fun b0 as => pp1 as fun b1 as => pe as ((f_X0_weaversOf N b0 b1 g).bind fun p => k (some (.int p.1)) p.2)) (kb j 9 (pr1 as fun b0 as => pp1 as fun b1 as => pp1 as fun b2 as => pe as ((f_X0_ofBand N b0 b1 b2 g).bind fun p => k (some (.int p.1)) p.2)) (kb j 134 (pr1 as fun b0 as => pp1 as fun b1 as => pp1 as fun b2 as => pp1 as fun b3 as => pe as ((f_X10_stakeBits N b0 b1 b2 b3 g).bind fun p => k (some (.int p.1)) p.2)) (kb j 222 (pp1 as fun b0 as => pp1 as fun b1 as => pp1 as fun b2 as => pe as ((f_X11_turned N b0 b1 b2 g).bind fun p => k (some (.int p.1)) p.2)) (none))))
theorem co_X10_turnBetween (N : Nat) (q : Int32 × mH) : clOK 9 q (C_X10_turnBetween N) := by
  intro j as g k e
  rcases kb_s e with ⟨rfl, e⟩ | e
  · obtain ⟨b0, r0, q0, f0⟩ := pr1_s e
    obtain ⟨b1, r1, q1, f1⟩ := pp1_s f0
    obtain ⟨qe, fe⟩ := pe_s f1
    obtain ⟨p, e1, e2⟩ := bnd_s fe
    subst qe
    subst q1
    subst q0
    exact ⟨_, _, _, _, 5, rfl, (by decide), m_X0_weaversOf N e1, e2⟩
  rcases kb_s e with ⟨rfl, e⟩ | e
  · obtain ⟨b0, r0, q0, f0⟩ := pr1_s e
    obtain ⟨b1, r1, q1, f1⟩ := pp1_s f0
    obtain ⟨b2, r2, q2, f2⟩ := pp1_s f1
    obtain ⟨qe, fe⟩ := pe_s f2
    obtain ⟨p, e1, e2⟩ := bnd_s fe
    subst qe
    subst q2
    subst q1
    subst q0
    exact ⟨_, _, _, _, 4, rfl, (by decide), m_X0_ofBand N e1, e2⟩
  rcases kb_s e with ⟨rfl, e⟩ | e
  · obtain ⟨b0, r0, q0, f0⟩ := pr1_s e
    obtain ⟨b1, r1, q1, f1⟩ := pp1_s f0
    obtain ⟨b2, r2, q2, f2⟩ := pp1_s f1
    obtain ⟨b3, r3, q3, f3⟩ := pp1_s f2
    obtain ⟨qe, fe⟩ := pe_s f3
    obtain ⟨p, e1, e2⟩ := bnd_s fe
    subst qe
    subst q3
    subst q2
    subst q1
    subst q0
    exact ⟨_, _, _, _, 8, rfl, (by decide), m_X10_stakeBits N e1, e2⟩
  rcases kb_s e with ⟨rfl, e⟩ | e
  · obtain ⟨b0, r0, q0, f0⟩ := pp1_s e
    obtain ⟨b1, r1, q1, f1⟩ := pp1_s f0
    obtain ⟨b2, r2, q2, f2⟩ := pp1_s f1
    obtain ⟨qe, fe⟩ := pe_s f2
    obtain ⟨p, e1, e2⟩ := bnd_s fe
    subst qe
    subst q2
    subst q1
    subst q0
    exact ⟨_, _, _, _, 5, rfl, (by decide), m_X11_turned N e1, e2⟩
  cases e
set_option maxRecDepth 100000 in
theorem t_X10_turnBetween_59 {X : Nat × (Nat → Int32)} (N : Nat) {q : Int32 × mH} : ∀ (n : Nat) (a0 : Nat) (x6 : Int32) (x7 : Int32) (x8 : Int32) (h : mH), L_X10_turnBetween_59 N n a0 x6 x7 x8 h = some q → MW X y_X10_turnBetween 9 59 [(0, .ref a0), (6, .int x6), (7, .int x7), (8, .int x8)] [] h (some (.int q.1)) q.2 := by
  intro n
  induction n with
  | zero => intro a0 x6 x7 x8 h hf; cases hf
  | succ n ih =>
    intro a0 x6 x7 x8 h hf
    refine ev_ok (o := 10) (ini := false) (Cl := C_X10_turnBetween N) (Rc := RcI) (B := B_X10_turnBetween) (K := fun pc ls st g => kb pc 59 (lgr 0 ls fun a0 => lgi 6 ls fun x6 => lgi 7 ls fun x7 => lgi 8 ls fun x8 => pe st (L_X10_turnBetween_59 N n a0 x6 x7 x8 g)) (none)) rfl (fun e => by cases e) (by decide) (rcI_ok rfl) ?_ (co_X10_turnBetween N q) lb_X10_turnBetween 3000 59 S_X10_turnBetween_59 _ _ h ls_X10_turnBetween_59 hf
    intro pc ls st g e
    rcases kb_s e with ⟨rfl, e⟩ | e
    · obtain ⟨a0, e0, f0⟩ := lgr_s e
      obtain ⟨x6, e1, f1⟩ := lgi_s f0
      obtain ⟨x7, e2, f2⟩ := lgi_s f1
      obtain ⟨x8, e3, f3⟩ := lgi_s f2
      obtain ⟨qe, fe⟩ := pe_s f3
      subst qe
      exact MW.sub (List.forall_mem_cons.mpr ⟨lg_mem e0, List.forall_mem_cons.mpr ⟨lg_mem e1, List.forall_mem_cons.mpr ⟨lg_mem e2, List.forall_mem_cons.mpr ⟨lg_mem e3, fun _ h => absurd h List.not_mem_nil⟩⟩⟩⟩) (ih a0 x6 x7 x8 g fe)
    cases e
set_option maxRecDepth 100000 in
theorem m_X10_turnBetween (N : Nat) {a0 : Nat} {x1 : Int32} {x2 : Int32} {x3 : Int32} {h : mH} {q : Int32 × mH} (hf : f_X10_turnBetween N a0 x1 x2 x3 h = some q) : MM y_X10_turnBetween 9 [.ref a0, .int x1, .int x2, .int x3] h (some (.int q.1)) q.2 := by
  refine MM.of (mFx (j := 137) rfl).2.2.2.1 (Nat.le_of_ble_eq_true rfl) (fun X => ?_)
  refine ev_ok (o := 10) (ini := false) (Cl := C_X10_turnBetween N) (Rc := RcI) (B := B_X10_turnBetween) (K := fun pc ls st g => kb pc 59 (lgr 0 ls fun a0 => lgi 6 ls fun x6 => lgi 7 ls fun x7 => lgi 8 ls fun x8 => pe st (L_X10_turnBetween_59 N N a0 x6 x7 x8 g)) (none)) rfl (fun e => by cases e) (by decide) (rcI_ok rfl) ?_ (co_X10_turnBetween N q) lb_X10_turnBetween 3000 0 S_X10_turnBetween_0 _ _ h ls_X10_turnBetween_0 hf
  intro pc ls st g e
  rcases kb_s e with ⟨rfl, e⟩ | e
  · obtain ⟨a0, e0, f0⟩ := lgr_s e
    obtain ⟨x6, e1, f1⟩ := lgi_s f0
    obtain ⟨x7, e2, f2⟩ := lgi_s f1
    obtain ⟨x8, e3, f3⟩ := lgi_s f2
    obtain ⟨qe, fe⟩ := pe_s f3
    subst qe
    exact MW.sub (List.forall_mem_cons.mpr ⟨lg_mem e0, List.forall_mem_cons.mpr ⟨lg_mem e1, List.forall_mem_cons.mpr ⟨lg_mem e2, List.forall_mem_cons.mpr ⟨lg_mem e3, fun _ h => absurd h List.not_mem_nil⟩⟩⟩⟩) (t_X10_turnBetween_59 N N a0 x6 x7 x8 g fe)
  cases e
def L_X10_sameBehind_3 (N : Nat) : Nat → Nat → Int32 → Int32 → Int32 → Int32 → mH → Option (Int32 × mH)
  | 0, _, _, _, _, _, _ => none
  | n + 1, a0, x1, x2, x3, x4, h =>
    if (iAdd x4 x2) < x3 then
      (rcv h 10 a0).bind fun _ =>
      (f_X10_rowBits N a0 x1 x4 h).bind fun p1 =>
      (rcv p1.2 10 a0).bind fun _ =>
      (f_X10_rowBits N a0 x1 (iAdd x4 x2) p1.2).bind fun p2 =>
      if p1.1 = p2.1 then
        let w3 := iAdd x4 (jI 1)
        L_X10_sameBehind_3 N n a0 x1 x2 x3 w3 p2.2
      else
        some (jI 0, p2.2)
    else
      some (jI 1, h)
def f_X10_sameBehind (N : Nat) (a0 : Nat) (x1 : Int32) (x2 : Int32) (x3 : Int32) (h : mH) : Option (Int32 × mH) :=
  L_X10_sameBehind_3 N N a0 x1 x2 x3 (jI 0) h
def y_X10_sameBehind : mM := (yX10_sameBehind, cX10_sameBehind, 5, (some .boolean))
def B_X10_sameBehind : List (Nat × List mI) := [(32, [(.iinc 4 1, 3, [4], [1]), (.goto (-32), 3, [3], [])]), (38, [(.iconst 1, 1, [], [1]), (.ireturn, 1, [], [])])]
def S_X10_sameBehind_0 : List mI := [(.iconst 0, 1, [], [0]), (.istore 4, 2, [4], [])]
def S_X10_sameBehind_3 : List mI := [(.iload 4, 2, [4], []), (.iload_n 2, 1, [2], []), (.iadd, 1, [], []), (.iload_n 3, 1, [3], []), (.if_icmp .ge 30, 3, [38], []), (.aload_n 0, 1, [0], []), (.iload_n 1, 1, [1], []), (.iload 4, 2, [4], []), (.invokevirtual 67, 3, [0, 127, 2, 10, 68], []), (.aload_n 0, 1, [0], []), (.iload_n 1, 1, [1], []), (.iload 4, 2, [4], []), (.iload_n 2, 1, [2], []), (.iadd, 1, [], []), (.invokevirtual 67, 3, [0, 127, 2, 10, 68], []), (.if_icmp .eq 5, 3, [32], []), (.iconst 0, 1, [], [0]), (.ireturn, 1, [], [])]
theorem lb_X10_sameBehind : B_X10_sameBehind.all (fun b => lst y_X10_sameBehind.2.1 10 y_X10_sameBehind.2.2.1 false b.1 b.2) = true := by decide +kernel
theorem ls_X10_sameBehind_0 : lst y_X10_sameBehind.2.1 10 y_X10_sameBehind.2.2.1 false 0 S_X10_sameBehind_0 = true := by decide +kernel
theorem ls_X10_sameBehind_3 : lst y_X10_sameBehind.2.1 10 y_X10_sameBehind.2.2.1 false 3 S_X10_sameBehind_3 = true := by decide +kernel
def C_X10_sameBehind (N : Nat) : Nat → List Value → mH → (Option Value → mH → Option (Int32 × mH)) → Option (Int32 × mH) := fun j as g k => kb j 127 (pr1 as fun b0 as => pp1 as fun b1 as => pp1 as fun b2 as => pe as ((f_X10_rowBits N b0 b1 b2 g).bind fun p => k (some (.int p.1)) p.2)) (none)
theorem co_X10_sameBehind (N : Nat) (q : Int32 × mH) : clOK 8 q (C_X10_sameBehind N) := by
  intro j as g k e
  rcases kb_s e with ⟨rfl, e⟩ | e
  · obtain ⟨b0, r0, q0, f0⟩ := pr1_s e
    obtain ⟨b1, r1, q1, f1⟩ := pp1_s f0
    obtain ⟨b2, r2, q2, f2⟩ := pp1_s f1
    obtain ⟨qe, fe⟩ := pe_s f2
    obtain ⟨p, e1, e2⟩ := bnd_s fe
    subst qe
    subst q2
    subst q1
    subst q0
    exact ⟨_, _, _, _, 7, rfl, (by decide), m_X10_rowBits N e1, e2⟩
  cases e
set_option maxRecDepth 100000 in
theorem t_X10_sameBehind_3 {X : Nat × (Nat → Int32)} (N : Nat) {q : Int32 × mH} : ∀ (n : Nat) (a0 : Nat) (x1 : Int32) (x2 : Int32) (x3 : Int32) (x4 : Int32) (h : mH), L_X10_sameBehind_3 N n a0 x1 x2 x3 x4 h = some q → MW X y_X10_sameBehind 8 3 [(0, .ref a0), (1, .int x1), (2, .int x2), (3, .int x3), (4, .int x4)] [] h (some (.int q.1)) q.2 := by
  intro n
  induction n with
  | zero => intro a0 x1 x2 x3 x4 h hf; cases hf
  | succ n ih =>
    intro a0 x1 x2 x3 x4 h hf
    refine ev_ok (o := 10) (ini := false) (Cl := C_X10_sameBehind N) (Rc := RcZ) (B := B_X10_sameBehind) (K := fun pc ls st g => kb pc 3 (lgr 0 ls fun a0 => lgi 1 ls fun x1 => lgi 2 ls fun x2 => lgi 3 ls fun x3 => lgi 4 ls fun x4 => pe st (L_X10_sameBehind_3 N n a0 x1 x2 x3 x4 g)) (none)) rfl (fun e => by cases e) (by decide) (rcZ_ok rfl) ?_ (co_X10_sameBehind N q) lb_X10_sameBehind 3000 3 S_X10_sameBehind_3 _ _ h ls_X10_sameBehind_3 hf
    intro pc ls st g e
    rcases kb_s e with ⟨rfl, e⟩ | e
    · obtain ⟨a0, e0, f0⟩ := lgr_s e
      obtain ⟨x1, e1, f1⟩ := lgi_s f0
      obtain ⟨x2, e2, f2⟩ := lgi_s f1
      obtain ⟨x3, e3, f3⟩ := lgi_s f2
      obtain ⟨x4, e4, f4⟩ := lgi_s f3
      obtain ⟨qe, fe⟩ := pe_s f4
      subst qe
      exact MW.sub (List.forall_mem_cons.mpr ⟨lg_mem e0, List.forall_mem_cons.mpr ⟨lg_mem e1, List.forall_mem_cons.mpr ⟨lg_mem e2, List.forall_mem_cons.mpr ⟨lg_mem e3, List.forall_mem_cons.mpr ⟨lg_mem e4, fun _ h => absurd h List.not_mem_nil⟩⟩⟩⟩⟩) (ih a0 x1 x2 x3 x4 g fe)
    cases e
set_option maxRecDepth 100000 in
theorem m_X10_sameBehind (N : Nat) {a0 : Nat} {x1 : Int32} {x2 : Int32} {x3 : Int32} {h : mH} {q : Int32 × mH} (hf : f_X10_sameBehind N a0 x1 x2 x3 h = some q) : MM y_X10_sameBehind 8 [.ref a0, .int x1, .int x2, .int x3] h (some (.int q.1)) q.2 := by
  refine MM.of (mFx (j := 139) rfl).2.2.2.1 (Nat.le_of_ble_eq_true rfl) (fun X => ?_)
  refine ev_ok (o := 10) (ini := false) (Cl := C_X10_sameBehind N) (Rc := RcZ) (B := B_X10_sameBehind) (K := fun pc ls st g => kb pc 3 (lgr 0 ls fun a0 => lgi 1 ls fun x1 => lgi 2 ls fun x2 => lgi 3 ls fun x3 => lgi 4 ls fun x4 => pe st (L_X10_sameBehind_3 N N a0 x1 x2 x3 x4 g)) (none)) rfl (fun e => by cases e) (by decide) (rcZ_ok rfl) ?_ (co_X10_sameBehind N q) lb_X10_sameBehind 3000 0 S_X10_sameBehind_0 _ _ h ls_X10_sameBehind_0 hf
  intro pc ls st g e
  rcases kb_s e with ⟨rfl, e⟩ | e
  · obtain ⟨a0, e0, f0⟩ := lgr_s e
    obtain ⟨x1, e1, f1⟩ := lgi_s f0
    obtain ⟨x2, e2, f2⟩ := lgi_s f1
    obtain ⟨x3, e3, f3⟩ := lgi_s f2
    obtain ⟨x4, e4, f4⟩ := lgi_s f3
    obtain ⟨qe, fe⟩ := pe_s f4
    subst qe
    exact MW.sub (List.forall_mem_cons.mpr ⟨lg_mem e0, List.forall_mem_cons.mpr ⟨lg_mem e1, List.forall_mem_cons.mpr ⟨lg_mem e2, List.forall_mem_cons.mpr ⟨lg_mem e3, List.forall_mem_cons.mpr ⟨lg_mem e4, fun _ h => absurd h List.not_mem_nil⟩⟩⟩⟩⟩) (t_X10_sameBehind_3 N N a0 x1 x2 x3 x4 g fe)
  cases e
def L_X10_rowsTillAgain_18 (N : Nat) : Nat → Nat → Int32 → Int32 → Int32 → mH → Option (Int32 × mH)
  | 0, _, _, _, _, _ => none
  | n + 1, a0, x1, x2, x3, h =>
    if x3 < x2 then
      (rcv h 10 a0).bind fun _ =>
      (f_X10_sameBehind N a0 x1 x3 x2 h).bind fun p1 =>
      if p1.1 = 0 then
        (gR p1.2 10 a0 0).bind fun v2 =>
        (rcv p1.2 0 v2).bind fun _ =>
        (f_X0_weaversOf N v2 x1 p1.2).bind fun p3 =>
        let w4 := iAdd x3 p3.1
        L_X10_rowsTillAgain_18 N n a0 x1 x2 w4 p3.2
      else
        some (x3, p1.2)
    else
      some (x2, h)
def f_X10_rowsTillAgain (N : Nat) (a0 : Nat) (x1 : Int32) (h : mH) : Option (Int32 × mH) :=
  (gR h 10 a0 0).bind fun v1 =>
  (rcv h 0 v1).bind fun _ =>
  (f_X0_rowsOf N v1 x1 h).bind fun p2 =>
  (gR p2.2 10 a0 0).bind fun v3 =>
  (rcv p2.2 0 v3).bind fun _ =>
  (f_X0_weaversOf N v3 x1 p2.2).bind fun p4 =>
  L_X10_rowsTillAgain_18 N N a0 x1 p2.1 p4.1 p4.2
def y_X10_rowsTillAgain : mM := (yX10_rowsTillAgain, cX10_rowsTillAgain, 4, (some .int))
def B_X10_rowsTillAgain : List (Nat × List mI) := [(35, [(.iload_n 3, 1, [3], []), (.aload_n 0, 1, [0], []), (.getfield 26, 3, [10, 0, 2, 40], []), (.iload_n 1, 1, [1], []), (.invokevirtual 38, 3, [0, 12, 1, 0, 67], []), (.iadd, 1, [], []), (.istore_n 3, 1, [3], []), (.goto (-28), 3, [18], [])]), (49, [(.iload_n 2, 1, [2], []), (.ireturn, 1, [], [])])]
def S_X10_rowsTillAgain_0 : List mI := [(.aload_n 0, 1, [0], []), (.getfield 26, 3, [10, 0, 2, 40], []), (.iload_n 1, 1, [1], []), (.invokevirtual 80, 3, [0, 15, 1, 0, 87], []), (.istore_n 2, 1, [2], []), (.aload_n 0, 1, [0], []), (.getfield 26, 3, [10, 0, 2, 40], []), (.iload_n 1, 1, [1], []), (.invokevirtual 38, 3, [0, 12, 1, 0, 67], []), (.istore_n 3, 1, [3], [])]
def S_X10_rowsTillAgain_18 : List mI := [(.iload_n 3, 1, [3], []), (.iload_n 2, 1, [2], []), (.if_icmp .ge 29, 3, [49], []), (.aload_n 0, 1, [0], []), (.iload_n 1, 1, [1], []), (.iload_n 3, 1, [3], []), (.iload_n 2, 1, [2], []), (.invokevirtual 105, 3, [0, 139, 3, 10, 116], []), (.ifCond .eq 5, 3, [35], []), (.iload_n 3, 1, [3], []), (.ireturn, 1, [], [])]
theorem lb_X10_rowsTillAgain : B_X10_rowsTillAgain.all (fun b => lst y_X10_rowsTillAgain.2.1 10 y_X10_rowsTillAgain.2.2.1 false b.1 b.2) = true := by decide +kernel
theorem ls_X10_rowsTillAgain_0 : lst y_X10_rowsTillAgain.2.1 10 y_X10_rowsTillAgain.2.2.1 false 0 S_X10_rowsTillAgain_0 = true := by decide +kernel
theorem ls_X10_rowsTillAgain_18 : lst y_X10_rowsTillAgain.2.1 10 y_X10_rowsTillAgain.2.2.1 false 18 S_X10_rowsTillAgain_18 = true := by decide +kernel
def C_X10_rowsTillAgain (N : Nat) : Nat → List Value → mH → (Option Value → mH → Option (Int32 × mH)) → Option (Int32 × mH) := fun j as g k => kb j 15 (pr1 as fun b0 as => pp1 as fun b1 as => pe as ((f_X0_rowsOf N b0 b1 g).bind fun p => k (some (.int p.1)) p.2)) (kb j 12 (pr1 as fun b0 as => pp1 as fun b1 as => pe as ((f_X0_weaversOf N b0 b1 g).bind fun p => k (some (.int p.1)) p.2)) (kb j 139 (pr1 as fun b0 as => pp1 as fun b1 as => pp1 as fun b2 as => pp1 as fun b3 as => pe as ((f_X10_sameBehind N b0 b1 b2 b3 g).bind fun p => k (some (.int p.1)) p.2)) (none)))
theorem co_X10_rowsTillAgain (N : Nat) (q : Int32 × mH) : clOK 9 q (C_X10_rowsTillAgain N) := by
  intro j as g k e
  rcases kb_s e with ⟨rfl, e⟩ | e
  · obtain ⟨b0, r0, q0, f0⟩ := pr1_s e
    obtain ⟨b1, r1, q1, f1⟩ := pp1_s f0
    obtain ⟨qe, fe⟩ := pe_s f1
    obtain ⟨p, e1, e2⟩ := bnd_s fe
    subst qe
    subst q1
    subst q0
    exact ⟨_, _, _, _, 5, rfl, (by decide), m_X0_rowsOf N e1, e2⟩
  rcases kb_s e with ⟨rfl, e⟩ | e
  · obtain ⟨b0, r0, q0, f0⟩ := pr1_s e
    obtain ⟨b1, r1, q1, f1⟩ := pp1_s f0
    obtain ⟨qe, fe⟩ := pe_s f1
    obtain ⟨p, e1, e2⟩ := bnd_s fe
    subst qe
    subst q1
    subst q0
    exact ⟨_, _, _, _, 5, rfl, (by decide), m_X0_weaversOf N e1, e2⟩
  rcases kb_s e with ⟨rfl, e⟩ | e
  · obtain ⟨b0, r0, q0, f0⟩ := pr1_s e
    obtain ⟨b1, r1, q1, f1⟩ := pp1_s f0
    obtain ⟨b2, r2, q2, f2⟩ := pp1_s f1
    obtain ⟨b3, r3, q3, f3⟩ := pp1_s f2
    obtain ⟨qe, fe⟩ := pe_s f3
    obtain ⟨p, e1, e2⟩ := bnd_s fe
    subst qe
    subst q3
    subst q2
    subst q1
    subst q0
    exact ⟨_, _, _, _, 8, rfl, (by decide), m_X10_sameBehind N e1, e2⟩
  cases e
set_option maxRecDepth 100000 in
theorem t_X10_rowsTillAgain_18 {X : Nat × (Nat → Int32)} (N : Nat) {q : Int32 × mH} : ∀ (n : Nat) (a0 : Nat) (x1 : Int32) (x2 : Int32) (x3 : Int32) (h : mH), L_X10_rowsTillAgain_18 N n a0 x1 x2 x3 h = some q → MW X y_X10_rowsTillAgain 9 18 [(0, .ref a0), (1, .int x1), (2, .int x2), (3, .int x3)] [] h (some (.int q.1)) q.2 := by
  intro n
  induction n with
  | zero => intro a0 x1 x2 x3 h hf; cases hf
  | succ n ih =>
    intro a0 x1 x2 x3 h hf
    refine ev_ok (o := 10) (ini := false) (Cl := C_X10_rowsTillAgain N) (Rc := RcI) (B := B_X10_rowsTillAgain) (K := fun pc ls st g => kb pc 18 (lgr 0 ls fun a0 => lgi 1 ls fun x1 => lgi 2 ls fun x2 => lgi 3 ls fun x3 => pe st (L_X10_rowsTillAgain_18 N n a0 x1 x2 x3 g)) (none)) rfl (fun e => by cases e) (by decide) (rcI_ok rfl) ?_ (co_X10_rowsTillAgain N q) lb_X10_rowsTillAgain 3000 18 S_X10_rowsTillAgain_18 _ _ h ls_X10_rowsTillAgain_18 hf
    intro pc ls st g e
    rcases kb_s e with ⟨rfl, e⟩ | e
    · obtain ⟨a0, e0, f0⟩ := lgr_s e
      obtain ⟨x1, e1, f1⟩ := lgi_s f0
      obtain ⟨x2, e2, f2⟩ := lgi_s f1
      obtain ⟨x3, e3, f3⟩ := lgi_s f2
      obtain ⟨qe, fe⟩ := pe_s f3
      subst qe
      exact MW.sub (List.forall_mem_cons.mpr ⟨lg_mem e0, List.forall_mem_cons.mpr ⟨lg_mem e1, List.forall_mem_cons.mpr ⟨lg_mem e2, List.forall_mem_cons.mpr ⟨lg_mem e3, fun _ h => absurd h List.not_mem_nil⟩⟩⟩⟩) (ih a0 x1 x2 x3 g fe)
    cases e
set_option maxRecDepth 100000 in
theorem m_X10_rowsTillAgain (N : Nat) {a0 : Nat} {x1 : Int32} {h : mH} {q : Int32 × mH} (hf : f_X10_rowsTillAgain N a0 x1 h = some q) : MM y_X10_rowsTillAgain 9 [.ref a0, .int x1] h (some (.int q.1)) q.2 := by
  refine MM.of (mFx (j := 138) rfl).2.2.2.1 (Nat.le_of_ble_eq_true rfl) (fun X => ?_)
  refine ev_ok (o := 10) (ini := false) (Cl := C_X10_rowsTillAgain N) (Rc := RcI) (B := B_X10_rowsTillAgain) (K := fun pc ls st g => kb pc 18 (lgr 0 ls fun a0 => lgi 1 ls fun x1 => lgi 2 ls fun x2 => lgi 3 ls fun x3 => pe st (L_X10_rowsTillAgain_18 N N a0 x1 x2 x3 g)) (none)) rfl (fun e => by cases e) (by decide) (rcI_ok rfl) ?_ (co_X10_rowsTillAgain N q) lb_X10_rowsTillAgain 3000 0 S_X10_rowsTillAgain_0 _ _ h ls_X10_rowsTillAgain_0 hf
  intro pc ls st g e
  rcases kb_s e with ⟨rfl, e⟩ | e
  · obtain ⟨a0, e0, f0⟩ := lgr_s e
    obtain ⟨x1, e1, f1⟩ := lgi_s f0
    obtain ⟨x2, e2, f2⟩ := lgi_s f1
    obtain ⟨x3, e3, f3⟩ := lgi_s f2
    obtain ⟨qe, fe⟩ := pe_s f3
    subst qe
    exact MW.sub (List.forall_mem_cons.mpr ⟨lg_mem e0, List.forall_mem_cons.mpr ⟨lg_mem e1, List.forall_mem_cons.mpr ⟨lg_mem e2, List.forall_mem_cons.mpr ⟨lg_mem e3, fun _ h => absurd h List.not_mem_nil⟩⟩⟩⟩) (t_X10_rowsTillAgain_18 N N a0 x1 x2 x3 g fe)
  cases e
def L_X10_mostSeen_73 (N : Nat) : Nat → Nat → Int32 → Int32 → mH → Option (Int32 × mH)
  | 0, _, _, _, _ => none
  | n + 1, a0, x4, x5, h =>
    (gR h 10 a0 4).bind fun v1 =>
    (lnA h v1).bind fun v2 =>
    if x5 < v2 then
      (gR h 10 a0 4).bind fun v3 =>
      (ldI 0 h v3 x5).bind fun v4 =>
      (gR h 10 a0 4).bind fun v5 =>
      (ldI 0 h v5 x4).bind fun v6 =>
      if v6 < v4 then
        let w7 := iAdd x5 (jI 1)
        L_X10_mostSeen_73 N n a0 x5 w7 h
      else
        let w8 := iAdd x5 (jI 1)
        L_X10_mostSeen_73 N n a0 x4 w8 h
    else
      (gR h 10 a0 4).bind fun v9 =>
      (ldI 0 h v9 x4).bind fun v10 =>
      if v10 = 0 then
        some (jI (-1), h)
      else
        some (x4, h)
def L_X10_mostSeen_11 (N : Nat) : Nat → Nat → Int32 → Int32 → Int32 → Int32 → mH → Option (Int32 × mH)
  | 0, _, _, _, _, _, _ => none
  | n + 1, a0, x1, x2, x3, x4, h =>
    (gR h 10 a0 0).bind fun v1 =>
    (rcv h 0 v1).bind fun _ =>
    (f_X0_rowsOf N v1 x1 h).bind fun p2 =>
    if x4 < p2.1 then
      (rcv p2.2 10 a0).bind fun _ =>
      (f_X10_kindSeen N a0 x1 x4 x2 x3 p2.2).bind fun p3 =>
      if p3.1 < 0 then
        let w4 := iAdd x4 (jI 1)
        L_X10_mostSeen_11 N n a0 x1 x2 x3 w4 p3.2
      else
        (gR p3.2 10 a0 4).bind fun v5 =>
        (lnA p3.2 v5).bind fun v6 =>
        if p3.1 < v6 then
          (gR p3.2 10 a0 4).bind fun v7 =>
          (ldI 0 p3.2 v7 p3.1).bind fun v8 =>
          (stI 0 p3.2 v7 p3.1 (iAdd v8 (jI 1))).bind fun h9 =>
          let w10 := iAdd x4 (jI 1)
          L_X10_mostSeen_11 N n a0 x1 x2 x3 w10 h9
        else
          let w11 := iAdd x4 (jI 1)
          L_X10_mostSeen_11 N n a0 x1 x2 x3 w11 p3.2
    else
      L_X10_mostSeen_73 N N a0 (jI 0) (jI 1) p2.2
def f_X10_mostSeen (N : Nat) (a0 : Nat) (x1 : Int32) (x2 : Int32) (x3 : Int32) (h : mH) : Option (Int32 × mH) :=
  (gR h 10 a0 4).bind fun v1 =>
  (f_J7_fill_53178 N v1 (jI 0) h).bind fun h2 =>
  L_X10_mostSeen_11 N N a0 x1 x2 x3 (jI 0) h2
def y_X10_mostSeen : mM := (yX10_mostSeen, cX10_mostSeen, 6, (some .int))
def B_X10_mostSeen : List (Nat × List mI) := [(61, [(.iinc 4 1, 3, [4], [1]), (.goto (-53), 3, [11], [])]), (67, [(.iconst 0, 1, [], [0]), (.istore 4, 2, [4], []), (.iconst 1, 1, [], [1]), (.istore 5, 2, [5], [])]), (104, [(.iinc 5 1, 3, [5], [1]), (.goto (-34), 3, [73], [])]), (110, [(.aload_n 0, 1, [0], []), (.getfield 23, 3, [10, 4, 2, 44], []), (.iload 4, 2, [4], []), (.iaload, 1, [0], []), (.ifCond .ne 7, 3, [124], []), (.iconst (-1), 1, [], [-1]), (.goto 5, 3, [126], [])]), (124, [(.iload 4, 2, [4], [])]), (126, [(.ireturn, 1, [], [])])]
def S_X10_mostSeen_0 : List mI := [(.aload_n 0, 1, [0], []), (.getfield 23, 3, [10, 4, 2, 44], []), (.iconst 0, 1, [], [0]), (.invokestatic 108, 3, [1, 350, 2, 0, 119], []), (.iconst 0, 1, [], [0]), (.istore 4, 2, [4], [])]
def S_X10_mostSeen_11 : List mI := [(.iload 4, 2, [4], []), (.aload_n 0, 1, [0], []), (.getfield 26, 3, [10, 0, 2, 40], []), (.iload_n 1, 1, [1], []), (.invokevirtual 80, 3, [0, 15, 1, 0, 87], []), (.if_icmp .ge 46, 3, [67], []), (.aload_n 0, 1, [0], []), (.iload_n 1, 1, [1], []), (.iload 4, 2, [4], []), (.iload_n 2, 1, [2], []), (.iload_n 3, 1, [3], []), (.invokevirtual 114, 3, [0, 131, 4, 10, 120], []), (.istore 5, 2, [5], []), (.iload 5, 2, [5], []), (.ifCond .lt 24, 3, [61], []), (.iload 5, 2, [5], []), (.aload_n 0, 1, [0], []), (.getfield 23, 3, [10, 4, 2, 44], []), (.arraylength, 1, [0], []), (.if_icmp .ge 14, 3, [61], []), (.aload_n 0, 1, [0], []), (.getfield 23, 3, [10, 4, 2, 44], []), (.iload 5, 2, [5], []), (.dup2, 1, [], []), (.iaload, 1, [0], []), (.iconst 1, 1, [], [1]), (.iadd, 1, [], []), (.iastore, 1, [], [])]
def S_X10_mostSeen_73 : List mI := [(.iload 5, 2, [5], []), (.aload_n 0, 1, [0], []), (.getfield 23, 3, [10, 4, 2, 44], []), (.arraylength, 1, [0], []), (.if_icmp .ge 30, 3, [110], []), (.aload_n 0, 1, [0], []), (.getfield 23, 3, [10, 4, 2, 44], []), (.iload 5, 2, [5], []), (.iaload, 1, [0], []), (.aload_n 0, 1, [0], []), (.getfield 23, 3, [10, 4, 2, 44], []), (.iload 4, 2, [4], []), (.iaload, 1, [0], []), (.if_icmp .le 7, 3, [104], []), (.iload 5, 2, [5], []), (.istore 4, 2, [4], [])]
theorem lb_X10_mostSeen : B_X10_mostSeen.all (fun b => lst y_X10_mostSeen.2.1 10 y_X10_mostSeen.2.2.1 false b.1 b.2) = true := by decide +kernel
theorem ls_X10_mostSeen_0 : lst y_X10_mostSeen.2.1 10 y_X10_mostSeen.2.2.1 false 0 S_X10_mostSeen_0 = true := by decide +kernel
theorem ls_X10_mostSeen_11 : lst y_X10_mostSeen.2.1 10 y_X10_mostSeen.2.2.1 false 11 S_X10_mostSeen_11 = true := by decide +kernel
theorem ls_X10_mostSeen_73 : lst y_X10_mostSeen.2.1 10 y_X10_mostSeen.2.2.1 false 73 S_X10_mostSeen_73 = true := by decide +kernel
def C_X10_mostSeen (N : Nat) : Nat → List Value → mH → (Option Value → mH → Option (Int32 × mH)) → Option (Int32 × mH) := fun j as g k => kb j 350 (pr1 as fun b0 as => pp1 as fun b1 as => pe as ((f_J7_fill_53178 N b0 b1 g).bind fun p => k none p)) (kb j 15 (pr1 as fun b0 as => pp1 as fun b1 as => pe as ((f_X0_rowsOf N b0 b1 g).bind fun p => k (some (.int p.1)) p.2)) (kb j 131 (pr1 as fun b0 as => pp1 as fun b1 as => pp1 as fun b2 as => pp1 as fun b3 as => pp1 as fun b4 as => pe as ((f_X10_kindSeen N b0 b1 b2 b3 b4 g).bind fun p => k (some (.int p.1)) p.2)) (none)))
theorem co_X10_mostSeen (N : Nat) (q : Int32 × mH) : clOK 10 q (C_X10_mostSeen N) := by
  intro j as g k e
  rcases kb_s e with ⟨rfl, e⟩ | e
  · obtain ⟨b0, r0, q0, f0⟩ := pr1_s e
    obtain ⟨b1, r1, q1, f1⟩ := pp1_s f0
    obtain ⟨qe, fe⟩ := pe_s f1
    obtain ⟨p, e1, e2⟩ := bnd_s fe
    subst qe
    subst q1
    subst q0
    exact ⟨_, _, _, _, 4, rfl, (by decide), m_J7_fill_53178 N e1, e2⟩
  rcases kb_s e with ⟨rfl, e⟩ | e
  · obtain ⟨b0, r0, q0, f0⟩ := pr1_s e
    obtain ⟨b1, r1, q1, f1⟩ := pp1_s f0
    obtain ⟨qe, fe⟩ := pe_s f1
    obtain ⟨p, e1, e2⟩ := bnd_s fe
    subst qe
    subst q1
    subst q0
    exact ⟨_, _, _, _, 5, rfl, (by decide), m_X0_rowsOf N e1, e2⟩
  rcases kb_s e with ⟨rfl, e⟩ | e
  · obtain ⟨b0, r0, q0, f0⟩ := pr1_s e
    obtain ⟨b1, r1, q1, f1⟩ := pp1_s f0
    obtain ⟨b2, r2, q2, f2⟩ := pp1_s f1
    obtain ⟨b3, r3, q3, f3⟩ := pp1_s f2
    obtain ⟨b4, r4, q4, f4⟩ := pp1_s f3
    obtain ⟨qe, fe⟩ := pe_s f4
    obtain ⟨p, e1, e2⟩ := bnd_s fe
    subst qe
    subst q4
    subst q3
    subst q2
    subst q1
    subst q0
    exact ⟨_, _, _, _, 9, rfl, (by decide), m_X10_kindSeen N e1, e2⟩
  cases e
set_option maxRecDepth 100000 in
theorem t_X10_mostSeen_73 {X : Nat × (Nat → Int32)} (N : Nat) {q : Int32 × mH} : ∀ (n : Nat) (a0 : Nat) (x4 : Int32) (x5 : Int32) (h : mH), L_X10_mostSeen_73 N n a0 x4 x5 h = some q → MW X y_X10_mostSeen 10 73 [(0, .ref a0), (4, .int x4), (5, .int x5)] [] h (some (.int q.1)) q.2 := by
  intro n
  induction n with
  | zero => intro a0 x4 x5 h hf; cases hf
  | succ n ih =>
    intro a0 x4 x5 h hf
    refine ev_ok (o := 10) (ini := false) (Cl := C_X10_mostSeen N) (Rc := RcI) (B := B_X10_mostSeen) (K := fun pc ls st g => kb pc 73 (lgr 0 ls fun a0 => lgi 4 ls fun x4 => lgi 5 ls fun x5 => pe st (L_X10_mostSeen_73 N n a0 x4 x5 g)) (none)) rfl (fun e => by cases e) (by decide) (rcI_ok rfl) ?_ (co_X10_mostSeen N q) lb_X10_mostSeen 3000 73 S_X10_mostSeen_73 _ _ h ls_X10_mostSeen_73 hf
    intro pc ls st g e
    rcases kb_s e with ⟨rfl, e⟩ | e
    · obtain ⟨a0, e0, f0⟩ := lgr_s e
      obtain ⟨x4, e1, f1⟩ := lgi_s f0
      obtain ⟨x5, e2, f2⟩ := lgi_s f1
      obtain ⟨qe, fe⟩ := pe_s f2
      subst qe
      exact MW.sub (List.forall_mem_cons.mpr ⟨lg_mem e0, List.forall_mem_cons.mpr ⟨lg_mem e1, List.forall_mem_cons.mpr ⟨lg_mem e2, fun _ h => absurd h List.not_mem_nil⟩⟩⟩) (ih a0 x4 x5 g fe)
    cases e
set_option maxRecDepth 100000 in
theorem t_X10_mostSeen_11 {X : Nat × (Nat → Int32)} (N : Nat) {q : Int32 × mH} : ∀ (n : Nat) (a0 : Nat) (x1 : Int32) (x2 : Int32) (x3 : Int32) (x4 : Int32) (h : mH), L_X10_mostSeen_11 N n a0 x1 x2 x3 x4 h = some q → MW X y_X10_mostSeen 10 11 [(0, .ref a0), (1, .int x1), (2, .int x2), (3, .int x3), (4, .int x4)] [] h (some (.int q.1)) q.2 := by
  intro n
  induction n with
  | zero => intro a0 x1 x2 x3 x4 h hf; cases hf
  | succ n ih =>
    intro a0 x1 x2 x3 x4 h hf
    refine ev_ok (o := 10) (ini := false) (Cl := C_X10_mostSeen N) (Rc := RcI) (B := B_X10_mostSeen) (K := fun pc ls st g => kb pc 11 (lgr 0 ls fun a0 => lgi 1 ls fun x1 => lgi 2 ls fun x2 => lgi 3 ls fun x3 => lgi 4 ls fun x4 => pe st (L_X10_mostSeen_11 N n a0 x1 x2 x3 x4 g)) (kb pc 73 (lgr 0 ls fun a0 => lgi 4 ls fun x4 => lgi 5 ls fun x5 => pe st (L_X10_mostSeen_73 N N a0 x4 x5 g)) (none))) rfl (fun e => by cases e) (by decide) (rcI_ok rfl) ?_ (co_X10_mostSeen N q) lb_X10_mostSeen 3000 11 S_X10_mostSeen_11 _ _ h ls_X10_mostSeen_11 hf
    intro pc ls st g e
    rcases kb_s e with ⟨rfl, e⟩ | e
    · obtain ⟨a0, e0, f0⟩ := lgr_s e
      obtain ⟨x1, e1, f1⟩ := lgi_s f0
      obtain ⟨x2, e2, f2⟩ := lgi_s f1
      obtain ⟨x3, e3, f3⟩ := lgi_s f2
      obtain ⟨x4, e4, f4⟩ := lgi_s f3
      obtain ⟨qe, fe⟩ := pe_s f4
      subst qe
      exact MW.sub (List.forall_mem_cons.mpr ⟨lg_mem e0, List.forall_mem_cons.mpr ⟨lg_mem e1, List.forall_mem_cons.mpr ⟨lg_mem e2, List.forall_mem_cons.mpr ⟨lg_mem e3, List.forall_mem_cons.mpr ⟨lg_mem e4, fun _ h => absurd h List.not_mem_nil⟩⟩⟩⟩⟩) (ih a0 x1 x2 x3 x4 g fe)
    rcases kb_s e with ⟨rfl, e⟩ | e
    · obtain ⟨a0, e0, f0⟩ := lgr_s e
      obtain ⟨x4, e1, f1⟩ := lgi_s f0
      obtain ⟨x5, e2, f2⟩ := lgi_s f1
      obtain ⟨qe, fe⟩ := pe_s f2
      subst qe
      exact MW.sub (List.forall_mem_cons.mpr ⟨lg_mem e0, List.forall_mem_cons.mpr ⟨lg_mem e1, List.forall_mem_cons.mpr ⟨lg_mem e2, fun _ h => absurd h List.not_mem_nil⟩⟩⟩) (t_X10_mostSeen_73 N N a0 x4 x5 g fe)
    cases e
set_option maxRecDepth 100000 in
theorem m_X10_mostSeen (N : Nat) {a0 : Nat} {x1 : Int32} {x2 : Int32} {x3 : Int32} {h : mH} {q : Int32 × mH} (hf : f_X10_mostSeen N a0 x1 x2 x3 h = some q) : MM y_X10_mostSeen 10 [.ref a0, .int x1, .int x2, .int x3] h (some (.int q.1)) q.2 := by
  refine MM.of (mFx (j := 140) rfl).2.2.2.1 (Nat.le_of_ble_eq_true rfl) (fun X => ?_)
  refine ev_ok (o := 10) (ini := false) (Cl := C_X10_mostSeen N) (Rc := RcI) (B := B_X10_mostSeen) (K := fun pc ls st g => kb pc 11 (lgr 0 ls fun a0 => lgi 1 ls fun x1 => lgi 2 ls fun x2 => lgi 3 ls fun x3 => lgi 4 ls fun x4 => pe st (L_X10_mostSeen_11 N N a0 x1 x2 x3 x4 g)) (none)) rfl (fun e => by cases e) (by decide) (rcI_ok rfl) ?_ (co_X10_mostSeen N q) lb_X10_mostSeen 3000 0 S_X10_mostSeen_0 _ _ h ls_X10_mostSeen_0 hf
  intro pc ls st g e
  rcases kb_s e with ⟨rfl, e⟩ | e
  · obtain ⟨a0, e0, f0⟩ := lgr_s e
    obtain ⟨x1, e1, f1⟩ := lgi_s f0
    obtain ⟨x2, e2, f2⟩ := lgi_s f1
    obtain ⟨x3, e3, f3⟩ := lgi_s f2
    obtain ⟨x4, e4, f4⟩ := lgi_s f3
    obtain ⟨qe, fe⟩ := pe_s f4
    subst qe
    exact MW.sub (List.forall_mem_cons.mpr ⟨lg_mem e0, List.forall_mem_cons.mpr ⟨lg_mem e1, List.forall_mem_cons.mpr ⟨lg_mem e2, List.forall_mem_cons.mpr ⟨lg_mem e3, List.forall_mem_cons.mpr ⟨lg_mem e4, fun _ h => absurd h List.not_mem_nil⟩⟩⟩⟩⟩) (t_X10_mostSeen_11 N N a0 x1 x2 x3 x4 g fe)
  cases e
def J_X10_longStretches_72 (N : Nat) (k28 : Nat → Int32 → Int32 → Int32 → Int32 → Int32 → Int32 → Int32 → mH → Option (Int32 × mH)) (a0 : Nat) (x1 : Int32) (x2 : Int32) (x3 : Int32) (x4 : Int32) (x7 : Int32) (x8 : Int32) (s_0 : Int32) (h : mH) : Option (Int32 × mH) :=
  if s_0 = (iAdd x2 (jI 1)) then
    let w1 := iAdd x3 (jI 1)
    let w2 := iAdd x7 (jI 1)
    k28 a0 x1 x2 w1 x4 s_0 x8 w2 h
  else
    let w3 := iAdd x7 (jI 1)
    k28 a0 x1 x2 x3 x4 s_0 x8 w3 h
def L_X10_longStretches_28 (N : Nat) (k5 : Nat → Int32 → Int32 → Int32 → Int32 → mH → Option (Int32 × mH)) : Nat → Nat → Int32 → Int32 → Int32 → Int32 → Int32 → Int32 → Int32 → mH → Option (Int32 × mH)
  | 0, _, _, _, _, _, _, _, _, _ => none
  | n + 1, a0, x1, x2, x3, x4, x5, x6, x7, h =>
    (gR h 10 a0 0).bind fun v1 =>
    (rcv h 0 v1).bind fun _ =>
    (f_X0_crossingsOf N v1 x1 h).bind fun p2 =>
    if x7 < p2.1 then
      (rcv p2.2 10 a0).bind fun _ =>
      (f_X10_goesOver N a0 x1 x4 x7 p2.2).bind fun p3 =>
      if 0 < x7 then
        if p3.1 = x6 then
          J_X10_longStretches_72 N (L_X10_longStretches_28 N k5 n) a0 x1 x2 x3 x4 x7 p3.1 (iAdd x5 (jI 1)) p3.2
        else
          J_X10_longStretches_72 N (L_X10_longStretches_28 N k5 n) a0 x1 x2 x3 x4 x7 p3.1 (jI 1) p3.2
      else
        J_X10_longStretches_72 N (L_X10_longStretches_28 N k5 n) a0 x1 x2 x3 x4 x7 p3.1 (jI 1) p3.2
    else
      let w4 := iAdd x4 (jI 1)
      k5 a0 x1 x2 x3 w4 p2.2
def L_X10_longStretches_5 (N : Nat) : Nat → Nat → Int32 → Int32 → Int32 → Int32 → mH → Option (Int32 × mH)
  | 0, _, _, _, _, _, _ => none
  | n + 1, a0, x1, x2, x3, x4, h =>
    (gR h 10 a0 0).bind fun v1 =>
    (rcv h 0 v1).bind fun _ =>
    (f_X0_ofBand N v1 x1 (jI 0) h).bind fun p2 =>
    if x4 < p2.1 then
      L_X10_longStretches_28 N (L_X10_longStretches_5 N n) N a0 x1 x2 x3 x4 (jI 0) (jI 0) (jI 0) p2.2
    else
      some (x3, p2.2)
def f_X10_longStretches (N : Nat) (a0 : Nat) (x1 : Int32) (x2 : Int32) (h : mH) : Option (Int32 × mH) :=
  L_X10_longStretches_5 N N a0 x1 x2 (jI 0) (jI 0) h
def y_X10_longStretches : mM := (yX10_longStretches, cX10_longStretches, 9, (some .int))
def B_X10_longStretches : List (Nat × List mI) := [(71, [(.iconst 1, 1, [], [1])]), (89, [(.iinc 7 1, 3, [7], [1]), (.goto (-64), 3, [28], [])]), (95, [(.iinc 4 1, 3, [4], [1]), (.goto (-93), 3, [5], [])]), (101, [(.iload_n 3, 1, [3], []), (.ireturn, 1, [], [])])]
def S_X10_longStretches_0 : List mI := [(.iconst 0, 1, [], [0]), (.istore_n 3, 1, [3], []), (.iconst 0, 1, [], [0]), (.istore 4, 2, [4], [])]
def S_X10_longStretches_5 : List mI := [(.iload 4, 2, [4], []), (.aload_n 0, 1, [0], []), (.getfield 26, 3, [10, 0, 2, 40], []), (.iload_n 1, 1, [1], []), (.iconst 0, 1, [], [0]), (.invokevirtual 46, 3, [0, 9, 2, 0, 71], []), (.if_icmp .ge 85, 3, [101], []), (.iconst 0, 1, [], [0]), (.istore 5, 2, [5], []), (.iconst 0, 1, [], [0]), (.istore 6, 2, [6], []), (.iconst 0, 1, [], [0]), (.istore 7, 2, [7], [])]
def S_X10_longStretches_28 : List mI := [(.iload 7, 2, [7], []), (.aload_n 0, 1, [0], []), (.getfield 26, 3, [10, 0, 2, 40], []), (.iload_n 1, 1, [1], []), (.invokevirtual 118, 3, [0, 14, 1, 0, 123], []), (.if_icmp .ge 57, 3, [95], []), (.aload_n 0, 1, [0], []), (.iload_n 1, 1, [1], []), (.iload 4, 2, [4], []), (.iload 7, 2, [7], []), (.invokevirtual 121, 3, [0, 129, 3, 10, 124], []), (.istore 8, 2, [8], []), (.iload 7, 2, [7], []), (.ifCond .le 17, 3, [71], []), (.iload 8, 2, [8], []), (.iload 6, 2, [6], []), (.if_icmp .ne 10, 3, [71], []), (.iload 5, 2, [5], []), (.iconst 1, 1, [], [1]), (.iadd, 1, [], []), (.goto 4, 3, [72], [])]
def S_X10_longStretches_72 : List mI := [(.istore 5, 2, [5], []), (.iload 8, 2, [8], []), (.istore 6, 2, [6], []), (.iload 5, 2, [5], []), (.iload_n 2, 1, [2], []), (.iconst 1, 1, [], [1]), (.iadd, 1, [], []), (.if_icmp .ne 6, 3, [89], []), (.iinc 3 1, 3, [3], [1])]
theorem lb_X10_longStretches : B_X10_longStretches.all (fun b => lst y_X10_longStretches.2.1 10 y_X10_longStretches.2.2.1 false b.1 b.2) = true := by decide +kernel
theorem ls_X10_longStretches_0 : lst y_X10_longStretches.2.1 10 y_X10_longStretches.2.2.1 false 0 S_X10_longStretches_0 = true := by decide +kernel
theorem ls_X10_longStretches_5 : lst y_X10_longStretches.2.1 10 y_X10_longStretches.2.2.1 false 5 S_X10_longStretches_5 = true := by decide +kernel
theorem ls_X10_longStretches_28 : lst y_X10_longStretches.2.1 10 y_X10_longStretches.2.2.1 false 28 S_X10_longStretches_28 = true := by decide +kernel
theorem ls_X10_longStretches_72 : lst y_X10_longStretches.2.1 10 y_X10_longStretches.2.2.1 false 72 S_X10_longStretches_72 = true := by decide +kernel
def C_X10_longStretches (N : Nat) : Nat → List Value → mH → (Option Value → mH → Option (Int32 × mH)) → Option (Int32 × mH) := fun j as g k => kb j 9 (pr1 as fun b0 as => pp1 as fun b1 as => pp1 as fun b2 as => pe as ((f_X0_ofBand N b0 b1 b2 g).bind fun p => k (some (.int p.1)) p.2)) (kb j 14 (pr1 as fun b0 as => pp1 as fun b1 as => pe as ((f_X0_crossingsOf N b0 b1 g).bind fun p => k (some (.int p.1)) p.2)) (kb j 129 (pr1 as fun b0 as => pp1 as fun b1 as => pp1 as fun b2 as => pp1 as fun b3 as => pe as ((f_X10_goesOver N b0 b1 b2 b3 g).bind fun p => k (some (.int p.1)) p.2)) (none)))
theorem co_X10_longStretches (N : Nat) (q : Int32 × mH) : clOK 9 q (C_X10_longStretches N) := by
  intro j as g k e
  rcases kb_s e with ⟨rfl, e⟩ | e
  · obtain ⟨b0, r0, q0, f0⟩ := pr1_s e
    obtain ⟨b1, r1, q1, f1⟩ := pp1_s f0
    obtain ⟨b2, r2, q2, f2⟩ := pp1_s f1
    obtain ⟨qe, fe⟩ := pe_s f2
    obtain ⟨p, e1, e2⟩ := bnd_s fe
    subst qe
    subst q2
    subst q1
    subst q0
    exact ⟨_, _, _, _, 4, rfl, (by decide), m_X0_ofBand N e1, e2⟩
  rcases kb_s e with ⟨rfl, e⟩ | e
  · obtain ⟨b0, r0, q0, f0⟩ := pr1_s e
    obtain ⟨b1, r1, q1, f1⟩ := pp1_s f0
    obtain ⟨qe, fe⟩ := pe_s f1
    obtain ⟨p, e1, e2⟩ := bnd_s fe
    subst qe
    subst q1
    subst q0
    exact ⟨_, _, _, _, 5, rfl, (by decide), m_X0_crossingsOf N e1, e2⟩
  rcases kb_s e with ⟨rfl, e⟩ | e
  · obtain ⟨b0, r0, q0, f0⟩ := pr1_s e
    obtain ⟨b1, r1, q1, f1⟩ := pp1_s f0
    obtain ⟨b2, r2, q2, f2⟩ := pp1_s f1
    obtain ⟨b3, r3, q3, f3⟩ := pp1_s f2
    obtain ⟨qe, fe⟩ := pe_s f3
    obtain ⟨p, e1, e2⟩ := bnd_s fe
    subst qe
    subst q3
    subst q2
    subst q1
    subst q0
    exact ⟨_, _, _, _, 8, rfl, (by decide), m_X10_goesOver N e1, e2⟩
  cases e
set_option maxRecDepth 100000 in
theorem t_X10_longStretches_72 {X : Nat × (Nat → Int32)} (N : Nat) {q : Int32 × mH} {k28 : Nat → Int32 → Int32 → Int32 → Int32 → Int32 → Int32 → Int32 → mH → Option (Int32 × mH)} (hk28 : ∀ (a0 : Nat) (x1 : Int32) (x2 : Int32) (x3 : Int32) (x4 : Int32) (x5 : Int32) (x6 : Int32) (x7 : Int32) g, k28 a0 x1 x2 x3 x4 x5 x6 x7 g = some q → MW X y_X10_longStretches 9 28 [(0, .ref a0), (1, .int x1), (2, .int x2), (3, .int x3), (4, .int x4), (5, .int x5), (6, .int x6), (7, .int x7)] [] g (some (.int q.1)) q.2) (a0 : Nat) (x1 : Int32) (x2 : Int32) (x3 : Int32) (x4 : Int32) (x7 : Int32) (x8 : Int32) (s_0 : Int32) (h : mH) (hf : J_X10_longStretches_72 N k28 a0 x1 x2 x3 x4 x7 x8 s_0 h = some q) : MW X y_X10_longStretches 9 72 [(0, .ref a0), (1, .int x1), (2, .int x2), (3, .int x3), (4, .int x4), (7, .int x7), (8, .int x8)] [.int s_0] h (some (.int q.1)) q.2 := by
  refine ev_ok (o := 10) (ini := false) (Cl := C_X10_longStretches N) (Rc := RcI) (B := B_X10_longStretches) (K := fun pc ls st g => kb pc 28 (lgr 0 ls fun a0 => lgi 1 ls fun x1 => lgi 2 ls fun x2 => lgi 3 ls fun x3 => lgi 4 ls fun x4 => lgi 5 ls fun x5 => lgi 6 ls fun x6 => lgi 7 ls fun x7 => pe st (k28 a0 x1 x2 x3 x4 x5 x6 x7 g)) (none)) rfl (fun e => by cases e) (by decide) (rcI_ok rfl) ?_ (co_X10_longStretches N q) lb_X10_longStretches 3000 72 S_X10_longStretches_72 _ _ h ls_X10_longStretches_72 hf
  intro pc ls st g e
  rcases kb_s e with ⟨rfl, e⟩ | e
  · obtain ⟨a0, e0, f0⟩ := lgr_s e
    obtain ⟨x1, e1, f1⟩ := lgi_s f0
    obtain ⟨x2, e2, f2⟩ := lgi_s f1
    obtain ⟨x3, e3, f3⟩ := lgi_s f2
    obtain ⟨x4, e4, f4⟩ := lgi_s f3
    obtain ⟨x5, e5, f5⟩ := lgi_s f4
    obtain ⟨x6, e6, f6⟩ := lgi_s f5
    obtain ⟨x7, e7, f7⟩ := lgi_s f6
    obtain ⟨qe, fe⟩ := pe_s f7
    subst qe
    exact MW.sub (List.forall_mem_cons.mpr ⟨lg_mem e0, List.forall_mem_cons.mpr ⟨lg_mem e1, List.forall_mem_cons.mpr ⟨lg_mem e2, List.forall_mem_cons.mpr ⟨lg_mem e3, List.forall_mem_cons.mpr ⟨lg_mem e4, List.forall_mem_cons.mpr ⟨lg_mem e5, List.forall_mem_cons.mpr ⟨lg_mem e6, List.forall_mem_cons.mpr ⟨lg_mem e7, fun _ h => absurd h List.not_mem_nil⟩⟩⟩⟩⟩⟩⟩⟩) (hk28 a0 x1 x2 x3 x4 x5 x6 x7 g fe)
  cases e
set_option maxRecDepth 100000 in
theorem t_X10_longStretches_28 {X : Nat × (Nat → Int32)} (N : Nat) {q : Int32 × mH} {k5 : Nat → Int32 → Int32 → Int32 → Int32 → mH → Option (Int32 × mH)} (hk5 : ∀ (a0 : Nat) (x1 : Int32) (x2 : Int32) (x3 : Int32) (x4 : Int32) g, k5 a0 x1 x2 x3 x4 g = some q → MW X y_X10_longStretches 9 5 [(0, .ref a0), (1, .int x1), (2, .int x2), (3, .int x3), (4, .int x4)] [] g (some (.int q.1)) q.2) : ∀ (n : Nat) (a0 : Nat) (x1 : Int32) (x2 : Int32) (x3 : Int32) (x4 : Int32) (x5 : Int32) (x6 : Int32) (x7 : Int32) (h : mH), L_X10_longStretches_28 N k5 n a0 x1 x2 x3 x4 x5 x6 x7 h = some q → MW X y_X10_longStretches 9 28 [(0, .ref a0), (1, .int x1), (2, .int x2), (3, .int x3), (4, .int x4), (5, .int x5), (6, .int x6), (7, .int x7)] [] h (some (.int q.1)) q.2 := by
  intro n
  induction n with
  | zero => intro a0 x1 x2 x3 x4 x5 x6 x7 h hf; cases hf
  | succ n ih =>
    intro a0 x1 x2 x3 x4 x5 x6 x7 h hf
    refine ev_ok (o := 10) (ini := false) (Cl := C_X10_longStretches N) (Rc := RcI) (B := B_X10_longStretches) (K := fun pc ls st g => kb pc 5 (lgr 0 ls fun a0 => lgi 1 ls fun x1 => lgi 2 ls fun x2 => lgi 3 ls fun x3 => lgi 4 ls fun x4 => pe st (k5 a0 x1 x2 x3 x4 g)) (kb pc 72 (lgr 0 ls fun a0 => lgi 1 ls fun x1 => lgi 2 ls fun x2 => lgi 3 ls fun x3 => lgi 4 ls fun x4 => lgi 7 ls fun x7 => lgi 8 ls fun x8 => pp1 st fun s_0 st => pe st (J_X10_longStretches_72 N (L_X10_longStretches_28 N k5 n) a0 x1 x2 x3 x4 x7 x8 s_0 g)) (none))) rfl (fun e => by cases e) (by decide) (rcI_ok rfl) ?_ (co_X10_longStretches N q) lb_X10_longStretches 3000 28 S_X10_longStretches_28 _ _ h ls_X10_longStretches_28 hf
    intro pc ls st g e
    rcases kb_s e with ⟨rfl, e⟩ | e
    · obtain ⟨a0, e0, f0⟩ := lgr_s e
      obtain ⟨x1, e1, f1⟩ := lgi_s f0
      obtain ⟨x2, e2, f2⟩ := lgi_s f1
      obtain ⟨x3, e3, f3⟩ := lgi_s f2
      obtain ⟨x4, e4, f4⟩ := lgi_s f3
      obtain ⟨qe, fe⟩ := pe_s f4
      subst qe
      exact MW.sub (List.forall_mem_cons.mpr ⟨lg_mem e0, List.forall_mem_cons.mpr ⟨lg_mem e1, List.forall_mem_cons.mpr ⟨lg_mem e2, List.forall_mem_cons.mpr ⟨lg_mem e3, List.forall_mem_cons.mpr ⟨lg_mem e4, fun _ h => absurd h List.not_mem_nil⟩⟩⟩⟩⟩) (hk5 a0 x1 x2 x3 x4 g fe)
    rcases kb_s e with ⟨rfl, e⟩ | e
    · obtain ⟨a0, e0, f0⟩ := lgr_s e
      obtain ⟨x1, e1, f1⟩ := lgi_s f0
      obtain ⟨x2, e2, f2⟩ := lgi_s f1
      obtain ⟨x3, e3, f3⟩ := lgi_s f2
      obtain ⟨x4, e4, f4⟩ := lgi_s f3
      obtain ⟨x7, e5, f5⟩ := lgi_s f4
      obtain ⟨x8, e6, f6⟩ := lgi_s f5
      obtain ⟨s_0, r0, q0, g0⟩ := pp1_s f6
      obtain ⟨qe, fe⟩ := pe_s g0
      subst qe
      subst q0
      exact MW.sub (List.forall_mem_cons.mpr ⟨lg_mem e0, List.forall_mem_cons.mpr ⟨lg_mem e1, List.forall_mem_cons.mpr ⟨lg_mem e2, List.forall_mem_cons.mpr ⟨lg_mem e3, List.forall_mem_cons.mpr ⟨lg_mem e4, List.forall_mem_cons.mpr ⟨lg_mem e5, List.forall_mem_cons.mpr ⟨lg_mem e6, fun _ h => absurd h List.not_mem_nil⟩⟩⟩⟩⟩⟩⟩) (t_X10_longStretches_72 N (fun a0 x1 x2 x3 x4 x5 x6 x7 g e => ih a0 x1 x2 x3 x4 x5 x6 x7 g e) a0 x1 x2 x3 x4 x7 x8 s_0 g fe)
    cases e
set_option maxRecDepth 100000 in
theorem t_X10_longStretches_5 {X : Nat × (Nat → Int32)} (N : Nat) {q : Int32 × mH} : ∀ (n : Nat) (a0 : Nat) (x1 : Int32) (x2 : Int32) (x3 : Int32) (x4 : Int32) (h : mH), L_X10_longStretches_5 N n a0 x1 x2 x3 x4 h = some q → MW X y_X10_longStretches 9 5 [(0, .ref a0), (1, .int x1), (2, .int x2), (3, .int x3), (4, .int x4)] [] h (some (.int q.1)) q.2 := by
  intro n
  induction n with
  | zero => intro a0 x1 x2 x3 x4 h hf; cases hf
  | succ n ih =>
    intro a0 x1 x2 x3 x4 h hf
    refine ev_ok (o := 10) (ini := false) (Cl := C_X10_longStretches N) (Rc := RcI) (B := B_X10_longStretches) (K := fun pc ls st g => kb pc 28 (lgr 0 ls fun a0 => lgi 1 ls fun x1 => lgi 2 ls fun x2 => lgi 3 ls fun x3 => lgi 4 ls fun x4 => lgi 5 ls fun x5 => lgi 6 ls fun x6 => lgi 7 ls fun x7 => pe st (L_X10_longStretches_28 N (L_X10_longStretches_5 N n) N a0 x1 x2 x3 x4 x5 x6 x7 g)) (none)) rfl (fun e => by cases e) (by decide) (rcI_ok rfl) ?_ (co_X10_longStretches N q) lb_X10_longStretches 3000 5 S_X10_longStretches_5 _ _ h ls_X10_longStretches_5 hf
    intro pc ls st g e
    rcases kb_s e with ⟨rfl, e⟩ | e
    · obtain ⟨a0, e0, f0⟩ := lgr_s e
      obtain ⟨x1, e1, f1⟩ := lgi_s f0
      obtain ⟨x2, e2, f2⟩ := lgi_s f1
      obtain ⟨x3, e3, f3⟩ := lgi_s f2
      obtain ⟨x4, e4, f4⟩ := lgi_s f3
      obtain ⟨x5, e5, f5⟩ := lgi_s f4
      obtain ⟨x6, e6, f6⟩ := lgi_s f5
      obtain ⟨x7, e7, f7⟩ := lgi_s f6
      obtain ⟨qe, fe⟩ := pe_s f7
      subst qe
      exact MW.sub (List.forall_mem_cons.mpr ⟨lg_mem e0, List.forall_mem_cons.mpr ⟨lg_mem e1, List.forall_mem_cons.mpr ⟨lg_mem e2, List.forall_mem_cons.mpr ⟨lg_mem e3, List.forall_mem_cons.mpr ⟨lg_mem e4, List.forall_mem_cons.mpr ⟨lg_mem e5, List.forall_mem_cons.mpr ⟨lg_mem e6, List.forall_mem_cons.mpr ⟨lg_mem e7, fun _ h => absurd h List.not_mem_nil⟩⟩⟩⟩⟩⟩⟩⟩) (t_X10_longStretches_28 N (fun a0 x1 x2 x3 x4 g e => ih a0 x1 x2 x3 x4 g e) N a0 x1 x2 x3 x4 x5 x6 x7 g fe)
    cases e
set_option maxRecDepth 100000 in
theorem m_X10_longStretches (N : Nat) {a0 : Nat} {x1 : Int32} {x2 : Int32} {h : mH} {q : Int32 × mH} (hf : f_X10_longStretches N a0 x1 x2 h = some q) : MM y_X10_longStretches 9 [.ref a0, .int x1, .int x2] h (some (.int q.1)) q.2 := by
  refine MM.of (mFx (j := 141) rfl).2.2.2.1 (Nat.le_of_ble_eq_true rfl) (fun X => ?_)
  refine ev_ok (o := 10) (ini := false) (Cl := C_X10_longStretches N) (Rc := RcI) (B := B_X10_longStretches) (K := fun pc ls st g => kb pc 5 (lgr 0 ls fun a0 => lgi 1 ls fun x1 => lgi 2 ls fun x2 => lgi 3 ls fun x3 => lgi 4 ls fun x4 => pe st (L_X10_longStretches_5 N N a0 x1 x2 x3 x4 g)) (none)) rfl (fun e => by cases e) (by decide) (rcI_ok rfl) ?_ (co_X10_longStretches N q) lb_X10_longStretches 3000 0 S_X10_longStretches_0 _ _ h ls_X10_longStretches_0 hf
  intro pc ls st g e
  rcases kb_s e with ⟨rfl, e⟩ | e
  · obtain ⟨a0, e0, f0⟩ := lgr_s e
    obtain ⟨x1, e1, f1⟩ := lgi_s f0
    obtain ⟨x2, e2, f2⟩ := lgi_s f1
    obtain ⟨x3, e3, f3⟩ := lgi_s f2
    obtain ⟨x4, e4, f4⟩ := lgi_s f3
    obtain ⟨qe, fe⟩ := pe_s f4
    subst qe
    exact MW.sub (List.forall_mem_cons.mpr ⟨lg_mem e0, List.forall_mem_cons.mpr ⟨lg_mem e1, List.forall_mem_cons.mpr ⟨lg_mem e2, List.forall_mem_cons.mpr ⟨lg_mem e3, List.forall_mem_cons.mpr ⟨lg_mem e4, fun _ h => absurd h List.not_mem_nil⟩⟩⟩⟩⟩) (t_X10_longStretches_5 N N a0 x1 x2 x3 x4 g fe)
  cases e
def J_X10_learnerDoes_224 (N : Nat) (k105 : Nat → Int32 → Int32 → Int32 → Int32 → Int32 → Int32 → Int32 → Int32 → Int32 → Int32 → Int32 → Int32 → Int32 → mH → Option (Int32 × mH)) (a0 : Nat) (x1 : Int32) (x3 : Int32) (x4 : Int32) (x5 : Int32) (x6 : Int32) (x7 : Int32) (x8 : Int32) (x9 : Int32) (x10 : Int32) (x11 : Int32) (x12 : Int32) (x13 : Int32) (x14 : Int32) (x16 : Int32) (s_0 : Int32) (h : mH) : Option (Int32 × mH) :=
  if x16 = s_0 then
    let w1 := iAdd x14 (jI 1)
    k105 a0 x1 x3 x4 x5 x6 x7 x8 x9 x10 x11 x12 x13 w1 h
  else
    if x11 = 0 then
      (gR h 10 a0 0).bind fun v2 =>
      (rcv h 0 v2).bind fun _ =>
      (f_X0_whenOf N v2 x1 x14 x13 h).bind fun p3 =>
      let w4 := iAdd x11 (jI 1)
      let w5 := iAdd x14 (jI 1)
      k105 a0 x1 x3 x4 x5 x6 x7 x8 x9 x10 w4 p3.1 x13 w5 p3.2
    else
      let w6 := iAdd x11 (jI 1)
      let w7 := iAdd x14 (jI 1)
      k105 a0 x1 x3 x4 x5 x6 x7 x8 x9 x10 w6 x12 x13 w7 h
def J_X10_learnerDoes_199 (N : Nat) (k105 : Nat → Int32 → Int32 → Int32 → Int32 → Int32 → Int32 → Int32 → Int32 → Int32 → Int32 → Int32 → Int32 → Int32 → mH → Option (Int32 × mH)) (a0 : Nat) (x1 : Int32) (x3 : Int32) (x4 : Int32) (x5 : Int32) (x6 : Int32) (x7 : Int32) (x8 : Int32) (x9 : Int32) (x10 : Int32) (x11 : Int32) (x12 : Int32) (x13 : Int32) (x14 : Int32) (x15 : Int32) (s_0 : Int32) (h : mH) : Option (Int32 × mH) :=
  (gR h 10 a0 3).bind fun v1 =>
  (ldI 0 h v1 x14).bind fun v2 =>
  if x6 = 0 then none else
  if (iRem (iAdd x15 v2) x6) < x7 then
    J_X10_learnerDoes_224 N k105 a0 x1 x3 x4 x5 x6 x7 x8 x9 x10 x11 x12 x13 x14 s_0 (jI 1) h
  else
    J_X10_learnerDoes_224 N k105 a0 x1 x3 x4 x5 x6 x7 x8 x9 x10 x11 x12 x13 x14 s_0 (jI 0) h
def J_X10_learnerDoes_172 (N : Nat) (k105 : Nat → Int32 → Int32 → Int32 → Int32 → Int32 → Int32 → Int32 → Int32 → Int32 → Int32 → Int32 → Int32 → Int32 → mH → Option (Int32 × mH)) (a0 : Nat) (x1 : Int32) (x3 : Int32) (x4 : Int32) (x5 : Int32) (x6 : Int32) (x7 : Int32) (x8 : Int32) (x9 : Int32) (x10 : Int32) (x11 : Int32) (x12 : Int32) (x13 : Int32) (x14 : Int32) (h : mH) : Option (Int32 × mH) :=
  (gR h 10 a0 2).bind fun v1 =>
  (ldI 0 h v1 x14).bind fun v2 =>
  let w3 := iAdd x13 v2
  if x6 = 0 then none else
  if (iRem w3 x6) < x7 then
    J_X10_learnerDoes_199 N k105 a0 x1 x3 x4 x5 x6 x7 x8 x9 x10 x11 x12 x13 x14 w3 (jI 1) h
  else
    J_X10_learnerDoes_199 N k105 a0 x1 x3 x4 x5 x6 x7 x8 x9 x10 x11 x12 x13 x14 w3 (jI 0) h
def J_X10_learnerDoes_145 (N : Nat) (k105 : Nat → Int32 → Int32 → Int32 → Int32 → Int32 → Int32 → Int32 → Int32 → Int32 → Int32 → Int32 → Int32 → Int32 → mH → Option (Int32 × mH)) (a0 : Nat) (x1 : Int32) (x3 : Int32) (x4 : Int32) (x5 : Int32) (x6 : Int32) (x7 : Int32) (x8 : Int32) (x9 : Int32) (x10 : Int32) (x11 : Int32) (x12 : Int32) (x13 : Int32) (x14 : Int32) (h : mH) : Option (Int32 × mH) :=
  if x8 = 0 then
    J_X10_learnerDoes_172 N k105 a0 x1 x3 x4 x5 x6 x7 x8 x9 x10 x11 x12 x13 x14 h
  else
    (gR h 10 a0 2).bind fun v1 =>
    (ldI 0 h v1 x14).bind fun v2 =>
    (gR h 10 a0 0).bind fun v3 =>
    (rcv h 0 v3).bind fun _ =>
    (f_X0_slipsAt N v3 x1 x14 x13 h).bind fun p4 =>
    (stI 0 p4.2 v1 x14 (iAdd v2 p4.1)).bind fun h5 =>
    J_X10_learnerDoes_172 N k105 a0 x1 x3 x4 x5 x6 x7 x8 x9 x10 x11 x12 x13 x14 h5
def L_X10_learnerDoes_105 (N : Nat) (k89 : Nat → Int32 → Int32 → Int32 → Int32 → Int32 → Int32 → Int32 → Int32 → Int32 → Int32 → Int32 → Int32 → mH → Option (Int32 × mH)) : Nat → Nat → Int32 → Int32 → Int32 → Int32 → Int32 → Int32 → Int32 → Int32 → Int32 → Int32 → Int32 → Int32 → Int32 → mH → Option (Int32 × mH)
  | 0, _, _, _, _, _, _, _, _, _, _, _, _, _, _, _ => none
  | n + 1, a0, x1, x3, x4, x5, x6, x7, x8, x9, x10, x11, x12, x13, x14, h =>
    if x14 < x5 then
      (f_X11_drawn N x9 h).bind fun p1 =>
      if (jI 100) = 0 then none else
      if (iRem (iUsr p1.1 (jI 16)) (jI 100)) < x3 then
        (gR p1.2 10 a0 3).bind fun v2 =>
        (ldI 0 p1.2 v2 x14).bind fun v3 =>
        (stI 0 p1.2 v2 x14 (iAdd v3 (jI 1))).bind fun h4 =>
        let w5 := iAdd x10 (jI 1)
        J_X10_learnerDoes_145 N (L_X10_learnerDoes_105 N k89 n) a0 x1 x3 x4 x5 x6 x7 x8 p1.1 w5 x11 x12 x13 x14 h4
      else
        J_X10_learnerDoes_145 N (L_X10_learnerDoes_105 N k89 n) a0 x1 x3 x4 x5 x6 x7 x8 p1.1 x10 x11 x12 x13 x14 p1.2
    else
      let w6 := iAdd x13 (jI 1)
      k89 a0 x1 x3 x4 x5 x6 x7 x8 x9 x10 x11 x12 w6 h
def L_X10_learnerDoes_89 (N : Nat) : Nat → Nat → Int32 → Int32 → Int32 → Int32 → Int32 → Int32 → Int32 → Int32 → Int32 → Int32 → Int32 → Int32 → mH → Option (Int32 × mH)
  | 0, _, _, _, _, _, _, _, _, _, _, _, _, _, _ => none
  | n + 1, a0, x1, x3, x4, x5, x6, x7, x8, x9, x10, x11, x12, x13, h =>
    (gR h 10 a0 0).bind fun v1 =>
    (rcv h 0 v1).bind fun _ =>
    (f_X0_crossingsOf N v1 x1 h).bind fun p2 =>
    if x13 < p2.1 then
      L_X10_learnerDoes_105 N (L_X10_learnerDoes_89 N n) N a0 x1 x3 x4 x5 x6 x7 x8 x9 x10 x11 x12 x13 (jI 0) p2.2
    else
      if x4 = jI 0 then
        some (x10, p2.2)
      else
      if x4 = jI 1 then
        some (x11, p2.2)
      else
      some (x12, p2.2)
def f_X10_learnerDoes (N : Nat) (a0 : Nat) (x1 : Int32) (x2 : Int32) (x3 : Int32) (x4 : Int32) (h : mH) : Option (Int32 × mH) :=
  (gR h 10 a0 2).bind fun v1 =>
  (f_J7_fill_53178 N v1 (jI 0) h).bind fun h2 =>
  (gR h2 10 a0 3).bind fun v3 =>
  (f_J7_fill_53178 N v3 (jI 0) h2).bind fun h4 =>
  (gR h4 10 a0 0).bind fun v5 =>
  (rcv h4 0 v5).bind fun _ =>
  (f_X0_ofBand N v5 x1 (jI 0) h4).bind fun p6 =>
  (gR p6.2 10 a0 3).bind fun v7 =>
  (lnA p6.2 v7).bind fun v8 =>
  let w9 := iMin p6.1 v8
  (gR p6.2 10 a0 0).bind fun v10 =>
  (rcv p6.2 0 v10).bind fun _ =>
  (f_X0_periodOf N v10 x1 p6.2).bind fun p11 =>
  (gR p11.2 10 a0 0).bind fun v12 =>
  (rcv p11.2 0 v12).bind fun _ =>
  (f_X0_ofBand N v12 x1 (jI 1) p11.2).bind fun p13 =>
  (gR p13.2 10 a0 0).bind fun v14 =>
  (rcv p13.2 0 v14).bind fun _ =>
  (f_X0_slipsOfBand N v14 x1 p13.2).bind fun p15 =>
  if 0 < p15.1 then
    L_X10_learnerDoes_89 N N a0 x1 x3 x4 w9 p11.1 p13.1 (jI 1) x2 (jI 0) (jI 0) (jI (-1)) (jI 0) p15.2
  else
    L_X10_learnerDoes_89 N N a0 x1 x3 x4 w9 p11.1 p13.1 (jI 0) x2 (jI 0) (jI 0) (jI (-1)) (jI 0) p15.2
def y_X10_learnerDoes : mM := (yX10_learnerDoes, cX10_learnerDoes, 18, (some .int))
def B_X10_learnerDoes : List (Nat × List mI) := [(71, [(.iconst 0, 1, [], [0])]), (72, [(.istore 8, 2, [8], []), (.iload_n 2, 1, [2], []), (.istore 9, 2, [9], []), (.iconst 0, 1, [], [0]), (.istore 10, 2, [10], []), (.iconst 0, 1, [], [0]), (.istore 11, 2, [11], []), (.iconst (-1), 1, [], [-1]), (.istore 12, 2, [12], []), (.iconst 0, 1, [], [0]), (.istore 13, 2, [13], [])]), (198, [(.iconst 0, 1, [], [0])]), (223, [(.iconst 0, 1, [], [0])]), (253, [(.iload 12, 2, [12], [])]), (255, [(.istore 12, 2, [12], []), (.iinc 11 1, 3, [11], [1])]), (260, [(.iinc 14 1, 3, [14], [1]), (.goto (-158), 3, [105], [])]), (266, [(.iinc 13 1, 3, [13], [1]), (.goto (-180), 3, [89], [])]), (272, [(.iload 4, 2, [4], []), (.lookupswitch 32 #[(0, 26), (1, 29)], 26, [306, 300, 303], [0, 1])]), (300, [(.iload 10, 2, [10], []), (.ireturn, 1, [], [])]), (303, [(.iload 11, 2, [11], []), (.ireturn, 1, [], [])]), (306, [(.iload 12, 2, [12], []), (.ireturn, 1, [], [])])]
def S_X10_learnerDoes_0 : List mI := [(.aload_n 0, 1, [0], []), (.getfield 17, 3, [10, 2, 2, 42], []), (.iconst 0, 1, [], [0]), (.invokestatic 108, 3, [1, 350, 2, 0, 119], []), (.aload_n 0, 1, [0], []), (.getfield 20, 3, [10, 3, 2, 43], []), (.iconst 0, 1, [], [0]), (.invokestatic 108, 3, [1, 350, 2, 0, 119], []), (.aload_n 0, 1, [0], []), (.getfield 26, 3, [10, 0, 2, 40], []), (.iload_n 1, 1, [1], []), (.iconst 0, 1, [], [0]), (.invokevirtual 46, 3, [0, 9, 2, 0, 71], []), (.aload_n 0, 1, [0], []), (.getfield 20, 3, [10, 3, 2, 43], []), (.arraylength, 1, [0], []), (.invokestatic 124, 3, [7, 0, 0, 0, 20], []), (.istore 5, 2, [5], []), (.aload_n 0, 1, [0], []), (.getfield 26, 3, [10, 0, 2, 40], []), (.iload_n 1, 1, [1], []), (.invokevirtual 50, 3, [0, 13, 1, 0, 72], []), (.istore 6, 2, [6], []), (.aload_n 0, 1, [0], []), (.getfield 26, 3, [10, 0, 2, 40], []), (.iload_n 1, 1, [1], []), (.iconst 1, 1, [], [1]), (.invokevirtual 46, 3, [0, 9, 2, 0, 71], []), (.istore 7, 2, [7], []), (.aload_n 0, 1, [0], []), (.getfield 26, 3, [10, 0, 2, 40], []), (.iload_n 1, 1, [1], []), (.invokevirtual 53, 3, [0, 16, 1, 0, 73], []), (.ifCond .le 7, 3, [71], []), (.iconst 1, 1, [], [1]), (.goto 4, 3, [72], [])]
def S_X10_learnerDoes_89 : List mI := [(.iload 13, 2, [13], []), (.aload_n 0, 1, [0], []), (.getfield 26, 3, [10, 0, 2, 40], []), (.iload_n 1, 1, [1], []), (.invokevirtual 118, 3, [0, 14, 1, 0, 123], []), (.if_icmp .ge 173, 3, [272], []), (.iconst 0, 1, [], [0]), (.istore 14, 2, [14], [])]
def S_X10_learnerDoes_105 : List mI := [(.iload 14, 2, [14], []), (.iload 5, 2, [5], []), (.if_icmp .ge 157, 3, [266], []), (.iload 9, 2, [9], []), (.invokestatic 127, 3, [3, 220, 1, 0, 9], []), (.istore 9, 2, [9], []), (.iload 9, 2, [9], []), (.bipush 16, 2, [], [16]), (.iushr, 1, [], []), (.bipush 100, 2, [], [100]), (.irem, 1, [], []), (.iload_n 3, 1, [3], []), (.if_icmp .ge 17, 3, [145], []), (.aload_n 0, 1, [0], []), (.getfield 20, 3, [10, 3, 2, 43], []), (.iload 14, 2, [14], []), (.dup2, 1, [], []), (.iaload, 1, [0], []), (.iconst 1, 1, [], [1]), (.iadd, 1, [], []), (.iastore, 1, [], []), (.iinc 10 1, 3, [10], [1])]
def S_X10_learnerDoes_145 : List mI := [(.iload 8, 2, [8], []), (.ifCond .eq 25, 3, [172], []), (.aload_n 0, 1, [0], []), (.getfield 17, 3, [10, 2, 2, 42], []), (.iload 14, 2, [14], []), (.dup2, 1, [], []), (.iaload, 1, [0], []), (.aload_n 0, 1, [0], []), (.getfield 26, 3, [10, 0, 2, 40], []), (.iload_n 1, 1, [1], []), (.iload 14, 2, [14], []), (.iload 13, 2, [13], []), (.invokevirtual 59, 3, [0, 17, 3, 0, 74], []), (.iadd, 1, [], []), (.iastore, 1, [], [])]
def S_X10_learnerDoes_172 : List mI := [(.iload 13, 2, [13], []), (.aload_n 0, 1, [0], []), (.getfield 17, 3, [10, 2, 2, 42], []), (.iload 14, 2, [14], []), (.iaload, 1, [0], []), (.iadd, 1, [], []), (.istore 15, 2, [15], []), (.iload 15, 2, [15], []), (.iload 6, 2, [6], []), (.irem, 1, [], []), (.iload 7, 2, [7], []), (.if_icmp .ge 7, 3, [198], []), (.iconst 1, 1, [], [1]), (.goto 4, 3, [199], [])]
def S_X10_learnerDoes_199 : List mI := [(.istore 16, 2, [16], []), (.iload 15, 2, [15], []), (.aload_n 0, 1, [0], []), (.getfield 20, 3, [10, 3, 2, 43], []), (.iload 14, 2, [14], []), (.iaload, 1, [0], []), (.iadd, 1, [], []), (.iload 6, 2, [6], []), (.irem, 1, [], []), (.iload 7, 2, [7], []), (.if_icmp .ge 7, 3, [223], []), (.iconst 1, 1, [], [1]), (.goto 4, 3, [224], [])]
def S_X10_learnerDoes_224 : List mI := [(.istore 17, 2, [17], []), (.iload 16, 2, [16], []), (.iload 17, 2, [17], []), (.if_icmp .eq 30, 3, [260], []), (.iload 11, 2, [11], []), (.ifCond .ne 18, 3, [253], []), (.aload_n 0, 1, [0], []), (.getfield 26, 3, [10, 0, 2, 40], []), (.iload_n 1, 1, [1], []), (.iload 14, 2, [14], []), (.iload 13, 2, [13], []), (.invokevirtual 130, 3, [0, 22, 3, 0, 127], []), (.goto 5, 3, [255], [])]
theorem lb_X10_learnerDoes : B_X10_learnerDoes.all (fun b => lst y_X10_learnerDoes.2.1 10 y_X10_learnerDoes.2.2.1 false b.1 b.2) = true := by decide +kernel
theorem ls_X10_learnerDoes_0 : lst y_X10_learnerDoes.2.1 10 y_X10_learnerDoes.2.2.1 false 0 S_X10_learnerDoes_0 = true := by decide +kernel
theorem ls_X10_learnerDoes_89 : lst y_X10_learnerDoes.2.1 10 y_X10_learnerDoes.2.2.1 false 89 S_X10_learnerDoes_89 = true := by decide +kernel
theorem ls_X10_learnerDoes_105 : lst y_X10_learnerDoes.2.1 10 y_X10_learnerDoes.2.2.1 false 105 S_X10_learnerDoes_105 = true := by decide +kernel
theorem ls_X10_learnerDoes_145 : lst y_X10_learnerDoes.2.1 10 y_X10_learnerDoes.2.2.1 false 145 S_X10_learnerDoes_145 = true := by decide +kernel
theorem ls_X10_learnerDoes_172 : lst y_X10_learnerDoes.2.1 10 y_X10_learnerDoes.2.2.1 false 172 S_X10_learnerDoes_172 = true := by decide +kernel
theorem ls_X10_learnerDoes_199 : lst y_X10_learnerDoes.2.1 10 y_X10_learnerDoes.2.2.1 false 199 S_X10_learnerDoes_199 = true := by decide +kernel
theorem ls_X10_learnerDoes_224 : lst y_X10_learnerDoes.2.1 10 y_X10_learnerDoes.2.2.1 false 224 S_X10_learnerDoes_224 = true := by decide +kernel
def C_X10_learnerDoes (N : Nat) : Nat → List Value → mH → (Option Value → mH → Option (Int32 × mH)) → Option (Int32 × mH) := fun j as g k => kb j 350 (pr1 as fun b0 as => pp1 as fun b1 as => pe as ((f_J7_fill_53178 N b0 b1 g).bind fun p => k none p)) (kb j 9 (pr1 as fun b0 as => pp1 as fun b1 as => pp1 as fun b2 as => pe as ((f_X0_ofBand N b0 b1 b2 g).bind fun p => k (some (.int p.1)) p.2)) (kb j 13 (pr1 as fun b0 as => pp1 as fun b1 as => pe as ((f_X0_periodOf N b0 b1 g).bind fun p => k (some (.int p.1)) p.2)) (kb j 16 (pr1 as fun b0 as => pp1 as fun b1 as => pe as ((f_X0_slipsOfBand N b0 b1 g).bind fun p => k (some (.int p.1)) p.2)) (kb j 14 (pr1 as fun b0 as => pp1 as fun b1 as => pe as ((f_X0_crossingsOf N b0 b1 g).bind fun p => k (some (.int p.1)) p.2)) (kb j 220 (pp1 as fun b0 as => pe as ((f_X11_drawn N b0 g).bind fun p => k (some (.int p.1)) p.2)) (kb j 17 (pr1 as fun b0 as => pp1 as fun b1 as => pp1 as fun b2 as => pp1 as fun b3 as => pe as ((f_X0_slipsAt N b0 b1 b2 b3 g).bind fun p => k (some (.int p.1)) p.2)) (kb j 22 (pr1 as fun b0 as => pp1 as fun b1 as => pp1 as fun b2 as => pp1 as fun b3 as => pe as ((f_X0_whenOf N b0 b1 b2 b3 g).bind fun p => k (some (.int p.1)) p.2)) (none))))))))
theorem co_X10_learnerDoes (N : Nat) (q : Int32 × mH) : clOK 8 q (C_X10_learnerDoes N) := by
  intro j as g k e
  rcases kb_s e with ⟨rfl, e⟩ | e
  · obtain ⟨b0, r0, q0, f0⟩ := pr1_s e
    obtain ⟨b1, r1, q1, f1⟩ := pp1_s f0
    obtain ⟨qe, fe⟩ := pe_s f1
    obtain ⟨p, e1, e2⟩ := bnd_s fe
    subst qe
    subst q1
    subst q0
    exact ⟨_, _, _, _, 4, rfl, (by decide), m_J7_fill_53178 N e1, e2⟩
  rcases kb_s e with ⟨rfl, e⟩ | e
  · obtain ⟨b0, r0, q0, f0⟩ := pr1_s e
    obtain ⟨b1, r1, q1, f1⟩ := pp1_s f0
    obtain ⟨b2, r2, q2, f2⟩ := pp1_s f1
    obtain ⟨qe, fe⟩ := pe_s f2
    obtain ⟨p, e1, e2⟩ := bnd_s fe
    subst qe
    subst q2
    subst q1
    subst q0
    exact ⟨_, _, _, _, 4, rfl, (by decide), m_X0_ofBand N e1, e2⟩
  rcases kb_s e with ⟨rfl, e⟩ | e
  · obtain ⟨b0, r0, q0, f0⟩ := pr1_s e
    obtain ⟨b1, r1, q1, f1⟩ := pp1_s f0
    obtain ⟨qe, fe⟩ := pe_s f1
    obtain ⟨p, e1, e2⟩ := bnd_s fe
    subst qe
    subst q1
    subst q0
    exact ⟨_, _, _, _, 5, rfl, (by decide), m_X0_periodOf N e1, e2⟩
  rcases kb_s e with ⟨rfl, e⟩ | e
  · obtain ⟨b0, r0, q0, f0⟩ := pr1_s e
    obtain ⟨b1, r1, q1, f1⟩ := pp1_s f0
    obtain ⟨qe, fe⟩ := pe_s f1
    obtain ⟨p, e1, e2⟩ := bnd_s fe
    subst qe
    subst q1
    subst q0
    exact ⟨_, _, _, _, 4, rfl, (by decide), m_X0_slipsOfBand N e1, e2⟩
  rcases kb_s e with ⟨rfl, e⟩ | e
  · obtain ⟨b0, r0, q0, f0⟩ := pr1_s e
    obtain ⟨b1, r1, q1, f1⟩ := pp1_s f0
    obtain ⟨qe, fe⟩ := pe_s f1
    obtain ⟨p, e1, e2⟩ := bnd_s fe
    subst qe
    subst q1
    subst q0
    exact ⟨_, _, _, _, 5, rfl, (by decide), m_X0_crossingsOf N e1, e2⟩
  rcases kb_s e with ⟨rfl, e⟩ | e
  · obtain ⟨b0, r0, q0, f0⟩ := pp1_s e
    obtain ⟨qe, fe⟩ := pe_s f0
    obtain ⟨p, e1, e2⟩ := bnd_s fe
    subst qe
    subst q0
    exact ⟨_, _, _, _, 4, rfl, (by decide), m_X11_drawn N e1, e2⟩
  rcases kb_s e with ⟨rfl, e⟩ | e
  · obtain ⟨b0, r0, q0, f0⟩ := pr1_s e
    obtain ⟨b1, r1, q1, f1⟩ := pp1_s f0
    obtain ⟨b2, r2, q2, f2⟩ := pp1_s f1
    obtain ⟨b3, r3, q3, f3⟩ := pp1_s f2
    obtain ⟨qe, fe⟩ := pe_s f3
    obtain ⟨p, e1, e2⟩ := bnd_s fe
    subst qe
    subst q3
    subst q2
    subst q1
    subst q0
    exact ⟨_, _, _, _, 4, rfl, (by decide), m_X0_slipsAt N e1, e2⟩
  rcases kb_s e with ⟨rfl, e⟩ | e
  · obtain ⟨b0, r0, q0, f0⟩ := pr1_s e
    obtain ⟨b1, r1, q1, f1⟩ := pp1_s f0
    obtain ⟨b2, r2, q2, f2⟩ := pp1_s f1
    obtain ⟨b3, r3, q3, f3⟩ := pp1_s f2
    obtain ⟨qe, fe⟩ := pe_s f3
    obtain ⟨p, e1, e2⟩ := bnd_s fe
    subst qe
    subst q3
    subst q2
    subst q1
    subst q0
    exact ⟨_, _, _, _, 7, rfl, (by decide), m_X0_whenOf N e1, e2⟩
  cases e
set_option maxRecDepth 100000 in
theorem t_X10_learnerDoes_224 {X : Nat × (Nat → Int32)} (N : Nat) {q : Int32 × mH} {k105 : Nat → Int32 → Int32 → Int32 → Int32 → Int32 → Int32 → Int32 → Int32 → Int32 → Int32 → Int32 → Int32 → Int32 → mH → Option (Int32 × mH)} (hk105 : ∀ (a0 : Nat) (x1 : Int32) (x3 : Int32) (x4 : Int32) (x5 : Int32) (x6 : Int32) (x7 : Int32) (x8 : Int32) (x9 : Int32) (x10 : Int32) (x11 : Int32) (x12 : Int32) (x13 : Int32) (x14 : Int32) g, k105 a0 x1 x3 x4 x5 x6 x7 x8 x9 x10 x11 x12 x13 x14 g = some q → MW X y_X10_learnerDoes 8 105 [(0, .ref a0), (1, .int x1), (3, .int x3), (4, .int x4), (5, .int x5), (6, .int x6), (7, .int x7), (8, .int x8), (9, .int x9), (10, .int x10), (11, .int x11), (12, .int x12), (13, .int x13), (14, .int x14)] [] g (some (.int q.1)) q.2) (a0 : Nat) (x1 : Int32) (x3 : Int32) (x4 : Int32) (x5 : Int32) (x6 : Int32) (x7 : Int32) (x8 : Int32) (x9 : Int32) (x10 : Int32) (x11 : Int32) (x12 : Int32) (x13 : Int32) (x14 : Int32) (x16 : Int32) (s_0 : Int32) (h : mH) (hf : J_X10_learnerDoes_224 N k105 a0 x1 x3 x4 x5 x6 x7 x8 x9 x10 x11 x12 x13 x14 x16 s_0 h = some q) : MW X y_X10_learnerDoes 8 224 [(0, .ref a0), (1, .int x1), (3, .int x3), (4, .int x4), (5, .int x5), (6, .int x6), (7, .int x7), (8, .int x8), (9, .int x9), (10, .int x10), (11, .int x11), (12, .int x12), (13, .int x13), (14, .int x14), (16, .int x16)] [.int s_0] h (some (.int q.1)) q.2 := by
  refine ev_ok (o := 10) (ini := false) (Cl := C_X10_learnerDoes N) (Rc := RcI) (B := B_X10_learnerDoes) (K := fun pc ls st g => kb pc 105 (lgr 0 ls fun a0 => lgi 1 ls fun x1 => lgi 3 ls fun x3 => lgi 4 ls fun x4 => lgi 5 ls fun x5 => lgi 6 ls fun x6 => lgi 7 ls fun x7 => lgi 8 ls fun x8 => lgi 9 ls fun x9 => lgi 10 ls fun x10 => lgi 11 ls fun x11 => lgi 12 ls fun x12 => lgi 13 ls fun x13 => lgi 14 ls fun x14 => pe st (k105 a0 x1 x3 x4 x5 x6 x7 x8 x9 x10 x11 x12 x13 x14 g)) (none)) rfl (fun e => by cases e) (by decide) (rcI_ok rfl) ?_ (co_X10_learnerDoes N q) lb_X10_learnerDoes 3000 224 S_X10_learnerDoes_224 _ _ h ls_X10_learnerDoes_224 hf
  intro pc ls st g e
  rcases kb_s e with ⟨rfl, e⟩ | e
  · obtain ⟨a0, e0, f0⟩ := lgr_s e
    obtain ⟨x1, e1, f1⟩ := lgi_s f0
    obtain ⟨x3, e2, f2⟩ := lgi_s f1
    obtain ⟨x4, e3, f3⟩ := lgi_s f2
    obtain ⟨x5, e4, f4⟩ := lgi_s f3
    obtain ⟨x6, e5, f5⟩ := lgi_s f4
    obtain ⟨x7, e6, f6⟩ := lgi_s f5
    obtain ⟨x8, e7, f7⟩ := lgi_s f6
    obtain ⟨x9, e8, f8⟩ := lgi_s f7
    obtain ⟨x10, e9, f9⟩ := lgi_s f8
    obtain ⟨x11, e10, f10⟩ := lgi_s f9
    obtain ⟨x12, e11, f11⟩ := lgi_s f10
    obtain ⟨x13, e12, f12⟩ := lgi_s f11
    obtain ⟨x14, e13, f13⟩ := lgi_s f12
    obtain ⟨qe, fe⟩ := pe_s f13
    subst qe
    exact MW.sub (List.forall_mem_cons.mpr ⟨lg_mem e0, List.forall_mem_cons.mpr ⟨lg_mem e1, List.forall_mem_cons.mpr ⟨lg_mem e2, List.forall_mem_cons.mpr ⟨lg_mem e3, List.forall_mem_cons.mpr ⟨lg_mem e4, List.forall_mem_cons.mpr ⟨lg_mem e5, List.forall_mem_cons.mpr ⟨lg_mem e6, List.forall_mem_cons.mpr ⟨lg_mem e7, List.forall_mem_cons.mpr ⟨lg_mem e8, List.forall_mem_cons.mpr ⟨lg_mem e9, List.forall_mem_cons.mpr ⟨lg_mem e10, List.forall_mem_cons.mpr ⟨lg_mem e11, List.forall_mem_cons.mpr ⟨lg_mem e12, List.forall_mem_cons.mpr ⟨lg_mem e13, fun _ h => absurd h List.not_mem_nil⟩⟩⟩⟩⟩⟩⟩⟩⟩⟩⟩⟩⟩⟩) (hk105 a0 x1 x3 x4 x5 x6 x7 x8 x9 x10 x11 x12 x13 x14 g fe)
  cases e
set_option maxRecDepth 100000 in
theorem t_X10_learnerDoes_199 {X : Nat × (Nat → Int32)} (N : Nat) {q : Int32 × mH} {k105 : Nat → Int32 → Int32 → Int32 → Int32 → Int32 → Int32 → Int32 → Int32 → Int32 → Int32 → Int32 → Int32 → Int32 → mH → Option (Int32 × mH)} (hk105 : ∀ (a0 : Nat) (x1 : Int32) (x3 : Int32) (x4 : Int32) (x5 : Int32) (x6 : Int32) (x7 : Int32) (x8 : Int32) (x9 : Int32) (x10 : Int32) (x11 : Int32) (x12 : Int32) (x13 : Int32) (x14 : Int32) g, k105 a0 x1 x3 x4 x5 x6 x7 x8 x9 x10 x11 x12 x13 x14 g = some q → MW X y_X10_learnerDoes 8 105 [(0, .ref a0), (1, .int x1), (3, .int x3), (4, .int x4), (5, .int x5), (6, .int x6), (7, .int x7), (8, .int x8), (9, .int x9), (10, .int x10), (11, .int x11), (12, .int x12), (13, .int x13), (14, .int x14)] [] g (some (.int q.1)) q.2) (a0 : Nat) (x1 : Int32) (x3 : Int32) (x4 : Int32) (x5 : Int32) (x6 : Int32) (x7 : Int32) (x8 : Int32) (x9 : Int32) (x10 : Int32) (x11 : Int32) (x12 : Int32) (x13 : Int32) (x14 : Int32) (x15 : Int32) (s_0 : Int32) (h : mH) (hf : J_X10_learnerDoes_199 N k105 a0 x1 x3 x4 x5 x6 x7 x8 x9 x10 x11 x12 x13 x14 x15 s_0 h = some q) : MW X y_X10_learnerDoes 8 199 [(0, .ref a0), (1, .int x1), (3, .int x3), (4, .int x4), (5, .int x5), (6, .int x6), (7, .int x7), (8, .int x8), (9, .int x9), (10, .int x10), (11, .int x11), (12, .int x12), (13, .int x13), (14, .int x14), (15, .int x15)] [.int s_0] h (some (.int q.1)) q.2 := by
  refine ev_ok (o := 10) (ini := false) (Cl := C_X10_learnerDoes N) (Rc := RcI) (B := B_X10_learnerDoes) (K := fun pc ls st g => kb pc 224 (lgr 0 ls fun a0 => lgi 1 ls fun x1 => lgi 3 ls fun x3 => lgi 4 ls fun x4 => lgi 5 ls fun x5 => lgi 6 ls fun x6 => lgi 7 ls fun x7 => lgi 8 ls fun x8 => lgi 9 ls fun x9 => lgi 10 ls fun x10 => lgi 11 ls fun x11 => lgi 12 ls fun x12 => lgi 13 ls fun x13 => lgi 14 ls fun x14 => lgi 16 ls fun x16 => pp1 st fun s_0 st => pe st (J_X10_learnerDoes_224 N k105 a0 x1 x3 x4 x5 x6 x7 x8 x9 x10 x11 x12 x13 x14 x16 s_0 g)) (none)) rfl (fun e => by cases e) (by decide) (rcI_ok rfl) ?_ (co_X10_learnerDoes N q) lb_X10_learnerDoes 3000 199 S_X10_learnerDoes_199 _ _ h ls_X10_learnerDoes_199 hf
  intro pc ls st g e
  rcases kb_s e with ⟨rfl, e⟩ | e
  · obtain ⟨a0, e0, f0⟩ := lgr_s e
    obtain ⟨x1, e1, f1⟩ := lgi_s f0
    obtain ⟨x3, e2, f2⟩ := lgi_s f1
    obtain ⟨x4, e3, f3⟩ := lgi_s f2
    obtain ⟨x5, e4, f4⟩ := lgi_s f3
    obtain ⟨x6, e5, f5⟩ := lgi_s f4
    obtain ⟨x7, e6, f6⟩ := lgi_s f5
    obtain ⟨x8, e7, f7⟩ := lgi_s f6
    obtain ⟨x9, e8, f8⟩ := lgi_s f7
    obtain ⟨x10, e9, f9⟩ := lgi_s f8
    obtain ⟨x11, e10, f10⟩ := lgi_s f9
    obtain ⟨x12, e11, f11⟩ := lgi_s f10
    obtain ⟨x13, e12, f12⟩ := lgi_s f11
    obtain ⟨x14, e13, f13⟩ := lgi_s f12
    obtain ⟨x16, e14, f14⟩ := lgi_s f13
    obtain ⟨s_0, r0, q0, g0⟩ := pp1_s f14
    obtain ⟨qe, fe⟩ := pe_s g0
    subst qe
    subst q0
    exact MW.sub (List.forall_mem_cons.mpr ⟨lg_mem e0, List.forall_mem_cons.mpr ⟨lg_mem e1, List.forall_mem_cons.mpr ⟨lg_mem e2, List.forall_mem_cons.mpr ⟨lg_mem e3, List.forall_mem_cons.mpr ⟨lg_mem e4, List.forall_mem_cons.mpr ⟨lg_mem e5, List.forall_mem_cons.mpr ⟨lg_mem e6, List.forall_mem_cons.mpr ⟨lg_mem e7, List.forall_mem_cons.mpr ⟨lg_mem e8, List.forall_mem_cons.mpr ⟨lg_mem e9, List.forall_mem_cons.mpr ⟨lg_mem e10, List.forall_mem_cons.mpr ⟨lg_mem e11, List.forall_mem_cons.mpr ⟨lg_mem e12, List.forall_mem_cons.mpr ⟨lg_mem e13, List.forall_mem_cons.mpr ⟨lg_mem e14, fun _ h => absurd h List.not_mem_nil⟩⟩⟩⟩⟩⟩⟩⟩⟩⟩⟩⟩⟩⟩⟩) (t_X10_learnerDoes_224 N hk105 a0 x1 x3 x4 x5 x6 x7 x8 x9 x10 x11 x12 x13 x14 x16 s_0 g fe)
  cases e
set_option maxRecDepth 100000 in
theorem t_X10_learnerDoes_172 {X : Nat × (Nat → Int32)} (N : Nat) {q : Int32 × mH} {k105 : Nat → Int32 → Int32 → Int32 → Int32 → Int32 → Int32 → Int32 → Int32 → Int32 → Int32 → Int32 → Int32 → Int32 → mH → Option (Int32 × mH)} (hk105 : ∀ (a0 : Nat) (x1 : Int32) (x3 : Int32) (x4 : Int32) (x5 : Int32) (x6 : Int32) (x7 : Int32) (x8 : Int32) (x9 : Int32) (x10 : Int32) (x11 : Int32) (x12 : Int32) (x13 : Int32) (x14 : Int32) g, k105 a0 x1 x3 x4 x5 x6 x7 x8 x9 x10 x11 x12 x13 x14 g = some q → MW X y_X10_learnerDoes 8 105 [(0, .ref a0), (1, .int x1), (3, .int x3), (4, .int x4), (5, .int x5), (6, .int x6), (7, .int x7), (8, .int x8), (9, .int x9), (10, .int x10), (11, .int x11), (12, .int x12), (13, .int x13), (14, .int x14)] [] g (some (.int q.1)) q.2) (a0 : Nat) (x1 : Int32) (x3 : Int32) (x4 : Int32) (x5 : Int32) (x6 : Int32) (x7 : Int32) (x8 : Int32) (x9 : Int32) (x10 : Int32) (x11 : Int32) (x12 : Int32) (x13 : Int32) (x14 : Int32) (h : mH) (hf : J_X10_learnerDoes_172 N k105 a0 x1 x3 x4 x5 x6 x7 x8 x9 x10 x11 x12 x13 x14 h = some q) : MW X y_X10_learnerDoes 8 172 [(0, .ref a0), (1, .int x1), (3, .int x3), (4, .int x4), (5, .int x5), (6, .int x6), (7, .int x7), (8, .int x8), (9, .int x9), (10, .int x10), (11, .int x11), (12, .int x12), (13, .int x13), (14, .int x14)] [] h (some (.int q.1)) q.2 := by
  refine ev_ok (o := 10) (ini := false) (Cl := C_X10_learnerDoes N) (Rc := RcI) (B := B_X10_learnerDoes) (K := fun pc ls st g => kb pc 199 (lgr 0 ls fun a0 => lgi 1 ls fun x1 => lgi 3 ls fun x3 => lgi 4 ls fun x4 => lgi 5 ls fun x5 => lgi 6 ls fun x6 => lgi 7 ls fun x7 => lgi 8 ls fun x8 => lgi 9 ls fun x9 => lgi 10 ls fun x10 => lgi 11 ls fun x11 => lgi 12 ls fun x12 => lgi 13 ls fun x13 => lgi 14 ls fun x14 => lgi 15 ls fun x15 => pp1 st fun s_0 st => pe st (J_X10_learnerDoes_199 N k105 a0 x1 x3 x4 x5 x6 x7 x8 x9 x10 x11 x12 x13 x14 x15 s_0 g)) (none)) rfl (fun e => by cases e) (by decide) (rcI_ok rfl) ?_ (co_X10_learnerDoes N q) lb_X10_learnerDoes 3000 172 S_X10_learnerDoes_172 _ _ h ls_X10_learnerDoes_172 hf
  intro pc ls st g e
  rcases kb_s e with ⟨rfl, e⟩ | e
  · obtain ⟨a0, e0, f0⟩ := lgr_s e
    obtain ⟨x1, e1, f1⟩ := lgi_s f0
    obtain ⟨x3, e2, f2⟩ := lgi_s f1
    obtain ⟨x4, e3, f3⟩ := lgi_s f2
    obtain ⟨x5, e4, f4⟩ := lgi_s f3
    obtain ⟨x6, e5, f5⟩ := lgi_s f4
    obtain ⟨x7, e6, f6⟩ := lgi_s f5
    obtain ⟨x8, e7, f7⟩ := lgi_s f6
    obtain ⟨x9, e8, f8⟩ := lgi_s f7
    obtain ⟨x10, e9, f9⟩ := lgi_s f8
    obtain ⟨x11, e10, f10⟩ := lgi_s f9
    obtain ⟨x12, e11, f11⟩ := lgi_s f10
    obtain ⟨x13, e12, f12⟩ := lgi_s f11
    obtain ⟨x14, e13, f13⟩ := lgi_s f12
    obtain ⟨x15, e14, f14⟩ := lgi_s f13
    obtain ⟨s_0, r0, q0, g0⟩ := pp1_s f14
    obtain ⟨qe, fe⟩ := pe_s g0
    subst qe
    subst q0
    exact MW.sub (List.forall_mem_cons.mpr ⟨lg_mem e0, List.forall_mem_cons.mpr ⟨lg_mem e1, List.forall_mem_cons.mpr ⟨lg_mem e2, List.forall_mem_cons.mpr ⟨lg_mem e3, List.forall_mem_cons.mpr ⟨lg_mem e4, List.forall_mem_cons.mpr ⟨lg_mem e5, List.forall_mem_cons.mpr ⟨lg_mem e6, List.forall_mem_cons.mpr ⟨lg_mem e7, List.forall_mem_cons.mpr ⟨lg_mem e8, List.forall_mem_cons.mpr ⟨lg_mem e9, List.forall_mem_cons.mpr ⟨lg_mem e10, List.forall_mem_cons.mpr ⟨lg_mem e11, List.forall_mem_cons.mpr ⟨lg_mem e12, List.forall_mem_cons.mpr ⟨lg_mem e13, List.forall_mem_cons.mpr ⟨lg_mem e14, fun _ h => absurd h List.not_mem_nil⟩⟩⟩⟩⟩⟩⟩⟩⟩⟩⟩⟩⟩⟩⟩) (t_X10_learnerDoes_199 N hk105 a0 x1 x3 x4 x5 x6 x7 x8 x9 x10 x11 x12 x13 x14 x15 s_0 g fe)
  cases e
set_option maxRecDepth 100000 in
theorem t_X10_learnerDoes_145 {X : Nat × (Nat → Int32)} (N : Nat) {q : Int32 × mH} {k105 : Nat → Int32 → Int32 → Int32 → Int32 → Int32 → Int32 → Int32 → Int32 → Int32 → Int32 → Int32 → Int32 → Int32 → mH → Option (Int32 × mH)} (hk105 : ∀ (a0 : Nat) (x1 : Int32) (x3 : Int32) (x4 : Int32) (x5 : Int32) (x6 : Int32) (x7 : Int32) (x8 : Int32) (x9 : Int32) (x10 : Int32) (x11 : Int32) (x12 : Int32) (x13 : Int32) (x14 : Int32) g, k105 a0 x1 x3 x4 x5 x6 x7 x8 x9 x10 x11 x12 x13 x14 g = some q → MW X y_X10_learnerDoes 8 105 [(0, .ref a0), (1, .int x1), (3, .int x3), (4, .int x4), (5, .int x5), (6, .int x6), (7, .int x7), (8, .int x8), (9, .int x9), (10, .int x10), (11, .int x11), (12, .int x12), (13, .int x13), (14, .int x14)] [] g (some (.int q.1)) q.2) (a0 : Nat) (x1 : Int32) (x3 : Int32) (x4 : Int32) (x5 : Int32) (x6 : Int32) (x7 : Int32) (x8 : Int32) (x9 : Int32) (x10 : Int32) (x11 : Int32) (x12 : Int32) (x13 : Int32) (x14 : Int32) (h : mH) (hf : J_X10_learnerDoes_145 N k105 a0 x1 x3 x4 x5 x6 x7 x8 x9 x10 x11 x12 x13 x14 h = some q) : MW X y_X10_learnerDoes 8 145 [(0, .ref a0), (1, .int x1), (3, .int x3), (4, .int x4), (5, .int x5), (6, .int x6), (7, .int x7), (8, .int x8), (9, .int x9), (10, .int x10), (11, .int x11), (12, .int x12), (13, .int x13), (14, .int x14)] [] h (some (.int q.1)) q.2 := by
  refine ev_ok (o := 10) (ini := false) (Cl := C_X10_learnerDoes N) (Rc := RcI) (B := B_X10_learnerDoes) (K := fun pc ls st g => kb pc 172 (lgr 0 ls fun a0 => lgi 1 ls fun x1 => lgi 3 ls fun x3 => lgi 4 ls fun x4 => lgi 5 ls fun x5 => lgi 6 ls fun x6 => lgi 7 ls fun x7 => lgi 8 ls fun x8 => lgi 9 ls fun x9 => lgi 10 ls fun x10 => lgi 11 ls fun x11 => lgi 12 ls fun x12 => lgi 13 ls fun x13 => lgi 14 ls fun x14 => pe st (J_X10_learnerDoes_172 N k105 a0 x1 x3 x4 x5 x6 x7 x8 x9 x10 x11 x12 x13 x14 g)) (none)) rfl (fun e => by cases e) (by decide) (rcI_ok rfl) ?_ (co_X10_learnerDoes N q) lb_X10_learnerDoes 3000 145 S_X10_learnerDoes_145 _ _ h ls_X10_learnerDoes_145 hf
  intro pc ls st g e
  rcases kb_s e with ⟨rfl, e⟩ | e
  · obtain ⟨a0, e0, f0⟩ := lgr_s e
    obtain ⟨x1, e1, f1⟩ := lgi_s f0
    obtain ⟨x3, e2, f2⟩ := lgi_s f1
    obtain ⟨x4, e3, f3⟩ := lgi_s f2
    obtain ⟨x5, e4, f4⟩ := lgi_s f3
    obtain ⟨x6, e5, f5⟩ := lgi_s f4
    obtain ⟨x7, e6, f6⟩ := lgi_s f5
    obtain ⟨x8, e7, f7⟩ := lgi_s f6
    obtain ⟨x9, e8, f8⟩ := lgi_s f7
    obtain ⟨x10, e9, f9⟩ := lgi_s f8
    obtain ⟨x11, e10, f10⟩ := lgi_s f9
    obtain ⟨x12, e11, f11⟩ := lgi_s f10
    obtain ⟨x13, e12, f12⟩ := lgi_s f11
    obtain ⟨x14, e13, f13⟩ := lgi_s f12
    obtain ⟨qe, fe⟩ := pe_s f13
    subst qe
    exact MW.sub (List.forall_mem_cons.mpr ⟨lg_mem e0, List.forall_mem_cons.mpr ⟨lg_mem e1, List.forall_mem_cons.mpr ⟨lg_mem e2, List.forall_mem_cons.mpr ⟨lg_mem e3, List.forall_mem_cons.mpr ⟨lg_mem e4, List.forall_mem_cons.mpr ⟨lg_mem e5, List.forall_mem_cons.mpr ⟨lg_mem e6, List.forall_mem_cons.mpr ⟨lg_mem e7, List.forall_mem_cons.mpr ⟨lg_mem e8, List.forall_mem_cons.mpr ⟨lg_mem e9, List.forall_mem_cons.mpr ⟨lg_mem e10, List.forall_mem_cons.mpr ⟨lg_mem e11, List.forall_mem_cons.mpr ⟨lg_mem e12, List.forall_mem_cons.mpr ⟨lg_mem e13, fun _ h => absurd h List.not_mem_nil⟩⟩⟩⟩⟩⟩⟩⟩⟩⟩⟩⟩⟩⟩) (t_X10_learnerDoes_172 N hk105 a0 x1 x3 x4 x5 x6 x7 x8 x9 x10 x11 x12 x13 x14 g fe)
  cases e
set_option maxRecDepth 100000 in
theorem t_X10_learnerDoes_105 {X : Nat × (Nat → Int32)} (N : Nat) {q : Int32 × mH} {k89 : Nat → Int32 → Int32 → Int32 → Int32 → Int32 → Int32 → Int32 → Int32 → Int32 → Int32 → Int32 → Int32 → mH → Option (Int32 × mH)} (hk89 : ∀ (a0 : Nat) (x1 : Int32) (x3 : Int32) (x4 : Int32) (x5 : Int32) (x6 : Int32) (x7 : Int32) (x8 : Int32) (x9 : Int32) (x10 : Int32) (x11 : Int32) (x12 : Int32) (x13 : Int32) g, k89 a0 x1 x3 x4 x5 x6 x7 x8 x9 x10 x11 x12 x13 g = some q → MW X y_X10_learnerDoes 8 89 [(0, .ref a0), (1, .int x1), (3, .int x3), (4, .int x4), (5, .int x5), (6, .int x6), (7, .int x7), (8, .int x8), (9, .int x9), (10, .int x10), (11, .int x11), (12, .int x12), (13, .int x13)] [] g (some (.int q.1)) q.2) : ∀ (n : Nat) (a0 : Nat) (x1 : Int32) (x3 : Int32) (x4 : Int32) (x5 : Int32) (x6 : Int32) (x7 : Int32) (x8 : Int32) (x9 : Int32) (x10 : Int32) (x11 : Int32) (x12 : Int32) (x13 : Int32) (x14 : Int32) (h : mH), L_X10_learnerDoes_105 N k89 n a0 x1 x3 x4 x5 x6 x7 x8 x9 x10 x11 x12 x13 x14 h = some q → MW X y_X10_learnerDoes 8 105 [(0, .ref a0), (1, .int x1), (3, .int x3), (4, .int x4), (5, .int x5), (6, .int x6), (7, .int x7), (8, .int x8), (9, .int x9), (10, .int x10), (11, .int x11), (12, .int x12), (13, .int x13), (14, .int x14)] [] h (some (.int q.1)) q.2 := by
  intro n
  induction n with
  | zero => intro a0 x1 x3 x4 x5 x6 x7 x8 x9 x10 x11 x12 x13 x14 h hf; cases hf
  | succ n ih =>
    intro a0 x1 x3 x4 x5 x6 x7 x8 x9 x10 x11 x12 x13 x14 h hf
    refine ev_ok (o := 10) (ini := false) (Cl := C_X10_learnerDoes N) (Rc := RcI) (B := B_X10_learnerDoes) (K := fun pc ls st g => kb pc 89 (lgr 0 ls fun a0 => lgi 1 ls fun x1 => lgi 3 ls fun x3 => lgi 4 ls fun x4 => lgi 5 ls fun x5 => lgi 6 ls fun x6 => lgi 7 ls fun x7 => lgi 8 ls fun x8 => lgi 9 ls fun x9 => lgi 10 ls fun x10 => lgi 11 ls fun x11 => lgi 12 ls fun x12 => lgi 13 ls fun x13 => pe st (k89 a0 x1 x3 x4 x5 x6 x7 x8 x9 x10 x11 x12 x13 g)) (kb pc 145 (lgr 0 ls fun a0 => lgi 1 ls fun x1 => lgi 3 ls fun x3 => lgi 4 ls fun x4 => lgi 5 ls fun x5 => lgi 6 ls fun x6 => lgi 7 ls fun x7 => lgi 8 ls fun x8 => lgi 9 ls fun x9 => lgi 10 ls fun x10 => lgi 11 ls fun x11 => lgi 12 ls fun x12 => lgi 13 ls fun x13 => lgi 14 ls fun x14 => pe st (J_X10_learnerDoes_145 N (L_X10_learnerDoes_105 N k89 n) a0 x1 x3 x4 x5 x6 x7 x8 x9 x10 x11 x12 x13 x14 g)) (none))) rfl (fun e => by cases e) (by decide) (rcI_ok rfl) ?_ (co_X10_learnerDoes N q) lb_X10_learnerDoes 3000 105 S_X10_learnerDoes_105 _ _ h ls_X10_learnerDoes_105 hf
    intro pc ls st g e
    rcases kb_s e with ⟨rfl, e⟩ | e
    · obtain ⟨a0, e0, f0⟩ := lgr_s e
      obtain ⟨x1, e1, f1⟩ := lgi_s f0
      obtain ⟨x3, e2, f2⟩ := lgi_s f1
      obtain ⟨x4, e3, f3⟩ := lgi_s f2
      obtain ⟨x5, e4, f4⟩ := lgi_s f3
      obtain ⟨x6, e5, f5⟩ := lgi_s f4
      obtain ⟨x7, e6, f6⟩ := lgi_s f5
      obtain ⟨x8, e7, f7⟩ := lgi_s f6
      obtain ⟨x9, e8, f8⟩ := lgi_s f7
      obtain ⟨x10, e9, f9⟩ := lgi_s f8
      obtain ⟨x11, e10, f10⟩ := lgi_s f9
      obtain ⟨x12, e11, f11⟩ := lgi_s f10
      obtain ⟨x13, e12, f12⟩ := lgi_s f11
      obtain ⟨qe, fe⟩ := pe_s f12
      subst qe
      exact MW.sub (List.forall_mem_cons.mpr ⟨lg_mem e0, List.forall_mem_cons.mpr ⟨lg_mem e1, List.forall_mem_cons.mpr ⟨lg_mem e2, List.forall_mem_cons.mpr ⟨lg_mem e3, List.forall_mem_cons.mpr ⟨lg_mem e4, List.forall_mem_cons.mpr ⟨lg_mem e5, List.forall_mem_cons.mpr ⟨lg_mem e6, List.forall_mem_cons.mpr ⟨lg_mem e7, List.forall_mem_cons.mpr ⟨lg_mem e8, List.forall_mem_cons.mpr ⟨lg_mem e9, List.forall_mem_cons.mpr ⟨lg_mem e10, List.forall_mem_cons.mpr ⟨lg_mem e11, List.forall_mem_cons.mpr ⟨lg_mem e12, fun _ h => absurd h List.not_mem_nil⟩⟩⟩⟩⟩⟩⟩⟩⟩⟩⟩⟩⟩) (hk89 a0 x1 x3 x4 x5 x6 x7 x8 x9 x10 x11 x12 x13 g fe)
    rcases kb_s e with ⟨rfl, e⟩ | e
    · obtain ⟨a0, e0, f0⟩ := lgr_s e
      obtain ⟨x1, e1, f1⟩ := lgi_s f0
      obtain ⟨x3, e2, f2⟩ := lgi_s f1
      obtain ⟨x4, e3, f3⟩ := lgi_s f2
      obtain ⟨x5, e4, f4⟩ := lgi_s f3
      obtain ⟨x6, e5, f5⟩ := lgi_s f4
      obtain ⟨x7, e6, f6⟩ := lgi_s f5
      obtain ⟨x8, e7, f7⟩ := lgi_s f6
      obtain ⟨x9, e8, f8⟩ := lgi_s f7
      obtain ⟨x10, e9, f9⟩ := lgi_s f8
      obtain ⟨x11, e10, f10⟩ := lgi_s f9
      obtain ⟨x12, e11, f11⟩ := lgi_s f10
      obtain ⟨x13, e12, f12⟩ := lgi_s f11
      obtain ⟨x14, e13, f13⟩ := lgi_s f12
      obtain ⟨qe, fe⟩ := pe_s f13
      subst qe
      exact MW.sub (List.forall_mem_cons.mpr ⟨lg_mem e0, List.forall_mem_cons.mpr ⟨lg_mem e1, List.forall_mem_cons.mpr ⟨lg_mem e2, List.forall_mem_cons.mpr ⟨lg_mem e3, List.forall_mem_cons.mpr ⟨lg_mem e4, List.forall_mem_cons.mpr ⟨lg_mem e5, List.forall_mem_cons.mpr ⟨lg_mem e6, List.forall_mem_cons.mpr ⟨lg_mem e7, List.forall_mem_cons.mpr ⟨lg_mem e8, List.forall_mem_cons.mpr ⟨lg_mem e9, List.forall_mem_cons.mpr ⟨lg_mem e10, List.forall_mem_cons.mpr ⟨lg_mem e11, List.forall_mem_cons.mpr ⟨lg_mem e12, List.forall_mem_cons.mpr ⟨lg_mem e13, fun _ h => absurd h List.not_mem_nil⟩⟩⟩⟩⟩⟩⟩⟩⟩⟩⟩⟩⟩⟩) (t_X10_learnerDoes_145 N (fun a0 x1 x3 x4 x5 x6 x7 x8 x9 x10 x11 x12 x13 x14 g e => ih a0 x1 x3 x4 x5 x6 x7 x8 x9 x10 x11 x12 x13 x14 g e) a0 x1 x3 x4 x5 x6 x7 x8 x9 x10 x11 x12 x13 x14 g fe)
    cases e
set_option maxRecDepth 100000 in
theorem t_X10_learnerDoes_89 {X : Nat × (Nat → Int32)} (N : Nat) {q : Int32 × mH} : ∀ (n : Nat) (a0 : Nat) (x1 : Int32) (x3 : Int32) (x4 : Int32) (x5 : Int32) (x6 : Int32) (x7 : Int32) (x8 : Int32) (x9 : Int32) (x10 : Int32) (x11 : Int32) (x12 : Int32) (x13 : Int32) (h : mH), L_X10_learnerDoes_89 N n a0 x1 x3 x4 x5 x6 x7 x8 x9 x10 x11 x12 x13 h = some q → MW X y_X10_learnerDoes 8 89 [(0, .ref a0), (1, .int x1), (3, .int x3), (4, .int x4), (5, .int x5), (6, .int x6), (7, .int x7), (8, .int x8), (9, .int x9), (10, .int x10), (11, .int x11), (12, .int x12), (13, .int x13)] [] h (some (.int q.1)) q.2 := by
  intro n
  induction n with
  | zero => intro a0 x1 x3 x4 x5 x6 x7 x8 x9 x10 x11 x12 x13 h hf; cases hf
  | succ n ih =>
    intro a0 x1 x3 x4 x5 x6 x7 x8 x9 x10 x11 x12 x13 h hf
    refine ev_ok (o := 10) (ini := false) (Cl := C_X10_learnerDoes N) (Rc := RcI) (B := B_X10_learnerDoes) (K := fun pc ls st g => kb pc 105 (lgr 0 ls fun a0 => lgi 1 ls fun x1 => lgi 3 ls fun x3 => lgi 4 ls fun x4 => lgi 5 ls fun x5 => lgi 6 ls fun x6 => lgi 7 ls fun x7 => lgi 8 ls fun x8 => lgi 9 ls fun x9 => lgi 10 ls fun x10 => lgi 11 ls fun x11 => lgi 12 ls fun x12 => lgi 13 ls fun x13 => lgi 14 ls fun x14 => pe st (L_X10_learnerDoes_105 N (L_X10_learnerDoes_89 N n) N a0 x1 x3 x4 x5 x6 x7 x8 x9 x10 x11 x12 x13 x14 g)) (none)) rfl (fun e => by cases e) (by decide) (rcI_ok rfl) ?_ (co_X10_learnerDoes N q) lb_X10_learnerDoes 3000 89 S_X10_learnerDoes_89 _ _ h ls_X10_learnerDoes_89 hf
    intro pc ls st g e
    rcases kb_s e with ⟨rfl, e⟩ | e
    · obtain ⟨a0, e0, f0⟩ := lgr_s e
      obtain ⟨x1, e1, f1⟩ := lgi_s f0
      obtain ⟨x3, e2, f2⟩ := lgi_s f1
      obtain ⟨x4, e3, f3⟩ := lgi_s f2
      obtain ⟨x5, e4, f4⟩ := lgi_s f3
      obtain ⟨x6, e5, f5⟩ := lgi_s f4
      obtain ⟨x7, e6, f6⟩ := lgi_s f5
      obtain ⟨x8, e7, f7⟩ := lgi_s f6
      obtain ⟨x9, e8, f8⟩ := lgi_s f7
      obtain ⟨x10, e9, f9⟩ := lgi_s f8
      obtain ⟨x11, e10, f10⟩ := lgi_s f9
      obtain ⟨x12, e11, f11⟩ := lgi_s f10
      obtain ⟨x13, e12, f12⟩ := lgi_s f11
      obtain ⟨x14, e13, f13⟩ := lgi_s f12
      obtain ⟨qe, fe⟩ := pe_s f13
      subst qe
      exact MW.sub (List.forall_mem_cons.mpr ⟨lg_mem e0, List.forall_mem_cons.mpr ⟨lg_mem e1, List.forall_mem_cons.mpr ⟨lg_mem e2, List.forall_mem_cons.mpr ⟨lg_mem e3, List.forall_mem_cons.mpr ⟨lg_mem e4, List.forall_mem_cons.mpr ⟨lg_mem e5, List.forall_mem_cons.mpr ⟨lg_mem e6, List.forall_mem_cons.mpr ⟨lg_mem e7, List.forall_mem_cons.mpr ⟨lg_mem e8, List.forall_mem_cons.mpr ⟨lg_mem e9, List.forall_mem_cons.mpr ⟨lg_mem e10, List.forall_mem_cons.mpr ⟨lg_mem e11, List.forall_mem_cons.mpr ⟨lg_mem e12, List.forall_mem_cons.mpr ⟨lg_mem e13, fun _ h => absurd h List.not_mem_nil⟩⟩⟩⟩⟩⟩⟩⟩⟩⟩⟩⟩⟩⟩) (t_X10_learnerDoes_105 N (fun a0 x1 x3 x4 x5 x6 x7 x8 x9 x10 x11 x12 x13 g e => ih a0 x1 x3 x4 x5 x6 x7 x8 x9 x10 x11 x12 x13 g e) N a0 x1 x3 x4 x5 x6 x7 x8 x9 x10 x11 x12 x13 x14 g fe)
    cases e
set_option maxRecDepth 100000 in
theorem m_X10_learnerDoes (N : Nat) {a0 : Nat} {x1 : Int32} {x2 : Int32} {x3 : Int32} {x4 : Int32} {h : mH} {q : Int32 × mH} (hf : f_X10_learnerDoes N a0 x1 x2 x3 x4 h = some q) : MM y_X10_learnerDoes 8 [.ref a0, .int x1, .int x2, .int x3, .int x4] h (some (.int q.1)) q.2 := by
  refine MM.of (mFx (j := 142) rfl).2.2.2.1 (Nat.le_of_ble_eq_true rfl) (fun X => ?_)
  refine ev_ok (o := 10) (ini := false) (Cl := C_X10_learnerDoes N) (Rc := RcI) (B := B_X10_learnerDoes) (K := fun pc ls st g => kb pc 89 (lgr 0 ls fun a0 => lgi 1 ls fun x1 => lgi 3 ls fun x3 => lgi 4 ls fun x4 => lgi 5 ls fun x5 => lgi 6 ls fun x6 => lgi 7 ls fun x7 => lgi 8 ls fun x8 => lgi 9 ls fun x9 => lgi 10 ls fun x10 => lgi 11 ls fun x11 => lgi 12 ls fun x12 => lgi 13 ls fun x13 => pe st (L_X10_learnerDoes_89 N N a0 x1 x3 x4 x5 x6 x7 x8 x9 x10 x11 x12 x13 g)) (none)) rfl (fun e => by cases e) (by decide) (rcI_ok rfl) ?_ (co_X10_learnerDoes N q) lb_X10_learnerDoes 3000 0 S_X10_learnerDoes_0 _ _ h ls_X10_learnerDoes_0 hf
  intro pc ls st g e
  rcases kb_s e with ⟨rfl, e⟩ | e
  · obtain ⟨a0, e0, f0⟩ := lgr_s e
    obtain ⟨x1, e1, f1⟩ := lgi_s f0
    obtain ⟨x3, e2, f2⟩ := lgi_s f1
    obtain ⟨x4, e3, f3⟩ := lgi_s f2
    obtain ⟨x5, e4, f4⟩ := lgi_s f3
    obtain ⟨x6, e5, f5⟩ := lgi_s f4
    obtain ⟨x7, e6, f6⟩ := lgi_s f5
    obtain ⟨x8, e7, f7⟩ := lgi_s f6
    obtain ⟨x9, e8, f8⟩ := lgi_s f7
    obtain ⟨x10, e9, f9⟩ := lgi_s f8
    obtain ⟨x11, e10, f10⟩ := lgi_s f9
    obtain ⟨x12, e11, f11⟩ := lgi_s f10
    obtain ⟨x13, e12, f12⟩ := lgi_s f11
    obtain ⟨qe, fe⟩ := pe_s f12
    subst qe
    exact MW.sub (List.forall_mem_cons.mpr ⟨lg_mem e0, List.forall_mem_cons.mpr ⟨lg_mem e1, List.forall_mem_cons.mpr ⟨lg_mem e2, List.forall_mem_cons.mpr ⟨lg_mem e3, List.forall_mem_cons.mpr ⟨lg_mem e4, List.forall_mem_cons.mpr ⟨lg_mem e5, List.forall_mem_cons.mpr ⟨lg_mem e6, List.forall_mem_cons.mpr ⟨lg_mem e7, List.forall_mem_cons.mpr ⟨lg_mem e8, List.forall_mem_cons.mpr ⟨lg_mem e9, List.forall_mem_cons.mpr ⟨lg_mem e10, List.forall_mem_cons.mpr ⟨lg_mem e11, List.forall_mem_cons.mpr ⟨lg_mem e12, fun _ h => absurd h List.not_mem_nil⟩⟩⟩⟩⟩⟩⟩⟩⟩⟩⟩⟩⟩) (t_X10_learnerDoes_89 N N a0 x1 x3 x4 x5 x6 x7 x8 x9 x10 x11 x12 x13 g fe)
  cases e
def L_X10_joinsOf_67 (N : Nat) (k6 : Nat → Int32 → Int32 → Int32 → Int32 → Int32 → mH → Option (Int32 × mH)) : Nat → Nat → Int32 → Int32 → Int32 → Int32 → Int32 → Int32 → Int32 → Int32 → mH → Option (Int32 × mH)
  | 0, _, _, _, _, _, _, _, _, _, _ => none
  | n + 1, a0, x1, x2, x3, x4, x5, x7, x8, x9, h =>
    if x9 < x8 then
      if x3 = 0 then
        let w1 := iAdd x4 (jI 1)
        let w2 := iAdd x9 (jI 1)
        L_X10_joinsOf_67 N k6 n a0 x1 x2 x3 w1 x5 x7 x8 w2 h
      else
        (rcv h 10 a0).bind fun _ =>
        (f_X10_goesOver N a0 x1 x5 (iMul x9 x7) h).bind fun p3 =>
        if p3.1 = 0 then
          let w4 := iAdd x9 (jI 1)
          L_X10_joinsOf_67 N k6 n a0 x1 x2 x3 x4 x5 x7 x8 w4 p3.2
        else
          let w5 := iAdd x4 (jI 1)
          let w6 := iAdd x9 (jI 1)
          L_X10_joinsOf_67 N k6 n a0 x1 x2 x3 w5 x5 x7 x8 w6 p3.2
    else
      let w7 := iAdd x5 (jI 1)
      k6 a0 x1 x2 x3 x4 w7 h
def L_X10_joinsOf_6 (N : Nat) : Nat → Nat → Int32 → Int32 → Int32 → Int32 → Int32 → mH → Option (Int32 × mH)
  | 0, _, _, _, _, _, _, _ => none
  | n + 1, a0, x1, x2, x3, x4, x5, h =>
    (gR h 10 a0 0).bind fun v1 =>
    (rcv h 0 v1).bind fun _ =>
    (f_X0_ofBand N v1 x1 (jI 0) h).bind fun p2 =>
    if x5 < p2.1 then
      (gR p2.2 10 a0 0).bind fun v3 =>
      (rcv p2.2 0 v3).bind fun _ =>
      (f_X0_kindOf N v3 x1 x5 p2.2).bind fun p4 =>
      (gR p4.2 10 a0 0).bind fun v5 =>
      (rcv p4.2 0 v5).bind fun _ =>
      (f_X0_rodStep N v5 p4.1 x2 p4.2).bind fun p6 =>
      (gR p6.2 10 a0 0).bind fun v7 =>
      (gR p6.2 10 a0 0).bind fun v8 =>
      (rcv p6.2 0 v8).bind fun _ =>
      (f_X0_crossingsOf N v8 x1 p6.2).bind fun p9 =>
      (rcv p9.2 0 v7).bind fun _ =>
      (f_X0_rodsFor N v7 p4.1 x2 p9.1 p9.2).bind fun p10 =>
      L_X10_joinsOf_67 N (L_X10_joinsOf_6 N n) N a0 x1 x2 x3 x4 x5 p6.1 p10.1 (jI 1) p10.2
    else
      some (x4, p2.2)
def f_X10_joinsOf (N : Nat) (a0 : Nat) (x1 : Int32) (x2 : Int32) (x3 : Int32) (h : mH) : Option (Int32 × mH) :=
  L_X10_joinsOf_6 N N a0 x1 x2 x3 (jI 0) (jI 0) h
def y_X10_joinsOf : mM := (yX10_joinsOf, cX10_joinsOf, 10, (some .int))
def B_X10_joinsOf : List (Nat × List mI) := [(93, [(.iinc 4 1, 3, [4], [1])]), (96, [(.iinc 9 1, 3, [9], [1]), (.goto (-32), 3, [67], [])]), (102, [(.iinc 5 1, 3, [5], [1]), (.goto (-99), 3, [6], [])]), (108, [(.iload 4, 2, [4], []), (.ireturn, 1, [], [])])]
def S_X10_joinsOf_0 : List mI := [(.iconst 0, 1, [], [0]), (.istore 4, 2, [4], []), (.iconst 0, 1, [], [0]), (.istore 5, 2, [5], [])]
def S_X10_joinsOf_6 : List mI := [(.iload 5, 2, [5], []), (.aload_n 0, 1, [0], []), (.getfield 26, 3, [10, 0, 2, 40], []), (.iload_n 1, 1, [1], []), (.iconst 0, 1, [], [0]), (.invokevirtual 46, 3, [0, 9, 2, 0, 71], []), (.if_icmp .ge 91, 3, [108], []), (.aload_n 0, 1, [0], []), (.getfield 26, 3, [10, 0, 2, 40], []), (.iload_n 1, 1, [1], []), (.iload 5, 2, [5], []), (.invokevirtual 77, 3, [0, 10, 2, 0, 84], []), (.istore 6, 2, [6], []), (.aload_n 0, 1, [0], []), (.getfield 26, 3, [10, 0, 2, 40], []), (.iload 6, 2, [6], []), (.iload_n 2, 1, [2], []), (.invokevirtual 133, 3, [0, 24, 2, 0, 164], []), (.istore 7, 2, [7], []), (.aload_n 0, 1, [0], []), (.getfield 26, 3, [10, 0, 2, 40], []), (.iload 6, 2, [6], []), (.iload_n 2, 1, [2], []), (.aload_n 0, 1, [0], []), (.getfield 26, 3, [10, 0, 2, 40], []), (.iload_n 1, 1, [1], []), (.invokevirtual 118, 3, [0, 14, 1, 0, 123], []), (.invokevirtual 136, 3, [0, 25, 3, 0, 165], []), (.istore 8, 2, [8], []), (.iconst 1, 1, [], [1]), (.istore 9, 2, [9], [])]
def S_X10_joinsOf_67 : List mI := [(.iload 9, 2, [9], []), (.iload 8, 2, [8], []), (.if_icmp .ge 31, 3, [102], []), (.iload_n 3, 1, [3], []), (.ifCond .eq 18, 3, [93], []), (.aload_n 0, 1, [0], []), (.iload_n 1, 1, [1], []), (.iload 5, 2, [5], []), (.iload 9, 2, [9], []), (.iload 7, 2, [7], []), (.imul, 1, [], []), (.invokevirtual 121, 3, [0, 129, 3, 10, 124], []), (.ifCond .eq 6, 3, [96], [])]
theorem lb_X10_joinsOf : B_X10_joinsOf.all (fun b => lst y_X10_joinsOf.2.1 10 y_X10_joinsOf.2.2.1 false b.1 b.2) = true := by decide +kernel
theorem ls_X10_joinsOf_0 : lst y_X10_joinsOf.2.1 10 y_X10_joinsOf.2.2.1 false 0 S_X10_joinsOf_0 = true := by decide +kernel
theorem ls_X10_joinsOf_6 : lst y_X10_joinsOf.2.1 10 y_X10_joinsOf.2.2.1 false 6 S_X10_joinsOf_6 = true := by decide +kernel
theorem ls_X10_joinsOf_67 : lst y_X10_joinsOf.2.1 10 y_X10_joinsOf.2.2.1 false 67 S_X10_joinsOf_67 = true := by decide +kernel
def C_X10_joinsOf (N : Nat) : Nat → List Value → mH → (Option Value → mH → Option (Int32 × mH)) → Option (Int32 × mH) := fun j as g k => kb j 9 (pr1 as fun b0 as => pp1 as fun b1 as => pp1 as fun b2 as => pe as ((f_X0_ofBand N b0 b1 b2 g).bind fun p => k (some (.int p.1)) p.2)) (kb j 10 (pr1 as fun b0 as => pp1 as fun b1 as => pp1 as fun b2 as => pe as ((f_X0_kindOf N b0 b1 b2 g).bind fun p => k (some (.int p.1)) p.2)) (kb j 24 (pr1 as fun b0 as => pp1 as fun b1 as => pp1 as fun b2 as => pe as ((f_X0_rodStep N b0 b1 b2 g).bind fun p => k (some (.int p.1)) p.2)) (kb j 14 (pr1 as fun b0 as => pp1 as fun b1 as => pe as ((f_X0_crossingsOf N b0 b1 g).bind fun p => k (some (.int p.1)) p.2)) (kb j 25 (pr1 as fun b0 as => pp1 as fun b1 as => pp1 as fun b2 as => pp1 as fun b3 as => pe as ((f_X0_rodsFor N b0 b1 b2 b3 g).bind fun p => k (some (.int p.1)) p.2)) (kb j 129 (pr1 as fun b0 as => pp1 as fun b1 as => pp1 as fun b2 as => pp1 as fun b3 as => pe as ((f_X10_goesOver N b0 b1 b2 b3 g).bind fun p => k (some (.int p.1)) p.2)) (none))))))
theorem co_X10_joinsOf (N : Nat) (q : Int32 × mH) : clOK 9 q (C_X10_joinsOf N) := by
  intro j as g k e
  rcases kb_s e with ⟨rfl, e⟩ | e
  · obtain ⟨b0, r0, q0, f0⟩ := pr1_s e
    obtain ⟨b1, r1, q1, f1⟩ := pp1_s f0
    obtain ⟨b2, r2, q2, f2⟩ := pp1_s f1
    obtain ⟨qe, fe⟩ := pe_s f2
    obtain ⟨p, e1, e2⟩ := bnd_s fe
    subst qe
    subst q2
    subst q1
    subst q0
    exact ⟨_, _, _, _, 4, rfl, (by decide), m_X0_ofBand N e1, e2⟩
  rcases kb_s e with ⟨rfl, e⟩ | e
  · obtain ⟨b0, r0, q0, f0⟩ := pr1_s e
    obtain ⟨b1, r1, q1, f1⟩ := pp1_s f0
    obtain ⟨b2, r2, q2, f2⟩ := pp1_s f1
    obtain ⟨qe, fe⟩ := pe_s f2
    obtain ⟨p, e1, e2⟩ := bnd_s fe
    subst qe
    subst q2
    subst q1
    subst q0
    exact ⟨_, _, _, _, 5, rfl, (by decide), m_X0_kindOf N e1, e2⟩
  rcases kb_s e with ⟨rfl, e⟩ | e
  · obtain ⟨b0, r0, q0, f0⟩ := pr1_s e
    obtain ⟨b1, r1, q1, f1⟩ := pp1_s f0
    obtain ⟨b2, r2, q2, f2⟩ := pp1_s f1
    obtain ⟨qe, fe⟩ := pe_s f2
    obtain ⟨p, e1, e2⟩ := bnd_s fe
    subst qe
    subst q2
    subst q1
    subst q0
    exact ⟨_, _, _, _, 5, rfl, (by decide), m_X0_rodStep N e1, e2⟩
  rcases kb_s e with ⟨rfl, e⟩ | e
  · obtain ⟨b0, r0, q0, f0⟩ := pr1_s e
    obtain ⟨b1, r1, q1, f1⟩ := pp1_s f0
    obtain ⟨qe, fe⟩ := pe_s f1
    obtain ⟨p, e1, e2⟩ := bnd_s fe
    subst qe
    subst q1
    subst q0
    exact ⟨_, _, _, _, 5, rfl, (by decide), m_X0_crossingsOf N e1, e2⟩
  rcases kb_s e with ⟨rfl, e⟩ | e
  · obtain ⟨b0, r0, q0, f0⟩ := pr1_s e
    obtain ⟨b1, r1, q1, f1⟩ := pp1_s f0
    obtain ⟨b2, r2, q2, f2⟩ := pp1_s f1
    obtain ⟨b3, r3, q3, f3⟩ := pp1_s f2
    obtain ⟨qe, fe⟩ := pe_s f3
    obtain ⟨p, e1, e2⟩ := bnd_s fe
    subst qe
    subst q3
    subst q2
    subst q1
    subst q0
    exact ⟨_, _, _, _, 6, rfl, (by decide), m_X0_rodsFor N e1, e2⟩
  rcases kb_s e with ⟨rfl, e⟩ | e
  · obtain ⟨b0, r0, q0, f0⟩ := pr1_s e
    obtain ⟨b1, r1, q1, f1⟩ := pp1_s f0
    obtain ⟨b2, r2, q2, f2⟩ := pp1_s f1
    obtain ⟨b3, r3, q3, f3⟩ := pp1_s f2
    obtain ⟨qe, fe⟩ := pe_s f3
    obtain ⟨p, e1, e2⟩ := bnd_s fe
    subst qe
    subst q3
    subst q2
    subst q1
    subst q0
    exact ⟨_, _, _, _, 8, rfl, (by decide), m_X10_goesOver N e1, e2⟩
  cases e
set_option maxRecDepth 100000 in
theorem t_X10_joinsOf_67 {X : Nat × (Nat → Int32)} (N : Nat) {q : Int32 × mH} {k6 : Nat → Int32 → Int32 → Int32 → Int32 → Int32 → mH → Option (Int32 × mH)} (hk6 : ∀ (a0 : Nat) (x1 : Int32) (x2 : Int32) (x3 : Int32) (x4 : Int32) (x5 : Int32) g, k6 a0 x1 x2 x3 x4 x5 g = some q → MW X y_X10_joinsOf 9 6 [(0, .ref a0), (1, .int x1), (2, .int x2), (3, .int x3), (4, .int x4), (5, .int x5)] [] g (some (.int q.1)) q.2) : ∀ (n : Nat) (a0 : Nat) (x1 : Int32) (x2 : Int32) (x3 : Int32) (x4 : Int32) (x5 : Int32) (x7 : Int32) (x8 : Int32) (x9 : Int32) (h : mH), L_X10_joinsOf_67 N k6 n a0 x1 x2 x3 x4 x5 x7 x8 x9 h = some q → MW X y_X10_joinsOf 9 67 [(0, .ref a0), (1, .int x1), (2, .int x2), (3, .int x3), (4, .int x4), (5, .int x5), (7, .int x7), (8, .int x8), (9, .int x9)] [] h (some (.int q.1)) q.2 := by
  intro n
  induction n with
  | zero => intro a0 x1 x2 x3 x4 x5 x7 x8 x9 h hf; cases hf
  | succ n ih =>
    intro a0 x1 x2 x3 x4 x5 x7 x8 x9 h hf
    refine ev_ok (o := 10) (ini := false) (Cl := C_X10_joinsOf N) (Rc := RcI) (B := B_X10_joinsOf) (K := fun pc ls st g => kb pc 6 (lgr 0 ls fun a0 => lgi 1 ls fun x1 => lgi 2 ls fun x2 => lgi 3 ls fun x3 => lgi 4 ls fun x4 => lgi 5 ls fun x5 => pe st (k6 a0 x1 x2 x3 x4 x5 g)) (kb pc 67 (lgr 0 ls fun a0 => lgi 1 ls fun x1 => lgi 2 ls fun x2 => lgi 3 ls fun x3 => lgi 4 ls fun x4 => lgi 5 ls fun x5 => lgi 7 ls fun x7 => lgi 8 ls fun x8 => lgi 9 ls fun x9 => pe st (L_X10_joinsOf_67 N k6 n a0 x1 x2 x3 x4 x5 x7 x8 x9 g)) (none))) rfl (fun e => by cases e) (by decide) (rcI_ok rfl) ?_ (co_X10_joinsOf N q) lb_X10_joinsOf 3000 67 S_X10_joinsOf_67 _ _ h ls_X10_joinsOf_67 hf
    intro pc ls st g e
    rcases kb_s e with ⟨rfl, e⟩ | e
    · obtain ⟨a0, e0, f0⟩ := lgr_s e
      obtain ⟨x1, e1, f1⟩ := lgi_s f0
      obtain ⟨x2, e2, f2⟩ := lgi_s f1
      obtain ⟨x3, e3, f3⟩ := lgi_s f2
      obtain ⟨x4, e4, f4⟩ := lgi_s f3
      obtain ⟨x5, e5, f5⟩ := lgi_s f4
      obtain ⟨qe, fe⟩ := pe_s f5
      subst qe
      exact MW.sub (List.forall_mem_cons.mpr ⟨lg_mem e0, List.forall_mem_cons.mpr ⟨lg_mem e1, List.forall_mem_cons.mpr ⟨lg_mem e2, List.forall_mem_cons.mpr ⟨lg_mem e3, List.forall_mem_cons.mpr ⟨lg_mem e4, List.forall_mem_cons.mpr ⟨lg_mem e5, fun _ h => absurd h List.not_mem_nil⟩⟩⟩⟩⟩⟩) (hk6 a0 x1 x2 x3 x4 x5 g fe)
    rcases kb_s e with ⟨rfl, e⟩ | e
    · obtain ⟨a0, e0, f0⟩ := lgr_s e
      obtain ⟨x1, e1, f1⟩ := lgi_s f0
      obtain ⟨x2, e2, f2⟩ := lgi_s f1
      obtain ⟨x3, e3, f3⟩ := lgi_s f2
      obtain ⟨x4, e4, f4⟩ := lgi_s f3
      obtain ⟨x5, e5, f5⟩ := lgi_s f4
      obtain ⟨x7, e6, f6⟩ := lgi_s f5
      obtain ⟨x8, e7, f7⟩ := lgi_s f6
      obtain ⟨x9, e8, f8⟩ := lgi_s f7
      obtain ⟨qe, fe⟩ := pe_s f8
      subst qe
      exact MW.sub (List.forall_mem_cons.mpr ⟨lg_mem e0, List.forall_mem_cons.mpr ⟨lg_mem e1, List.forall_mem_cons.mpr ⟨lg_mem e2, List.forall_mem_cons.mpr ⟨lg_mem e3, List.forall_mem_cons.mpr ⟨lg_mem e4, List.forall_mem_cons.mpr ⟨lg_mem e5, List.forall_mem_cons.mpr ⟨lg_mem e6, List.forall_mem_cons.mpr ⟨lg_mem e7, List.forall_mem_cons.mpr ⟨lg_mem e8, fun _ h => absurd h List.not_mem_nil⟩⟩⟩⟩⟩⟩⟩⟩⟩) (ih a0 x1 x2 x3 x4 x5 x7 x8 x9 g fe)
    cases e
set_option maxRecDepth 100000 in
theorem t_X10_joinsOf_6 {X : Nat × (Nat → Int32)} (N : Nat) {q : Int32 × mH} : ∀ (n : Nat) (a0 : Nat) (x1 : Int32) (x2 : Int32) (x3 : Int32) (x4 : Int32) (x5 : Int32) (h : mH), L_X10_joinsOf_6 N n a0 x1 x2 x3 x4 x5 h = some q → MW X y_X10_joinsOf 9 6 [(0, .ref a0), (1, .int x1), (2, .int x2), (3, .int x3), (4, .int x4), (5, .int x5)] [] h (some (.int q.1)) q.2 := by
  intro n
  induction n with
  | zero => intro a0 x1 x2 x3 x4 x5 h hf; cases hf
  | succ n ih =>
    intro a0 x1 x2 x3 x4 x5 h hf
    refine ev_ok (o := 10) (ini := false) (Cl := C_X10_joinsOf N) (Rc := RcI) (B := B_X10_joinsOf) (K := fun pc ls st g => kb pc 67 (lgr 0 ls fun a0 => lgi 1 ls fun x1 => lgi 2 ls fun x2 => lgi 3 ls fun x3 => lgi 4 ls fun x4 => lgi 5 ls fun x5 => lgi 7 ls fun x7 => lgi 8 ls fun x8 => lgi 9 ls fun x9 => pe st (L_X10_joinsOf_67 N (L_X10_joinsOf_6 N n) N a0 x1 x2 x3 x4 x5 x7 x8 x9 g)) (none)) rfl (fun e => by cases e) (by decide) (rcI_ok rfl) ?_ (co_X10_joinsOf N q) lb_X10_joinsOf 3000 6 S_X10_joinsOf_6 _ _ h ls_X10_joinsOf_6 hf
    intro pc ls st g e
    rcases kb_s e with ⟨rfl, e⟩ | e
    · obtain ⟨a0, e0, f0⟩ := lgr_s e
      obtain ⟨x1, e1, f1⟩ := lgi_s f0
      obtain ⟨x2, e2, f2⟩ := lgi_s f1
      obtain ⟨x3, e3, f3⟩ := lgi_s f2
      obtain ⟨x4, e4, f4⟩ := lgi_s f3
      obtain ⟨x5, e5, f5⟩ := lgi_s f4
      obtain ⟨x7, e6, f6⟩ := lgi_s f5
      obtain ⟨x8, e7, f7⟩ := lgi_s f6
      obtain ⟨x9, e8, f8⟩ := lgi_s f7
      obtain ⟨qe, fe⟩ := pe_s f8
      subst qe
      exact MW.sub (List.forall_mem_cons.mpr ⟨lg_mem e0, List.forall_mem_cons.mpr ⟨lg_mem e1, List.forall_mem_cons.mpr ⟨lg_mem e2, List.forall_mem_cons.mpr ⟨lg_mem e3, List.forall_mem_cons.mpr ⟨lg_mem e4, List.forall_mem_cons.mpr ⟨lg_mem e5, List.forall_mem_cons.mpr ⟨lg_mem e6, List.forall_mem_cons.mpr ⟨lg_mem e7, List.forall_mem_cons.mpr ⟨lg_mem e8, fun _ h => absurd h List.not_mem_nil⟩⟩⟩⟩⟩⟩⟩⟩⟩) (t_X10_joinsOf_67 N (fun a0 x1 x2 x3 x4 x5 g e => ih a0 x1 x2 x3 x4 x5 g e) N a0 x1 x2 x3 x4 x5 x7 x8 x9 g fe)
    cases e
set_option maxRecDepth 100000 in
theorem m_X10_joinsOf (N : Nat) {a0 : Nat} {x1 : Int32} {x2 : Int32} {x3 : Int32} {h : mH} {q : Int32 × mH} (hf : f_X10_joinsOf N a0 x1 x2 x3 h = some q) : MM y_X10_joinsOf 9 [.ref a0, .int x1, .int x2, .int x3] h (some (.int q.1)) q.2 := by
  refine MM.of (mFx (j := 143) rfl).2.2.2.1 (Nat.le_of_ble_eq_true rfl) (fun X => ?_)
  refine ev_ok (o := 10) (ini := false) (Cl := C_X10_joinsOf N) (Rc := RcI) (B := B_X10_joinsOf) (K := fun pc ls st g => kb pc 6 (lgr 0 ls fun a0 => lgi 1 ls fun x1 => lgi 2 ls fun x2 => lgi 3 ls fun x3 => lgi 4 ls fun x4 => lgi 5 ls fun x5 => pe st (L_X10_joinsOf_6 N N a0 x1 x2 x3 x4 x5 g)) (none)) rfl (fun e => by cases e) (by decide) (rcI_ok rfl) ?_ (co_X10_joinsOf N q) lb_X10_joinsOf 3000 0 S_X10_joinsOf_0 _ _ h ls_X10_joinsOf_0 hf
  intro pc ls st g e
  rcases kb_s e with ⟨rfl, e⟩ | e
  · obtain ⟨a0, e0, f0⟩ := lgr_s e
    obtain ⟨x1, e1, f1⟩ := lgi_s f0
    obtain ⟨x2, e2, f2⟩ := lgi_s f1
    obtain ⟨x3, e3, f3⟩ := lgi_s f2
    obtain ⟨x4, e4, f4⟩ := lgi_s f3
    obtain ⟨x5, e5, f5⟩ := lgi_s f4
    obtain ⟨qe, fe⟩ := pe_s f5
    subst qe
    exact MW.sub (List.forall_mem_cons.mpr ⟨lg_mem e0, List.forall_mem_cons.mpr ⟨lg_mem e1, List.forall_mem_cons.mpr ⟨lg_mem e2, List.forall_mem_cons.mpr ⟨lg_mem e3, List.forall_mem_cons.mpr ⟨lg_mem e4, List.forall_mem_cons.mpr ⟨lg_mem e5, fun _ h => absurd h List.not_mem_nil⟩⟩⟩⟩⟩⟩) (t_X10_joinsOf_6 N N a0 x1 x2 x3 x4 x5 g fe)
  cases e
def L_X10_changesOf_17 (N : Nat) : Nat → Nat → Int32 → Int32 → Int32 → Int32 → Int32 → Int32 → mH → Option (Int32 × mH)
  | 0, _, _, _, _, _, _, _, _ => none
  | n + 1, a0, x1, x2, x3, x4, x5, x6, h =>
    (gR h 10 a0 0).bind fun v1 =>
    (rcv h 0 v1).bind fun _ =>
    (f_X0_ofBand N v1 x1 (jI 3) h).bind fun p2 =>
    if x6 < p2.1 then
      (gR p2.2 10 a0 0).bind fun v3 =>
      (rcv p2.2 0 v3).bind fun _ =>
      (f_X0_weaversOf N v3 x1 p2.2).bind fun p4 =>
      (rcv p4.2 10 a0).bind fun _ =>
      (f_X10_rowBits N a0 x1 (iAdd (iMul x6 p4.1) x2) p4.2).bind fun p5 =>
      (f_X11_maskOf N x3 p5.2).bind fun p6 =>
      (f_J6_bitCount_0f7a4 N (iAnd (iXor p5.1 (iUsr p5.1 (jI 1))) (iUsr p6.1 (jI 1))) p6.2).bind fun p7 =>
      let w8 := iAdd x4 p7.1
      if 0 < x6 then
        if (iAnd p5.1 (jI 1)) = x5 then
          let w9 := iAnd (iUsr p5.1 (iSub x3 (jI 1))) (jI 1)
          let w10 := iAdd x6 (jI 1)
          L_X10_changesOf_17 N n a0 x1 x2 x3 w8 w9 w10 p7.2
        else
          let w11 := iAdd w8 (jI 1)
          let w12 := iAnd (iUsr p5.1 (iSub x3 (jI 1))) (jI 1)
          let w13 := iAdd x6 (jI 1)
          L_X10_changesOf_17 N n a0 x1 x2 x3 w11 w12 w13 p7.2
      else
        let w14 := iAnd (iUsr p5.1 (iSub x3 (jI 1))) (jI 1)
        let w15 := iAdd x6 (jI 1)
        L_X10_changesOf_17 N n a0 x1 x2 x3 w8 w14 w15 p7.2
    else
      some (x4, p2.2)
def f_X10_changesOf (N : Nat) (a0 : Nat) (x1 : Int32) (x2 : Int32) (h : mH) : Option (Int32 × mH) :=
  (gR h 10 a0 0).bind fun v1 =>
  (rcv h 0 v1).bind fun _ =>
  (f_X0_ring N v1 h).bind fun p2 =>
  L_X10_changesOf_17 N N a0 x1 x2 p2.1 (jI 0) (jI 0) (jI 0) p2.2
def y_X10_changesOf : mM := (yX10_changesOf, cX10_changesOf, 8, (some .int))
def B_X10_changesOf : List (Nat × List mI) := [(90, [(.iload 7, 2, [7], []), (.iload_n 3, 1, [3], []), (.iconst 1, 1, [], [1]), (.isub, 1, [], []), (.iushr, 1, [], []), (.iconst 1, 1, [], [1]), (.iand, 1, [], []), (.istore 5, 2, [5], []), (.iinc 6 1, 3, [6], [1]), (.goto (-86), 3, [17], [])]), (106, [(.iload 4, 2, [4], []), (.ireturn, 1, [], [])])]
def S_X10_changesOf_0 : List mI := [(.aload_n 0, 1, [0], []), (.getfield 26, 3, [10, 0, 2, 40], []), (.invokevirtual 63, 3, [0, 11, 0, 0, 66], []), (.istore_n 3, 1, [3], []), (.iconst 0, 1, [], [0]), (.istore 4, 2, [4], []), (.iconst 0, 1, [], [0]), (.istore 5, 2, [5], []), (.iconst 0, 1, [], [0]), (.istore 6, 2, [6], [])]
def S_X10_changesOf_17 : List mI := [(.iload 6, 2, [6], []), (.aload_n 0, 1, [0], []), (.getfield 26, 3, [10, 0, 2, 40], []), (.iload_n 1, 1, [1], []), (.iconst 3, 1, [], [3]), (.invokevirtual 46, 3, [0, 9, 2, 0, 71], []), (.if_icmp .ge 78, 3, [106], []), (.aload_n 0, 1, [0], []), (.iload_n 1, 1, [1], []), (.iload 6, 2, [6], []), (.aload_n 0, 1, [0], []), (.getfield 26, 3, [10, 0, 2, 40], []), (.iload_n 1, 1, [1], []), (.invokevirtual 38, 3, [0, 12, 1, 0, 67], []), (.imul, 1, [], []), (.iload_n 2, 1, [2], []), (.iadd, 1, [], []), (.invokevirtual 67, 3, [0, 127, 2, 10, 68], []), (.istore 7, 2, [7], []), (.iload 4, 2, [4], []), (.iload 7, 2, [7], []), (.iload 7, 2, [7], []), (.iconst 1, 1, [], [1]), (.iushr, 1, [], []), (.ixor, 1, [], []), (.iload_n 3, 1, [3], []), (.invokestatic 148, 3, [3, 221, 1, 0, 14], []), (.iconst 1, 1, [], [1]), (.iushr, 1, [], []), (.iand, 1, [], []), (.invokestatic 97, 3, [1, 345, 1, 0, 108], []), (.iadd, 1, [], []), (.istore 4, 2, [4], []), (.iload 6, 2, [6], []), (.ifCond .le 15, 3, [90], []), (.iload 7, 2, [7], []), (.iconst 1, 1, [], [1]), (.iand, 1, [], []), (.iload 5, 2, [5], []), (.if_icmp .eq 6, 3, [90], []), (.iinc 4 1, 3, [4], [1])]
theorem lb_X10_changesOf : B_X10_changesOf.all (fun b => lst y_X10_changesOf.2.1 10 y_X10_changesOf.2.2.1 false b.1 b.2) = true := by decide +kernel
theorem ls_X10_changesOf_0 : lst y_X10_changesOf.2.1 10 y_X10_changesOf.2.2.1 false 0 S_X10_changesOf_0 = true := by decide +kernel
theorem ls_X10_changesOf_17 : lst y_X10_changesOf.2.1 10 y_X10_changesOf.2.2.1 false 17 S_X10_changesOf_17 = true := by decide +kernel
def C_X10_changesOf (N : Nat) : Nat → List Value → mH → (Option Value → mH → Option (Int32 × mH)) → Option (Int32 × mH) := fun j as g k => kb j 11 (pr1 as fun b0 as => pe as ((f_X0_ring N b0 g).bind fun p => k (some (.int p.1)) p.2)) (kb j 9 (pr1 as fun b0 as => pp1 as fun b1 as => pp1 as fun b2 as => pe as ((f_X0_ofBand N b0 b1 b2 g).bind fun p => k (some (.int p.1)) p.2)) (kb j 12 (pr1 as fun b0 as => pp1 as fun b1 as => pe as ((f_X0_weaversOf N b0 b1 g).bind fun p => k (some (.int p.1)) p.2)) (kb j 127 (pr1 as fun b0 as => pp1 as fun b1 as => pp1 as fun b2 as => pe as ((f_X10_rowBits N b0 b1 b2 g).bind fun p => k (some (.int p.1)) p.2)) (kb j 221 (pp1 as fun b0 as => pe as ((f_X11_maskOf N b0 g).bind fun p => k (some (.int p.1)) p.2)) (kb j 345 (pp1 as fun b0 as => pe as ((f_J6_bitCount_0f7a4 N b0 g).bind fun p => k (some (.int p.1)) p.2)) (none))))))
theorem co_X10_changesOf (N : Nat) (q : Int32 × mH) : clOK 8 q (C_X10_changesOf N) := by
  intro j as g k e
  rcases kb_s e with ⟨rfl, e⟩ | e
  · obtain ⟨b0, r0, q0, f0⟩ := pr1_s e
    obtain ⟨qe, fe⟩ := pe_s f0
    obtain ⟨p, e1, e2⟩ := bnd_s fe
    subst qe
    subst q0
    exact ⟨_, _, _, _, 4, rfl, (by decide), m_X0_ring N e1, e2⟩
  rcases kb_s e with ⟨rfl, e⟩ | e
  · obtain ⟨b0, r0, q0, f0⟩ := pr1_s e
    obtain ⟨b1, r1, q1, f1⟩ := pp1_s f0
    obtain ⟨b2, r2, q2, f2⟩ := pp1_s f1
    obtain ⟨qe, fe⟩ := pe_s f2
    obtain ⟨p, e1, e2⟩ := bnd_s fe
    subst qe
    subst q2
    subst q1
    subst q0
    exact ⟨_, _, _, _, 4, rfl, (by decide), m_X0_ofBand N e1, e2⟩
  rcases kb_s e with ⟨rfl, e⟩ | e
  · obtain ⟨b0, r0, q0, f0⟩ := pr1_s e
    obtain ⟨b1, r1, q1, f1⟩ := pp1_s f0
    obtain ⟨qe, fe⟩ := pe_s f1
    obtain ⟨p, e1, e2⟩ := bnd_s fe
    subst qe
    subst q1
    subst q0
    exact ⟨_, _, _, _, 5, rfl, (by decide), m_X0_weaversOf N e1, e2⟩
  rcases kb_s e with ⟨rfl, e⟩ | e
  · obtain ⟨b0, r0, q0, f0⟩ := pr1_s e
    obtain ⟨b1, r1, q1, f1⟩ := pp1_s f0
    obtain ⟨b2, r2, q2, f2⟩ := pp1_s f1
    obtain ⟨qe, fe⟩ := pe_s f2
    obtain ⟨p, e1, e2⟩ := bnd_s fe
    subst qe
    subst q2
    subst q1
    subst q0
    exact ⟨_, _, _, _, 7, rfl, (by decide), m_X10_rowBits N e1, e2⟩
  rcases kb_s e with ⟨rfl, e⟩ | e
  · obtain ⟨b0, r0, q0, f0⟩ := pp1_s e
    obtain ⟨qe, fe⟩ := pe_s f0
    obtain ⟨p, e1, e2⟩ := bnd_s fe
    subst qe
    subst q0
    exact ⟨_, _, _, _, 4, rfl, (by decide), m_X11_maskOf N e1, e2⟩
  rcases kb_s e with ⟨rfl, e⟩ | e
  · obtain ⟨b0, r0, q0, f0⟩ := pp1_s e
    obtain ⟨qe, fe⟩ := pe_s f0
    obtain ⟨p, e1, e2⟩ := bnd_s fe
    subst qe
    subst q0
    exact ⟨_, _, _, _, 4, rfl, (by decide), m_J6_bitCount_0f7a4 N e1, e2⟩
  cases e
set_option maxRecDepth 100000 in
theorem t_X10_changesOf_17 {X : Nat × (Nat → Int32)} (N : Nat) {q : Int32 × mH} : ∀ (n : Nat) (a0 : Nat) (x1 : Int32) (x2 : Int32) (x3 : Int32) (x4 : Int32) (x5 : Int32) (x6 : Int32) (h : mH), L_X10_changesOf_17 N n a0 x1 x2 x3 x4 x5 x6 h = some q → MW X y_X10_changesOf 8 17 [(0, .ref a0), (1, .int x1), (2, .int x2), (3, .int x3), (4, .int x4), (5, .int x5), (6, .int x6)] [] h (some (.int q.1)) q.2 := by
  intro n
  induction n with
  | zero => intro a0 x1 x2 x3 x4 x5 x6 h hf; cases hf
  | succ n ih =>
    intro a0 x1 x2 x3 x4 x5 x6 h hf
    refine ev_ok (o := 10) (ini := false) (Cl := C_X10_changesOf N) (Rc := RcI) (B := B_X10_changesOf) (K := fun pc ls st g => kb pc 17 (lgr 0 ls fun a0 => lgi 1 ls fun x1 => lgi 2 ls fun x2 => lgi 3 ls fun x3 => lgi 4 ls fun x4 => lgi 5 ls fun x5 => lgi 6 ls fun x6 => pe st (L_X10_changesOf_17 N n a0 x1 x2 x3 x4 x5 x6 g)) (none)) rfl (fun e => by cases e) (by decide) (rcI_ok rfl) ?_ (co_X10_changesOf N q) lb_X10_changesOf 3000 17 S_X10_changesOf_17 _ _ h ls_X10_changesOf_17 hf
    intro pc ls st g e
    rcases kb_s e with ⟨rfl, e⟩ | e
    · obtain ⟨a0, e0, f0⟩ := lgr_s e
      obtain ⟨x1, e1, f1⟩ := lgi_s f0
      obtain ⟨x2, e2, f2⟩ := lgi_s f1
      obtain ⟨x3, e3, f3⟩ := lgi_s f2
      obtain ⟨x4, e4, f4⟩ := lgi_s f3
      obtain ⟨x5, e5, f5⟩ := lgi_s f4
      obtain ⟨x6, e6, f6⟩ := lgi_s f5
      obtain ⟨qe, fe⟩ := pe_s f6
      subst qe
      exact MW.sub (List.forall_mem_cons.mpr ⟨lg_mem e0, List.forall_mem_cons.mpr ⟨lg_mem e1, List.forall_mem_cons.mpr ⟨lg_mem e2, List.forall_mem_cons.mpr ⟨lg_mem e3, List.forall_mem_cons.mpr ⟨lg_mem e4, List.forall_mem_cons.mpr ⟨lg_mem e5, List.forall_mem_cons.mpr ⟨lg_mem e6, fun _ h => absurd h List.not_mem_nil⟩⟩⟩⟩⟩⟩⟩) (ih a0 x1 x2 x3 x4 x5 x6 g fe)
    cases e
set_option maxRecDepth 100000 in
theorem m_X10_changesOf (N : Nat) {a0 : Nat} {x1 : Int32} {x2 : Int32} {h : mH} {q : Int32 × mH} (hf : f_X10_changesOf N a0 x1 x2 h = some q) : MM y_X10_changesOf 8 [.ref a0, .int x1, .int x2] h (some (.int q.1)) q.2 := by
  refine MM.of (mFx (j := 145) rfl).2.2.2.1 (Nat.le_of_ble_eq_true rfl) (fun X => ?_)
  refine ev_ok (o := 10) (ini := false) (Cl := C_X10_changesOf N) (Rc := RcI) (B := B_X10_changesOf) (K := fun pc ls st g => kb pc 17 (lgr 0 ls fun a0 => lgi 1 ls fun x1 => lgi 2 ls fun x2 => lgi 3 ls fun x3 => lgi 4 ls fun x4 => lgi 5 ls fun x5 => lgi 6 ls fun x6 => pe st (L_X10_changesOf_17 N N a0 x1 x2 x3 x4 x5 x6 g)) (none)) rfl (fun e => by cases e) (by decide) (rcI_ok rfl) ?_ (co_X10_changesOf N q) lb_X10_changesOf 3000 0 S_X10_changesOf_0 _ _ h ls_X10_changesOf_0 hf
  intro pc ls st g e
  rcases kb_s e with ⟨rfl, e⟩ | e
  · obtain ⟨a0, e0, f0⟩ := lgr_s e
    obtain ⟨x1, e1, f1⟩ := lgi_s f0
    obtain ⟨x2, e2, f2⟩ := lgi_s f1
    obtain ⟨x3, e3, f3⟩ := lgi_s f2
    obtain ⟨x4, e4, f4⟩ := lgi_s f3
    obtain ⟨x5, e5, f5⟩ := lgi_s f4
    obtain ⟨x6, e6, f6⟩ := lgi_s f5
    obtain ⟨qe, fe⟩ := pe_s f6
    subst qe
    exact MW.sub (List.forall_mem_cons.mpr ⟨lg_mem e0, List.forall_mem_cons.mpr ⟨lg_mem e1, List.forall_mem_cons.mpr ⟨lg_mem e2, List.forall_mem_cons.mpr ⟨lg_mem e3, List.forall_mem_cons.mpr ⟨lg_mem e4, List.forall_mem_cons.mpr ⟨lg_mem e5, List.forall_mem_cons.mpr ⟨lg_mem e6, fun _ h => absurd h List.not_mem_nil⟩⟩⟩⟩⟩⟩⟩) (t_X10_changesOf_17 N N a0 x1 x2 x3 x4 x5 x6 g fe)
  cases e
def L_X10_holdOf_4 (N : Nat) : Nat → Nat → Int32 → Int32 → Int32 → mH → Option (Int32 × mH)
  | 0, _, _, _, _, _ => none
  | n + 1, a0, x1, x2, x3, h =>
    (gR h 10 a0 0).bind fun v1 =>
    (rcv h 0 v1).bind fun _ =>
    (f_X0_ofBand N v1 x1 (jI 0) h).bind fun p2 =>
    if x3 < p2.1 then
      (gR p2.2 10 a0 0).bind fun v3 =>
      (rcv p2.2 0 v3).bind fun _ =>
      (f_X0_kindOf N v3 x1 x3 p2.2).bind fun p4 =>
      (rcv p4.2 10 a0).bind fun _ =>
      (f_X10_changesOf N a0 x1 x3 p4.2).bind fun p5 =>
      (gR p5.2 10 a0 0).bind fun v6 =>
      (rcv p5.2 0 v6).bind fun _ =>
      (f_X0_ofKind N v6 p4.1 (jI 1) p5.2).bind fun p7 =>
      (gR p7.2 10 a0 0).bind fun v8 =>
      (rcv p7.2 0 v8).bind fun _ =>
      (f_X0_driesTo N v8 p4.1 p7.2).bind fun p9 =>
      let w10 := iAdd x2 (iMul (iMul p5.1 p7.1) p9.1)
      let w11 := iAdd x3 (jI 1)
      L_X10_holdOf_4 N n a0 x1 w10 w11 p9.2
    else
      some (x2, p2.2)
def f_X10_holdOf (N : Nat) (a0 : Nat) (x1 : Int32) (h : mH) : Option (Int32 × mH) :=
  L_X10_holdOf_4 N N a0 x1 (jI 0) (jI 0) h
def y_X10_holdOf : mM := (yX10_holdOf, cX10_holdOf, 5, (some .int))
def B_X10_holdOf : List (Nat × List mI) := [(64, [(.iload_n 2, 1, [2], []), (.ireturn, 1, [], [])])]
def S_X10_holdOf_0 : List mI := [(.iconst 0, 1, [], [0]), (.istore_n 2, 1, [2], []), (.iconst 0, 1, [], [0]), (.istore_n 3, 1, [3], [])]
def S_X10_holdOf_4 : List mI := [(.iload_n 3, 1, [3], []), (.aload_n 0, 1, [0], []), (.getfield 26, 3, [10, 0, 2, 40], []), (.iload_n 1, 1, [1], []), (.iconst 0, 1, [], [0]), (.invokevirtual 46, 3, [0, 9, 2, 0, 71], []), (.if_icmp .ge 50, 3, [64], []), (.aload_n 0, 1, [0], []), (.getfield 26, 3, [10, 0, 2, 40], []), (.iload_n 1, 1, [1], []), (.iload_n 3, 1, [3], []), (.invokevirtual 77, 3, [0, 10, 2, 0, 84], []), (.istore 4, 2, [4], []), (.iload_n 2, 1, [2], []), (.aload_n 0, 1, [0], []), (.iload_n 1, 1, [1], []), (.iload_n 3, 1, [3], []), (.invokevirtual 139, 3, [0, 145, 2, 10, 199], []), (.aload_n 0, 1, [0], []), (.getfield 26, 3, [10, 0, 2, 40], []), (.iload 4, 2, [4], []), (.iconst 1, 1, [], [1]), (.invokevirtual 142, 3, [0, 8, 2, 0, 200], []), (.imul, 1, [], []), (.aload_n 0, 1, [0], []), (.getfield 26, 3, [10, 0, 2, 40], []), (.iload 4, 2, [4], []), (.invokevirtual 145, 3, [0, 32, 1, 0, 201], []), (.imul, 1, [], []), (.iadd, 1, [], []), (.istore_n 2, 1, [2], []), (.iinc 3 1, 3, [3], [1]), (.goto (-57), 3, [4], [])]
theorem lb_X10_holdOf : B_X10_holdOf.all (fun b => lst y_X10_holdOf.2.1 10 y_X10_holdOf.2.2.1 false b.1 b.2) = true := by decide +kernel
theorem ls_X10_holdOf_0 : lst y_X10_holdOf.2.1 10 y_X10_holdOf.2.2.1 false 0 S_X10_holdOf_0 = true := by decide +kernel
theorem ls_X10_holdOf_4 : lst y_X10_holdOf.2.1 10 y_X10_holdOf.2.2.1 false 4 S_X10_holdOf_4 = true := by decide +kernel
def C_X10_holdOf (N : Nat) : Nat → List Value → mH → (Option Value → mH → Option (Int32 × mH)) → Option (Int32 × mH) := fun j as g k => kb j 9 (pr1 as fun b0 as => pp1 as fun b1 as => pp1 as fun b2 as => pe as ((f_X0_ofBand N b0 b1 b2 g).bind fun p => k (some (.int p.1)) p.2)) (kb j 10 (pr1 as fun b0 as => pp1 as fun b1 as => pp1 as fun b2 as => pe as ((f_X0_kindOf N b0 b1 b2 g).bind fun p => k (some (.int p.1)) p.2)) (kb j 145 (pr1 as fun b0 as => pp1 as fun b1 as => pp1 as fun b2 as => pe as ((f_X10_changesOf N b0 b1 b2 g).bind fun p => k (some (.int p.1)) p.2)) (kb j 8 (pr1 as fun b0 as => pp1 as fun b1 as => pp1 as fun b2 as => pe as ((f_X0_ofKind N b0 b1 b2 g).bind fun p => k (some (.int p.1)) p.2)) (kb j 32 (pr1 as fun b0 as => pp1 as fun b1 as => pe as ((f_X0_driesTo N b0 b1 g).bind fun p => k (some (.int p.1)) p.2)) (none)))))
theorem co_X10_holdOf (N : Nat) (q : Int32 × mH) : clOK 9 q (C_X10_holdOf N) := by
  intro j as g k e
  rcases kb_s e with ⟨rfl, e⟩ | e
  · obtain ⟨b0, r0, q0, f0⟩ := pr1_s e
    obtain ⟨b1, r1, q1, f1⟩ := pp1_s f0
    obtain ⟨b2, r2, q2, f2⟩ := pp1_s f1
    obtain ⟨qe, fe⟩ := pe_s f2
    obtain ⟨p, e1, e2⟩ := bnd_s fe
    subst qe
    subst q2
    subst q1
    subst q0
    exact ⟨_, _, _, _, 4, rfl, (by decide), m_X0_ofBand N e1, e2⟩
  rcases kb_s e with ⟨rfl, e⟩ | e
  · obtain ⟨b0, r0, q0, f0⟩ := pr1_s e
    obtain ⟨b1, r1, q1, f1⟩ := pp1_s f0
    obtain ⟨b2, r2, q2, f2⟩ := pp1_s f1
    obtain ⟨qe, fe⟩ := pe_s f2
    obtain ⟨p, e1, e2⟩ := bnd_s fe
    subst qe
    subst q2
    subst q1
    subst q0
    exact ⟨_, _, _, _, 5, rfl, (by decide), m_X0_kindOf N e1, e2⟩
  rcases kb_s e with ⟨rfl, e⟩ | e
  · obtain ⟨b0, r0, q0, f0⟩ := pr1_s e
    obtain ⟨b1, r1, q1, f1⟩ := pp1_s f0
    obtain ⟨b2, r2, q2, f2⟩ := pp1_s f1
    obtain ⟨qe, fe⟩ := pe_s f2
    obtain ⟨p, e1, e2⟩ := bnd_s fe
    subst qe
    subst q2
    subst q1
    subst q0
    exact ⟨_, _, _, _, 8, rfl, (by decide), m_X10_changesOf N e1, e2⟩
  rcases kb_s e with ⟨rfl, e⟩ | e
  · obtain ⟨b0, r0, q0, f0⟩ := pr1_s e
    obtain ⟨b1, r1, q1, f1⟩ := pp1_s f0
    obtain ⟨b2, r2, q2, f2⟩ := pp1_s f1
    obtain ⟨qe, fe⟩ := pe_s f2
    obtain ⟨p, e1, e2⟩ := bnd_s fe
    subst qe
    subst q2
    subst q1
    subst q0
    exact ⟨_, _, _, _, 4, rfl, (by decide), m_X0_ofKind N e1, e2⟩
  rcases kb_s e with ⟨rfl, e⟩ | e
  · obtain ⟨b0, r0, q0, f0⟩ := pr1_s e
    obtain ⟨b1, r1, q1, f1⟩ := pp1_s f0
    obtain ⟨qe, fe⟩ := pe_s f1
    obtain ⟨p, e1, e2⟩ := bnd_s fe
    subst qe
    subst q1
    subst q0
    exact ⟨_, _, _, _, 5, rfl, (by decide), m_X0_driesTo N e1, e2⟩
  cases e
set_option maxRecDepth 100000 in
theorem t_X10_holdOf_4 {X : Nat × (Nat → Int32)} (N : Nat) {q : Int32 × mH} : ∀ (n : Nat) (a0 : Nat) (x1 : Int32) (x2 : Int32) (x3 : Int32) (h : mH), L_X10_holdOf_4 N n a0 x1 x2 x3 h = some q → MW X y_X10_holdOf 9 4 [(0, .ref a0), (1, .int x1), (2, .int x2), (3, .int x3)] [] h (some (.int q.1)) q.2 := by
  intro n
  induction n with
  | zero => intro a0 x1 x2 x3 h hf; cases hf
  | succ n ih =>
    intro a0 x1 x2 x3 h hf
    refine ev_ok (o := 10) (ini := false) (Cl := C_X10_holdOf N) (Rc := RcI) (B := B_X10_holdOf) (K := fun pc ls st g => kb pc 4 (lgr 0 ls fun a0 => lgi 1 ls fun x1 => lgi 2 ls fun x2 => lgi 3 ls fun x3 => pe st (L_X10_holdOf_4 N n a0 x1 x2 x3 g)) (none)) rfl (fun e => by cases e) (by decide) (rcI_ok rfl) ?_ (co_X10_holdOf N q) lb_X10_holdOf 3000 4 S_X10_holdOf_4 _ _ h ls_X10_holdOf_4 hf
    intro pc ls st g e
    rcases kb_s e with ⟨rfl, e⟩ | e
    · obtain ⟨a0, e0, f0⟩ := lgr_s e
      obtain ⟨x1, e1, f1⟩ := lgi_s f0
      obtain ⟨x2, e2, f2⟩ := lgi_s f1
      obtain ⟨x3, e3, f3⟩ := lgi_s f2
      obtain ⟨qe, fe⟩ := pe_s f3
      subst qe
      exact MW.sub (List.forall_mem_cons.mpr ⟨lg_mem e0, List.forall_mem_cons.mpr ⟨lg_mem e1, List.forall_mem_cons.mpr ⟨lg_mem e2, List.forall_mem_cons.mpr ⟨lg_mem e3, fun _ h => absurd h List.not_mem_nil⟩⟩⟩⟩) (ih a0 x1 x2 x3 g fe)
    cases e
set_option maxRecDepth 100000 in
theorem m_X10_holdOf (N : Nat) {a0 : Nat} {x1 : Int32} {h : mH} {q : Int32 × mH} (hf : f_X10_holdOf N a0 x1 h = some q) : MM y_X10_holdOf 9 [.ref a0, .int x1] h (some (.int q.1)) q.2 := by
  refine MM.of (mFx (j := 144) rfl).2.2.2.1 (Nat.le_of_ble_eq_true rfl) (fun X => ?_)
  refine ev_ok (o := 10) (ini := false) (Cl := C_X10_holdOf N) (Rc := RcI) (B := B_X10_holdOf) (K := fun pc ls st g => kb pc 4 (lgr 0 ls fun a0 => lgi 1 ls fun x1 => lgi 2 ls fun x2 => lgi 3 ls fun x3 => pe st (L_X10_holdOf_4 N N a0 x1 x2 x3 g)) (none)) rfl (fun e => by cases e) (by decide) (rcI_ok rfl) ?_ (co_X10_holdOf N q) lb_X10_holdOf 3000 0 S_X10_holdOf_0 _ _ h ls_X10_holdOf_0 hf
  intro pc ls st g e
  rcases kb_s e with ⟨rfl, e⟩ | e
  · obtain ⟨a0, e0, f0⟩ := lgr_s e
    obtain ⟨x1, e1, f1⟩ := lgi_s f0
    obtain ⟨x2, e2, f2⟩ := lgi_s f1
    obtain ⟨x3, e3, f3⟩ := lgi_s f2
    obtain ⟨qe, fe⟩ := pe_s f3
    subst qe
    exact MW.sub (List.forall_mem_cons.mpr ⟨lg_mem e0, List.forall_mem_cons.mpr ⟨lg_mem e1, List.forall_mem_cons.mpr ⟨lg_mem e2, List.forall_mem_cons.mpr ⟨lg_mem e3, fun _ h => absurd h List.not_mem_nil⟩⟩⟩⟩) (t_X10_holdOf_4 N N a0 x1 x2 x3 g fe)
  cases e
def f_X11_init (N : Nat) (a0 : Nat) (h : mH) : Option (mH) :=
  (nwA h 2 (jI 500)).bind fun h1 =>
  (pV h1 11 a0 0 (.ref h.1)).bind fun h2 =>
  let h3 := nwO h2 0
  (f_X0_init N h2.1 h3).bind fun h4 =>
  (pV h4 11 a0 2 (.ref h2.1)).bind fun h5 =>
  let h6 := nwO h5 0
  (f_X0_init N h5.1 h6).bind fun h7 =>
  (pV h7 11 a0 3 (.ref h5.1)).bind fun h8 =>
  let h9 := nwO h8 8
  (f_X8_init N h8.1 h9).bind fun h10 =>
  (pV h10 11 a0 4 (.ref h8.1)).bind fun h11 =>
  let h12 := nwO h11 10
  (gR h12 11 a0 2).bind fun v13 =>
  (f_X10_init N h11.1 v13 h12).bind fun h14 =>
  (pV h14 11 a0 5 (.ref h11.1)).bind fun h15 =>
  let h16 := nwO h15 6
  (f_X6_init N h15.1 h16).bind fun h17 =>
  (pV h17 11 a0 6 (.ref h15.1)).bind fun h18 =>
  let h19 := nwO h18 6
  (f_X6_init N h18.1 h19).bind fun h20 =>
  (pV h20 11 a0 7 (.ref h18.1)).bind fun h21 =>
  let h22 := nwO h21 9
  (f_X9_init N h21.1 h22).bind fun h23 =>
  (pV h23 11 a0 8 (.ref h21.1)).bind fun h24 =>
  let h25 := nwO h24 3
  (f_X3_init N h24.1 h25).bind fun h26 =>
  (pV h26 11 a0 9 (.ref h24.1)).bind fun h27 =>
  (nwA h27 4 (jI 4)).bind fun h28 =>
  let h29 := nwO h28 5
  (f_X5_init N h28.1 h29).bind fun h30 =>
  (stR 4 5 h30 h27.1 (jI 0) h28.1).bind fun h31 =>
  let h32 := nwO h31 5
  (f_X5_init N h31.1 h32).bind fun h33 =>
  (stR 4 5 h33 h27.1 (jI 1) h31.1).bind fun h34 =>
  let h35 := nwO h34 5
  (f_X5_init N h34.1 h35).bind fun h36 =>
  (stR 4 5 h36 h27.1 (jI 2) h34.1).bind fun h37 =>
  let h38 := nwO h37 5
  (f_X5_init N h37.1 h38).bind fun h39 =>
  (stR 4 5 h39 h27.1 (jI 3) h37.1).bind fun h40 =>
  (pV h40 11 a0 10 (.ref h27.1)).bind fun h41 =>
  (nwA h41 5 (jI 2)).bind fun h42 =>
  let h43 := nwO h42 4
  (f_X4_init N h42.1 h43).bind fun h44 =>
  (stR 5 4 h44 h41.1 (jI 0) h42.1).bind fun h45 =>
  let h46 := nwO h45 4
  (f_X4_init N h45.1 h46).bind fun h47 =>
  (stR 5 4 h47 h41.1 (jI 1) h45.1).bind fun h48 =>
  (pV h48 11 a0 11 (.ref h41.1)).bind fun h49 =>
  let h50 := nwO h49 2
  (f_X2_init N h49.1 h50).bind fun h51 =>
  (pV h51 11 a0 12 (.ref h49.1)).bind fun h52 =>
  let h53 := nwO h52 1
  (f_X1_init N h52.1 h53).bind fun h54 =>
  (pV h54 11 a0 13 (.ref h52.1)).bind fun h55 =>
  let h56 := nwO h55 7
  (f_X7_init N h55.1 h56).bind fun h57 =>
  (pV h57 11 a0 14 (.ref h55.1)).bind fun h58 =>
  (nwA h58 0 (jI 6)).bind fun h59 =>
  (pV h59 11 a0 15 (.ref h58.1)).bind fun h60 =>
  (nwA h60 0 (jI 40)).bind fun h61 =>
  (pV h61 11 a0 16 (.ref h60.1)).bind fun h62 =>
  some h62
def y_X11_init : mM := (yX11_init, cX11_init, 1, none)
def B_X11_init : List (Nat × List mI) := []
def S_X11_init_0 : List mI := [(.aload_n 0, 1, [0], []), (.invokespecial 1, 3, [5, 0, 0, 0, 0], []), (.aload_n 0, 1, [0], []), (.sipush 500, 3, [], [500]), (.newarray .byte, 2, [2], []), (.putfield 9, 3, [11, 0, 2, 109], []), (.aload_n 0, 1, [0], []), (.new 13, 3, [0, 1], []), (.dup, 1, [], []), (.invokespecial 15, 3, [2, 0, 0, 0, 1], []), (.putfield 16, 3, [11, 2, 2, 111], []), (.aload_n 0, 1, [0], []), (.new 13, 3, [0, 1], []), (.dup, 1, [], []), (.invokespecial 15, 3, [2, 0, 0, 0, 1], []), (.putfield 20, 3, [11, 3, 2, 112], []), (.aload_n 0, 1, [0], []), (.new 23, 3, [8, 2], []), (.dup, 1, [], []), (.invokespecial 25, 3, [2, 91, 0, 0, 2], []), (.putfield 26, 3, [11, 4, 2, 113], []), (.aload_n 0, 1, [0], []), (.new 30, 3, [10, 3], []), (.dup, 1, [], []), (.aload_n 0, 1, [0], []), (.getfield 16, 3, [11, 2, 2, 111], []), (.invokespecial 32, 3, [2, 125, 1, 0, 3], []), (.putfield 35, 3, [11, 5, 2, 114], []), (.aload_n 0, 1, [0], []), (.new 39, 3, [6, 4], []), (.dup, 1, [], []), (.invokespecial 41, 3, [4, 77, 0, 0, 0], []), (.putfield 42, 3, [11, 6, 2, 115], []), (.aload_n 0, 1, [0], []), (.new 39, 3, [6, 4], []), (.dup, 1, [], []), (.invokespecial 41, 3, [4, 77, 0, 0, 0], []), (.putfield 46, 3, [11, 7, 2, 116], []), (.aload_n 0, 1, [0], []), (.new 49, 3, [9, 5], []), (.dup, 1, [], []), (.invokespecial 51, 3, [4, 109, 0, 0, 1], []), (.putfield 52, 3, [11, 8, 2, 117], []), (.aload_n 0, 1, [0], []), (.new 56, 3, [3, 6], []), (.dup, 1, [], []), (.invokespecial 58, 3, [2, 61, 0, 0, 4], []), (.putfield 59, 3, [11, 9, 2, 118], []), (.aload_n 0, 1, [0], []), (.iconst 4, 1, [], [4]), (.anewarray 63, 3, [4, 5, 7], []), (.dup, 1, [], []), (.iconst 0, 1, [], [0]), (.new 63, 3, [5, 7], []), (.dup, 1, [], []), (.invokespecial 65, 3, [2, 70, 0, 0, 6], []), (.aastore, 1, [4, 5], []), (.dup, 1, [], []), (.iconst 1, 1, [], [1]), (.new 63, 3, [5, 7], []), (.dup, 1, [], []), (.invokespecial 65, 3, [2, 70, 0, 0, 6], []), (.aastore, 1, [4, 5], []), (.dup, 1, [], []), (.iconst 2, 1, [], [2]), (.new 63, 3, [5, 7], []), (.dup, 1, [], []), (.invokespecial 65, 3, [2, 70, 0, 0, 6], []), (.aastore, 1, [4, 5], []), (.dup, 1, [], []), (.iconst 3, 1, [], [3]), (.new 63, 3, [5, 7], []), (.dup, 1, [], []), (.invokespecial 65, 3, [2, 70, 0, 0, 6], []), (.aastore, 1, [4, 5], []), (.putfield 66, 3, [11, 10, 2, 119], []), (.aload_n 0, 1, [0], []), (.iconst 2, 1, [], [2]), (.anewarray 70, 3, [5, 4, 8], []), (.dup, 1, [], []), (.iconst 0, 1, [], [0]), (.new 70, 3, [4, 8], []), (.dup, 1, [], []), (.invokespecial 72, 3, [4, 69, 0, 0, 2], []), (.aastore, 1, [5, 4], []), (.dup, 1, [], []), (.iconst 1, 1, [], [1]), (.new 70, 3, [4, 8], []), (.dup, 1, [], []), (.invokespecial 72, 3, [4, 69, 0, 0, 2], []), (.aastore, 1, [5, 4], []), (.putfield 73, 3, [11, 11, 2, 120], []), (.aload_n 0, 1, [0], []), (.new 77, 3, [2, 12], []), (.dup, 1, [], []), (.invokespecial 79, 3, [4, 56, 0, 0, 4], []), (.putfield 80, 3, [11, 12, 2, 121], []), (.aload_n 0, 1, [0], []), (.new 84, 3, [1, 13], []), (.dup, 1, [], []), (.invokespecial 86, 3, [4, 37, 0, 0, 5], []), (.putfield 87, 3, [11, 13, 2, 122], []), (.aload_n 0, 1, [0], []), (.new 91, 3, [7, 14], []), (.dup, 1, [], []), (.invokespecial 93, 3, [4, 85, 0, 0, 6], []), (.putfield 94, 3, [11, 14, 2, 123], []), (.aload_n 0, 1, [0], []), (.bipush 6, 2, [], [6]), (.newarray .int, 2, [0], []), (.putfield 98, 3, [11, 15, 2, 124], []), (.aload_n 0, 1, [0], []), (.bipush 40, 2, [], [40]), (.newarray .int, 2, [0], []), (.putfield 102, 3, [11, 16, 2, 125], []), (.return_, 1, [], [])]
theorem lb_X11_init : B_X11_init.all (fun b => lst y_X11_init.2.1 11 y_X11_init.2.2.1 true b.1 b.2) = true := by decide +kernel
theorem ls_X11_init_0 : lst y_X11_init.2.1 11 y_X11_init.2.2.1 true 0 S_X11_init_0 = true := by decide +kernel
def C_X11_init (N : Nat) : Nat → List Value → mH → (Option Value → mH → Option (mH)) → Option (mH) := fun j as g k => kb j 0 (pr1 as fun b0 as => pe as ((f_X0_init N b0 g).bind fun p => k none p)) (kb j 91 (pr1 as fun b0 as => pe as ((f_X8_init N b0 g).bind fun p => k none p)) (kb j 125 (pr1 as fun b0 as => pr1 as fun b1 as => pe as ((f_X10_init N b0 b1 g).bind fun p => k none p)) (kb j 77 (pr1 as fun b0 as => pe as ((f_X6_init N b0 g).bind fun p => k none p)) (kb j 109 (pr1 as fun b0 as => pe as ((f_X9_init N b0 g).bind fun p => k none p)) (kb j 61 (pr1 as fun b0 as => pe as ((f_X3_init N b0 g).bind fun p => k none p)) (kb j 70 (pr1 as fun b0 as => pe as ((f_X5_init N b0 g).bind fun p => k none p)) (kb j 69 (pr1 as fun b0 as => pe as ((f_X4_init N b0 g).bind fun p => k none p)) (kb j 56 (pr1 as fun b0 as => pe as ((f_X2_init N b0 g).bind fun p => k none p)) (kb j 37 (pr1 as fun b0 as => pe as ((f_X1_init N b0 g).bind fun p => k none p)) (kb j 85 (pr1 as fun b0 as => pe as ((f_X7_init N b0 g).bind fun p => k none p)) (none)))))))))))
theorem co_X11_init (N : Nat) (q : mH) : clOK 7 q (C_X11_init N) := by
  intro j as g k e
  rcases kb_s e with ⟨rfl, e⟩ | e
  · obtain ⟨b0, r0, q0, f0⟩ := pr1_s e
    obtain ⟨qe, fe⟩ := pe_s f0
    obtain ⟨p, e1, e2⟩ := bnd_s fe
    subst qe
    subst q0
    exact ⟨_, _, _, _, 4, rfl, (by decide), m_X0_init N e1, e2⟩
  rcases kb_s e with ⟨rfl, e⟩ | e
  · obtain ⟨b0, r0, q0, f0⟩ := pr1_s e
    obtain ⟨qe, fe⟩ := pe_s f0
    obtain ⟨p, e1, e2⟩ := bnd_s fe
    subst qe
    subst q0
    exact ⟨_, _, _, _, 4, rfl, (by decide), m_X8_init N e1, e2⟩
  rcases kb_s e with ⟨rfl, e⟩ | e
  · obtain ⟨b0, r0, q0, f0⟩ := pr1_s e
    obtain ⟨b1, r1, q1, f1⟩ := pr1_s f0
    obtain ⟨qe, fe⟩ := pe_s f1
    obtain ⟨p, e1, e2⟩ := bnd_s fe
    subst qe
    subst q1
    subst q0
    exact ⟨_, _, _, _, 4, rfl, (by decide), m_X10_init N e1, e2⟩
  rcases kb_s e with ⟨rfl, e⟩ | e
  · obtain ⟨b0, r0, q0, f0⟩ := pr1_s e
    obtain ⟨qe, fe⟩ := pe_s f0
    obtain ⟨p, e1, e2⟩ := bnd_s fe
    subst qe
    subst q0
    exact ⟨_, _, _, _, 4, rfl, (by decide), m_X6_init N e1, e2⟩
  rcases kb_s e with ⟨rfl, e⟩ | e
  · obtain ⟨b0, r0, q0, f0⟩ := pr1_s e
    obtain ⟨qe, fe⟩ := pe_s f0
    obtain ⟨p, e1, e2⟩ := bnd_s fe
    subst qe
    subst q0
    exact ⟨_, _, _, _, 4, rfl, (by decide), m_X9_init N e1, e2⟩
  rcases kb_s e with ⟨rfl, e⟩ | e
  · obtain ⟨b0, r0, q0, f0⟩ := pr1_s e
    obtain ⟨qe, fe⟩ := pe_s f0
    obtain ⟨p, e1, e2⟩ := bnd_s fe
    subst qe
    subst q0
    exact ⟨_, _, _, _, 5, rfl, (by decide), m_X3_init N e1, e2⟩
  rcases kb_s e with ⟨rfl, e⟩ | e
  · obtain ⟨b0, r0, q0, f0⟩ := pr1_s e
    obtain ⟨qe, fe⟩ := pe_s f0
    obtain ⟨p, e1, e2⟩ := bnd_s fe
    subst qe
    subst q0
    exact ⟨_, _, _, _, 4, rfl, (by decide), m_X5_init N e1, e2⟩
  rcases kb_s e with ⟨rfl, e⟩ | e
  · obtain ⟨b0, r0, q0, f0⟩ := pr1_s e
    obtain ⟨qe, fe⟩ := pe_s f0
    obtain ⟨p, e1, e2⟩ := bnd_s fe
    subst qe
    subst q0
    exact ⟨_, _, _, _, 6, rfl, (by decide), m_X4_init N e1, e2⟩
  rcases kb_s e with ⟨rfl, e⟩ | e
  · obtain ⟨b0, r0, q0, f0⟩ := pr1_s e
    obtain ⟨qe, fe⟩ := pe_s f0
    obtain ⟨p, e1, e2⟩ := bnd_s fe
    subst qe
    subst q0
    exact ⟨_, _, _, _, 4, rfl, (by decide), m_X2_init N e1, e2⟩
  rcases kb_s e with ⟨rfl, e⟩ | e
  · obtain ⟨b0, r0, q0, f0⟩ := pr1_s e
    obtain ⟨qe, fe⟩ := pe_s f0
    obtain ⟨p, e1, e2⟩ := bnd_s fe
    subst qe
    subst q0
    exact ⟨_, _, _, _, 4, rfl, (by decide), m_X1_init N e1, e2⟩
  rcases kb_s e with ⟨rfl, e⟩ | e
  · obtain ⟨b0, r0, q0, f0⟩ := pr1_s e
    obtain ⟨qe, fe⟩ := pe_s f0
    obtain ⟨p, e1, e2⟩ := bnd_s fe
    subst qe
    subst q0
    exact ⟨_, _, _, _, 4, rfl, (by decide), m_X7_init N e1, e2⟩
  cases e
set_option maxRecDepth 100000 in
theorem m_X11_init (N : Nat) {a0 : Nat} {h : mH} {q : mH} (hf : f_X11_init N a0 h = some q) : MM y_X11_init 7 [.ref a0] h none q := by
  refine MM.of (mFx (j := 146) rfl).2.2.2.1 (Nat.le_of_ble_eq_true rfl) (fun X => ?_)
  refine ev_ok (o := 11) (ini := true) (Cl := C_X11_init N) (Rc := RcV) (B := B_X11_init) (K := fun pc ls st g => none) rfl (fun _ => rfl) (by decide) (rcV_ok rfl) ?_ (co_X11_init N q) lb_X11_init 3000 0 S_X11_init_0 _ _ h ls_X11_init_0 hf
  intro pc ls st g e
  cases e
def f_X11_refuse (N : Nat) (a0 : Nat) (x1 : Int32) (h : mH) : Option (Int32 × mH) :=
  if x1 = jI (-7) then
    (gR h 11 a0 15).bind fun v1 =>
    (ldI 0 h v1 (jI 4)).bind fun v2 =>
    (stI 0 h v1 (jI 4) (iAdd v2 (jI 1))).bind fun h3 =>
    some (x1, h3)
  else
  if x1 = jI (-6) then
    (gR h 11 a0 15).bind fun v4 =>
    (ldI 0 h v4 (jI 3)).bind fun v5 =>
    (stI 0 h v4 (jI 3) (iAdd v5 (jI 1))).bind fun h6 =>
    some (x1, h6)
  else
  if x1 = jI (-5) then
    (gR h 11 a0 15).bind fun v7 =>
    (ldI 0 h v7 (jI 2)).bind fun v8 =>
    (stI 0 h v7 (jI 2) (iAdd v8 (jI 1))).bind fun h9 =>
    some (x1, h9)
  else
  if x1 = jI (-4) then
    (gR h 11 a0 15).bind fun v10 =>
    (ldI 0 h v10 (jI 5)).bind fun v11 =>
    (stI 0 h v10 (jI 5) (iAdd v11 (jI 1))).bind fun h12 =>
    some (x1, h12)
  else
  if x1 = jI (-3) then
    (gR h 11 a0 15).bind fun v13 =>
    (ldI 0 h v13 (jI 1)).bind fun v14 =>
    (stI 0 h v13 (jI 1) (iAdd v14 (jI 1))).bind fun h15 =>
    some (x1, h15)
  else
  if x1 = jI (-2) then
    (gR h 11 a0 15).bind fun v16 =>
    (ldI 0 h v16 (jI 0)).bind fun v17 =>
    (stI 0 h v16 (jI 0) (iAdd v17 (jI 1))).bind fun h18 =>
    some (x1, h18)
  else
  (gR h 11 a0 15).bind fun v19 =>
  (ldI 0 h v19 (jI 5)).bind fun v20 =>
  (stI 0 h v19 (jI 5) (iAdd v20 (jI 1))).bind fun h21 =>
  some (x1, h21)
def y_X11_refuse : mM := (yX11_refuse, cX11_refuse, 2, (some .int))
def B_X11_refuse : List (Nat × List mI) := [(40, [(.aload_n 0, 1, [0], []), (.getfield 98, 3, [11, 15, 2, 124], []), (.iconst 0, 1, [], [0]), (.dup2, 1, [], []), (.iaload, 1, [0], []), (.iconst 1, 1, [], [1]), (.iadd, 1, [], []), (.iastore, 1, [], []), (.goto 65, 3, [115], [])]), (53, [(.aload_n 0, 1, [0], []), (.getfield 98, 3, [11, 15, 2, 124], []), (.iconst 1, 1, [], [1]), (.dup2, 1, [], []), (.iaload, 1, [0], []), (.iconst 1, 1, [], [1]), (.iadd, 1, [], []), (.iastore, 1, [], []), (.goto 52, 3, [115], [])]), (66, [(.aload_n 0, 1, [0], []), (.getfield 98, 3, [11, 15, 2, 124], []), (.iconst 2, 1, [], [2]), (.dup2, 1, [], []), (.iaload, 1, [0], []), (.iconst 1, 1, [], [1]), (.iadd, 1, [], []), (.iastore, 1, [], []), (.goto 39, 3, [115], [])]), (79, [(.aload_n 0, 1, [0], []), (.getfield 98, 3, [11, 15, 2, 124], []), (.iconst 3, 1, [], [3]), (.dup2, 1, [], []), (.iaload, 1, [0], []), (.iconst 1, 1, [], [1]), (.iadd, 1, [], []), (.iastore, 1, [], []), (.goto 26, 3, [115], [])]), (92, [(.aload_n 0, 1, [0], []), (.getfield 98, 3, [11, 15, 2, 124], []), (.iconst 4, 1, [], [4]), (.dup2, 1, [], []), (.iaload, 1, [0], []), (.iconst 1, 1, [], [1]), (.iadd, 1, [], []), (.iastore, 1, [], []), (.goto 13, 3, [115], [])]), (105, [(.aload_n 0, 1, [0], []), (.getfield 98, 3, [11, 15, 2, 124], []), (.iconst 5, 1, [], [5]), (.dup2, 1, [], []), (.iaload, 1, [0], []), (.iconst 1, 1, [], [1]), (.iadd, 1, [], []), (.iastore, 1, [], [])]), (115, [(.iload_n 1, 1, [1], []), (.ireturn, 1, [], [])])]
def S_X11_refuse_0 : List mI := [(.iload_n 1, 1, [1], []), (.tableswitch 104 (-7) (-2) #[91, 78, 65, 104, 52, 39], 39, [105, 92, 79, 66, 105, 53, 40], [-7, -6, -5, -4, -3, -2])]
theorem lb_X11_refuse : B_X11_refuse.all (fun b => lst y_X11_refuse.2.1 11 y_X11_refuse.2.2.1 false b.1 b.2) = true := by decide +kernel
theorem ls_X11_refuse_0 : lst y_X11_refuse.2.1 11 y_X11_refuse.2.2.1 false 0 S_X11_refuse_0 = true := by decide +kernel
def C_X11_refuse (N : Nat) : Nat → List Value → mH → (Option Value → mH → Option (Int32 × mH)) → Option (Int32 × mH) := fun j as g k => none
theorem co_X11_refuse (N : Nat) (q : Int32 × mH) : clOK 4 q (C_X11_refuse N) := by
  intro j as g k e
  cases e
set_option maxRecDepth 100000 in
theorem m_X11_refuse (N : Nat) {a0 : Nat} {x1 : Int32} {h : mH} {q : Int32 × mH} (hf : f_X11_refuse N a0 x1 h = some q) : MM y_X11_refuse 4 [.ref a0, .int x1] h (some (.int q.1)) q.2 := by
  refine MM.of (mFx (j := 203) rfl).2.2.2.1 (Nat.le_of_ble_eq_true rfl) (fun X => ?_)
  refine ev_ok (o := 11) (ini := false) (Cl := C_X11_refuse N) (Rc := RcI) (B := B_X11_refuse) (K := fun pc ls st g => none) rfl (fun e => by cases e) (by decide) (rcI_ok rfl) ?_ (co_X11_refuse N q) lb_X11_refuse 3000 0 S_X11_refuse_0 _ _ h ls_X11_refuse_0 hf
  intro pc ls st g e
  cases e
def L_X11_putBytes_3 (N : Nat) : Nat → Nat → Int32 → Int32 → mH → Option (mH)
  | 0, _, _, _, _ => none
  | n + 1, a0, x1, x2, h =>
    if x2 < 0 then
      some h
    else
      (gI h 11 a0 1).bind fun v1 =>
      (gR h 11 a0 0).bind fun v2 =>
      (lnA h v2).bind fun v3 =>
      if v1 < v3 then
        (gR h 11 a0 0).bind fun v4 =>
        (gI h 11 a0 1).bind fun v5 =>
        (stI 2 h v4 v5 (iByt (iUsr x1 x2))).bind fun h6 =>
        (gI h6 11 a0 1).bind fun v7 =>
        (pV h6 11 a0 1 (.int (iAdd v7 (jI 1)))).bind fun h8 =>
        let w9 := iAdd x2 (jI (-8))
        L_X11_putBytes_3 N n a0 x1 w9 h8
      else
        some h
def f_X11_putBytes (N : Nat) (a0 : Nat) (x1 : Int32) (h : mH) : Option (mH) :=
  L_X11_putBytes_3 N N a0 x1 (jI 24) h
def y_X11_putBytes : mM := (yX11_putBytes, cX11_putBytes, 3, none)
def B_X11_putBytes : List (Nat × List mI) := [(48, [(.return_, 1, [], [])])]
def S_X11_putBytes_0 : List mI := [(.bipush 24, 2, [], [24]), (.istore_n 2, 1, [2], [])]
def S_X11_putBytes_3 : List mI := [(.iload_n 2, 1, [2], []), (.ifCond .lt 44, 3, [48], []), (.aload_n 0, 1, [0], []), (.getfield 105, 3, [11, 1, 0, 110], []), (.aload_n 0, 1, [0], []), (.getfield 9, 3, [11, 0, 2, 109], []), (.arraylength, 1, [0], []), (.if_icmp .ge 32, 3, [48], []), (.aload_n 0, 1, [0], []), (.getfield 9, 3, [11, 0, 2, 109], []), (.aload_n 0, 1, [0], []), (.getfield 105, 3, [11, 1, 0, 110], []), (.iload_n 1, 1, [1], []), (.iload_n 2, 1, [2], []), (.iushr, 1, [], []), (.i2b, 1, [], []), (.bastore, 1, [2], []), (.aload_n 0, 1, [0], []), (.dup, 1, [], []), (.getfield 105, 3, [11, 1, 0, 110], []), (.iconst 1, 1, [], [1]), (.iadd, 1, [], []), (.putfield 105, 3, [11, 1, 0, 110], []), (.iinc 2 (-8), 3, [2], [-8]), (.goto (-42), 3, [3], [])]
theorem lb_X11_putBytes : B_X11_putBytes.all (fun b => lst y_X11_putBytes.2.1 11 y_X11_putBytes.2.2.1 false b.1 b.2) = true := by decide +kernel
theorem ls_X11_putBytes_0 : lst y_X11_putBytes.2.1 11 y_X11_putBytes.2.2.1 false 0 S_X11_putBytes_0 = true := by decide +kernel
theorem ls_X11_putBytes_3 : lst y_X11_putBytes.2.1 11 y_X11_putBytes.2.2.1 false 3 S_X11_putBytes_3 = true := by decide +kernel
def C_X11_putBytes (N : Nat) : Nat → List Value → mH → (Option Value → mH → Option (mH)) → Option (mH) := fun j as g k => none
theorem co_X11_putBytes (N : Nat) (q : mH) : clOK 4 q (C_X11_putBytes N) := by
  intro j as g k e
  cases e
set_option maxRecDepth 100000 in
theorem t_X11_putBytes_3 {X : Nat × (Nat → Int32)} (N : Nat) {q : mH} : ∀ (n : Nat) (a0 : Nat) (x1 : Int32) (x2 : Int32) (h : mH), L_X11_putBytes_3 N n a0 x1 x2 h = some q → MW X y_X11_putBytes 4 3 [(0, .ref a0), (1, .int x1), (2, .int x2)] [] h none q := by
  intro n
  induction n with
  | zero => intro a0 x1 x2 h hf; cases hf
  | succ n ih =>
    intro a0 x1 x2 h hf
    refine ev_ok (o := 11) (ini := false) (Cl := C_X11_putBytes N) (Rc := RcV) (B := B_X11_putBytes) (K := fun pc ls st g => kb pc 3 (lgr 0 ls fun a0 => lgi 1 ls fun x1 => lgi 2 ls fun x2 => pe st (L_X11_putBytes_3 N n a0 x1 x2 g)) (none)) rfl (fun e => by cases e) (by decide) (rcV_ok rfl) ?_ (co_X11_putBytes N q) lb_X11_putBytes 3000 3 S_X11_putBytes_3 _ _ h ls_X11_putBytes_3 hf
    intro pc ls st g e
    rcases kb_s e with ⟨rfl, e⟩ | e
    · obtain ⟨a0, e0, f0⟩ := lgr_s e
      obtain ⟨x1, e1, f1⟩ := lgi_s f0
      obtain ⟨x2, e2, f2⟩ := lgi_s f1
      obtain ⟨qe, fe⟩ := pe_s f2
      subst qe
      exact MW.sub (List.forall_mem_cons.mpr ⟨lg_mem e0, List.forall_mem_cons.mpr ⟨lg_mem e1, List.forall_mem_cons.mpr ⟨lg_mem e2, fun _ h => absurd h List.not_mem_nil⟩⟩⟩) (ih a0 x1 x2 g fe)
    cases e
set_option maxRecDepth 100000 in
theorem m_X11_putBytes (N : Nat) {a0 : Nat} {x1 : Int32} {h : mH} {q : mH} (hf : f_X11_putBytes N a0 x1 h = some q) : MM y_X11_putBytes 4 [.ref a0, .int x1] h none q := by
  refine MM.of (mFx (j := 204) rfl).2.2.2.1 (Nat.le_of_ble_eq_true rfl) (fun X => ?_)
  refine ev_ok (o := 11) (ini := false) (Cl := C_X11_putBytes N) (Rc := RcV) (B := B_X11_putBytes) (K := fun pc ls st g => kb pc 3 (lgr 0 ls fun a0 => lgi 1 ls fun x1 => lgi 2 ls fun x2 => pe st (L_X11_putBytes_3 N N a0 x1 x2 g)) (none)) rfl (fun e => by cases e) (by decide) (rcV_ok rfl) ?_ (co_X11_putBytes N q) lb_X11_putBytes 3000 0 S_X11_putBytes_0 _ _ h ls_X11_putBytes_0 hf
  intro pc ls st g e
  rcases kb_s e with ⟨rfl, e⟩ | e
  · obtain ⟨a0, e0, f0⟩ := lgr_s e
    obtain ⟨x1, e1, f1⟩ := lgi_s f0
    obtain ⟨x2, e2, f2⟩ := lgi_s f1
    obtain ⟨qe, fe⟩ := pe_s f2
    subst qe
    exact MW.sub (List.forall_mem_cons.mpr ⟨lg_mem e0, List.forall_mem_cons.mpr ⟨lg_mem e1, List.forall_mem_cons.mpr ⟨lg_mem e2, fun _ h => absurd h List.not_mem_nil⟩⟩⟩) (t_X11_putBytes_3 N N a0 x1 x2 g fe)
  cases e
