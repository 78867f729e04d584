/-! printed by wip/whole/gen_code.py: the functions of methods 40 to 79 (leaves first), and their contracts -/
def f_X1_difference (N : Nat) (a0 : Nat) (h : mH) : Option (Int32 × mH) :=
  (gL h 1 a0 16).bind fun v1 =>
  some ((lUsr v1 (jI 40)).toInt32, h)
def y_X1_difference : mM := (yX1_difference, cX1_difference, 1, (some .int))
def B_X1_difference : List (Nat × List mI) := []
def S_X1_difference_0 : List mI := [(.aload_n 0, 1, [0], []), (.getfield 51, 3, [1, 16, 1, 106], []), (.bipush 40, 2, [], [40]), (.lushr, 1, [], []), (.l2i, 1, [], []), (.ireturn, 1, [], [])]
theorem lb_X1_difference : B_X1_difference.all (fun b => lst y_X1_difference.2.1 1 y_X1_difference.2.2.1 false b.1 b.2) = true := by decide +kernel
theorem ls_X1_difference_0 : lst y_X1_difference.2.1 1 y_X1_difference.2.2.1 false 0 S_X1_difference_0 = true := by decide +kernel
def C_X1_difference (N : Nat) : Nat → List Value → mH → (Option Value → mH → Option (Int32 × mH)) → Option (Int32 × mH) := fun j as g k => none
theorem co_X1_difference (N : Nat) (q : Int32 × mH) : clOK 4 q (C_X1_difference N) := by
  intro j as g k e
  cases e
set_option maxRecDepth 100000 in
theorem m_X1_difference (N : Nat) {a0 : Nat} {h : mH} {q : Int32 × mH} (hf : f_X1_difference N a0 h = some q) : MM y_X1_difference 4 [.ref a0] h (some (.int q.1)) q.2 := by
  refine MM.of (mFx (j := 38) rfl).2.2.2.1 (Nat.le_of_ble_eq_true rfl) (fun X => ?_)
  refine ev_ok (o := 1) (ini := false) (Cl := C_X1_difference N) (Rc := RcI) (B := B_X1_difference) (K := fun pc ls st g => none) rfl (fun e => by cases e) (by decide) (rcI_ok rfl) ?_ (co_X1_difference N q) lb_X1_difference 3000 0 S_X1_difference_0 _ _ h ls_X1_difference_0 hf
  intro pc ls st g e
  cases e
def f_X1_leanShift (N : Nat) (x0 : Int32) (h : mH) : Option (Int32 × mH) :=
  some (iMul (jI 5) (iSub (jI 7) x0), h)
def y_X1_leanShift : mM := (yX1_leanShift, cX1_leanShift, 1, (some .int))
def B_X1_leanShift : List (Nat × List mI) := []
def S_X1_leanShift_0 : List mI := [(.iconst 5, 1, [], [5]), (.bipush 7, 2, [], [7]), (.iload_n 0, 1, [0], []), (.isub, 1, [], []), (.imul, 1, [], []), (.ireturn, 1, [], [])]
theorem lb_X1_leanShift : B_X1_leanShift.all (fun b => lst y_X1_leanShift.2.1 1 y_X1_leanShift.2.2.1 false b.1 b.2) = true := by decide +kernel
theorem ls_X1_leanShift_0 : lst y_X1_leanShift.2.1 1 y_X1_leanShift.2.2.1 false 0 S_X1_leanShift_0 = true := by decide +kernel
def C_X1_leanShift (N : Nat) : Nat → List Value → mH → (Option Value → mH → Option (Int32 × mH)) → Option (Int32 × mH) := fun j as g k => none
theorem co_X1_leanShift (N : Nat) (q : Int32 × mH) : clOK 4 q (C_X1_leanShift N) := by
  intro j as g k e
  cases e
set_option maxRecDepth 100000 in
theorem m_X1_leanShift (N : Nat) {x0 : Int32} {h : mH} {q : Int32 × mH} (hf : f_X1_leanShift N x0 h = some q) : MM y_X1_leanShift 4 [.int x0] h (some (.int q.1)) q.2 := by
  refine MM.of (mFx (j := 40) rfl).2.2.2.1 (Nat.le_of_ble_eq_true rfl) (fun X => ?_)
  refine ev_ok (o := 1) (ini := false) (Cl := C_X1_leanShift N) (Rc := RcI) (B := B_X1_leanShift) (K := fun pc ls st g => none) rfl (fun e => by cases e) (by decide) (rcI_ok rfl) ?_ (co_X1_leanShift N q) lb_X1_leanShift 3000 0 S_X1_leanShift_0 _ _ h ls_X1_leanShift_0 hf
  intro pc ls st g e
  cases e
def f_X1_leanOf (N : Nat) (a0 : Nat) (x1 : Int32) (h : mH) : Option (Int32 × mH) :=
  (gL h 1 a0 16).bind fun v1 =>
  (f_X1_leanShift N x1 h).bind fun p2 =>
  some (iSub ((lAnd (lUsr v1 p2.1) (jL 31)).toInt32) (jI 9), p2.2)
def y_X1_leanOf : mM := (yX1_leanOf, cX1_leanOf, 2, (some .int))
def B_X1_leanOf : List (Nat × List mI) := []
def S_X1_leanOf_0 : List mI := [(.aload_n 0, 1, [0], []), (.getfield 51, 3, [1, 16, 1, 106], []), (.iload_n 1, 1, [1], []), (.invokestatic 55, 3, [1, 40, 1, 0, 221], []), (.lushr, 1, [], []), (.ldc2_w 59, 3, [4], [31]), (.land, 1, [], []), (.l2i, 1, [], []), (.bipush 9, 2, [], [9]), (.isub, 1, [], []), (.ireturn, 1, [], [])]
theorem lb_X1_leanOf : B_X1_leanOf.all (fun b => lst y_X1_leanOf.2.1 1 y_X1_leanOf.2.2.1 false b.1 b.2) = true := by decide +kernel
theorem ls_X1_leanOf_0 : lst y_X1_leanOf.2.1 1 y_X1_leanOf.2.2.1 false 0 S_X1_leanOf_0 = true := by decide +kernel
def C_X1_leanOf (N : Nat) : Nat → List Value → mH → (Option Value → mH → Option (Int32 × mH)) → Option (Int32 × mH) := fun j as g k => kb j 40 (pp1 as fun b0 as => pe as ((f_X1_leanShift N b0 g).bind fun p => k (some (.int p.1)) p.2)) (none)
theorem co_X1_leanOf (N : Nat) (q : Int32 × mH) : clOK 5 q (C_X1_leanOf N) := by
  intro j as g k e
  rcases kb_s e with ⟨rfl, e⟩ | e
  · obtain ⟨b0, r0, q0, f0⟩ := pp1_s e
    obtain ⟨qe, fe⟩ := pe_s f0
    obtain ⟨p, e1, e2⟩ := bnd_s fe
    subst qe
    subst q0
    exact ⟨_, _, _, _, 4, rfl, (by decide), m_X1_leanShift N e1, e2⟩
  cases e
set_option maxRecDepth 100000 in
theorem m_X1_leanOf (N : Nat) {a0 : Nat} {x1 : Int32} {h : mH} {q : Int32 × mH} (hf : f_X1_leanOf N a0 x1 h = some q) : MM y_X1_leanOf 5 [.ref a0, .int x1] h (some (.int q.1)) q.2 := by
  refine MM.of (mFx (j := 39) rfl).2.2.2.1 (Nat.le_of_ble_eq_true rfl) (fun X => ?_)
  refine ev_ok (o := 1) (ini := false) (Cl := C_X1_leanOf N) (Rc := RcI) (B := B_X1_leanOf) (K := fun pc ls st g => none) rfl (fun e => by cases e) (by decide) (rcI_ok rfl) ?_ (co_X1_leanOf N q) lb_X1_leanOf 3000 0 S_X1_leanOf_0 _ _ h ls_X1_leanOf_0 hf
  intro pc ls st g e
  cases e
def f_X5_intAt (N : Nat) (a0 : Nat) (x1 : Int32) (h : mH) : Option (Int32 × mH) :=
  if x1 < 0 then
    some (jI 0, h)
  else
    (gI h 5 a0 0).bind fun v1 =>
    if x1 < v1 then
      (gR h 5 a0 2).bind fun v2 =>
      (ldL h v2 x1).bind fun v3 =>
      some (v3.toInt32, h)
    else
      some (jI 0, h)
def y_X5_intAt : mM := (yX5_intAt, cX5_intAt, 2, (some .int))
def B_X5_intAt : List (Nat × List mI) := [(22, [(.iconst 0, 1, [], [0])]), (23, [(.ireturn, 1, [], [])])]
def S_X5_intAt_0 : List mI := [(.iload_n 1, 1, [1], []), (.ifCond .lt 21, 3, [22], []), (.iload_n 1, 1, [1], []), (.aload_n 0, 1, [0], []), (.getfield 15, 3, [5, 0, 0, 68], []), (.if_icmp .ge 13, 3, [22], []), (.aload_n 0, 1, [0], []), (.getfield 11, 3, [5, 2, 2, 73], []), (.iload_n 1, 1, [1], []), (.laload, 1, [], []), (.l2i, 1, [], []), (.goto 4, 3, [23], [])]
theorem lb_X5_intAt : B_X5_intAt.all (fun b => lst y_X5_intAt.2.1 5 y_X5_intAt.2.2.1 false b.1 b.2) = true := by decide +kernel
theorem ls_X5_intAt_0 : lst y_X5_intAt.2.1 5 y_X5_intAt.2.2.1 false 0 S_X5_intAt_0 = true := by decide +kernel
def C_X5_intAt (N : Nat) : Nat → List Value → mH → (Option Value → mH → Option (Int32 × mH)) → Option (Int32 × mH) := fun j as g k => none
theorem co_X5_intAt (N : Nat) (q : Int32 × mH) : clOK 4 q (C_X5_intAt N) := by
  intro j as g k e
  cases e
set_option maxRecDepth 100000 in
theorem m_X5_intAt (N : Nat) {a0 : Nat} {x1 : Int32} {h : mH} {q : Int32 × mH} (hf : f_X5_intAt N a0 x1 h = some q) : MM y_X5_intAt 4 [.ref a0, .int x1] h (some (.int q.1)) q.2 := by
  refine MM.of (mFx (j := 76) rfl).2.2.2.1 (Nat.le_of_ble_eq_true rfl) (fun X => ?_)
  refine ev_ok (o := 5) (ini := false) (Cl := C_X5_intAt N) (Rc := RcI) (B := B_X5_intAt) (K := fun pc ls st g => none) rfl (fun e => by cases e) (by decide) (rcI_ok rfl) ?_ (co_X5_intAt N q) lb_X5_intAt 3000 0 S_X5_intAt_0 _ _ h ls_X5_intAt_0 hf
  intro pc ls st g e
  cases e
def L_X1_setRanges_107 (N : Nat) : Nat → Nat → Int32 → Int32 → mH → Option (mH)
  | 0, _, _, _, _ => none
  | n + 1, a0, x3, x4, h =>
    if x4 < 0 then
      some h
    else
      (gR h 1 a0 9).bind fun v1 =>
      (stI 0 h v1 x4 x3).bind fun h2 =>
      (gR h2 1 a0 8).bind fun v3 =>
      (ldI 0 h2 v3 x4).bind fun v4 =>
      let w5 := iAdd x3 v4
      let w6 := iAdd x4 (jI (-1))
      L_X1_setRanges_107 N n a0 w5 w6 h2
def L_X1_setRanges_12 (N : Nat) : Nat → Nat → Int32 → Int32 → Int32 → mH → Option (mH)
  | 0, _, _, _, _, _ => none
  | n + 1, a0, x1, x2, x3, h =>
    (gI h 1 a0 0).bind fun v1 =>
    if x3 < v1 then
      (gR h 1 a0 4).bind fun v2 =>
      (ldI 0 h v2 x3).bind fun v3 =>
      let w4 := iMax (jI 1) (iSub x1 (iMul (jI 9) v3))
      (gR h 1 a0 4).bind fun v5 =>
      (ldI 0 h v5 x3).bind fun v6 =>
      let w7 := iAdd x2 (iMul (jI 9) v6)
      (gR h 1 a0 6).bind fun v8 =>
      (stI 0 h v8 x3 w4).bind fun h9 =>
      (gR h9 1 a0 7).bind fun v10 =>
      (stI 0 h9 v10 x3 w7).bind fun h11 =>
      (gR h11 1 a0 8).bind fun v12 =>
      (gR h11 1 a0 5).bind fun v13 =>
      (ldI 0 h11 v13 x3).bind fun v14 =>
      (gR h11 1 a0 5).bind fun v15 =>
      (ldI 0 h11 v15 x3).bind fun v16 =>
      (stI 0 h11 v12 x3 (iMax (jI 0) (iMax (iSub w4 v14) (iSub v16 w7)))).bind fun h17 =>
      let w18 := iAdd x3 (jI 1)
      L_X1_setRanges_12 N n a0 w4 w7 w18 h17
    else
      (gI h 1 a0 0).bind fun v19 =>
      let w20 := iSub v19 (jI 1)
      L_X1_setRanges_107 N N a0 (jI 0) w20 h
def f_X1_setRanges (N : Nat) (a0 : Nat) (h : mH) : Option (mH) :=
  (gI h 1 a0 1).bind fun v1 =>
  (gI h 1 a0 1).bind fun v2 =>
  L_X1_setRanges_12 N N a0 v1 v2 (jI 0) h
def y_X1_setRanges : mM := (yX1_setRanges, cX1_setRanges, 5, none)
def B_X1_setRanges : List (Nat × List mI) := [(97, [(.iconst 0, 1, [], [0]), (.istore_n 3, 1, [3], []), (.aload_n 0, 1, [0], []), (.getfield 71, 3, [1, 0, 0, 90], []), (.iconst 1, 1, [], [1]), (.isub, 1, [], []), (.istore 4, 2, [4], [])]), (136, [(.return_, 1, [], [])])]
def S_X1_setRanges_0 : List mI := [(.aload_n 0, 1, [0], []), (.getfield 75, 3, [1, 1, 0, 91], []), (.istore_n 1, 1, [1], []), (.aload_n 0, 1, [0], []), (.getfield 75, 3, [1, 1, 0, 91], []), (.istore_n 2, 1, [2], []), (.iconst 0, 1, [], [0]), (.istore_n 3, 1, [3], [])]
def S_X1_setRanges_12 : List mI := [(.iload_n 3, 1, [3], []), (.aload_n 0, 1, [0], []), (.getfield 71, 3, [1, 0, 0, 90], []), (.if_icmp .ge 80, 3, [97], []), (.iconst 1, 1, [], [1]), (.iload_n 1, 1, [1], []), (.bipush 9, 2, [], [9]), (.aload_n 0, 1, [0], []), (.getfield 13, 3, [1, 4, 2, 94], []), (.iload_n 3, 1, [3], []), (.iaload, 1, [0], []), (.imul, 1, [], []), (.isub, 1, [], []), (.invokestatic 133, 3, [6, 0, 0, 0, 30], []), (.istore_n 1, 1, [1], []), (.iload_n 2, 1, [2], []), (.bipush 9, 2, [], [9]), (.aload_n 0, 1, [0], []), (.getfield 13, 3, [1, 4, 2, 94], []), (.iload_n 3, 1, [3], []), (.iaload, 1, [0], []), (.imul, 1, [], []), (.iadd, 1, [], []), (.istore_n 2, 1, [2], []), (.aload_n 0, 1, [0], []), (.getfield 20, 3, [1, 6, 2, 96], []), (.iload_n 3, 1, [3], []), (.iload_n 1, 1, [1], []), (.iastore, 1, [], []), (.aload_n 0, 1, [0], []), (.getfield 23, 3, [1, 7, 2, 97], []), (.iload_n 3, 1, [3], []), (.iload_n 2, 1, [2], []), (.iastore, 1, [], []), (.aload_n 0, 1, [0], []), (.getfield 26, 3, [1, 8, 2, 98], []), (.iload_n 3, 1, [3], []), (.iconst 0, 1, [], [0]), (.iload_n 1, 1, [1], []), (.aload_n 0, 1, [0], []), (.getfield 17, 3, [1, 5, 2, 95], []), (.iload_n 3, 1, [3], []), (.iaload, 1, [0], []), (.isub, 1, [], []), (.aload_n 0, 1, [0], []), (.getfield 17, 3, [1, 5, 2, 95], []), (.iload_n 3, 1, [3], []), (.iaload, 1, [0], []), (.iload_n 2, 1, [2], []), (.isub, 1, [], []), (.invokestatic 133, 3, [6, 0, 0, 0, 30], []), (.invokestatic 133, 3, [6, 0, 0, 0, 30], []), (.iastore, 1, [], []), (.iinc 3 1, 3, [3], [1]), (.goto (-82), 3, [12], [])]
def S_X1_setRanges_107 : List mI := [(.iload 4, 2, [4], []), (.ifCond .lt 27, 3, [136], []), (.aload_n 0, 1, [0], []), (.getfield 29, 3, [1, 9, 2, 99], []), (.iload 4, 2, [4], []), (.iload_n 3, 1, [3], []), (.iastore, 1, [], []), (.iload_n 3, 1, [3], []), (.aload_n 0, 1, [0], []), (.getfield 26, 3, [1, 8, 2, 98], []), (.iload 4, 2, [4], []), (.iaload, 1, [0], []), (.iadd, 1, [], []), (.istore_n 3, 1, [3], []), (.iinc 4 (-1), 3, [4], [-1]), (.goto (-26), 3, [107], [])]
theorem lb_X1_setRanges : B_X1_setRanges.all (fun b => lst y_X1_setRanges.2.1 1 y_X1_setRanges.2.2.1 false b.1 b.2) = true := by decide +kernel
theorem ls_X1_setRanges_0 : lst y_X1_setRanges.2.1 1 y_X1_setRanges.2.2.1 false 0 S_X1_setRanges_0 = true := by decide +kernel
theorem ls_X1_setRanges_12 : lst y_X1_setRanges.2.1 1 y_X1_setRanges.2.2.1 false 12 S_X1_setRanges_12 = true := by decide +kernel
theorem ls_X1_setRanges_107 : lst y_X1_setRanges.2.1 1 y_X1_setRanges.2.2.1 false 107 S_X1_setRanges_107 = true := by decide +kernel
def C_X1_setRanges (N : Nat) : Nat → List Value → mH → (Option Value → mH → Option (mH)) → Option (mH) := fun j as g k => none
theorem co_X1_setRanges (N : Nat) (q : mH) : clOK 4 q (C_X1_setRanges N) := by
  intro j as g k e
  cases e
set_option maxRecDepth 100000 in
theorem t_X1_setRanges_107 {X : Nat × (Nat → Int32)} (N : Nat) {q : mH} : ∀ (n : Nat) (a0 : Nat) (x3 : Int32) (x4 : Int32) (h : mH), L_X1_setRanges_107 N n a0 x3 x4 h = some q → MW X y_X1_setRanges 4 107 [(0, .ref a0), (3, .int x3), (4, .int x4)] [] h none q := by
  intro n
  induction n with
  | zero => intro a0 x3 x4 h hf; cases hf
  | succ n ih =>
    intro a0 x3 x4 h hf
    refine ev_ok (o := 1) (ini := false) (Cl := C_X1_setRanges N) (Rc := RcV) (B := B_X1_setRanges) (K := fun pc ls st g => kb pc 107 (lgr 0 ls fun a0 => lgi 3 ls fun x3 => lgi 4 ls fun x4 => pe st (L_X1_setRanges_107 N n a0 x3 x4 g)) (none)) rfl (fun e => by cases e) (by decide) (rcV_ok rfl) ?_ (co_X1_setRanges N q) lb_X1_setRanges 3000 107 S_X1_setRanges_107 _ _ h ls_X1_setRanges_107 hf
    intro pc ls st g e
    rcases kb_s e with ⟨rfl, e⟩ | e
    · obtain ⟨a0, e0, f0⟩ := lgr_s e
      obtain ⟨x3, e1, f1⟩ := lgi_s f0
      obtain ⟨x4, e2, f2⟩ := lgi_s f1
      obtain ⟨qe, fe⟩ := pe_s f2
      subst qe
      exact MW.sub (List.forall_mem_cons.mpr ⟨lg_mem e0, List.forall_mem_cons.mpr ⟨lg_mem e1, List.forall_mem_cons.mpr ⟨lg_mem e2, fun _ h => absurd h List.not_mem_nil⟩⟩⟩) (ih a0 x3 x4 g fe)
    cases e
set_option maxRecDepth 100000 in
theorem t_X1_setRanges_12 {X : Nat × (Nat → Int32)} (N : Nat) {q : mH} : ∀ (n : Nat) (a0 : Nat) (x1 : Int32) (x2 : Int32) (x3 : Int32) (h : mH), L_X1_setRanges_12 N n a0 x1 x2 x3 h = some q → MW X y_X1_setRanges 4 12 [(0, .ref a0), (1, .int x1), (2, .int x2), (3, .int x3)] [] h none q := by
  intro n
  induction n with
  | zero => intro a0 x1 x2 x3 h hf; cases hf
  | succ n ih =>
    intro a0 x1 x2 x3 h hf
    refine ev_ok (o := 1) (ini := false) (Cl := C_X1_setRanges N) (Rc := RcV) (B := B_X1_setRanges) (K := fun pc ls st g => kb pc 12 (lgr 0 ls fun a0 => lgi 1 ls fun x1 => lgi 2 ls fun x2 => lgi 3 ls fun x3 => pe st (L_X1_setRanges_12 N n a0 x1 x2 x3 g)) (kb pc 107 (lgr 0 ls fun a0 => lgi 3 ls fun x3 => lgi 4 ls fun x4 => pe st (L_X1_setRanges_107 N N a0 x3 x4 g)) (none))) rfl (fun e => by cases e) (by decide) (rcV_ok rfl) ?_ (co_X1_setRanges N q) lb_X1_setRanges 3000 12 S_X1_setRanges_12 _ _ h ls_X1_setRanges_12 hf
    intro pc ls st g e
    rcases kb_s e with ⟨rfl, e⟩ | e
    · obtain ⟨a0, e0, f0⟩ := lgr_s e
      obtain ⟨x1, e1, f1⟩ := lgi_s f0
      obtain ⟨x2, e2, f2⟩ := lgi_s f1
      obtain ⟨x3, e3, f3⟩ := lgi_s f2
      obtain ⟨qe, fe⟩ := pe_s f3
      subst qe
      exact MW.sub (List.forall_mem_cons.mpr ⟨lg_mem e0, List.forall_mem_cons.mpr ⟨lg_mem e1, List.forall_mem_cons.mpr ⟨lg_mem e2, List.forall_mem_cons.mpr ⟨lg_mem e3, fun _ h => absurd h List.not_mem_nil⟩⟩⟩⟩) (ih a0 x1 x2 x3 g fe)
    rcases kb_s e with ⟨rfl, e⟩ | e
    · obtain ⟨a0, e0, f0⟩ := lgr_s e
      obtain ⟨x3, e1, f1⟩ := lgi_s f0
      obtain ⟨x4, e2, f2⟩ := lgi_s f1
      obtain ⟨qe, fe⟩ := pe_s f2
      subst qe
      exact MW.sub (List.forall_mem_cons.mpr ⟨lg_mem e0, List.forall_mem_cons.mpr ⟨lg_mem e1, List.forall_mem_cons.mpr ⟨lg_mem e2, fun _ h => absurd h List.not_mem_nil⟩⟩⟩) (t_X1_setRanges_107 N N a0 x3 x4 g fe)
    cases e
set_option maxRecDepth 100000 in
theorem m_X1_setRanges (N : Nat) {a0 : Nat} {h : mH} {q : mH} (hf : f_X1_setRanges N a0 h = some q) : MM y_X1_setRanges 4 [.ref a0] h none q := by
  refine MM.of (mFx (j := 42) rfl).2.2.2.1 (Nat.le_of_ble_eq_true rfl) (fun X => ?_)
  refine ev_ok (o := 1) (ini := false) (Cl := C_X1_setRanges N) (Rc := RcV) (B := B_X1_setRanges) (K := fun pc ls st g => kb pc 12 (lgr 0 ls fun a0 => lgi 1 ls fun x1 => lgi 2 ls fun x2 => lgi 3 ls fun x3 => pe st (L_X1_setRanges_12 N N a0 x1 x2 x3 g)) (none)) rfl (fun e => by cases e) (by decide) (rcV_ok rfl) ?_ (co_X1_setRanges N q) lb_X1_setRanges 3000 0 S_X1_setRanges_0 _ _ h ls_X1_setRanges_0 hf
  intro pc ls st g e
  rcases kb_s e with ⟨rfl, e⟩ | e
  · obtain ⟨a0, e0, f0⟩ := lgr_s e
    obtain ⟨x1, e1, f1⟩ := lgi_s f0
    obtain ⟨x2, e2, f2⟩ := lgi_s f1
    obtain ⟨x3, e3, f3⟩ := lgi_s f2
    obtain ⟨qe, fe⟩ := pe_s f3
    subst qe
    exact MW.sub (List.forall_mem_cons.mpr ⟨lg_mem e0, List.forall_mem_cons.mpr ⟨lg_mem e1, List.forall_mem_cons.mpr ⟨lg_mem e2, List.forall_mem_cons.mpr ⟨lg_mem e3, fun _ h => absurd h List.not_mem_nil⟩⟩⟩⟩) (t_X1_setRanges_12 N N a0 x1 x2 x3 g fe)
  cases e
def f_X1_widthBy (N : Nat) (a0 : Nat) (x1 : Int32) (x2 : Int32) (x3 : Int32) (h : mH) : Option (Int32 × mH) :=
  (gR h 1 a0 4).bind fun v1 =>
  (ldI 0 h v1 x3).bind fun v2 =>
  some (iMax (jI 1) (iAdd x1 (iMul (iSub x2 (jI 9)) v2)), h)
def y_X1_widthBy : mM := (yX1_widthBy, cX1_widthBy, 4, (some .int))
def B_X1_widthBy : List (Nat × List mI) := []
def S_X1_widthBy_0 : List mI := [(.iconst 1, 1, [], [1]), (.iload_n 1, 1, [1], []), (.iload_n 2, 1, [2], []), (.bipush 9, 2, [], [9]), (.isub, 1, [], []), (.aload_n 0, 1, [0], []), (.getfield 13, 3, [1, 4, 2, 94], []), (.iload_n 3, 1, [3], []), (.iaload, 1, [0], []), (.imul, 1, [], []), (.iadd, 1, [], []), (.invokestatic 133, 3, [6, 0, 0, 0, 30], []), (.ireturn, 1, [], [])]
theorem lb_X1_widthBy : B_X1_widthBy.all (fun b => lst y_X1_widthBy.2.1 1 y_X1_widthBy.2.2.1 false b.1 b.2) = true := by decide +kernel
theorem ls_X1_widthBy_0 : lst y_X1_widthBy.2.1 1 y_X1_widthBy.2.2.1 false 0 S_X1_widthBy_0 = true := by decide +kernel
def C_X1_widthBy (N : Nat) : Nat → List Value → mH → (Option Value → mH → Option (Int32 × mH)) → Option (Int32 × mH) := fun j as g k => none
theorem co_X1_widthBy (N : Nat) (q : Int32 × mH) : clOK 4 q (C_X1_widthBy N) := by
  intro j as g k e
  cases e
set_option maxRecDepth 100000 in
theorem m_X1_widthBy (N : Nat) {a0 : Nat} {x1 : Int32} {x2 : Int32} {x3 : Int32} {h : mH} {q : Int32 × mH} (hf : f_X1_widthBy N a0 x1 x2 x3 h = some q) : MM y_X1_widthBy 4 [.ref a0, .int x1, .int x2, .int x3] h (some (.int q.1)) q.2 := by
  refine MM.of (mFx (j := 45) rfl).2.2.2.1 (Nat.le_of_ble_eq_true rfl) (fun X => ?_)
  refine ev_ok (o := 1) (ini := false) (Cl := C_X1_widthBy N) (Rc := RcI) (B := B_X1_widthBy) (K := fun pc ls st g => none) rfl (fun e => by cases e) (by decide) (rcI_ok rfl) ?_ (co_X1_widthBy N q) lb_X1_widthBy 3000 0 S_X1_widthBy_0 _ _ h ls_X1_widthBy_0 hf
  intro pc ls st g e
  cases e
def L_X1_tryLean_15 (N : Nat) : Nat → Nat → Int32 → Int32 → Int32 → Int32 → mH → Option (mH)
  | 0, _, _, _, _, _, _ => none
  | n + 1, a0, x1, x2, x3, x4, h =>
    (gI h 1 a0 2).bind fun v1 =>
    if (iMin (jI 18) (iAdd x2 v1)) < x4 then
      some h
    else
      (gR h 1 a0 10).bind fun v2 =>
      (ldI 0 h v2 x4).bind fun v3 =>
      (rcv h 1 a0).bind fun _ =>
      (f_X1_widthBy N a0 v3 x2 x1 h).bind fun p4 =>
      (gR p4.2 1 a0 11).bind fun v5 =>
      (ldI 0 p4.2 v5 x4).bind fun v6 =>
      (gR p4.2 1 a0 5).bind fun v7 =>
      (ldI 0 p4.2 v7 x1).bind fun v8 =>
      let w9 := iAdd v6 (iAbs (iSub p4.1 v8))
      if w9 < x3 then
        (gR p4.2 1 a0 12).bind fun v10 =>
        (stI 0 p4.2 v10 x2 p4.1).bind fun h11 =>
        (gR h11 1 a0 13).bind fun v12 =>
        (stI 0 h11 v12 x2 w9).bind fun h13 =>
        let w14 := iAdd x4 (jI 1)
        L_X1_tryLean_15 N n a0 x1 x2 w9 w14 h13
      else
        let w15 := iAdd x4 (jI 1)
        L_X1_tryLean_15 N n a0 x1 x2 x3 w15 p4.2
def f_X1_tryLean (N : Nat) (a0 : Nat) (x1 : Int32) (x2 : Int32) (h : mH) : Option (mH) :=
  (gI h 1 a0 2).bind fun v1 =>
  let w2 := iMax (jI 0) (iSub x2 v1)
  L_X1_tryLean_15 N N a0 x1 x2 (jI 2147483647) w2 h
def y_X1_tryLean : mM := (yX1_tryLean, cX1_tryLean, 7, none)
def B_X1_tryLean : List (Nat × List mI) := [(93, [(.iinc 4 1, 3, [4], [1]), (.goto (-81), 3, [15], [])]), (99, [(.return_, 1, [], [])])]
def S_X1_tryLean_0 : List mI := [(.ldc 149, 2, [0, 6], [2147483647]), (.istore_n 3, 1, [3], []), (.iconst 0, 1, [], [0]), (.iload_n 2, 1, [2], []), (.aload_n 0, 1, [0], []), (.getfield 76, 3, [1, 2, 0, 92], []), (.isub, 1, [], []), (.invokestatic 133, 3, [6, 0, 0, 0, 30], []), (.istore 4, 2, [4], [])]
def S_X1_tryLean_15 : List mI := [(.iload 4, 2, [4], []), (.bipush 18, 2, [], [18]), (.iload_n 2, 1, [2], []), (.aload_n 0, 1, [0], []), (.getfield 76, 3, [1, 2, 0, 92], []), (.iadd, 1, [], []), (.invokestatic 65, 3, [7, 0, 0, 0, 29], []), (.if_icmp .gt 71, 3, [99], []), (.aload_n 0, 1, [0], []), (.aload_n 0, 1, [0], []), (.getfield 32, 3, [1, 10, 2, 100], []), (.iload 4, 2, [4], []), (.iaload, 1, [0], []), (.iload_n 2, 1, [2], []), (.iload_n 1, 1, [1], []), (.invokevirtual 107, 3, [0, 45, 3, 1, 212], []), (.istore 5, 2, [5], []), (.aload_n 0, 1, [0], []), (.getfield 35, 3, [1, 11, 2, 101], []), (.iload 4, 2, [4], []), (.iaload, 1, [0], []), (.iload 5, 2, [5], []), (.aload_n 0, 1, [0], []), (.getfield 17, 3, [1, 5, 2, 95], []), (.iload_n 1, 1, [1], []), (.iaload, 1, [0], []), (.isub, 1, [], []), (.invokestatic 136, 3, [8, 0, 0, 0, 31], []), (.iadd, 1, [], []), (.istore 6, 2, [6], []), (.iload 6, 2, [6], []), (.iload_n 3, 1, [3], []), (.if_icmp .ge 22, 3, [93], []), (.iload 6, 2, [6], []), (.istore_n 3, 1, [3], []), (.aload_n 0, 1, [0], []), (.getfield 38, 3, [1, 12, 2, 102], []), (.iload_n 2, 1, [2], []), (.iload 5, 2, [5], []), (.iastore, 1, [], []), (.aload_n 0, 1, [0], []), (.getfield 41, 3, [1, 13, 2, 103], []), (.iload_n 2, 1, [2], []), (.iload 6, 2, [6], []), (.iastore, 1, [], [])]
theorem lb_X1_tryLean : B_X1_tryLean.all (fun b => lst y_X1_tryLean.2.1 1 y_X1_tryLean.2.2.1 false b.1 b.2) = true := by decide +kernel
theorem ls_X1_tryLean_0 : lst y_X1_tryLean.2.1 1 y_X1_tryLean.2.2.1 false 0 S_X1_tryLean_0 = true := by decide +kernel
theorem ls_X1_tryLean_15 : lst y_X1_tryLean.2.1 1 y_X1_tryLean.2.2.1 false 15 S_X1_tryLean_15 = true := by decide +kernel
def C_X1_tryLean (N : Nat) : Nat → List Value → mH → (Option Value → mH → Option (mH)) → Option (mH) := fun j as g k => kb j 45 (pr1 as fun b0 as => pp1 as fun b1 as => pp1 as fun b2 as => pp1 as fun b3 as => pe as ((f_X1_widthBy N b0 b1 b2 b3 g).bind fun p => k (some (.int p.1)) p.2)) (none)
theorem co_X1_tryLean (N : Nat) (q : mH) : clOK 5 q (C_X1_tryLean N) := by
  intro j as g k e
  rcases kb_s e with ⟨rfl, e⟩ | e
  · obtain ⟨b0, r0, q0, f0⟩ := pr1_s e
    obtain ⟨b1, r1, q1, f1⟩ := pp1_s f0
    obtain ⟨b2, r2, q2, f2⟩ := pp1_s f1
    obtain ⟨b3, r3, q3, f3⟩ := pp1_s f2
    obtain ⟨qe, fe⟩ := pe_s f3
    obtain ⟨p, e1, e2⟩ := bnd_s fe
    subst qe
    subst q3
    subst q2
    subst q1
    subst q0
    exact ⟨_, _, _, _, 4, rfl, (by decide), m_X1_widthBy N e1, e2⟩
  cases e
set_option maxRecDepth 100000 in
theorem t_X1_tryLean_15 {X : Nat × (Nat → Int32)} (N : Nat) {q : mH} : ∀ (n : Nat) (a0 : Nat) (x1 : Int32) (x2 : Int32) (x3 : Int32) (x4 : Int32) (h : mH), L_X1_tryLean_15 N n a0 x1 x2 x3 x4 h = some q → MW X y_X1_tryLean 5 15 [(0, .ref a0), (1, .int x1), (2, .int x2), (3, .int x3), (4, .int x4)] [] h none q := by
  intro n
  induction n with
  | zero => intro a0 x1 x2 x3 x4 h hf; cases hf
  | succ n ih =>
    intro a0 x1 x2 x3 x4 h hf
    refine ev_ok (o := 1) (ini := false) (Cl := C_X1_tryLean N) (Rc := RcV) (B := B_X1_tryLean) (K := fun pc ls st g => kb pc 15 (lgr 0 ls fun a0 => lgi 1 ls fun x1 => lgi 2 ls fun x2 => lgi 3 ls fun x3 => lgi 4 ls fun x4 => pe st (L_X1_tryLean_15 N n a0 x1 x2 x3 x4 g)) (none)) rfl (fun e => by cases e) (by decide) (rcV_ok rfl) ?_ (co_X1_tryLean N q) lb_X1_tryLean 3000 15 S_X1_tryLean_15 _ _ h ls_X1_tryLean_15 hf
    intro pc ls st g e
    rcases kb_s e with ⟨rfl, e⟩ | e
    · obtain ⟨a0, e0, f0⟩ := lgr_s e
      obtain ⟨x1, e1, f1⟩ := lgi_s f0
      obtain ⟨x2, e2, f2⟩ := lgi_s f1
      obtain ⟨x3, e3, f3⟩ := lgi_s f2
      obtain ⟨x4, e4, f4⟩ := lgi_s f3
      obtain ⟨qe, fe⟩ := pe_s f4
      subst qe
      exact MW.sub (List.forall_mem_cons.mpr ⟨lg_mem e0, List.forall_mem_cons.mpr ⟨lg_mem e1, List.forall_mem_cons.mpr ⟨lg_mem e2, List.forall_mem_cons.mpr ⟨lg_mem e3, List.forall_mem_cons.mpr ⟨lg_mem e4, fun _ h => absurd h List.not_mem_nil⟩⟩⟩⟩⟩) (ih a0 x1 x2 x3 x4 g fe)
    cases e
set_option maxRecDepth 100000 in
theorem m_X1_tryLean (N : Nat) {a0 : Nat} {x1 : Int32} {x2 : Int32} {h : mH} {q : mH} (hf : f_X1_tryLean N a0 x1 x2 h = some q) : MM y_X1_tryLean 5 [.ref a0, .int x1, .int x2] h none q := by
  refine MM.of (mFx (j := 44) rfl).2.2.2.1 (Nat.le_of_ble_eq_true rfl) (fun X => ?_)
  refine ev_ok (o := 1) (ini := false) (Cl := C_X1_tryLean N) (Rc := RcV) (B := B_X1_tryLean) (K := fun pc ls st g => kb pc 15 (lgr 0 ls fun a0 => lgi 1 ls fun x1 => lgi 2 ls fun x2 => lgi 3 ls fun x3 => lgi 4 ls fun x4 => pe st (L_X1_tryLean_15 N N a0 x1 x2 x3 x4 g)) (none)) rfl (fun e => by cases e) (by decide) (rcV_ok rfl) ?_ (co_X1_tryLean N q) lb_X1_tryLean 3000 0 S_X1_tryLean_0 _ _ h ls_X1_tryLean_0 hf
  intro pc ls st g e
  rcases kb_s e with ⟨rfl, e⟩ | e
  · obtain ⟨a0, e0, f0⟩ := lgr_s e
    obtain ⟨x1, e1, f1⟩ := lgi_s f0
    obtain ⟨x2, e2, f2⟩ := lgi_s f1
    obtain ⟨x3, e3, f3⟩ := lgi_s f2
    obtain ⟨x4, e4, f4⟩ := lgi_s f3
    obtain ⟨qe, fe⟩ := pe_s f4
    subst qe
    exact MW.sub (List.forall_mem_cons.mpr ⟨lg_mem e0, List.forall_mem_cons.mpr ⟨lg_mem e1, List.forall_mem_cons.mpr ⟨lg_mem e2, List.forall_mem_cons.mpr ⟨lg_mem e3, List.forall_mem_cons.mpr ⟨lg_mem e4, fun _ h => absurd h List.not_mem_nil⟩⟩⟩⟩⟩) (t_X1_tryLean_15 N N a0 x1 x2 x3 x4 g fe)
  cases e
def L_X1_costOfTrial_64 (N : Nat) (k54 : Nat → Int32 → mH → Option (Int32 × mH)) : Nat → Nat → Int32 → Int32 → mH → Option (Int32 × mH)
  | 0, _, _, _, _ => none
  | n + 1, a0, x1, x2, h =>
    if x2 < (jI 19) then
      (rcv h 1 a0).bind fun _ =>
      (f_X1_tryLean N a0 x1 x2 h).bind fun h1 =>
      let w2 := iAdd x2 (jI 1)
      L_X1_costOfTrial_64 N k54 n a0 x1 w2 h1
    else
      (gR h 1 a0 12).bind fun v3 =>
      (gR h 1 a0 10).bind fun v4 =>
      (cpI h v3 (jI 0) v4 (jI 0) (jI 19)).bind fun h5 =>
      (gR h5 1 a0 13).bind fun v6 =>
      (gR h5 1 a0 11).bind fun v7 =>
      (cpI h5 v6 (jI 0) v7 (jI 0) (jI 19)).bind fun h8 =>
      let w9 := iAdd x1 (jI 1)
      k54 a0 w9 h8
def L_X1_costOfTrial_127 (N : Nat) : Nat → Nat → Int32 → Int32 → mH → Option (Int32 × mH)
  | 0, _, _, _, _ => none
  | n + 1, a0, x1, x2, h =>
    if x2 < (jI 19) then
      (gR h 1 a0 11).bind fun v1 =>
      (ldI 0 h v1 x2).bind fun v2 =>
      let w3 := iMin x1 v2
      let w4 := iAdd x2 (jI 1)
      L_X1_costOfTrial_127 N n a0 w3 w4 h
    else
      some (x1, h)
def L_X1_costOfTrial_54 (N : Nat) : Nat → Nat → Int32 → mH → Option (Int32 × mH)
  | 0, _, _, _ => none
  | n + 1, a0, x1, h =>
    (gI h 1 a0 0).bind fun v1 =>
    if x1 < v1 then
      L_X1_costOfTrial_64 N (L_X1_costOfTrial_54 N n) N a0 x1 (jI 0) h
    else
      (gR h 1 a0 11).bind fun v2 =>
      (ldI 0 h v2 (jI 0)).bind fun v3 =>
      L_X1_costOfTrial_127 N N a0 v3 (jI 1) h
def L_X1_costOfTrial_2 (N : Nat) : Nat → Nat → Int32 → mH → Option (Int32 × mH)
  | 0, _, _, _ => none
  | n + 1, a0, x1, h =>
    if x1 < (jI 19) then
      (gR h 1 a0 10).bind fun v1 =>
      (gI h 1 a0 1).bind fun v2 =>
      (rcv h 1 a0).bind fun _ =>
      (f_X1_widthBy N a0 v2 x1 (jI 0) h).bind fun p3 =>
      (stI 0 p3.2 v1 x1 p3.1).bind fun h4 =>
      (gR h4 1 a0 11).bind fun v5 =>
      (gR h4 1 a0 10).bind fun v6 =>
      (ldI 0 h4 v6 x1).bind fun v7 =>
      (gR h4 1 a0 5).bind fun v8 =>
      (ldI 0 h4 v8 (jI 0)).bind fun v9 =>
      (stI 0 h4 v5 x1 (iAbs (iSub v7 v9))).bind fun h10 =>
      let w11 := iAdd x1 (jI 1)
      L_X1_costOfTrial_2 N n a0 w11 h10
    else
      L_X1_costOfTrial_54 N N a0 (jI 1) h
def f_X1_costOfTrial (N : Nat) (a0 : Nat) (h : mH) : Option (Int32 × mH) :=
  L_X1_costOfTrial_2 N N a0 (jI 0) h
def y_X1_costOfTrial : mM := (yX1_costOfTrial, cX1_costOfTrial, 3, (some .int))
def B_X1_costOfTrial : List (Nat × List mI) := [(52, [(.iconst 1, 1, [], [1]), (.istore_n 1, 1, [1], [])]), (82, [(.aload_n 0, 1, [0], []), (.getfield 38, 3, [1, 12, 2, 102], []), (.iconst 0, 1, [], [0]), (.aload_n 0, 1, [0], []), (.getfield 32, 3, [1, 10, 2, 100], []), (.iconst 0, 1, [], [0]), (.bipush 19, 2, [], [19]), (.invokestatic 143, 3, [10, 0, 0, 0, 32], []), (.aload_n 0, 1, [0], []), (.getfield 41, 3, [1, 13, 2, 103], []), (.iconst 0, 1, [], [0]), (.aload_n 0, 1, [0], []), (.getfield 35, 3, [1, 11, 2, 101], []), (.iconst 0, 1, [], [0]), (.bipush 19, 2, [], [19]), (.invokestatic 143, 3, [10, 0, 0, 0, 32], []), (.iinc 1 1, 3, [1], [1]), (.goto (-61), 3, [54], [])]), (118, [(.aload_n 0, 1, [0], []), (.getfield 35, 3, [1, 11, 2, 101], []), (.iconst 0, 1, [], [0]), (.iaload, 1, [0], []), (.istore_n 1, 1, [1], []), (.iconst 1, 1, [], [1]), (.istore_n 2, 1, [2], [])]), (150, [(.iload_n 1, 1, [1], []), (.ireturn, 1, [], [])])]
def S_X1_costOfTrial_0 : List mI := [(.iconst 0, 1, [], [0]), (.istore_n 1, 1, [1], [])]
def S_X1_costOfTrial_2 : List mI := [(.iload_n 1, 1, [1], []), (.bipush 19, 2, [], [19]), (.if_icmp .ge 47, 3, [52], []), (.aload_n 0, 1, [0], []), (.getfield 32, 3, [1, 10, 2, 100], []), (.iload_n 1, 1, [1], []), (.aload_n 0, 1, [0], []), (.aload_n 0, 1, [0], []), (.getfield 75, 3, [1, 1, 0, 91], []), (.iload_n 1, 1, [1], []), (.iconst 0, 1, [], [0]), (.invokevirtual 107, 3, [0, 45, 3, 1, 212], []), (.iastore, 1, [], []), (.aload_n 0, 1, [0], []), (.getfield 35, 3, [1, 11, 2, 101], []), (.iload_n 1, 1, [1], []), (.aload_n 0, 1, [0], []), (.getfield 32, 3, [1, 10, 2, 100], []), (.iload_n 1, 1, [1], []), (.iaload, 1, [0], []), (.aload_n 0, 1, [0], []), (.getfield 17, 3, [1, 5, 2, 95], []), (.iconst 0, 1, [], [0]), (.iaload, 1, [0], []), (.isub, 1, [], []), (.invokestatic 136, 3, [8, 0, 0, 0, 31], []), (.iastore, 1, [], []), (.iinc 1 1, 3, [1], [1]), (.goto (-47), 3, [2], [])]
def S_X1_costOfTrial_54 : List mI := [(.iload_n 1, 1, [1], []), (.aload_n 0, 1, [0], []), (.getfield 71, 3, [1, 0, 0, 90], []), (.if_icmp .ge 59, 3, [118], []), (.iconst 0, 1, [], [0]), (.istore_n 2, 1, [2], [])]
def S_X1_costOfTrial_64 : List mI := [(.iload_n 2, 1, [2], []), (.bipush 19, 2, [], [19]), (.if_icmp .ge 15, 3, [82], []), (.aload_n 0, 1, [0], []), (.iload_n 1, 1, [1], []), (.iload_n 2, 1, [2], []), (.invokevirtual 139, 3, [0, 44, 2, 1, 213], []), (.iinc 2 1, 3, [2], [1]), (.goto (-15), 3, [64], [])]
def S_X1_costOfTrial_127 : List mI := [(.iload_n 2, 1, [2], []), (.bipush 19, 2, [], [19]), (.if_icmp .ge 20, 3, [150], []), (.iload_n 1, 1, [1], []), (.aload_n 0, 1, [0], []), (.getfield 35, 3, [1, 11, 2, 101], []), (.iload_n 2, 1, [2], []), (.iaload, 1, [0], []), (.invokestatic 65, 3, [7, 0, 0, 0, 29], []), (.istore_n 1, 1, [1], []), (.iinc 2 1, 3, [2], [1]), (.goto (-20), 3, [127], [])]
theorem lb_X1_costOfTrial : B_X1_costOfTrial.all (fun b => lst y_X1_costOfTrial.2.1 1 y_X1_costOfTrial.2.2.1 false b.1 b.2) = true := by decide +kernel
theorem ls_X1_costOfTrial_0 : lst y_X1_costOfTrial.2.1 1 y_X1_costOfTrial.2.2.1 false 0 S_X1_costOfTrial_0 = true := by decide +kernel
theorem ls_X1_costOfTrial_2 : lst y_X1_costOfTrial.2.1 1 y_X1_costOfTrial.2.2.1 false 2 S_X1_costOfTrial_2 = true := by decide +kernel
theorem ls_X1_costOfTrial_54 : lst y_X1_costOfTrial.2.1 1 y_X1_costOfTrial.2.2.1 false 54 S_X1_costOfTrial_54 = true := by decide +kernel
theorem ls_X1_costOfTrial_64 : lst y_X1_costOfTrial.2.1 1 y_X1_costOfTrial.2.2.1 false 64 S_X1_costOfTrial_64 = true := by decide +kernel
theorem ls_X1_costOfTrial_127 : lst y_X1_costOfTrial.2.1 1 y_X1_costOfTrial.2.2.1 false 127 S_X1_costOfTrial_127 = true := by decide +kernel
def C_X1_costOfTrial (N : Nat) : Nat → List Value → mH → (Option Value → mH → Option (Int32 × mH)) → Option (Int32 × mH) := fun j as g k => kb j 45 (pr1 as fun b0 as => pp1 as fun b1 as => pp1 as fun b2 as => pp1 as fun b3 as => pe as ((f_X1_widthBy N b0 b1 b2 b3 g).bind fun p => k (some (.int p.1)) p.2)) (kb j 44 (pr1 as fun b0 as => pp1 as fun b1 as => pp1 as fun b2 as => pe as ((f_X1_tryLean N b0 b1 b2 g).bind fun p => k none p)) (none))
theorem co_X1_costOfTrial (N : Nat) (q : Int32 × mH) : clOK 6 q (C_X1_costOfTrial N) := by
  intro j as g k e
  rcases kb_s e with ⟨rfl, e⟩ | e
  · obtain ⟨b0, r0, q0, f0⟩ := pr1_s e
    obtain ⟨b1, r1, q1, f1⟩ := pp1_s f0
    obtain ⟨b2, r2, q2, f2⟩ := pp1_s f1
    obtain ⟨b3, r3, q3, f3⟩ := pp1_s f2
    obtain ⟨qe, fe⟩ := pe_s f3
    obtain ⟨p, e1, e2⟩ := bnd_s fe
    subst qe
    subst q3
    subst q2
    subst q1
    subst q0
    exact ⟨_, _, _, _, 4, rfl, (by decide), m_X1_widthBy N e1, e2⟩
  rcases kb_s e with ⟨rfl, e⟩ | e
  · obtain ⟨b0, r0, q0, f0⟩ := pr1_s e
    obtain ⟨b1, r1, q1, f1⟩ := pp1_s f0
    obtain ⟨b2, r2, q2, f2⟩ := pp1_s f1
    obtain ⟨qe, fe⟩ := pe_s f2
    obtain ⟨p, e1, e2⟩ := bnd_s fe
    subst qe
    subst q2
    subst q1
    subst q0
    exact ⟨_, _, _, _, 5, rfl, (by decide), m_X1_tryLean N e1, e2⟩
  cases e
set_option maxRecDepth 100000 in
theorem t_X1_costOfTrial_64 {X : Nat × (Nat → Int32)} (N : Nat) {q : Int32 × mH} {k54 : Nat → Int32 → mH → Option (Int32 × mH)} (hk54 : ∀ (a0 : Nat) (x1 : Int32) g, k54 a0 x1 g = some q → MW X y_X1_costOfTrial 6 54 [(0, .ref a0), (1, .int x1)] [] g (some (.int q.1)) q.2) : ∀ (n : Nat) (a0 : Nat) (x1 : Int32) (x2 : Int32) (h : mH), L_X1_costOfTrial_64 N k54 n a0 x1 x2 h = some q → MW X y_X1_costOfTrial 6 64 [(0, .ref a0), (1, .int x1), (2, .int x2)] [] h (some (.int q.1)) q.2 := by
  intro n
  induction n with
  | zero => intro a0 x1 x2 h hf; cases hf
  | succ n ih =>
    intro a0 x1 x2 h hf
    refine ev_ok (o := 1) (ini := false) (Cl := C_X1_costOfTrial N) (Rc := RcI) (B := B_X1_costOfTrial) (K := fun pc ls st g => kb pc 54 (lgr 0 ls fun a0 => lgi 1 ls fun x1 => pe st (k54 a0 x1 g)) (kb pc 64 (lgr 0 ls fun a0 => lgi 1 ls fun x1 => lgi 2 ls fun x2 => pe st (L_X1_costOfTrial_64 N k54 n a0 x1 x2 g)) (none))) rfl (fun e => by cases e) (by decide) (rcI_ok rfl) ?_ (co_X1_costOfTrial N q) lb_X1_costOfTrial 3000 64 S_X1_costOfTrial_64 _ _ h ls_X1_costOfTrial_64 hf
    intro pc ls st g e
    rcases kb_s e with ⟨rfl, e⟩ | e
    · obtain ⟨a0, e0, f0⟩ := lgr_s e
      obtain ⟨x1, e1, f1⟩ := lgi_s f0
      obtain ⟨qe, fe⟩ := pe_s f1
      subst qe
      exact MW.sub (List.forall_mem_cons.mpr ⟨lg_mem e0, List.forall_mem_cons.mpr ⟨lg_mem e1, fun _ h => absurd h List.not_mem_nil⟩⟩) (hk54 a0 x1 g fe)
    rcases kb_s e with ⟨rfl, e⟩ | e
    · obtain ⟨a0, e0, f0⟩ := lgr_s e
      obtain ⟨x1, e1, f1⟩ := lgi_s f0
      obtain ⟨x2, e2, f2⟩ := lgi_s f1
      obtain ⟨qe, fe⟩ := pe_s f2
      subst qe
      exact MW.sub (List.forall_mem_cons.mpr ⟨lg_mem e0, List.forall_mem_cons.mpr ⟨lg_mem e1, List.forall_mem_cons.mpr ⟨lg_mem e2, fun _ h => absurd h List.not_mem_nil⟩⟩⟩) (ih a0 x1 x2 g fe)
    cases e
set_option maxRecDepth 100000 in
theorem t_X1_costOfTrial_127 {X : Nat × (Nat → Int32)} (N : Nat) {q : Int32 × mH} : ∀ (n : Nat) (a0 : Nat) (x1 : Int32) (x2 : Int32) (h : mH), L_X1_costOfTrial_127 N n a0 x1 x2 h = some q → MW X y_X1_costOfTrial 6 127 [(0, .ref a0), (1, .int x1), (2, .int x2)] [] h (some (.int q.1)) q.2 := by
  intro n
  induction n with
  | zero => intro a0 x1 x2 h hf; cases hf
  | succ n ih =>
    intro a0 x1 x2 h hf
    refine ev_ok (o := 1) (ini := false) (Cl := C_X1_costOfTrial N) (Rc := RcI) (B := B_X1_costOfTrial) (K := fun pc ls st g => kb pc 127 (lgr 0 ls fun a0 => lgi 1 ls fun x1 => lgi 2 ls fun x2 => pe st (L_X1_costOfTrial_127 N n a0 x1 x2 g)) (none)) rfl (fun e => by cases e) (by decide) (rcI_ok rfl) ?_ (co_X1_costOfTrial N q) lb_X1_costOfTrial 3000 127 S_X1_costOfTrial_127 _ _ h ls_X1_costOfTrial_127 hf
    intro pc ls st g e
    rcases kb_s e with ⟨rfl, e⟩ | e
    · obtain ⟨a0, e0, f0⟩ := lgr_s e
      obtain ⟨x1, e1, f1⟩ := lgi_s f0
      obtain ⟨x2, e2, f2⟩ := lgi_s f1
      obtain ⟨qe, fe⟩ := pe_s f2
      subst qe
      exact MW.sub (List.forall_mem_cons.mpr ⟨lg_mem e0, List.forall_mem_cons.mpr ⟨lg_mem e1, List.forall_mem_cons.mpr ⟨lg_mem e2, fun _ h => absurd h List.not_mem_nil⟩⟩⟩) (ih a0 x1 x2 g fe)
    cases e
set_option maxRecDepth 100000 in
theorem t_X1_costOfTrial_54 {X : Nat × (Nat → Int32)} (N : Nat) {q : Int32 × mH} : ∀ (n : Nat) (a0 : Nat) (x1 : Int32) (h : mH), L_X1_costOfTrial_54 N n a0 x1 h = some q → MW X y_X1_costOfTrial 6 54 [(0, .ref a0), (1, .int x1)] [] h (some (.int q.1)) q.2 := by
  intro n
  induction n with
  | zero => intro a0 x1 h hf; cases hf
  | succ n ih =>
    intro a0 x1 h hf
    refine ev_ok (o := 1) (ini := false) (Cl := C_X1_costOfTrial N) (Rc := RcI) (B := B_X1_costOfTrial) (K := fun pc ls st g => kb pc 64 (lgr 0 ls fun a0 => lgi 1 ls fun x1 => lgi 2 ls fun x2 => pe st (L_X1_costOfTrial_64 N (L_X1_costOfTrial_54 N n) N a0 x1 x2 g)) (kb pc 127 (lgr 0 ls fun a0 => lgi 1 ls fun x1 => lgi 2 ls fun x2 => pe st (L_X1_costOfTrial_127 N N a0 x1 x2 g)) (none))) rfl (fun e => by cases e) (by decide) (rcI_ok rfl) ?_ (co_X1_costOfTrial N q) lb_X1_costOfTrial 3000 54 S_X1_costOfTrial_54 _ _ h ls_X1_costOfTrial_54 hf
    intro pc ls st g e
    rcases kb_s e with ⟨rfl, e⟩ | e
    · obtain ⟨a0, e0, f0⟩ := lgr_s e
      obtain ⟨x1, e1, f1⟩ := lgi_s f0
      obtain ⟨x2, e2, f2⟩ := lgi_s f1
      obtain ⟨qe, fe⟩ := pe_s f2
      subst qe
      exact MW.sub (List.forall_mem_cons.mpr ⟨lg_mem e0, List.forall_mem_cons.mpr ⟨lg_mem e1, List.forall_mem_cons.mpr ⟨lg_mem e2, fun _ h => absurd h List.not_mem_nil⟩⟩⟩) (t_X1_costOfTrial_64 N (fun a0 x1 g e => ih a0 x1 g e) N a0 x1 x2 g fe)
    rcases kb_s e with ⟨rfl, e⟩ | e
    · obtain ⟨a0, e0, f0⟩ := lgr_s e
      obtain ⟨x1, e1, f1⟩ := lgi_s f0
      obtain ⟨x2, e2, f2⟩ := lgi_s f1
      obtain ⟨qe, fe⟩ := pe_s f2
      subst qe
      exact MW.sub (List.forall_mem_cons.mpr ⟨lg_mem e0, List.forall_mem_cons.mpr ⟨lg_mem e1, List.forall_mem_cons.mpr ⟨lg_mem e2, fun _ h => absurd h List.not_mem_nil⟩⟩⟩) (t_X1_costOfTrial_127 N N a0 x1 x2 g fe)
    cases e
set_option maxRecDepth 100000 in
theorem t_X1_costOfTrial_2 {X : Nat × (Nat → Int32)} (N : Nat) {q : Int32 × mH} : ∀ (n : Nat) (a0 : Nat) (x1 : Int32) (h : mH), L_X1_costOfTrial_2 N n a0 x1 h = some q → MW X y_X1_costOfTrial 6 2 [(0, .ref a0), (1, .int x1)] [] h (some (.int q.1)) q.2 := by
  intro n
  induction n with
  | zero => intro a0 x1 h hf; cases hf
  | succ n ih =>
    intro a0 x1 h hf
    refine ev_ok (o := 1) (ini := false) (Cl := C_X1_costOfTrial N) (Rc := RcI) (B := B_X1_costOfTrial) (K := fun pc ls st g => kb pc 2 (lgr 0 ls fun a0 => lgi 1 ls fun x1 => pe st (L_X1_costOfTrial_2 N n a0 x1 g)) (kb pc 54 (lgr 0 ls fun a0 => lgi 1 ls fun x1 => pe st (L_X1_costOfTrial_54 N N a0 x1 g)) (none))) rfl (fun e => by cases e) (by decide) (rcI_ok rfl) ?_ (co_X1_costOfTrial N q) lb_X1_costOfTrial 3000 2 S_X1_costOfTrial_2 _ _ h ls_X1_costOfTrial_2 hf
    intro pc ls st g e
    rcases kb_s e with ⟨rfl, e⟩ | e
    · obtain ⟨a0, e0, f0⟩ := lgr_s e
      obtain ⟨x1, e1, f1⟩ := lgi_s f0
      obtain ⟨qe, fe⟩ := pe_s f1
      subst qe
      exact MW.sub (List.forall_mem_cons.mpr ⟨lg_mem e0, List.forall_mem_cons.mpr ⟨lg_mem e1, fun _ h => absurd h List.not_mem_nil⟩⟩) (ih a0 x1 g fe)
    rcases kb_s e with ⟨rfl, e⟩ | e
    · obtain ⟨a0, e0, f0⟩ := lgr_s e
      obtain ⟨x1, e1, f1⟩ := lgi_s f0
      obtain ⟨qe, fe⟩ := pe_s f1
      subst qe
      exact MW.sub (List.forall_mem_cons.mpr ⟨lg_mem e0, List.forall_mem_cons.mpr ⟨lg_mem e1, fun _ h => absurd h List.not_mem_nil⟩⟩) (t_X1_costOfTrial_54 N N a0 x1 g fe)
    cases e
set_option maxRecDepth 100000 in
theorem m_X1_costOfTrial (N : Nat) {a0 : Nat} {h : mH} {q : Int32 × mH} (hf : f_X1_costOfTrial N a0 h = some q) : MM y_X1_costOfTrial 6 [.ref a0] h (some (.int q.1)) q.2 := by
  refine MM.of (mFx (j := 43) rfl).2.2.2.1 (Nat.le_of_ble_eq_true rfl) (fun X => ?_)
  refine ev_ok (o := 1) (ini := false) (Cl := C_X1_costOfTrial N) (Rc := RcI) (B := B_X1_costOfTrial) (K := fun pc ls st g => kb pc 2 (lgr 0 ls fun a0 => lgi 1 ls fun x1 => pe st (L_X1_costOfTrial_2 N N a0 x1 g)) (none)) rfl (fun e => by cases e) (by decide) (rcI_ok rfl) ?_ (co_X1_costOfTrial N q) lb_X1_costOfTrial 3000 0 S_X1_costOfTrial_0 _ _ h ls_X1_costOfTrial_0 hf
  intro pc ls st g e
  rcases kb_s e with ⟨rfl, e⟩ | e
  · obtain ⟨a0, e0, f0⟩ := lgr_s e
    obtain ⟨x1, e1, f1⟩ := lgi_s f0
    obtain ⟨qe, fe⟩ := pe_s f1
    subst qe
    exact MW.sub (List.forall_mem_cons.mpr ⟨lg_mem e0, List.forall_mem_cons.mpr ⟨lg_mem e1, fun _ h => absurd h List.not_mem_nil⟩⟩) (t_X1_costOfTrial_2 N N a0 x1 g fe)
  cases e
def L_X1_narrowRanges_32 (N : Nat) : Nat → Nat → Int32 → Int32 → mH → Option (mH)
  | 0, _, _, _, _ => none
  | n + 1, a0, x1, x2, h =>
    (gI h 1 a0 0).bind fun v1 =>
    if x2 < v1 then
      (gR h 1 a0 6).bind fun v2 =>
      (gR h 1 a0 6).bind fun v3 =>
      (ldI 0 h v3 x2).bind fun v4 =>
      (gR h 1 a0 5).bind fun v5 =>
      (ldI 0 h v5 x2).bind fun v6 =>
      (gR h 1 a0 8).bind fun v7 =>
      (ldI 0 h v7 x2).bind fun v8 =>
      (stI 0 h v2 x2 (iMax v4 (iSub (iSub v6 x1) v8))).bind fun h9 =>
      (gR h9 1 a0 7).bind fun v10 =>
      (gR h9 1 a0 7).bind fun v11 =>
      (ldI 0 h9 v11 x2).bind fun v12 =>
      (gR h9 1 a0 5).bind fun v13 =>
      (ldI 0 h9 v13 x2).bind fun v14 =>
      (gR h9 1 a0 8).bind fun v15 =>
      (ldI 0 h9 v15 x2).bind fun v16 =>
      (stI 0 h9 v10 x2 (iMin v12 (iAdd (iAdd v14 x1) v16))).bind fun h17 =>
      let w18 := iAdd x2 (jI 1)
      L_X1_narrowRanges_32 N n a0 x1 w18 h17
    else
      some h
def L_X1_narrowRanges_7 (N : Nat) : Nat → Nat → Int32 → Int32 → mH → Option (mH)
  | 0, _, _, _, _ => none
  | n + 1, a0, x1, x2, h =>
    (gI h 1 a0 0).bind fun v1 =>
    if x2 < v1 then
      (gR h 1 a0 8).bind fun v2 =>
      (ldI 0 h v2 x2).bind fun v3 =>
      let w4 := iSub x1 v3
      let w5 := iAdd x2 (jI 1)
      L_X1_narrowRanges_7 N n a0 w4 w5 h
    else
      L_X1_narrowRanges_32 N N a0 x1 (jI 0) h
def f_X1_narrowRanges (N : Nat) (a0 : Nat) (h : mH) : Option (mH) :=
  (gI h 1 a0 3).bind fun v1 =>
  L_X1_narrowRanges_7 N N a0 v1 (jI 0) h
def y_X1_narrowRanges : mM := (yX1_narrowRanges, cX1_narrowRanges, 3, none)
def B_X1_narrowRanges : List (Nat × List mI) := [(30, [(.iconst 0, 1, [], [0]), (.istore_n 2, 1, [2], [])]), (106, [(.return_, 1, [], [])])]
def S_X1_narrowRanges_0 : List mI := [(.aload_n 0, 1, [0], []), (.getfield 94, 3, [1, 3, 0, 93], []), (.istore_n 1, 1, [1], []), (.iconst 0, 1, [], [0]), (.istore_n 2, 1, [2], [])]
def S_X1_narrowRanges_7 : List mI := [(.iload_n 2, 1, [2], []), (.aload_n 0, 1, [0], []), (.getfield 71, 3, [1, 0, 0, 90], []), (.if_icmp .ge 18, 3, [30], []), (.iload_n 1, 1, [1], []), (.aload_n 0, 1, [0], []), (.getfield 26, 3, [1, 8, 2, 98], []), (.iload_n 2, 1, [2], []), (.iaload, 1, [0], []), (.isub, 1, [], []), (.istore_n 1, 1, [1], []), (.iinc 2 1, 3, [2], [1]), (.goto (-20), 3, [7], [])]
def S_X1_narrowRanges_32 : List mI := [(.iload_n 2, 1, [2], []), (.aload_n 0, 1, [0], []), (.getfield 71, 3, [1, 0, 0, 90], []), (.if_icmp .ge 69, 3, [106], []), (.aload_n 0, 1, [0], []), (.getfield 20, 3, [1, 6, 2, 96], []), (.iload_n 2, 1, [2], []), (.aload_n 0, 1, [0], []), (.getfield 20, 3, [1, 6, 2, 96], []), (.iload_n 2, 1, [2], []), (.iaload, 1, [0], []), (.aload_n 0, 1, [0], []), (.getfield 17, 3, [1, 5, 2, 95], []), (.iload_n 2, 1, [2], []), (.iaload, 1, [0], []), (.iload_n 1, 1, [1], []), (.isub, 1, [], []), (.aload_n 0, 1, [0], []), (.getfield 26, 3, [1, 8, 2, 98], []), (.iload_n 2, 1, [2], []), (.iaload, 1, [0], []), (.isub, 1, [], []), (.invokestatic 133, 3, [6, 0, 0, 0, 30], []), (.iastore, 1, [], []), (.aload_n 0, 1, [0], []), (.getfield 23, 3, [1, 7, 2, 97], []), (.iload_n 2, 1, [2], []), (.aload_n 0, 1, [0], []), (.getfield 23, 3, [1, 7, 2, 97], []), (.iload_n 2, 1, [2], []), (.iaload, 1, [0], []), (.aload_n 0, 1, [0], []), (.getfield 17, 3, [1, 5, 2, 95], []), (.iload_n 2, 1, [2], []), (.iaload, 1, [0], []), (.iload_n 1, 1, [1], []), (.iadd, 1, [], []), (.aload_n 0, 1, [0], []), (.getfield 26, 3, [1, 8, 2, 98], []), (.iload_n 2, 1, [2], []), (.iaload, 1, [0], []), (.iadd, 1, [], []), (.invokestatic 65, 3, [7, 0, 0, 0, 29], []), (.iastore, 1, [], []), (.iinc 2 1, 3, [2], [1]), (.goto (-71), 3, [32], [])]
theorem lb_X1_narrowRanges : B_X1_narrowRanges.all (fun b => lst y_X1_narrowRanges.2.1 1 y_X1_narrowRanges.2.2.1 false b.1 b.2) = true := by decide +kernel
theorem ls_X1_narrowRanges_0 : lst y_X1_narrowRanges.2.1 1 y_X1_narrowRanges.2.2.1 false 0 S_X1_narrowRanges_0 = true := by decide +kernel
theorem ls_X1_narrowRanges_7 : lst y_X1_narrowRanges.2.1 1 y_X1_narrowRanges.2.2.1 false 7 S_X1_narrowRanges_7 = true := by decide +kernel
theorem ls_X1_narrowRanges_32 : lst y_X1_narrowRanges.2.1 1 y_X1_narrowRanges.2.2.1 false 32 S_X1_narrowRanges_32 = true := by decide +kernel
def C_X1_narrowRanges (N : Nat) : Nat → List Value → mH → (Option Value → mH → Option (mH)) → Option (mH) := fun j as g k => none
theorem co_X1_narrowRanges (N : Nat) (q : mH) : clOK 4 q (C_X1_narrowRanges N) := by
  intro j as g k e
  cases e
set_option maxRecDepth 100000 in
theorem t_X1_narrowRanges_32 {X : Nat × (Nat → Int32)} (N : Nat) {q : mH} : ∀ (n : Nat) (a0 : Nat) (x1 : Int32) (x2 : Int32) (h : mH), L_X1_narrowRanges_32 N n a0 x1 x2 h = some q → MW X y_X1_narrowRanges 4 32 [(0, .ref a0), (1, .int x1), (2, .int x2)] [] h none q := by
  intro n
  induction n with
  | zero => intro a0 x1 x2 h hf; cases hf
  | succ n ih =>
    intro a0 x1 x2 h hf
    refine ev_ok (o := 1) (ini := false) (Cl := C_X1_narrowRanges N) (Rc := RcV) (B := B_X1_narrowRanges) (K := fun pc ls st g => kb pc 32 (lgr 0 ls fun a0 => lgi 1 ls fun x1 => lgi 2 ls fun x2 => pe st (L_X1_narrowRanges_32 N n a0 x1 x2 g)) (none)) rfl (fun e => by cases e) (by decide) (rcV_ok rfl) ?_ (co_X1_narrowRanges N q) lb_X1_narrowRanges 3000 32 S_X1_narrowRanges_32 _ _ h ls_X1_narrowRanges_32 hf
    intro pc ls st g e
    rcases kb_s e with ⟨rfl, e⟩ | e
    · obtain ⟨a0, e0, f0⟩ := lgr_s e
      obtain ⟨x1, e1, f1⟩ := lgi_s f0
      obtain ⟨x2, e2, f2⟩ := lgi_s f1
      obtain ⟨qe, fe⟩ := pe_s f2
      subst qe
      exact MW.sub (List.forall_mem_cons.mpr ⟨lg_mem e0, List.forall_mem_cons.mpr ⟨lg_mem e1, List.forall_mem_cons.mpr ⟨lg_mem e2, fun _ h => absurd h List.not_mem_nil⟩⟩⟩) (ih a0 x1 x2 g fe)
    cases e
set_option maxRecDepth 100000 in
theorem t_X1_narrowRanges_7 {X : Nat × (Nat → Int32)} (N : Nat) {q : mH} : ∀ (n : Nat) (a0 : Nat) (x1 : Int32) (x2 : Int32) (h : mH), L_X1_narrowRanges_7 N n a0 x1 x2 h = some q → MW X y_X1_narrowRanges 4 7 [(0, .ref a0), (1, .int x1), (2, .int x2)] [] h none q := by
  intro n
  induction n with
  | zero => intro a0 x1 x2 h hf; cases hf
  | succ n ih =>
    intro a0 x1 x2 h hf
    refine ev_ok (o := 1) (ini := false) (Cl := C_X1_narrowRanges N) (Rc := RcV) (B := B_X1_narrowRanges) (K := fun pc ls st g => kb pc 7 (lgr 0 ls fun a0 => lgi 1 ls fun x1 => lgi 2 ls fun x2 => pe st (L_X1_narrowRanges_7 N n a0 x1 x2 g)) (kb pc 32 (lgr 0 ls fun a0 => lgi 1 ls fun x1 => lgi 2 ls fun x2 => pe st (L_X1_narrowRanges_32 N N a0 x1 x2 g)) (none))) rfl (fun e => by cases e) (by decide) (rcV_ok rfl) ?_ (co_X1_narrowRanges N q) lb_X1_narrowRanges 3000 7 S_X1_narrowRanges_7 _ _ h ls_X1_narrowRanges_7 hf
    intro pc ls st g e
    rcases kb_s e with ⟨rfl, e⟩ | e
    · obtain ⟨a0, e0, f0⟩ := lgr_s e
      obtain ⟨x1, e1, f1⟩ := lgi_s f0
      obtain ⟨x2, e2, f2⟩ := lgi_s f1
      obtain ⟨qe, fe⟩ := pe_s f2
      subst qe
      exact MW.sub (List.forall_mem_cons.mpr ⟨lg_mem e0, List.forall_mem_cons.mpr ⟨lg_mem e1, List.forall_mem_cons.mpr ⟨lg_mem e2, fun _ h => absurd h List.not_mem_nil⟩⟩⟩) (ih a0 x1 x2 g fe)
    rcases kb_s e with ⟨rfl, e⟩ | e
    · obtain ⟨a0, e0, f0⟩ := lgr_s e
      obtain ⟨x1, e1, f1⟩ := lgi_s f0
      obtain ⟨x2, e2, f2⟩ := lgi_s f1
      obtain ⟨qe, fe⟩ := pe_s f2
      subst qe
      exact MW.sub (List.forall_mem_cons.mpr ⟨lg_mem e0, List.forall_mem_cons.mpr ⟨lg_mem e1, List.forall_mem_cons.mpr ⟨lg_mem e2, fun _ h => absurd h List.not_mem_nil⟩⟩⟩) (t_X1_narrowRanges_32 N N a0 x1 x2 g fe)
    cases e
set_option maxRecDepth 100000 in
theorem m_X1_narrowRanges (N : Nat) {a0 : Nat} {h : mH} {q : mH} (hf : f_X1_narrowRanges N a0 h = some q) : MM y_X1_narrowRanges 4 [.ref a0] h none q := by
  refine MM.of (mFx (j := 46) rfl).2.2.2.1 (Nat.le_of_ble_eq_true rfl) (fun X => ?_)
  refine ev_ok (o := 1) (ini := false) (Cl := C_X1_narrowRanges N) (Rc := RcV) (B := B_X1_narrowRanges) (K := fun pc ls st g => kb pc 7 (lgr 0 ls fun a0 => lgi 1 ls fun x1 => lgi 2 ls fun x2 => pe st (L_X1_narrowRanges_7 N N a0 x1 x2 g)) (none)) rfl (fun e => by cases e) (by decide) (rcV_ok rfl) ?_ (co_X1_narrowRanges N q) lb_X1_narrowRanges 3000 0 S_X1_narrowRanges_0 _ _ h ls_X1_narrowRanges_0 hf
  intro pc ls st g e
  rcases kb_s e with ⟨rfl, e⟩ | e
  · obtain ⟨a0, e0, f0⟩ := lgr_s e
    obtain ⟨x1, e1, f1⟩ := lgi_s f0
    obtain ⟨x2, e2, f2⟩ := lgi_s f1
    obtain ⟨qe, fe⟩ := pe_s f2
    subst qe
    exact MW.sub (List.forall_mem_cons.mpr ⟨lg_mem e0, List.forall_mem_cons.mpr ⟨lg_mem e1, List.forall_mem_cons.mpr ⟨lg_mem e2, fun _ h => absurd h List.not_mem_nil⟩⟩⟩) (t_X1_narrowRanges_7 N N a0 x1 x2 g fe)
  cases e
def f_X1_rowsOf (N : Nat) (a0 : Nat) (x1 : Int32) (h : mH) : Option (Int32 × mH) :=
  if x1 < 0 then
    some (jI 0, h)
  else
    (gI h 1 a0 0).bind fun v1 =>
    if x1 < v1 then
      (gR h 1 a0 7).bind fun v2 =>
      (ldI 0 h v2 x1).bind fun v3 =>
      (gR h 1 a0 6).bind fun v4 =>
      (ldI 0 h v4 x1).bind fun v5 =>
      some (iMax (jI 0) (iAdd (iSub v3 v5) (jI 1)), h)
    else
      some (jI 0, h)
def y_X1_rowsOf : mM := (yX1_rowsOf, cX1_rowsOf, 2, (some .int))
def B_X1_rowsOf : List (Nat × List mI) := [(12, [(.iconst 0, 1, [], [0]), (.goto 22, 3, [35], [])]), (16, [(.iconst 0, 1, [], [0]), (.aload_n 0, 1, [0], []), (.getfield 23, 3, [1, 7, 2, 97], []), (.iload_n 1, 1, [1], []), (.iaload, 1, [0], []), (.aload_n 0, 1, [0], []), (.getfield 20, 3, [1, 6, 2, 96], []), (.iload_n 1, 1, [1], []), (.iaload, 1, [0], []), (.isub, 1, [], []), (.iconst 1, 1, [], [1]), (.iadd, 1, [], []), (.invokestatic 133, 3, [6, 0, 0, 0, 30], [])]), (35, [(.ireturn, 1, [], [])])]
def S_X1_rowsOf_0 : List mI := [(.iload_n 1, 1, [1], []), (.ifCond .lt 11, 3, [12], []), (.iload_n 1, 1, [1], []), (.aload_n 0, 1, [0], []), (.getfield 71, 3, [1, 0, 0, 90], []), (.if_icmp .lt 7, 3, [16], [])]
theorem lb_X1_rowsOf : B_X1_rowsOf.all (fun b => lst y_X1_rowsOf.2.1 1 y_X1_rowsOf.2.2.1 false b.1 b.2) = true := by decide +kernel
theorem ls_X1_rowsOf_0 : lst y_X1_rowsOf.2.1 1 y_X1_rowsOf.2.2.1 false 0 S_X1_rowsOf_0 = true := by decide +kernel
def C_X1_rowsOf (N : Nat) : Nat → List Value → mH → (Option Value → mH → Option (Int32 × mH)) → Option (Int32 × mH) := fun j as g k => none
theorem co_X1_rowsOf (N : Nat) (q : Int32 × mH) : clOK 4 q (C_X1_rowsOf N) := by
  intro j as g k e
  cases e
set_option maxRecDepth 100000 in
theorem m_X1_rowsOf (N : Nat) {a0 : Nat} {x1 : Int32} {h : mH} {q : Int32 × mH} (hf : f_X1_rowsOf N a0 x1 h = some q) : MM y_X1_rowsOf 4 [.ref a0, .int x1] h (some (.int q.1)) q.2 := by
  refine MM.of (mFx (j := 48) rfl).2.2.2.1 (Nat.le_of_ble_eq_true rfl) (fun X => ?_)
  refine ev_ok (o := 1) (ini := false) (Cl := C_X1_rowsOf N) (Rc := RcI) (B := B_X1_rowsOf) (K := fun pc ls st g => none) rfl (fun e => by cases e) (by decide) (rcI_ok rfl) ?_ (co_X1_rowsOf N q) lb_X1_rowsOf 3000 0 S_X1_rowsOf_0 _ _ h ls_X1_rowsOf_0 hf
  intro pc ls st g e
  cases e
def L_X1_makeRoom_4 (N : Nat) : Nat → Nat → Int32 → Int32 → mH → Option (mH)
  | 0, _, _, _, _ => none
  | n + 1, a0, x1, x2, h =>
    (gI h 1 a0 0).bind fun v1 =>
    if x2 < v1 then
      (rcv h 1 a0).bind fun _ =>
      (f_X1_rowsOf N a0 x2 h).bind fun p2 =>
      let w3 := iMax x1 p2.1
      let w4 := iAdd x2 (jI 1)
      L_X1_makeRoom_4 N n a0 w3 w4 p2.2
    else
      (gR h 1 a0 14).bind fun v5 =>
      (lnA h v5).bind fun v6 =>
      if v6 < (iMul x1 (jI 20)) then
        (gR h 1 a0 14).bind fun v7 =>
        (lnA h v7).bind fun v8 =>
        let w9 := iMin (jI 77580) (iMax (iMul x1 (jI 20)) (iMul (jI 2) v8))
        (nwA h 1 w9).bind fun h10 =>
        (pV h10 1 a0 14 (.ref h.1)).bind fun h11 =>
        (nwA h11 1 w9).bind fun h12 =>
        (pV h12 1 a0 15 (.ref h11.1)).bind fun h13 =>
        some h13
      else
        some h
def f_X1_makeRoom (N : Nat) (a0 : Nat) (h : mH) : Option (mH) :=
  L_X1_makeRoom_4 N N a0 (jI 1) (jI 0) h
def y_X1_makeRoom : mM := (yX1_makeRoom, cX1_makeRoom, 3, none)
def B_X1_makeRoom : List (Nat × List mI) := [(28, [(.aload_n 0, 1, [0], []), (.getfield 44, 3, [1, 14, 2, 104], []), (.arraylength, 1, [0], []), (.iload_n 1, 1, [1], []), (.bipush 20, 2, [], [20]), (.imul, 1, [], []), (.if_icmp .ge 37, 3, [74], []), (.ldc 150, 2, [0, 7], [77580]), (.iload_n 1, 1, [1], []), (.bipush 20, 2, [], [20]), (.imul, 1, [], []), (.iconst 2, 1, [], [2]), (.aload_n 0, 1, [0], []), (.getfield 44, 3, [1, 14, 2, 104], []), (.arraylength, 1, [0], []), (.imul, 1, [], []), (.invokestatic 133, 3, [6, 0, 0, 0, 30], []), (.invokestatic 65, 3, [7, 0, 0, 0, 29], []), (.istore_n 2, 1, [2], []), (.aload_n 0, 1, [0], []), (.iload_n 2, 1, [2], []), (.newarray .long, 2, [1], []), (.putfield 44, 3, [1, 14, 2, 104], []), (.aload_n 0, 1, [0], []), (.iload_n 2, 1, [2], []), (.newarray .long, 2, [1], []), (.putfield 48, 3, [1, 15, 2, 105], [])]), (74, [(.return_, 1, [], [])])]
def S_X1_makeRoom_0 : List mI := [(.iconst 1, 1, [], [1]), (.istore_n 1, 1, [1], []), (.iconst 0, 1, [], [0]), (.istore_n 2, 1, [2], [])]
def S_X1_makeRoom_4 : List mI := [(.iload_n 2, 1, [2], []), (.aload_n 0, 1, [0], []), (.getfield 71, 3, [1, 0, 0, 90], []), (.if_icmp .ge 19, 3, [28], []), (.iload_n 1, 1, [1], []), (.aload_n 0, 1, [0], []), (.iload_n 2, 1, [2], []), (.invokevirtual 123, 3, [0, 48, 1, 1, 216], []), (.invokestatic 133, 3, [6, 0, 0, 0, 30], []), (.istore_n 1, 1, [1], []), (.iinc 2 1, 3, [2], [1]), (.goto (-21), 3, [4], [])]
theorem lb_X1_makeRoom : B_X1_makeRoom.all (fun b => lst y_X1_makeRoom.2.1 1 y_X1_makeRoom.2.2.1 false b.1 b.2) = true := by decide +kernel
theorem ls_X1_makeRoom_0 : lst y_X1_makeRoom.2.1 1 y_X1_makeRoom.2.2.1 false 0 S_X1_makeRoom_0 = true := by decide +kernel
theorem ls_X1_makeRoom_4 : lst y_X1_makeRoom.2.1 1 y_X1_makeRoom.2.2.1 false 4 S_X1_makeRoom_4 = true := by decide +kernel
def C_X1_makeRoom (N : Nat) : Nat → List Value → mH → (Option Value → mH → Option (mH)) → Option (mH) := fun j as g k => kb j 48 (pr1 as fun b0 as => pp1 as fun b1 as => pe as ((f_X1_rowsOf N b0 b1 g).bind fun p => k (some (.int p.1)) p.2)) (none)
theorem co_X1_makeRoom (N : Nat) (q : mH) : clOK 5 q (C_X1_makeRoom N) := by
  intro j as g k e
  rcases kb_s e with ⟨rfl, e⟩ | e
  · obtain ⟨b0, r0, q0, f0⟩ := pr1_s e
    obtain ⟨b1, r1, q1, f1⟩ := pp1_s f0
    obtain ⟨qe, fe⟩ := pe_s f1
    obtain ⟨p, e1, e2⟩ := bnd_s fe
    subst qe
    subst q1
    subst q0
    exact ⟨_, _, _, _, 4, rfl, (by decide), m_X1_rowsOf N e1, e2⟩
  cases e
set_option maxRecDepth 100000 in
theorem t_X1_makeRoom_4 {X : Nat × (Nat → Int32)} (N : Nat) {q : mH} : ∀ (n : Nat) (a0 : Nat) (x1 : Int32) (x2 : Int32) (h : mH), L_X1_makeRoom_4 N n a0 x1 x2 h = some q → MW X y_X1_makeRoom 5 4 [(0, .ref a0), (1, .int x1), (2, .int x2)] [] h none q := by
  intro n
  induction n with
  | zero => intro a0 x1 x2 h hf; cases hf
  | succ n ih =>
    intro a0 x1 x2 h hf
    refine ev_ok (o := 1) (ini := false) (Cl := C_X1_makeRoom N) (Rc := RcV) (B := B_X1_makeRoom) (K := fun pc ls st g => kb pc 4 (lgr 0 ls fun a0 => lgi 1 ls fun x1 => lgi 2 ls fun x2 => pe st (L_X1_makeRoom_4 N n a0 x1 x2 g)) (none)) rfl (fun e => by cases e) (by decide) (rcV_ok rfl) ?_ (co_X1_makeRoom N q) lb_X1_makeRoom 3000 4 S_X1_makeRoom_4 _ _ h ls_X1_makeRoom_4 hf
    intro pc ls st g e
    rcases kb_s e with ⟨rfl, e⟩ | e
    · obtain ⟨a0, e0, f0⟩ := lgr_s e
      obtain ⟨x1, e1, f1⟩ := lgi_s f0
      obtain ⟨x2, e2, f2⟩ := lgi_s f1
      obtain ⟨qe, fe⟩ := pe_s f2
      subst qe
      exact MW.sub (List.forall_mem_cons.mpr ⟨lg_mem e0, List.forall_mem_cons.mpr ⟨lg_mem e1, List.forall_mem_cons.mpr ⟨lg_mem e2, fun _ h => absurd h List.not_mem_nil⟩⟩⟩) (ih a0 x1 x2 g fe)
    cases e
set_option maxRecDepth 100000 in
theorem m_X1_makeRoom (N : Nat) {a0 : Nat} {h : mH} {q : mH} (hf : f_X1_makeRoom N a0 h = some q) : MM y_X1_makeRoom 5 [.ref a0] h none q := by
  refine MM.of (mFx (j := 47) rfl).2.2.2.1 (Nat.le_of_ble_eq_true rfl) (fun X => ?_)
  refine ev_ok (o := 1) (ini := false) (Cl := C_X1_makeRoom N) (Rc := RcV) (B := B_X1_makeRoom) (K := fun pc ls st g => kb pc 4 (lgr 0 ls fun a0 => lgi 1 ls fun x1 => lgi 2 ls fun x2 => pe st (L_X1_makeRoom_4 N N a0 x1 x2 g)) (none)) rfl (fun e => by cases e) (by decide) (rcV_ok rfl) ?_ (co_X1_makeRoom N q) lb_X1_makeRoom 3000 0 S_X1_makeRoom_0 _ _ h ls_X1_makeRoom_0 hf
  intro pc ls st g e
  rcases kb_s e with ⟨rfl, e⟩ | e
  · obtain ⟨a0, e0, f0⟩ := lgr_s e
    obtain ⟨x1, e1, f1⟩ := lgi_s f0
    obtain ⟨x2, e2, f2⟩ := lgi_s f1
    obtain ⟨qe, fe⟩ := pe_s f2
    subst qe
    exact MW.sub (List.forall_mem_cons.mpr ⟨lg_mem e0, List.forall_mem_cons.mpr ⟨lg_mem e1, List.forall_mem_cons.mpr ⟨lg_mem e2, fun _ h => absurd h List.not_mem_nil⟩⟩⟩) (t_X1_makeRoom_4 N N a0 x1 x2 g fe)
  cases e
def f_J7_rangeCheck_23922 (N : Nat) (x0 : Int32) (x1 : Int32) (x2 : Int32) (h : mH) : Option (mH) :=
  if x2 < x1 then
    none
  else
    if x1 < 0 then
      none
    else
      if x0 < x2 then
        none
      else
        some h
def y_J7_rangeCheck_23922 : mM := (yJ7_rangeCheck_23922, cJ7_rangeCheck_23922, 3, none)
def B_J7_rangeCheck_23922 : List (Nat × List mI) := [(46, [(.iload_n 1, 1, [1], []), (.ifCond .ge 12, 3, [59], [])]), (59, [(.iload_n 2, 1, [2], []), (.iload_n 0, 1, [0], []), (.if_icmp .le 12, 3, [73], [])]), (73, [(.return_, 1, [], [])])]
def S_J7_rangeCheck_23922_0 : List mI := [(.iload_n 1, 1, [1], []), (.iload_n 2, 1, [2], []), (.if_icmp .le 44, 3, [46], [])]
theorem lb_J7_rangeCheck_23922 : B_J7_rangeCheck_23922.all (fun b => lst y_J7_rangeCheck_23922.2.1 16 y_J7_rangeCheck_23922.2.2.1 false b.1 b.2) = true := by decide +kernel
theorem ls_J7_rangeCheck_23922_0 : lst y_J7_rangeCheck_23922.2.1 16 y_J7_rangeCheck_23922.2.2.1 false 0 S_J7_rangeCheck_23922_0 = true := by decide +kernel
def C_J7_rangeCheck_23922 (N : Nat) : Nat → List Value → mH → (Option Value → mH → Option (mH)) → Option (mH) := fun j as g k => none
theorem co_J7_rangeCheck_23922 (N : Nat) (q : mH) : clOK 4 q (C_J7_rangeCheck_23922 N) := by
  intro j as g k e
  cases e
set_option maxRecDepth 100000 in
theorem m_J7_rangeCheck_23922 (N : Nat) {x0 : Int32} {x1 : Int32} {x2 : Int32} {h : mH} {q : mH} (hf : f_J7_rangeCheck_23922 N x0 x1 x2 h = some q) : MM y_J7_rangeCheck_23922 4 [.int x0, .int x1, .int x2] h none q := by
  refine MM.of (mFx (j := 347) rfl).2.2.2.1 (Nat.le_of_ble_eq_true rfl) (fun X => ?_)
  refine ev_ok (o := 16) (ini := false) (Cl := C_J7_rangeCheck_23922 N) (Rc := RcV) (B := B_J7_rangeCheck_23922) (K := fun pc ls st g => none) rfl (fun e => by cases e) (by decide) (rcV_ok rfl) ?_ (co_J7_rangeCheck_23922 N q) lb_J7_rangeCheck_23922 3000 0 S_J7_rangeCheck_23922_0 _ _ h ls_J7_rangeCheck_23922_0 hf
  intro pc ls st g e
  cases e
def L_J7_fill_bad5a_10 (N : Nat) : Nat → Nat → Int32 → Int64 → Int32 → mH → Option (mH)
  | 0, _, _, _, _, _ => none
  | n + 1, a0, x2, l3, x5, h =>
    if x5 < x2 then
      (stL h a0 x5 l3).bind fun h1 =>
      let w2 := iAdd x5 (jI 1)
      L_J7_fill_bad5a_10 N n a0 x2 l3 w2 h1
    else
      some h
def f_J7_fill_bad5a (N : Nat) (a0 : Nat) (x1 : Int32) (x2 : Int32) (l3 : Int64) (h : mH) : Option (mH) :=
  (lnA h a0).bind fun v1 =>
  (f_J7_rangeCheck_23922 N v1 x1 x2 h).bind fun h2 =>
  L_J7_fill_bad5a_10 N N a0 x2 l3 x1 h2
def y_J7_fill_bad5a : mM := (yJ7_fill_bad5a, cJ7_fill_bad5a, 6, none)
def B_J7_fill_bad5a : List (Nat × List mI) := [(27, [(.return_, 1, [], [])])]
def S_J7_fill_bad5a_0 : List mI := [(.aload_n 0, 1, [0], []), (.arraylength, 1, [0], []), (.iload_n 1, 1, [1], []), (.iload_n 2, 1, [2], []), (.invokestatic 13, 3, [1, 347, 3, 0, 219], []), (.iload_n 1, 1, [1], []), (.istore 5, 2, [5], [])]
def S_J7_fill_bad5a_10 : List mI := [(.iload 5, 2, [5], []), (.iload_n 2, 1, [2], []), (.if_icmp .ge 14, 3, [27], []), (.aload_n 0, 1, [0], []), (.iload 5, 2, [5], []), (.lload_n 3, 1, [3], []), (.lastore, 1, [], []), (.iinc 5 1, 3, [5], [1]), (.goto (-14), 3, [10], [])]
theorem lb_J7_fill_bad5a : B_J7_fill_bad5a.all (fun b => lst y_J7_fill_bad5a.2.1 16 y_J7_fill_bad5a.2.2.1 false b.1 b.2) = true := by decide +kernel
theorem ls_J7_fill_bad5a_0 : lst y_J7_fill_bad5a.2.1 16 y_J7_fill_bad5a.2.2.1 false 0 S_J7_fill_bad5a_0 = true := by decide +kernel
theorem ls_J7_fill_bad5a_10 : lst y_J7_fill_bad5a.2.1 16 y_J7_fill_bad5a.2.2.1 false 10 S_J7_fill_bad5a_10 = true := by decide +kernel
def C_J7_fill_bad5a (N : Nat) : Nat → List Value → mH → (Option Value → mH → Option (mH)) → Option (mH) := fun j as g k => kb j 347 (pp1 as fun b0 as => pp1 as fun b1 as => pp1 as fun b2 as => pe as ((f_J7_rangeCheck_23922 N b0 b1 b2 g).bind fun p => k none p)) (none)
theorem co_J7_fill_bad5a (N : Nat) (q : mH) : clOK 5 q (C_J7_fill_bad5a N) := by
  intro j as g k e
  rcases kb_s e with ⟨rfl, e⟩ | e
  · obtain ⟨b0, r0, q0, f0⟩ := pp1_s e
    obtain ⟨b1, r1, q1, f1⟩ := pp1_s f0
    obtain ⟨b2, r2, q2, f2⟩ := pp1_s f1
    obtain ⟨qe, fe⟩ := pe_s f2
    obtain ⟨p, e1, e2⟩ := bnd_s fe
    subst qe
    subst q2
    subst q1
    subst q0
    exact ⟨_, _, _, _, 4, rfl, (by decide), m_J7_rangeCheck_23922 N e1, e2⟩
  cases e
set_option maxRecDepth 100000 in
theorem t_J7_fill_bad5a_10 {X : Nat × (Nat → Int32)} (N : Nat) {q : mH} : ∀ (n : Nat) (a0 : Nat) (x2 : Int32) (l3 : Int64) (x5 : Int32) (h : mH), L_J7_fill_bad5a_10 N n a0 x2 l3 x5 h = some q → MW X y_J7_fill_bad5a 5 10 [(0, .ref a0), (2, .int x2), (3, .long l3), (5, .int x5)] [] h none q := by
  intro n
  induction n with
  | zero => intro a0 x2 l3 x5 h hf; cases hf
  | succ n ih =>
    intro a0 x2 l3 x5 h hf
    refine ev_ok (o := 16) (ini := false) (Cl := C_J7_fill_bad5a N) (Rc := RcV) (B := B_J7_fill_bad5a) (K := fun pc ls st g => kb pc 10 (lgr 0 ls fun a0 => lgi 2 ls fun x2 => lgl_ 3 ls fun l3 => lgi 5 ls fun x5 => pe st (L_J7_fill_bad5a_10 N n a0 x2 l3 x5 g)) (none)) rfl (fun e => by cases e) (by decide) (rcV_ok rfl) ?_ (co_J7_fill_bad5a N q) lb_J7_fill_bad5a 3000 10 S_J7_fill_bad5a_10 _ _ h ls_J7_fill_bad5a_10 hf
    intro pc ls st g e
    rcases kb_s e with ⟨rfl, e⟩ | e
    · obtain ⟨a0, e0, f0⟩ := lgr_s e
      obtain ⟨x2, e1, f1⟩ := lgi_s f0
      obtain ⟨l3, e2, f2⟩ := lgl_s f1
      obtain ⟨x5, e3, f3⟩ := lgi_s f2
      obtain ⟨qe, fe⟩ := pe_s f3
      subst qe
      exact MW.sub (List.forall_mem_cons.mpr ⟨lg_mem e0, List.forall_mem_cons.mpr ⟨lg_mem e1, List.forall_mem_cons.mpr ⟨lg_mem e2, List.forall_mem_cons.mpr ⟨lg_mem e3, fun _ h => absurd h List.not_mem_nil⟩⟩⟩⟩) (ih a0 x2 l3 x5 g fe)
    cases e
set_option maxRecDepth 100000 in
theorem m_J7_fill_bad5a (N : Nat) {a0 : Nat} {x1 : Int32} {x2 : Int32} {l3 : Int64} {h : mH} {q : mH} (hf : f_J7_fill_bad5a N a0 x1 x2 l3 h = some q) : MM y_J7_fill_bad5a 5 [.ref a0, .int x1, .int x2, .long l3] h none q := by
  refine MM.of (mFx (j := 349) rfl).2.2.2.1 (Nat.le_of_ble_eq_true rfl) (fun X => ?_)
  refine ev_ok (o := 16) (ini := false) (Cl := C_J7_fill_bad5a N) (Rc := RcV) (B := B_J7_fill_bad5a) (K := fun pc ls st g => kb pc 10 (lgr 0 ls fun a0 => lgi 2 ls fun x2 => lgl_ 3 ls fun l3 => lgi 5 ls fun x5 => pe st (L_J7_fill_bad5a_10 N N a0 x2 l3 x5 g)) (none)) rfl (fun e => by cases e) (by decide) (rcV_ok rfl) ?_ (co_J7_fill_bad5a N q) lb_J7_fill_bad5a 3000 0 S_J7_fill_bad5a_0 _ _ h ls_J7_fill_bad5a_0 hf
  intro pc ls st g e
  rcases kb_s e with ⟨rfl, e⟩ | e
  · obtain ⟨a0, e0, f0⟩ := lgr_s e
    obtain ⟨x2, e1, f1⟩ := lgi_s f0
    obtain ⟨l3, e2, f2⟩ := lgl_s f1
    obtain ⟨x5, e3, f3⟩ := lgi_s f2
    obtain ⟨qe, fe⟩ := pe_s f3
    subst qe
    exact MW.sub (List.forall_mem_cons.mpr ⟨lg_mem e0, List.forall_mem_cons.mpr ⟨lg_mem e1, List.forall_mem_cons.mpr ⟨lg_mem e2, List.forall_mem_cons.mpr ⟨lg_mem e3, fun _ h => absurd h List.not_mem_nil⟩⟩⟩⟩) (t_J7_fill_bad5a_10 N N a0 x2 l3 x5 g fe)
  cases e
def f_X1_emptyNext (N : Nat) (a0 : Nat) (x1 : Int32) (h : mH) : Option (mH) :=
  (gR h 1 a0 15).bind fun v1 =>
  (gR h 1 a0 15).bind fun v2 =>
  (lnA h v2).bind fun v3 =>
  (rcv h 1 a0).bind fun _ =>
  (f_X1_rowsOf N a0 x1 h).bind fun p4 =>
  (f_J7_fill_bad5a N v1 (jI 0) (iMin v3 (iMul (jI 20) p4.1)) (jL 9223372036854775807) p4.2).bind fun h5 =>
  some h5
def y_X1_emptyNext : mM := (yX1_emptyNext, cX1_emptyNext, 2, none)
def B_X1_emptyNext : List (Nat × List mI) := []
def S_X1_emptyNext_0 : List mI := [(.aload_n 0, 1, [0], []), (.getfield 48, 3, [1, 15, 2, 105], []), (.iconst 0, 1, [], [0]), (.aload_n 0, 1, [0], []), (.getfield 48, 3, [1, 15, 2, 105], []), (.arraylength, 1, [0], []), (.bipush 20, 2, [], [20]), (.aload_n 0, 1, [0], []), (.iload_n 1, 1, [1], []), (.invokevirtual 123, 3, [0, 48, 1, 1, 216], []), (.imul, 1, [], []), (.invokestatic 65, 3, [7, 0, 0, 0, 29], []), (.ldc2_w 121, 3, [3], [9223372036854775807]), (.invokestatic 151, 3, [1, 349, 4, 0, 218], []), (.return_, 1, [], [])]
theorem lb_X1_emptyNext : B_X1_emptyNext.all (fun b => lst y_X1_emptyNext.2.1 1 y_X1_emptyNext.2.2.1 false b.1 b.2) = true := by decide +kernel
theorem ls_X1_emptyNext_0 : lst y_X1_emptyNext.2.1 1 y_X1_emptyNext.2.2.1 false 0 S_X1_emptyNext_0 = true := by decide +kernel
def C_X1_emptyNext (N : Nat) : Nat → List Value → mH → (Option Value → mH → Option (mH)) → Option (mH) := fun j as g k => kb j 48 (pr1 as fun b0 as => pp1 as fun b1 as => pe as ((f_X1_rowsOf N b0 b1 g).bind fun p => k (some (.int p.1)) p.2)) (kb j 349 (pr1 as fun b0 as => pp1 as fun b1 as => pp1 as fun b2 as => pl1 as fun b3 as => pe as ((f_J7_fill_bad5a N b0 b1 b2 b3 g).bind fun p => k none p)) (none))
theorem co_X1_emptyNext (N : Nat) (q : mH) : clOK 6 q (C_X1_emptyNext N) := by
  intro j as g k e
  rcases kb_s e with ⟨rfl, e⟩ | e
  · obtain ⟨b0, r0, q0, f0⟩ := pr1_s e
    obtain ⟨b1, r1, q1, f1⟩ := pp1_s f0
    obtain ⟨qe, fe⟩ := pe_s f1
    obtain ⟨p, e1, e2⟩ := bnd_s fe
    subst qe
    subst q1
    subst q0
    exact ⟨_, _, _, _, 4, rfl, (by decide), m_X1_rowsOf N e1, e2⟩
  rcases kb_s e with ⟨rfl, e⟩ | e
  · obtain ⟨b0, r0, q0, f0⟩ := pr1_s e
    obtain ⟨b1, r1, q1, f1⟩ := pp1_s f0
    obtain ⟨b2, r2, q2, f2⟩ := pp1_s f1
    obtain ⟨b3, r3, q3, f3⟩ := pl1_s f2
    obtain ⟨qe, fe⟩ := pe_s f3
    obtain ⟨p, e1, e2⟩ := bnd_s fe
    subst qe
    subst q3
    subst q2
    subst q1
    subst q0
    exact ⟨_, _, _, _, 5, rfl, (by decide), m_J7_fill_bad5a N e1, e2⟩
  cases e
set_option maxRecDepth 100000 in
theorem m_X1_emptyNext (N : Nat) {a0 : Nat} {x1 : Int32} {h : mH} {q : mH} (hf : f_X1_emptyNext N a0 x1 h = some q) : MM y_X1_emptyNext 6 [.ref a0, .int x1] h none q := by
  refine MM.of (mFx (j := 50) rfl).2.2.2.1 (Nat.le_of_ble_eq_true rfl) (fun X => ?_)
  refine ev_ok (o := 1) (ini := false) (Cl := C_X1_emptyNext N) (Rc := RcV) (B := B_X1_emptyNext) (K := fun pc ls st g => none) rfl (fun e => by cases e) (by decide) (rcV_ok rfl) ?_ (co_X1_emptyNext N q) lb_X1_emptyNext 3000 0 S_X1_emptyNext_0 _ _ h ls_X1_emptyNext_0 hf
  intro pc ls st g e
  cases e
def f_X1_goTo (N : Nat) (a0 : Nat) (x1 : Int32) (x2 : Int32) (x3 : Int32) (l4 : Int64) (h : mH) : Option (mH) :=
  (gR h 1 a0 6).bind fun v1 =>
  (ldI 0 h v1 x1).bind fun v2 =>
  let w3 := iMul (iSub x2 v2) (jI 20)
  (gR h 1 a0 6).bind fun v4 =>
  (ldI 0 h v4 x1).bind fun v5 =>
  if x2 < v5 then
    some h
  else
    (gR h 1 a0 7).bind fun v6 =>
    (ldI 0 h v6 x1).bind fun v7 =>
    if v7 < x2 then
      some h
    else
      (gR h 1 a0 15).bind fun v8 =>
      (lnA h v8).bind fun v9 =>
      if (iAdd w3 (jI 19)) < v9 then
        (gR h 1 a0 5).bind fun v10 =>
        (ldI 0 h v10 x1).bind fun v11 =>
        let w12 := (iAbs (iSub x2 v11)).toInt64
        (f_X1_leanShift N x1 h).bind fun p13 =>
        let w14 := lAdd (lAdd l4 (lShl w12 (jI 40))) (lShl x3.toInt64 p13.1)
        (gR p13.2 1 a0 9).bind fun v15 =>
        (ldI 0 p13.2 v15 x1).bind fun v16 =>
        (gI p13.2 1 a0 3).bind fun v17 =>
        if v17.toInt64 < (lAdd (lUsr w14 (jI 40)) v16.toInt64) then
          some p13.2
        else
          (gR p13.2 1 a0 15).bind fun v18 =>
          (gR p13.2 1 a0 15).bind fun v19 =>
          (ldL p13.2 v19 (iAdd w3 x3)).bind fun v20 =>
          (stL p13.2 v18 (iAdd w3 x3) (lMin v20 w14)).bind fun h21 =>
          (gR h21 1 a0 15).bind fun v22 =>
          (gR h21 1 a0 15).bind fun v23 =>
          (ldL h21 v23 (iAdd w3 (jI 19))).bind fun v24 =>
          (stL h21 v22 (iAdd w3 (jI 19)) (lMin v24 w14)).bind fun h25 =>
          some h25
      else
        some h
def y_X1_goTo : mM := (yX1_goTo, cX1_goTo, 11, none)
def B_X1_goTo : List (Nat × List mI) := [(46, [(.return_, 1, [], [])]), (47, [(.iload_n 2, 1, [2], []), (.aload_n 0, 1, [0], []), (.getfield 17, 3, [1, 5, 2, 95], []), (.iload_n 1, 1, [1], []), (.iaload, 1, [0], []), (.isub, 1, [], []), (.invokestatic 136, 3, [8, 0, 0, 0, 31], []), (.i2l, 1, [], []), (.lstore 7, 2, [7], []), (.lload 4, 2, [4], []), (.lload 7, 2, [7], []), (.bipush 40, 2, [], [40]), (.lshl, 1, [], []), (.ladd, 1, [], []), (.iload_n 3, 1, [3], []), (.i2l, 1, [], []), (.iload_n 1, 1, [1], []), (.invokestatic 55, 3, [1, 40, 1, 0, 221], []), (.lshl, 1, [], []), (.ladd, 1, [], []), (.lstore 9, 2, [9], []), (.lload 9, 2, [9], []), (.bipush 40, 2, [], [40]), (.lushr, 1, [], []), (.aload_n 0, 1, [0], []), (.getfield 29, 3, [1, 9, 2, 99], []), (.iload_n 1, 1, [1], []), (.iaload, 1, [0], []), (.i2l, 1, [], []), (.ladd, 1, [], []), (.aload_n 0, 1, [0], []), (.getfield 94, 3, [1, 3, 0, 93], []), (.i2l, 1, [], []), (.lcmp, 1, [], []), (.ifCond .gt 51, 3, [149], []), (.aload_n 0, 1, [0], []), (.getfield 48, 3, [1, 15, 2, 105], []), (.iload 6, 2, [6], []), (.iload_n 3, 1, [3], []), (.iadd, 1, [], []), (.aload_n 0, 1, [0], []), (.getfield 48, 3, [1, 15, 2, 105], []), (.iload 6, 2, [6], []), (.iload_n 3, 1, [3], []), (.iadd, 1, [], []), (.laload, 1, [], []), (.lload 9, 2, [9], []), (.invokestatic 130, 3, [9, 0, 0, 0, 33], []), (.lastore, 1, [], []), (.aload_n 0, 1, [0], []), (.getfield 48, 3, [1, 15, 2, 105], []), (.iload 6, 2, [6], []), (.bipush 19, 2, [], [19]), (.iadd, 1, [], []), (.aload_n 0, 1, [0], []), (.getfield 48, 3, [1, 15, 2, 105], []), (.iload 6, 2, [6], []), (.bipush 19, 2, [], [19]), (.iadd, 1, [], []), (.laload, 1, [], []), (.lload 9, 2, [9], []), (.invokestatic 130, 3, [9, 0, 0, 0, 33], []), (.lastore, 1, [], [])]), (149, [(.return_, 1, [], [])])]
def S_X1_goTo_0 : List mI := [(.iload_n 2, 1, [2], []), (.aload_n 0, 1, [0], []), (.getfield 20, 3, [1, 6, 2, 96], []), (.iload_n 1, 1, [1], []), (.iaload, 1, [0], []), (.isub, 1, [], []), (.bipush 20, 2, [], [20]), (.imul, 1, [], []), (.istore 6, 2, [6], []), (.iload_n 2, 1, [2], []), (.aload_n 0, 1, [0], []), (.getfield 20, 3, [1, 6, 2, 96], []), (.iload_n 1, 1, [1], []), (.iaload, 1, [0], []), (.if_icmp .lt 26, 3, [46], []), (.iload_n 2, 1, [2], []), (.aload_n 0, 1, [0], []), (.getfield 23, 3, [1, 7, 2, 97], []), (.iload_n 1, 1, [1], []), (.iaload, 1, [0], []), (.if_icmp .gt 16, 3, [46], []), (.iload 6, 2, [6], []), (.bipush 19, 2, [], [19]), (.iadd, 1, [], []), (.aload_n 0, 1, [0], []), (.getfield 48, 3, [1, 15, 2, 105], []), (.arraylength, 1, [0], []), (.if_icmp .lt 4, 3, [47], [])]
theorem lb_X1_goTo : B_X1_goTo.all (fun b => lst y_X1_goTo.2.1 1 y_X1_goTo.2.2.1 false b.1 b.2) = true := by decide +kernel
theorem ls_X1_goTo_0 : lst y_X1_goTo.2.1 1 y_X1_goTo.2.2.1 false 0 S_X1_goTo_0 = true := by decide +kernel
def C_X1_goTo (N : Nat) : Nat → List Value → mH → (Option Value → mH → Option (mH)) → Option (mH) := fun j as g k => kb j 40 (pp1 as fun b0 as => pe as ((f_X1_leanShift N b0 g).bind fun p => k (some (.int p.1)) p.2)) (none)
theorem co_X1_goTo (N : Nat) (q : mH) : clOK 5 q (C_X1_goTo N) := by
  intro j as g k e
  rcases kb_s e with ⟨rfl, e⟩ | e
  · obtain ⟨b0, r0, q0, f0⟩ := pp1_s e
    obtain ⟨qe, fe⟩ := pe_s f0
    obtain ⟨p, e1, e2⟩ := bnd_s fe
    subst qe
    subst q0
    exact ⟨_, _, _, _, 4, rfl, (by decide), m_X1_leanShift N e1, e2⟩
  cases e
set_option maxRecDepth 100000 in
theorem m_X1_goTo (N : Nat) {a0 : Nat} {x1 : Int32} {x2 : Int32} {x3 : Int32} {l4 : Int64} {h : mH} {q : mH} (hf : f_X1_goTo N a0 x1 x2 x3 l4 h = some q) : MM y_X1_goTo 5 [.ref a0, .int x1, .int x2, .int x3, .long l4] h none q := by
  refine MM.of (mFx (j := 55) rfl).2.2.2.1 (Nat.le_of_ble_eq_true rfl) (fun X => ?_)
  refine ev_ok (o := 1) (ini := false) (Cl := C_X1_goTo N) (Rc := RcV) (B := B_X1_goTo) (K := fun pc ls st g => none) rfl (fun e => by cases e) (by decide) (rcV_ok rfl) ?_ (co_X1_goTo N q) lb_X1_goTo 3000 0 S_X1_goTo_0 _ _ h ls_X1_goTo_0 hf
  intro pc ls st g e
  cases e
def f_X1_takeNext (N : Nat) (a0 : Nat) (h : mH) : Option (mH) :=
  (gR h 1 a0 14).bind fun v1 =>
  (gR h 1 a0 15).bind fun v2 =>
  (pV h 1 a0 14 (.ref v2)).bind fun h3 =>
  (pV h3 1 a0 15 (.ref v1)).bind fun h4 =>
  some h4
def y_X1_takeNext : mM := (yX1_takeNext, cX1_takeNext, 2, none)
def B_X1_takeNext : List (Nat × List mI) := []
def S_X1_takeNext_0 : List mI := [(.aload_n 0, 1, [0], []), (.getfield 44, 3, [1, 14, 2, 104], []), (.astore_n 1, 1, [1], []), (.aload_n 0, 1, [0], []), (.aload_n 0, 1, [0], []), (.getfield 48, 3, [1, 15, 2, 105], []), (.putfield 44, 3, [1, 14, 2, 104], []), (.aload_n 0, 1, [0], []), (.aload_n 1, 1, [1], []), (.putfield 48, 3, [1, 15, 2, 105], []), (.return_, 1, [], [])]
theorem lb_X1_takeNext : B_X1_takeNext.all (fun b => lst y_X1_takeNext.2.1 1 y_X1_takeNext.2.2.1 false b.1 b.2) = true := by decide +kernel
theorem ls_X1_takeNext_0 : lst y_X1_takeNext.2.1 1 y_X1_takeNext.2.2.1 false 0 S_X1_takeNext_0 = true := by decide +kernel
def C_X1_takeNext (N : Nat) : Nat → List Value → mH → (Option Value → mH → Option (mH)) → Option (mH) := fun j as g k => none
theorem co_X1_takeNext (N : Nat) (q : mH) : clOK 4 q (C_X1_takeNext N) := by
  intro j as g k e
  cases e
set_option maxRecDepth 100000 in
theorem m_X1_takeNext (N : Nat) {a0 : Nat} {h : mH} {q : mH} (hf : f_X1_takeNext N a0 h = some q) : MM y_X1_takeNext 4 [.ref a0] h none q := by
  refine MM.of (mFx (j := 51) rfl).2.2.2.1 (Nat.le_of_ble_eq_true rfl) (fun X => ?_)
  refine ev_ok (o := 1) (ini := false) (Cl := C_X1_takeNext N) (Rc := RcV) (B := B_X1_takeNext) (K := fun pc ls st g => none) rfl (fun e => by cases e) (by decide) (rcV_ok rfl) ?_ (co_X1_takeNext N q) lb_X1_takeNext 3000 0 S_X1_takeNext_0 _ _ h ls_X1_takeNext_0 hf
  intro pc ls st g e
  cases e
def f_X1_wayAt (N : Nat) (a0 : Nat) (x1 : Int32) (h : mH) : Option (Int64 × mH) :=
  if x1 < 0 then
    some (jL 9223372036854775807, h)
  else
    (gR h 1 a0 14).bind fun v1 =>
    (lnA h v1).bind fun v2 =>
    if x1 < v2 then
      (gR h 1 a0 14).bind fun v3 =>
      (ldL h v3 x1).bind fun v4 =>
      some (v4, h)
    else
      some (jL 9223372036854775807, h)
def y_X1_wayAt : mM := (yX1_wayAt, cX1_wayAt, 2, (some .long))
def B_X1_wayAt : List (Nat × List mI) := [(22, [(.ldc2_w 121, 3, [3], [9223372036854775807])]), (25, [(.lreturn, 1, [], [])])]
def S_X1_wayAt_0 : List mI := [(.iload_n 1, 1, [1], []), (.ifCond .lt 21, 3, [22], []), (.iload_n 1, 1, [1], []), (.aload_n 0, 1, [0], []), (.getfield 44, 3, [1, 14, 2, 104], []), (.arraylength, 1, [0], []), (.if_icmp .ge 12, 3, [22], []), (.aload_n 0, 1, [0], []), (.getfield 44, 3, [1, 14, 2, 104], []), (.iload_n 1, 1, [1], []), (.laload, 1, [], []), (.goto 6, 3, [25], [])]
theorem lb_X1_wayAt : B_X1_wayAt.all (fun b => lst y_X1_wayAt.2.1 1 y_X1_wayAt.2.2.1 false b.1 b.2) = true := by decide +kernel
theorem ls_X1_wayAt_0 : lst y_X1_wayAt.2.1 1 y_X1_wayAt.2.2.1 false 0 S_X1_wayAt_0 = true := by decide +kernel
def C_X1_wayAt (N : Nat) : Nat → List Value → mH → (Option Value → mH → Option (Int64 × mH)) → Option (Int64 × mH) := fun j as g k => none
theorem co_X1_wayAt (N : Nat) (q : Int64 × mH) : clOK 4 q (C_X1_wayAt N) := by
  intro j as g k e
  cases e
set_option maxRecDepth 100000 in
theorem m_X1_wayAt (N : Nat) {a0 : Nat} {x1 : Int32} {h : mH} {q : Int64 × mH} (hf : f_X1_wayAt N a0 x1 h = some q) : MM y_X1_wayAt 4 [.ref a0, .int x1] h (some (.long q.1)) q.2 := by
  refine MM.of (mFx (j := 49) rfl).2.2.2.1 (Nat.le_of_ble_eq_true rfl) (fun X => ?_)
  refine ev_ok (o := 1) (ini := false) (Cl := C_X1_wayAt N) (Rc := RcJ) (B := B_X1_wayAt) (K := fun pc ls st g => none) rfl (fun e => by cases e) (by decide) (rcJ_ok rfl) ?_ (co_X1_wayAt N q) lb_X1_wayAt 3000 0 S_X1_wayAt_0 _ _ h ls_X1_wayAt_0 hf
  intro pc ls st g e
  cases e
def L_X1_leastNear_29 (N : Nat) : Nat → Nat → Int32 → Int64 → Int32 → Int32 → mH → Option (Int64 × mH)
  | 0, _, _, _, _, _, _ => none
  | n + 1, a0, x1, l3, x5, x6, h =>
    if x5 < x6 then
      some (l3, h)
    else
      (rcv h 1 a0).bind fun _ =>
      (f_X1_wayAt N a0 (iAdd x1 x6) h).bind fun p1 =>
      let w2 := lMin l3 p1.1
      let w3 := iAdd x6 (jI 1)
      L_X1_leastNear_29 N n a0 x1 w2 x5 w3 p1.2
def f_X1_leastNear (N : Nat) (a0 : Nat) (x1 : Int32) (x2 : Int32) (h : mH) : Option (Int64 × mH) :=
  (gI h 1 a0 2).bind fun v1 =>
  let w2 := iMin (jI 18) (iAdd x2 v1)
  (gI h 1 a0 2).bind fun v3 =>
  let w4 := iMax (jI 0) (iSub x2 v3)
  L_X1_leastNear_29 N N a0 x1 (jL 9223372036854775807) w2 w4 h
def y_X1_leastNear : mM := (yX1_leastNear, cX1_leastNear, 7, (some .long))
def B_X1_leastNear : List (Nat × List mI) := [(55, [(.lload_n 3, 1, [3], []), (.lreturn, 1, [], [])])]
def S_X1_leastNear_0 : List mI := [(.ldc2_w 121, 3, [3], [9223372036854775807]), (.lstore_n 3, 1, [3], []), (.bipush 18, 2, [], [18]), (.iload_n 2, 1, [2], []), (.aload_n 0, 1, [0], []), (.getfield 76, 3, [1, 2, 0, 92], []), (.iadd, 1, [], []), (.invokestatic 65, 3, [7, 0, 0, 0, 29], []), (.istore 5, 2, [5], []), (.iconst 0, 1, [], [0]), (.iload_n 2, 1, [2], []), (.aload_n 0, 1, [0], []), (.getfield 76, 3, [1, 2, 0, 92], []), (.isub, 1, [], []), (.invokestatic 133, 3, [6, 0, 0, 0, 30], []), (.istore 6, 2, [6], [])]
def S_X1_leastNear_29 : List mI := [(.iload 6, 2, [6], []), (.iload 5, 2, [5], []), (.if_icmp .gt 22, 3, [55], []), (.lload_n 3, 1, [3], []), (.aload_n 0, 1, [0], []), (.iload_n 1, 1, [1], []), (.iload 6, 2, [6], []), (.iadd, 1, [], []), (.invokevirtual 126, 3, [0, 49, 1, 1, 224], []), (.invokestatic 130, 3, [9, 0, 0, 0, 33], []), (.lstore_n 3, 1, [3], []), (.iinc 6 1, 3, [6], [1]), (.goto (-23), 3, [29], [])]
theorem lb_X1_leastNear : B_X1_leastNear.all (fun b => lst y_X1_leastNear.2.1 1 y_X1_leastNear.2.2.1 false b.1 b.2) = true := by decide +kernel
theorem ls_X1_leastNear_0 : lst y_X1_leastNear.2.1 1 y_X1_leastNear.2.2.1 false 0 S_X1_leastNear_0 = true := by decide +kernel
theorem ls_X1_leastNear_29 : lst y_X1_leastNear.2.1 1 y_X1_leastNear.2.2.1 false 29 S_X1_leastNear_29 = true := by decide +kernel
def C_X1_leastNear (N : Nat) : Nat → List Value → mH → (Option Value → mH → Option (Int64 × mH)) → Option (Int64 × mH) := fun j as g k => kb j 49 (pr1 as fun b0 as => pp1 as fun b1 as => pe as ((f_X1_wayAt N b0 b1 g).bind fun p => k (some (.long p.1)) p.2)) (none)
theorem co_X1_leastNear (N : Nat) (q : Int64 × mH) : clOK 5 q (C_X1_leastNear N) := by
  intro j as g k e
  rcases kb_s e with ⟨rfl, e⟩ | e
  · obtain ⟨b0, r0, q0, f0⟩ := pr1_s e
    obtain ⟨b1, r1, q1, f1⟩ := pp1_s f0
    obtain ⟨qe, fe⟩ := pe_s f1
    obtain ⟨p, e1, e2⟩ := bnd_s fe
    subst qe
    subst q1
    subst q0
    exact ⟨_, _, _, _, 4, rfl, (by decide), m_X1_wayAt N e1, e2⟩
  cases e
set_option maxRecDepth 100000 in
theorem t_X1_leastNear_29 {X : Nat × (Nat → Int32)} (N : Nat) {q : Int64 × mH} : ∀ (n : Nat) (a0 : Nat) (x1 : Int32) (l3 : Int64) (x5 : Int32) (x6 : Int32) (h : mH), L_X1_leastNear_29 N n a0 x1 l3 x5 x6 h = some q → MW X y_X1_leastNear 5 29 [(0, .ref a0), (1, .int x1), (3, .long l3), (5, .int x5), (6, .int x6)] [] h (some (.long q.1)) q.2 := by
  intro n
  induction n with
  | zero => intro a0 x1 l3 x5 x6 h hf; cases hf
  | succ n ih =>
    intro a0 x1 l3 x5 x6 h hf
    refine ev_ok (o := 1) (ini := false) (Cl := C_X1_leastNear N) (Rc := RcJ) (B := B_X1_leastNear) (K := fun pc ls st g => kb pc 29 (lgr 0 ls fun a0 => lgi 1 ls fun x1 => lgl_ 3 ls fun l3 => lgi 5 ls fun x5 => lgi 6 ls fun x6 => pe st (L_X1_leastNear_29 N n a0 x1 l3 x5 x6 g)) (none)) rfl (fun e => by cases e) (by decide) (rcJ_ok rfl) ?_ (co_X1_leastNear N q) lb_X1_leastNear 3000 29 S_X1_leastNear_29 _ _ h ls_X1_leastNear_29 hf
    intro pc ls st g e
    rcases kb_s e with ⟨rfl, e⟩ | e
    · obtain ⟨a0, e0, f0⟩ := lgr_s e
      obtain ⟨x1, e1, f1⟩ := lgi_s f0
      obtain ⟨l3, e2, f2⟩ := lgl_s f1
      obtain ⟨x5, e3, f3⟩ := lgi_s f2
      obtain ⟨x6, e4, f4⟩ := lgi_s f3
      obtain ⟨qe, fe⟩ := pe_s f4
      subst qe
      exact MW.sub (List.forall_mem_cons.mpr ⟨lg_mem e0, List.forall_mem_cons.mpr ⟨lg_mem e1, List.forall_mem_cons.mpr ⟨lg_mem e2, List.forall_mem_cons.mpr ⟨lg_mem e3, List.forall_mem_cons.mpr ⟨lg_mem e4, fun _ h => absurd h List.not_mem_nil⟩⟩⟩⟩⟩) (ih a0 x1 l3 x5 x6 g fe)
    cases e
set_option maxRecDepth 100000 in
theorem m_X1_leastNear (N : Nat) {a0 : Nat} {x1 : Int32} {x2 : Int32} {h : mH} {q : Int64 × mH} (hf : f_X1_leastNear N a0 x1 x2 h = some q) : MM y_X1_leastNear 5 [.ref a0, .int x1, .int x2] h (some (.long q.1)) q.2 := by
  refine MM.of (mFx (j := 54) rfl).2.2.2.1 (Nat.le_of_ble_eq_true rfl) (fun X => ?_)
  refine ev_ok (o := 1) (ini := false) (Cl := C_X1_leastNear N) (Rc := RcJ) (B := B_X1_leastNear) (K := fun pc ls st g => kb pc 29 (lgr 0 ls fun a0 => lgi 1 ls fun x1 => lgl_ 3 ls fun l3 => lgi 5 ls fun x5 => lgi 6 ls fun x6 => pe st (L_X1_leastNear_29 N N a0 x1 l3 x5 x6 g)) (none)) rfl (fun e => by cases e) (by decide) (rcJ_ok rfl) ?_ (co_X1_leastNear N q) lb_X1_leastNear 3000 0 S_X1_leastNear_0 _ _ h ls_X1_leastNear_0 hf
  intro pc ls st g e
  rcases kb_s e with ⟨rfl, e⟩ | e
  · obtain ⟨a0, e0, f0⟩ := lgr_s e
    obtain ⟨x1, e1, f1⟩ := lgi_s f0
    obtain ⟨l3, e2, f2⟩ := lgl_s f1
    obtain ⟨x5, e3, f3⟩ := lgi_s f2
    obtain ⟨x6, e4, f4⟩ := lgi_s f3
    obtain ⟨qe, fe⟩ := pe_s f4
    subst qe
    exact MW.sub (List.forall_mem_cons.mpr ⟨lg_mem e0, List.forall_mem_cons.mpr ⟨lg_mem e1, List.forall_mem_cons.mpr ⟨lg_mem e2, List.forall_mem_cons.mpr ⟨lg_mem e3, List.forall_mem_cons.mpr ⟨lg_mem e4, fun _ h => absurd h List.not_mem_nil⟩⟩⟩⟩⟩) (t_X1_leastNear_29 N N a0 x1 l3 x5 x6 g fe)
  cases e
def J_X1_goOnFrom_53 (N : Nat) (k19 : Nat → Int32 → Int32 → Int32 → Int64 → Int32 → Int32 → mH → Option (mH)) (a0 : Nat) (x1 : Int32) (x2 : Int32) (x3 : Int32) (l4 : Int64) (x6 : Int32) (x7 : Int32) (s_0 : Int64) (h : mH) : Option (mH) :=
  if s_0 = (jL 9223372036854775807) then
    let w1 := iAdd x7 (jI 1)
    k19 a0 x1 x2 x3 l4 x6 w1 h
  else
    (rcv h 1 a0).bind fun _ =>
    (f_X1_widthBy N a0 x2 x7 x1 h).bind fun p2 =>
    (rcv p2.2 1 a0).bind fun _ =>
    (f_X1_goTo N a0 x1 p2.1 x7 s_0 p2.2).bind fun h3 =>
    let w4 := iAdd x7 (jI 1)
    k19 a0 x1 x2 x3 l4 x6 w4 h3
def L_X1_goOnFrom_19 (N : Nat) : Nat → Nat → Int32 → Int32 → Int32 → Int64 → Int32 → Int32 → mH → Option (mH)
  | 0, _, _, _, _, _, _, _, _ => none
  | n + 1, a0, x1, x2, x3, l4, x6, x7, h =>
    if x7 < (jI 19) then
      (gI h 1 a0 2).bind fun v1 =>
      if v1 < (iAbs (iSub x7 x6)) then
        (rcv h 1 a0).bind fun _ =>
        (f_X1_leastNear N a0 x3 x7 h).bind fun p2 =>
        J_X1_goOnFrom_53 N (L_X1_goOnFrom_19 N n) a0 x1 x2 x3 l4 x6 x7 p2.1 p2.2
      else
        J_X1_goOnFrom_53 N (L_X1_goOnFrom_19 N n) a0 x1 x2 x3 l4 x6 x7 l4 h
    else
      some h
def f_X1_goOnFrom (N : Nat) (a0 : Nat) (x1 : Int32) (x2 : Int32) (x3 : Int32) (l4 : Int64) (h : mH) : Option (mH) :=
  (f_X1_leanShift N (iSub x1 (jI 1)) h).bind fun p1 =>
  let w2 := (lAnd (lUsr l4 p1.1) (jL 31)).toInt32
  L_X1_goOnFrom_19 N N a0 x1 x2 x3 l4 w2 (jI 0) p1.2
def y_X1_goOnFrom : mM := (yX1_goOnFrom, cX1_goOnFrom, 10, none)
def B_X1_goOnFrom : List (Nat × List mI) := [(46, [(.aload_n 0, 1, [0], []), (.iload_n 3, 1, [3], []), (.iload 7, 2, [7], []), (.invokevirtual 160, 3, [0, 54, 2, 1, 226], [])]), (81, [(.iinc 7 1, 3, [7], [1]), (.goto (-65), 3, [19], [])]), (87, [(.return_, 1, [], [])])]
def S_X1_goOnFrom_0 : List mI := [(.lload 4, 2, [4], []), (.iload_n 1, 1, [1], []), (.iconst 1, 1, [], [1]), (.isub, 1, [], []), (.invokestatic 55, 3, [1, 40, 1, 0, 221], []), (.lushr, 1, [], []), (.ldc2_w 59, 3, [4], [31]), (.land, 1, [], []), (.l2i, 1, [], []), (.istore 6, 2, [6], []), (.iconst 0, 1, [], [0]), (.istore 7, 2, [7], [])]
def S_X1_goOnFrom_19 : List mI := [(.iload 7, 2, [7], []), (.bipush 19, 2, [], [19]), (.if_icmp .ge 64, 3, [87], []), (.iload 7, 2, [7], []), (.iload 6, 2, [6], []), (.isub, 1, [], []), (.invokestatic 136, 3, [8, 0, 0, 0, 31], []), (.aload_n 0, 1, [0], []), (.getfield 76, 3, [1, 2, 0, 92], []), (.if_icmp .gt 8, 3, [46], []), (.lload 4, 2, [4], []), (.goto 10, 3, [53], [])]
def S_X1_goOnFrom_53 : List mI := [(.lstore 8, 2, [8], []), (.lload 8, 2, [8], []), (.ldc2_w 121, 3, [3], [9223372036854775807]), (.lcmp, 1, [], []), (.ifCond .eq 20, 3, [81], []), (.aload_n 0, 1, [0], []), (.iload_n 1, 1, [1], []), (.aload_n 0, 1, [0], []), (.iload_n 2, 1, [2], []), (.iload 7, 2, [7], []), (.iload_n 1, 1, [1], []), (.invokevirtual 107, 3, [0, 45, 3, 1, 212], []), (.iload 7, 2, [7], []), (.lload 8, 2, [8], []), (.invokevirtual 111, 3, [0, 55, 4, 1, 220], [])]
theorem lb_X1_goOnFrom : B_X1_goOnFrom.all (fun b => lst y_X1_goOnFrom.2.1 1 y_X1_goOnFrom.2.2.1 false b.1 b.2) = true := by decide +kernel
theorem ls_X1_goOnFrom_0 : lst y_X1_goOnFrom.2.1 1 y_X1_goOnFrom.2.2.1 false 0 S_X1_goOnFrom_0 = true := by decide +kernel
theorem ls_X1_goOnFrom_19 : lst y_X1_goOnFrom.2.1 1 y_X1_goOnFrom.2.2.1 false 19 S_X1_goOnFrom_19 = true := by decide +kernel
theorem ls_X1_goOnFrom_53 : lst y_X1_goOnFrom.2.1 1 y_X1_goOnFrom.2.2.1 false 53 S_X1_goOnFrom_53 = true := by decide +kernel
def C_X1_goOnFrom (N : Nat) : Nat → List Value → mH → (Option Value → mH → Option (mH)) → Option (mH) := fun j as g k => kb j 40 (pp1 as fun b0 as => pe as ((f_X1_leanShift N b0 g).bind fun p => k (some (.int p.1)) p.2)) (kb j 54 (pr1 as fun b0 as => pp1 as fun b1 as => pp1 as fun b2 as => pe as ((f_X1_leastNear N b0 b1 b2 g).bind fun p => k (some (.long p.1)) p.2)) (kb j 45 (pr1 as fun b0 as => pp1 as fun b1 as => pp1 as fun b2 as => pp1 as fun b3 as => pe as ((f_X1_widthBy N b0 b1 b2 b3 g).bind fun p => k (some (.int p.1)) p.2)) (kb j 55 (pr1 as fun b0 as => pp1 as fun b1 as => pp1 as fun b2 as => pp1 as fun b3 as => pl1 as fun b4 as => pe as ((f_X1_goTo N b0 b1 b2 b3 b4 g).bind fun p => k none p)) (none))))
theorem co_X1_goOnFrom (N : Nat) (q : mH) : clOK 6 q (C_X1_goOnFrom N) := by
  intro j as g k e
  rcases kb_s e with ⟨rfl, e⟩ | e
  · obtain ⟨b0, r0, q0, f0⟩ := pp1_s e
    obtain ⟨qe, fe⟩ := pe_s f0
    obtain ⟨p, e1, e2⟩ := bnd_s fe
    subst qe
    subst q0
    exact ⟨_, _, _, _, 4, rfl, (by decide), m_X1_leanShift N e1, e2⟩
  rcases kb_s e with ⟨rfl, e⟩ | e
  · obtain ⟨b0, r0, q0, f0⟩ := pr1_s e
    obtain ⟨b1, r1, q1, f1⟩ := pp1_s f0
    obtain ⟨b2, r2, q2, f2⟩ := pp1_s f1
    obtain ⟨qe, fe⟩ := pe_s f2
    obtain ⟨p, e1, e2⟩ := bnd_s fe
    subst qe
    subst q2
    subst q1
    subst q0
    exact ⟨_, _, _, _, 5, rfl, (by decide), m_X1_leastNear N e1, e2⟩
  rcases kb_s e with ⟨rfl, e⟩ | e
  · obtain ⟨b0, r0, q0, f0⟩ := pr1_s e
    obtain ⟨b1, r1, q1, f1⟩ := pp1_s f0
    obtain ⟨b2, r2, q2, f2⟩ := pp1_s f1
    obtain ⟨b3, r3, q3, f3⟩ := pp1_s f2
    obtain ⟨qe, fe⟩ := pe_s f3
    obtain ⟨p, e1, e2⟩ := bnd_s fe
    subst qe
    subst q3
    subst q2
    subst q1
    subst q0
    exact ⟨_, _, _, _, 4, rfl, (by decide), m_X1_widthBy N e1, e2⟩
  rcases kb_s e with ⟨rfl, e⟩ | e
  · obtain ⟨b0, r0, q0, f0⟩ := pr1_s e
    obtain ⟨b1, r1, q1, f1⟩ := pp1_s f0
    obtain ⟨b2, r2, q2, f2⟩ := pp1_s f1
    obtain ⟨b3, r3, q3, f3⟩ := pp1_s f2
    obtain ⟨b4, r4, q4, f4⟩ := pl1_s f3
    obtain ⟨qe, fe⟩ := pe_s f4
    obtain ⟨p, e1, e2⟩ := bnd_s fe
    subst qe
    subst q4
    subst q3
    subst q2
    subst q1
    subst q0
    exact ⟨_, _, _, _, 5, rfl, (by decide), m_X1_goTo N e1, e2⟩
  cases e
set_option maxRecDepth 100000 in
theorem t_X1_goOnFrom_53 {X : Nat × (Nat → Int32)} (N : Nat) {q : mH} {k19 : Nat → Int32 → Int32 → Int32 → Int64 → Int32 → Int32 → mH → Option (mH)} (hk19 : ∀ (a0 : Nat) (x1 : Int32) (x2 : Int32) (x3 : Int32) (l4 : Int64) (x6 : Int32) (x7 : Int32) g, k19 a0 x1 x2 x3 l4 x6 x7 g = some q → MW X y_X1_goOnFrom 6 19 [(0, .ref a0), (1, .int x1), (2, .int x2), (3, .int x3), (4, .long l4), (6, .int x6), (7, .int x7)] [] g none q) (a0 : Nat) (x1 : Int32) (x2 : Int32) (x3 : Int32) (l4 : Int64) (x6 : Int32) (x7 : Int32) (s_0 : Int64) (h : mH) (hf : J_X1_goOnFrom_53 N k19 a0 x1 x2 x3 l4 x6 x7 s_0 h = some q) : MW X y_X1_goOnFrom 6 53 [(0, .ref a0), (1, .int x1), (2, .int x2), (3, .int x3), (4, .long l4), (6, .int x6), (7, .int x7)] [.long s_0] h none q := by
  refine ev_ok (o := 1) (ini := false) (Cl := C_X1_goOnFrom N) (Rc := RcV) (B := B_X1_goOnFrom) (K := fun pc ls st g => kb pc 19 (lgr 0 ls fun a0 => lgi 1 ls fun x1 => lgi 2 ls fun x2 => lgi 3 ls fun x3 => lgl_ 4 ls fun l4 => lgi 6 ls fun x6 => lgi 7 ls fun x7 => pe st (k19 a0 x1 x2 x3 l4 x6 x7 g)) (none)) rfl (fun e => by cases e) (by decide) (rcV_ok rfl) ?_ (co_X1_goOnFrom N q) lb_X1_goOnFrom 3000 53 S_X1_goOnFrom_53 _ _ h ls_X1_goOnFrom_53 hf
  intro pc ls st g e
  rcases kb_s e with ⟨rfl, e⟩ | e
  · obtain ⟨a0, e0, f0⟩ := lgr_s e
    obtain ⟨x1, e1, f1⟩ := lgi_s f0
    obtain ⟨x2, e2, f2⟩ := lgi_s f1
    obtain ⟨x3, e3, f3⟩ := lgi_s f2
    obtain ⟨l4, e4, f4⟩ := lgl_s f3
    obtain ⟨x6, e5, f5⟩ := lgi_s f4
    obtain ⟨x7, e6, f6⟩ := lgi_s f5
    obtain ⟨qe, fe⟩ := pe_s f6
    subst qe
    exact MW.sub (List.forall_mem_cons.mpr ⟨lg_mem e0, List.forall_mem_cons.mpr ⟨lg_mem e1, List.forall_mem_cons.mpr ⟨lg_mem e2, List.forall_mem_cons.mpr ⟨lg_mem e3, List.forall_mem_cons.mpr ⟨lg_mem e4, List.forall_mem_cons.mpr ⟨lg_mem e5, List.forall_mem_cons.mpr ⟨lg_mem e6, fun _ h => absurd h List.not_mem_nil⟩⟩⟩⟩⟩⟩⟩) (hk19 a0 x1 x2 x3 l4 x6 x7 g fe)
  cases e
set_option maxRecDepth 100000 in
theorem t_X1_goOnFrom_19 {X : Nat × (Nat → Int32)} (N : Nat) {q : mH} : ∀ (n : Nat) (a0 : Nat) (x1 : Int32) (x2 : Int32) (x3 : Int32) (l4 : Int64) (x6 : Int32) (x7 : Int32) (h : mH), L_X1_goOnFrom_19 N n a0 x1 x2 x3 l4 x6 x7 h = some q → MW X y_X1_goOnFrom 6 19 [(0, .ref a0), (1, .int x1), (2, .int x2), (3, .int x3), (4, .long l4), (6, .int x6), (7, .int x7)] [] h none q := by
  intro n
  induction n with
  | zero => intro a0 x1 x2 x3 l4 x6 x7 h hf; cases hf
  | succ n ih =>
    intro a0 x1 x2 x3 l4 x6 x7 h hf
    refine ev_ok (o := 1) (ini := false) (Cl := C_X1_goOnFrom N) (Rc := RcV) (B := B_X1_goOnFrom) (K := fun pc ls st g => kb pc 53 (lgr 0 ls fun a0 => lgi 1 ls fun x1 => lgi 2 ls fun x2 => lgi 3 ls fun x3 => lgl_ 4 ls fun l4 => lgi 6 ls fun x6 => lgi 7 ls fun x7 => pl1 st fun s_0 st => pe st (J_X1_goOnFrom_53 N (L_X1_goOnFrom_19 N n) a0 x1 x2 x3 l4 x6 x7 s_0 g)) (none)) rfl (fun e => by cases e) (by decide) (rcV_ok rfl) ?_ (co_X1_goOnFrom N q) lb_X1_goOnFrom 3000 19 S_X1_goOnFrom_19 _ _ h ls_X1_goOnFrom_19 hf
    intro pc ls st g e
    rcases kb_s e with ⟨rfl, e⟩ | e
    · obtain ⟨a0, e0, f0⟩ := lgr_s e
      obtain ⟨x1, e1, f1⟩ := lgi_s f0
      obtain ⟨x2, e2, f2⟩ := lgi_s f1
      obtain ⟨x3, e3, f3⟩ := lgi_s f2
      obtain ⟨l4, e4, f4⟩ := lgl_s f3
      obtain ⟨x6, e5, f5⟩ := lgi_s f4
      obtain ⟨x7, e6, f6⟩ := lgi_s f5
      obtain ⟨s_0, r0, q0, g0⟩ := pl1_s f6
      obtain ⟨qe, fe⟩ := pe_s g0
      subst qe
      subst q0
      exact MW.sub (List.forall_mem_cons.mpr ⟨lg_mem e0, List.forall_mem_cons.mpr ⟨lg_mem e1, List.forall_mem_cons.mpr ⟨lg_mem e2, List.forall_mem_cons.mpr ⟨lg_mem e3, List.forall_mem_cons.mpr ⟨lg_mem e4, List.forall_mem_cons.mpr ⟨lg_mem e5, List.forall_mem_cons.mpr ⟨lg_mem e6, fun _ h => absurd h List.not_mem_nil⟩⟩⟩⟩⟩⟩⟩) (t_X1_goOnFrom_53 N (fun a0 x1 x2 x3 l4 x6 x7 g e => ih a0 x1 x2 x3 l4 x6 x7 g e) a0 x1 x2 x3 l4 x6 x7 s_0 g fe)
    cases e
set_option maxRecDepth 100000 in
theorem m_X1_goOnFrom (N : Nat) {a0 : Nat} {x1 : Int32} {x2 : Int32} {x3 : Int32} {l4 : Int64} {h : mH} {q : mH} (hf : f_X1_goOnFrom N a0 x1 x2 x3 l4 h = some q) : MM y_X1_goOnFrom 6 [.ref a0, .int x1, .int x2, .int x3, .long l4] h none q := by
  refine MM.of (mFx (j := 53) rfl).2.2.2.1 (Nat.le_of_ble_eq_true rfl) (fun X => ?_)
  refine ev_ok (o := 1) (ini := false) (Cl := C_X1_goOnFrom N) (Rc := RcV) (B := B_X1_goOnFrom) (K := fun pc ls st g => kb pc 19 (lgr 0 ls fun a0 => lgi 1 ls fun x1 => lgi 2 ls fun x2 => lgi 3 ls fun x3 => lgl_ 4 ls fun l4 => lgi 6 ls fun x6 => lgi 7 ls fun x7 => pe st (L_X1_goOnFrom_19 N N a0 x1 x2 x3 l4 x6 x7 g)) (none)) rfl (fun e => by cases e) (by decide) (rcV_ok rfl) ?_ (co_X1_goOnFrom N q) lb_X1_goOnFrom 3000 0 S_X1_goOnFrom_0 _ _ h ls_X1_goOnFrom_0 hf
  intro pc ls st g e
  rcases kb_s e with ⟨rfl, e⟩ | e
  · obtain ⟨a0, e0, f0⟩ := lgr_s e
    obtain ⟨x1, e1, f1⟩ := lgi_s f0
    obtain ⟨x2, e2, f2⟩ := lgi_s f1
    obtain ⟨x3, e3, f3⟩ := lgi_s f2
    obtain ⟨l4, e4, f4⟩ := lgl_s f3
    obtain ⟨x6, e5, f5⟩ := lgi_s f4
    obtain ⟨x7, e6, f6⟩ := lgi_s f5
    obtain ⟨qe, fe⟩ := pe_s f6
    subst qe
    exact MW.sub (List.forall_mem_cons.mpr ⟨lg_mem e0, List.forall_mem_cons.mpr ⟨lg_mem e1, List.forall_mem_cons.mpr ⟨lg_mem e2, List.forall_mem_cons.mpr ⟨lg_mem e3, List.forall_mem_cons.mpr ⟨lg_mem e4, List.forall_mem_cons.mpr ⟨lg_mem e5, List.forall_mem_cons.mpr ⟨lg_mem e6, fun _ h => absurd h List.not_mem_nil⟩⟩⟩⟩⟩⟩⟩) (t_X1_goOnFrom_19 N N a0 x1 x2 x3 l4 x6 x7 g fe)
  cases e
def L_X1_goOn_7 (N : Nat) : Nat → Nat → Int32 → Int32 → mH → Option (mH)
  | 0, _, _, _, _ => none
  | n + 1, a0, x1, x2, h =>
    (rcv h 1 a0).bind fun _ =>
    (f_X1_rowsOf N a0 (iSub x1 (jI 1)) h).bind fun p1 =>
    if x2 < p1.1 then
      let w2 := iMul x2 (jI 20)
      (rcv p1.2 1 a0).bind fun _ =>
      (f_X1_wayAt N a0 (iAdd w2 (jI 19)) p1.2).bind fun p3 =>
      if p3.1 = (jL 9223372036854775807) then
        let w4 := iAdd x2 (jI 1)
        L_X1_goOn_7 N n a0 x1 w4 p3.2
      else
        (gR p3.2 1 a0 6).bind fun v5 =>
        (ldI 0 p3.2 v5 (iSub x1 (jI 1))).bind fun v6 =>
        (rcv p3.2 1 a0).bind fun _ =>
        (f_X1_goOnFrom N a0 x1 (iAdd v6 x2) w2 p3.1 p3.2).bind fun h7 =>
        let w8 := iAdd x2 (jI 1)
        L_X1_goOn_7 N n a0 x1 w8 h7
    else
      some p1.2
def f_X1_goOn (N : Nat) (a0 : Nat) (x1 : Int32) (h : mH) : Option (mH) :=
  (rcv h 1 a0).bind fun _ =>
  (f_X1_emptyNext N a0 x1 h).bind fun h1 =>
  L_X1_goOn_7 N N a0 x1 (jI 0) h1
def y_X1_goOn : mM := (yX1_goOn, cX1_goOn, 6, none)
def B_X1_goOn : List (Nat × List mI) := [(60, [(.iinc 2 1, 3, [2], [1]), (.goto (-56), 3, [7], [])]), (66, [(.return_, 1, [], [])])]
def S_X1_goOn_0 : List mI := [(.aload_n 0, 1, [0], []), (.iload_n 1, 1, [1], []), (.invokevirtual 103, 3, [0, 50, 1, 1, 217], []), (.iconst 0, 1, [], [0]), (.istore_n 2, 1, [2], [])]
def S_X1_goOn_7 : List mI := [(.iload_n 2, 1, [2], []), (.aload_n 0, 1, [0], []), (.iload_n 1, 1, [1], []), (.iconst 1, 1, [], [1]), (.isub, 1, [], []), (.invokevirtual 123, 3, [0, 48, 1, 1, 216], []), (.if_icmp .ge 51, 3, [66], []), (.iload_n 2, 1, [2], []), (.bipush 20, 2, [], [20]), (.imul, 1, [], []), (.istore_n 3, 1, [3], []), (.aload_n 0, 1, [0], []), (.iload_n 3, 1, [3], []), (.bipush 19, 2, [], [19]), (.iadd, 1, [], []), (.invokevirtual 126, 3, [0, 49, 1, 1, 224], []), (.lstore 4, 2, [4], []), (.lload 4, 2, [4], []), (.ldc2_w 121, 3, [3], [9223372036854775807]), (.lcmp, 1, [], []), (.ifCond .eq 21, 3, [60], []), (.aload_n 0, 1, [0], []), (.iload_n 1, 1, [1], []), (.aload_n 0, 1, [0], []), (.getfield 20, 3, [1, 6, 2, 96], []), (.iload_n 1, 1, [1], []), (.iconst 1, 1, [], [1]), (.isub, 1, [], []), (.iaload, 1, [0], []), (.iload_n 2, 1, [2], []), (.iadd, 1, [], []), (.iload_n 3, 1, [3], []), (.lload 4, 2, [4], []), (.invokevirtual 157, 3, [0, 53, 4, 1, 225], [])]
theorem lb_X1_goOn : B_X1_goOn.all (fun b => lst y_X1_goOn.2.1 1 y_X1_goOn.2.2.1 false b.1 b.2) = true := by decide +kernel
theorem ls_X1_goOn_0 : lst y_X1_goOn.2.1 1 y_X1_goOn.2.2.1 false 0 S_X1_goOn_0 = true := by decide +kernel
theorem ls_X1_goOn_7 : lst y_X1_goOn.2.1 1 y_X1_goOn.2.2.1 false 7 S_X1_goOn_7 = true := by decide +kernel
def C_X1_goOn (N : Nat) : Nat → List Value → mH → (Option Value → mH → Option (mH)) → Option (mH) := fun j as g k => kb j 50 (pr1 as fun b0 as => pp1 as fun b1 as => pe as ((f_X1_emptyNext N b0 b1 g).bind fun p => k none p)) (kb j 48 (pr1 as fun b0 as => pp1 as fun b1 as => pe as ((f_X1_rowsOf N b0 b1 g).bind fun p => k (some (.int p.1)) p.2)) (kb j 49 (pr1 as fun b0 as => pp1 as fun b1 as => pe as ((f_X1_wayAt N b0 b1 g).bind fun p => k (some (.long p.1)) p.2)) (kb j 53 (pr1 as fun b0 as => pp1 as fun b1 as => pp1 as fun b2 as => pp1 as fun b3 as => pl1 as fun b4 as => pe as ((f_X1_goOnFrom N b0 b1 b2 b3 b4 g).bind fun p => k none p)) (none))))
theorem co_X1_goOn (N : Nat) (q : mH) : clOK 7 q (C_X1_goOn N) := by
  intro j as g k e
  rcases kb_s e with ⟨rfl, e⟩ | e
  · obtain ⟨b0, r0, q0, f0⟩ := pr1_s e
    obtain ⟨b1, r1, q1, f1⟩ := pp1_s f0
    obtain ⟨qe, fe⟩ := pe_s f1
    obtain ⟨p, e1, e2⟩ := bnd_s fe
    subst qe
    subst q1
    subst q0
    exact ⟨_, _, _, _, 6, rfl, (by decide), m_X1_emptyNext N e1, e2⟩
  rcases kb_s e with ⟨rfl, e⟩ | e
  · obtain ⟨b0, r0, q0, f0⟩ := pr1_s e
    obtain ⟨b1, r1, q1, f1⟩ := pp1_s f0
    obtain ⟨qe, fe⟩ := pe_s f1
    obtain ⟨p, e1, e2⟩ := bnd_s fe
    subst qe
    subst q1
    subst q0
    exact ⟨_, _, _, _, 4, rfl, (by decide), m_X1_rowsOf N e1, e2⟩
  rcases kb_s e with ⟨rfl, e⟩ | e
  · obtain ⟨b0, r0, q0, f0⟩ := pr1_s e
    obtain ⟨b1, r1, q1, f1⟩ := pp1_s f0
    obtain ⟨qe, fe⟩ := pe_s f1
    obtain ⟨p, e1, e2⟩ := bnd_s fe
    subst qe
    subst q1
    subst q0
    exact ⟨_, _, _, _, 4, rfl, (by decide), m_X1_wayAt N e1, e2⟩
  rcases kb_s e with ⟨rfl, e⟩ | e
  · obtain ⟨b0, r0, q0, f0⟩ := pr1_s e
    obtain ⟨b1, r1, q1, f1⟩ := pp1_s f0
    obtain ⟨b2, r2, q2, f2⟩ := pp1_s f1
    obtain ⟨b3, r3, q3, f3⟩ := pp1_s f2
    obtain ⟨b4, r4, q4, f4⟩ := pl1_s f3
    obtain ⟨qe, fe⟩ := pe_s f4
    obtain ⟨p, e1, e2⟩ := bnd_s fe
    subst qe
    subst q4
    subst q3
    subst q2
    subst q1
    subst q0
    exact ⟨_, _, _, _, 6, rfl, (by decide), m_X1_goOnFrom N e1, e2⟩
  cases e
set_option maxRecDepth 100000 in
theorem t_X1_goOn_7 {X : Nat × (Nat → Int32)} (N : Nat) {q : mH} : ∀ (n : Nat) (a0 : Nat) (x1 : Int32) (x2 : Int32) (h : mH), L_X1_goOn_7 N n a0 x1 x2 h = some q → MW X y_X1_goOn 7 7 [(0, .ref a0), (1, .int x1), (2, .int x2)] [] h none q := by
  intro n
  induction n with
  | zero => intro a0 x1 x2 h hf; cases hf
  | succ n ih =>
    intro a0 x1 x2 h hf
    refine ev_ok (o := 1) (ini := false) (Cl := C_X1_goOn N) (Rc := RcV) (B := B_X1_goOn) (K := fun pc ls st g => kb pc 7 (lgr 0 ls fun a0 => lgi 1 ls fun x1 => lgi 2 ls fun x2 => pe st (L_X1_goOn_7 N n a0 x1 x2 g)) (none)) rfl (fun e => by cases e) (by decide) (rcV_ok rfl) ?_ (co_X1_goOn N q) lb_X1_goOn 3000 7 S_X1_goOn_7 _ _ h ls_X1_goOn_7 hf
    intro pc ls st g e
    rcases kb_s e with ⟨rfl, e⟩ | e
    · obtain ⟨a0, e0, f0⟩ := lgr_s e
      obtain ⟨x1, e1, f1⟩ := lgi_s f0
      obtain ⟨x2, e2, f2⟩ := lgi_s f1
      obtain ⟨qe, fe⟩ := pe_s f2
      subst qe
      exact MW.sub (List.forall_mem_cons.mpr ⟨lg_mem e0, List.forall_mem_cons.mpr ⟨lg_mem e1, List.forall_mem_cons.mpr ⟨lg_mem e2, fun _ h => absurd h List.not_mem_nil⟩⟩⟩) (ih a0 x1 x2 g fe)
    cases e
set_option maxRecDepth 100000 in
theorem m_X1_goOn (N : Nat) {a0 : Nat} {x1 : Int32} {h : mH} {q : mH} (hf : f_X1_goOn N a0 x1 h = some q) : MM y_X1_goOn 7 [.ref a0, .int x1] h none q := by
  refine MM.of (mFx (j := 52) rfl).2.2.2.1 (Nat.le_of_ble_eq_true rfl) (fun X => ?_)
  refine ev_ok (o := 1) (ini := false) (Cl := C_X1_goOn N) (Rc := RcV) (B := B_X1_goOn) (K := fun pc ls st g => kb pc 7 (lgr 0 ls fun a0 => lgi 1 ls fun x1 => lgi 2 ls fun x2 => pe st (L_X1_goOn_7 N N a0 x1 x2 g)) (none)) rfl (fun e => by cases e) (by decide) (rcV_ok rfl) ?_ (co_X1_goOn N q) lb_X1_goOn 3000 0 S_X1_goOn_0 _ _ h ls_X1_goOn_0 hf
  intro pc ls st g e
  rcases kb_s e with ⟨rfl, e⟩ | e
  · obtain ⟨a0, e0, f0⟩ := lgr_s e
    obtain ⟨x1, e1, f1⟩ := lgi_s f0
    obtain ⟨x2, e2, f2⟩ := lgi_s f1
    obtain ⟨qe, fe⟩ := pe_s f2
    subst qe
    exact MW.sub (List.forall_mem_cons.mpr ⟨lg_mem e0, List.forall_mem_cons.mpr ⟨lg_mem e1, List.forall_mem_cons.mpr ⟨lg_mem e2, fun _ h => absurd h List.not_mem_nil⟩⟩⟩) (t_X1_goOn_7 N N a0 x1 x2 g fe)
  cases e
def L_X1_make_173 (N : Nat) : Nat → Nat → Int32 → mH → Option (mH)
  | 0, _, _, _ => none
  | n + 1, a0, x4, h =>
    (gI h 1 a0 0).bind fun v1 =>
    (rcv h 1 a0).bind fun _ =>
    (f_X1_rowsOf N a0 (iSub v1 (jI 1)) h).bind fun p2 =>
    if x4 < p2.1 then
      (gL p2.2 1 a0 16).bind fun v3 =>
      (rcv p2.2 1 a0).bind fun _ =>
      (f_X1_wayAt N a0 (iAdd (iMul x4 (jI 20)) (jI 19)) p2.2).bind fun p4 =>
      (pV p4.2 1 a0 16 (.long (lMin v3 p4.1))).bind fun h5 =>
      let w6 := iAdd x4 (jI 1)
      L_X1_make_173 N n a0 w6 h5
    else
      some p2.2
def L_X1_make_134 (N : Nat) : Nat → Nat → Int32 → mH → Option (mH)
  | 0, _, _, _ => none
  | n + 1, a0, x4, h =>
    (gI h 1 a0 0).bind fun v1 =>
    if x4 < v1 then
      (rcv h 1 a0).bind fun _ =>
      (f_X1_takeNext N a0 h).bind fun h2 =>
      (rcv h2 1 a0).bind fun _ =>
      (f_X1_goOn N a0 x4 h2).bind fun h3 =>
      let w4 := iAdd x4 (jI 1)
      L_X1_make_134 N n a0 w4 h3
    else
      (rcv h 1 a0).bind fun _ =>
      (f_X1_takeNext N a0 h).bind fun h5 =>
      (pV h5 1 a0 16 (.long (jL 9223372036854775807))).bind fun h6 =>
      L_X1_make_173 N N a0 (jI 0) h6
def L_X1_make_99 (N : Nat) : Nat → Nat → Int32 → mH → Option (mH)
  | 0, _, _, _ => none
  | n + 1, a0, x4, h =>
    if x4 < (jI 19) then
      (gI h 1 a0 1).bind fun v1 =>
      (rcv h 1 a0).bind fun _ =>
      (f_X1_widthBy N a0 v1 x4 (jI 0) h).bind fun p2 =>
      (rcv p2.2 1 a0).bind fun _ =>
      (f_X1_goTo N a0 (jI 0) p2.1 x4 (jL 0) p2.2).bind fun h3 =>
      let w4 := iAdd x4 (jI 1)
      L_X1_make_99 N n a0 w4 h3
    else
      L_X1_make_134 N N a0 (jI 1) h
def L_X1_make_29 (N : Nat) : Nat → Nat → Nat → Nat → Int32 → mH → Option (mH)
  | 0, _, _, _, _, _ => none
  | n + 1, a0, a1, a2, x4, h =>
    (gI h 1 a0 0).bind fun v1 =>
    if x4 < v1 then
      (gR h 1 a0 4).bind fun v2 =>
      (rcv h 0 a1).bind fun _ =>
      (f_X0_ofBand N a1 x4 (jI 3) h).bind fun p3 =>
      (stI 0 p3.2 v2 x4 p3.1).bind fun h4 =>
      (gR h4 1 a0 5).bind fun v5 =>
      (rcv h4 5 a2).bind fun _ =>
      (f_X5_intAt N a2 x4 h4).bind fun p6 =>
      (stI 0 p6.2 v5 x4 p6.1).bind fun h7 =>
      let w8 := iAdd x4 (jI 1)
      L_X1_make_29 N n a0 a1 a2 w8 h7
    else
      (rcv h 1 a0).bind fun _ =>
      (f_X1_setRanges N a0 h).bind fun h9 =>
      (rcv h9 1 a0).bind fun _ =>
      (f_X1_costOfTrial N a0 h9).bind fun p10 =>
      (pV p10.2 1 a0 3 (.int p10.1)).bind fun h11 =>
      (rcv h11 1 a0).bind fun _ =>
      (f_X1_narrowRanges N a0 h11).bind fun h12 =>
      (rcv h12 1 a0).bind fun _ =>
      (f_X1_makeRoom N a0 h12).bind fun h13 =>
      (rcv h13 1 a0).bind fun _ =>
      (f_X1_emptyNext N a0 (jI 0) h13).bind fun h14 =>
      L_X1_make_99 N N a0 (jI 0) h14
def f_X1_make (N : Nat) (a0 : Nat) (a1 : Nat) (a2 : Nat) (x3 : Int32) (h : mH) : Option (mH) :=
  (gI h 0 a1 2).bind fun v1 =>
  (pV h 1 a0 0 (.int (iMin v1 (jI 8)))).bind fun h2 =>
  (gI h2 0 a1 5).bind fun v3 =>
  (pV h2 1 a0 1 (.int v3)).bind fun h4 =>
  (pV h4 1 a0 2 (.int x3)).bind fun h5 =>
  L_X1_make_29 N N a0 a1 a2 (jI 0) h5
def y_X1_make : mM := (yX1_make, cX1_make, 5, none)
def B_X1_make : List (Nat × List mI) := [(71, [(.aload_n 0, 1, [0], []), (.invokevirtual 87, 3, [0, 42, 0, 1, 210], []), (.aload_n 0, 1, [0], []), (.aload_n 0, 1, [0], []), (.invokevirtual 90, 3, [0, 43, 0, 1, 211], []), (.putfield 94, 3, [1, 3, 0, 93], []), (.aload_n 0, 1, [0], []), (.invokevirtual 97, 3, [0, 46, 0, 1, 214], []), (.aload_n 0, 1, [0], []), (.invokevirtual 100, 3, [0, 47, 0, 1, 215], []), (.aload_n 0, 1, [0], []), (.iconst 0, 1, [], [0]), (.invokevirtual 103, 3, [0, 50, 1, 1, 217], []), (.iconst 0, 1, [], [0]), (.istore 4, 2, [4], [])]), (131, [(.iconst 1, 1, [], [1]), (.istore 4, 2, [4], [])]), (159, [(.aload_n 0, 1, [0], []), (.invokevirtual 115, 3, [0, 51, 0, 1, 222], []), (.aload_n 0, 1, [0], []), (.ldc2_w 121, 3, [3], [9223372036854775807]), (.putfield 51, 3, [1, 16, 1, 106], []), (.iconst 0, 1, [], [0]), (.istore 4, 2, [4], [])]), (217, [(.return_, 1, [], [])])]
def S_X1_make_0 : List mI := [(.aload_n 0, 1, [0], []), (.aload_n 1, 1, [1], []), (.getfield 61, 3, [0, 2, 0, 8], []), (.bipush 8, 2, [], [8]), (.invokestatic 65, 3, [7, 0, 0, 0, 29], []), (.putfield 71, 3, [1, 0, 0, 90], []), (.aload_n 0, 1, [0], []), (.aload_n 1, 1, [1], []), (.getfield 72, 3, [0, 5, 0, 19], []), (.putfield 75, 3, [1, 1, 0, 91], []), (.aload_n 0, 1, [0], []), (.iload_n 3, 1, [3], []), (.putfield 76, 3, [1, 2, 0, 92], []), (.iconst 0, 1, [], [0]), (.istore 4, 2, [4], [])]
def S_X1_make_29 : List mI := [(.iload 4, 2, [4], []), (.aload_n 0, 1, [0], []), (.getfield 71, 3, [1, 0, 0, 90], []), (.if_icmp .ge 36, 3, [71], []), (.aload_n 0, 1, [0], []), (.getfield 13, 3, [1, 4, 2, 94], []), (.iload 4, 2, [4], []), (.aload_n 1, 1, [1], []), (.iload 4, 2, [4], []), (.iconst 3, 1, [], [3]), (.invokevirtual 79, 3, [0, 9, 2, 0, 208], []), (.iastore, 1, [], []), (.aload_n 0, 1, [0], []), (.getfield 17, 3, [1, 5, 2, 95], []), (.iload 4, 2, [4], []), (.aload_n 2, 1, [2], []), (.iload 4, 2, [4], []), (.invokevirtual 82, 3, [0, 76, 1, 5, 209], []), (.iastore, 1, [], []), (.iinc 4 1, 3, [4], [1]), (.goto (-39), 3, [29], [])]
def S_X1_make_99 : List mI := [(.iload 4, 2, [4], []), (.bipush 19, 2, [], [19]), (.if_icmp .ge 28, 3, [131], []), (.aload_n 0, 1, [0], []), (.iconst 0, 1, [], [0]), (.aload_n 0, 1, [0], []), (.aload_n 0, 1, [0], []), (.getfield 75, 3, [1, 1, 0, 91], []), (.iload 4, 2, [4], []), (.iconst 0, 1, [], [0]), (.invokevirtual 107, 3, [0, 45, 3, 1, 212], []), (.iload 4, 2, [4], []), (.lconst 0, 1, [], [0]), (.invokevirtual 111, 3, [0, 55, 4, 1, 220], []), (.iinc 4 1, 3, [4], [1]), (.goto (-29), 3, [99], [])]
def S_X1_make_134 : List mI := [(.iload 4, 2, [4], []), (.aload_n 0, 1, [0], []), (.getfield 71, 3, [1, 0, 0, 90], []), (.if_icmp .ge 19, 3, [159], []), (.aload_n 0, 1, [0], []), (.invokevirtual 115, 3, [0, 51, 0, 1, 222], []), (.aload_n 0, 1, [0], []), (.iload 4, 2, [4], []), (.invokevirtual 118, 3, [0, 52, 1, 1, 223], []), (.iinc 4 1, 3, [4], [1]), (.goto (-22), 3, [134], [])]
def S_X1_make_173 : List mI := [(.iload 4, 2, [4], []), (.aload_n 0, 1, [0], []), (.aload_n 0, 1, [0], []), (.getfield 71, 3, [1, 0, 0, 90], []), (.iconst 1, 1, [], [1]), (.isub, 1, [], []), (.invokevirtual 123, 3, [0, 48, 1, 1, 216], []), (.if_icmp .ge 32, 3, [217], []), (.aload_n 0, 1, [0], []), (.aload_n 0, 1, [0], []), (.getfield 51, 3, [1, 16, 1, 106], []), (.aload_n 0, 1, [0], []), (.iload 4, 2, [4], []), (.bipush 20, 2, [], [20]), (.imul, 1, [], []), (.bipush 19, 2, [], [19]), (.iadd, 1, [], []), (.invokevirtual 126, 3, [0, 49, 1, 1, 224], []), (.invokestatic 130, 3, [9, 0, 0, 0, 33], []), (.putfield 51, 3, [1, 16, 1, 106], []), (.iinc 4 1, 3, [4], [1]), (.goto (-41), 3, [173], [])]
theorem lb_X1_make : B_X1_make.all (fun b => lst y_X1_make.2.1 1 y_X1_make.2.2.1 false b.1 b.2) = true := by decide +kernel
theorem ls_X1_make_0 : lst y_X1_make.2.1 1 y_X1_make.2.2.1 false 0 S_X1_make_0 = true := by decide +kernel
theorem ls_X1_make_29 : lst y_X1_make.2.1 1 y_X1_make.2.2.1 false 29 S_X1_make_29 = true := by decide +kernel
theorem ls_X1_make_99 : lst y_X1_make.2.1 1 y_X1_make.2.2.1 false 99 S_X1_make_99 = true := by decide +kernel
theorem ls_X1_make_134 : lst y_X1_make.2.1 1 y_X1_make.2.2.1 false 134 S_X1_make_134 = true := by decide +kernel
theorem ls_X1_make_173 : lst y_X1_make.2.1 1 y_X1_make.2.2.1 false 173 S_X1_make_173 = true := by decide +kernel
def C_X1_make (N : Nat) : Nat → List Value → mH → (Option Value → mH → Option (mH)) → Option (mH) := fun j as g k => kb j 9 (pr1 as fun b0 as => pp1 as fun b1 as => pp1 as fun b2 as => pe as ((f_X0_ofBand N b0 b1 b2 g).bind fun p => k (some (.int p.1)) p.2)) (kb j 76 (pr1 as fun b0 as => pp1 as fun b1 as => pe as ((f_X5_intAt N b0 b1 g).bind fun p => k (some (.int p.1)) p.2)) (kb j 42 (pr1 as fun b0 as => pe as ((f_X1_setRanges N b0 g).bind fun p => k none p)) (kb j 43 (pr1 as fun b0 as => pe as ((f_X1_costOfTrial N b0 g).bind fun p => k (some (.int p.1)) p.2)) (kb j 46 (pr1 as fun b0 as => pe as ((f_X1_narrowRanges N b0 g).bind fun p => k none p)) (kb j 47 (pr1 as fun b0 as => pe as ((f_X1_makeRoom N b0 g).bind fun p => k none p)) (kb j 50 (pr1 as fun b0 as => pp1 as fun b1 as => pe as ((f_X1_emptyNext N b0 b1 g).bind fun p => k none p)) (kb j 45 (pr1 as fun b0 as => pp1 as fun b1 as => pp1 as fun b2 as => pp1 as fun b3 as => pe as ((f_X1_widthBy N b0 b1 b2 b3 g).bind fun p => k (some (.int p.1)) p.2)) (kb j 55 (pr1 as fun b0 as => pp1 as fun b1 as => pp1 as fun b2 as => pp1 as fun b3 as => pl1 as fun b4 as => pe as ((f_X1_goTo N b0 b1 b2 b3 b4 g).bind fun p => k none p)) (kb j 51 (pr1 as fun b0 as => pe as ((f_X1_takeNext N b0 g).bind fun p => k none p)) (kb j 52 (pr1 as fun b0 as => pp1 as fun b1 as => pe as ((f_X1_goOn N b0 b1 g).bind fun p => k none p)) (kb j 48 (pr1 as fun b0 as => pp1 as fun b1 as => pe as ((f_X1_rowsOf N b0 b1 g).bind fun p => k (some (.int p.1)) p.2)) (kb j 49 (pr1 as fun b0 as => pp1 as fun b1 as => pe as ((f_X1_wayAt N b0 b1 g).bind fun p => k (some (.long p.1)) p.2)) (none)))))))))))))
theorem co_X1_make (N : Nat) (q : mH) : clOK 8 q (C_X1_make N) := by
  intro j as g k e
  rcases kb_s e with ⟨rfl, e⟩ | e
  · obtain ⟨b0, r0, q0, f0⟩ := pr1_s e
    obtain ⟨b1, r1, q1, f1⟩ := pp1_s f0
    obtain ⟨b2, r2, q2, f2⟩ := pp1_s f1
    obtain ⟨qe, fe⟩ := pe_s f2
    obtain ⟨p, e1, e2⟩ := bnd_s fe
    subst qe
    subst q2
    subst q1
    subst q0
    exact ⟨_, _, _, _, 4, rfl, (by decide), m_X0_ofBand N e1, e2⟩
  rcases kb_s e with ⟨rfl, e⟩ | e
  · obtain ⟨b0, r0, q0, f0⟩ := pr1_s e
    obtain ⟨b1, r1, q1, f1⟩ := pp1_s f0
    obtain ⟨qe, fe⟩ := pe_s f1
    obtain ⟨p, e1, e2⟩ := bnd_s fe
    subst qe
    subst q1
    subst q0
    exact ⟨_, _, _, _, 4, rfl, (by decide), m_X5_intAt N e1, e2⟩
  rcases kb_s e with ⟨rfl, e⟩ | e
  · obtain ⟨b0, r0, q0, f0⟩ := pr1_s e
    obtain ⟨qe, fe⟩ := pe_s f0
    obtain ⟨p, e1, e2⟩ := bnd_s fe
    subst qe
    subst q0
    exact ⟨_, _, _, _, 4, rfl, (by decide), m_X1_setRanges N e1, e2⟩
  rcases kb_s e with ⟨rfl, e⟩ | e
  · obtain ⟨b0, r0, q0, f0⟩ := pr1_s e
    obtain ⟨qe, fe⟩ := pe_s f0
    obtain ⟨p, e1, e2⟩ := bnd_s fe
    subst qe
    subst q0
    exact ⟨_, _, _, _, 6, rfl, (by decide), m_X1_costOfTrial N e1, e2⟩
  rcases kb_s e with ⟨rfl, e⟩ | e
  · obtain ⟨b0, r0, q0, f0⟩ := pr1_s e
    obtain ⟨qe, fe⟩ := pe_s f0
    obtain ⟨p, e1, e2⟩ := bnd_s fe
    subst qe
    subst q0
    exact ⟨_, _, _, _, 4, rfl, (by decide), m_X1_narrowRanges N e1, e2⟩
  rcases kb_s e with ⟨rfl, e⟩ | e
  · obtain ⟨b0, r0, q0, f0⟩ := pr1_s e
    obtain ⟨qe, fe⟩ := pe_s f0
    obtain ⟨p, e1, e2⟩ := bnd_s fe
    subst qe
    subst q0
    exact ⟨_, _, _, _, 5, rfl, (by decide), m_X1_makeRoom N e1, e2⟩
  rcases kb_s e with ⟨rfl, e⟩ | e
  · obtain ⟨b0, r0, q0, f0⟩ := pr1_s e
    obtain ⟨b1, r1, q1, f1⟩ := pp1_s f0
    obtain ⟨qe, fe⟩ := pe_s f1
    obtain ⟨p, e1, e2⟩ := bnd_s fe
    subst qe
    subst q1
    subst q0
    exact ⟨_, _, _, _, 6, rfl, (by decide), m_X1_emptyNext N e1, e2⟩
  rcases kb_s e with ⟨rfl, e⟩ | e
  · obtain ⟨b0, r0, q0, f0⟩ := pr1_s e
    obtain ⟨b1, r1, q1, f1⟩ := pp1_s f0
    obtain ⟨b2, r2, q2, f2⟩ := pp1_s f1
    obtain ⟨b3, r3, q3, f3⟩ := pp1_s f2
    obtain ⟨qe, fe⟩ := pe_s f3
    obtain ⟨p, e1, e2⟩ := bnd_s fe
    subst qe
    subst q3
    subst q2
    subst q1
    subst q0
    exact ⟨_, _, _, _, 4, rfl, (by decide), m_X1_widthBy N e1, e2⟩
  rcases kb_s e with ⟨rfl, e⟩ | e
  · obtain ⟨b0, r0, q0, f0⟩ := pr1_s e
    obtain ⟨b1, r1, q1, f1⟩ := pp1_s f0
    obtain ⟨b2, r2, q2, f2⟩ := pp1_s f1
    obtain ⟨b3, r3, q3, f3⟩ := pp1_s f2
    obtain ⟨b4, r4, q4, f4⟩ := pl1_s f3
    obtain ⟨qe, fe⟩ := pe_s f4
    obtain ⟨p, e1, e2⟩ := bnd_s fe
    subst qe
    subst q4
    subst q3
    subst q2
    subst q1
    subst q0
    exact ⟨_, _, _, _, 5, rfl, (by decide), m_X1_goTo N e1, e2⟩
  rcases kb_s e with ⟨rfl, e⟩ | e
  · obtain ⟨b0, r0, q0, f0⟩ := pr1_s e
    obtain ⟨qe, fe⟩ := pe_s f0
    obtain ⟨p, e1, e2⟩ := bnd_s fe
    subst qe
    subst q0
    exact ⟨_, _, _, _, 4, rfl, (by decide), m_X1_takeNext N e1, e2⟩
  rcases kb_s e with ⟨rfl, e⟩ | e
  · obtain ⟨b0, r0, q0, f0⟩ := pr1_s e
    obtain ⟨b1, r1, q1, f1⟩ := pp1_s f0
    obtain ⟨qe, fe⟩ := pe_s f1
    obtain ⟨p, e1, e2⟩ := bnd_s fe
    subst qe
    subst q1
    subst q0
    exact ⟨_, _, _, _, 7, rfl, (by decide), m_X1_goOn N e1, e2⟩
  rcases kb_s e with ⟨rfl, e⟩ | e
  · obtain ⟨b0, r0, q0, f0⟩ := pr1_s e
    obtain ⟨b1, r1, q1, f1⟩ := pp1_s f0
    obtain ⟨qe, fe⟩ := pe_s f1
    obtain ⟨p, e1, e2⟩ := bnd_s fe
    subst qe
    subst q1
    subst q0
    exact ⟨_, _, _, _, 4, rfl, (by decide), m_X1_rowsOf N e1, e2⟩
  rcases kb_s e with ⟨rfl, e⟩ | e
  · obtain ⟨b0, r0, q0, f0⟩ := pr1_s e
    obtain ⟨b1, r1, q1, f1⟩ := pp1_s f0
    obtain ⟨qe, fe⟩ := pe_s f1
    obtain ⟨p, e1, e2⟩ := bnd_s fe
    subst qe
    subst q1
    subst q0
    exact ⟨_, _, _, _, 4, rfl, (by decide), m_X1_wayAt N e1, e2⟩
  cases e
set_option maxRecDepth 100000 in
theorem t_X1_make_173 {X : Nat × (Nat → Int32)} (N : Nat) {q : mH} : ∀ (n : Nat) (a0 : Nat) (x4 : Int32) (h : mH), L_X1_make_173 N n a0 x4 h = some q → MW X y_X1_make 8 173 [(0, .ref a0), (4, .int x4)] [] h none q := by
  intro n
  induction n with
  | zero => intro a0 x4 h hf; cases hf
  | succ n ih =>
    intro a0 x4 h hf
    refine ev_ok (o := 1) (ini := false) (Cl := C_X1_make N) (Rc := RcV) (B := B_X1_make) (K := fun pc ls st g => kb pc 173 (lgr 0 ls fun a0 => lgi 4 ls fun x4 => pe st (L_X1_make_173 N n a0 x4 g)) (none)) rfl (fun e => by cases e) (by decide) (rcV_ok rfl) ?_ (co_X1_make N q) lb_X1_make 3000 173 S_X1_make_173 _ _ h ls_X1_make_173 hf
    intro pc ls st g e
    rcases kb_s e with ⟨rfl, e⟩ | e
    · obtain ⟨a0, e0, f0⟩ := lgr_s e
      obtain ⟨x4, e1, f1⟩ := lgi_s f0
      obtain ⟨qe, fe⟩ := pe_s f1
      subst qe
      exact MW.sub (List.forall_mem_cons.mpr ⟨lg_mem e0, List.forall_mem_cons.mpr ⟨lg_mem e1, fun _ h => absurd h List.not_mem_nil⟩⟩) (ih a0 x4 g fe)
    cases e
set_option maxRecDepth 100000 in
theorem t_X1_make_134 {X : Nat × (Nat → Int32)} (N : Nat) {q : mH} : ∀ (n : Nat) (a0 : Nat) (x4 : Int32) (h : mH), L_X1_make_134 N n a0 x4 h = some q → MW X y_X1_make 8 134 [(0, .ref a0), (4, .int x4)] [] h none q := by
  intro n
  induction n with
  | zero => intro a0 x4 h hf; cases hf
  | succ n ih =>
    intro a0 x4 h hf
    refine ev_ok (o := 1) (ini := false) (Cl := C_X1_make N) (Rc := RcV) (B := B_X1_make) (K := fun pc ls st g => kb pc 134 (lgr 0 ls fun a0 => lgi 4 ls fun x4 => pe st (L_X1_make_134 N n a0 x4 g)) (kb pc 173 (lgr 0 ls fun a0 => lgi 4 ls fun x4 => pe st (L_X1_make_173 N N a0 x4 g)) (none))) rfl (fun e => by cases e) (by decide) (rcV_ok rfl) ?_ (co_X1_make N q) lb_X1_make 3000 134 S_X1_make_134 _ _ h ls_X1_make_134 hf
    intro pc ls st g e
    rcases kb_s e with ⟨rfl, e⟩ | e
    · obtain ⟨a0, e0, f0⟩ := lgr_s e
      obtain ⟨x4, e1, f1⟩ := lgi_s f0
      obtain ⟨qe, fe⟩ := pe_s f1
      subst qe
      exact MW.sub (List.forall_mem_cons.mpr ⟨lg_mem e0, List.forall_mem_cons.mpr ⟨lg_mem e1, fun _ h => absurd h List.not_mem_nil⟩⟩) (ih a0 x4 g fe)
    rcases kb_s e with ⟨rfl, e⟩ | e
    · obtain ⟨a0, e0, f0⟩ := lgr_s e
      obtain ⟨x4, e1, f1⟩ := lgi_s f0
      obtain ⟨qe, fe⟩ := pe_s f1
      subst qe
      exact MW.sub (List.forall_mem_cons.mpr ⟨lg_mem e0, List.forall_mem_cons.mpr ⟨lg_mem e1, fun _ h => absurd h List.not_mem_nil⟩⟩) (t_X1_make_173 N N a0 x4 g fe)
    cases e
set_option maxRecDepth 100000 in
theorem t_X1_make_99 {X : Nat × (Nat → Int32)} (N : Nat) {q : mH} : ∀ (n : Nat) (a0 : Nat) (x4 : Int32) (h : mH), L_X1_make_99 N n a0 x4 h = some q → MW X y_X1_make 8 99 [(0, .ref a0), (4, .int x4)] [] h none q := by
  intro n
  induction n with
  | zero => intro a0 x4 h hf; cases hf
  | succ n ih =>
    intro a0 x4 h hf
    refine ev_ok (o := 1) (ini := false) (Cl := C_X1_make N) (Rc := RcV) (B := B_X1_make) (K := fun pc ls st g => kb pc 99 (lgr 0 ls fun a0 => lgi 4 ls fun x4 => pe st (L_X1_make_99 N n a0 x4 g)) (kb pc 134 (lgr 0 ls fun a0 => lgi 4 ls fun x4 => pe st (L_X1_make_134 N N a0 x4 g)) (none))) rfl (fun e => by cases e) (by decide) (rcV_ok rfl) ?_ (co_X1_make N q) lb_X1_make 3000 99 S_X1_make_99 _ _ h ls_X1_make_99 hf
    intro pc ls st g e
    rcases kb_s e with ⟨rfl, e⟩ | e
    · obtain ⟨a0, e0, f0⟩ := lgr_s e
      obtain ⟨x4, e1, f1⟩ := lgi_s f0
      obtain ⟨qe, fe⟩ := pe_s f1
      subst qe
      exact MW.sub (List.forall_mem_cons.mpr ⟨lg_mem e0, List.forall_mem_cons.mpr ⟨lg_mem e1, fun _ h => absurd h List.not_mem_nil⟩⟩) (ih a0 x4 g fe)
    rcases kb_s e with ⟨rfl, e⟩ | e
    · obtain ⟨a0, e0, f0⟩ := lgr_s e
      obtain ⟨x4, e1, f1⟩ := lgi_s f0
      obtain ⟨qe, fe⟩ := pe_s f1
      subst qe
      exact MW.sub (List.forall_mem_cons.mpr ⟨lg_mem e0, List.forall_mem_cons.mpr ⟨lg_mem e1, fun _ h => absurd h List.not_mem_nil⟩⟩) (t_X1_make_134 N N a0 x4 g fe)
    cases e
set_option maxRecDepth 100000 in
theorem t_X1_make_29 {X : Nat × (Nat → Int32)} (N : Nat) {q : mH} : ∀ (n : Nat) (a0 : Nat) (a1 : Nat) (a2 : Nat) (x4 : Int32) (h : mH), L_X1_make_29 N n a0 a1 a2 x4 h = some q → MW X y_X1_make 8 29 [(0, .ref a0), (1, .ref a1), (2, .ref a2), (4, .int x4)] [] h none q := by
  intro n
  induction n with
  | zero => intro a0 a1 a2 x4 h hf; cases hf
  | succ n ih =>
    intro a0 a1 a2 x4 h hf
    refine ev_ok (o := 1) (ini := false) (Cl := C_X1_make N) (Rc := RcV) (B := B_X1_make) (K := fun pc ls st g => kb pc 29 (lgr 0 ls fun a0 => lgr 1 ls fun a1 => lgr 2 ls fun a2 => lgi 4 ls fun x4 => pe st (L_X1_make_29 N n a0 a1 a2 x4 g)) (kb pc 99 (lgr 0 ls fun a0 => lgi 4 ls fun x4 => pe st (L_X1_make_99 N N a0 x4 g)) (none))) rfl (fun e => by cases e) (by decide) (rcV_ok rfl) ?_ (co_X1_make N q) lb_X1_make 3000 29 S_X1_make_29 _ _ h ls_X1_make_29 hf
    intro pc ls st g e
    rcases kb_s e with ⟨rfl, e⟩ | e
    · obtain ⟨a0, e0, f0⟩ := lgr_s e
      obtain ⟨a1, e1, f1⟩ := lgr_s f0
      obtain ⟨a2, e2, f2⟩ := lgr_s f1
      obtain ⟨x4, e3, f3⟩ := lgi_s f2
      obtain ⟨qe, fe⟩ := pe_s f3
      subst qe
      exact MW.sub (List.forall_mem_cons.mpr ⟨lg_mem e0, List.forall_mem_cons.mpr ⟨lg_mem e1, List.forall_mem_cons.mpr ⟨lg_mem e2, List.forall_mem_cons.mpr ⟨lg_mem e3, fun _ h => absurd h List.not_mem_nil⟩⟩⟩⟩) (ih a0 a1 a2 x4 g fe)
    rcases kb_s e with ⟨rfl, e⟩ | e
    · obtain ⟨a0, e0, f0⟩ := lgr_s e
      obtain ⟨x4, e1, f1⟩ := lgi_s f0
      obtain ⟨qe, fe⟩ := pe_s f1
      subst qe
      exact MW.sub (List.forall_mem_cons.mpr ⟨lg_mem e0, List.forall_mem_cons.mpr ⟨lg_mem e1, fun _ h => absurd h List.not_mem_nil⟩⟩) (t_X1_make_99 N N a0 x4 g fe)
    cases e
set_option maxRecDepth 100000 in
theorem m_X1_make (N : Nat) {a0 : Nat} {a1 : Nat} {a2 : Nat} {x3 : Int32} {h : mH} {q : mH} (hf : f_X1_make N a0 a1 a2 x3 h = some q) : MM y_X1_make 8 [.ref a0, .ref a1, .ref a2, .int x3] h none q := by
  refine MM.of (mFx (j := 41) rfl).2.2.2.1 (Nat.le_of_ble_eq_true rfl) (fun X => ?_)
  refine ev_ok (o := 1) (ini := false) (Cl := C_X1_make N) (Rc := RcV) (B := B_X1_make) (K := fun pc ls st g => kb pc 29 (lgr 0 ls fun a0 => lgr 1 ls fun a1 => lgr 2 ls fun a2 => lgi 4 ls fun x4 => pe st (L_X1_make_29 N N a0 a1 a2 x4 g)) (none)) rfl (fun e => by cases e) (by decide) (rcV_ok rfl) ?_ (co_X1_make N q) lb_X1_make 3000 0 S_X1_make_0 _ _ h ls_X1_make_0 hf
  intro pc ls st g e
  rcases kb_s e with ⟨rfl, e⟩ | e
  · obtain ⟨a0, e0, f0⟩ := lgr_s e
    obtain ⟨a1, e1, f1⟩ := lgr_s f0
    obtain ⟨a2, e2, f2⟩ := lgr_s f1
    obtain ⟨x4, e3, f3⟩ := lgi_s f2
    obtain ⟨qe, fe⟩ := pe_s f3
    subst qe
    exact MW.sub (List.forall_mem_cons.mpr ⟨lg_mem e0, List.forall_mem_cons.mpr ⟨lg_mem e1, List.forall_mem_cons.mpr ⟨lg_mem e2, List.forall_mem_cons.mpr ⟨lg_mem e3, fun _ h => absurd h List.not_mem_nil⟩⟩⟩⟩) (t_X1_make_29 N N a0 a1 a2 x4 g fe)
  cases e
def f_X2_init (N : Nat) (a0 : Nat) (h : mH) : Option (mH) :=
  (nwA h 0 (jI 8)).bind fun h1 =>
  (pV h1 2 a0 3 (.ref h.1)).bind fun h2 =>
  (nwA h2 0 (jI 8)).bind fun h3 =>
  (pV h3 2 a0 4 (.ref h2.1)).bind fun h4 =>
  (nwA h4 0 (jI 8)).bind fun h5 =>
  (pV h5 2 a0 5 (.ref h4.1)).bind fun h6 =>
  some h6
def y_X2_init : mM := (yX2_init, cX2_init, 1, none)
def B_X2_init : List (Nat × List mI) := []
def S_X2_init_0 : List mI := [(.aload_n 0, 1, [0], []), (.invokespecial 3, 3, [5, 0, 0, 0, 9], []), (.aload_n 0, 1, [0], []), (.bipush 8, 2, [], [8]), (.newarray .int, 2, [0], []), (.putfield 11, 3, [2, 3, 2, 87], []), (.aload_n 0, 1, [0], []), (.bipush 8, 2, [], [8]), (.newarray .int, 2, [0], []), (.putfield 15, 3, [2, 4, 2, 88], []), (.aload_n 0, 1, [0], []), (.bipush 8, 2, [], [8]), (.newarray .int, 2, [0], []), (.putfield 18, 3, [2, 5, 2, 89], []), (.return_, 1, [], [])]
theorem lb_X2_init : B_X2_init.all (fun b => lst y_X2_init.2.1 2 y_X2_init.2.2.1 true b.1 b.2) = true := by decide +kernel
theorem ls_X2_init_0 : lst y_X2_init.2.1 2 y_X2_init.2.2.1 true 0 S_X2_init_0 = true := by decide +kernel
def C_X2_init (N : Nat) : Nat → List Value → mH → (Option Value → mH → Option (mH)) → Option (mH) := fun j as g k => none
theorem co_X2_init (N : Nat) (q : mH) : clOK 4 q (C_X2_init N) := by
  intro j as g k e
  cases e
set_option maxRecDepth 100000 in
theorem m_X2_init (N : Nat) {a0 : Nat} {h : mH} {q : mH} (hf : f_X2_init N a0 h = some q) : MM y_X2_init 4 [.ref a0] h none q := by
  refine MM.of (mFx (j := 56) rfl).2.2.2.1 (Nat.le_of_ble_eq_true rfl) (fun X => ?_)
  refine ev_ok (o := 2) (ini := true) (Cl := C_X2_init N) (Rc := RcV) (B := B_X2_init) (K := fun pc ls st g => none) rfl (fun _ => rfl) (by decide) (rcV_ok rfl) ?_ (co_X2_init N q) lb_X2_init 3000 0 S_X2_init_0 _ _ h ls_X2_init_0 hf
  intro pc ls st g e
  cases e
def f_X2_rodAtPlace (N : Nat) (a0 : Nat) (x1 : Int32) (h : mH) : Option (Int32 × mH) :=
  if x1 < 0 then
    some (jI (-1), h)
  else
    (gI h 2 a0 1).bind fun v1 =>
    if x1 < v1 then
      (gR h 2 a0 5).bind fun v2 =>
      (ldI 0 h v2 x1).bind fun v3 =>
      some (v3, h)
    else
      some (jI (-1), h)
def y_X2_rodAtPlace : mM := (yX2_rodAtPlace, cX2_rodAtPlace, 2, (some .int))
def B_X2_rodAtPlace : List (Nat × List mI) := [(21, [(.iconst (-1), 1, [], [-1])]), (22, [(.ireturn, 1, [], [])])]
def S_X2_rodAtPlace_0 : List mI := [(.iload_n 1, 1, [1], []), (.ifCond .lt 20, 3, [21], []), (.iload_n 1, 1, [1], []), (.aload_n 0, 1, [0], []), (.getfield 21, 3, [2, 1, 0, 85], []), (.if_icmp .ge 12, 3, [21], []), (.aload_n 0, 1, [0], []), (.getfield 18, 3, [2, 5, 2, 89], []), (.iload_n 1, 1, [1], []), (.iaload, 1, [0], []), (.goto 4, 3, [22], [])]
theorem lb_X2_rodAtPlace : B_X2_rodAtPlace.all (fun b => lst y_X2_rodAtPlace.2.1 2 y_X2_rodAtPlace.2.2.1 false b.1 b.2) = true := by decide +kernel
theorem ls_X2_rodAtPlace_0 : lst y_X2_rodAtPlace.2.1 2 y_X2_rodAtPlace.2.2.1 false 0 S_X2_rodAtPlace_0 = true := by decide +kernel
def C_X2_rodAtPlace (N : Nat) : Nat → List Value → mH → (Option Value → mH → Option (Int32 × mH)) → Option (Int32 × mH) := fun j as g k => none
theorem co_X2_rodAtPlace (N : Nat) (q : Int32 × mH) : clOK 4 q (C_X2_rodAtPlace N) := by
  intro j as g k e
  cases e
set_option maxRecDepth 100000 in
theorem m_X2_rodAtPlace (N : Nat) {a0 : Nat} {x1 : Int32} {h : mH} {q : Int32 × mH} (hf : f_X2_rodAtPlace N a0 x1 h = some q) : MM y_X2_rodAtPlace 4 [.ref a0, .int x1] h (some (.int q.1)) q.2 := by
  refine MM.of (mFx (j := 57) rfl).2.2.2.1 (Nat.le_of_ble_eq_true rfl) (fun X => ?_)
  refine ev_ok (o := 2) (ini := false) (Cl := C_X2_rodAtPlace N) (Rc := RcI) (B := B_X2_rodAtPlace) (K := fun pc ls st g => none) rfl (fun e => by cases e) (by decide) (rcI_ok rfl) ?_ (co_X2_rodAtPlace N q) lb_X2_rodAtPlace 3000 0 S_X2_rodAtPlace_0 _ _ h ls_X2_rodAtPlace_0 hf
  intro pc ls st g e
  cases e
def L_X2_differenceAt_31 (N : Nat) : Nat → Nat → Int32 → Int32 → Int32 → mH → Option (Int32 × mH)
  | 0, _, _, _, _, _ => none
  | n + 1, a0, x1, x3, x4, h =>
    if x1 < x4 then
      (gI h 2 a0 2).bind fun v1 =>
      some (iAbs (iSub x3 v1), h)
    else
      (gR h 2 a0 3).bind fun v2 =>
      (gR h 2 a0 4).bind fun v3 =>
      (ldI 0 h v3 x4).bind fun v4 =>
      (ldI 0 h v2 v4).bind fun v5 =>
      let w6 := iAdd x3 (iMul (jI 2) v5)
      let w7 := iAdd x4 (jI 1)
      L_X2_differenceAt_31 N n a0 x1 w6 w7 h
def f_X2_differenceAt (N : Nat) (a0 : Nat) (x1 : Int32) (h : mH) : Option (Int32 × mH) :=
  (gI h 2 a0 1).bind fun v1 =>
  if (jI 2) = 0 then none else
  let w2 := iDiv v1 (jI 2)
  if x1 < (iSub w2 (jI 1)) then
    some (jI 0, h)
  else
    if x1 < (jI 8) then
      let w3 := iAdd (iSub x1 w2) (jI 1)
      L_X2_differenceAt_31 N N a0 x1 (jI 0) w3 h
    else
      some (jI 0, h)
def y_X2_differenceAt : mM := (yX2_differenceAt, cX2_differenceAt, 5, (some .int))
def B_X2_differenceAt : List (Nat × List mI) := [(20, [(.iconst 0, 1, [], [0]), (.ireturn, 1, [], [])]), (22, [(.iconst 0, 1, [], [0]), (.istore_n 3, 1, [3], []), (.iload_n 1, 1, [1], []), (.iload_n 2, 1, [2], []), (.isub, 1, [], []), (.iconst 1, 1, [], [1]), (.iadd, 1, [], []), (.istore 4, 2, [4], [])]), (60, [(.iload_n 3, 1, [3], []), (.aload_n 0, 1, [0], []), (.getfield 34, 3, [2, 2, 0, 86], []), (.isub, 1, [], []), (.invokestatic 61, 3, [8, 0, 0, 0, 27], []), (.ireturn, 1, [], [])])]
def S_X2_differenceAt_0 : List mI := [(.aload_n 0, 1, [0], []), (.getfield 21, 3, [2, 1, 0, 85], []), (.iconst 2, 1, [], [2]), (.idiv, 1, [], []), (.istore_n 2, 1, [2], []), (.iload_n 1, 1, [1], []), (.iload_n 2, 1, [2], []), (.iconst 1, 1, [], [1]), (.isub, 1, [], []), (.if_icmp .lt 9, 3, [20], []), (.iload_n 1, 1, [1], []), (.bipush 8, 2, [], [8]), (.if_icmp .lt 5, 3, [22], [])]
def S_X2_differenceAt_31 : List mI := [(.iload 4, 2, [4], []), (.iload_n 1, 1, [1], []), (.if_icmp .gt 26, 3, [60], []), (.iload_n 3, 1, [3], []), (.iconst 2, 1, [], [2]), (.aload_n 0, 1, [0], []), (.getfield 11, 3, [2, 3, 2, 87], []), (.aload_n 0, 1, [0], []), (.getfield 15, 3, [2, 4, 2, 88], []), (.iload 4, 2, [4], []), (.iaload, 1, [0], []), (.iaload, 1, [0], []), (.imul, 1, [], []), (.iadd, 1, [], []), (.istore_n 3, 1, [3], []), (.iinc 4 1, 3, [4], [1]), (.goto (-26), 3, [31], [])]
theorem lb_X2_differenceAt : B_X2_differenceAt.all (fun b => lst y_X2_differenceAt.2.1 2 y_X2_differenceAt.2.2.1 false b.1 b.2) = true := by decide +kernel
theorem ls_X2_differenceAt_0 : lst y_X2_differenceAt.2.1 2 y_X2_differenceAt.2.2.1 false 0 S_X2_differenceAt_0 = true := by decide +kernel
theorem ls_X2_differenceAt_31 : lst y_X2_differenceAt.2.1 2 y_X2_differenceAt.2.2.1 false 31 S_X2_differenceAt_31 = true := by decide +kernel
def C_X2_differenceAt (N : Nat) : Nat → List Value → mH → (Option Value → mH → Option (Int32 × mH)) → Option (Int32 × mH) := fun j as g k => none
theorem co_X2_differenceAt (N : Nat) (q : Int32 × mH) : clOK 4 q (C_X2_differenceAt N) := by
  intro j as g k e
  cases e
set_option maxRecDepth 100000 in
theorem t_X2_differenceAt_31 {X : Nat × (Nat → Int32)} (N : Nat) {q : Int32 × mH} : ∀ (n : Nat) (a0 : Nat) (x1 : Int32) (x3 : Int32) (x4 : Int32) (h : mH), L_X2_differenceAt_31 N n a0 x1 x3 x4 h = some q → MW X y_X2_differenceAt 4 31 [(0, .ref a0), (1, .int x1), (3, .int x3), (4, .int x4)] [] h (some (.int q.1)) q.2 := by
  intro n
  induction n with
  | zero => intro a0 x1 x3 x4 h hf; cases hf
  | succ n ih =>
    intro a0 x1 x3 x4 h hf
    refine ev_ok (o := 2) (ini := false) (Cl := C_X2_differenceAt N) (Rc := RcI) (B := B_X2_differenceAt) (K := fun pc ls st g => kb pc 31 (lgr 0 ls fun a0 => lgi 1 ls fun x1 => lgi 3 ls fun x3 => lgi 4 ls fun x4 => pe st (L_X2_differenceAt_31 N n a0 x1 x3 x4 g)) (none)) rfl (fun e => by cases e) (by decide) (rcI_ok rfl) ?_ (co_X2_differenceAt N q) lb_X2_differenceAt 3000 31 S_X2_differenceAt_31 _ _ h ls_X2_differenceAt_31 hf
    intro pc ls st g e
    rcases kb_s e with ⟨rfl, e⟩ | e
    · obtain ⟨a0, e0, f0⟩ := lgr_s e
      obtain ⟨x1, e1, f1⟩ := lgi_s f0
      obtain ⟨x3, e2, f2⟩ := lgi_s f1
      obtain ⟨x4, e3, f3⟩ := lgi_s f2
      obtain ⟨qe, fe⟩ := pe_s f3
      subst qe
      exact MW.sub (List.forall_mem_cons.mpr ⟨lg_mem e0, List.forall_mem_cons.mpr ⟨lg_mem e1, List.forall_mem_cons.mpr ⟨lg_mem e2, List.forall_mem_cons.mpr ⟨lg_mem e3, fun _ h => absurd h List.not_mem_nil⟩⟩⟩⟩) (ih a0 x1 x3 x4 g fe)
    cases e
set_option maxRecDepth 100000 in
theorem m_X2_differenceAt (N : Nat) {a0 : Nat} {x1 : Int32} {h : mH} {q : Int32 × mH} (hf : f_X2_differenceAt N a0 x1 h = some q) : MM y_X2_differenceAt 4 [.ref a0, .int x1] h (some (.int q.1)) q.2 := by
  refine MM.of (mFx (j := 60) rfl).2.2.2.1 (Nat.le_of_ble_eq_true rfl) (fun X => ?_)
  refine ev_ok (o := 2) (ini := false) (Cl := C_X2_differenceAt N) (Rc := RcI) (B := B_X2_differenceAt) (K := fun pc ls st g => kb pc 31 (lgr 0 ls fun a0 => lgi 1 ls fun x1 => lgi 3 ls fun x3 => lgi 4 ls fun x4 => pe st (L_X2_differenceAt_31 N N a0 x1 x3 x4 g)) (none)) rfl (fun e => by cases e) (by decide) (rcI_ok rfl) ?_ (co_X2_differenceAt N q) lb_X2_differenceAt 3000 0 S_X2_differenceAt_0 _ _ h ls_X2_differenceAt_0 hf
  intro pc ls st g e
  rcases kb_s e with ⟨rfl, e⟩ | e
  · obtain ⟨a0, e0, f0⟩ := lgr_s e
    obtain ⟨x1, e1, f1⟩ := lgi_s f0
    obtain ⟨x3, e2, f2⟩ := lgi_s f1
    obtain ⟨x4, e3, f3⟩ := lgi_s f2
    obtain ⟨qe, fe⟩ := pe_s f3
    subst qe
    exact MW.sub (List.forall_mem_cons.mpr ⟨lg_mem e0, List.forall_mem_cons.mpr ⟨lg_mem e1, List.forall_mem_cons.mpr ⟨lg_mem e2, List.forall_mem_cons.mpr ⟨lg_mem e3, fun _ h => absurd h List.not_mem_nil⟩⟩⟩⟩) (t_X2_differenceAt_31 N N a0 x1 x3 x4 g fe)
  cases e
def L_X2_putFrom_38 (N : Nat) (rc : Nat → Int32 → Int32 → Int32 → mH → Option (mH)) : Nat → Nat → Int32 → Int32 → Int32 → Int32 → mH → Option (mH)
  | 0, _, _, _, _, _, _ => none
  | n + 1, a0, x1, x2, x3, x4, h =>
    (gI h 2 a0 1).bind fun v1 =>
    if x4 < v1 then
      if (iAnd (iUsr x2 x4) (jI 1)) = 0 then
        (gR h 2 a0 4).bind fun v2 =>
        (stI 0 h v2 x1 x4).bind fun h3 =>
        (rcv h3 2 a0).bind fun _ =>
        (f_X2_differenceAt N a0 x1 h3).bind fun p4 =>
        let w5 := iMax x3 p4.1
        (gI p4.2 2 a0 0).bind fun v6 =>
        if w5 < v6 then
          (rcv p4.2 2 a0).bind fun _ =>
          (rc a0 (iAdd x1 (jI 1)) (iOr x2 (iShl (jI 1) x4)) w5 p4.2).bind fun h7 =>
          let w8 := iAdd x4 (jI 1)
          L_X2_putFrom_38 N rc n a0 x1 x2 x3 w8 h7
        else
          let w9 := iAdd x4 (jI 1)
          L_X2_putFrom_38 N rc n a0 x1 x2 x3 w9 p4.2
      else
        let w10 := iAdd x4 (jI 1)
        L_X2_putFrom_38 N rc n a0 x1 x2 x3 w10 h
    else
      some h
def f_X2_putFrom (N : Nat) : Nat → Nat → Int32 → Int32 → Int32 → mH → Option (mH)
  | 0, _, _, _, _, _ => none
  | n + 1, a0, x1, x2, x3, h =>
    (gI h 2 a0 1).bind fun v1 =>
    if x1 < v1 then
      if x1 < (jI 8) then
        L_X2_putFrom_38 N (f_X2_putFrom N n) N a0 x1 x2 x3 (jI 1) h
      else
        (pV h 2 a0 0 (.int x3)).bind fun h2 =>
        (gR h2 2 a0 4).bind fun v3 =>
        (gR h2 2 a0 5).bind fun v4 =>
        (cpI h2 v3 (jI 0) v4 (jI 0) (jI 8)).bind fun h5 =>
        some h5
    else
      (pV h 2 a0 0 (.int x3)).bind fun h6 =>
      (gR h6 2 a0 4).bind fun v7 =>
      (gR h6 2 a0 5).bind fun v8 =>
      (cpI h6 v7 (jI 0) v8 (jI 0) (jI 8)).bind fun h9 =>
      some h9
def y_X2_putFrom : mM := (yX2_putFrom, cX2_putFrom, 6, none)
def B_X2_putFrom : List (Nat × List mI) := [(14, [(.aload_n 0, 1, [0], []), (.iload_n 3, 1, [3], []), (.putfield 42, 3, [2, 0, 0, 83], []), (.aload_n 0, 1, [0], []), (.getfield 15, 3, [2, 4, 2, 88], []), (.iconst 0, 1, [], [0]), (.aload_n 0, 1, [0], []), (.getfield 18, 3, [2, 5, 2, 89], []), (.iconst 0, 1, [], [0]), (.bipush 8, 2, [], [8]), (.invokestatic 49, 3, [10, 0, 0, 0, 26], []), (.return_, 1, [], [])]), (35, [(.iconst 1, 1, [], [1]), (.istore 4, 2, [4], [])]), (99, [(.iinc 4 1, 3, [4], [1]), (.goto (-64), 3, [38], [])]), (105, [(.return_, 1, [], [])])]
def S_X2_putFrom_0 : List mI := [(.iload_n 1, 1, [1], []), (.aload_n 0, 1, [0], []), (.getfield 21, 3, [2, 1, 0, 85], []), (.if_icmp .ge 9, 3, [14], []), (.iload_n 1, 1, [1], []), (.bipush 8, 2, [], [8]), (.if_icmp .lt 24, 3, [35], [])]
def S_X2_putFrom_38 : List mI := [(.iload 4, 2, [4], []), (.aload_n 0, 1, [0], []), (.getfield 21, 3, [2, 1, 0, 85], []), (.if_icmp .ge 61, 3, [105], []), (.iload_n 2, 1, [2], []), (.iload 4, 2, [4], []), (.iushr, 1, [], []), (.iconst 1, 1, [], [1]), (.iand, 1, [], []), (.ifCond .ne 46, 3, [99], []), (.aload_n 0, 1, [0], []), (.getfield 15, 3, [2, 4, 2, 88], []), (.iload_n 1, 1, [1], []), (.iload 4, 2, [4], []), (.iastore, 1, [], []), (.iload_n 3, 1, [3], []), (.aload_n 0, 1, [0], []), (.iload_n 1, 1, [1], []), (.invokevirtual 55, 3, [0, 60, 1, 2, 189], []), (.invokestatic 58, 3, [6, 0, 0, 0, 28], []), (.istore 5, 2, [5], []), (.iload 5, 2, [5], []), (.aload_n 0, 1, [0], []), (.getfield 42, 3, [2, 0, 0, 83], []), (.if_icmp .ge 18, 3, [99], []), (.aload_n 0, 1, [0], []), (.iload_n 1, 1, [1], []), (.iconst 1, 1, [], [1]), (.iadd, 1, [], []), (.iload_n 2, 1, [2], []), (.iconst 1, 1, [], [1]), (.iload 4, 2, [4], []), (.ishl, 1, [], []), (.ior, 1, [], []), (.iload 5, 2, [5], []), (.invokevirtual 45, 3, [0, 59, 3, 2, 188], [])]
theorem lb_X2_putFrom : B_X2_putFrom.all (fun b => lst y_X2_putFrom.2.1 2 y_X2_putFrom.2.2.1 false b.1 b.2) = true := by decide +kernel
theorem ls_X2_putFrom_0 : lst y_X2_putFrom.2.1 2 y_X2_putFrom.2.2.1 false 0 S_X2_putFrom_0 = true := by decide +kernel
theorem ls_X2_putFrom_38 : lst y_X2_putFrom.2.1 2 y_X2_putFrom.2.2.1 false 38 S_X2_putFrom_38 = true := by decide +kernel
def C_X2_putFrom (N : Nat) (rc : Nat → Int32 → Int32 → Int32 → mH → Option (mH)) : Nat → List Value → mH → (Option Value → mH → Option (mH)) → Option (mH) := fun j as g k => kb j 60 (pr1 as fun b0 as => pp1 as fun b1 as => pe as ((f_X2_differenceAt N b0 b1 g).bind fun p => k (some (.int p.1)) p.2)) (kb j 59 (pr1 as fun b0 as => pp1 as fun b1 as => pp1 as fun b2 as => pp1 as fun b3 as => pe as ((rc b0 b1 b2 b3 g).bind fun p => k none p)) (none))
theorem co_X2_putFrom (N : Nat) {d : Nat} (hd : 4 < d) {rc : Nat → Int32 → Int32 → Int32 → mH → Option (mH)} (hrc : ∀ a0 x1 x2 x3 g p, rc a0 x1 x2 x3 g = some p → ∃ d', d' < d ∧ MM y_X2_putFrom d' [.ref a0, .int x1, .int x2, .int x3] g none p) (q : mH) : clOK d q (C_X2_putFrom N rc) := by
  intro j as g k e
  rcases kb_s e with ⟨rfl, e⟩ | e
  · obtain ⟨b0, r0, q0, f0⟩ := pr1_s e
    obtain ⟨b1, r1, q1, f1⟩ := pp1_s f0
    obtain ⟨qe, fe⟩ := pe_s f1
    obtain ⟨p, e1, e2⟩ := bnd_s fe
    subst qe
    subst q1
    subst q0
    exact ⟨_, _, _, _, 4, rfl, (by omega), m_X2_differenceAt N e1, e2⟩
  rcases kb_s e with ⟨rfl, e⟩ | e
  · obtain ⟨b0, r0, q0, f0⟩ := pr1_s e
    obtain ⟨b1, r1, q1, f1⟩ := pp1_s f0
    obtain ⟨b2, r2, q2, f2⟩ := pp1_s f1
    obtain ⟨b3, r3, q3, f3⟩ := pp1_s f2
    obtain ⟨qe, fe⟩ := pe_s f3
    obtain ⟨p, e1, e2⟩ := bnd_s fe
    subst qe
    subst q3
    subst q2
    subst q1
    subst q0
    obtain ⟨d2, hd2, hM⟩ := hrc _ _ _ _ _ _ e1
    exact ⟨_, _, _, _, d2, rfl, hd2, hM, e2⟩
  cases e
set_option maxRecDepth 100000 in
theorem t_X2_putFrom_38 {X : Nat × (Nat → Int32)} (N : Nat) {d : Nat} (hd : 4 < d) {rc : Nat → Int32 → Int32 → Int32 → mH → Option (mH)} (hrc : ∀ a0 x1 x2 x3 g p, rc a0 x1 x2 x3 g = some p → ∃ d', d' < d ∧ MM y_X2_putFrom d' [.ref a0, .int x1, .int x2, .int x3] g none p) {q : mH} : ∀ (n : Nat) (a0 : Nat) (x1 : Int32) (x2 : Int32) (x3 : Int32) (x4 : Int32) (h : mH), L_X2_putFrom_38 N rc n a0 x1 x2 x3 x4 h = some q → MW X y_X2_putFrom d 38 [(0, .ref a0), (1, .int x1), (2, .int x2), (3, .int x3), (4, .int x4)] [] h none q := by
  intro n
  induction n with
  | zero => intro a0 x1 x2 x3 x4 h hf; cases hf
  | succ n ih =>
    intro a0 x1 x2 x3 x4 h hf
    refine ev_ok (o := 2) (ini := false) (Cl := C_X2_putFrom N rc) (Rc := RcV) (B := B_X2_putFrom) (K := fun pc ls st g => kb pc 38 (lgr 0 ls fun a0 => lgi 1 ls fun x1 => lgi 2 ls fun x2 => lgi 3 ls fun x3 => lgi 4 ls fun x4 => pe st (L_X2_putFrom_38 N rc n a0 x1 x2 x3 x4 g)) (none)) rfl (fun e => by cases e) (by omega) (rcV_ok rfl) ?_ (co_X2_putFrom N hd hrc q) lb_X2_putFrom 3000 38 S_X2_putFrom_38 _ _ h ls_X2_putFrom_38 hf
    intro pc ls st g e
    rcases kb_s e with ⟨rfl, e⟩ | e
    · obtain ⟨a0, e0, f0⟩ := lgr_s e
      obtain ⟨x1, e1, f1⟩ := lgi_s f0
      obtain ⟨x2, e2, f2⟩ := lgi_s f1
      obtain ⟨x3, e3, f3⟩ := lgi_s f2
      obtain ⟨x4, e4, f4⟩ := lgi_s f3
      obtain ⟨qe, fe⟩ := pe_s f4
      subst qe
      exact MW.sub (List.forall_mem_cons.mpr ⟨lg_mem e0, List.forall_mem_cons.mpr ⟨lg_mem e1, List.forall_mem_cons.mpr ⟨lg_mem e2, List.forall_mem_cons.mpr ⟨lg_mem e3, List.forall_mem_cons.mpr ⟨lg_mem e4, fun _ h => absurd h List.not_mem_nil⟩⟩⟩⟩⟩) (ih a0 x1 x2 x3 x4 g fe)
    cases e
set_option maxRecDepth 100000 in
theorem m_X2_putFrom_n (N : Nat) : ∀ (n d : Nat) (a0 : Nat) (x1 : Int32) (x2 : Int32) (x3 : Int32) (h : mH) (q : mH), 4 + n < d → f_X2_putFrom N n a0 x1 x2 x3 h = some q → MM y_X2_putFrom d [.ref a0, .int x1, .int x2, .int x3] h none q := by
  intro n
  induction n with
  | zero => intro d a0 x1 x2 x3 h q hd hf; cases hf
  | succ n ih =>
    intro d a0 x1 x2 x3 h q hd0 hf
    have hd : 4 < d := by omega
    have hrc : ∀ a0 x1 x2 x3 g p, f_X2_putFrom N n a0 x1 x2 x3 g = some p → ∃ d', d' < d ∧ MM y_X2_putFrom d' [.ref a0, .int x1, .int x2, .int x3] g none p := fun a0 x1 x2 x3 g p e => ⟨d - 1, by omega, ih (d - 1) a0 x1 x2 x3 g p (by omega) e⟩
    refine MM.of (mFx (j := 59) rfl).2.2.2.1 (Nat.le_of_ble_eq_true rfl) (fun X => ?_)
    refine ev_ok (o := 2) (ini := false) (Cl := C_X2_putFrom N (f_X2_putFrom N n)) (Rc := RcV) (B := B_X2_putFrom) (K := fun pc ls st g => kb pc 38 (lgr 0 ls fun a0 => lgi 1 ls fun x1 => lgi 2 ls fun x2 => lgi 3 ls fun x3 => lgi 4 ls fun x4 => pe st (L_X2_putFrom_38 N (f_X2_putFrom N n) N a0 x1 x2 x3 x4 g)) (none)) rfl (fun e => by cases e) (by omega) (rcV_ok rfl) ?_ (co_X2_putFrom N hd hrc q) lb_X2_putFrom 3000 0 S_X2_putFrom_0 _ _ h ls_X2_putFrom_0 hf
    intro pc ls st g e
    rcases kb_s e with ⟨rfl, e⟩ | e
    · obtain ⟨a0, e0, f0⟩ := lgr_s e
      obtain ⟨x1, e1, f1⟩ := lgi_s f0
      obtain ⟨x2, e2, f2⟩ := lgi_s f1
      obtain ⟨x3, e3, f3⟩ := lgi_s f2
      obtain ⟨x4, e4, f4⟩ := lgi_s f3
      obtain ⟨qe, fe⟩ := pe_s f4
      subst qe
      exact MW.sub (List.forall_mem_cons.mpr ⟨lg_mem e0, List.forall_mem_cons.mpr ⟨lg_mem e1, List.forall_mem_cons.mpr ⟨lg_mem e2, List.forall_mem_cons.mpr ⟨lg_mem e3, List.forall_mem_cons.mpr ⟨lg_mem e4, fun _ h => absurd h List.not_mem_nil⟩⟩⟩⟩⟩) (t_X2_putFrom_38 N hd hrc N a0 x1 x2 x3 x4 g fe)
    cases e
theorem m_X2_putFrom (N : Nat) {a0 : Nat} {x1 : Int32} {x2 : Int32} {x3 : Int32} {h : mH} {q : mH} (hf : f_X2_putFrom N 20 a0 x1 x2 x3 h = some q) : MM y_X2_putFrom 25 [.ref a0, .int x1, .int x2, .int x3] h none q := m_X2_putFrom_n N 20 25 a0 x1 x2 x3 h q (by omega) hf
def L_X2_putRound_20 (N : Nat) : Nat → Nat → Nat → Int32 → mH → Option (mH)
  | 0, _, _, _, _ => none
  | n + 1, a0, a1, x2, h =>
    (gI h 2 a0 1).bind fun v1 =>
    if x2 < v1 then
      (gR h 2 a0 3).bind fun v2 =>
      (rcv h 5 a1).bind fun _ =>
      (f_X5_intAt N a1 x2 h).bind fun p3 =>
      (stI 0 p3.2 v2 x2 p3.1).bind fun h4 =>
      (gI h4 2 a0 2).bind fun v5 =>
      (gR h4 2 a0 3).bind fun v6 =>
      (ldI 0 h4 v6 x2).bind fun v7 =>
      (pV h4 2 a0 2 (.int (iAdd v5 v7))).bind fun h8 =>
      let w9 := iAdd x2 (jI 1)
      L_X2_putRound_20 N n a0 a1 w9 h8
    else
      (pV h 2 a0 0 (.int (jI 2147483647))).bind fun h10 =>
      (gR h10 2 a0 4).bind fun v11 =>
      (stI 0 h10 v11 (jI 0) (jI 0)).bind fun h12 =>
      (rcv h12 2 a0).bind fun _ =>
      (f_X2_putFrom N 20 a0 (jI 1) (jI 1) (jI 0) h12).bind fun h13 =>
      some h13
def f_X2_putRound (N : Nat) (a0 : Nat) (a1 : Nat) (h : mH) : Option (mH) :=
  (gI h 5 a1 0).bind fun v1 =>
  (pV h 2 a0 1 (.int (iMin (jI 8) v1))).bind fun h2 =>
  (pV h2 2 a0 2 (.int (jI 0))).bind fun h3 =>
  L_X2_putRound_20 N N a0 a1 (jI 0) h3
def y_X2_putRound : mM := (yX2_putRound, cX2_putRound, 3, none)
def B_X2_putRound : List (Nat × List mI) := [(60, [(.aload_n 0, 1, [0], []), (.ldc 41, 2, [0, 5], [2147483647]), (.putfield 42, 3, [2, 0, 0, 83], []), (.aload_n 0, 1, [0], []), (.getfield 15, 3, [2, 4, 2, 88], []), (.iconst 0, 1, [], [0]), (.iconst 0, 1, [], [0]), (.iastore, 1, [], []), (.aload_n 0, 1, [0], []), (.iconst 1, 1, [], [1]), (.iconst 1, 1, [], [1]), (.iconst 0, 1, [], [0]), (.invokevirtual 45, 3, [0, 59, 3, 2, 188], []), (.return_, 1, [], [])])]
def S_X2_putRound_0 : List mI := [(.aload_n 0, 1, [0], []), (.bipush 8, 2, [], [8]), (.aload_n 1, 1, [1], []), (.getfield 25, 3, [5, 0, 0, 70], []), (.invokestatic 28, 3, [7, 0, 0, 0, 25], []), (.putfield 21, 3, [2, 1, 0, 85], []), (.aload_n 0, 1, [0], []), (.iconst 0, 1, [], [0]), (.putfield 34, 3, [2, 2, 0, 86], []), (.iconst 0, 1, [], [0]), (.istore_n 2, 1, [2], [])]
def S_X2_putRound_20 : List mI := [(.iload_n 2, 1, [2], []), (.aload_n 0, 1, [0], []), (.getfield 21, 3, [2, 1, 0, 85], []), (.if_icmp .ge 35, 3, [60], []), (.aload_n 0, 1, [0], []), (.getfield 11, 3, [2, 3, 2, 87], []), (.iload_n 2, 1, [2], []), (.aload_n 1, 1, [1], []), (.iload_n 2, 1, [2], []), (.invokevirtual 37, 3, [0, 76, 1, 5, 187], []), (.iastore, 1, [], []), (.aload_n 0, 1, [0], []), (.dup, 1, [], []), (.getfield 34, 3, [2, 2, 0, 86], []), (.aload_n 0, 1, [0], []), (.getfield 11, 3, [2, 3, 2, 87], []), (.iload_n 2, 1, [2], []), (.iaload, 1, [0], []), (.iadd, 1, [], []), (.putfield 34, 3, [2, 2, 0, 86], []), (.iinc 2 1, 3, [2], [1]), (.goto (-37), 3, [20], [])]
theorem lb_X2_putRound : B_X2_putRound.all (fun b => lst y_X2_putRound.2.1 2 y_X2_putRound.2.2.1 false b.1 b.2) = true := by decide +kernel
theorem ls_X2_putRound_0 : lst y_X2_putRound.2.1 2 y_X2_putRound.2.2.1 false 0 S_X2_putRound_0 = true := by decide +kernel
theorem ls_X2_putRound_20 : lst y_X2_putRound.2.1 2 y_X2_putRound.2.2.1 false 20 S_X2_putRound_20 = true := by decide +kernel
def C_X2_putRound (N : Nat) : Nat → List Value → mH → (Option Value → mH → Option (mH)) → Option (mH) := fun j as g k => kb j 76 (pr1 as fun b0 as => pp1 as fun b1 as => pe as ((f_X5_intAt N b0 b1 g).bind fun p => k (some (.int p.1)) p.2)) (kb j 59 (pr1 as fun b0 as => pp1 as fun b1 as => pp1 as fun b2 as => pp1 as fun b3 as => pe as ((f_X2_putFrom N 20 b0 b1 b2 b3 g).bind fun p => k none p)) (none))
theorem co_X2_putRound (N : Nat) (q : mH) : clOK 26 q (C_X2_putRound N) := by
  intro j as g k e
  rcases kb_s e with ⟨rfl, e⟩ | e
  · obtain ⟨b0, r0, q0, f0⟩ := pr1_s e
    obtain ⟨b1, r1, q1, f1⟩ := pp1_s f0
    obtain ⟨qe, fe⟩ := pe_s f1
    obtain ⟨p, e1, e2⟩ := bnd_s fe
    subst qe
    subst q1
    subst q0
    exact ⟨_, _, _, _, 4, rfl, (by decide), m_X5_intAt N e1, e2⟩
  rcases kb_s e with ⟨rfl, e⟩ | e
  · obtain ⟨b0, r0, q0, f0⟩ := pr1_s e
    obtain ⟨b1, r1, q1, f1⟩ := pp1_s f0
    obtain ⟨b2, r2, q2, f2⟩ := pp1_s f1
    obtain ⟨b3, r3, q3, f3⟩ := pp1_s f2
    obtain ⟨qe, fe⟩ := pe_s f3
    obtain ⟨p, e1, e2⟩ := bnd_s fe
    subst qe
    subst q3
    subst q2
    subst q1
    subst q0
    exact ⟨_, _, _, _, 25, rfl, (by decide), m_X2_putFrom N e1, e2⟩
  cases e
set_option maxRecDepth 100000 in
theorem t_X2_putRound_20 {X : Nat × (Nat → Int32)} (N : Nat) {q : mH} : ∀ (n : Nat) (a0 : Nat) (a1 : Nat) (x2 : Int32) (h : mH), L_X2_putRound_20 N n a0 a1 x2 h = some q → MW X y_X2_putRound 26 20 [(0, .ref a0), (1, .ref a1), (2, .int x2)] [] h none q := by
  intro n
  induction n with
  | zero => intro a0 a1 x2 h hf; cases hf
  | succ n ih =>
    intro a0 a1 x2 h hf
    refine ev_ok (o := 2) (ini := false) (Cl := C_X2_putRound N) (Rc := RcV) (B := B_X2_putRound) (K := fun pc ls st g => kb pc 20 (lgr 0 ls fun a0 => lgr 1 ls fun a1 => lgi 2 ls fun x2 => pe st (L_X2_putRound_20 N n a0 a1 x2 g)) (none)) rfl (fun e => by cases e) (by decide) (rcV_ok rfl) ?_ (co_X2_putRound N q) lb_X2_putRound 3000 20 S_X2_putRound_20 _ _ h ls_X2_putRound_20 hf
    intro pc ls st g e
    rcases kb_s e with ⟨rfl, e⟩ | e
    · obtain ⟨a0, e0, f0⟩ := lgr_s e
      obtain ⟨a1, e1, f1⟩ := lgr_s f0
      obtain ⟨x2, e2, f2⟩ := lgi_s f1
      obtain ⟨qe, fe⟩ := pe_s f2
      subst qe
      exact MW.sub (List.forall_mem_cons.mpr ⟨lg_mem e0, List.forall_mem_cons.mpr ⟨lg_mem e1, List.forall_mem_cons.mpr ⟨lg_mem e2, fun _ h => absurd h List.not_mem_nil⟩⟩⟩) (ih a0 a1 x2 g fe)
    cases e
set_option maxRecDepth 100000 in
theorem m_X2_putRound (N : Nat) {a0 : Nat} {a1 : Nat} {h : mH} {q : mH} (hf : f_X2_putRound N a0 a1 h = some q) : MM y_X2_putRound 26 [.ref a0, .ref a1] h none q := by
  refine MM.of (mFx (j := 58) rfl).2.2.2.1 (Nat.le_of_ble_eq_true rfl) (fun X => ?_)
  refine ev_ok (o := 2) (ini := false) (Cl := C_X2_putRound N) (Rc := RcV) (B := B_X2_putRound) (K := fun pc ls st g => kb pc 20 (lgr 0 ls fun a0 => lgr 1 ls fun a1 => lgi 2 ls fun x2 => pe st (L_X2_putRound_20 N N a0 a1 x2 g)) (none)) rfl (fun e => by cases e) (by decide) (rcV_ok rfl) ?_ (co_X2_putRound N q) lb_X2_putRound 3000 0 S_X2_putRound_0 _ _ h ls_X2_putRound_0 hf
  intro pc ls st g e
  rcases kb_s e with ⟨rfl, e⟩ | e
  · obtain ⟨a0, e0, f0⟩ := lgr_s e
    obtain ⟨a1, e1, f1⟩ := lgr_s f0
    obtain ⟨x2, e2, f2⟩ := lgi_s f1
    obtain ⟨qe, fe⟩ := pe_s f2
    subst qe
    exact MW.sub (List.forall_mem_cons.mpr ⟨lg_mem e0, List.forall_mem_cons.mpr ⟨lg_mem e1, List.forall_mem_cons.mpr ⟨lg_mem e2, fun _ h => absurd h List.not_mem_nil⟩⟩⟩) (t_X2_putRound_20 N N a0 a1 x2 g fe)
  cases e
def L_J7_fill_53178_5 (N : Nat) : Nat → Nat → Int32 → Int32 → Int32 → mH → Option (mH)
  | 0, _, _, _, _, _ => none
  | n + 1, a0, x1, x2, x3, h =>
    if x2 < x3 then
      (stI 0 h a0 x2 x1).bind fun h1 =>
      let w2 := iAdd x2 (jI 1)
      L_J7_fill_53178_5 N n a0 x1 w2 x3 h1
    else
      some h
def f_J7_fill_53178 (N : Nat) (a0 : Nat) (x1 : Int32) (h : mH) : Option (mH) :=
  (lnA h a0).bind fun v1 =>
  L_J7_fill_53178_5 N N a0 x1 (jI 0) v1 h
def y_J7_fill_53178 : mM := (yJ7_fill_53178, cJ7_fill_53178, 4, none)
def B_J7_fill_53178 : List (Nat × List mI) := [(20, [(.return_, 1, [], [])])]
def S_J7_fill_53178_0 : List mI := [(.iconst 0, 1, [], [0]), (.istore_n 2, 1, [2], []), (.aload_n 0, 1, [0], []), (.arraylength, 1, [0], []), (.istore_n 3, 1, [3], [])]
def S_J7_fill_53178_5 : List mI := [(.iload_n 2, 1, [2], []), (.iload_n 3, 1, [3], []), (.if_icmp .ge 13, 3, [20], []), (.aload_n 0, 1, [0], []), (.iload_n 2, 1, [2], []), (.iload_n 1, 1, [1], []), (.iastore, 1, [], []), (.iinc 2 1, 3, [2], [1]), (.goto (-12), 3, [5], [])]
theorem lb_J7_fill_53178 : B_J7_fill_53178.all (fun b => lst y_J7_fill_53178.2.1 16 y_J7_fill_53178.2.2.1 false b.1 b.2) = true := by decide +kernel
theorem ls_J7_fill_53178_0 : lst y_J7_fill_53178.2.1 16 y_J7_fill_53178.2.2.1 false 0 S_J7_fill_53178_0 = true := by decide +kernel
theorem ls_J7_fill_53178_5 : lst y_J7_fill_53178.2.1 16 y_J7_fill_53178.2.2.1 false 5 S_J7_fill_53178_5 = true := by decide +kernel
def C_J7_fill_53178 (N : Nat) : Nat → List Value → mH → (Option Value → mH → Option (mH)) → Option (mH) := fun j as g k => none
theorem co_J7_fill_53178 (N : Nat) (q : mH) : clOK 4 q (C_J7_fill_53178 N) := by
  intro j as g k e
  cases e
set_option maxRecDepth 100000 in
theorem t_J7_fill_53178_5 {X : Nat × (Nat → Int32)} (N : Nat) {q : mH} : ∀ (n : Nat) (a0 : Nat) (x1 : Int32) (x2 : Int32) (x3 : Int32) (h : mH), L_J7_fill_53178_5 N n a0 x1 x2 x3 h = some q → MW X y_J7_fill_53178 4 5 [(0, .ref a0), (1, .int x1), (2, .int x2), (3, .int x3)] [] h none q := by
  intro n
  induction n with
  | zero => intro a0 x1 x2 x3 h hf; cases hf
  | succ n ih =>
    intro a0 x1 x2 x3 h hf
    refine ev_ok (o := 16) (ini := false) (Cl := C_J7_fill_53178 N) (Rc := RcV) (B := B_J7_fill_53178) (K := fun pc ls st g => kb pc 5 (lgr 0 ls fun a0 => lgi 1 ls fun x1 => lgi 2 ls fun x2 => lgi 3 ls fun x3 => pe st (L_J7_fill_53178_5 N n a0 x1 x2 x3 g)) (none)) rfl (fun e => by cases e) (by decide) (rcV_ok rfl) ?_ (co_J7_fill_53178 N q) lb_J7_fill_53178 3000 5 S_J7_fill_53178_5 _ _ h ls_J7_fill_53178_5 hf
    intro pc ls st g e
    rcases kb_s e with ⟨rfl, e⟩ | e
    · obtain ⟨a0, e0, f0⟩ := lgr_s e
      obtain ⟨x1, e1, f1⟩ := lgi_s f0
      obtain ⟨x2, e2, f2⟩ := lgi_s f1
      obtain ⟨x3, e3, f3⟩ := lgi_s f2
      obtain ⟨qe, fe⟩ := pe_s f3
      subst qe
      exact MW.sub (List.forall_mem_cons.mpr ⟨lg_mem e0, List.forall_mem_cons.mpr ⟨lg_mem e1, List.forall_mem_cons.mpr ⟨lg_mem e2, List.forall_mem_cons.mpr ⟨lg_mem e3, fun _ h => absurd h List.not_mem_nil⟩⟩⟩⟩) (ih a0 x1 x2 x3 g fe)
    cases e
set_option maxRecDepth 100000 in
theorem m_J7_fill_53178 (N : Nat) {a0 : Nat} {x1 : Int32} {h : mH} {q : mH} (hf : f_J7_fill_53178 N a0 x1 h = some q) : MM y_J7_fill_53178 4 [.ref a0, .int x1] h none q := by
  refine MM.of (mFx (j := 350) rfl).2.2.2.1 (Nat.le_of_ble_eq_true rfl) (fun X => ?_)
  refine ev_ok (o := 16) (ini := false) (Cl := C_J7_fill_53178 N) (Rc := RcV) (B := B_J7_fill_53178) (K := fun pc ls st g => kb pc 5 (lgr 0 ls fun a0 => lgi 1 ls fun x1 => lgi 2 ls fun x2 => lgi 3 ls fun x3 => pe st (L_J7_fill_53178_5 N N a0 x1 x2 x3 g)) (none)) rfl (fun e => by cases e) (by decide) (rcV_ok rfl) ?_ (co_J7_fill_53178 N q) lb_J7_fill_53178 3000 0 S_J7_fill_53178_0 _ _ h ls_J7_fill_53178_0 hf
  intro pc ls st g e
  rcases kb_s e with ⟨rfl, e⟩ | e
  · obtain ⟨a0, e0, f0⟩ := lgr_s e
    obtain ⟨x1, e1, f1⟩ := lgi_s f0
    obtain ⟨x2, e2, f2⟩ := lgi_s f1
    obtain ⟨x3, e3, f3⟩ := lgi_s f2
    obtain ⟨qe, fe⟩ := pe_s f3
    subst qe
    exact MW.sub (List.forall_mem_cons.mpr ⟨lg_mem e0, List.forall_mem_cons.mpr ⟨lg_mem e1, List.forall_mem_cons.mpr ⟨lg_mem e2, List.forall_mem_cons.mpr ⟨lg_mem e3, fun _ h => absurd h List.not_mem_nil⟩⟩⟩⟩) (t_J7_fill_53178_5 N N a0 x1 x2 x3 g fe)
  cases e
def f_X3_init (N : Nat) (a0 : Nat) (h : mH) : Option (mH) :=
  (nwA h 0 (jI 8)).bind fun h1 =>
  (pV h1 3 a0 0 (.ref h.1)).bind fun h2 =>
  (nwA h2 0 (jI 8)).bind fun h3 =>
  (pV h3 3 a0 1 (.ref h2.1)).bind fun h4 =>
  (gR h4 3 a0 0).bind fun v5 =>
  (f_J7_fill_53178 N v5 (jI (-1)) h4).bind fun h6 =>
  (gR h6 3 a0 1).bind fun v7 =>
  (f_J7_fill_53178 N v7 (jI (-1)) h6).bind fun h8 =>
  some h8
def y_X3_init : mM := (yX3_init, cX3_init, 1, none)
def B_X3_init : List (Nat × List mI) := []
def S_X3_init_0 : List mI := [(.aload_n 0, 1, [0], []), (.invokespecial 3, 3, [5, 0, 0, 0, 6], []), (.aload_n 0, 1, [0], []), (.bipush 8, 2, [], [8]), (.newarray .int, 2, [0], []), (.putfield 11, 3, [3, 0, 2, 66], []), (.aload_n 0, 1, [0], []), (.bipush 8, 2, [], [8]), (.newarray .int, 2, [0], []), (.putfield 15, 3, [3, 1, 2, 67], []), (.aload_n 0, 1, [0], []), (.getfield 11, 3, [3, 0, 2, 66], []), (.iconst (-1), 1, [], [-1]), (.invokestatic 18, 3, [1, 350, 2, 0, 5], []), (.aload_n 0, 1, [0], []), (.getfield 15, 3, [3, 1, 2, 67], []), (.iconst (-1), 1, [], [-1]), (.invokestatic 18, 3, [1, 350, 2, 0, 5], []), (.return_, 1, [], [])]
theorem lb_X3_init : B_X3_init.all (fun b => lst y_X3_init.2.1 3 y_X3_init.2.2.1 true b.1 b.2) = true := by decide +kernel
theorem ls_X3_init_0 : lst y_X3_init.2.1 3 y_X3_init.2.2.1 true 0 S_X3_init_0 = true := by decide +kernel
def C_X3_init (N : Nat) : Nat → List Value → mH → (Option Value → mH → Option (mH)) → Option (mH) := fun j as g k => kb j 350 (pr1 as fun b0 as => pp1 as fun b1 as => pe as ((f_J7_fill_53178 N b0 b1 g).bind fun p => k none p)) (none)
theorem co_X3_init (N : Nat) (q : mH) : clOK 5 q (C_X3_init N) := by
  intro j as g k e
  rcases kb_s e with ⟨rfl, e⟩ | e
  · obtain ⟨b0, r0, q0, f0⟩ := pr1_s e
    obtain ⟨b1, r1, q1, f1⟩ := pp1_s f0
    obtain ⟨qe, fe⟩ := pe_s f1
    obtain ⟨p, e1, e2⟩ := bnd_s fe
    subst qe
    subst q1
    subst q0
    exact ⟨_, _, _, _, 4, rfl, (by decide), m_J7_fill_53178 N e1, e2⟩
  cases e
set_option maxRecDepth 100000 in
theorem m_X3_init (N : Nat) {a0 : Nat} {h : mH} {q : mH} (hf : f_X3_init N a0 h = some q) : MM y_X3_init 5 [.ref a0] h none q := by
  refine MM.of (mFx (j := 61) rfl).2.2.2.1 (Nat.le_of_ble_eq_true rfl) (fun X => ?_)
  refine ev_ok (o := 3) (ini := true) (Cl := C_X3_init N) (Rc := RcV) (B := B_X3_init) (K := fun pc ls st g => none) rfl (fun _ => rfl) (by decide) (rcV_ok rfl) ?_ (co_X3_init N q) lb_X3_init 3000 0 S_X3_init_0 _ _ h ls_X3_init_0 hf
  intro pc ls st g e
  cases e
def f_X3_become (N : Nat) (a0 : Nat) (a1 : Nat) (h : mH) : Option (mH) :=
  (gR h 3 a1 0).bind fun v1 =>
  (gR h 3 a0 0).bind fun v2 =>
  (cpI h v1 (jI 0) v2 (jI 0) (jI 8)).bind fun h3 =>
  some h3
def y_X3_become : mM := (yX3_become, cX3_become, 2, none)
def B_X3_become : List (Nat × List mI) := []
def S_X3_become_0 : List mI := [(.aload_n 1, 1, [1], []), (.getfield 11, 3, [3, 0, 2, 66], []), (.iconst 0, 1, [], [0]), (.aload_n 0, 1, [0], []), (.getfield 11, 3, [3, 0, 2, 66], []), (.iconst 0, 1, [], [0]), (.bipush 8, 2, [], [8]), (.invokestatic 24, 3, [10, 0, 0, 0, 37], []), (.return_, 1, [], [])]
theorem lb_X3_become : B_X3_become.all (fun b => lst y_X3_become.2.1 3 y_X3_become.2.2.1 false b.1 b.2) = true := by decide +kernel
theorem ls_X3_become_0 : lst y_X3_become.2.1 3 y_X3_become.2.2.1 false 0 S_X3_become_0 = true := by decide +kernel
def C_X3_become (N : Nat) : Nat → List Value → mH → (Option Value → mH → Option (mH)) → Option (mH) := fun j as g k => none
theorem co_X3_become (N : Nat) (q : mH) : clOK 4 q (C_X3_become N) := by
  intro j as g k e
  cases e
set_option maxRecDepth 100000 in
theorem m_X3_become (N : Nat) {a0 : Nat} {a1 : Nat} {h : mH} {q : mH} (hf : f_X3_become N a0 a1 h = some q) : MM y_X3_become 4 [.ref a0, .ref a1] h none q := by
  refine MM.of (mFx (j := 62) rfl).2.2.2.1 (Nat.le_of_ble_eq_true rfl) (fun X => ?_)
  refine ev_ok (o := 3) (ini := false) (Cl := C_X3_become N) (Rc := RcV) (B := B_X3_become) (K := fun pc ls st g => none) rfl (fun e => by cases e) (by decide) (rcV_ok rfl) ?_ (co_X3_become N q) lb_X3_become 3000 0 S_X3_become_0 _ _ h ls_X3_become_0 hf
  intro pc ls st g e
  cases e
def f_X3_isHand (N : Nat) (a0 : Nat) (x1 : Int32) (h : mH) : Option (Int32 × mH) :=
  if x1 < 0 then
    some (jI 0, h)
  else
    if x1 < (jI 8) then
      some (jI 1, h)
    else
      some (jI 0, h)
def y_X3_isHand : mM := (yX3_isHand, cX3_isHand, 2, (some .boolean))
def B_X3_isHand : List (Nat × List mI) := [(14, [(.iconst 0, 1, [], [0])]), (15, [(.ireturn, 1, [], [])])]
def S_X3_isHand_0 : List mI := [(.iload_n 1, 1, [1], []), (.ifCond .lt 13, 3, [14], []), (.iload_n 1, 1, [1], []), (.bipush 8, 2, [], [8]), (.if_icmp .ge 7, 3, [14], []), (.iconst 1, 1, [], [1]), (.goto 4, 3, [15], [])]
theorem lb_X3_isHand : B_X3_isHand.all (fun b => lst y_X3_isHand.2.1 3 y_X3_isHand.2.2.1 false b.1 b.2) = true := by decide +kernel
theorem ls_X3_isHand_0 : lst y_X3_isHand.2.1 3 y_X3_isHand.2.2.1 false 0 S_X3_isHand_0 = true := by decide +kernel
def C_X3_isHand (N : Nat) : Nat → List Value → mH → (Option Value → mH → Option (Int32 × mH)) → Option (Int32 × mH) := fun j as g k => none
theorem co_X3_isHand (N : Nat) (q : Int32 × mH) : clOK 4 q (C_X3_isHand N) := by
  intro j as g k e
  cases e
set_option maxRecDepth 100000 in
theorem m_X3_isHand (N : Nat) {a0 : Nat} {x1 : Int32} {h : mH} {q : Int32 × mH} (hf : f_X3_isHand N a0 x1 h = some q) : MM y_X3_isHand 4 [.ref a0, .int x1] h (some (.int q.1)) q.2 := by
  refine MM.of (mFx (j := 63) rfl).2.2.2.1 (Nat.le_of_ble_eq_true rfl) (fun X => ?_)
  refine ev_ok (o := 3) (ini := false) (Cl := C_X3_isHand N) (Rc := RcZ) (B := B_X3_isHand) (K := fun pc ls st g => none) rfl (fun e => by cases e) (by decide) (rcZ_ok rfl) ?_ (co_X3_isHand N q) lb_X3_isHand 3000 0 S_X3_isHand_0 _ _ h ls_X3_isHand_0 hf
  intro pc ls st g e
  cases e
def f_X3_isTold (N : Nat) (a0 : Nat) (x1 : Int32) (h : mH) : Option (Int32 × mH) :=
  (rcv h 3 a0).bind fun _ =>
  (f_X3_isHand N a0 x1 h).bind fun p1 =>
  if p1.1 = 0 then
    some (jI 0, p1.2)
  else
    (gR p1.2 3 a0 0).bind fun v2 =>
    (ldI 0 p1.2 v2 x1).bind fun v3 =>
    if v3 = (jI (-1)) then
      some (jI 0, p1.2)
    else
      some (jI 1, p1.2)
def y_X3_isTold : mM := (yX3_isTold, cX3_isTold, 2, (some .boolean))
def B_X3_isTold : List (Nat × List mI) := [(22, [(.iconst 0, 1, [], [0])]), (23, [(.ireturn, 1, [], [])])]
def S_X3_isTold_0 : List mI := [(.aload_n 0, 1, [0], []), (.iload_n 1, 1, [1], []), (.invokevirtual 30, 3, [0, 63, 1, 3, 240], []), (.ifCond .eq 17, 3, [22], []), (.aload_n 0, 1, [0], []), (.getfield 11, 3, [3, 0, 2, 66], []), (.iload_n 1, 1, [1], []), (.iaload, 1, [0], []), (.iconst (-1), 1, [], [-1]), (.if_icmp .eq 7, 3, [22], []), (.iconst 1, 1, [], [1]), (.goto 4, 3, [23], [])]
theorem lb_X3_isTold : B_X3_isTold.all (fun b => lst y_X3_isTold.2.1 3 y_X3_isTold.2.2.1 false b.1 b.2) = true := by decide +kernel
theorem ls_X3_isTold_0 : lst y_X3_isTold.2.1 3 y_X3_isTold.2.2.1 false 0 S_X3_isTold_0 = true := by decide +kernel
def C_X3_isTold (N : Nat) : Nat → List Value → mH → (Option Value → mH → Option (Int32 × mH)) → Option (Int32 × mH) := fun j as g k => kb j 63 (pr1 as fun b0 as => pp1 as fun b1 as => pe as ((f_X3_isHand N b0 b1 g).bind fun p => k (some (.int p.1)) p.2)) (none)
theorem co_X3_isTold (N : Nat) (q : Int32 × mH) : clOK 5 q (C_X3_isTold N) := by
  intro j as g k e
  rcases kb_s e with ⟨rfl, e⟩ | e
  · obtain ⟨b0, r0, q0, f0⟩ := pr1_s e
    obtain ⟨b1, r1, q1, f1⟩ := pp1_s f0
    obtain ⟨qe, fe⟩ := pe_s f1
    obtain ⟨p, e1, e2⟩ := bnd_s fe
    subst qe
    subst q1
    subst q0
    exact ⟨_, _, _, _, 4, rfl, (by decide), m_X3_isHand N e1, e2⟩
  cases e
set_option maxRecDepth 100000 in
theorem m_X3_isTold (N : Nat) {a0 : Nat} {x1 : Int32} {h : mH} {q : Int32 × mH} (hf : f_X3_isTold N a0 x1 h = some q) : MM y_X3_isTold 5 [.ref a0, .int x1] h (some (.int q.1)) q.2 := by
  refine MM.of (mFx (j := 64) rfl).2.2.2.1 (Nat.le_of_ble_eq_true rfl) (fun X => ?_)
  refine ev_ok (o := 3) (ini := false) (Cl := C_X3_isTold N) (Rc := RcZ) (B := B_X3_isTold) (K := fun pc ls st g => none) rfl (fun e => by cases e) (by decide) (rcZ_ok rfl) ?_ (co_X3_isTold N q) lb_X3_isTold 3000 0 S_X3_isTold_0 _ _ h ls_X3_isTold_0 hf
  intro pc ls st g e
  cases e
def f_X3_tell (N : Nat) (a0 : Nat) (x1 : Int32) (x2 : Int32) (h : mH) : Option (Int32 × mH) :=
  (rcv h 3 a0).bind fun _ =>
  (f_X3_isHand N a0 x1 h).bind fun p1 =>
  if p1.1 = 0 then
    some (jI (-1), p1.2)
  else
    (gR p1.2 3 a0 0).bind fun v2 =>
    (ldI 0 p1.2 v2 x1).bind fun v3 =>
    (gR p1.2 3 a0 0).bind fun v4 =>
    (stI 0 p1.2 v4 x1 x2).bind fun h5 =>
    some (v3, h5)
def y_X3_tell : mM := (yX3_tell, cX3_tell, 4, (some .int))
def B_X3_tell : List (Nat × List mI) := [(10, [(.aload_n 0, 1, [0], []), (.getfield 11, 3, [3, 0, 2, 66], []), (.iload_n 1, 1, [1], []), (.iaload, 1, [0], []), (.istore_n 3, 1, [3], []), (.aload_n 0, 1, [0], []), (.getfield 11, 3, [3, 0, 2, 66], []), (.iload_n 1, 1, [1], []), (.iload_n 2, 1, [2], []), (.iastore, 1, [], []), (.iload_n 3, 1, [3], []), (.ireturn, 1, [], [])])]
def S_X3_tell_0 : List mI := [(.aload_n 0, 1, [0], []), (.iload_n 1, 1, [1], []), (.invokevirtual 30, 3, [0, 63, 1, 3, 240], []), (.ifCond .ne 5, 3, [10], []), (.iconst (-1), 1, [], [-1]), (.ireturn, 1, [], [])]
theorem lb_X3_tell : B_X3_tell.all (fun b => lst y_X3_tell.2.1 3 y_X3_tell.2.2.1 false b.1 b.2) = true := by decide +kernel
theorem ls_X3_tell_0 : lst y_X3_tell.2.1 3 y_X3_tell.2.2.1 false 0 S_X3_tell_0 = true := by decide +kernel
def C_X3_tell (N : Nat) : Nat → List Value → mH → (Option Value → mH → Option (Int32 × mH)) → Option (Int32 × mH) := fun j as g k => kb j 63 (pr1 as fun b0 as => pp1 as fun b1 as => pe as ((f_X3_isHand N b0 b1 g).bind fun p => k (some (.int p.1)) p.2)) (none)
theorem co_X3_tell (N : Nat) (q : Int32 × mH) : clOK 5 q (C_X3_tell N) := by
  intro j as g k e
  rcases kb_s e with ⟨rfl, e⟩ | e
  · obtain ⟨b0, r0, q0, f0⟩ := pr1_s e
    obtain ⟨b1, r1, q1, f1⟩ := pp1_s f0
    obtain ⟨qe, fe⟩ := pe_s f1
    obtain ⟨p, e1, e2⟩ := bnd_s fe
    subst qe
    subst q1
    subst q0
    exact ⟨_, _, _, _, 4, rfl, (by decide), m_X3_isHand N e1, e2⟩
  cases e
set_option maxRecDepth 100000 in
theorem m_X3_tell (N : Nat) {a0 : Nat} {x1 : Int32} {x2 : Int32} {h : mH} {q : Int32 × mH} (hf : f_X3_tell N a0 x1 x2 h = some q) : MM y_X3_tell 5 [.ref a0, .int x1, .int x2] h (some (.int q.1)) q.2 := by
  refine MM.of (mFx (j := 65) rfl).2.2.2.1 (Nat.le_of_ble_eq_true rfl) (fun X => ?_)
  refine ev_ok (o := 3) (ini := false) (Cl := C_X3_tell N) (Rc := RcI) (B := B_X3_tell) (K := fun pc ls st g => none) rfl (fun e => by cases e) (by decide) (rcI_ok rfl) ?_ (co_X3_tell N q) lb_X3_tell 3000 0 S_X3_tell_0 _ _ h ls_X3_tell_0 hf
  intro pc ls st g e
  cases e
def f_X3_teacherOf (N : Nat) (a0 : Nat) (x1 : Int32) (h : mH) : Option (Int32 × mH) :=
  (rcv h 3 a0).bind fun _ =>
  (f_X3_isHand N a0 x1 h).bind fun p1 =>
  if p1.1 = 0 then
    some (jI (-1), p1.2)
  else
    (gR p1.2 3 a0 1).bind fun v2 =>
    (ldI 0 p1.2 v2 x1).bind fun v3 =>
    some (v3, p1.2)
def y_X3_teacherOf : mM := (yX3_teacherOf, cX3_teacherOf, 2, (some .int))
def B_X3_teacherOf : List (Nat × List mI) := [(17, [(.iconst (-1), 1, [], [-1])]), (18, [(.ireturn, 1, [], [])])]
def S_X3_teacherOf_0 : List mI := [(.aload_n 0, 1, [0], []), (.iload_n 1, 1, [1], []), (.invokevirtual 30, 3, [0, 63, 1, 3, 240], []), (.ifCond .eq 12, 3, [17], []), (.aload_n 0, 1, [0], []), (.getfield 15, 3, [3, 1, 2, 67], []), (.iload_n 1, 1, [1], []), (.iaload, 1, [0], []), (.goto 4, 3, [18], [])]
theorem lb_X3_teacherOf : B_X3_teacherOf.all (fun b => lst y_X3_teacherOf.2.1 3 y_X3_teacherOf.2.2.1 false b.1 b.2) = true := by decide +kernel
theorem ls_X3_teacherOf_0 : lst y_X3_teacherOf.2.1 3 y_X3_teacherOf.2.2.1 false 0 S_X3_teacherOf_0 = true := by decide +kernel
def C_X3_teacherOf (N : Nat) : Nat → List Value → mH → (Option Value → mH → Option (Int32 × mH)) → Option (Int32 × mH) := fun j as g k => kb j 63 (pr1 as fun b0 as => pp1 as fun b1 as => pe as ((f_X3_isHand N b0 b1 g).bind fun p => k (some (.int p.1)) p.2)) (none)
theorem co_X3_teacherOf (N : Nat) (q : Int32 × mH) : clOK 5 q (C_X3_teacherOf N) := by
  intro j as g k e
  rcases kb_s e with ⟨rfl, e⟩ | e
  · obtain ⟨b0, r0, q0, f0⟩ := pr1_s e
    obtain ⟨b1, r1, q1, f1⟩ := pp1_s f0
    obtain ⟨qe, fe⟩ := pe_s f1
    obtain ⟨p, e1, e2⟩ := bnd_s fe
    subst qe
    subst q1
    subst q0
    exact ⟨_, _, _, _, 4, rfl, (by decide), m_X3_isHand N e1, e2⟩
  cases e
set_option maxRecDepth 100000 in
theorem m_X3_teacherOf (N : Nat) {a0 : Nat} {x1 : Int32} {h : mH} {q : Int32 × mH} (hf : f_X3_teacherOf N a0 x1 h = some q) : MM y_X3_teacherOf 5 [.ref a0, .int x1] h (some (.int q.1)) q.2 := by
  refine MM.of (mFx (j := 66) rfl).2.2.2.1 (Nat.le_of_ble_eq_true rfl) (fun X => ?_)
  refine ev_ok (o := 3) (ini := false) (Cl := C_X3_teacherOf N) (Rc := RcI) (B := B_X3_teacherOf) (K := fun pc ls st g => none) rfl (fun e => by cases e) (by decide) (rcI_ok rfl) ?_ (co_X3_teacherOf N q) lb_X3_teacherOf 3000 0 S_X3_teacherOf_0 _ _ h ls_X3_teacherOf_0 hf
  intro pc ls st g e
  cases e
def f_J6_bitCount_0f7a4 (N : Nat) (x0 : Int32) (h : mH) : Option (Int32 × mH) :=
  let w1 := iSub x0 (iAnd (iUsr x0 (jI 1)) (jI 1431655765))
  let w2 := iAdd (iAnd w1 (jI 858993459)) (iAnd (iUsr w1 (jI 2)) (jI 858993459))
  let w3 := iAnd (iAdd w2 (iUsr w2 (jI 4))) (jI 252645135)
  let w4 := iAdd w3 (iUsr w3 (jI 8))
  let w5 := iAdd w4 (iUsr w4 (jI 16))
  some (iAnd w5 (jI 63), h)
def y_J6_bitCount_0f7a4 : mM := (yJ6_bitCount_0f7a4, cJ6_bitCount_0f7a4, 1, (some .int))
def B_J6_bitCount_0f7a4 : List (Nat × List mI) := []
def S_J6_bitCount_0f7a4_0 : List mI := [(.iload_n 0, 1, [0], []), (.iload_n 0, 1, [0], []), (.iconst 1, 1, [], [1]), (.iushr, 1, [], []), (.ldc_w 265, 3, [0], [1431655765]), (.iand, 1, [], []), (.isub, 1, [], []), (.istore_n 0, 1, [0], []), (.iload_n 0, 1, [0], []), (.ldc_w 266, 3, [1], [858993459]), (.iand, 1, [], []), (.iload_n 0, 1, [0], []), (.iconst 2, 1, [], [2]), (.iushr, 1, [], []), (.ldc_w 266, 3, [1], [858993459]), (.iand, 1, [], []), (.iadd, 1, [], []), (.istore_n 0, 1, [0], []), (.iload_n 0, 1, [0], []), (.iload_n 0, 1, [0], []), (.iconst 4, 1, [], [4]), (.iushr, 1, [], []), (.iadd, 1, [], []), (.ldc_w 267, 3, [2], [252645135]), (.iand, 1, [], []), (.istore_n 0, 1, [0], []), (.iload_n 0, 1, [0], []), (.iload_n 0, 1, [0], []), (.bipush 8, 2, [], [8]), (.iushr, 1, [], []), (.iadd, 1, [], []), (.istore_n 0, 1, [0], []), (.iload_n 0, 1, [0], []), (.iload_n 0, 1, [0], []), (.bipush 16, 2, [], [16]), (.iushr, 1, [], []), (.iadd, 1, [], []), (.istore_n 0, 1, [0], []), (.iload_n 0, 1, [0], []), (.bipush 63, 2, [], [63]), (.iand, 1, [], []), (.ireturn, 1, [], [])]
theorem lb_J6_bitCount_0f7a4 : B_J6_bitCount_0f7a4.all (fun b => lst y_J6_bitCount_0f7a4.2.1 15 y_J6_bitCount_0f7a4.2.2.1 false b.1 b.2) = true := by decide +kernel
theorem ls_J6_bitCount_0f7a4_0 : lst y_J6_bitCount_0f7a4.2.1 15 y_J6_bitCount_0f7a4.2.2.1 false 0 S_J6_bitCount_0f7a4_0 = true := by decide +kernel
def C_J6_bitCount_0f7a4 (N : Nat) : Nat → List Value → mH → (Option Value → mH → Option (Int32 × mH)) → Option (Int32 × mH) := fun j as g k => none
theorem co_J6_bitCount_0f7a4 (N : Nat) (q : Int32 × mH) : clOK 4 q (C_J6_bitCount_0f7a4 N) := by
  intro j as g k e
  cases e
set_option maxRecDepth 100000 in
theorem m_J6_bitCount_0f7a4 (N : Nat) {x0 : Int32} {h : mH} {q : Int32 × mH} (hf : f_J6_bitCount_0f7a4 N x0 h = some q) : MM y_J6_bitCount_0f7a4 4 [.int x0] h (some (.int q.1)) q.2 := by
  refine MM.of (mFx (j := 345) rfl).2.2.2.1 (Nat.le_of_ble_eq_true rfl) (fun X => ?_)
  refine ev_ok (o := 15) (ini := false) (Cl := C_J6_bitCount_0f7a4 N) (Rc := RcI) (B := B_J6_bitCount_0f7a4) (K := fun pc ls st g => none) rfl (fun e => by cases e) (by decide) (rcI_ok rfl) ?_ (co_J6_bitCount_0f7a4 N q) lb_J6_bitCount_0f7a4 3000 0 S_J6_bitCount_0f7a4_0 _ _ h ls_J6_bitCount_0f7a4_0 hf
  intro pc ls st g e
  cases e
def J_X3_nextTaught_49 (N : Nat) (k18 : Nat → Int32 → Int32 → Int32 → Int32 → Int32 → mH → Option (Int32 × mH)) (a0 : Nat) (x1 : Int32) (x2 : Int32) (x3 : Int32) (x4 : Int32) (x5 : Int32) (s_0 : Int32) (h : mH) : Option (Int32 × mH) :=
  if s_0 = 0 then
    let w1 := iAdd x5 (jI 1)
    k18 a0 x1 x2 x3 x4 w1 h
  else
    (rcv h 3 a0).bind fun _ =>
    (f_X3_isTold N a0 x5 h).bind fun p2 =>
    if p2.1 = 0 then
      let w3 := iAdd x5 (jI 1)
      k18 a0 x1 x2 x3 x4 w3 p2.2
    else
      (gR p2.2 3 a0 0).bind fun v4 =>
      (ldI 0 p2.2 v4 x4).bind fun v5 =>
      (gR p2.2 3 a0 0).bind fun v6 =>
      (ldI 0 p2.2 v6 x5).bind fun v7 =>
      (f_J6_bitCount_0f7a4 N (iXor v5 v7) p2.2).bind fun p8 =>
      if p8.1 < x3 then
        (gR p8.2 3 a0 0).bind fun v9 =>
        (ldI 0 p8.2 v9 x4).bind fun v10 =>
        (gR p8.2 3 a0 0).bind fun v11 =>
        (ldI 0 p8.2 v11 x5).bind fun v12 =>
        (f_J6_bitCount_0f7a4 N (iXor v10 v12) p8.2).bind fun p13 =>
        (gR p13.2 3 a0 1).bind fun v14 =>
        (stI 0 p13.2 v14 x5 x4).bind fun h15 =>
        let w16 := iAdd x5 (jI 1)
        k18 a0 x1 x5 p13.1 x4 w16 h15
      else
        let w17 := iAdd x5 (jI 1)
        k18 a0 x1 x2 x3 x4 w17 p8.2
def L_X3_nextTaught_18 (N : Nat) (k8 : Nat → Int32 → Int32 → Int32 → Int32 → mH → Option (Int32 × mH)) : Nat → Nat → Int32 → Int32 → Int32 → Int32 → Int32 → mH → Option (Int32 × mH)
  | 0, _, _, _, _, _, _, _ => none
  | n + 1, a0, x1, x2, x3, x4, x5, h =>
    if x5 < (jI 8) then
      if (iAnd (iUsr x1 x4) (jI 1)) = (jI 1) then
        if (iAnd (iUsr x1 x5) (jI 1)) = 0 then
          J_X3_nextTaught_49 N (L_X3_nextTaught_18 N k8 n) a0 x1 x2 x3 x4 x5 (jI 1) h
        else
          J_X3_nextTaught_49 N (L_X3_nextTaught_18 N k8 n) a0 x1 x2 x3 x4 x5 (jI 0) h
      else
        J_X3_nextTaught_49 N (L_X3_nextTaught_18 N k8 n) a0 x1 x2 x3 x4 x5 (jI 0) h
    else
      let w1 := iAdd x4 (jI 1)
      k8 a0 x1 x2 x3 w1 h
def L_X3_nextTaught_8 (N : Nat) : Nat → Nat → Int32 → Int32 → Int32 → Int32 → mH → Option (Int32 × mH)
  | 0, _, _, _, _, _, _ => none
  | n + 1, a0, x1, x2, x3, x4, h =>
    if x4 < (jI 8) then
      L_X3_nextTaught_18 N (L_X3_nextTaught_8 N n) N a0 x1 x2 x3 x4 (jI 0) h
    else
      some (x2, h)
def f_X3_nextTaught (N : Nat) (a0 : Nat) (x1 : Int32) (h : mH) : Option (Int32 × mH) :=
  L_X3_nextTaught_8 N N a0 x1 (jI (-1)) (jI 9) (jI 0) h
def y_X3_nextTaught : mM := (yX3_nextTaught, cX3_nextTaught, 7, (some .int))
def B_X3_nextTaught : List (Nat × List mI) := [(48, [(.iconst 0, 1, [], [0])]), (118, [(.iinc 5 1, 3, [5], [1]), (.goto (-103), 3, [18], [])]), (124, [(.iinc 4 1, 3, [4], [1]), (.goto (-119), 3, [8], [])]), (130, [(.iload_n 2, 1, [2], []), (.ireturn, 1, [], [])])]
def S_X3_nextTaught_0 : List mI := [(.iconst (-1), 1, [], [-1]), (.istore_n 2, 1, [2], []), (.bipush 9, 2, [], [9]), (.istore_n 3, 1, [3], []), (.iconst 0, 1, [], [0]), (.istore 4, 2, [4], [])]
def S_X3_nextTaught_8 : List mI := [(.iload 4, 2, [4], []), (.bipush 8, 2, [], [8]), (.if_icmp .ge 118, 3, [130], []), (.iconst 0, 1, [], [0]), (.istore 5, 2, [5], [])]
def S_X3_nextTaught_18 : List mI := [(.iload 5, 2, [5], []), (.bipush 8, 2, [], [8]), (.if_icmp .ge 102, 3, [124], []), (.iload_n 1, 1, [1], []), (.iload 4, 2, [4], []), (.iushr, 1, [], []), (.iconst 1, 1, [], [1]), (.iand, 1, [], []), (.iconst 1, 1, [], [1]), (.if_icmp .ne 16, 3, [48], []), (.iload_n 1, 1, [1], []), (.iload 5, 2, [5], []), (.iushr, 1, [], []), (.iconst 1, 1, [], [1]), (.iand, 1, [], []), (.ifCond .ne 7, 3, [48], []), (.iconst 1, 1, [], [1]), (.goto 4, 3, [49], [])]
def S_X3_nextTaught_49 : List mI := [(.istore 6, 2, [6], []), (.iload 6, 2, [6], []), (.ifCond .eq 65, 3, [118], []), (.aload_n 0, 1, [0], []), (.iload 5, 2, [5], []), (.invokevirtual 34, 3, [0, 64, 1, 3, 243], []), (.ifCond .eq 56, 3, [118], []), (.aload_n 0, 1, [0], []), (.getfield 11, 3, [3, 0, 2, 66], []), (.iload 4, 2, [4], []), (.iaload, 1, [0], []), (.aload_n 0, 1, [0], []), (.getfield 11, 3, [3, 0, 2, 66], []), (.iload 5, 2, [5], []), (.iaload, 1, [0], []), (.ixor, 1, [], []), (.invokestatic 41, 3, [1, 345, 1, 0, 245], []), (.iload_n 3, 1, [3], []), (.if_icmp .ge 34, 3, [118], []), (.aload_n 0, 1, [0], []), (.getfield 11, 3, [3, 0, 2, 66], []), (.iload 4, 2, [4], []), (.iaload, 1, [0], []), (.aload_n 0, 1, [0], []), (.getfield 11, 3, [3, 0, 2, 66], []), (.iload 5, 2, [5], []), (.iaload, 1, [0], []), (.ixor, 1, [], []), (.invokestatic 41, 3, [1, 345, 1, 0, 245], []), (.istore_n 3, 1, [3], []), (.iload 5, 2, [5], []), (.istore_n 2, 1, [2], []), (.aload_n 0, 1, [0], []), (.getfield 15, 3, [3, 1, 2, 67], []), (.iload 5, 2, [5], []), (.iload 4, 2, [4], []), (.iastore, 1, [], [])]
theorem lb_X3_nextTaught : B_X3_nextTaught.all (fun b => lst y_X3_nextTaught.2.1 3 y_X3_nextTaught.2.2.1 false b.1 b.2) = true := by decide +kernel
theorem ls_X3_nextTaught_0 : lst y_X3_nextTaught.2.1 3 y_X3_nextTaught.2.2.1 false 0 S_X3_nextTaught_0 = true := by decide +kernel
theorem ls_X3_nextTaught_8 : lst y_X3_nextTaught.2.1 3 y_X3_nextTaught.2.2.1 false 8 S_X3_nextTaught_8 = true := by decide +kernel
theorem ls_X3_nextTaught_18 : lst y_X3_nextTaught.2.1 3 y_X3_nextTaught.2.2.1 false 18 S_X3_nextTaught_18 = true := by decide +kernel
theorem ls_X3_nextTaught_49 : lst y_X3_nextTaught.2.1 3 y_X3_nextTaught.2.2.1 false 49 S_X3_nextTaught_49 = true := by decide +kernel
def C_X3_nextTaught (N : Nat) : Nat → List Value → mH → (Option Value → mH → Option (Int32 × mH)) → Option (Int32 × mH) := fun j as g k => kb j 64 (pr1 as fun b0 as => pp1 as fun b1 as => pe as ((f_X3_isTold N b0 b1 g).bind fun p => k (some (.int p.1)) p.2)) (kb j 345 (pp1 as fun b0 as => pe as ((f_J6_bitCount_0f7a4 N b0 g).bind fun p => k (some (.int p.1)) p.2)) (none))
theorem co_X3_nextTaught (N : Nat) (q : Int32 × mH) : clOK 6 q (C_X3_nextTaught N) := by
  intro j as g k e
  rcases kb_s e with ⟨rfl, e⟩ | e
  · obtain ⟨b0, r0, q0, f0⟩ := pr1_s e
    obtain ⟨b1, r1, q1, f1⟩ := pp1_s f0
    obtain ⟨qe, fe⟩ := pe_s f1
    obtain ⟨p, e1, e2⟩ := bnd_s fe
    subst qe
    subst q1
    subst q0
    exact ⟨_, _, _, _, 5, rfl, (by decide), m_X3_isTold N e1, e2⟩
  rcases kb_s e with ⟨rfl, e⟩ | e
  · obtain ⟨b0, r0, q0, f0⟩ := pp1_s e
    obtain ⟨qe, fe⟩ := pe_s f0
    obtain ⟨p, e1, e2⟩ := bnd_s fe
    subst qe
    subst q0
    exact ⟨_, _, _, _, 4, rfl, (by decide), m_J6_bitCount_0f7a4 N e1, e2⟩
  cases e
set_option maxRecDepth 100000 in
theorem t_X3_nextTaught_49 {X : Nat × (Nat → Int32)} (N : Nat) {q : Int32 × mH} {k18 : Nat → Int32 → Int32 → Int32 → Int32 → Int32 → mH → Option (Int32 × mH)} (hk18 : ∀ (a0 : Nat) (x1 : Int32) (x2 : Int32) (x3 : Int32) (x4 : Int32) (x5 : Int32) g, k18 a0 x1 x2 x3 x4 x5 g = some q → MW X y_X3_nextTaught 6 18 [(0, .ref a0), (1, .int x1), (2, .int x2), (3, .int x3), (4, .int x4), (5, .int x5)] [] g (some (.int q.1)) q.2) (a0 : Nat) (x1 : Int32) (x2 : Int32) (x3 : Int32) (x4 : Int32) (x5 : Int32) (s_0 : Int32) (h : mH) (hf : J_X3_nextTaught_49 N k18 a0 x1 x2 x3 x4 x5 s_0 h = some q) : MW X y_X3_nextTaught 6 49 [(0, .ref a0), (1, .int x1), (2, .int x2), (3, .int x3), (4, .int x4), (5, .int x5)] [.int s_0] h (some (.int q.1)) q.2 := by
  refine ev_ok (o := 3) (ini := false) (Cl := C_X3_nextTaught N) (Rc := RcI) (B := B_X3_nextTaught) (K := fun pc ls st g => kb pc 18 (lgr 0 ls fun a0 => lgi 1 ls fun x1 => lgi 2 ls fun x2 => lgi 3 ls fun x3 => lgi 4 ls fun x4 => lgi 5 ls fun x5 => pe st (k18 a0 x1 x2 x3 x4 x5 g)) (none)) rfl (fun e => by cases e) (by decide) (rcI_ok rfl) ?_ (co_X3_nextTaught N q) lb_X3_nextTaught 3000 49 S_X3_nextTaught_49 _ _ h ls_X3_nextTaught_49 hf
  intro pc ls st g e
  rcases kb_s e with ⟨rfl, e⟩ | e
  · obtain ⟨a0, e0, f0⟩ := lgr_s e
    obtain ⟨x1, e1, f1⟩ := lgi_s f0
    obtain ⟨x2, e2, f2⟩ := lgi_s f1
    obtain ⟨x3, e3, f3⟩ := lgi_s f2
    obtain ⟨x4, e4, f4⟩ := lgi_s f3
    obtain ⟨x5, e5, f5⟩ := lgi_s f4
    obtain ⟨qe, fe⟩ := pe_s f5
    subst qe
    exact MW.sub (List.forall_mem_cons.mpr ⟨lg_mem e0, List.forall_mem_cons.mpr ⟨lg_mem e1, List.forall_mem_cons.mpr ⟨lg_mem e2, List.forall_mem_cons.mpr ⟨lg_mem e3, List.forall_mem_cons.mpr ⟨lg_mem e4, List.forall_mem_cons.mpr ⟨lg_mem e5, fun _ h => absurd h List.not_mem_nil⟩⟩⟩⟩⟩⟩) (hk18 a0 x1 x2 x3 x4 x5 g fe)
  cases e
set_option maxRecDepth 100000 in
theorem t_X3_nextTaught_18 {X : Nat × (Nat → Int32)} (N : Nat) {q : Int32 × mH} {k8 : Nat → Int32 → Int32 → Int32 → Int32 → mH → Option (Int32 × mH)} (hk8 : ∀ (a0 : Nat) (x1 : Int32) (x2 : Int32) (x3 : Int32) (x4 : Int32) g, k8 a0 x1 x2 x3 x4 g = some q → MW X y_X3_nextTaught 6 8 [(0, .ref a0), (1, .int x1), (2, .int x2), (3, .int x3), (4, .int x4)] [] g (some (.int q.1)) q.2) : ∀ (n : Nat) (a0 : Nat) (x1 : Int32) (x2 : Int32) (x3 : Int32) (x4 : Int32) (x5 : Int32) (h : mH), L_X3_nextTaught_18 N k8 n a0 x1 x2 x3 x4 x5 h = some q → MW X y_X3_nextTaught 6 18 [(0, .ref a0), (1, .int x1), (2, .int x2), (3, .int x3), (4, .int x4), (5, .int x5)] [] h (some (.int q.1)) q.2 := by
  intro n
  induction n with
  | zero => intro a0 x1 x2 x3 x4 x5 h hf; cases hf
  | succ n ih =>
    intro a0 x1 x2 x3 x4 x5 h hf
    refine ev_ok (o := 3) (ini := false) (Cl := C_X3_nextTaught N) (Rc := RcI) (B := B_X3_nextTaught) (K := fun pc ls st g => kb pc 8 (lgr 0 ls fun a0 => lgi 1 ls fun x1 => lgi 2 ls fun x2 => lgi 3 ls fun x3 => lgi 4 ls fun x4 => pe st (k8 a0 x1 x2 x3 x4 g)) (kb pc 49 (lgr 0 ls fun a0 => lgi 1 ls fun x1 => lgi 2 ls fun x2 => lgi 3 ls fun x3 => lgi 4 ls fun x4 => lgi 5 ls fun x5 => pp1 st fun s_0 st => pe st (J_X3_nextTaught_49 N (L_X3_nextTaught_18 N k8 n) a0 x1 x2 x3 x4 x5 s_0 g)) (none))) rfl (fun e => by cases e) (by decide) (rcI_ok rfl) ?_ (co_X3_nextTaught N q) lb_X3_nextTaught 3000 18 S_X3_nextTaught_18 _ _ h ls_X3_nextTaught_18 hf
    intro pc ls st g e
    rcases kb_s e with ⟨rfl, e⟩ | e
    · obtain ⟨a0, e0, f0⟩ := lgr_s e
      obtain ⟨x1, e1, f1⟩ := lgi_s f0
      obtain ⟨x2, e2, f2⟩ := lgi_s f1
      obtain ⟨x3, e3, f3⟩ := lgi_s f2
      obtain ⟨x4, e4, f4⟩ := lgi_s f3
      obtain ⟨qe, fe⟩ := pe_s f4
      subst qe
      exact MW.sub (List.forall_mem_cons.mpr ⟨lg_mem e0, List.forall_mem_cons.mpr ⟨lg_mem e1, List.forall_mem_cons.mpr ⟨lg_mem e2, List.forall_mem_cons.mpr ⟨lg_mem e3, List.forall_mem_cons.mpr ⟨lg_mem e4, fun _ h => absurd h List.not_mem_nil⟩⟩⟩⟩⟩) (hk8 a0 x1 x2 x3 x4 g fe)
    rcases kb_s e with ⟨rfl, e⟩ | e
    · obtain ⟨a0, e0, f0⟩ := lgr_s e
      obtain ⟨x1, e1, f1⟩ := lgi_s f0
      obtain ⟨x2, e2, f2⟩ := lgi_s f1
      obtain ⟨x3, e3, f3⟩ := lgi_s f2
      obtain ⟨x4, e4, f4⟩ := lgi_s f3
      obtain ⟨x5, e5, f5⟩ := lgi_s f4
      obtain ⟨s_0, r0, q0, g0⟩ := pp1_s f5
      obtain ⟨qe, fe⟩ := pe_s g0
      subst qe
      subst q0
      exact MW.sub (List.forall_mem_cons.mpr ⟨lg_mem e0, List.forall_mem_cons.mpr ⟨lg_mem e1, List.forall_mem_cons.mpr ⟨lg_mem e2, List.forall_mem_cons.mpr ⟨lg_mem e3, List.forall_mem_cons.mpr ⟨lg_mem e4, List.forall_mem_cons.mpr ⟨lg_mem e5, fun _ h => absurd h List.not_mem_nil⟩⟩⟩⟩⟩⟩) (t_X3_nextTaught_49 N (fun a0 x1 x2 x3 x4 x5 g e => ih a0 x1 x2 x3 x4 x5 g e) a0 x1 x2 x3 x4 x5 s_0 g fe)
    cases e
set_option maxRecDepth 100000 in
theorem t_X3_nextTaught_8 {X : Nat × (Nat → Int32)} (N : Nat) {q : Int32 × mH} : ∀ (n : Nat) (a0 : Nat) (x1 : Int32) (x2 : Int32) (x3 : Int32) (x4 : Int32) (h : mH), L_X3_nextTaught_8 N n a0 x1 x2 x3 x4 h = some q → MW X y_X3_nextTaught 6 8 [(0, .ref a0), (1, .int x1), (2, .int x2), (3, .int x3), (4, .int x4)] [] h (some (.int q.1)) q.2 := by
  intro n
  induction n with
  | zero => intro a0 x1 x2 x3 x4 h hf; cases hf
  | succ n ih =>
    intro a0 x1 x2 x3 x4 h hf
    refine ev_ok (o := 3) (ini := false) (Cl := C_X3_nextTaught N) (Rc := RcI) (B := B_X3_nextTaught) (K := fun pc ls st g => kb pc 18 (lgr 0 ls fun a0 => lgi 1 ls fun x1 => lgi 2 ls fun x2 => lgi 3 ls fun x3 => lgi 4 ls fun x4 => lgi 5 ls fun x5 => pe st (L_X3_nextTaught_18 N (L_X3_nextTaught_8 N n) N a0 x1 x2 x3 x4 x5 g)) (none)) rfl (fun e => by cases e) (by decide) (rcI_ok rfl) ?_ (co_X3_nextTaught N q) lb_X3_nextTaught 3000 8 S_X3_nextTaught_8 _ _ h ls_X3_nextTaught_8 hf
    intro pc ls st g e
    rcases kb_s e with ⟨rfl, e⟩ | e
    · obtain ⟨a0, e0, f0⟩ := lgr_s e
      obtain ⟨x1, e1, f1⟩ := lgi_s f0
      obtain ⟨x2, e2, f2⟩ := lgi_s f1
      obtain ⟨x3, e3, f3⟩ := lgi_s f2
      obtain ⟨x4, e4, f4⟩ := lgi_s f3
      obtain ⟨x5, e5, f5⟩ := lgi_s f4
      obtain ⟨qe, fe⟩ := pe_s f5
      subst qe
      exact MW.sub (List.forall_mem_cons.mpr ⟨lg_mem e0, List.forall_mem_cons.mpr ⟨lg_mem e1, List.forall_mem_cons.mpr ⟨lg_mem e2, List.forall_mem_cons.mpr ⟨lg_mem e3, List.forall_mem_cons.mpr ⟨lg_mem e4, List.forall_mem_cons.mpr ⟨lg_mem e5, fun _ h => absurd h List.not_mem_nil⟩⟩⟩⟩⟩⟩) (t_X3_nextTaught_18 N (fun a0 x1 x2 x3 x4 g e => ih a0 x1 x2 x3 x4 g e) N a0 x1 x2 x3 x4 x5 g fe)
    cases e
set_option maxRecDepth 100000 in
theorem m_X3_nextTaught (N : Nat) {a0 : Nat} {x1 : Int32} {h : mH} {q : Int32 × mH} (hf : f_X3_nextTaught N a0 x1 h = some q) : MM y_X3_nextTaught 6 [.ref a0, .int x1] h (some (.int q.1)) q.2 := by
  refine MM.of (mFx (j := 68) rfl).2.2.2.1 (Nat.le_of_ble_eq_true rfl) (fun X => ?_)
  refine ev_ok (o := 3) (ini := false) (Cl := C_X3_nextTaught N) (Rc := RcI) (B := B_X3_nextTaught) (K := fun pc ls st g => kb pc 8 (lgr 0 ls fun a0 => lgi 1 ls fun x1 => lgi 2 ls fun x2 => lgi 3 ls fun x3 => lgi 4 ls fun x4 => pe st (L_X3_nextTaught_8 N N a0 x1 x2 x3 x4 g)) (none)) rfl (fun e => by cases e) (by decide) (rcI_ok rfl) ?_ (co_X3_nextTaught N q) lb_X3_nextTaught 3000 0 S_X3_nextTaught_0 _ _ h ls_X3_nextTaught_0 hf
  intro pc ls st g e
  rcases kb_s e with ⟨rfl, e⟩ | e
  · obtain ⟨a0, e0, f0⟩ := lgr_s e
    obtain ⟨x1, e1, f1⟩ := lgi_s f0
    obtain ⟨x2, e2, f2⟩ := lgi_s f1
    obtain ⟨x3, e3, f3⟩ := lgi_s f2
    obtain ⟨x4, e4, f4⟩ := lgi_s f3
    obtain ⟨qe, fe⟩ := pe_s f4
    subst qe
    exact MW.sub (List.forall_mem_cons.mpr ⟨lg_mem e0, List.forall_mem_cons.mpr ⟨lg_mem e1, List.forall_mem_cons.mpr ⟨lg_mem e2, List.forall_mem_cons.mpr ⟨lg_mem e3, List.forall_mem_cons.mpr ⟨lg_mem e4, fun _ h => absurd h List.not_mem_nil⟩⟩⟩⟩⟩) (t_X3_nextTaught_8 N N a0 x1 x2 x3 x4 g fe)
  cases e
def L_X3_teachAll_42 (N : Nat) : Nat → Nat → Int32 → Int32 → Int32 → mH → Option (Int32 × mH)
  | 0, _, _, _, _, _ => none
  | n + 1, a0, x1, x2, x3, h =>
    if x3 < (jI 8) then
      if x1 = 0 then
        some (x2, h)
      else
        (rcv h 3 a0).bind fun _ =>
        (f_X3_nextTaught N a0 x1 h).bind fun p1 =>
        if p1.1 = (jI (-1)) then
          some (x2, p1.2)
        else
          let w2 := iOr x1 (iShl (jI 1) p1.1)
          (gR p1.2 3 a0 0).bind fun v3 =>
          (ldI 0 p1.2 v3 p1.1).bind fun v4 =>
          (gR p1.2 3 a0 0).bind fun v5 =>
          (gR p1.2 3 a0 1).bind fun v6 =>
          (ldI 0 p1.2 v6 p1.1).bind fun v7 =>
          (ldI 0 p1.2 v5 v7).bind fun v8 =>
          (f_J6_bitCount_0f7a4 N (iXor v4 v8) p1.2).bind fun p9 =>
          let w10 := iAdd x2 p9.1
          let w11 := iAdd x3 (jI 1)
          L_X3_teachAll_42 N n a0 w2 w10 w11 p9.2
    else
      some (x2, h)
def L_X3_teachAll_5 (N : Nat) : Nat → Nat → Int32 → Int32 → mH → Option (Int32 × mH)
  | 0, _, _, _, _ => none
  | n + 1, a0, x1, x2, h =>
    if x2 < 0 then
      L_X3_teachAll_42 N N a0 x1 (jI 0) (jI 1) h
    else
      (gR h 3 a0 1).bind fun v1 =>
      (stI 0 h v1 x2 (jI (-1))).bind fun h2 =>
      (rcv h2 3 a0).bind fun _ =>
      (f_X3_isTold N a0 x2 h2).bind fun p3 =>
      if p3.1 = 0 then
        let w4 := iAdd x2 (jI (-1))
        L_X3_teachAll_5 N n a0 x1 w4 p3.2
      else
        let w5 := iShl (jI 1) x2
        let w6 := iAdd x2 (jI (-1))
        L_X3_teachAll_5 N n a0 w5 w6 p3.2
def f_X3_teachAll (N : Nat) (a0 : Nat) (h : mH) : Option (Int32 × mH) :=
  L_X3_teachAll_5 N N a0 (jI 0) (jI 7) h
def y_X3_teachAll : mM := (yX3_teachAll, cX3_teachAll, 5, (some .int))
def B_X3_teachAll : List (Nat × List mI) := [(30, [(.iload_n 1, 1, [1], [])]), (31, [(.istore_n 1, 1, [1], []), (.iinc 2 (-1), 3, [2], [-1]), (.goto (-30), 3, [5], [])]), (38, [(.iconst 0, 1, [], [0]), (.istore_n 2, 1, [2], []), (.iconst 1, 1, [], [1]), (.istore_n 3, 1, [3], [])]), (67, [(.iload_n 1, 1, [1], []), (.iconst 1, 1, [], [1]), (.iload 4, 2, [4], []), (.ishl, 1, [], []), (.ior, 1, [], []), (.istore_n 1, 1, [1], []), (.iload_n 2, 1, [2], []), (.aload_n 0, 1, [0], []), (.getfield 11, 3, [3, 0, 2, 66], []), (.iload 4, 2, [4], []), (.iaload, 1, [0], []), (.aload_n 0, 1, [0], []), (.getfield 11, 3, [3, 0, 2, 66], []), (.aload_n 0, 1, [0], []), (.getfield 15, 3, [3, 1, 2, 67], []), (.iload 4, 2, [4], []), (.iaload, 1, [0], []), (.iaload, 1, [0], []), (.ixor, 1, [], []), (.invokestatic 41, 3, [1, 345, 1, 0, 245], []), (.iadd, 1, [], []), (.istore_n 2, 1, [2], []), (.iinc 3 1, 3, [3], [1]), (.goto (-61), 3, [42], [])]), (106, [(.iload_n 2, 1, [2], []), (.ireturn, 1, [], [])])]
def S_X3_teachAll_0 : List mI := [(.iconst 0, 1, [], [0]), (.istore_n 1, 1, [1], []), (.bipush 7, 2, [], [7]), (.istore_n 2, 1, [2], [])]
def S_X3_teachAll_5 : List mI := [(.iload_n 2, 1, [2], []), (.ifCond .lt 32, 3, [38], []), (.aload_n 0, 1, [0], []), (.getfield 15, 3, [3, 1, 2, 67], []), (.iload_n 2, 1, [2], []), (.iconst (-1), 1, [], [-1]), (.iastore, 1, [], []), (.aload_n 0, 1, [0], []), (.iload_n 2, 1, [2], []), (.invokevirtual 34, 3, [0, 64, 1, 3, 243], []), (.ifCond .eq 9, 3, [30], []), (.iconst 1, 1, [], [1]), (.iload_n 2, 1, [2], []), (.ishl, 1, [], []), (.goto 4, 3, [31], [])]
def S_X3_teachAll_42 : List mI := [(.iload_n 3, 1, [3], []), (.bipush 8, 2, [], [8]), (.if_icmp .ge 61, 3, [106], []), (.iload_n 1, 1, [1], []), (.ifCond .eq 57, 3, [106], []), (.aload_n 0, 1, [0], []), (.iload_n 1, 1, [1], []), (.invokevirtual 37, 3, [0, 68, 1, 3, 244], []), (.istore 4, 2, [4], []), (.iload 4, 2, [4], []), (.iconst (-1), 1, [], [-1]), (.if_icmp .ne 5, 3, [67], []), (.iload_n 2, 1, [2], []), (.ireturn, 1, [], [])]
theorem lb_X3_teachAll : B_X3_teachAll.all (fun b => lst y_X3_teachAll.2.1 3 y_X3_teachAll.2.2.1 false b.1 b.2) = true := by decide +kernel
theorem ls_X3_teachAll_0 : lst y_X3_teachAll.2.1 3 y_X3_teachAll.2.2.1 false 0 S_X3_teachAll_0 = true := by decide +kernel
theorem ls_X3_teachAll_5 : lst y_X3_teachAll.2.1 3 y_X3_teachAll.2.2.1 false 5 S_X3_teachAll_5 = true := by decide +kernel
theorem ls_X3_teachAll_42 : lst y_X3_teachAll.2.1 3 y_X3_teachAll.2.2.1 false 42 S_X3_teachAll_42 = true := by decide +kernel
def C_X3_teachAll (N : Nat) : Nat → List Value → mH → (Option Value → mH → Option (Int32 × mH)) → Option (Int32 × mH) := fun j as g k => kb j 64 (pr1 as fun b0 as => pp1 as fun b1 as => pe as ((f_X3_isTold N b0 b1 g).bind fun p => k (some (.int p.1)) p.2)) (kb j 68 (pr1 as fun b0 as => pp1 as fun b1 as => pe as ((f_X3_nextTaught N b0 b1 g).bind fun p => k (some (.int p.1)) p.2)) (kb j 345 (pp1 as fun b0 as => pe as ((f_J6_bitCount_0f7a4 N b0 g).bind fun p => k (some (.int p.1)) p.2)) (none)))
theorem co_X3_teachAll (N : Nat) (q : Int32 × mH) : clOK 7 q (C_X3_teachAll N) := by
  intro j as g k e
  rcases kb_s e with ⟨rfl, e⟩ | e
  · obtain ⟨b0, r0, q0, f0⟩ := pr1_s e
    obtain ⟨b1, r1, q1, f1⟩ := pp1_s f0
    obtain ⟨qe, fe⟩ := pe_s f1
    obtain ⟨p, e1, e2⟩ := bnd_s fe
    subst qe
    subst q1
    subst q0
    exact ⟨_, _, _, _, 5, rfl, (by decide), m_X3_isTold N e1, e2⟩
  rcases kb_s e with ⟨rfl, e⟩ | e
  · obtain ⟨b0, r0, q0, f0⟩ := pr1_s e
    obtain ⟨b1, r1, q1, f1⟩ := pp1_s f0
    obtain ⟨qe, fe⟩ := pe_s f1
    obtain ⟨p, e1, e2⟩ := bnd_s fe
    subst qe
    subst q1
    subst q0
    exact ⟨_, _, _, _, 6, rfl, (by decide), m_X3_nextTaught N e1, e2⟩
  rcases kb_s e with ⟨rfl, e⟩ | e
  · obtain ⟨b0, r0, q0, f0⟩ := pp1_s e
    obtain ⟨qe, fe⟩ := pe_s f0
    obtain ⟨p, e1, e2⟩ := bnd_s fe
    subst qe
    subst q0
    exact ⟨_, _, _, _, 4, rfl, (by decide), m_J6_bitCount_0f7a4 N e1, e2⟩
  cases e
set_option maxRecDepth 100000 in
theorem t_X3_teachAll_42 {X : Nat × (Nat → Int32)} (N : Nat) {q : Int32 × mH} : ∀ (n : Nat) (a0 : Nat) (x1 : Int32) (x2 : Int32) (x3 : Int32) (h : mH), L_X3_teachAll_42 N n a0 x1 x2 x3 h = some q → MW X y_X3_teachAll 7 42 [(0, .ref a0), (1, .int x1), (2, .int x2), (3, .int x3)] [] h (some (.int q.1)) q.2 := by
  intro n
  induction n with
  | zero => intro a0 x1 x2 x3 h hf; cases hf
  | succ n ih =>
    intro a0 x1 x2 x3 h hf
    refine ev_ok (o := 3) (ini := false) (Cl := C_X3_teachAll N) (Rc := RcI) (B := B_X3_teachAll) (K := fun pc ls st g => kb pc 42 (lgr 0 ls fun a0 => lgi 1 ls fun x1 => lgi 2 ls fun x2 => lgi 3 ls fun x3 => pe st (L_X3_teachAll_42 N n a0 x1 x2 x3 g)) (none)) rfl (fun e => by cases e) (by decide) (rcI_ok rfl) ?_ (co_X3_teachAll N q) lb_X3_teachAll 3000 42 S_X3_teachAll_42 _ _ h ls_X3_teachAll_42 hf
    intro pc ls st g e
    rcases kb_s e with ⟨rfl, e⟩ | e
    · obtain ⟨a0, e0, f0⟩ := lgr_s e
      obtain ⟨x1, e1, f1⟩ := lgi_s f0
      obtain ⟨x2, e2, f2⟩ := lgi_s f1
      obtain ⟨x3, e3, f3⟩ := lgi_s f2
      obtain ⟨qe, fe⟩ := pe_s f3
      subst qe
      exact MW.sub (List.forall_mem_cons.mpr ⟨lg_mem e0, List.forall_mem_cons.mpr ⟨lg_mem e1, List.forall_mem_cons.mpr ⟨lg_mem e2, List.forall_mem_cons.mpr ⟨lg_mem e3, fun _ h => absurd h List.not_mem_nil⟩⟩⟩⟩) (ih a0 x1 x2 x3 g fe)
    cases e
set_option maxRecDepth 100000 in
theorem t_X3_teachAll_5 {X : Nat × (Nat → Int32)} (N : Nat) {q : Int32 × mH} : ∀ (n : Nat) (a0 : Nat) (x1 : Int32) (x2 : Int32) (h : mH), L_X3_teachAll_5 N n a0 x1 x2 h = some q → MW X y_X3_teachAll 7 5 [(0, .ref a0), (1, .int x1), (2, .int x2)] [] h (some (.int q.1)) q.2 := by
  intro n
  induction n with
  | zero => intro a0 x1 x2 h hf; cases hf
  | succ n ih =>
    intro a0 x1 x2 h hf
    refine ev_ok (o := 3) (ini := false) (Cl := C_X3_teachAll N) (Rc := RcI) (B := B_X3_teachAll) (K := fun pc ls st g => kb pc 5 (lgr 0 ls fun a0 => lgi 1 ls fun x1 => lgi 2 ls fun x2 => pe st (L_X3_teachAll_5 N n a0 x1 x2 g)) (kb pc 42 (lgr 0 ls fun a0 => lgi 1 ls fun x1 => lgi 2 ls fun x2 => lgi 3 ls fun x3 => pe st (L_X3_teachAll_42 N N a0 x1 x2 x3 g)) (none))) rfl (fun e => by cases e) (by decide) (rcI_ok rfl) ?_ (co_X3_teachAll N q) lb_X3_teachAll 3000 5 S_X3_teachAll_5 _ _ h ls_X3_teachAll_5 hf
    intro pc ls st g e
    rcases kb_s e with ⟨rfl, e⟩ | e
    · obtain ⟨a0, e0, f0⟩ := lgr_s e
      obtain ⟨x1, e1, f1⟩ := lgi_s f0
      obtain ⟨x2, e2, f2⟩ := lgi_s f1
      obtain ⟨qe, fe⟩ := pe_s f2
      subst qe
      exact MW.sub (List.forall_mem_cons.mpr ⟨lg_mem e0, List.forall_mem_cons.mpr ⟨lg_mem e1, List.forall_mem_cons.mpr ⟨lg_mem e2, fun _ h => absurd h List.not_mem_nil⟩⟩⟩) (ih a0 x1 x2 g fe)
    rcases kb_s e with ⟨rfl, e⟩ | e
    · obtain ⟨a0, e0, f0⟩ := lgr_s e
      obtain ⟨x1, e1, f1⟩ := lgi_s f0
      obtain ⟨x2, e2, f2⟩ := lgi_s f1
      obtain ⟨x3, e3, f3⟩ := lgi_s f2
      obtain ⟨qe, fe⟩ := pe_s f3
      subst qe
      exact MW.sub (List.forall_mem_cons.mpr ⟨lg_mem e0, List.forall_mem_cons.mpr ⟨lg_mem e1, List.forall_mem_cons.mpr ⟨lg_mem e2, List.forall_mem_cons.mpr ⟨lg_mem e3, fun _ h => absurd h List.not_mem_nil⟩⟩⟩⟩) (t_X3_teachAll_42 N N a0 x1 x2 x3 g fe)
    cases e
set_option maxRecDepth 100000 in
theorem m_X3_teachAll (N : Nat) {a0 : Nat} {h : mH} {q : Int32 × mH} (hf : f_X3_teachAll N a0 h = some q) : MM y_X3_teachAll 7 [.ref a0] h (some (.int q.1)) q.2 := by
  refine MM.of (mFx (j := 67) rfl).2.2.2.1 (Nat.le_of_ble_eq_true rfl) (fun X => ?_)
  refine ev_ok (o := 3) (ini := false) (Cl := C_X3_teachAll N) (Rc := RcI) (B := B_X3_teachAll) (K := fun pc ls st g => kb pc 5 (lgr 0 ls fun a0 => lgi 1 ls fun x1 => lgi 2 ls fun x2 => pe st (L_X3_teachAll_5 N N a0 x1 x2 g)) (none)) rfl (fun e => by cases e) (by decide) (rcI_ok rfl) ?_ (co_X3_teachAll N q) lb_X3_teachAll 3000 0 S_X3_teachAll_0 _ _ h ls_X3_teachAll_0 hf
  intro pc ls st g e
  rcases kb_s e with ⟨rfl, e⟩ | e
  · obtain ⟨a0, e0, f0⟩ := lgr_s e
    obtain ⟨x1, e1, f1⟩ := lgi_s f0
    obtain ⟨x2, e2, f2⟩ := lgi_s f1
    obtain ⟨qe, fe⟩ := pe_s f2
    subst qe
    exact MW.sub (List.forall_mem_cons.mpr ⟨lg_mem e0, List.forall_mem_cons.mpr ⟨lg_mem e1, List.forall_mem_cons.mpr ⟨lg_mem e2, fun _ h => absurd h List.not_mem_nil⟩⟩⟩) (t_X3_teachAll_5 N N a0 x1 x2 g fe)
  cases e
def f_X6_init (N : Nat) (a0 : Nat) (h : mH) : Option (mH) :=
  (nwA h 0 (jI 8)).bind fun h1 =>
  (pV h1 6 a0 1 (.ref h.1)).bind fun h2 =>
  (nwA h2 0 (jI 8)).bind fun h3 =>
  (pV h3 6 a0 2 (.ref h2.1)).bind fun h4 =>
  (nwA h4 0 (jI 8)).bind fun h5 =>
  (pV h5 6 a0 3 (.ref h4.1)).bind fun h6 =>
  some h6
def y_X6_init : mM := (yX6_init, cX6_init, 1, none)
def B_X6_init : List (Nat × List mI) := []
def S_X6_init_0 : List mI := [(.aload_n 0, 1, [0], []), (.invokespecial 1, 3, [5, 0, 0, 0, 4], []), (.aload_n 0, 1, [0], []), (.bipush 8, 2, [], [8]), (.newarray .int, 2, [0], []), (.putfield 9, 3, [6, 1, 2, 49], []), (.aload_n 0, 1, [0], []), (.bipush 8, 2, [], [8]), (.newarray .int, 2, [0], []), (.putfield 13, 3, [6, 2, 2, 51], []), (.aload_n 0, 1, [0], []), (.bipush 8, 2, [], [8]), (.newarray .int, 2, [0], []), (.putfield 16, 3, [6, 3, 2, 53], []), (.return_, 1, [], [])]
theorem lb_X6_init : B_X6_init.all (fun b => lst y_X6_init.2.1 6 y_X6_init.2.2.1 true b.1 b.2) = true := by decide +kernel
theorem ls_X6_init_0 : lst y_X6_init.2.1 6 y_X6_init.2.2.1 true 0 S_X6_init_0 = true := by decide +kernel
def C_X6_init (N : Nat) : Nat → List Value → mH → (Option Value → mH → Option (mH)) → Option (mH) := fun j as g k => none
theorem co_X6_init (N : Nat) (q : mH) : clOK 4 q (C_X6_init N) := by
  intro j as g k e
  cases e
set_option maxRecDepth 100000 in
theorem m_X6_init (N : Nat) {a0 : Nat} {h : mH} {q : mH} (hf : f_X6_init N a0 h = some q) : MM y_X6_init 4 [.ref a0] h none q := by
  refine MM.of (mFx (j := 77) rfl).2.2.2.1 (Nat.le_of_ble_eq_true rfl) (fun X => ?_)
  refine ev_ok (o := 6) (ini := true) (Cl := C_X6_init N) (Rc := RcV) (B := B_X6_init) (K := fun pc ls st g => none) rfl (fun _ => rfl) (by decide) (rcV_ok rfl) ?_ (co_X6_init N q) lb_X6_init 3000 0 S_X6_init_0 _ _ h ls_X6_init_0 hf
  intro pc ls st g e
  cases e
def f_X4_init (N : Nat) (a0 : Nat) (h : mH) : Option (mH) :=
  let h1 := nwO h 0
  (f_X0_init N h.1 h1).bind fun h2 =>
  (pV h2 4 a0 1 (.ref h.1)).bind fun h3 =>
  let h4 := nwO h3 6
  (f_X6_init N h3.1 h4).bind fun h5 =>
  (pV h5 4 a0 2 (.ref h3.1)).bind fun h6 =>
  let h7 := nwO h6 6
  (f_X6_init N h6.1 h7).bind fun h8 =>
  (pV h8 4 a0 3 (.ref h6.1)).bind fun h9 =>
  let h10 := nwO h9 3
  (f_X3_init N h9.1 h10).bind fun h11 =>
  (pV h11 4 a0 4 (.ref h9.1)).bind fun h12 =>
  some h12
def y_X4_init : mM := (yX4_init, cX4_init, 1, none)
def B_X4_init : List (Nat × List mI) := []
def S_X4_init_0 : List mI := [(.aload_n 0, 1, [0], []), (.invokespecial 1, 3, [5, 0, 0, 0, 8], []), (.aload_n 0, 1, [0], []), (.new 7, 3, [0, 9], []), (.dup, 1, [], []), (.invokespecial 9, 3, [2, 0, 0, 0, 7], []), (.putfield 10, 3, [4, 1, 2, 75], []), (.aload_n 0, 1, [0], []), (.new 16, 3, [6, 10], []), (.dup, 1, [], []), (.invokespecial 18, 3, [4, 77, 0, 0, 3], []), (.putfield 19, 3, [4, 2, 2, 77], []), (.aload_n 0, 1, [0], []), (.new 16, 3, [6, 10], []), (.dup, 1, [], []), (.invokespecial 18, 3, [4, 77, 0, 0, 3], []), (.putfield 23, 3, [4, 3, 2, 79], []), (.aload_n 0, 1, [0], []), (.new 26, 3, [3, 11], []), (.dup, 1, [], []), (.invokespecial 28, 3, [2, 61, 0, 0, 8], []), (.putfield 29, 3, [4, 4, 2, 81], []), (.return_, 1, [], [])]
theorem lb_X4_init : B_X4_init.all (fun b => lst y_X4_init.2.1 4 y_X4_init.2.2.1 true b.1 b.2) = true := by decide +kernel
theorem ls_X4_init_0 : lst y_X4_init.2.1 4 y_X4_init.2.2.1 true 0 S_X4_init_0 = true := by decide +kernel
def C_X4_init (N : Nat) : Nat → List Value → mH → (Option Value → mH → Option (mH)) → Option (mH) := fun j as g k => kb j 0 (pr1 as fun b0 as => pe as ((f_X0_init N b0 g).bind fun p => k none p)) (kb j 77 (pr1 as fun b0 as => pe as ((f_X6_init N b0 g).bind fun p => k none p)) (kb j 61 (pr1 as fun b0 as => pe as ((f_X3_init N b0 g).bind fun p => k none p)) (none)))
theorem co_X4_init (N : Nat) (q : mH) : clOK 6 q (C_X4_init N) := by
  intro j as g k e
  rcases kb_s e with ⟨rfl, e⟩ | e
  · obtain ⟨b0, r0, q0, f0⟩ := pr1_s e
    obtain ⟨qe, fe⟩ := pe_s f0
    obtain ⟨p, e1, e2⟩ := bnd_s fe
    subst qe
    subst q0
    exact ⟨_, _, _, _, 4, rfl, (by decide), m_X0_init N e1, e2⟩
  rcases kb_s e with ⟨rfl, e⟩ | e
  · obtain ⟨b0, r0, q0, f0⟩ := pr1_s e
    obtain ⟨qe, fe⟩ := pe_s f0
    obtain ⟨p, e1, e2⟩ := bnd_s fe
    subst qe
    subst q0
    exact ⟨_, _, _, _, 4, rfl, (by decide), m_X6_init N e1, e2⟩
  rcases kb_s e with ⟨rfl, e⟩ | e
  · obtain ⟨b0, r0, q0, f0⟩ := pr1_s e
    obtain ⟨qe, fe⟩ := pe_s f0
    obtain ⟨p, e1, e2⟩ := bnd_s fe
    subst qe
    subst q0
    exact ⟨_, _, _, _, 5, rfl, (by decide), m_X3_init N e1, e2⟩
  cases e
set_option maxRecDepth 100000 in
theorem m_X4_init (N : Nat) {a0 : Nat} {h : mH} {q : mH} (hf : f_X4_init N a0 h = some q) : MM y_X4_init 6 [.ref a0] h none q := by
  refine MM.of (mFx (j := 69) rfl).2.2.2.1 (Nat.le_of_ble_eq_true rfl) (fun X => ?_)
  refine ev_ok (o := 4) (ini := true) (Cl := C_X4_init N) (Rc := RcV) (B := B_X4_init) (K := fun pc ls st g => none) rfl (fun _ => rfl) (by decide) (rcV_ok rfl) ?_ (co_X4_init N q) lb_X4_init 3000 0 S_X4_init_0 _ _ h ls_X4_init_0 hf
  intro pc ls st g e
  cases e
def f_X5_init (N : Nat) (a0 : Nat) (h : mH) : Option (mH) :=
  (nwA h 1 (jI 40)).bind fun h1 =>
  (pV h1 5 a0 2 (.ref h.1)).bind fun h2 =>
  (pV h2 5 a0 0 (.int (jI (-1)))).bind fun h3 =>
  some h3
def y_X5_init : mM := (yX5_init, cX5_init, 1, none)
def B_X5_init : List (Nat × List mI) := []
def S_X5_init_0 : List mI := [(.aload_n 0, 1, [0], []), (.invokespecial 3, 3, [5, 0, 0, 0, 7], []), (.aload_n 0, 1, [0], []), (.bipush 40, 2, [], [40]), (.newarray .long, 2, [1], []), (.putfield 11, 3, [5, 2, 2, 73], []), (.aload_n 0, 1, [0], []), (.iconst (-1), 1, [], [-1]), (.putfield 15, 3, [5, 0, 0, 68], []), (.return_, 1, [], [])]
theorem lb_X5_init : B_X5_init.all (fun b => lst y_X5_init.2.1 5 y_X5_init.2.2.1 true b.1 b.2) = true := by decide +kernel
theorem ls_X5_init_0 : lst y_X5_init.2.1 5 y_X5_init.2.2.1 true 0 S_X5_init_0 = true := by decide +kernel
def C_X5_init (N : Nat) : Nat → List Value → mH → (Option Value → mH → Option (mH)) → Option (mH) := fun j as g k => none
theorem co_X5_init (N : Nat) (q : mH) : clOK 4 q (C_X5_init N) := by
  intro j as g k e
  cases e
set_option maxRecDepth 100000 in
theorem m_X5_init (N : Nat) {a0 : Nat} {h : mH} {q : mH} (hf : f_X5_init N a0 h = some q) : MM y_X5_init 4 [.ref a0] h none q := by
  refine MM.of (mFx (j := 70) rfl).2.2.2.1 (Nat.le_of_ble_eq_true rfl) (fun X => ?_)
  refine ev_ok (o := 5) (ini := true) (Cl := C_X5_init N) (Rc := RcV) (B := B_X5_init) (K := fun pc ls st g => none) rfl (fun _ => rfl) (by decide) (rcV_ok rfl) ?_ (co_X5_init N q) lb_X5_init 3000 0 S_X5_init_0 _ _ h ls_X5_init_0 hf
  intro pc ls st g e
  cases e
def f_X5_isMissing (N : Nat) (a0 : Nat) (h : mH) : Option (Int32 × mH) :=
  (gI h 5 a0 0).bind fun v1 =>
  if v1 = (jI (-1)) then
    some (jI 1, h)
  else
    some (jI 0, h)
def y_X5_isMissing : mM := (yX5_isMissing, cX5_isMissing, 1, (some .boolean))
def B_X5_isMissing : List (Nat × List mI) := [(12, [(.iconst 0, 1, [], [0])]), (13, [(.ireturn, 1, [], [])])]
def S_X5_isMissing_0 : List mI := [(.aload_n 0, 1, [0], []), (.getfield 15, 3, [5, 0, 0, 68], []), (.iconst (-1), 1, [], [-1]), (.if_icmp .ne 7, 3, [12], []), (.iconst 1, 1, [], [1]), (.goto 4, 3, [13], [])]
theorem lb_X5_isMissing : B_X5_isMissing.all (fun b => lst y_X5_isMissing.2.1 5 y_X5_isMissing.2.2.1 false b.1 b.2) = true := by decide +kernel
theorem ls_X5_isMissing_0 : lst y_X5_isMissing.2.1 5 y_X5_isMissing.2.2.1 false 0 S_X5_isMissing_0 = true := by decide +kernel
def C_X5_isMissing (N : Nat) : Nat → List Value → mH → (Option Value → mH → Option (Int32 × mH)) → Option (Int32 × mH) := fun j as g k => none
theorem co_X5_isMissing (N : Nat) (q : Int32 × mH) : clOK 4 q (C_X5_isMissing N) := by
  intro j as g k e
  cases e
set_option maxRecDepth 100000 in
theorem m_X5_isMissing (N : Nat) {a0 : Nat} {h : mH} {q : Int32 × mH} (hf : f_X5_isMissing N a0 h = some q) : MM y_X5_isMissing 4 [.ref a0] h (some (.int q.1)) q.2 := by
  refine MM.of (mFx (j := 71) rfl).2.2.2.1 (Nat.le_of_ble_eq_true rfl) (fun X => ?_)
  refine ev_ok (o := 5) (ini := false) (Cl := C_X5_isMissing N) (Rc := RcZ) (B := B_X5_isMissing) (K := fun pc ls st g => none) rfl (fun e => by cases e) (by decide) (rcZ_ok rfl) ?_ (co_X5_isMissing N q) lb_X5_isMissing 3000 0 S_X5_isMissing_0 _ _ h ls_X5_isMissing_0 hf
  intro pc ls st g e
  cases e
