/-! printed by wip/whole/gen_code.py: the functions of methods 0 to 39 (leaves first), and their contracts -/
def f_X0_init (N : Nat) (a0 : Nat) (h : mH) : Option (mH) :=
  (nwA h 0 (jI 24)).bind fun h1 =>
  (pV h1 0 a0 7 (.ref h.1)).bind fun h2 =>
  (nwA h2 0 (jI 88)).bind fun h3 =>
  (pV h3 0 a0 8 (.ref h2.1)).bind fun h4 =>
  (nwA h4 0 (jI 24)).bind fun h5 =>
  (pV h5 0 a0 9 (.ref h4.1)).bind fun h6 =>
  (pV h6 0 a0 4 (.int (jI 2))).bind fun h7 =>
  (pV h7 0 a0 5 (.int (jI 100))).bind fun h8 =>
  some h8
def y_X0_init : mM := (yX0_init, cX0_init, 1, none)
def B_X0_init : List (Nat × List mI) := []
def S_X0_init_0 : List mI := [(.aload_n 0, 1, [0], []), (.invokespecial 5, 3, [5, 0, 0, 0, 1], []), (.aload_n 0, 1, [0], []), (.bipush 24, 2, [], [24]), (.newarray .int, 2, [0], []), (.putfield 11, 3, [0, 7, 2, 24], []), (.aload_n 0, 1, [0], []), (.bipush 88, 2, [], [88]), (.newarray .int, 2, [0], []), (.putfield 15, 3, [0, 8, 2, 26], []), (.aload_n 0, 1, [0], []), (.bipush 24, 2, [], [24]), (.newarray .int, 2, [0], []), (.putfield 18, 3, [0, 9, 2, 28], []), (.aload_n 0, 1, [0], []), (.iconst 2, 1, [], [2]), (.putfield 21, 3, [0, 4, 0, 14], []), (.aload_n 0, 1, [0], []), (.bipush 100, 2, [], [100]), (.putfield 25, 3, [0, 5, 0, 17], []), (.return_, 1, [], [])]
theorem lb_X0_init : B_X0_init.all (fun b => lst y_X0_init.2.1 0 y_X0_init.2.2.1 true b.1 b.2) = true := by decide +kernel
theorem ls_X0_init_0 : lst y_X0_init.2.1 0 y_X0_init.2.2.1 true 0 S_X0_init_0 = true := by decide +kernel
def C_X0_init (N : Nat) : Nat → List Value → mH → (Option Value → mH → Option (mH)) → Option (mH) := fun j as g k => none
theorem co_X0_init (N : Nat) (q : mH) : clOK 4 q (C_X0_init N) := by
  intro j as g k e
  cases e
set_option maxRecDepth 100000 in
theorem m_X0_init (N : Nat) {a0 : Nat} {h : mH} {q : mH} (hf : f_X0_init N a0 h = some q) : MM y_X0_init 4 [.ref a0] h none q := by
  refine MM.of (mFx (j := 0) rfl).2.2.2.1 (Nat.le_of_ble_eq_true rfl) (fun X => ?_)
  refine ev_ok (o := 0) (ini := true) (Cl := C_X0_init N) (Rc := RcV) (B := B_X0_init) (K := fun pc ls st g => none) rfl (fun _ => rfl) (by decide) (rcV_ok rfl) ?_ (co_X0_init N q) lb_X0_init 3000 0 S_X0_init_0 _ _ h ls_X0_init_0 hf
  intro pc ls st g e
  cases e
def f_X0_clear (N : Nat) (a0 : Nat) (h : mH) : Option (mH) :=
  (pV h 0 a0 0 (.int (jI 0))).bind fun h1 =>
  (pV h1 0 a0 1 (.int (jI 0))).bind fun h2 =>
  (pV h2 0 a0 2 (.int (jI 0))).bind fun h3 =>
  (pV h3 0 a0 3 (.int (jI 0))).bind fun h4 =>
  (pV h4 0 a0 4 (.int (jI 2))).bind fun h5 =>
  (pV h5 0 a0 5 (.int (jI 100))).bind fun h6 =>
  (pV h6 0 a0 6 (.int (jI 0))).bind fun h7 =>
  some h7
def y_X0_clear : mM := (yX0_clear, cX0_clear, 1, none)
def B_X0_clear : List (Nat × List mI) := []
def S_X0_clear_0 : List mI := [(.aload_n 0, 1, [0], []), (.iconst 0, 1, [], [0]), (.putfield 28, 3, [0, 0, 0, 0], []), (.aload_n 0, 1, [0], []), (.iconst 0, 1, [], [0]), (.putfield 31, 3, [0, 1, 0, 4], []), (.aload_n 0, 1, [0], []), (.iconst 0, 1, [], [0]), (.putfield 34, 3, [0, 2, 0, 7], []), (.aload_n 0, 1, [0], []), (.iconst 0, 1, [], [0]), (.putfield 37, 3, [0, 3, 0, 11], []), (.aload_n 0, 1, [0], []), (.iconst 2, 1, [], [2]), (.putfield 21, 3, [0, 4, 0, 14], []), (.aload_n 0, 1, [0], []), (.bipush 100, 2, [], [100]), (.putfield 25, 3, [0, 5, 0, 17], []), (.aload_n 0, 1, [0], []), (.iconst 0, 1, [], [0]), (.putfield 40, 3, [0, 6, 0, 21], []), (.return_, 1, [], [])]
theorem lb_X0_clear : B_X0_clear.all (fun b => lst y_X0_clear.2.1 0 y_X0_clear.2.2.1 false b.1 b.2) = true := by decide +kernel
theorem ls_X0_clear_0 : lst y_X0_clear.2.1 0 y_X0_clear.2.2.1 false 0 S_X0_clear_0 = true := by decide +kernel
def C_X0_clear (N : Nat) : Nat → List Value → mH → (Option Value → mH → Option (mH)) → Option (mH) := fun j as g k => none
theorem co_X0_clear (N : Nat) (q : mH) : clOK 4 q (C_X0_clear N) := by
  intro j as g k e
  cases e
set_option maxRecDepth 100000 in
theorem m_X0_clear (N : Nat) {a0 : Nat} {h : mH} {q : mH} (hf : f_X0_clear N a0 h = some q) : MM y_X0_clear 4 [.ref a0] h none q := by
  refine MM.of (mFx (j := 1) rfl).2.2.2.1 (Nat.le_of_ble_eq_true rfl) (fun X => ?_)
  refine ev_ok (o := 0) (ini := false) (Cl := C_X0_clear N) (Rc := RcV) (B := B_X0_clear) (K := fun pc ls st g => none) rfl (fun e => by cases e) (by decide) (rcV_ok rfl) ?_ (co_X0_clear N q) lb_X0_clear 3000 0 S_X0_clear_0 _ _ h ls_X0_clear_0 hf
  intro pc ls st g e
  cases e
def f_X0_become (N : Nat) (a0 : Nat) (a1 : Nat) (h : mH) : Option (mH) :=
  (gI h 0 a1 0).bind fun v1 =>
  (pV h 0 a0 0 (.int v1)).bind fun h2 =>
  (gI h2 0 a1 1).bind fun v3 =>
  (pV h2 0 a0 1 (.int v3)).bind fun h4 =>
  (gI h4 0 a1 2).bind fun v5 =>
  (pV h4 0 a0 2 (.int v5)).bind fun h6 =>
  (gI h6 0 a1 3).bind fun v7 =>
  (pV h6 0 a0 3 (.int v7)).bind fun h8 =>
  (gI h8 0 a1 4).bind fun v9 =>
  (pV h8 0 a0 4 (.int v9)).bind fun h10 =>
  (gI h10 0 a1 5).bind fun v11 =>
  (pV h10 0 a0 5 (.int v11)).bind fun h12 =>
  (gI h12 0 a1 6).bind fun v13 =>
  (pV h12 0 a0 6 (.int v13)).bind fun h14 =>
  (gR h14 0 a1 7).bind fun v15 =>
  (gR h14 0 a0 7).bind fun v16 =>
  (gR h14 0 a0 7).bind fun v17 =>
  (lnA h14 v17).bind fun v18 =>
  (cpI h14 v15 (jI 0) v16 (jI 0) v18).bind fun h19 =>
  (gR h19 0 a1 8).bind fun v20 =>
  (gR h19 0 a0 8).bind fun v21 =>
  (gR h19 0 a0 8).bind fun v22 =>
  (lnA h19 v22).bind fun v23 =>
  (cpI h19 v20 (jI 0) v21 (jI 0) v23).bind fun h24 =>
  (gR h24 0 a1 9).bind fun v25 =>
  (gR h24 0 a0 9).bind fun v26 =>
  (gR h24 0 a0 9).bind fun v27 =>
  (lnA h24 v27).bind fun v28 =>
  (cpI h24 v25 (jI 0) v26 (jI 0) v28).bind fun h29 =>
  some h29
def y_X0_become : mM := (yX0_become, cX0_become, 2, none)
def B_X0_become : List (Nat × List mI) := []
def S_X0_become_0 : List mI := [(.aload_n 0, 1, [0], []), (.aload_n 1, 1, [1], []), (.getfield 28, 3, [0, 0, 0, 0], []), (.putfield 28, 3, [0, 0, 0, 0], []), (.aload_n 0, 1, [0], []), (.aload_n 1, 1, [1], []), (.getfield 31, 3, [0, 1, 0, 4], []), (.putfield 31, 3, [0, 1, 0, 4], []), (.aload_n 0, 1, [0], []), (.aload_n 1, 1, [1], []), (.getfield 34, 3, [0, 2, 0, 7], []), (.putfield 34, 3, [0, 2, 0, 7], []), (.aload_n 0, 1, [0], []), (.aload_n 1, 1, [1], []), (.getfield 37, 3, [0, 3, 0, 11], []), (.putfield 37, 3, [0, 3, 0, 11], []), (.aload_n 0, 1, [0], []), (.aload_n 1, 1, [1], []), (.getfield 21, 3, [0, 4, 0, 14], []), (.putfield 21, 3, [0, 4, 0, 14], []), (.aload_n 0, 1, [0], []), (.aload_n 1, 1, [1], []), (.getfield 25, 3, [0, 5, 0, 17], []), (.putfield 25, 3, [0, 5, 0, 17], []), (.aload_n 0, 1, [0], []), (.aload_n 1, 1, [1], []), (.getfield 40, 3, [0, 6, 0, 21], []), (.putfield 40, 3, [0, 6, 0, 21], []), (.aload_n 1, 1, [1], []), (.getfield 11, 3, [0, 7, 2, 24], []), (.iconst 0, 1, [], [0]), (.aload_n 0, 1, [0], []), (.getfield 11, 3, [0, 7, 2, 24], []), (.iconst 0, 1, [], [0]), (.aload_n 0, 1, [0], []), (.getfield 11, 3, [0, 7, 2, 24], []), (.arraylength, 1, [0], []), (.invokestatic 43, 3, [10, 0, 0, 0, 15], []), (.aload_n 1, 1, [1], []), (.getfield 15, 3, [0, 8, 2, 26], []), (.iconst 0, 1, [], [0]), (.aload_n 0, 1, [0], []), (.getfield 15, 3, [0, 8, 2, 26], []), (.iconst 0, 1, [], [0]), (.aload_n 0, 1, [0], []), (.getfield 15, 3, [0, 8, 2, 26], []), (.arraylength, 1, [0], []), (.invokestatic 43, 3, [10, 0, 0, 0, 15], []), (.aload_n 1, 1, [1], []), (.getfield 18, 3, [0, 9, 2, 28], []), (.iconst 0, 1, [], [0]), (.aload_n 0, 1, [0], []), (.getfield 18, 3, [0, 9, 2, 28], []), (.iconst 0, 1, [], [0]), (.aload_n 0, 1, [0], []), (.getfield 18, 3, [0, 9, 2, 28], []), (.arraylength, 1, [0], []), (.invokestatic 43, 3, [10, 0, 0, 0, 15], []), (.return_, 1, [], [])]
theorem lb_X0_become : B_X0_become.all (fun b => lst y_X0_become.2.1 0 y_X0_become.2.2.1 false b.1 b.2) = true := by decide +kernel
theorem ls_X0_become_0 : lst y_X0_become.2.1 0 y_X0_become.2.2.1 false 0 S_X0_become_0 = true := by decide +kernel
def C_X0_become (N : Nat) : Nat → List Value → mH → (Option Value → mH → Option (mH)) → Option (mH) := fun j as g k => none
theorem co_X0_become (N : Nat) (q : mH) : clOK 4 q (C_X0_become N) := by
  intro j as g k e
  cases e
set_option maxRecDepth 100000 in
theorem m_X0_become (N : Nat) {a0 : Nat} {a1 : Nat} {h : mH} {q : mH} (hf : f_X0_become N a0 a1 h = some q) : MM y_X0_become 4 [.ref a0, .ref a1] h none q := by
  refine MM.of (mFx (j := 2) rfl).2.2.2.1 (Nat.le_of_ble_eq_true rfl) (fun X => ?_)
  refine ev_ok (o := 0) (ini := false) (Cl := C_X0_become N) (Rc := RcV) (B := B_X0_become) (K := fun pc ls st g => none) rfl (fun e => by cases e) (by decide) (rcV_ok rfl) ?_ (co_X0_become N q) lb_X0_become 3000 0 S_X0_become_0 _ _ h ls_X0_become_0 hf
  intro pc ls st g e
  cases e
def f_X0_hasKind (N : Nat) (a0 : Nat) (x1 : Int32) (h : mH) : Option (Int32 × mH) :=
  if x1 < 0 then
    some (jI 0, h)
  else
    (gI h 0 a0 1).bind fun v1 =>
    if x1 < v1 then
      some (jI 1, h)
    else
      some (jI 0, h)
def y_X0_hasKind : mM := (yX0_hasKind, cX0_hasKind, 2, (some .boolean))
def B_X0_hasKind : List (Nat × List mI) := [(16, [(.iconst 0, 1, [], [0])]), (17, [(.ireturn, 1, [], [])])]
def S_X0_hasKind_0 : List mI := [(.iload_n 1, 1, [1], []), (.ifCond .lt 15, 3, [16], []), (.iload_n 1, 1, [1], []), (.aload_n 0, 1, [0], []), (.getfield 31, 3, [0, 1, 0, 4], []), (.if_icmp .ge 7, 3, [16], []), (.iconst 1, 1, [], [1]), (.goto 4, 3, [17], [])]
theorem lb_X0_hasKind : B_X0_hasKind.all (fun b => lst y_X0_hasKind.2.1 0 y_X0_hasKind.2.2.1 false b.1 b.2) = true := by decide +kernel
theorem ls_X0_hasKind_0 : lst y_X0_hasKind.2.1 0 y_X0_hasKind.2.2.1 false 0 S_X0_hasKind_0 = true := by decide +kernel
def C_X0_hasKind (N : Nat) : Nat → List Value → mH → (Option Value → mH → Option (Int32 × mH)) → Option (Int32 × mH) := fun j as g k => none
theorem co_X0_hasKind (N : Nat) (q : Int32 × mH) : clOK 4 q (C_X0_hasKind N) := by
  intro j as g k e
  cases e
set_option maxRecDepth 100000 in
theorem m_X0_hasKind (N : Nat) {a0 : Nat} {x1 : Int32} {h : mH} {q : Int32 × mH} (hf : f_X0_hasKind N a0 x1 h = some q) : MM y_X0_hasKind 4 [.ref a0, .int x1] h (some (.int q.1)) q.2 := by
  refine MM.of (mFx (j := 3) rfl).2.2.2.1 (Nat.le_of_ble_eq_true rfl) (fun X => ?_)
  refine ev_ok (o := 0) (ini := false) (Cl := C_X0_hasKind N) (Rc := RcZ) (B := B_X0_hasKind) (K := fun pc ls st g => none) rfl (fun e => by cases e) (by decide) (rcZ_ok rfl) ?_ (co_X0_hasKind N q) lb_X0_hasKind 3000 0 S_X0_hasKind_0 _ _ h ls_X0_hasKind_0 hf
  intro pc ls st g e
  cases e
def f_X0_hasBand (N : Nat) (a0 : Nat) (x1 : Int32) (h : mH) : Option (Int32 × mH) :=
  if x1 < 0 then
    some (jI 0, h)
  else
    (gI h 0 a0 2).bind fun v1 =>
    if x1 < v1 then
      some (jI 1, h)
    else
      some (jI 0, h)
def y_X0_hasBand : mM := (yX0_hasBand, cX0_hasBand, 2, (some .boolean))
def B_X0_hasBand : List (Nat × List mI) := [(16, [(.iconst 0, 1, [], [0])]), (17, [(.ireturn, 1, [], [])])]
def S_X0_hasBand_0 : List mI := [(.iload_n 1, 1, [1], []), (.ifCond .lt 15, 3, [16], []), (.iload_n 1, 1, [1], []), (.aload_n 0, 1, [0], []), (.getfield 34, 3, [0, 2, 0, 7], []), (.if_icmp .ge 7, 3, [16], []), (.iconst 1, 1, [], [1]), (.goto 4, 3, [17], [])]
theorem lb_X0_hasBand : B_X0_hasBand.all (fun b => lst y_X0_hasBand.2.1 0 y_X0_hasBand.2.2.1 false b.1 b.2) = true := by decide +kernel
theorem ls_X0_hasBand_0 : lst y_X0_hasBand.2.1 0 y_X0_hasBand.2.2.1 false 0 S_X0_hasBand_0 = true := by decide +kernel
def C_X0_hasBand (N : Nat) : Nat → List Value → mH → (Option Value → mH → Option (Int32 × mH)) → Option (Int32 × mH) := fun j as g k => none
theorem co_X0_hasBand (N : Nat) (q : Int32 × mH) : clOK 4 q (C_X0_hasBand N) := by
  intro j as g k e
  cases e
set_option maxRecDepth 100000 in
theorem m_X0_hasBand (N : Nat) {a0 : Nat} {x1 : Int32} {h : mH} {q : Int32 × mH} (hf : f_X0_hasBand N a0 x1 h = some q) : MM y_X0_hasBand 4 [.ref a0, .int x1] h (some (.int q.1)) q.2 := by
  refine MM.of (mFx (j := 4) rfl).2.2.2.1 (Nat.le_of_ble_eq_true rfl) (fun X => ?_)
  refine ev_ok (o := 0) (ini := false) (Cl := C_X0_hasBand N) (Rc := RcZ) (B := B_X0_hasBand) (K := fun pc ls st g => none) rfl (fun e => by cases e) (by decide) (rcZ_ok rfl) ?_ (co_X0_hasBand N q) lb_X0_hasBand 3000 0 S_X0_hasBand_0 _ _ h ls_X0_hasBand_0 hf
  intro pc ls st g e
  cases e
def f_X0_hasStake (N : Nat) (a0 : Nat) (x1 : Int32) (h : mH) : Option (Int32 × mH) :=
  if x1 < 0 then
    some (jI 0, h)
  else
    (gI h 0 a0 0).bind fun v1 =>
    if x1 < v1 then
      some (jI 1, h)
    else
      some (jI 0, h)
def y_X0_hasStake : mM := (yX0_hasStake, cX0_hasStake, 2, (some .boolean))
def B_X0_hasStake : List (Nat × List mI) := [(16, [(.iconst 0, 1, [], [0])]), (17, [(.ireturn, 1, [], [])])]
def S_X0_hasStake_0 : List mI := [(.iload_n 1, 1, [1], []), (.ifCond .lt 15, 3, [16], []), (.iload_n 1, 1, [1], []), (.aload_n 0, 1, [0], []), (.getfield 28, 3, [0, 0, 0, 0], []), (.if_icmp .ge 7, 3, [16], []), (.iconst 1, 1, [], [1]), (.goto 4, 3, [17], [])]
theorem lb_X0_hasStake : B_X0_hasStake.all (fun b => lst y_X0_hasStake.2.1 0 y_X0_hasStake.2.2.1 false b.1 b.2) = true := by decide +kernel
theorem ls_X0_hasStake_0 : lst y_X0_hasStake.2.1 0 y_X0_hasStake.2.2.1 false 0 S_X0_hasStake_0 = true := by decide +kernel
def C_X0_hasStake (N : Nat) : Nat → List Value → mH → (Option Value → mH → Option (Int32 × mH)) → Option (Int32 × mH) := fun j as g k => none
theorem co_X0_hasStake (N : Nat) (q : Int32 × mH) : clOK 4 q (C_X0_hasStake N) := by
  intro j as g k e
  cases e
set_option maxRecDepth 100000 in
theorem m_X0_hasStake (N : Nat) {a0 : Nat} {x1 : Int32} {h : mH} {q : Int32 × mH} (hf : f_X0_hasStake N a0 x1 h = some q) : MM y_X0_hasStake 4 [.ref a0, .int x1] h (some (.int q.1)) q.2 := by
  refine MM.of (mFx (j := 5) rfl).2.2.2.1 (Nat.le_of_ble_eq_true rfl) (fun X => ?_)
  refine ev_ok (o := 0) (ini := false) (Cl := C_X0_hasStake N) (Rc := RcZ) (B := B_X0_hasStake) (K := fun pc ls st g => none) rfl (fun e => by cases e) (by decide) (rcZ_ok rfl) ?_ (co_X0_hasStake N q) lb_X0_hasStake 3000 0 S_X0_hasStake_0 _ _ h ls_X0_hasStake_0 hf
  intro pc ls st g e
  cases e
def f_X0_ofBand (N : Nat) (a0 : Nat) (x1 : Int32) (x2 : Int32) (h : mH) : Option (Int32 × mH) :=
  let w1 := iAdd (iMul x1 (jI 11)) x2
  if w1 < 0 then
    some (jI 0, h)
  else
    (gR h 0 a0 8).bind fun v2 =>
    (lnA h v2).bind fun v3 =>
    if w1 < v3 then
      (gR h 0 a0 8).bind fun v4 =>
      (ldI 0 h v4 w1).bind fun v5 =>
      some (v5, h)
    else
      some (jI 0, h)
def y_X0_ofBand : mM := (yX0_ofBand, cX0_ofBand, 4, (some .int))
def B_X0_ofBand : List (Nat × List mI) := [(29, [(.iconst 0, 1, [], [0])]), (30, [(.ireturn, 1, [], [])])]
def S_X0_ofBand_0 : List mI := [(.iload_n 1, 1, [1], []), (.bipush 11, 2, [], [11]), (.imul, 1, [], []), (.iload_n 2, 1, [2], []), (.iadd, 1, [], []), (.istore_n 3, 1, [3], []), (.iload_n 3, 1, [3], []), (.ifCond .lt 21, 3, [29], []), (.iload_n 3, 1, [3], []), (.aload_n 0, 1, [0], []), (.getfield 15, 3, [0, 8, 2, 26], []), (.arraylength, 1, [0], []), (.if_icmp .ge 12, 3, [29], []), (.aload_n 0, 1, [0], []), (.getfield 15, 3, [0, 8, 2, 26], []), (.iload_n 3, 1, [3], []), (.iaload, 1, [0], []), (.goto 4, 3, [30], [])]
theorem lb_X0_ofBand : B_X0_ofBand.all (fun b => lst y_X0_ofBand.2.1 0 y_X0_ofBand.2.2.1 false b.1 b.2) = true := by decide +kernel
theorem ls_X0_ofBand_0 : lst y_X0_ofBand.2.1 0 y_X0_ofBand.2.2.1 false 0 S_X0_ofBand_0 = true := by decide +kernel
def C_X0_ofBand (N : Nat) : Nat → List Value → mH → (Option Value → mH → Option (Int32 × mH)) → Option (Int32 × mH) := fun j as g k => none
theorem co_X0_ofBand (N : Nat) (q : Int32 × mH) : clOK 4 q (C_X0_ofBand N) := by
  intro j as g k e
  cases e
set_option maxRecDepth 100000 in
theorem m_X0_ofBand (N : Nat) {a0 : Nat} {x1 : Int32} {x2 : Int32} {h : mH} {q : Int32 × mH} (hf : f_X0_ofBand N a0 x1 x2 h = some q) : MM y_X0_ofBand 4 [.ref a0, .int x1, .int x2] h (some (.int q.1)) q.2 := by
  refine MM.of (mFx (j := 9) rfl).2.2.2.1 (Nat.le_of_ble_eq_true rfl) (fun X => ?_)
  refine ev_ok (o := 0) (ini := false) (Cl := C_X0_ofBand N) (Rc := RcI) (B := B_X0_ofBand) (K := fun pc ls st g => none) rfl (fun e => by cases e) (by decide) (rcI_ok rfl) ?_ (co_X0_ofBand N q) lb_X0_ofBand 3000 0 S_X0_ofBand_0 _ _ h ls_X0_ofBand_0 hf
  intro pc ls st g e
  cases e
def f_X0_hasWeaver (N : Nat) (a0 : Nat) (x1 : Int32) (x2 : Int32) (h : mH) : Option (Int32 × mH) :=
  (rcv h 0 a0).bind fun _ =>
  (f_X0_hasBand N a0 x1 h).bind fun p1 =>
  if p1.1 = 0 then
    some (jI 0, p1.2)
  else
    if x2 < 0 then
      some (jI 0, p1.2)
    else
      (rcv p1.2 0 a0).bind fun _ =>
      (f_X0_ofBand N a0 x1 (jI 0) p1.2).bind fun p2 =>
      if x2 < p2.1 then
        some (jI 1, p2.2)
      else
        some (jI 0, p2.2)
def y_X0_hasWeaver : mM := (yX0_hasWeaver, cX0_hasWeaver, 3, (some .boolean))
def B_X0_hasWeaver : List (Nat × List mI) := [(26, [(.iconst 0, 1, [], [0])]), (27, [(.ireturn, 1, [], [])])]
def S_X0_hasWeaver_0 : List mI := [(.aload_n 0, 1, [0], []), (.iload_n 1, 1, [1], []), (.invokevirtual 49, 3, [0, 4, 1, 0, 50], []), (.ifCond .eq 21, 3, [26], []), (.iload_n 2, 1, [2], []), (.ifCond .lt 17, 3, [26], []), (.iload_n 2, 1, [2], []), (.aload_n 0, 1, [0], []), (.iload_n 1, 1, [1], []), (.iconst 0, 1, [], [0]), (.invokevirtual 53, 3, [0, 9, 2, 0, 33], []), (.if_icmp .ge 7, 3, [26], []), (.iconst 1, 1, [], [1]), (.goto 4, 3, [27], [])]
theorem lb_X0_hasWeaver : B_X0_hasWeaver.all (fun b => lst y_X0_hasWeaver.2.1 0 y_X0_hasWeaver.2.2.1 false b.1 b.2) = true := by decide +kernel
theorem ls_X0_hasWeaver_0 : lst y_X0_hasWeaver.2.1 0 y_X0_hasWeaver.2.2.1 false 0 S_X0_hasWeaver_0 = true := by decide +kernel
def C_X0_hasWeaver (N : Nat) : Nat → List Value → mH → (Option Value → mH → Option (Int32 × mH)) → Option (Int32 × mH) := fun j as g k => kb j 4 (pr1 as fun b0 as => pp1 as fun b1 as => pe as ((f_X0_hasBand N b0 b1 g).bind fun p => k (some (.int p.1)) p.2)) (kb j 9 (pr1 as fun b0 as => pp1 as fun b1 as => pp1 as fun b2 as => pe as ((f_X0_ofBand N b0 b1 b2 g).bind fun p => k (some (.int p.1)) p.2)) (none))
theorem co_X0_hasWeaver (N : Nat) (q : Int32 × mH) : clOK 5 q (C_X0_hasWeaver N) := by
  intro j as g k e
  rcases kb_s e with ⟨rfl, e⟩ | e
  · obtain ⟨b0, r0, q0, f0⟩ := pr1_s e
    obtain ⟨b1, r1, q1, f1⟩ := pp1_s f0
    obtain ⟨qe, fe⟩ := pe_s f1
    obtain ⟨p, e1, e2⟩ := bnd_s fe
    subst qe
    subst q1
    subst q0
    exact ⟨_, _, _, _, 4, rfl, (by decide), m_X0_hasBand N e1, e2⟩
  rcases kb_s e with ⟨rfl, e⟩ | e
  · obtain ⟨b0, r0, q0, f0⟩ := pr1_s e
    obtain ⟨b1, r1, q1, f1⟩ := pp1_s f0
    obtain ⟨b2, r2, q2, f2⟩ := pp1_s f1
    obtain ⟨qe, fe⟩ := pe_s f2
    obtain ⟨p, e1, e2⟩ := bnd_s fe
    subst qe
    subst q2
    subst q1
    subst q0
    exact ⟨_, _, _, _, 4, rfl, (by decide), m_X0_ofBand N e1, e2⟩
  cases e
set_option maxRecDepth 100000 in
theorem m_X0_hasWeaver (N : Nat) {a0 : Nat} {x1 : Int32} {x2 : Int32} {h : mH} {q : Int32 × mH} (hf : f_X0_hasWeaver N a0 x1 x2 h = some q) : MM y_X0_hasWeaver 5 [.ref a0, .int x1, .int x2] h (some (.int q.1)) q.2 := by
  refine MM.of (mFx (j := 6) rfl).2.2.2.1 (Nat.le_of_ble_eq_true rfl) (fun X => ?_)
  refine ev_ok (o := 0) (ini := false) (Cl := C_X0_hasWeaver N) (Rc := RcZ) (B := B_X0_hasWeaver) (K := fun pc ls st g => none) rfl (fun e => by cases e) (by decide) (rcZ_ok rfl) ?_ (co_X0_hasWeaver N q) lb_X0_hasWeaver 3000 0 S_X0_hasWeaver_0 _ _ h ls_X0_hasWeaver_0 hf
  intro pc ls st g e
  cases e
def f_X0_crossingsOf (N : Nat) (a0 : Nat) (x1 : Int32) (h : mH) : Option (Int32 × mH) :=
  (rcv h 0 a0).bind fun _ =>
  (f_X0_ofBand N a0 x1 (jI 3) h).bind fun p1 =>
  (gI p1.2 0 a0 0).bind fun v2 =>
  some (iMul p1.1 v2, p1.2)
def y_X0_crossingsOf : mM := (yX0_crossingsOf, cX0_crossingsOf, 2, (some .int))
def B_X0_crossingsOf : List (Nat × List mI) := []
def S_X0_crossingsOf_0 : List mI := [(.aload_n 0, 1, [0], []), (.iload_n 1, 1, [1], []), (.iconst 3, 1, [], [3]), (.invokevirtual 53, 3, [0, 9, 2, 0, 33], []), (.aload_n 0, 1, [0], []), (.getfield 28, 3, [0, 0, 0, 0], []), (.imul, 1, [], []), (.ireturn, 1, [], [])]
theorem lb_X0_crossingsOf : B_X0_crossingsOf.all (fun b => lst y_X0_crossingsOf.2.1 0 y_X0_crossingsOf.2.2.1 false b.1 b.2) = true := by decide +kernel
theorem ls_X0_crossingsOf_0 : lst y_X0_crossingsOf.2.1 0 y_X0_crossingsOf.2.2.1 false 0 S_X0_crossingsOf_0 = true := by decide +kernel
def C_X0_crossingsOf (N : Nat) : Nat → List Value → mH → (Option Value → mH → Option (Int32 × mH)) → Option (Int32 × mH) := fun j as g k => kb j 9 (pr1 as fun b0 as => pp1 as fun b1 as => pp1 as fun b2 as => pe as ((f_X0_ofBand N b0 b1 b2 g).bind fun p => k (some (.int p.1)) p.2)) (none)
theorem co_X0_crossingsOf (N : Nat) (q : Int32 × mH) : clOK 5 q (C_X0_crossingsOf N) := by
  intro j as g k e
  rcases kb_s e with ⟨rfl, e⟩ | e
  · obtain ⟨b0, r0, q0, f0⟩ := pr1_s e
    obtain ⟨b1, r1, q1, f1⟩ := pp1_s f0
    obtain ⟨b2, r2, q2, f2⟩ := pp1_s f1
    obtain ⟨qe, fe⟩ := pe_s f2
    obtain ⟨p, e1, e2⟩ := bnd_s fe
    subst qe
    subst q2
    subst q1
    subst q0
    exact ⟨_, _, _, _, 4, rfl, (by decide), m_X0_ofBand N e1, e2⟩
  cases e
set_option maxRecDepth 100000 in
theorem m_X0_crossingsOf (N : Nat) {a0 : Nat} {x1 : Int32} {h : mH} {q : Int32 × mH} (hf : f_X0_crossingsOf N a0 x1 h = some q) : MM y_X0_crossingsOf 5 [.ref a0, .int x1] h (some (.int q.1)) q.2 := by
  refine MM.of (mFx (j := 14) rfl).2.2.2.1 (Nat.le_of_ble_eq_true rfl) (fun X => ?_)
  refine ev_ok (o := 0) (ini := false) (Cl := C_X0_crossingsOf N) (Rc := RcI) (B := B_X0_crossingsOf) (K := fun pc ls st g => none) rfl (fun e => by cases e) (by decide) (rcI_ok rfl) ?_ (co_X0_crossingsOf N q) lb_X0_crossingsOf 3000 0 S_X0_crossingsOf_0 _ _ h ls_X0_crossingsOf_0 hf
  intro pc ls st g e
  cases e
def f_X0_hasCrossing (N : Nat) (a0 : Nat) (x1 : Int32) (x2 : Int32) (x3 : Int32) (h : mH) : Option (Int32 × mH) :=
  (rcv h 0 a0).bind fun _ =>
  (f_X0_hasWeaver N a0 x1 x2 h).bind fun p1 =>
  if p1.1 = 0 then
    some (jI 0, p1.2)
  else
    if x3 < 0 then
      some (jI 0, p1.2)
    else
      (rcv p1.2 0 a0).bind fun _ =>
      (f_X0_crossingsOf N a0 x1 p1.2).bind fun p2 =>
      if x3 < p2.1 then
        some (jI 1, p2.2)
      else
        some (jI 0, p2.2)
def y_X0_hasCrossing : mM := (yX0_hasCrossing, cX0_hasCrossing, 4, (some .boolean))
def B_X0_hasCrossing : List (Nat × List mI) := [(26, [(.iconst 0, 1, [], [0])]), (27, [(.ireturn, 1, [], [])])]
def S_X0_hasCrossing_0 : List mI := [(.aload_n 0, 1, [0], []), (.iload_n 1, 1, [1], []), (.iload_n 2, 1, [2], []), (.invokevirtual 57, 3, [0, 6, 2, 0, 55], []), (.ifCond .eq 20, 3, [26], []), (.iload_n 3, 1, [3], []), (.ifCond .lt 16, 3, [26], []), (.iload_n 3, 1, [3], []), (.aload_n 0, 1, [0], []), (.iload_n 1, 1, [1], []), (.invokevirtual 61, 3, [0, 14, 1, 0, 56], []), (.if_icmp .ge 7, 3, [26], []), (.iconst 1, 1, [], [1]), (.goto 4, 3, [27], [])]
theorem lb_X0_hasCrossing : B_X0_hasCrossing.all (fun b => lst y_X0_hasCrossing.2.1 0 y_X0_hasCrossing.2.2.1 false b.1 b.2) = true := by decide +kernel
theorem ls_X0_hasCrossing_0 : lst y_X0_hasCrossing.2.1 0 y_X0_hasCrossing.2.2.1 false 0 S_X0_hasCrossing_0 = true := by decide +kernel
def C_X0_hasCrossing (N : Nat) : Nat → List Value → mH → (Option Value → mH → Option (Int32 × mH)) → Option (Int32 × mH) := fun j as g k => kb j 6 (pr1 as fun b0 as => pp1 as fun b1 as => pp1 as fun b2 as => pe as ((f_X0_hasWeaver N b0 b1 b2 g).bind fun p => k (some (.int p.1)) p.2)) (kb j 14 (pr1 as fun b0 as => pp1 as fun b1 as => pe as ((f_X0_crossingsOf N b0 b1 g).bind fun p => k (some (.int p.1)) p.2)) (none))
theorem co_X0_hasCrossing (N : Nat) (q : Int32 × mH) : clOK 6 q (C_X0_hasCrossing N) := by
  intro j as g k e
  rcases kb_s e with ⟨rfl, e⟩ | e
  · obtain ⟨b0, r0, q0, f0⟩ := pr1_s e
    obtain ⟨b1, r1, q1, f1⟩ := pp1_s f0
    obtain ⟨b2, r2, q2, f2⟩ := pp1_s f1
    obtain ⟨qe, fe⟩ := pe_s f2
    obtain ⟨p, e1, e2⟩ := bnd_s fe
    subst qe
    subst q2
    subst q1
    subst q0
    exact ⟨_, _, _, _, 5, rfl, (by decide), m_X0_hasWeaver N e1, e2⟩
  rcases kb_s e with ⟨rfl, e⟩ | e
  · obtain ⟨b0, r0, q0, f0⟩ := pr1_s e
    obtain ⟨b1, r1, q1, f1⟩ := pp1_s f0
    obtain ⟨qe, fe⟩ := pe_s f1
    obtain ⟨p, e1, e2⟩ := bnd_s fe
    subst qe
    subst q1
    subst q0
    exact ⟨_, _, _, _, 5, rfl, (by decide), m_X0_crossingsOf N e1, e2⟩
  cases e
set_option maxRecDepth 100000 in
theorem m_X0_hasCrossing (N : Nat) {a0 : Nat} {x1 : Int32} {x2 : Int32} {x3 : Int32} {h : mH} {q : Int32 × mH} (hf : f_X0_hasCrossing N a0 x1 x2 x3 h = some q) : MM y_X0_hasCrossing 6 [.ref a0, .int x1, .int x2, .int x3] h (some (.int q.1)) q.2 := by
  refine MM.of (mFx (j := 7) rfl).2.2.2.1 (Nat.le_of_ble_eq_true rfl) (fun X => ?_)
  refine ev_ok (o := 0) (ini := false) (Cl := C_X0_hasCrossing N) (Rc := RcZ) (B := B_X0_hasCrossing) (K := fun pc ls st g => none) rfl (fun e => by cases e) (by decide) (rcZ_ok rfl) ?_ (co_X0_hasCrossing N q) lb_X0_hasCrossing 3000 0 S_X0_hasCrossing_0 _ _ h ls_X0_hasCrossing_0 hf
  intro pc ls st g e
  cases e
def f_X0_ofKind (N : Nat) (a0 : Nat) (x1 : Int32) (x2 : Int32) (h : mH) : Option (Int32 × mH) :=
  let w1 := iAdd (iMul x1 (jI 4)) x2
  if w1 < 0 then
    some (jI 0, h)
  else
    (gR h 0 a0 7).bind fun v2 =>
    (lnA h v2).bind fun v3 =>
    if w1 < v3 then
      (gR h 0 a0 7).bind fun v4 =>
      (ldI 0 h v4 w1).bind fun v5 =>
      some (v5, h)
    else
      some (jI 0, h)
def y_X0_ofKind : mM := (yX0_ofKind, cX0_ofKind, 4, (some .int))
def B_X0_ofKind : List (Nat × List mI) := [(28, [(.iconst 0, 1, [], [0])]), (29, [(.ireturn, 1, [], [])])]
def S_X0_ofKind_0 : List mI := [(.iload_n 1, 1, [1], []), (.iconst 4, 1, [], [4]), (.imul, 1, [], []), (.iload_n 2, 1, [2], []), (.iadd, 1, [], []), (.istore_n 3, 1, [3], []), (.iload_n 3, 1, [3], []), (.ifCond .lt 21, 3, [28], []), (.iload_n 3, 1, [3], []), (.aload_n 0, 1, [0], []), (.getfield 11, 3, [0, 7, 2, 24], []), (.arraylength, 1, [0], []), (.if_icmp .ge 12, 3, [28], []), (.aload_n 0, 1, [0], []), (.getfield 11, 3, [0, 7, 2, 24], []), (.iload_n 3, 1, [3], []), (.iaload, 1, [0], []), (.goto 4, 3, [29], [])]
theorem lb_X0_ofKind : B_X0_ofKind.all (fun b => lst y_X0_ofKind.2.1 0 y_X0_ofKind.2.2.1 false b.1 b.2) = true := by decide +kernel
theorem ls_X0_ofKind_0 : lst y_X0_ofKind.2.1 0 y_X0_ofKind.2.2.1 false 0 S_X0_ofKind_0 = true := by decide +kernel
def C_X0_ofKind (N : Nat) : Nat → List Value → mH → (Option Value → mH → Option (Int32 × mH)) → Option (Int32 × mH) := fun j as g k => none
theorem co_X0_ofKind (N : Nat) (q : Int32 × mH) : clOK 4 q (C_X0_ofKind N) := by
  intro j as g k e
  cases e
set_option maxRecDepth 100000 in
theorem m_X0_ofKind (N : Nat) {a0 : Nat} {x1 : Int32} {x2 : Int32} {h : mH} {q : Int32 × mH} (hf : f_X0_ofKind N a0 x1 x2 h = some q) : MM y_X0_ofKind 4 [.ref a0, .int x1, .int x2] h (some (.int q.1)) q.2 := by
  refine MM.of (mFx (j := 8) rfl).2.2.2.1 (Nat.le_of_ble_eq_true rfl) (fun X => ?_)
  refine ev_ok (o := 0) (ini := false) (Cl := C_X0_ofKind N) (Rc := RcI) (B := B_X0_ofKind) (K := fun pc ls st g => none) rfl (fun e => by cases e) (by decide) (rcI_ok rfl) ?_ (co_X0_ofKind N q) lb_X0_ofKind 3000 0 S_X0_ofKind_0 _ _ h ls_X0_ofKind_0 hf
  intro pc ls st g e
  cases e
def f_X0_kindOf (N : Nat) (a0 : Nat) (x1 : Int32) (x2 : Int32) (h : mH) : Option (Int32 × mH) :=
  (rcv h 0 a0).bind fun _ =>
  (f_X0_ofBand N a0 x1 (iAdd (jI 7) x2) h).bind fun p1 =>
  some (p1.1, p1.2)
def y_X0_kindOf : mM := (yX0_kindOf, cX0_kindOf, 3, (some .int))
def B_X0_kindOf : List (Nat × List mI) := []
def S_X0_kindOf_0 : List mI := [(.aload_n 0, 1, [0], []), (.iload_n 1, 1, [1], []), (.bipush 7, 2, [], [7]), (.iload_n 2, 1, [2], []), (.iadd, 1, [], []), (.invokevirtual 53, 3, [0, 9, 2, 0, 33], []), (.ireturn, 1, [], [])]
theorem lb_X0_kindOf : B_X0_kindOf.all (fun b => lst y_X0_kindOf.2.1 0 y_X0_kindOf.2.2.1 false b.1 b.2) = true := by decide +kernel
theorem ls_X0_kindOf_0 : lst y_X0_kindOf.2.1 0 y_X0_kindOf.2.2.1 false 0 S_X0_kindOf_0 = true := by decide +kernel
def C_X0_kindOf (N : Nat) : Nat → List Value → mH → (Option Value → mH → Option (Int32 × mH)) → Option (Int32 × mH) := fun j as g k => kb j 9 (pr1 as fun b0 as => pp1 as fun b1 as => pp1 as fun b2 as => pe as ((f_X0_ofBand N b0 b1 b2 g).bind fun p => k (some (.int p.1)) p.2)) (none)
theorem co_X0_kindOf (N : Nat) (q : Int32 × mH) : clOK 5 q (C_X0_kindOf N) := by
  intro j as g k e
  rcases kb_s e with ⟨rfl, e⟩ | e
  · obtain ⟨b0, r0, q0, f0⟩ := pr1_s e
    obtain ⟨b1, r1, q1, f1⟩ := pp1_s f0
    obtain ⟨b2, r2, q2, f2⟩ := pp1_s f1
    obtain ⟨qe, fe⟩ := pe_s f2
    obtain ⟨p, e1, e2⟩ := bnd_s fe
    subst qe
    subst q2
    subst q1
    subst q0
    exact ⟨_, _, _, _, 4, rfl, (by decide), m_X0_ofBand N e1, e2⟩
  cases e
set_option maxRecDepth 100000 in
theorem m_X0_kindOf (N : Nat) {a0 : Nat} {x1 : Int32} {x2 : Int32} {h : mH} {q : Int32 × mH} (hf : f_X0_kindOf N a0 x1 x2 h = some q) : MM y_X0_kindOf 5 [.ref a0, .int x1, .int x2] h (some (.int q.1)) q.2 := by
  refine MM.of (mFx (j := 10) rfl).2.2.2.1 (Nat.le_of_ble_eq_true rfl) (fun X => ?_)
  refine ev_ok (o := 0) (ini := false) (Cl := C_X0_kindOf N) (Rc := RcI) (B := B_X0_kindOf) (K := fun pc ls st g => none) rfl (fun e => by cases e) (by decide) (rcI_ok rfl) ?_ (co_X0_kindOf N q) lb_X0_kindOf 3000 0 S_X0_kindOf_0 _ _ h ls_X0_kindOf_0 hf
  intro pc ls st g e
  cases e
def f_X0_ring (N : Nat) (a0 : Nat) (h : mH) : Option (Int32 × mH) :=
  (gI h 0 a0 0).bind fun v1 =>
  some (iMax (jI 1) v1, h)
def y_X0_ring : mM := (yX0_ring, cX0_ring, 1, (some .int))
def B_X0_ring : List (Nat × List mI) := []
def S_X0_ring_0 : List mI := [(.iconst 1, 1, [], [1]), (.aload_n 0, 1, [0], []), (.getfield 28, 3, [0, 0, 0, 0], []), (.invokestatic 65, 3, [6, 0, 0, 0, 16], []), (.ireturn, 1, [], [])]
theorem lb_X0_ring : B_X0_ring.all (fun b => lst y_X0_ring.2.1 0 y_X0_ring.2.2.1 false b.1 b.2) = true := by decide +kernel
theorem ls_X0_ring_0 : lst y_X0_ring.2.1 0 y_X0_ring.2.2.1 false 0 S_X0_ring_0 = true := by decide +kernel
def C_X0_ring (N : Nat) : Nat → List Value → mH → (Option Value → mH → Option (Int32 × mH)) → Option (Int32 × mH) := fun j as g k => none
theorem co_X0_ring (N : Nat) (q : Int32 × mH) : clOK 4 q (C_X0_ring N) := by
  intro j as g k e
  cases e
set_option maxRecDepth 100000 in
theorem m_X0_ring (N : Nat) {a0 : Nat} {h : mH} {q : Int32 × mH} (hf : f_X0_ring N a0 h = some q) : MM y_X0_ring 4 [.ref a0] h (some (.int q.1)) q.2 := by
  refine MM.of (mFx (j := 11) rfl).2.2.2.1 (Nat.le_of_ble_eq_true rfl) (fun X => ?_)
  refine ev_ok (o := 0) (ini := false) (Cl := C_X0_ring N) (Rc := RcI) (B := B_X0_ring) (K := fun pc ls st g => none) rfl (fun e => by cases e) (by decide) (rcI_ok rfl) ?_ (co_X0_ring N q) lb_X0_ring 3000 0 S_X0_ring_0 _ _ h ls_X0_ring_0 hf
  intro pc ls st g e
  cases e
def f_X0_weaversOf (N : Nat) (a0 : Nat) (x1 : Int32) (h : mH) : Option (Int32 × mH) :=
  (rcv h 0 a0).bind fun _ =>
  (f_X0_ofBand N a0 x1 (jI 0) h).bind fun p1 =>
  some (iMax (jI 1) p1.1, p1.2)
def y_X0_weaversOf : mM := (yX0_weaversOf, cX0_weaversOf, 2, (some .int))
def B_X0_weaversOf : List (Nat × List mI) := []
def S_X0_weaversOf_0 : List mI := [(.iconst 1, 1, [], [1]), (.aload_n 0, 1, [0], []), (.iload_n 1, 1, [1], []), (.iconst 0, 1, [], [0]), (.invokevirtual 53, 3, [0, 9, 2, 0, 33], []), (.invokestatic 65, 3, [6, 0, 0, 0, 16], []), (.ireturn, 1, [], [])]
theorem lb_X0_weaversOf : B_X0_weaversOf.all (fun b => lst y_X0_weaversOf.2.1 0 y_X0_weaversOf.2.2.1 false b.1 b.2) = true := by decide +kernel
theorem ls_X0_weaversOf_0 : lst y_X0_weaversOf.2.1 0 y_X0_weaversOf.2.2.1 false 0 S_X0_weaversOf_0 = true := by decide +kernel
def C_X0_weaversOf (N : Nat) : Nat → List Value → mH → (Option Value → mH → Option (Int32 × mH)) → Option (Int32 × mH) := fun j as g k => kb j 9 (pr1 as fun b0 as => pp1 as fun b1 as => pp1 as fun b2 as => pe as ((f_X0_ofBand N b0 b1 b2 g).bind fun p => k (some (.int p.1)) p.2)) (none)
theorem co_X0_weaversOf (N : Nat) (q : Int32 × mH) : clOK 5 q (C_X0_weaversOf N) := by
  intro j as g k e
  rcases kb_s e with ⟨rfl, e⟩ | e
  · obtain ⟨b0, r0, q0, f0⟩ := pr1_s e
    obtain ⟨b1, r1, q1, f1⟩ := pp1_s f0
    obtain ⟨b2, r2, q2, f2⟩ := pp1_s f1
    obtain ⟨qe, fe⟩ := pe_s f2
    obtain ⟨p, e1, e2⟩ := bnd_s fe
    subst qe
    subst q2
    subst q1
    subst q0
    exact ⟨_, _, _, _, 4, rfl, (by decide), m_X0_ofBand N e1, e2⟩
  cases e
set_option maxRecDepth 100000 in
theorem m_X0_weaversOf (N : Nat) {a0 : Nat} {x1 : Int32} {h : mH} {q : Int32 × mH} (hf : f_X0_weaversOf N a0 x1 h = some q) : MM y_X0_weaversOf 5 [.ref a0, .int x1] h (some (.int q.1)) q.2 := by
  refine MM.of (mFx (j := 12) rfl).2.2.2.1 (Nat.le_of_ble_eq_true rfl) (fun X => ?_)
  refine ev_ok (o := 0) (ini := false) (Cl := C_X0_weaversOf N) (Rc := RcI) (B := B_X0_weaversOf) (K := fun pc ls st g => none) rfl (fun e => by cases e) (by decide) (rcI_ok rfl) ?_ (co_X0_weaversOf N q) lb_X0_weaversOf 3000 0 S_X0_weaversOf_0 _ _ h ls_X0_weaversOf_0 hf
  intro pc ls st g e
  cases e
def f_X0_periodOf (N : Nat) (a0 : Nat) (x1 : Int32) (h : mH) : Option (Int32 × mH) :=
  (rcv h 0 a0).bind fun _ =>
  (f_X0_ofBand N a0 x1 (jI 1) h).bind fun p1 =>
  (rcv p1.2 0 a0).bind fun _ =>
  (f_X0_ofBand N a0 x1 (jI 2) p1.2).bind fun p2 =>
  some (iMax (jI 1) (iAdd p1.1 p2.1), p2.2)
def y_X0_periodOf : mM := (yX0_periodOf, cX0_periodOf, 2, (some .int))
def B_X0_periodOf : List (Nat × List mI) := []
def S_X0_periodOf_0 : List mI := [(.iconst 1, 1, [], [1]), (.aload_n 0, 1, [0], []), (.iload_n 1, 1, [1], []), (.iconst 1, 1, [], [1]), (.invokevirtual 53, 3, [0, 9, 2, 0, 33], []), (.aload_n 0, 1, [0], []), (.iload_n 1, 1, [1], []), (.iconst 2, 1, [], [2]), (.invokevirtual 53, 3, [0, 9, 2, 0, 33], []), (.iadd, 1, [], []), (.invokestatic 65, 3, [6, 0, 0, 0, 16], []), (.ireturn, 1, [], [])]
theorem lb_X0_periodOf : B_X0_periodOf.all (fun b => lst y_X0_periodOf.2.1 0 y_X0_periodOf.2.2.1 false b.1 b.2) = true := by decide +kernel
theorem ls_X0_periodOf_0 : lst y_X0_periodOf.2.1 0 y_X0_periodOf.2.2.1 false 0 S_X0_periodOf_0 = true := by decide +kernel
def C_X0_periodOf (N : Nat) : Nat → List Value → mH → (Option Value → mH → Option (Int32 × mH)) → Option (Int32 × mH) := fun j as g k => kb j 9 (pr1 as fun b0 as => pp1 as fun b1 as => pp1 as fun b2 as => pe as ((f_X0_ofBand N b0 b1 b2 g).bind fun p => k (some (.int p.1)) p.2)) (none)
theorem co_X0_periodOf (N : Nat) (q : Int32 × mH) : clOK 5 q (C_X0_periodOf N) := by
  intro j as g k e
  rcases kb_s e with ⟨rfl, e⟩ | e
  · obtain ⟨b0, r0, q0, f0⟩ := pr1_s e
    obtain ⟨b1, r1, q1, f1⟩ := pp1_s f0
    obtain ⟨b2, r2, q2, f2⟩ := pp1_s f1
    obtain ⟨qe, fe⟩ := pe_s f2
    obtain ⟨p, e1, e2⟩ := bnd_s fe
    subst qe
    subst q2
    subst q1
    subst q0
    exact ⟨_, _, _, _, 4, rfl, (by decide), m_X0_ofBand N e1, e2⟩
  cases e
set_option maxRecDepth 100000 in
theorem m_X0_periodOf (N : Nat) {a0 : Nat} {x1 : Int32} {h : mH} {q : Int32 × mH} (hf : f_X0_periodOf N a0 x1 h = some q) : MM y_X0_periodOf 5 [.ref a0, .int x1] h (some (.int q.1)) q.2 := by
  refine MM.of (mFx (j := 13) rfl).2.2.2.1 (Nat.le_of_ble_eq_true rfl) (fun X => ?_)
  refine ev_ok (o := 0) (ini := false) (Cl := C_X0_periodOf N) (Rc := RcI) (B := B_X0_periodOf) (K := fun pc ls st g => none) rfl (fun e => by cases e) (by decide) (rcI_ok rfl) ?_ (co_X0_periodOf N q) lb_X0_periodOf 3000 0 S_X0_periodOf_0 _ _ h ls_X0_periodOf_0 hf
  intro pc ls st g e
  cases e
def f_X0_rowsOf (N : Nat) (a0 : Nat) (x1 : Int32) (h : mH) : Option (Int32 × mH) :=
  (rcv h 0 a0).bind fun _ =>
  (f_X0_ofBand N a0 x1 (jI 0) h).bind fun p1 =>
  (rcv p1.2 0 a0).bind fun _ =>
  (f_X0_ofBand N a0 x1 (jI 3) p1.2).bind fun p2 =>
  some (iMul p1.1 p2.1, p2.2)
def y_X0_rowsOf : mM := (yX0_rowsOf, cX0_rowsOf, 2, (some .int))
def B_X0_rowsOf : List (Nat × List mI) := []
def S_X0_rowsOf_0 : List mI := [(.aload_n 0, 1, [0], []), (.iload_n 1, 1, [1], []), (.iconst 0, 1, [], [0]), (.invokevirtual 53, 3, [0, 9, 2, 0, 33], []), (.aload_n 0, 1, [0], []), (.iload_n 1, 1, [1], []), (.iconst 3, 1, [], [3]), (.invokevirtual 53, 3, [0, 9, 2, 0, 33], []), (.imul, 1, [], []), (.ireturn, 1, [], [])]
theorem lb_X0_rowsOf : B_X0_rowsOf.all (fun b => lst y_X0_rowsOf.2.1 0 y_X0_rowsOf.2.2.1 false b.1 b.2) = true := by decide +kernel
theorem ls_X0_rowsOf_0 : lst y_X0_rowsOf.2.1 0 y_X0_rowsOf.2.2.1 false 0 S_X0_rowsOf_0 = true := by decide +kernel
def C_X0_rowsOf (N : Nat) : Nat → List Value → mH → (Option Value → mH → Option (Int32 × mH)) → Option (Int32 × mH) := fun j as g k => kb j 9 (pr1 as fun b0 as => pp1 as fun b1 as => pp1 as fun b2 as => pe as ((f_X0_ofBand N b0 b1 b2 g).bind fun p => k (some (.int p.1)) p.2)) (none)
theorem co_X0_rowsOf (N : Nat) (q : Int32 × mH) : clOK 5 q (C_X0_rowsOf N) := by
  intro j as g k e
  rcases kb_s e with ⟨rfl, e⟩ | e
  · obtain ⟨b0, r0, q0, f0⟩ := pr1_s e
    obtain ⟨b1, r1, q1, f1⟩ := pp1_s f0
    obtain ⟨b2, r2, q2, f2⟩ := pp1_s f1
    obtain ⟨qe, fe⟩ := pe_s f2
    obtain ⟨p, e1, e2⟩ := bnd_s fe
    subst qe
    subst q2
    subst q1
    subst q0
    exact ⟨_, _, _, _, 4, rfl, (by decide), m_X0_ofBand N e1, e2⟩
  cases e
set_option maxRecDepth 100000 in
theorem m_X0_rowsOf (N : Nat) {a0 : Nat} {x1 : Int32} {h : mH} {q : Int32 × mH} (hf : f_X0_rowsOf N a0 x1 h = some q) : MM y_X0_rowsOf 5 [.ref a0, .int x1] h (some (.int q.1)) q.2 := by
  refine MM.of (mFx (j := 15) rfl).2.2.2.1 (Nat.le_of_ble_eq_true rfl) (fun X => ?_)
  refine ev_ok (o := 0) (ini := false) (Cl := C_X0_rowsOf N) (Rc := RcI) (B := B_X0_rowsOf) (K := fun pc ls st g => none) rfl (fun e => by cases e) (by decide) (rcI_ok rfl) ?_ (co_X0_rowsOf N q) lb_X0_rowsOf 3000 0 S_X0_rowsOf_0 _ _ h ls_X0_rowsOf_0 hf
  intro pc ls st g e
  cases e
def L_X0_slipsOfBand_4 (N : Nat) : Nat → Nat → Int32 → Int32 → Int32 → mH → Option (Int32 × mH)
  | 0, _, _, _, _, _ => none
  | n + 1, a0, x1, x2, x3, h =>
    (gI h 0 a0 3).bind fun v1 =>
    if x3 < v1 then
      (gR h 0 a0 9).bind fun v2 =>
      (ldI 0 h v2 (iMul x3 (jI 3))).bind fun v3 =>
      if v3 = x1 then
        let w4 := iAdd x2 (jI 1)
        let w5 := iAdd x3 (jI 1)
        L_X0_slipsOfBand_4 N n a0 x1 w4 w5 h
      else
        let w6 := iAdd x3 (jI 1)
        L_X0_slipsOfBand_4 N n a0 x1 x2 w6 h
    else
      some (x2, h)
def f_X0_slipsOfBand (N : Nat) (a0 : Nat) (x1 : Int32) (h : mH) : Option (Int32 × mH) :=
  L_X0_slipsOfBand_4 N N a0 x1 (jI 0) (jI 0) h
def y_X0_slipsOfBand : mM := (yX0_slipsOfBand, cX0_slipsOfBand, 4, (some .int))
def B_X0_slipsOfBand : List (Nat × List mI) := [(27, [(.iinc 3 1, 3, [3], [1]), (.goto (-26), 3, [4], [])]), (33, [(.iload_n 2, 1, [2], []), (.ireturn, 1, [], [])])]
def S_X0_slipsOfBand_0 : List mI := [(.iconst 0, 1, [], [0]), (.istore_n 2, 1, [2], []), (.iconst 0, 1, [], [0]), (.istore_n 3, 1, [3], [])]
def S_X0_slipsOfBand_4 : List mI := [(.iload_n 3, 1, [3], []), (.aload_n 0, 1, [0], []), (.getfield 37, 3, [0, 3, 0, 11], []), (.if_icmp .ge 24, 3, [33], []), (.aload_n 0, 1, [0], []), (.getfield 18, 3, [0, 9, 2, 28], []), (.iload_n 3, 1, [3], []), (.iconst 3, 1, [], [3]), (.imul, 1, [], []), (.iaload, 1, [0], []), (.iload_n 1, 1, [1], []), (.if_icmp .ne 6, 3, [27], []), (.iinc 2 1, 3, [2], [1])]
theorem lb_X0_slipsOfBand : B_X0_slipsOfBand.all (fun b => lst y_X0_slipsOfBand.2.1 0 y_X0_slipsOfBand.2.2.1 false b.1 b.2) = true := by decide +kernel
theorem ls_X0_slipsOfBand_0 : lst y_X0_slipsOfBand.2.1 0 y_X0_slipsOfBand.2.2.1 false 0 S_X0_slipsOfBand_0 = true := by decide +kernel
theorem ls_X0_slipsOfBand_4 : lst y_X0_slipsOfBand.2.1 0 y_X0_slipsOfBand.2.2.1 false 4 S_X0_slipsOfBand_4 = true := by decide +kernel
def C_X0_slipsOfBand (N : Nat) : Nat → List Value → mH → (Option Value → mH → Option (Int32 × mH)) → Option (Int32 × mH) := fun j as g k => none
theorem co_X0_slipsOfBand (N : Nat) (q : Int32 × mH) : clOK 4 q (C_X0_slipsOfBand N) := by
  intro j as g k e
  cases e
set_option maxRecDepth 100000 in
theorem t_X0_slipsOfBand_4 {X : Nat × (Nat → Int32)} (N : Nat) {q : Int32 × mH} : ∀ (n : Nat) (a0 : Nat) (x1 : Int32) (x2 : Int32) (x3 : Int32) (h : mH), L_X0_slipsOfBand_4 N n a0 x1 x2 x3 h = some q → MW X y_X0_slipsOfBand 4 4 [(0, .ref a0), (1, .int x1), (2, .int x2), (3, .int x3)] [] h (some (.int q.1)) q.2 := by
  intro n
  induction n with
  | zero => intro a0 x1 x2 x3 h hf; cases hf
  | succ n ih =>
    intro a0 x1 x2 x3 h hf
    refine ev_ok (o := 0) (ini := false) (Cl := C_X0_slipsOfBand N) (Rc := RcI) (B := B_X0_slipsOfBand) (K := fun pc ls st g => kb pc 4 (lgr 0 ls fun a0 => lgi 1 ls fun x1 => lgi 2 ls fun x2 => lgi 3 ls fun x3 => pe st (L_X0_slipsOfBand_4 N n a0 x1 x2 x3 g)) (none)) rfl (fun e => by cases e) (by decide) (rcI_ok rfl) ?_ (co_X0_slipsOfBand N q) lb_X0_slipsOfBand 3000 4 S_X0_slipsOfBand_4 _ _ h ls_X0_slipsOfBand_4 hf
    intro pc ls st g e
    rcases kb_s e with ⟨rfl, e⟩ | e
    · obtain ⟨a0, e0, f0⟩ := lgr_s e
      obtain ⟨x1, e1, f1⟩ := lgi_s f0
      obtain ⟨x2, e2, f2⟩ := lgi_s f1
      obtain ⟨x3, e3, f3⟩ := lgi_s f2
      obtain ⟨qe, fe⟩ := pe_s f3
      subst qe
      exact MW.sub (List.forall_mem_cons.mpr ⟨lg_mem e0, List.forall_mem_cons.mpr ⟨lg_mem e1, List.forall_mem_cons.mpr ⟨lg_mem e2, List.forall_mem_cons.mpr ⟨lg_mem e3, fun _ h => absurd h List.not_mem_nil⟩⟩⟩⟩) (ih a0 x1 x2 x3 g fe)
    cases e
set_option maxRecDepth 100000 in
theorem m_X0_slipsOfBand (N : Nat) {a0 : Nat} {x1 : Int32} {h : mH} {q : Int32 × mH} (hf : f_X0_slipsOfBand N a0 x1 h = some q) : MM y_X0_slipsOfBand 4 [.ref a0, .int x1] h (some (.int q.1)) q.2 := by
  refine MM.of (mFx (j := 16) rfl).2.2.2.1 (Nat.le_of_ble_eq_true rfl) (fun X => ?_)
  refine ev_ok (o := 0) (ini := false) (Cl := C_X0_slipsOfBand N) (Rc := RcI) (B := B_X0_slipsOfBand) (K := fun pc ls st g => kb pc 4 (lgr 0 ls fun a0 => lgi 1 ls fun x1 => lgi 2 ls fun x2 => lgi 3 ls fun x3 => pe st (L_X0_slipsOfBand_4 N N a0 x1 x2 x3 g)) (none)) rfl (fun e => by cases e) (by decide) (rcI_ok rfl) ?_ (co_X0_slipsOfBand N q) lb_X0_slipsOfBand 3000 0 S_X0_slipsOfBand_0 _ _ h ls_X0_slipsOfBand_0 hf
  intro pc ls st g e
  rcases kb_s e with ⟨rfl, e⟩ | e
  · obtain ⟨a0, e0, f0⟩ := lgr_s e
    obtain ⟨x1, e1, f1⟩ := lgi_s f0
    obtain ⟨x2, e2, f2⟩ := lgi_s f1
    obtain ⟨x3, e3, f3⟩ := lgi_s f2
    obtain ⟨qe, fe⟩ := pe_s f3
    subst qe
    exact MW.sub (List.forall_mem_cons.mpr ⟨lg_mem e0, List.forall_mem_cons.mpr ⟨lg_mem e1, List.forall_mem_cons.mpr ⟨lg_mem e2, List.forall_mem_cons.mpr ⟨lg_mem e3, fun _ h => absurd h List.not_mem_nil⟩⟩⟩⟩) (t_X0_slipsOfBand_4 N N a0 x1 x2 x3 g fe)
  cases e
def L_X0_slipsAt_6 (N : Nat) : Nat → Nat → Int32 → Int32 → Int32 → Int32 → Int32 → mH → Option (Int32 × mH)
  | 0, _, _, _, _, _, _, _ => none
  | n + 1, a0, x1, x2, x3, x4, x5, h =>
    (gI h 0 a0 3).bind fun v1 =>
    if x5 < v1 then
      let w2 := iMul x5 (jI 3)
      (gR h 0 a0 9).bind fun v3 =>
      (ldI 0 h v3 w2).bind fun v4 =>
      if v4 = x1 then
        (gR h 0 a0 9).bind fun v5 =>
        (ldI 0 h v5 (iAdd w2 (jI 1))).bind fun v6 =>
        if v6 = x2 then
          (gR h 0 a0 9).bind fun v7 =>
          (ldI 0 h v7 (iAdd w2 (jI 2))).bind fun v8 =>
          if v8 = x3 then
            let w9 := iAdd x4 (jI 1)
            let w10 := iAdd x5 (jI 1)
            L_X0_slipsAt_6 N n a0 x1 x2 x3 w9 w10 h
          else
            let w11 := iAdd x5 (jI 1)
            L_X0_slipsAt_6 N n a0 x1 x2 x3 x4 w11 h
        else
          let w12 := iAdd x5 (jI 1)
          L_X0_slipsAt_6 N n a0 x1 x2 x3 x4 w12 h
      else
        let w13 := iAdd x5 (jI 1)
        L_X0_slipsAt_6 N n a0 x1 x2 x3 x4 w13 h
    else
      some (x4, h)
def f_X0_slipsAt (N : Nat) (a0 : Nat) (x1 : Int32) (x2 : Int32) (x3 : Int32) (h : mH) : Option (Int32 × mH) :=
  L_X0_slipsAt_6 N N a0 x1 x2 x3 (jI 0) (jI 0) h
def y_X0_slipsAt : mM := (yX0_slipsAt, cX0_slipsAt, 7, (some .int))
def B_X0_slipsAt : List (Nat × List mI) := [(61, [(.iinc 5 1, 3, [5], [1]), (.goto (-58), 3, [6], [])]), (67, [(.iload 4, 2, [4], []), (.ireturn, 1, [], [])])]
def S_X0_slipsAt_0 : List mI := [(.iconst 0, 1, [], [0]), (.istore 4, 2, [4], []), (.iconst 0, 1, [], [0]), (.istore 5, 2, [5], [])]
def S_X0_slipsAt_6 : List mI := [(.iload 5, 2, [5], []), (.aload_n 0, 1, [0], []), (.getfield 37, 3, [0, 3, 0, 11], []), (.if_icmp .ge 55, 3, [67], []), (.iload 5, 2, [5], []), (.iconst 3, 1, [], [3]), (.imul, 1, [], []), (.istore 6, 2, [6], []), (.aload_n 0, 1, [0], []), (.getfield 18, 3, [0, 9, 2, 28], []), (.iload 6, 2, [6], []), (.iaload, 1, [0], []), (.iload_n 1, 1, [1], []), (.if_icmp .ne 32, 3, [61], []), (.aload_n 0, 1, [0], []), (.getfield 18, 3, [0, 9, 2, 28], []), (.iload 6, 2, [6], []), (.iconst 1, 1, [], [1]), (.iadd, 1, [], []), (.iaload, 1, [0], []), (.iload_n 2, 1, [2], []), (.if_icmp .ne 19, 3, [61], []), (.aload_n 0, 1, [0], []), (.getfield 18, 3, [0, 9, 2, 28], []), (.iload 6, 2, [6], []), (.iconst 2, 1, [], [2]), (.iadd, 1, [], []), (.iaload, 1, [0], []), (.iload_n 3, 1, [3], []), (.if_icmp .ne 6, 3, [61], []), (.iinc 4 1, 3, [4], [1])]
theorem lb_X0_slipsAt : B_X0_slipsAt.all (fun b => lst y_X0_slipsAt.2.1 0 y_X0_slipsAt.2.2.1 false b.1 b.2) = true := by decide +kernel
theorem ls_X0_slipsAt_0 : lst y_X0_slipsAt.2.1 0 y_X0_slipsAt.2.2.1 false 0 S_X0_slipsAt_0 = true := by decide +kernel
theorem ls_X0_slipsAt_6 : lst y_X0_slipsAt.2.1 0 y_X0_slipsAt.2.2.1 false 6 S_X0_slipsAt_6 = true := by decide +kernel
def C_X0_slipsAt (N : Nat) : Nat → List Value → mH → (Option Value → mH → Option (Int32 × mH)) → Option (Int32 × mH) := fun j as g k => none
theorem co_X0_slipsAt (N : Nat) (q : Int32 × mH) : clOK 4 q (C_X0_slipsAt N) := by
  intro j as g k e
  cases e
set_option maxRecDepth 100000 in
theorem t_X0_slipsAt_6 {X : Nat × (Nat → Int32)} (N : Nat) {q : Int32 × mH} : ∀ (n : Nat) (a0 : Nat) (x1 : Int32) (x2 : Int32) (x3 : Int32) (x4 : Int32) (x5 : Int32) (h : mH), L_X0_slipsAt_6 N n a0 x1 x2 x3 x4 x5 h = some q → MW X y_X0_slipsAt 4 6 [(0, .ref a0), (1, .int x1), (2, .int x2), (3, .int x3), (4, .int x4), (5, .int x5)] [] h (some (.int q.1)) q.2 := by
  intro n
  induction n with
  | zero => intro a0 x1 x2 x3 x4 x5 h hf; cases hf
  | succ n ih =>
    intro a0 x1 x2 x3 x4 x5 h hf
    refine ev_ok (o := 0) (ini := false) (Cl := C_X0_slipsAt N) (Rc := RcI) (B := B_X0_slipsAt) (K := fun pc ls st g => kb pc 6 (lgr 0 ls fun a0 => lgi 1 ls fun x1 => lgi 2 ls fun x2 => lgi 3 ls fun x3 => lgi 4 ls fun x4 => lgi 5 ls fun x5 => pe st (L_X0_slipsAt_6 N n a0 x1 x2 x3 x4 x5 g)) (none)) rfl (fun e => by cases e) (by decide) (rcI_ok rfl) ?_ (co_X0_slipsAt N q) lb_X0_slipsAt 3000 6 S_X0_slipsAt_6 _ _ h ls_X0_slipsAt_6 hf
    intro pc ls st g e
    rcases kb_s e with ⟨rfl, e⟩ | e
    · obtain ⟨a0, e0, f0⟩ := lgr_s e
      obtain ⟨x1, e1, f1⟩ := lgi_s f0
      obtain ⟨x2, e2, f2⟩ := lgi_s f1
      obtain ⟨x3, e3, f3⟩ := lgi_s f2
      obtain ⟨x4, e4, f4⟩ := lgi_s f3
      obtain ⟨x5, e5, f5⟩ := lgi_s f4
      obtain ⟨qe, fe⟩ := pe_s f5
      subst qe
      exact MW.sub (List.forall_mem_cons.mpr ⟨lg_mem e0, List.forall_mem_cons.mpr ⟨lg_mem e1, List.forall_mem_cons.mpr ⟨lg_mem e2, List.forall_mem_cons.mpr ⟨lg_mem e3, List.forall_mem_cons.mpr ⟨lg_mem e4, List.forall_mem_cons.mpr ⟨lg_mem e5, fun _ h => absurd h List.not_mem_nil⟩⟩⟩⟩⟩⟩) (ih a0 x1 x2 x3 x4 x5 g fe)
    cases e
set_option maxRecDepth 100000 in
theorem m_X0_slipsAt (N : Nat) {a0 : Nat} {x1 : Int32} {x2 : Int32} {x3 : Int32} {h : mH} {q : Int32 × mH} (hf : f_X0_slipsAt N a0 x1 x2 x3 h = some q) : MM y_X0_slipsAt 4 [.ref a0, .int x1, .int x2, .int x3] h (some (.int q.1)) q.2 := by
  refine MM.of (mFx (j := 17) rfl).2.2.2.1 (Nat.le_of_ble_eq_true rfl) (fun X => ?_)
  refine ev_ok (o := 0) (ini := false) (Cl := C_X0_slipsAt N) (Rc := RcI) (B := B_X0_slipsAt) (K := fun pc ls st g => kb pc 6 (lgr 0 ls fun a0 => lgi 1 ls fun x1 => lgi 2 ls fun x2 => lgi 3 ls fun x3 => lgi 4 ls fun x4 => lgi 5 ls fun x5 => pe st (L_X0_slipsAt_6 N N a0 x1 x2 x3 x4 x5 g)) (none)) rfl (fun e => by cases e) (by decide) (rcI_ok rfl) ?_ (co_X0_slipsAt N q) lb_X0_slipsAt 3000 0 S_X0_slipsAt_0 _ _ h ls_X0_slipsAt_0 hf
  intro pc ls st g e
  rcases kb_s e with ⟨rfl, e⟩ | e
  · obtain ⟨a0, e0, f0⟩ := lgr_s e
    obtain ⟨x1, e1, f1⟩ := lgi_s f0
    obtain ⟨x2, e2, f2⟩ := lgi_s f1
    obtain ⟨x3, e3, f3⟩ := lgi_s f2
    obtain ⟨x4, e4, f4⟩ := lgi_s f3
    obtain ⟨x5, e5, f5⟩ := lgi_s f4
    obtain ⟨qe, fe⟩ := pe_s f5
    subst qe
    exact MW.sub (List.forall_mem_cons.mpr ⟨lg_mem e0, List.forall_mem_cons.mpr ⟨lg_mem e1, List.forall_mem_cons.mpr ⟨lg_mem e2, List.forall_mem_cons.mpr ⟨lg_mem e3, List.forall_mem_cons.mpr ⟨lg_mem e4, List.forall_mem_cons.mpr ⟨lg_mem e5, fun _ h => absurd h List.not_mem_nil⟩⟩⟩⟩⟩⟩) (t_X0_slipsAt_6 N N a0 x1 x2 x3 x4 x5 g fe)
  cases e
def f_J9_floorMod_7cf53 (N : Nat) (x0 : Int32) (x1 : Int32) (h : mH) : Option (Int32 × mH) :=
  if x1 = 0 then none else
  let w1 := iRem x0 x1
  if (iXor x0 x1) < 0 then
    if w1 = 0 then
      some (w1, h)
    else
      some (iAdd w1 x1, h)
  else
    some (w1, h)
def y_J9_floorMod_7cf53 : mM := (yJ9_floorMod_7cf53, cJ9_floorMod_7cf53, 3, (some .int))
def B_J9_floorMod_7cf53 : List (Nat × List mI) := [(18, [(.iload_n 2, 1, [2], []), (.ireturn, 1, [], [])])]
def S_J9_floorMod_7cf53_0 : List mI := [(.iload_n 0, 1, [0], []), (.iload_n 1, 1, [1], []), (.irem, 1, [], []), (.istore_n 2, 1, [2], []), (.iload_n 0, 1, [0], []), (.iload_n 1, 1, [1], []), (.ixor, 1, [], []), (.ifCond .ge 11, 3, [18], []), (.iload_n 2, 1, [2], []), (.ifCond .eq 7, 3, [18], []), (.iload_n 2, 1, [2], []), (.iload_n 1, 1, [1], []), (.iadd, 1, [], []), (.ireturn, 1, [], [])]
theorem lb_J9_floorMod_7cf53 : B_J9_floorMod_7cf53.all (fun b => lst y_J9_floorMod_7cf53.2.1 14 y_J9_floorMod_7cf53.2.2.1 false b.1 b.2) = true := by decide +kernel
theorem ls_J9_floorMod_7cf53_0 : lst y_J9_floorMod_7cf53.2.1 14 y_J9_floorMod_7cf53.2.2.1 false 0 S_J9_floorMod_7cf53_0 = true := by decide +kernel
def C_J9_floorMod_7cf53 (N : Nat) : Nat → List Value → mH → (Option Value → mH → Option (Int32 × mH)) → Option (Int32 × mH) := fun j as g k => none
theorem co_J9_floorMod_7cf53 (N : Nat) (q : Int32 × mH) : clOK 4 q (C_J9_floorMod_7cf53 N) := by
  intro j as g k e
  cases e
set_option maxRecDepth 100000 in
theorem m_J9_floorMod_7cf53 (N : Nat) {x0 : Int32} {x1 : Int32} {h : mH} {q : Int32 × mH} (hf : f_J9_floorMod_7cf53 N x0 x1 h = some q) : MM y_J9_floorMod_7cf53 4 [.int x0, .int x1] h (some (.int q.1)) q.2 := by
  refine MM.of (mFx (j := 346) rfl).2.2.2.1 (Nat.le_of_ble_eq_true rfl) (fun X => ?_)
  refine ev_ok (o := 14) (ini := false) (Cl := C_J9_floorMod_7cf53 N) (Rc := RcI) (B := B_J9_floorMod_7cf53) (K := fun pc ls st g => none) rfl (fun e => by cases e) (by decide) (rcI_ok rfl) ?_ (co_J9_floorMod_7cf53 N q) lb_J9_floorMod_7cf53 3000 0 S_J9_floorMod_7cf53_0 _ _ h ls_J9_floorMod_7cf53_0 hf
  intro pc ls st g e
  cases e
def f_X0_stakeAt (N : Nat) (a0 : Nat) (x1 : Int32) (x2 : Int32) (x3 : Int32) (h : mH) : Option (Int32 × mH) :=
  (rcv h 0 a0).bind fun _ =>
  (f_X0_ofBand N a0 x1 (jI 4) h).bind fun p1 =>
  (rcv p1.2 0 a0).bind fun _ =>
  (f_X0_ofBand N a0 x1 (jI 5) p1.2).bind fun p2 =>
  if p2.1 = (jI 1) then
    (rcv p2.2 0 a0).bind fun _ =>
    (f_X0_ring N a0 p2.2).bind fun p3 =>
    (f_J9_floorMod_7cf53 N (iSub (iSub p1.1 x2) x3) p3.1 p3.2).bind fun p4 =>
    some (p4.1, p4.2)
  else
    (rcv p2.2 0 a0).bind fun _ =>
    (f_X0_ring N a0 p2.2).bind fun p5 =>
    (f_J9_floorMod_7cf53 N (iAdd (iAdd p1.1 x2) x3) p5.1 p5.2).bind fun p6 =>
    some (p6.1, p6.2)
def y_X0_stakeAt : mM := (yX0_stakeAt, cX0_stakeAt, 5, (some .int))
def B_X0_stakeAt : List (Nat × List mI) := [(27, [(.iload 4, 2, [4], []), (.iload_n 2, 1, [2], []), (.iadd, 1, [], []), (.iload_n 3, 1, [3], []), (.iadd, 1, [], [])]), (33, [(.aload_n 0, 1, [0], []), (.invokevirtual 70, 3, [0, 11, 0, 0, 63], []), (.invokestatic 74, 3, [1, 346, 2, 0, 64], []), (.ireturn, 1, [], [])])]
def S_X0_stakeAt_0 : List mI := [(.aload_n 0, 1, [0], []), (.iload_n 1, 1, [1], []), (.iconst 4, 1, [], [4]), (.invokevirtual 53, 3, [0, 9, 2, 0, 33], []), (.istore 4, 2, [4], []), (.aload_n 0, 1, [0], []), (.iload_n 1, 1, [1], []), (.iconst 5, 1, [], [5]), (.invokevirtual 53, 3, [0, 9, 2, 0, 33], []), (.iconst 1, 1, [], [1]), (.if_icmp .ne 12, 3, [27], []), (.iload 4, 2, [4], []), (.iload_n 2, 1, [2], []), (.isub, 1, [], []), (.iload_n 3, 1, [3], []), (.isub, 1, [], []), (.goto 9, 3, [33], [])]
theorem lb_X0_stakeAt : B_X0_stakeAt.all (fun b => lst y_X0_stakeAt.2.1 0 y_X0_stakeAt.2.2.1 false b.1 b.2) = true := by decide +kernel
theorem ls_X0_stakeAt_0 : lst y_X0_stakeAt.2.1 0 y_X0_stakeAt.2.2.1 false 0 S_X0_stakeAt_0 = true := by decide +kernel
def C_X0_stakeAt (N : Nat) : Nat → List Value → mH → (Option Value → mH → Option (Int32 × mH)) → Option (Int32 × mH) := fun j as g k => kb j 9 (pr1 as fun b0 as => pp1 as fun b1 as => pp1 as fun b2 as => pe as ((f_X0_ofBand N b0 b1 b2 g).bind fun p => k (some (.int p.1)) p.2)) (kb j 11 (pr1 as fun b0 as => pe as ((f_X0_ring N b0 g).bind fun p => k (some (.int p.1)) p.2)) (kb j 346 (pp1 as fun b0 as => pp1 as fun b1 as => pe as ((f_J9_floorMod_7cf53 N b0 b1 g).bind fun p => k (some (.int p.1)) p.2)) (none)))
theorem co_X0_stakeAt (N : Nat) (q : Int32 × mH) : clOK 5 q (C_X0_stakeAt N) := by
  intro j as g k e
  rcases kb_s e with ⟨rfl, e⟩ | e
  · obtain ⟨b0, r0, q0, f0⟩ := pr1_s e
    obtain ⟨b1, r1, q1, f1⟩ := pp1_s f0
    obtain ⟨b2, r2, q2, f2⟩ := pp1_s f1
    obtain ⟨qe, fe⟩ := pe_s f2
    obtain ⟨p, e1, e2⟩ := bnd_s fe
    subst qe
    subst q2
    subst q1
    subst q0
    exact ⟨_, _, _, _, 4, rfl, (by decide), m_X0_ofBand N e1, e2⟩
  rcases kb_s e with ⟨rfl, e⟩ | e
  · obtain ⟨b0, r0, q0, f0⟩ := pr1_s e
    obtain ⟨qe, fe⟩ := pe_s f0
    obtain ⟨p, e1, e2⟩ := bnd_s fe
    subst qe
    subst q0
    exact ⟨_, _, _, _, 4, rfl, (by decide), m_X0_ring N e1, e2⟩
  rcases kb_s e with ⟨rfl, e⟩ | e
  · obtain ⟨b0, r0, q0, f0⟩ := pp1_s e
    obtain ⟨b1, r1, q1, f1⟩ := pp1_s f0
    obtain ⟨qe, fe⟩ := pe_s f1
    obtain ⟨p, e1, e2⟩ := bnd_s fe
    subst qe
    subst q1
    subst q0
    exact ⟨_, _, _, _, 4, rfl, (by decide), m_J9_floorMod_7cf53 N e1, e2⟩
  cases e
set_option maxRecDepth 100000 in
theorem m_X0_stakeAt (N : Nat) {a0 : Nat} {x1 : Int32} {x2 : Int32} {x3 : Int32} {h : mH} {q : Int32 × mH} (hf : f_X0_stakeAt N a0 x1 x2 x3 h = some q) : MM y_X0_stakeAt 5 [.ref a0, .int x1, .int x2, .int x3] h (some (.int q.1)) q.2 := by
  refine MM.of (mFx (j := 18) rfl).2.2.2.1 (Nat.le_of_ble_eq_true rfl) (fun X => ?_)
  refine ev_ok (o := 0) (ini := false) (Cl := C_X0_stakeAt N) (Rc := RcI) (B := B_X0_stakeAt) (K := fun pc ls st g => none) rfl (fun e => by cases e) (by decide) (rcI_ok rfl) ?_ (co_X0_stakeAt N q) lb_X0_stakeAt 3000 0 S_X0_stakeAt_0 _ _ h ls_X0_stakeAt_0 hf
  intro pc ls st g e
  cases e
def f_X0_offsetOf (N : Nat) (a0 : Nat) (x1 : Int32) (x2 : Int32) (x3 : Int32) (h : mH) : Option (Int32 × mH) :=
  (rcv h 0 a0).bind fun _ =>
  (f_X0_ofBand N a0 x1 (jI 4) h).bind fun p1 =>
  (rcv p1.2 0 a0).bind fun _ =>
  (f_X0_ofBand N a0 x1 (jI 5) p1.2).bind fun p2 =>
  if p2.1 = (jI 1) then
    (rcv p2.2 0 a0).bind fun _ =>
    (f_X0_ring N a0 p2.2).bind fun p3 =>
    (f_J9_floorMod_7cf53 N (iSub (iSub p1.1 x2) x3) p3.1 p3.2).bind fun p4 =>
    some (p4.1, p4.2)
  else
    (rcv p2.2 0 a0).bind fun _ =>
    (f_X0_ring N a0 p2.2).bind fun p5 =>
    (f_J9_floorMod_7cf53 N (iSub (iSub x3 p1.1) x2) p5.1 p5.2).bind fun p6 =>
    some (p6.1, p6.2)
def y_X0_offsetOf : mM := (yX0_offsetOf, cX0_offsetOf, 5, (some .int))
def B_X0_offsetOf : List (Nat × List mI) := [(27, [(.iload_n 3, 1, [3], []), (.iload 4, 2, [4], []), (.isub, 1, [], []), (.iload_n 2, 1, [2], []), (.isub, 1, [], [])]), (33, [(.aload_n 0, 1, [0], []), (.invokevirtual 70, 3, [0, 11, 0, 0, 63], []), (.invokestatic 74, 3, [1, 346, 2, 0, 64], []), (.ireturn, 1, [], [])])]
def S_X0_offsetOf_0 : List mI := [(.aload_n 0, 1, [0], []), (.iload_n 1, 1, [1], []), (.iconst 4, 1, [], [4]), (.invokevirtual 53, 3, [0, 9, 2, 0, 33], []), (.istore 4, 2, [4], []), (.aload_n 0, 1, [0], []), (.iload_n 1, 1, [1], []), (.iconst 5, 1, [], [5]), (.invokevirtual 53, 3, [0, 9, 2, 0, 33], []), (.iconst 1, 1, [], [1]), (.if_icmp .ne 12, 3, [27], []), (.iload 4, 2, [4], []), (.iload_n 2, 1, [2], []), (.isub, 1, [], []), (.iload_n 3, 1, [3], []), (.isub, 1, [], []), (.goto 9, 3, [33], [])]
theorem lb_X0_offsetOf : B_X0_offsetOf.all (fun b => lst y_X0_offsetOf.2.1 0 y_X0_offsetOf.2.2.1 false b.1 b.2) = true := by decide +kernel
theorem ls_X0_offsetOf_0 : lst y_X0_offsetOf.2.1 0 y_X0_offsetOf.2.2.1 false 0 S_X0_offsetOf_0 = true := by decide +kernel
def C_X0_offsetOf (N : Nat) : Nat → List Value → mH → (Option Value → mH → Option (Int32 × mH)) → Option (Int32 × mH) := fun j as g k => kb j 9 (pr1 as fun b0 as => pp1 as fun b1 as => pp1 as fun b2 as => pe as ((f_X0_ofBand N b0 b1 b2 g).bind fun p => k (some (.int p.1)) p.2)) (kb j 11 (pr1 as fun b0 as => pe as ((f_X0_ring N b0 g).bind fun p => k (some (.int p.1)) p.2)) (kb j 346 (pp1 as fun b0 as => pp1 as fun b1 as => pe as ((f_J9_floorMod_7cf53 N b0 b1 g).bind fun p => k (some (.int p.1)) p.2)) (none)))
theorem co_X0_offsetOf (N : Nat) (q : Int32 × mH) : clOK 5 q (C_X0_offsetOf N) := by
  intro j as g k e
  rcases kb_s e with ⟨rfl, e⟩ | e
  · obtain ⟨b0, r0, q0, f0⟩ := pr1_s e
    obtain ⟨b1, r1, q1, f1⟩ := pp1_s f0
    obtain ⟨b2, r2, q2, f2⟩ := pp1_s f1
    obtain ⟨qe, fe⟩ := pe_s f2
    obtain ⟨p, e1, e2⟩ := bnd_s fe
    subst qe
    subst q2
    subst q1
    subst q0
    exact ⟨_, _, _, _, 4, rfl, (by decide), m_X0_ofBand N e1, e2⟩
  rcases kb_s e with ⟨rfl, e⟩ | e
  · obtain ⟨b0, r0, q0, f0⟩ := pr1_s e
    obtain ⟨qe, fe⟩ := pe_s f0
    obtain ⟨p, e1, e2⟩ := bnd_s fe
    subst qe
    subst q0
    exact ⟨_, _, _, _, 4, rfl, (by decide), m_X0_ring N e1, e2⟩
  rcases kb_s e with ⟨rfl, e⟩ | e
  · obtain ⟨b0, r0, q0, f0⟩ := pp1_s e
    obtain ⟨b1, r1, q1, f1⟩ := pp1_s f0
    obtain ⟨qe, fe⟩ := pe_s f1
    obtain ⟨p, e1, e2⟩ := bnd_s fe
    subst qe
    subst q1
    subst q0
    exact ⟨_, _, _, _, 4, rfl, (by decide), m_J9_floorMod_7cf53 N e1, e2⟩
  cases e
set_option maxRecDepth 100000 in
theorem m_X0_offsetOf (N : Nat) {a0 : Nat} {x1 : Int32} {x2 : Int32} {x3 : Int32} {h : mH} {q : Int32 × mH} (hf : f_X0_offsetOf N a0 x1 x2 x3 h = some q) : MM y_X0_offsetOf 5 [.ref a0, .int x1, .int x2, .int x3] h (some (.int q.1)) q.2 := by
  refine MM.of (mFx (j := 19) rfl).2.2.2.1 (Nat.le_of_ble_eq_true rfl) (fun X => ?_)
  refine ev_ok (o := 0) (ini := false) (Cl := C_X0_offsetOf N) (Rc := RcI) (B := B_X0_offsetOf) (K := fun pc ls st g => none) rfl (fun e => by cases e) (by decide) (rcI_ok rfl) ?_ (co_X0_offsetOf N q) lb_X0_offsetOf 3000 0 S_X0_offsetOf_0 _ _ h ls_X0_offsetOf_0 hf
  intro pc ls st g e
  cases e
def L_X0_aheadOf_4 (N : Nat) : Nat → Nat → Int32 → Int32 → Int32 → mH → Option (Int32 × mH)
  | 0, _, _, _, _, _ => none
  | n + 1, a0, x1, x2, x3, h =>
    if x3 < x1 then
      (gI h 0 a0 2).bind fun v1 =>
      if x3 < v1 then
        (rcv h 0 a0).bind fun _ =>
        (f_X0_ofBand N a0 x3 (jI 0) h).bind fun p2 =>
        (rcv p2.2 0 a0).bind fun _ =>
        (f_X0_crossingsOf N a0 x3 p2.2).bind fun p3 =>
        let w4 := iAdd x2 (iMul p2.1 p3.1)
        let w5 := iAdd x3 (jI 1)
        L_X0_aheadOf_4 N n a0 x1 w4 w5 p3.2
      else
        some (x2, h)
    else
      some (x2, h)
def f_X0_aheadOf (N : Nat) (a0 : Nat) (x1 : Int32) (h : mH) : Option (Int32 × mH) :=
  L_X0_aheadOf_4 N N a0 x1 (jI 0) (jI 0) h
def y_X0_aheadOf : mM := (yX0_aheadOf, cX0_aheadOf, 4, (some .int))
def B_X0_aheadOf : List (Nat × List mI) := [(38, [(.iload_n 2, 1, [2], []), (.ireturn, 1, [], [])])]
def S_X0_aheadOf_0 : List mI := [(.iconst 0, 1, [], [0]), (.istore_n 2, 1, [2], []), (.iconst 0, 1, [], [0]), (.istore_n 3, 1, [3], [])]
def S_X0_aheadOf_4 : List mI := [(.iload_n 3, 1, [3], []), (.iload_n 1, 1, [1], []), (.if_icmp .ge 32, 3, [38], []), (.iload_n 3, 1, [3], []), (.aload_n 0, 1, [0], []), (.getfield 34, 3, [0, 2, 0, 7], []), (.if_icmp .ge 24, 3, [38], []), (.iload_n 2, 1, [2], []), (.aload_n 0, 1, [0], []), (.iload_n 3, 1, [3], []), (.iconst 0, 1, [], [0]), (.invokevirtual 53, 3, [0, 9, 2, 0, 33], []), (.aload_n 0, 1, [0], []), (.iload_n 3, 1, [3], []), (.invokevirtual 61, 3, [0, 14, 1, 0, 56], []), (.imul, 1, [], []), (.iadd, 1, [], []), (.istore_n 2, 1, [2], []), (.iinc 3 1, 3, [3], [1]), (.goto (-31), 3, [4], [])]
theorem lb_X0_aheadOf : B_X0_aheadOf.all (fun b => lst y_X0_aheadOf.2.1 0 y_X0_aheadOf.2.2.1 false b.1 b.2) = true := by decide +kernel
theorem ls_X0_aheadOf_0 : lst y_X0_aheadOf.2.1 0 y_X0_aheadOf.2.2.1 false 0 S_X0_aheadOf_0 = true := by decide +kernel
theorem ls_X0_aheadOf_4 : lst y_X0_aheadOf.2.1 0 y_X0_aheadOf.2.2.1 false 4 S_X0_aheadOf_4 = true := by decide +kernel
def C_X0_aheadOf (N : Nat) : Nat → List Value → mH → (Option Value → mH → Option (Int32 × mH)) → Option (Int32 × mH) := fun j as g k => kb j 9 (pr1 as fun b0 as => pp1 as fun b1 as => pp1 as fun b2 as => pe as ((f_X0_ofBand N b0 b1 b2 g).bind fun p => k (some (.int p.1)) p.2)) (kb j 14 (pr1 as fun b0 as => pp1 as fun b1 as => pe as ((f_X0_crossingsOf N b0 b1 g).bind fun p => k (some (.int p.1)) p.2)) (none))
theorem co_X0_aheadOf (N : Nat) (q : Int32 × mH) : clOK 6 q (C_X0_aheadOf N) := by
  intro j as g k e
  rcases kb_s e with ⟨rfl, e⟩ | e
  · obtain ⟨b0, r0, q0, f0⟩ := pr1_s e
    obtain ⟨b1, r1, q1, f1⟩ := pp1_s f0
    obtain ⟨b2, r2, q2, f2⟩ := pp1_s f1
    obtain ⟨qe, fe⟩ := pe_s f2
    obtain ⟨p, e1, e2⟩ := bnd_s fe
    subst qe
    subst q2
    subst q1
    subst q0
    exact ⟨_, _, _, _, 4, rfl, (by decide), m_X0_ofBand N e1, e2⟩
  rcases kb_s e with ⟨rfl, e⟩ | e
  · obtain ⟨b0, r0, q0, f0⟩ := pr1_s e
    obtain ⟨b1, r1, q1, f1⟩ := pp1_s f0
    obtain ⟨qe, fe⟩ := pe_s f1
    obtain ⟨p, e1, e2⟩ := bnd_s fe
    subst qe
    subst q1
    subst q0
    exact ⟨_, _, _, _, 5, rfl, (by decide), m_X0_crossingsOf N e1, e2⟩
  cases e
set_option maxRecDepth 100000 in
theorem t_X0_aheadOf_4 {X : Nat × (Nat → Int32)} (N : Nat) {q : Int32 × mH} : ∀ (n : Nat) (a0 : Nat) (x1 : Int32) (x2 : Int32) (x3 : Int32) (h : mH), L_X0_aheadOf_4 N n a0 x1 x2 x3 h = some q → MW X y_X0_aheadOf 6 4 [(0, .ref a0), (1, .int x1), (2, .int x2), (3, .int x3)] [] h (some (.int q.1)) q.2 := by
  intro n
  induction n with
  | zero => intro a0 x1 x2 x3 h hf; cases hf
  | succ n ih =>
    intro a0 x1 x2 x3 h hf
    refine ev_ok (o := 0) (ini := false) (Cl := C_X0_aheadOf N) (Rc := RcI) (B := B_X0_aheadOf) (K := fun pc ls st g => kb pc 4 (lgr 0 ls fun a0 => lgi 1 ls fun x1 => lgi 2 ls fun x2 => lgi 3 ls fun x3 => pe st (L_X0_aheadOf_4 N n a0 x1 x2 x3 g)) (none)) rfl (fun e => by cases e) (by decide) (rcI_ok rfl) ?_ (co_X0_aheadOf N q) lb_X0_aheadOf 3000 4 S_X0_aheadOf_4 _ _ h ls_X0_aheadOf_4 hf
    intro pc ls st g e
    rcases kb_s e with ⟨rfl, e⟩ | e
    · obtain ⟨a0, e0, f0⟩ := lgr_s e
      obtain ⟨x1, e1, f1⟩ := lgi_s f0
      obtain ⟨x2, e2, f2⟩ := lgi_s f1
      obtain ⟨x3, e3, f3⟩ := lgi_s f2
      obtain ⟨qe, fe⟩ := pe_s f3
      subst qe
      exact MW.sub (List.forall_mem_cons.mpr ⟨lg_mem e0, List.forall_mem_cons.mpr ⟨lg_mem e1, List.forall_mem_cons.mpr ⟨lg_mem e2, List.forall_mem_cons.mpr ⟨lg_mem e3, fun _ h => absurd h List.not_mem_nil⟩⟩⟩⟩) (ih a0 x1 x2 x3 g fe)
    cases e
set_option maxRecDepth 100000 in
theorem m_X0_aheadOf (N : Nat) {a0 : Nat} {x1 : Int32} {h : mH} {q : Int32 × mH} (hf : f_X0_aheadOf N a0 x1 h = some q) : MM y_X0_aheadOf 6 [.ref a0, .int x1] h (some (.int q.1)) q.2 := by
  refine MM.of (mFx (j := 20) rfl).2.2.2.1 (Nat.le_of_ble_eq_true rfl) (fun X => ?_)
  refine ev_ok (o := 0) (ini := false) (Cl := C_X0_aheadOf N) (Rc := RcI) (B := B_X0_aheadOf) (K := fun pc ls st g => kb pc 4 (lgr 0 ls fun a0 => lgi 1 ls fun x1 => lgi 2 ls fun x2 => lgi 3 ls fun x3 => pe st (L_X0_aheadOf_4 N N a0 x1 x2 x3 g)) (none)) rfl (fun e => by cases e) (by decide) (rcI_ok rfl) ?_ (co_X0_aheadOf N q) lb_X0_aheadOf 3000 0 S_X0_aheadOf_0 _ _ h ls_X0_aheadOf_0 hf
  intro pc ls st g e
  rcases kb_s e with ⟨rfl, e⟩ | e
  · obtain ⟨a0, e0, f0⟩ := lgr_s e
    obtain ⟨x1, e1, f1⟩ := lgi_s f0
    obtain ⟨x2, e2, f2⟩ := lgi_s f1
    obtain ⟨x3, e3, f3⟩ := lgi_s f2
    obtain ⟨qe, fe⟩ := pe_s f3
    subst qe
    exact MW.sub (List.forall_mem_cons.mpr ⟨lg_mem e0, List.forall_mem_cons.mpr ⟨lg_mem e1, List.forall_mem_cons.mpr ⟨lg_mem e2, List.forall_mem_cons.mpr ⟨lg_mem e3, fun _ h => absurd h List.not_mem_nil⟩⟩⟩⟩) (t_X0_aheadOf_4 N N a0 x1 x2 x3 g fe)
  cases e
def f_X0_allCrossings (N : Nat) (a0 : Nat) (h : mH) : Option (Int32 × mH) :=
  (gI h 0 a0 2).bind fun v1 =>
  (rcv h 0 a0).bind fun _ =>
  (f_X0_aheadOf N a0 v1 h).bind fun p2 =>
  some (p2.1, p2.2)
def y_X0_allCrossings : mM := (yX0_allCrossings, cX0_allCrossings, 1, (some .int))
def B_X0_allCrossings : List (Nat × List mI) := []
def S_X0_allCrossings_0 : List mI := [(.aload_n 0, 1, [0], []), (.aload_n 0, 1, [0], []), (.getfield 34, 3, [0, 2, 0, 7], []), (.invokevirtual 77, 3, [0, 20, 1, 0, 77], []), (.ireturn, 1, [], [])]
theorem lb_X0_allCrossings : B_X0_allCrossings.all (fun b => lst y_X0_allCrossings.2.1 0 y_X0_allCrossings.2.2.1 false b.1 b.2) = true := by decide +kernel
theorem ls_X0_allCrossings_0 : lst y_X0_allCrossings.2.1 0 y_X0_allCrossings.2.2.1 false 0 S_X0_allCrossings_0 = true := by decide +kernel
def C_X0_allCrossings (N : Nat) : Nat → List Value → mH → (Option Value → mH → Option (Int32 × mH)) → Option (Int32 × mH) := fun j as g k => kb j 20 (pr1 as fun b0 as => pp1 as fun b1 as => pe as ((f_X0_aheadOf N b0 b1 g).bind fun p => k (some (.int p.1)) p.2)) (none)
theorem co_X0_allCrossings (N : Nat) (q : Int32 × mH) : clOK 7 q (C_X0_allCrossings N) := by
  intro j as g k e
  rcases kb_s e with ⟨rfl, e⟩ | e
  · obtain ⟨b0, r0, q0, f0⟩ := pr1_s e
    obtain ⟨b1, r1, q1, f1⟩ := pp1_s f0
    obtain ⟨qe, fe⟩ := pe_s f1
    obtain ⟨p, e1, e2⟩ := bnd_s fe
    subst qe
    subst q1
    subst q0
    exact ⟨_, _, _, _, 6, rfl, (by decide), m_X0_aheadOf N e1, e2⟩
  cases e
set_option maxRecDepth 100000 in
theorem m_X0_allCrossings (N : Nat) {a0 : Nat} {h : mH} {q : Int32 × mH} (hf : f_X0_allCrossings N a0 h = some q) : MM y_X0_allCrossings 7 [.ref a0] h (some (.int q.1)) q.2 := by
  refine MM.of (mFx (j := 21) rfl).2.2.2.1 (Nat.le_of_ble_eq_true rfl) (fun X => ?_)
  refine ev_ok (o := 0) (ini := false) (Cl := C_X0_allCrossings N) (Rc := RcI) (B := B_X0_allCrossings) (K := fun pc ls st g => none) rfl (fun e => by cases e) (by decide) (rcI_ok rfl) ?_ (co_X0_allCrossings N q) lb_X0_allCrossings 3000 0 S_X0_allCrossings_0 _ _ h ls_X0_allCrossings_0 hf
  intro pc ls st g e
  cases e
def f_X0_whenOf (N : Nat) (a0 : Nat) (x1 : Int32) (x2 : Int32) (x3 : Int32) (h : mH) : Option (Int32 × mH) :=
  (rcv h 0 a0).bind fun _ =>
  (f_X0_aheadOf N a0 x1 h).bind fun p1 =>
  (rcv p1.2 0 a0).bind fun _ =>
  (f_X0_ofBand N a0 x1 (jI 0) p1.2).bind fun p2 =>
  some (iAdd (iAdd p1.1 (iMul x3 p2.1)) x2, p2.2)
def y_X0_whenOf : mM := (yX0_whenOf, cX0_whenOf, 4, (some .int))
def B_X0_whenOf : List (Nat × List mI) := []
def S_X0_whenOf_0 : List mI := [(.aload_n 0, 1, [0], []), (.iload_n 1, 1, [1], []), (.invokevirtual 77, 3, [0, 20, 1, 0, 77], []), (.iload_n 3, 1, [3], []), (.aload_n 0, 1, [0], []), (.iload_n 1, 1, [1], []), (.iconst 0, 1, [], [0]), (.invokevirtual 53, 3, [0, 9, 2, 0, 33], []), (.imul, 1, [], []), (.iadd, 1, [], []), (.iload_n 2, 1, [2], []), (.iadd, 1, [], []), (.ireturn, 1, [], [])]
theorem lb_X0_whenOf : B_X0_whenOf.all (fun b => lst y_X0_whenOf.2.1 0 y_X0_whenOf.2.2.1 false b.1 b.2) = true := by decide +kernel
theorem ls_X0_whenOf_0 : lst y_X0_whenOf.2.1 0 y_X0_whenOf.2.2.1 false 0 S_X0_whenOf_0 = true := by decide +kernel
def C_X0_whenOf (N : Nat) : Nat → List Value → mH → (Option Value → mH → Option (Int32 × mH)) → Option (Int32 × mH) := fun j as g k => kb j 20 (pr1 as fun b0 as => pp1 as fun b1 as => pe as ((f_X0_aheadOf N b0 b1 g).bind fun p => k (some (.int p.1)) p.2)) (kb j 9 (pr1 as fun b0 as => pp1 as fun b1 as => pp1 as fun b2 as => pe as ((f_X0_ofBand N b0 b1 b2 g).bind fun p => k (some (.int p.1)) p.2)) (none))
theorem co_X0_whenOf (N : Nat) (q : Int32 × mH) : clOK 7 q (C_X0_whenOf N) := by
  intro j as g k e
  rcases kb_s e with ⟨rfl, e⟩ | e
  · obtain ⟨b0, r0, q0, f0⟩ := pr1_s e
    obtain ⟨b1, r1, q1, f1⟩ := pp1_s f0
    obtain ⟨qe, fe⟩ := pe_s f1
    obtain ⟨p, e1, e2⟩ := bnd_s fe
    subst qe
    subst q1
    subst q0
    exact ⟨_, _, _, _, 6, rfl, (by decide), m_X0_aheadOf N e1, e2⟩
  rcases kb_s e with ⟨rfl, e⟩ | e
  · obtain ⟨b0, r0, q0, f0⟩ := pr1_s e
    obtain ⟨b1, r1, q1, f1⟩ := pp1_s f0
    obtain ⟨b2, r2, q2, f2⟩ := pp1_s f1
    obtain ⟨qe, fe⟩ := pe_s f2
    obtain ⟨p, e1, e2⟩ := bnd_s fe
    subst qe
    subst q2
    subst q1
    subst q0
    exact ⟨_, _, _, _, 4, rfl, (by decide), m_X0_ofBand N e1, e2⟩
  cases e
set_option maxRecDepth 100000 in
theorem m_X0_whenOf (N : Nat) {a0 : Nat} {x1 : Int32} {x2 : Int32} {x3 : Int32} {h : mH} {q : Int32 × mH} (hf : f_X0_whenOf N a0 x1 x2 x3 h = some q) : MM y_X0_whenOf 7 [.ref a0, .int x1, .int x2, .int x3] h (some (.int q.1)) q.2 := by
  refine MM.of (mFx (j := 22) rfl).2.2.2.1 (Nat.le_of_ble_eq_true rfl) (fun X => ?_)
  refine ev_ok (o := 0) (ini := false) (Cl := C_X0_whenOf N) (Rc := RcI) (B := B_X0_whenOf) (K := fun pc ls st g => none) rfl (fun e => by cases e) (by decide) (rcI_ok rfl) ?_ (co_X0_whenOf N q) lb_X0_whenOf 3000 0 S_X0_whenOf_0 _ _ h ls_X0_whenOf_0 hf
  intro pc ls st g e
  cases e
def L_X0_firstTouch_25 (N : Nat) : Nat → Nat → Int32 → Int32 → Int32 → Int32 → Int32 → mH → Option (Int32 × mH)
  | 0, _, _, _, _, _, _, _ => none
  | n + 1, a0, x1, x2, x3, x4, x5, h =>
    (rcv h 0 a0).bind fun _ =>
    (f_X0_ofBand N a0 x1 (jI 0) h).bind fun p1 =>
    if x5 < p1.1 then
      (gI p1.2 0 a0 0).bind fun v2 =>
      (rcv p1.2 0 a0).bind fun _ =>
      (f_X0_offsetOf N a0 x1 x5 x3 p1.2).bind fun p3 =>
      (rcv p3.2 0 a0).bind fun _ =>
      (f_X0_whenOf N a0 x1 x5 (iAdd (iMul x2 v2) p3.1) p3.2).bind fun p4 =>
      let w5 := iMin x4 p4.1
      let w6 := iAdd x5 (jI 1)
      L_X0_firstTouch_25 N n a0 x1 x2 x3 w5 w6 p4.2
    else
      some (x4, p1.2)
def f_X0_firstTouch (N : Nat) (a0 : Nat) (x1 : Int32) (x2 : Int32) (x3 : Int32) (h : mH) : Option (Int32 × mH) :=
  (gI h 0 a0 0).bind fun v1 =>
  (rcv h 0 a0).bind fun _ =>
  (f_X0_offsetOf N a0 x1 (jI 0) x3 h).bind fun p2 =>
  (rcv p2.2 0 a0).bind fun _ =>
  (f_X0_whenOf N a0 x1 (jI 0) (iAdd (iMul x2 v1) p2.1) p2.2).bind fun p3 =>
  L_X0_firstTouch_25 N N a0 x1 x2 x3 p3.1 (jI 1) p3.2
def y_X0_firstTouch : mM := (yX0_firstTouch, cX0_firstTouch, 6, (some .int))
def B_X0_firstTouch : List (Nat × List mI) := [(71, [(.iload 4, 2, [4], []), (.ireturn, 1, [], [])])]
def S_X0_firstTouch_0 : List mI := [(.aload_n 0, 1, [0], []), (.iload_n 1, 1, [1], []), (.iconst 0, 1, [], [0]), (.iload_n 2, 1, [2], []), (.aload_n 0, 1, [0], []), (.getfield 28, 3, [0, 0, 0, 0], []), (.imul, 1, [], []), (.aload_n 0, 1, [0], []), (.iload_n 1, 1, [1], []), (.iconst 0, 1, [], [0]), (.iload_n 3, 1, [3], []), (.invokevirtual 80, 3, [0, 19, 3, 0, 101], []), (.iadd, 1, [], []), (.invokevirtual 84, 3, [0, 22, 3, 0, 102], []), (.istore 4, 2, [4], []), (.iconst 1, 1, [], [1]), (.istore 5, 2, [5], [])]
def S_X0_firstTouch_25 : List mI := [(.iload 5, 2, [5], []), (.aload_n 0, 1, [0], []), (.iload_n 1, 1, [1], []), (.iconst 0, 1, [], [0]), (.invokevirtual 53, 3, [0, 9, 2, 0, 33], []), (.if_icmp .ge 38, 3, [71], []), (.iload 4, 2, [4], []), (.aload_n 0, 1, [0], []), (.iload_n 1, 1, [1], []), (.iload 5, 2, [5], []), (.iload_n 2, 1, [2], []), (.aload_n 0, 1, [0], []), (.getfield 28, 3, [0, 0, 0, 0], []), (.imul, 1, [], []), (.aload_n 0, 1, [0], []), (.iload_n 1, 1, [1], []), (.iload 5, 2, [5], []), (.iload_n 3, 1, [3], []), (.invokevirtual 80, 3, [0, 19, 3, 0, 101], []), (.iadd, 1, [], []), (.invokevirtual 84, 3, [0, 22, 3, 0, 102], []), (.invokestatic 87, 3, [7, 0, 0, 0, 17], []), (.istore 4, 2, [4], []), (.iinc 5 1, 3, [5], [1]), (.goto (-43), 3, [25], [])]
theorem lb_X0_firstTouch : B_X0_firstTouch.all (fun b => lst y_X0_firstTouch.2.1 0 y_X0_firstTouch.2.2.1 false b.1 b.2) = true := by decide +kernel
theorem ls_X0_firstTouch_0 : lst y_X0_firstTouch.2.1 0 y_X0_firstTouch.2.2.1 false 0 S_X0_firstTouch_0 = true := by decide +kernel
theorem ls_X0_firstTouch_25 : lst y_X0_firstTouch.2.1 0 y_X0_firstTouch.2.2.1 false 25 S_X0_firstTouch_25 = true := by decide +kernel
def C_X0_firstTouch (N : Nat) : Nat → List Value → mH → (Option Value → mH → Option (Int32 × mH)) → Option (Int32 × mH) := fun j as g k => kb j 19 (pr1 as fun b0 as => pp1 as fun b1 as => pp1 as fun b2 as => pp1 as fun b3 as => pe as ((f_X0_offsetOf N b0 b1 b2 b3 g).bind fun p => k (some (.int p.1)) p.2)) (kb j 22 (pr1 as fun b0 as => pp1 as fun b1 as => pp1 as fun b2 as => pp1 as fun b3 as => pe as ((f_X0_whenOf N b0 b1 b2 b3 g).bind fun p => k (some (.int p.1)) p.2)) (kb j 9 (pr1 as fun b0 as => pp1 as fun b1 as => pp1 as fun b2 as => pe as ((f_X0_ofBand N b0 b1 b2 g).bind fun p => k (some (.int p.1)) p.2)) (none)))
theorem co_X0_firstTouch (N : Nat) (q : Int32 × mH) : clOK 8 q (C_X0_firstTouch N) := by
  intro j as g k e
  rcases kb_s e with ⟨rfl, e⟩ | e
  · obtain ⟨b0, r0, q0, f0⟩ := pr1_s e
    obtain ⟨b1, r1, q1, f1⟩ := pp1_s f0
    obtain ⟨b2, r2, q2, f2⟩ := pp1_s f1
    obtain ⟨b3, r3, q3, f3⟩ := pp1_s f2
    obtain ⟨qe, fe⟩ := pe_s f3
    obtain ⟨p, e1, e2⟩ := bnd_s fe
    subst qe
    subst q3
    subst q2
    subst q1
    subst q0
    exact ⟨_, _, _, _, 5, rfl, (by decide), m_X0_offsetOf N e1, e2⟩
  rcases kb_s e with ⟨rfl, e⟩ | e
  · obtain ⟨b0, r0, q0, f0⟩ := pr1_s e
    obtain ⟨b1, r1, q1, f1⟩ := pp1_s f0
    obtain ⟨b2, r2, q2, f2⟩ := pp1_s f1
    obtain ⟨b3, r3, q3, f3⟩ := pp1_s f2
    obtain ⟨qe, fe⟩ := pe_s f3
    obtain ⟨p, e1, e2⟩ := bnd_s fe
    subst qe
    subst q3
    subst q2
    subst q1
    subst q0
    exact ⟨_, _, _, _, 7, rfl, (by decide), m_X0_whenOf N e1, e2⟩
  rcases kb_s e with ⟨rfl, e⟩ | e
  · obtain ⟨b0, r0, q0, f0⟩ := pr1_s e
    obtain ⟨b1, r1, q1, f1⟩ := pp1_s f0
    obtain ⟨b2, r2, q2, f2⟩ := pp1_s f1
    obtain ⟨qe, fe⟩ := pe_s f2
    obtain ⟨p, e1, e2⟩ := bnd_s fe
    subst qe
    subst q2
    subst q1
    subst q0
    exact ⟨_, _, _, _, 4, rfl, (by decide), m_X0_ofBand N e1, e2⟩
  cases e
set_option maxRecDepth 100000 in
theorem t_X0_firstTouch_25 {X : Nat × (Nat → Int32)} (N : Nat) {q : Int32 × mH} : ∀ (n : Nat) (a0 : Nat) (x1 : Int32) (x2 : Int32) (x3 : Int32) (x4 : Int32) (x5 : Int32) (h : mH), L_X0_firstTouch_25 N n a0 x1 x2 x3 x4 x5 h = some q → MW X y_X0_firstTouch 8 25 [(0, .ref a0), (1, .int x1), (2, .int x2), (3, .int x3), (4, .int x4), (5, .int x5)] [] h (some (.int q.1)) q.2 := by
  intro n
  induction n with
  | zero => intro a0 x1 x2 x3 x4 x5 h hf; cases hf
  | succ n ih =>
    intro a0 x1 x2 x3 x4 x5 h hf
    refine ev_ok (o := 0) (ini := false) (Cl := C_X0_firstTouch N) (Rc := RcI) (B := B_X0_firstTouch) (K := fun pc ls st g => kb pc 25 (lgr 0 ls fun a0 => lgi 1 ls fun x1 => lgi 2 ls fun x2 => lgi 3 ls fun x3 => lgi 4 ls fun x4 => lgi 5 ls fun x5 => pe st (L_X0_firstTouch_25 N n a0 x1 x2 x3 x4 x5 g)) (none)) rfl (fun e => by cases e) (by decide) (rcI_ok rfl) ?_ (co_X0_firstTouch N q) lb_X0_firstTouch 3000 25 S_X0_firstTouch_25 _ _ h ls_X0_firstTouch_25 hf
    intro pc ls st g e
    rcases kb_s e with ⟨rfl, e⟩ | e
    · obtain ⟨a0, e0, f0⟩ := lgr_s e
      obtain ⟨x1, e1, f1⟩ := lgi_s f0
      obtain ⟨x2, e2, f2⟩ := lgi_s f1
      obtain ⟨x3, e3, f3⟩ := lgi_s f2
      obtain ⟨x4, e4, f4⟩ := lgi_s f3
      obtain ⟨x5, e5, f5⟩ := lgi_s f4
      obtain ⟨qe, fe⟩ := pe_s f5
      subst qe
      exact MW.sub (List.forall_mem_cons.mpr ⟨lg_mem e0, List.forall_mem_cons.mpr ⟨lg_mem e1, List.forall_mem_cons.mpr ⟨lg_mem e2, List.forall_mem_cons.mpr ⟨lg_mem e3, List.forall_mem_cons.mpr ⟨lg_mem e4, List.forall_mem_cons.mpr ⟨lg_mem e5, fun _ h => absurd h List.not_mem_nil⟩⟩⟩⟩⟩⟩) (ih a0 x1 x2 x3 x4 x5 g fe)
    cases e
set_option maxRecDepth 100000 in
theorem m_X0_firstTouch (N : Nat) {a0 : Nat} {x1 : Int32} {x2 : Int32} {x3 : Int32} {h : mH} {q : Int32 × mH} (hf : f_X0_firstTouch N a0 x1 x2 x3 h = some q) : MM y_X0_firstTouch 8 [.ref a0, .int x1, .int x2, .int x3] h (some (.int q.1)) q.2 := by
  refine MM.of (mFx (j := 23) rfl).2.2.2.1 (Nat.le_of_ble_eq_true rfl) (fun X => ?_)
  refine ev_ok (o := 0) (ini := false) (Cl := C_X0_firstTouch N) (Rc := RcI) (B := B_X0_firstTouch) (K := fun pc ls st g => kb pc 25 (lgr 0 ls fun a0 => lgi 1 ls fun x1 => lgi 2 ls fun x2 => lgi 3 ls fun x3 => lgi 4 ls fun x4 => lgi 5 ls fun x5 => pe st (L_X0_firstTouch_25 N N a0 x1 x2 x3 x4 x5 g)) (none)) rfl (fun e => by cases e) (by decide) (rcI_ok rfl) ?_ (co_X0_firstTouch N q) lb_X0_firstTouch 3000 0 S_X0_firstTouch_0 _ _ h ls_X0_firstTouch_0 hf
  intro pc ls st g e
  rcases kb_s e with ⟨rfl, e⟩ | e
  · obtain ⟨a0, e0, f0⟩ := lgr_s e
    obtain ⟨x1, e1, f1⟩ := lgi_s f0
    obtain ⟨x2, e2, f2⟩ := lgi_s f1
    obtain ⟨x3, e3, f3⟩ := lgi_s f2
    obtain ⟨x4, e4, f4⟩ := lgi_s f3
    obtain ⟨x5, e5, f5⟩ := lgi_s f4
    obtain ⟨qe, fe⟩ := pe_s f5
    subst qe
    exact MW.sub (List.forall_mem_cons.mpr ⟨lg_mem e0, List.forall_mem_cons.mpr ⟨lg_mem e1, List.forall_mem_cons.mpr ⟨lg_mem e2, List.forall_mem_cons.mpr ⟨lg_mem e3, List.forall_mem_cons.mpr ⟨lg_mem e4, List.forall_mem_cons.mpr ⟨lg_mem e5, fun _ h => absurd h List.not_mem_nil⟩⟩⟩⟩⟩⟩) (t_X0_firstTouch_25 N N a0 x1 x2 x3 x4 x5 g fe)
  cases e
def f_X0_rodStep (N : Nat) (a0 : Nat) (x1 : Int32) (x2 : Int32) (h : mH) : Option (Int32 × mH) :=
  (rcv h 0 a0).bind fun _ =>
  (f_X0_ofKind N a0 x1 (jI 0) h).bind fun p1 =>
  some (iMax (jI 1) (iSub p1.1 x2), p1.2)
def y_X0_rodStep : mM := (yX0_rodStep, cX0_rodStep, 3, (some .int))
def B_X0_rodStep : List (Nat × List mI) := []
def S_X0_rodStep_0 : List mI := [(.iconst 1, 1, [], [1]), (.aload_n 0, 1, [0], []), (.iload_n 1, 1, [1], []), (.iconst 0, 1, [], [0]), (.invokevirtual 90, 3, [0, 8, 2, 0, 60], []), (.iload_n 2, 1, [2], []), (.isub, 1, [], []), (.invokestatic 65, 3, [6, 0, 0, 0, 16], []), (.ireturn, 1, [], [])]
theorem lb_X0_rodStep : B_X0_rodStep.all (fun b => lst y_X0_rodStep.2.1 0 y_X0_rodStep.2.2.1 false b.1 b.2) = true := by decide +kernel
theorem ls_X0_rodStep_0 : lst y_X0_rodStep.2.1 0 y_X0_rodStep.2.2.1 false 0 S_X0_rodStep_0 = true := by decide +kernel
def C_X0_rodStep (N : Nat) : Nat → List Value → mH → (Option Value → mH → Option (Int32 × mH)) → Option (Int32 × mH) := fun j as g k => kb j 8 (pr1 as fun b0 as => pp1 as fun b1 as => pp1 as fun b2 as => pe as ((f_X0_ofKind N b0 b1 b2 g).bind fun p => k (some (.int p.1)) p.2)) (none)
theorem co_X0_rodStep (N : Nat) (q : Int32 × mH) : clOK 5 q (C_X0_rodStep N) := by
  intro j as g k e
  rcases kb_s e with ⟨rfl, e⟩ | e
  · obtain ⟨b0, r0, q0, f0⟩ := pr1_s e
    obtain ⟨b1, r1, q1, f1⟩ := pp1_s f0
    obtain ⟨b2, r2, q2, f2⟩ := pp1_s f1
    obtain ⟨qe, fe⟩ := pe_s f2
    obtain ⟨p, e1, e2⟩ := bnd_s fe
    subst qe
    subst q2
    subst q1
    subst q0
    exact ⟨_, _, _, _, 4, rfl, (by decide), m_X0_ofKind N e1, e2⟩
  cases e
set_option maxRecDepth 100000 in
theorem m_X0_rodStep (N : Nat) {a0 : Nat} {x1 : Int32} {x2 : Int32} {h : mH} {q : Int32 × mH} (hf : f_X0_rodStep N a0 x1 x2 h = some q) : MM y_X0_rodStep 5 [.ref a0, .int x1, .int x2] h (some (.int q.1)) q.2 := by
  refine MM.of (mFx (j := 24) rfl).2.2.2.1 (Nat.le_of_ble_eq_true rfl) (fun X => ?_)
  refine ev_ok (o := 0) (ini := false) (Cl := C_X0_rodStep N) (Rc := RcI) (B := B_X0_rodStep) (K := fun pc ls st g => none) rfl (fun e => by cases e) (by decide) (rcI_ok rfl) ?_ (co_X0_rodStep N q) lb_X0_rodStep 3000 0 S_X0_rodStep_0 _ _ h ls_X0_rodStep_0 hf
  intro pc ls st g e
  cases e
def f_X0_rodsFor (N : Nat) (a0 : Nat) (x1 : Int32) (x2 : Int32) (x3 : Int32) (h : mH) : Option (Int32 × mH) :=
  (rcv h 0 a0).bind fun _ =>
  (f_X0_ofKind N a0 x1 (jI 0) h).bind fun p1 =>
  let w2 := iSub x3 p1.1
  (rcv p1.2 0 a0).bind fun _ =>
  (f_X0_rodStep N a0 x1 x2 p1.2).bind fun p3 =>
  if 0 < w2 then
    if p3.1 = 0 then none else
    some (iAdd (jI 1) (iDiv (iSub (iAdd w2 p3.1) (jI 1)) p3.1), p3.2)
  else
    some (jI 1, p3.2)
def y_X0_rodsFor : mM := (yX0_rodsFor, cX0_rodsFor, 6, (some .int))
def B_X0_rodsFor : List (Nat × List mI) := [(27, [(.iconst 1, 1, [], [1]), (.iload 4, 2, [4], []), (.iload 5, 2, [5], []), (.iadd, 1, [], []), (.iconst 1, 1, [], [1]), (.isub, 1, [], []), (.iload 5, 2, [5], []), (.idiv, 1, [], []), (.iadd, 1, [], [])]), (39, [(.ireturn, 1, [], [])])]
def S_X0_rodsFor_0 : List mI := [(.iload_n 3, 1, [3], []), (.aload_n 0, 1, [0], []), (.iload_n 1, 1, [1], []), (.iconst 0, 1, [], [0]), (.invokevirtual 90, 3, [0, 8, 2, 0, 60], []), (.isub, 1, [], []), (.istore 4, 2, [4], []), (.aload_n 0, 1, [0], []), (.iload_n 1, 1, [1], []), (.iload_n 2, 1, [2], []), (.invokevirtual 93, 3, [0, 24, 2, 0, 59], []), (.istore 5, 2, [5], []), (.iload 4, 2, [4], []), (.ifCond .gt 7, 3, [27], []), (.iconst 1, 1, [], [1]), (.goto 15, 3, [39], [])]
theorem lb_X0_rodsFor : B_X0_rodsFor.all (fun b => lst y_X0_rodsFor.2.1 0 y_X0_rodsFor.2.2.1 false b.1 b.2) = true := by decide +kernel
theorem ls_X0_rodsFor_0 : lst y_X0_rodsFor.2.1 0 y_X0_rodsFor.2.2.1 false 0 S_X0_rodsFor_0 = true := by decide +kernel
def C_X0_rodsFor (N : Nat) : Nat → List Value → mH → (Option Value → mH → Option (Int32 × mH)) → Option (Int32 × mH) := fun j as g k => kb j 8 (pr1 as fun b0 as => pp1 as fun b1 as => pp1 as fun b2 as => pe as ((f_X0_ofKind N b0 b1 b2 g).bind fun p => k (some (.int p.1)) p.2)) (kb j 24 (pr1 as fun b0 as => pp1 as fun b1 as => pp1 as fun b2 as => pe as ((f_X0_rodStep N b0 b1 b2 g).bind fun p => k (some (.int p.1)) p.2)) (none))
theorem co_X0_rodsFor (N : Nat) (q : Int32 × mH) : clOK 6 q (C_X0_rodsFor N) := by
  intro j as g k e
  rcases kb_s e with ⟨rfl, e⟩ | e
  · obtain ⟨b0, r0, q0, f0⟩ := pr1_s e
    obtain ⟨b1, r1, q1, f1⟩ := pp1_s f0
    obtain ⟨b2, r2, q2, f2⟩ := pp1_s f1
    obtain ⟨qe, fe⟩ := pe_s f2
    obtain ⟨p, e1, e2⟩ := bnd_s fe
    subst qe
    subst q2
    subst q1
    subst q0
    exact ⟨_, _, _, _, 4, rfl, (by decide), m_X0_ofKind N e1, e2⟩
  rcases kb_s e with ⟨rfl, e⟩ | e
  · obtain ⟨b0, r0, q0, f0⟩ := pr1_s e
    obtain ⟨b1, r1, q1, f1⟩ := pp1_s f0
    obtain ⟨b2, r2, q2, f2⟩ := pp1_s f1
    obtain ⟨qe, fe⟩ := pe_s f2
    obtain ⟨p, e1, e2⟩ := bnd_s fe
    subst qe
    subst q2
    subst q1
    subst q0
    exact ⟨_, _, _, _, 5, rfl, (by decide), m_X0_rodStep N e1, e2⟩
  cases e
set_option maxRecDepth 100000 in
theorem m_X0_rodsFor (N : Nat) {a0 : Nat} {x1 : Int32} {x2 : Int32} {x3 : Int32} {h : mH} {q : Int32 × mH} (hf : f_X0_rodsFor N a0 x1 x2 x3 h = some q) : MM y_X0_rodsFor 6 [.ref a0, .int x1, .int x2, .int x3] h (some (.int q.1)) q.2 := by
  refine MM.of (mFx (j := 25) rfl).2.2.2.1 (Nat.le_of_ble_eq_true rfl) (fun X => ?_)
  refine ev_ok (o := 0) (ini := false) (Cl := C_X0_rodsFor N) (Rc := RcI) (B := B_X0_rodsFor) (K := fun pc ls st g => none) rfl (fun e => by cases e) (by decide) (rcI_ok rfl) ?_ (co_X0_rodsFor N q) lb_X0_rodsFor 3000 0 S_X0_rodsFor_0 _ _ h ls_X0_rodsFor_0 hf
  intro pc ls st g e
  cases e
def f_X0_rodAt (N : Nat) (a0 : Nat) (x1 : Int32) (x2 : Int32) (x3 : Int32) (h : mH) : Option (Int32 × mH) :=
  (rcv h 0 a0).bind fun _ =>
  (f_X0_kindOf N a0 x1 x2 h).bind fun p1 =>
  (gI p1.2 0 a0 4).bind fun v2 =>
  (rcv p1.2 0 a0).bind fun _ =>
  (f_X0_rodStep N a0 p1.1 v2 p1.2).bind fun p3 =>
  if p3.1 = 0 then none else
  (gI p3.2 0 a0 4).bind fun v4 =>
  (rcv p3.2 0 a0).bind fun _ =>
  (f_X0_crossingsOf N a0 x1 p3.2).bind fun p5 =>
  (rcv p5.2 0 a0).bind fun _ =>
  (f_X0_rodsFor N a0 p1.1 v4 p5.1 p5.2).bind fun p6 =>
  some (iMin (iDiv x3 p3.1) (iSub p6.1 (jI 1)), p6.2)
def y_X0_rodAt : mM := (yX0_rodAt, cX0_rodAt, 5, (some .int))
def B_X0_rodAt : List (Nat × List mI) := []
def S_X0_rodAt_0 : List mI := [(.aload_n 0, 1, [0], []), (.iload_n 1, 1, [1], []), (.iload_n 2, 1, [2], []), (.invokevirtual 96, 3, [0, 10, 2, 0, 58], []), (.istore 4, 2, [4], []), (.iload_n 3, 1, [3], []), (.aload_n 0, 1, [0], []), (.iload 4, 2, [4], []), (.aload_n 0, 1, [0], []), (.getfield 21, 3, [0, 4, 0, 14], []), (.invokevirtual 93, 3, [0, 24, 2, 0, 59], []), (.idiv, 1, [], []), (.aload_n 0, 1, [0], []), (.iload 4, 2, [4], []), (.aload_n 0, 1, [0], []), (.getfield 21, 3, [0, 4, 0, 14], []), (.aload_n 0, 1, [0], []), (.iload_n 1, 1, [1], []), (.invokevirtual 61, 3, [0, 14, 1, 0, 56], []), (.invokevirtual 99, 3, [0, 25, 3, 0, 61], []), (.iconst 1, 1, [], [1]), (.isub, 1, [], []), (.invokestatic 87, 3, [7, 0, 0, 0, 17], []), (.ireturn, 1, [], [])]
theorem lb_X0_rodAt : B_X0_rodAt.all (fun b => lst y_X0_rodAt.2.1 0 y_X0_rodAt.2.2.1 false b.1 b.2) = true := by decide +kernel
theorem ls_X0_rodAt_0 : lst y_X0_rodAt.2.1 0 y_X0_rodAt.2.2.1 false 0 S_X0_rodAt_0 = true := by decide +kernel
def C_X0_rodAt (N : Nat) : Nat → List Value → mH → (Option Value → mH → Option (Int32 × mH)) → Option (Int32 × mH) := fun j as g k => kb j 10 (pr1 as fun b0 as => pp1 as fun b1 as => pp1 as fun b2 as => pe as ((f_X0_kindOf N b0 b1 b2 g).bind fun p => k (some (.int p.1)) p.2)) (kb j 24 (pr1 as fun b0 as => pp1 as fun b1 as => pp1 as fun b2 as => pe as ((f_X0_rodStep N b0 b1 b2 g).bind fun p => k (some (.int p.1)) p.2)) (kb j 14 (pr1 as fun b0 as => pp1 as fun b1 as => pe as ((f_X0_crossingsOf N b0 b1 g).bind fun p => k (some (.int p.1)) p.2)) (kb j 25 (pr1 as fun b0 as => pp1 as fun b1 as => pp1 as fun b2 as => pp1 as fun b3 as => pe as ((f_X0_rodsFor N b0 b1 b2 b3 g).bind fun p => k (some (.int p.1)) p.2)) (none))))
theorem co_X0_rodAt (N : Nat) (q : Int32 × mH) : clOK 7 q (C_X0_rodAt N) := by
  intro j as g k e
  rcases kb_s e with ⟨rfl, e⟩ | e
  · obtain ⟨b0, r0, q0, f0⟩ := pr1_s e
    obtain ⟨b1, r1, q1, f1⟩ := pp1_s f0
    obtain ⟨b2, r2, q2, f2⟩ := pp1_s f1
    obtain ⟨qe, fe⟩ := pe_s f2
    obtain ⟨p, e1, e2⟩ := bnd_s fe
    subst qe
    subst q2
    subst q1
    subst q0
    exact ⟨_, _, _, _, 5, rfl, (by decide), m_X0_kindOf N e1, e2⟩
  rcases kb_s e with ⟨rfl, e⟩ | e
  · obtain ⟨b0, r0, q0, f0⟩ := pr1_s e
    obtain ⟨b1, r1, q1, f1⟩ := pp1_s f0
    obtain ⟨b2, r2, q2, f2⟩ := pp1_s f1
    obtain ⟨qe, fe⟩ := pe_s f2
    obtain ⟨p, e1, e2⟩ := bnd_s fe
    subst qe
    subst q2
    subst q1
    subst q0
    exact ⟨_, _, _, _, 5, rfl, (by decide), m_X0_rodStep N e1, e2⟩
  rcases kb_s e with ⟨rfl, e⟩ | e
  · obtain ⟨b0, r0, q0, f0⟩ := pr1_s e
    obtain ⟨b1, r1, q1, f1⟩ := pp1_s f0
    obtain ⟨qe, fe⟩ := pe_s f1
    obtain ⟨p, e1, e2⟩ := bnd_s fe
    subst qe
    subst q1
    subst q0
    exact ⟨_, _, _, _, 5, rfl, (by decide), m_X0_crossingsOf N e1, e2⟩
  rcases kb_s e with ⟨rfl, e⟩ | e
  · obtain ⟨b0, r0, q0, f0⟩ := pr1_s e
    obtain ⟨b1, r1, q1, f1⟩ := pp1_s f0
    obtain ⟨b2, r2, q2, f2⟩ := pp1_s f1
    obtain ⟨b3, r3, q3, f3⟩ := pp1_s f2
    obtain ⟨qe, fe⟩ := pe_s f3
    obtain ⟨p, e1, e2⟩ := bnd_s fe
    subst qe
    subst q3
    subst q2
    subst q1
    subst q0
    exact ⟨_, _, _, _, 6, rfl, (by decide), m_X0_rodsFor N e1, e2⟩
  cases e
set_option maxRecDepth 100000 in
theorem m_X0_rodAt (N : Nat) {a0 : Nat} {x1 : Int32} {x2 : Int32} {x3 : Int32} {h : mH} {q : Int32 × mH} (hf : f_X0_rodAt N a0 x1 x2 x3 h = some q) : MM y_X0_rodAt 7 [.ref a0, .int x1, .int x2, .int x3] h (some (.int q.1)) q.2 := by
  refine MM.of (mFx (j := 26) rfl).2.2.2.1 (Nat.le_of_ble_eq_true rfl) (fun X => ?_)
  refine ev_ok (o := 0) (ini := false) (Cl := C_X0_rodAt N) (Rc := RcI) (B := B_X0_rodAt) (K := fun pc ls st g => none) rfl (fun e => by cases e) (by decide) (rcI_ok rfl) ?_ (co_X0_rodAt N q) lb_X0_rodAt 3000 0 S_X0_rodAt_0 _ _ h ls_X0_rodAt_0 hf
  intro pc ls st g e
  cases e
def L_X0_weaversOfKind_5 (N : Nat) : Nat → Nat → Int32 → Int32 → Int32 → Int32 → mH → Option (Int32 × mH)
  | 0, _, _, _, _, _, _ => none
  | n + 1, a0, x1, x2, x3, x4, h =>
    (rcv h 0 a0).bind fun _ =>
    (f_X0_ofBand N a0 x1 (jI 0) h).bind fun p1 =>
    if x4 < p1.1 then
      (rcv p1.2 0 a0).bind fun _ =>
      (f_X0_kindOf N a0 x1 x4 p1.2).bind fun p2 =>
      if p2.1 = x2 then
        let w3 := iAdd x3 (jI 1)
        let w4 := iAdd x4 (jI 1)
        L_X0_weaversOfKind_5 N n a0 x1 x2 w3 w4 p2.2
      else
        let w5 := iAdd x4 (jI 1)
        L_X0_weaversOfKind_5 N n a0 x1 x2 x3 w5 p2.2
    else
      some (x3, p1.2)
def f_X0_weaversOfKind (N : Nat) (a0 : Nat) (x1 : Int32) (x2 : Int32) (h : mH) : Option (Int32 × mH) :=
  L_X0_weaversOfKind_5 N N a0 x1 x2 (jI 0) (jI 0) h
def y_X0_weaversOfKind : mM := (yX0_weaversOfKind, cX0_weaversOfKind, 5, (some .int))
def B_X0_weaversOfKind : List (Nat × List mI) := [(30, [(.iinc 4 1, 3, [4], [1]), (.goto (-28), 3, [5], [])]), (36, [(.iload_n 3, 1, [3], []), (.ireturn, 1, [], [])])]
def S_X0_weaversOfKind_0 : List mI := [(.iconst 0, 1, [], [0]), (.istore_n 3, 1, [3], []), (.iconst 0, 1, [], [0]), (.istore 4, 2, [4], [])]
def S_X0_weaversOfKind_5 : List mI := [(.iload 4, 2, [4], []), (.aload_n 0, 1, [0], []), (.iload_n 1, 1, [1], []), (.iconst 0, 1, [], [0]), (.invokevirtual 53, 3, [0, 9, 2, 0, 33], []), (.if_icmp .ge 23, 3, [36], []), (.aload_n 0, 1, [0], []), (.iload_n 1, 1, [1], []), (.iload 4, 2, [4], []), (.invokevirtual 96, 3, [0, 10, 2, 0, 58], []), (.iload_n 2, 1, [2], []), (.if_icmp .ne 6, 3, [30], []), (.iinc 3 1, 3, [3], [1])]
theorem lb_X0_weaversOfKind : B_X0_weaversOfKind.all (fun b => lst y_X0_weaversOfKind.2.1 0 y_X0_weaversOfKind.2.2.1 false b.1 b.2) = true := by decide +kernel
theorem ls_X0_weaversOfKind_0 : lst y_X0_weaversOfKind.2.1 0 y_X0_weaversOfKind.2.2.1 false 0 S_X0_weaversOfKind_0 = true := by decide +kernel
theorem ls_X0_weaversOfKind_5 : lst y_X0_weaversOfKind.2.1 0 y_X0_weaversOfKind.2.2.1 false 5 S_X0_weaversOfKind_5 = true := by decide +kernel
def C_X0_weaversOfKind (N : Nat) : Nat → List Value → mH → (Option Value → mH → Option (Int32 × mH)) → Option (Int32 × mH) := fun j as g k => kb j 9 (pr1 as fun b0 as => pp1 as fun b1 as => pp1 as fun b2 as => pe as ((f_X0_ofBand N b0 b1 b2 g).bind fun p => k (some (.int p.1)) p.2)) (kb j 10 (pr1 as fun b0 as => pp1 as fun b1 as => pp1 as fun b2 as => pe as ((f_X0_kindOf N b0 b1 b2 g).bind fun p => k (some (.int p.1)) p.2)) (none))
theorem co_X0_weaversOfKind (N : Nat) (q : Int32 × mH) : clOK 6 q (C_X0_weaversOfKind N) := by
  intro j as g k e
  rcases kb_s e with ⟨rfl, e⟩ | e
  · obtain ⟨b0, r0, q0, f0⟩ := pr1_s e
    obtain ⟨b1, r1, q1, f1⟩ := pp1_s f0
    obtain ⟨b2, r2, q2, f2⟩ := pp1_s f1
    obtain ⟨qe, fe⟩ := pe_s f2
    obtain ⟨p, e1, e2⟩ := bnd_s fe
    subst qe
    subst q2
    subst q1
    subst q0
    exact ⟨_, _, _, _, 4, rfl, (by decide), m_X0_ofBand N e1, e2⟩
  rcases kb_s e with ⟨rfl, e⟩ | e
  · obtain ⟨b0, r0, q0, f0⟩ := pr1_s e
    obtain ⟨b1, r1, q1, f1⟩ := pp1_s f0
    obtain ⟨b2, r2, q2, f2⟩ := pp1_s f1
    obtain ⟨qe, fe⟩ := pe_s f2
    obtain ⟨p, e1, e2⟩ := bnd_s fe
    subst qe
    subst q2
    subst q1
    subst q0
    exact ⟨_, _, _, _, 5, rfl, (by decide), m_X0_kindOf N e1, e2⟩
  cases e
set_option maxRecDepth 100000 in
theorem t_X0_weaversOfKind_5 {X : Nat × (Nat → Int32)} (N : Nat) {q : Int32 × mH} : ∀ (n : Nat) (a0 : Nat) (x1 : Int32) (x2 : Int32) (x3 : Int32) (x4 : Int32) (h : mH), L_X0_weaversOfKind_5 N n a0 x1 x2 x3 x4 h = some q → MW X y_X0_weaversOfKind 6 5 [(0, .ref a0), (1, .int x1), (2, .int x2), (3, .int x3), (4, .int x4)] [] h (some (.int q.1)) q.2 := by
  intro n
  induction n with
  | zero => intro a0 x1 x2 x3 x4 h hf; cases hf
  | succ n ih =>
    intro a0 x1 x2 x3 x4 h hf
    refine ev_ok (o := 0) (ini := false) (Cl := C_X0_weaversOfKind N) (Rc := RcI) (B := B_X0_weaversOfKind) (K := fun pc ls st g => kb pc 5 (lgr 0 ls fun a0 => lgi 1 ls fun x1 => lgi 2 ls fun x2 => lgi 3 ls fun x3 => lgi 4 ls fun x4 => pe st (L_X0_weaversOfKind_5 N n a0 x1 x2 x3 x4 g)) (none)) rfl (fun e => by cases e) (by decide) (rcI_ok rfl) ?_ (co_X0_weaversOfKind N q) lb_X0_weaversOfKind 3000 5 S_X0_weaversOfKind_5 _ _ h ls_X0_weaversOfKind_5 hf
    intro pc ls st g e
    rcases kb_s e with ⟨rfl, e⟩ | e
    · obtain ⟨a0, e0, f0⟩ := lgr_s e
      obtain ⟨x1, e1, f1⟩ := lgi_s f0
      obtain ⟨x2, e2, f2⟩ := lgi_s f1
      obtain ⟨x3, e3, f3⟩ := lgi_s f2
      obtain ⟨x4, e4, f4⟩ := lgi_s f3
      obtain ⟨qe, fe⟩ := pe_s f4
      subst qe
      exact MW.sub (List.forall_mem_cons.mpr ⟨lg_mem e0, List.forall_mem_cons.mpr ⟨lg_mem e1, List.forall_mem_cons.mpr ⟨lg_mem e2, List.forall_mem_cons.mpr ⟨lg_mem e3, List.forall_mem_cons.mpr ⟨lg_mem e4, fun _ h => absurd h List.not_mem_nil⟩⟩⟩⟩⟩) (ih a0 x1 x2 x3 x4 g fe)
    cases e
set_option maxRecDepth 100000 in
theorem m_X0_weaversOfKind (N : Nat) {a0 : Nat} {x1 : Int32} {x2 : Int32} {h : mH} {q : Int32 × mH} (hf : f_X0_weaversOfKind N a0 x1 x2 h = some q) : MM y_X0_weaversOfKind 6 [.ref a0, .int x1, .int x2] h (some (.int q.1)) q.2 := by
  refine MM.of (mFx (j := 27) rfl).2.2.2.1 (Nat.le_of_ble_eq_true rfl) (fun X => ?_)
  refine ev_ok (o := 0) (ini := false) (Cl := C_X0_weaversOfKind N) (Rc := RcI) (B := B_X0_weaversOfKind) (K := fun pc ls st g => kb pc 5 (lgr 0 ls fun a0 => lgi 1 ls fun x1 => lgi 2 ls fun x2 => lgi 3 ls fun x3 => lgi 4 ls fun x4 => pe st (L_X0_weaversOfKind_5 N N a0 x1 x2 x3 x4 g)) (none)) rfl (fun e => by cases e) (by decide) (rcI_ok rfl) ?_ (co_X0_weaversOfKind N q) lb_X0_weaversOfKind 3000 0 S_X0_weaversOfKind_0 _ _ h ls_X0_weaversOfKind_0 hf
  intro pc ls st g e
  rcases kb_s e with ⟨rfl, e⟩ | e
  · obtain ⟨a0, e0, f0⟩ := lgr_s e
    obtain ⟨x1, e1, f1⟩ := lgi_s f0
    obtain ⟨x2, e2, f2⟩ := lgi_s f1
    obtain ⟨x3, e3, f3⟩ := lgi_s f2
    obtain ⟨x4, e4, f4⟩ := lgi_s f3
    obtain ⟨qe, fe⟩ := pe_s f4
    subst qe
    exact MW.sub (List.forall_mem_cons.mpr ⟨lg_mem e0, List.forall_mem_cons.mpr ⟨lg_mem e1, List.forall_mem_cons.mpr ⟨lg_mem e2, List.forall_mem_cons.mpr ⟨lg_mem e3, List.forall_mem_cons.mpr ⟨lg_mem e4, fun _ h => absurd h List.not_mem_nil⟩⟩⟩⟩⟩) (t_X0_weaversOfKind_5 N N a0 x1 x2 x3 x4 g fe)
  cases e
def L_X0_rodsTaken_4 (N : Nat) : Nat → Nat → Int32 → Int32 → Int32 → mH → Option (Int32 × mH)
  | 0, _, _, _, _, _ => none
  | n + 1, a0, x1, x2, x3, h =>
    (gI h 0 a0 2).bind fun v1 =>
    if x3 < v1 then
      (rcv h 0 a0).bind fun _ =>
      (f_X0_weaversOfKind N a0 x3 x1 h).bind fun p2 =>
      (gI p2.2 0 a0 4).bind fun v3 =>
      (rcv p2.2 0 a0).bind fun _ =>
      (f_X0_crossingsOf N a0 x3 p2.2).bind fun p4 =>
      (rcv p4.2 0 a0).bind fun _ =>
      (f_X0_rodsFor N a0 x1 v3 p4.1 p4.2).bind fun p5 =>
      let w6 := iAdd x2 (iMul p2.1 p5.1)
      let w7 := iAdd x3 (jI 1)
      L_X0_rodsTaken_4 N n a0 x1 w6 w7 p5.2
    else
      some (x2, h)
def f_X0_rodsTaken (N : Nat) (a0 : Nat) (x1 : Int32) (h : mH) : Option (Int32 × mH) :=
  L_X0_rodsTaken_4 N N a0 x1 (jI 0) (jI 0) h
def y_X0_rodsTaken : mM := (yX0_rodsTaken, cX0_rodsTaken, 4, (some .int))
def B_X0_rodsTaken : List (Nat × List mI) := [(42, [(.iload_n 2, 1, [2], []), (.ireturn, 1, [], [])])]
def S_X0_rodsTaken_0 : List mI := [(.iconst 0, 1, [], [0]), (.istore_n 2, 1, [2], []), (.iconst 0, 1, [], [0]), (.istore_n 3, 1, [3], [])]
def S_X0_rodsTaken_4 : List mI := [(.iload_n 3, 1, [3], []), (.aload_n 0, 1, [0], []), (.getfield 34, 3, [0, 2, 0, 7], []), (.if_icmp .ge 33, 3, [42], []), (.iload_n 2, 1, [2], []), (.aload_n 0, 1, [0], []), (.iload_n 3, 1, [3], []), (.iload_n 1, 1, [1], []), (.invokevirtual 102, 3, [0, 27, 2, 0, 156], []), (.aload_n 0, 1, [0], []), (.iload_n 1, 1, [1], []), (.aload_n 0, 1, [0], []), (.getfield 21, 3, [0, 4, 0, 14], []), (.aload_n 0, 1, [0], []), (.iload_n 3, 1, [3], []), (.invokevirtual 61, 3, [0, 14, 1, 0, 56], []), (.invokevirtual 99, 3, [0, 25, 3, 0, 61], []), (.imul, 1, [], []), (.iadd, 1, [], []), (.istore_n 2, 1, [2], []), (.iinc 3 1, 3, [3], [1]), (.goto (-35), 3, [4], [])]
theorem lb_X0_rodsTaken : B_X0_rodsTaken.all (fun b => lst y_X0_rodsTaken.2.1 0 y_X0_rodsTaken.2.2.1 false b.1 b.2) = true := by decide +kernel
theorem ls_X0_rodsTaken_0 : lst y_X0_rodsTaken.2.1 0 y_X0_rodsTaken.2.2.1 false 0 S_X0_rodsTaken_0 = true := by decide +kernel
theorem ls_X0_rodsTaken_4 : lst y_X0_rodsTaken.2.1 0 y_X0_rodsTaken.2.2.1 false 4 S_X0_rodsTaken_4 = true := by decide +kernel
def C_X0_rodsTaken (N : Nat) : Nat → List Value → mH → (Option Value → mH → Option (Int32 × mH)) → Option (Int32 × mH) := fun j as g k => kb j 27 (pr1 as fun b0 as => pp1 as fun b1 as => pp1 as fun b2 as => pe as ((f_X0_weaversOfKind N b0 b1 b2 g).bind fun p => k (some (.int p.1)) p.2)) (kb j 14 (pr1 as fun b0 as => pp1 as fun b1 as => pe as ((f_X0_crossingsOf N b0 b1 g).bind fun p => k (some (.int p.1)) p.2)) (kb j 25 (pr1 as fun b0 as => pp1 as fun b1 as => pp1 as fun b2 as => pp1 as fun b3 as => pe as ((f_X0_rodsFor N b0 b1 b2 b3 g).bind fun p => k (some (.int p.1)) p.2)) (none)))
theorem co_X0_rodsTaken (N : Nat) (q : Int32 × mH) : clOK 7 q (C_X0_rodsTaken N) := by
  intro j as g k e
  rcases kb_s e with ⟨rfl, e⟩ | e
  · obtain ⟨b0, r0, q0, f0⟩ := pr1_s e
    obtain ⟨b1, r1, q1, f1⟩ := pp1_s f0
    obtain ⟨b2, r2, q2, f2⟩ := pp1_s f1
    obtain ⟨qe, fe⟩ := pe_s f2
    obtain ⟨p, e1, e2⟩ := bnd_s fe
    subst qe
    subst q2
    subst q1
    subst q0
    exact ⟨_, _, _, _, 6, rfl, (by decide), m_X0_weaversOfKind N e1, e2⟩
  rcases kb_s e with ⟨rfl, e⟩ | e
  · obtain ⟨b0, r0, q0, f0⟩ := pr1_s e
    obtain ⟨b1, r1, q1, f1⟩ := pp1_s f0
    obtain ⟨qe, fe⟩ := pe_s f1
    obtain ⟨p, e1, e2⟩ := bnd_s fe
    subst qe
    subst q1
    subst q0
    exact ⟨_, _, _, _, 5, rfl, (by decide), m_X0_crossingsOf N e1, e2⟩
  rcases kb_s e with ⟨rfl, e⟩ | e
  · obtain ⟨b0, r0, q0, f0⟩ := pr1_s e
    obtain ⟨b1, r1, q1, f1⟩ := pp1_s f0
    obtain ⟨b2, r2, q2, f2⟩ := pp1_s f1
    obtain ⟨b3, r3, q3, f3⟩ := pp1_s f2
    obtain ⟨qe, fe⟩ := pe_s f3
    obtain ⟨p, e1, e2⟩ := bnd_s fe
    subst qe
    subst q3
    subst q2
    subst q1
    subst q0
    exact ⟨_, _, _, _, 6, rfl, (by decide), m_X0_rodsFor N e1, e2⟩
  cases e
set_option maxRecDepth 100000 in
theorem t_X0_rodsTaken_4 {X : Nat × (Nat → Int32)} (N : Nat) {q : Int32 × mH} : ∀ (n : Nat) (a0 : Nat) (x1 : Int32) (x2 : Int32) (x3 : Int32) (h : mH), L_X0_rodsTaken_4 N n a0 x1 x2 x3 h = some q → MW X y_X0_rodsTaken 7 4 [(0, .ref a0), (1, .int x1), (2, .int x2), (3, .int x3)] [] h (some (.int q.1)) q.2 := by
  intro n
  induction n with
  | zero => intro a0 x1 x2 x3 h hf; cases hf
  | succ n ih =>
    intro a0 x1 x2 x3 h hf
    refine ev_ok (o := 0) (ini := false) (Cl := C_X0_rodsTaken N) (Rc := RcI) (B := B_X0_rodsTaken) (K := fun pc ls st g => kb pc 4 (lgr 0 ls fun a0 => lgi 1 ls fun x1 => lgi 2 ls fun x2 => lgi 3 ls fun x3 => pe st (L_X0_rodsTaken_4 N n a0 x1 x2 x3 g)) (none)) rfl (fun e => by cases e) (by decide) (rcI_ok rfl) ?_ (co_X0_rodsTaken N q) lb_X0_rodsTaken 3000 4 S_X0_rodsTaken_4 _ _ h ls_X0_rodsTaken_4 hf
    intro pc ls st g e
    rcases kb_s e with ⟨rfl, e⟩ | e
    · obtain ⟨a0, e0, f0⟩ := lgr_s e
      obtain ⟨x1, e1, f1⟩ := lgi_s f0
      obtain ⟨x2, e2, f2⟩ := lgi_s f1
      obtain ⟨x3, e3, f3⟩ := lgi_s f2
      obtain ⟨qe, fe⟩ := pe_s f3
      subst qe
      exact MW.sub (List.forall_mem_cons.mpr ⟨lg_mem e0, List.forall_mem_cons.mpr ⟨lg_mem e1, List.forall_mem_cons.mpr ⟨lg_mem e2, List.forall_mem_cons.mpr ⟨lg_mem e3, fun _ h => absurd h List.not_mem_nil⟩⟩⟩⟩) (ih a0 x1 x2 x3 g fe)
    cases e
set_option maxRecDepth 100000 in
theorem m_X0_rodsTaken (N : Nat) {a0 : Nat} {x1 : Int32} {h : mH} {q : Int32 × mH} (hf : f_X0_rodsTaken N a0 x1 h = some q) : MM y_X0_rodsTaken 7 [.ref a0, .int x1] h (some (.int q.1)) q.2 := by
  refine MM.of (mFx (j := 28) rfl).2.2.2.1 (Nat.le_of_ble_eq_true rfl) (fun X => ?_)
  refine ev_ok (o := 0) (ini := false) (Cl := C_X0_rodsTaken N) (Rc := RcI) (B := B_X0_rodsTaken) (K := fun pc ls st g => kb pc 4 (lgr 0 ls fun a0 => lgi 1 ls fun x1 => lgi 2 ls fun x2 => lgi 3 ls fun x3 => pe st (L_X0_rodsTaken_4 N N a0 x1 x2 x3 g)) (none)) rfl (fun e => by cases e) (by decide) (rcI_ok rfl) ?_ (co_X0_rodsTaken N q) lb_X0_rodsTaken 3000 0 S_X0_rodsTaken_0 _ _ h ls_X0_rodsTaken_0 hf
  intro pc ls st g e
  rcases kb_s e with ⟨rfl, e⟩ | e
  · obtain ⟨a0, e0, f0⟩ := lgr_s e
    obtain ⟨x1, e1, f1⟩ := lgi_s f0
    obtain ⟨x2, e2, f2⟩ := lgi_s f1
    obtain ⟨x3, e3, f3⟩ := lgi_s f2
    obtain ⟨qe, fe⟩ := pe_s f3
    subst qe
    exact MW.sub (List.forall_mem_cons.mpr ⟨lg_mem e0, List.forall_mem_cons.mpr ⟨lg_mem e1, List.forall_mem_cons.mpr ⟨lg_mem e2, List.forall_mem_cons.mpr ⟨lg_mem e3, fun _ h => absurd h List.not_mem_nil⟩⟩⟩⟩) (t_X0_rodsTaken_4 N N a0 x1 x2 x3 g fe)
  cases e
def L_X0_leftOver_4 (N : Nat) : Nat → Nat → Int32 → Int32 → Int32 → mH → Option (Int32 × mH)
  | 0, _, _, _, _, _ => none
  | n + 1, a0, x1, x2, x3, h =>
    (gI h 0 a0 2).bind fun v1 =>
    if x3 < v1 then
      (gI h 0 a0 4).bind fun v2 =>
      (rcv h 0 a0).bind fun _ =>
      (f_X0_crossingsOf N a0 x3 h).bind fun p3 =>
      (rcv p3.2 0 a0).bind fun _ =>
      (f_X0_rodsFor N a0 x1 v2 p3.1 p3.2).bind fun p4 =>
      (gI p4.2 0 a0 4).bind fun v5 =>
      (rcv p4.2 0 a0).bind fun _ =>
      (f_X0_rodStep N a0 x1 v5 p4.2).bind fun p6 =>
      let w7 := iMul (iSub p4.1 (jI 1)) p6.1
      (rcv p6.2 0 a0).bind fun _ =>
      (f_X0_ofKind N a0 x1 (jI 0) p6.2).bind fun p8 =>
      (rcv p8.2 0 a0).bind fun _ =>
      (f_X0_crossingsOf N a0 x3 p8.2).bind fun p9 =>
      let w10 := iSub (iAdd w7 p8.1) p9.1
      (rcv p9.2 0 a0).bind fun _ =>
      (f_X0_weaversOfKind N a0 x3 x1 p9.2).bind fun p11 =>
      let w12 := iAdd x2 (iMul p11.1 w10)
      let w13 := iAdd x3 (jI 1)
      L_X0_leftOver_4 N n a0 x1 w12 w13 p11.2
    else
      some (x2, h)
def f_X0_leftOver (N : Nat) (a0 : Nat) (x1 : Int32) (h : mH) : Option (Int32 × mH) :=
  L_X0_leftOver_4 N N a0 x1 (jI 0) (jI 0) h
def y_X0_leftOver : mM := (yX0_leftOver, cX0_leftOver, 6, (some .int))
def B_X0_leftOver : List (Nat × List mI) := [(75, [(.iload_n 2, 1, [2], []), (.ireturn, 1, [], [])])]
def S_X0_leftOver_0 : List mI := [(.iconst 0, 1, [], [0]), (.istore_n 2, 1, [2], []), (.iconst 0, 1, [], [0]), (.istore_n 3, 1, [3], [])]
def S_X0_leftOver_4 : List mI := [(.iload_n 3, 1, [3], []), (.aload_n 0, 1, [0], []), (.getfield 34, 3, [0, 2, 0, 7], []), (.if_icmp .ge 66, 3, [75], []), (.aload_n 0, 1, [0], []), (.iload_n 1, 1, [1], []), (.aload_n 0, 1, [0], []), (.getfield 21, 3, [0, 4, 0, 14], []), (.aload_n 0, 1, [0], []), (.iload_n 3, 1, [3], []), (.invokevirtual 61, 3, [0, 14, 1, 0, 56], []), (.invokevirtual 99, 3, [0, 25, 3, 0, 61], []), (.iconst 1, 1, [], [1]), (.isub, 1, [], []), (.aload_n 0, 1, [0], []), (.iload_n 1, 1, [1], []), (.aload_n 0, 1, [0], []), (.getfield 21, 3, [0, 4, 0, 14], []), (.invokevirtual 93, 3, [0, 24, 2, 0, 59], []), (.imul, 1, [], []), (.istore 4, 2, [4], []), (.iload 4, 2, [4], []), (.aload_n 0, 1, [0], []), (.iload_n 1, 1, [1], []), (.iconst 0, 1, [], [0]), (.invokevirtual 90, 3, [0, 8, 2, 0, 60], []), (.iadd, 1, [], []), (.aload_n 0, 1, [0], []), (.iload_n 3, 1, [3], []), (.invokevirtual 61, 3, [0, 14, 1, 0, 56], []), (.isub, 1, [], []), (.istore 5, 2, [5], []), (.iload_n 2, 1, [2], []), (.aload_n 0, 1, [0], []), (.iload_n 3, 1, [3], []), (.iload_n 1, 1, [1], []), (.invokevirtual 102, 3, [0, 27, 2, 0, 156], []), (.iload 5, 2, [5], []), (.imul, 1, [], []), (.iadd, 1, [], []), (.istore_n 2, 1, [2], []), (.iinc 3 1, 3, [3], [1]), (.goto (-68), 3, [4], [])]
theorem lb_X0_leftOver : B_X0_leftOver.all (fun b => lst y_X0_leftOver.2.1 0 y_X0_leftOver.2.2.1 false b.1 b.2) = true := by decide +kernel
theorem ls_X0_leftOver_0 : lst y_X0_leftOver.2.1 0 y_X0_leftOver.2.2.1 false 0 S_X0_leftOver_0 = true := by decide +kernel
theorem ls_X0_leftOver_4 : lst y_X0_leftOver.2.1 0 y_X0_leftOver.2.2.1 false 4 S_X0_leftOver_4 = true := by decide +kernel
def C_X0_leftOver (N : Nat) : Nat → List Value → mH → (Option Value → mH → Option (Int32 × mH)) → Option (Int32 × mH) := fun j as g k => kb j 14 (pr1 as fun b0 as => pp1 as fun b1 as => pe as ((f_X0_crossingsOf N b0 b1 g).bind fun p => k (some (.int p.1)) p.2)) (kb j 25 (pr1 as fun b0 as => pp1 as fun b1 as => pp1 as fun b2 as => pp1 as fun b3 as => pe as ((f_X0_rodsFor N b0 b1 b2 b3 g).bind fun p => k (some (.int p.1)) p.2)) (kb j 24 (pr1 as fun b0 as => pp1 as fun b1 as => pp1 as fun b2 as => pe as ((f_X0_rodStep N b0 b1 b2 g).bind fun p => k (some (.int p.1)) p.2)) (kb j 8 (pr1 as fun b0 as => pp1 as fun b1 as => pp1 as fun b2 as => pe as ((f_X0_ofKind N b0 b1 b2 g).bind fun p => k (some (.int p.1)) p.2)) (kb j 27 (pr1 as fun b0 as => pp1 as fun b1 as => pp1 as fun b2 as => pe as ((f_X0_weaversOfKind N b0 b1 b2 g).bind fun p => k (some (.int p.1)) p.2)) (none)))))
theorem co_X0_leftOver (N : Nat) (q : Int32 × mH) : clOK 7 q (C_X0_leftOver N) := by
  intro j as g k e
  rcases kb_s e with ⟨rfl, e⟩ | e
  · obtain ⟨b0, r0, q0, f0⟩ := pr1_s e
    obtain ⟨b1, r1, q1, f1⟩ := pp1_s f0
    obtain ⟨qe, fe⟩ := pe_s f1
    obtain ⟨p, e1, e2⟩ := bnd_s fe
    subst qe
    subst q1
    subst q0
    exact ⟨_, _, _, _, 5, rfl, (by decide), m_X0_crossingsOf N e1, e2⟩
  rcases kb_s e with ⟨rfl, e⟩ | e
  · obtain ⟨b0, r0, q0, f0⟩ := pr1_s e
    obtain ⟨b1, r1, q1, f1⟩ := pp1_s f0
    obtain ⟨b2, r2, q2, f2⟩ := pp1_s f1
    obtain ⟨b3, r3, q3, f3⟩ := pp1_s f2
    obtain ⟨qe, fe⟩ := pe_s f3
    obtain ⟨p, e1, e2⟩ := bnd_s fe
    subst qe
    subst q3
    subst q2
    subst q1
    subst q0
    exact ⟨_, _, _, _, 6, rfl, (by decide), m_X0_rodsFor N e1, e2⟩
  rcases kb_s e with ⟨rfl, e⟩ | e
  · obtain ⟨b0, r0, q0, f0⟩ := pr1_s e
    obtain ⟨b1, r1, q1, f1⟩ := pp1_s f0
    obtain ⟨b2, r2, q2, f2⟩ := pp1_s f1
    obtain ⟨qe, fe⟩ := pe_s f2
    obtain ⟨p, e1, e2⟩ := bnd_s fe
    subst qe
    subst q2
    subst q1
    subst q0
    exact ⟨_, _, _, _, 5, rfl, (by decide), m_X0_rodStep N e1, e2⟩
  rcases kb_s e with ⟨rfl, e⟩ | e
  · obtain ⟨b0, r0, q0, f0⟩ := pr1_s e
    obtain ⟨b1, r1, q1, f1⟩ := pp1_s f0
    obtain ⟨b2, r2, q2, f2⟩ := pp1_s f1
    obtain ⟨qe, fe⟩ := pe_s f2
    obtain ⟨p, e1, e2⟩ := bnd_s fe
    subst qe
    subst q2
    subst q1
    subst q0
    exact ⟨_, _, _, _, 4, rfl, (by decide), m_X0_ofKind N e1, e2⟩
  rcases kb_s e with ⟨rfl, e⟩ | e
  · obtain ⟨b0, r0, q0, f0⟩ := pr1_s e
    obtain ⟨b1, r1, q1, f1⟩ := pp1_s f0
    obtain ⟨b2, r2, q2, f2⟩ := pp1_s f1
    obtain ⟨qe, fe⟩ := pe_s f2
    obtain ⟨p, e1, e2⟩ := bnd_s fe
    subst qe
    subst q2
    subst q1
    subst q0
    exact ⟨_, _, _, _, 6, rfl, (by decide), m_X0_weaversOfKind N e1, e2⟩
  cases e
set_option maxRecDepth 100000 in
theorem t_X0_leftOver_4 {X : Nat × (Nat → Int32)} (N : Nat) {q : Int32 × mH} : ∀ (n : Nat) (a0 : Nat) (x1 : Int32) (x2 : Int32) (x3 : Int32) (h : mH), L_X0_leftOver_4 N n a0 x1 x2 x3 h = some q → MW X y_X0_leftOver 7 4 [(0, .ref a0), (1, .int x1), (2, .int x2), (3, .int x3)] [] h (some (.int q.1)) q.2 := by
  intro n
  induction n with
  | zero => intro a0 x1 x2 x3 h hf; cases hf
  | succ n ih =>
    intro a0 x1 x2 x3 h hf
    refine ev_ok (o := 0) (ini := false) (Cl := C_X0_leftOver N) (Rc := RcI) (B := B_X0_leftOver) (K := fun pc ls st g => kb pc 4 (lgr 0 ls fun a0 => lgi 1 ls fun x1 => lgi 2 ls fun x2 => lgi 3 ls fun x3 => pe st (L_X0_leftOver_4 N n a0 x1 x2 x3 g)) (none)) rfl (fun e => by cases e) (by decide) (rcI_ok rfl) ?_ (co_X0_leftOver N q) lb_X0_leftOver 3000 4 S_X0_leftOver_4 _ _ h ls_X0_leftOver_4 hf
    intro pc ls st g e
    rcases kb_s e with ⟨rfl, e⟩ | e
    · obtain ⟨a0, e0, f0⟩ := lgr_s e
      obtain ⟨x1, e1, f1⟩ := lgi_s f0
      obtain ⟨x2, e2, f2⟩ := lgi_s f1
      obtain ⟨x3, e3, f3⟩ := lgi_s f2
      obtain ⟨qe, fe⟩ := pe_s f3
      subst qe
      exact MW.sub (List.forall_mem_cons.mpr ⟨lg_mem e0, List.forall_mem_cons.mpr ⟨lg_mem e1, List.forall_mem_cons.mpr ⟨lg_mem e2, List.forall_mem_cons.mpr ⟨lg_mem e3, fun _ h => absurd h List.not_mem_nil⟩⟩⟩⟩) (ih a0 x1 x2 x3 g fe)
    cases e
set_option maxRecDepth 100000 in
theorem m_X0_leftOver (N : Nat) {a0 : Nat} {x1 : Int32} {h : mH} {q : Int32 × mH} (hf : f_X0_leftOver N a0 x1 h = some q) : MM y_X0_leftOver 7 [.ref a0, .int x1] h (some (.int q.1)) q.2 := by
  refine MM.of (mFx (j := 29) rfl).2.2.2.1 (Nat.le_of_ble_eq_true rfl) (fun X => ?_)
  refine ev_ok (o := 0) (ini := false) (Cl := C_X0_leftOver N) (Rc := RcI) (B := B_X0_leftOver) (K := fun pc ls st g => kb pc 4 (lgr 0 ls fun a0 => lgi 1 ls fun x1 => lgi 2 ls fun x2 => lgi 3 ls fun x3 => pe st (L_X0_leftOver_4 N N a0 x1 x2 x3 g)) (none)) rfl (fun e => by cases e) (by decide) (rcI_ok rfl) ?_ (co_X0_leftOver N q) lb_X0_leftOver 3000 0 S_X0_leftOver_0 _ _ h ls_X0_leftOver_0 hf
  intro pc ls st g e
  rcases kb_s e with ⟨rfl, e⟩ | e
  · obtain ⟨a0, e0, f0⟩ := lgr_s e
    obtain ⟨x1, e1, f1⟩ := lgi_s f0
    obtain ⟨x2, e2, f2⟩ := lgi_s f1
    obtain ⟨x3, e3, f3⟩ := lgi_s f2
    obtain ⟨qe, fe⟩ := pe_s f3
    subst qe
    exact MW.sub (List.forall_mem_cons.mpr ⟨lg_mem e0, List.forall_mem_cons.mpr ⟨lg_mem e1, List.forall_mem_cons.mpr ⟨lg_mem e2, List.forall_mem_cons.mpr ⟨lg_mem e3, fun _ h => absurd h List.not_mem_nil⟩⟩⟩⟩) (t_X0_leftOver_4 N N a0 x1 x2 x3 g fe)
  cases e
def L_X0_cheapestKind_7 (N : Nat) : Nat → Nat → Int32 → Int32 → Int32 → Int32 → mH → Option (Int32 × mH)
  | 0, _, _, _, _, _, _ => none
  | n + 1, a0, x1, x2, x3, x4, h =>
    (gI h 0 a0 1).bind fun v1 =>
    if x4 < v1 then
      (gI h 0 a0 4).bind fun v2 =>
      (rcv h 0 a0).bind fun _ =>
      (f_X0_crossingsOf N a0 x1 h).bind fun p3 =>
      (rcv p3.2 0 a0).bind fun _ =>
      (f_X0_rodsFor N a0 x4 v2 p3.1 p3.2).bind fun p4 =>
      (rcv p4.2 0 a0).bind fun _ =>
      (f_X0_ofKind N a0 x4 (jI 3) p4.2).bind fun p5 =>
      let w6 := iMul p4.1 p5.1
      if x4 = 0 then
        let w7 := iAdd x4 (jI 1)
        L_X0_cheapestKind_7 N n a0 x1 x4 w6 w7 p5.2
      else
        if w6 < x3 then
          let w8 := iAdd x4 (jI 1)
          L_X0_cheapestKind_7 N n a0 x1 x4 w6 w8 p5.2
        else
          let w9 := iAdd x4 (jI 1)
          L_X0_cheapestKind_7 N n a0 x1 x2 x3 w9 p5.2
    else
      some (x2, h)
def f_X0_cheapestKind (N : Nat) (a0 : Nat) (x1 : Int32) (h : mH) : Option (Int32 × mH) :=
  L_X0_cheapestKind_7 N N a0 x1 (jI 0) (jI 0) (jI 0) h
def y_X0_cheapestKind : mM := (yX0_cheapestKind, cX0_cheapestKind, 6, (some .int))
def B_X0_cheapestKind : List (Nat × List mI) := [(52, [(.iload 4, 2, [4], []), (.istore_n 2, 1, [2], []), (.iload 5, 2, [5], []), (.istore_n 3, 1, [3], [])]), (58, [(.iinc 4 1, 3, [4], [1]), (.goto (-54), 3, [7], [])]), (64, [(.iload_n 2, 1, [2], []), (.ireturn, 1, [], [])])]
def S_X0_cheapestKind_0 : List mI := [(.iconst 0, 1, [], [0]), (.istore_n 2, 1, [2], []), (.iconst 0, 1, [], [0]), (.istore_n 3, 1, [3], []), (.iconst 0, 1, [], [0]), (.istore 4, 2, [4], [])]
def S_X0_cheapestKind_7 : List mI := [(.iload 4, 2, [4], []), (.aload_n 0, 1, [0], []), (.getfield 31, 3, [0, 1, 0, 4], []), (.if_icmp .ge 51, 3, [64], []), (.aload_n 0, 1, [0], []), (.iload 4, 2, [4], []), (.aload_n 0, 1, [0], []), (.getfield 21, 3, [0, 4, 0, 14], []), (.aload_n 0, 1, [0], []), (.iload_n 1, 1, [1], []), (.invokevirtual 61, 3, [0, 14, 1, 0, 56], []), (.invokevirtual 99, 3, [0, 25, 3, 0, 61], []), (.aload_n 0, 1, [0], []), (.iload 4, 2, [4], []), (.iconst 3, 1, [], [3]), (.invokevirtual 90, 3, [0, 8, 2, 0, 60], []), (.imul, 1, [], []), (.istore 5, 2, [5], []), (.iload 4, 2, [4], []), (.ifCond .eq 9, 3, [52], []), (.iload 5, 2, [5], []), (.iload_n 3, 1, [3], []), (.if_icmp .ge 9, 3, [58], [])]
theorem lb_X0_cheapestKind : B_X0_cheapestKind.all (fun b => lst y_X0_cheapestKind.2.1 0 y_X0_cheapestKind.2.2.1 false b.1 b.2) = true := by decide +kernel
theorem ls_X0_cheapestKind_0 : lst y_X0_cheapestKind.2.1 0 y_X0_cheapestKind.2.2.1 false 0 S_X0_cheapestKind_0 = true := by decide +kernel
theorem ls_X0_cheapestKind_7 : lst y_X0_cheapestKind.2.1 0 y_X0_cheapestKind.2.2.1 false 7 S_X0_cheapestKind_7 = true := by decide +kernel
def C_X0_cheapestKind (N : Nat) : Nat → List Value → mH → (Option Value → mH → Option (Int32 × mH)) → Option (Int32 × mH) := fun j as g k => kb j 14 (pr1 as fun b0 as => pp1 as fun b1 as => pe as ((f_X0_crossingsOf N b0 b1 g).bind fun p => k (some (.int p.1)) p.2)) (kb j 25 (pr1 as fun b0 as => pp1 as fun b1 as => pp1 as fun b2 as => pp1 as fun b3 as => pe as ((f_X0_rodsFor N b0 b1 b2 b3 g).bind fun p => k (some (.int p.1)) p.2)) (kb j 8 (pr1 as fun b0 as => pp1 as fun b1 as => pp1 as fun b2 as => pe as ((f_X0_ofKind N b0 b1 b2 g).bind fun p => k (some (.int p.1)) p.2)) (none)))
theorem co_X0_cheapestKind (N : Nat) (q : Int32 × mH) : clOK 7 q (C_X0_cheapestKind N) := by
  intro j as g k e
  rcases kb_s e with ⟨rfl, e⟩ | e
  · obtain ⟨b0, r0, q0, f0⟩ := pr1_s e
    obtain ⟨b1, r1, q1, f1⟩ := pp1_s f0
    obtain ⟨qe, fe⟩ := pe_s f1
    obtain ⟨p, e1, e2⟩ := bnd_s fe
    subst qe
    subst q1
    subst q0
    exact ⟨_, _, _, _, 5, rfl, (by decide), m_X0_crossingsOf N e1, e2⟩
  rcases kb_s e with ⟨rfl, e⟩ | e
  · obtain ⟨b0, r0, q0, f0⟩ := pr1_s e
    obtain ⟨b1, r1, q1, f1⟩ := pp1_s f0
    obtain ⟨b2, r2, q2, f2⟩ := pp1_s f1
    obtain ⟨b3, r3, q3, f3⟩ := pp1_s f2
    obtain ⟨qe, fe⟩ := pe_s f3
    obtain ⟨p, e1, e2⟩ := bnd_s fe
    subst qe
    subst q3
    subst q2
    subst q1
    subst q0
    exact ⟨_, _, _, _, 6, rfl, (by decide), m_X0_rodsFor N e1, e2⟩
  rcases kb_s e with ⟨rfl, e⟩ | e
  · obtain ⟨b0, r0, q0, f0⟩ := pr1_s e
    obtain ⟨b1, r1, q1, f1⟩ := pp1_s f0
    obtain ⟨b2, r2, q2, f2⟩ := pp1_s f1
    obtain ⟨qe, fe⟩ := pe_s f2
    obtain ⟨p, e1, e2⟩ := bnd_s fe
    subst qe
    subst q2
    subst q1
    subst q0
    exact ⟨_, _, _, _, 4, rfl, (by decide), m_X0_ofKind N e1, e2⟩
  cases e
set_option maxRecDepth 100000 in
theorem t_X0_cheapestKind_7 {X : Nat × (Nat → Int32)} (N : Nat) {q : Int32 × mH} : ∀ (n : Nat) (a0 : Nat) (x1 : Int32) (x2 : Int32) (x3 : Int32) (x4 : Int32) (h : mH), L_X0_cheapestKind_7 N n a0 x1 x2 x3 x4 h = some q → MW X y_X0_cheapestKind 7 7 [(0, .ref a0), (1, .int x1), (2, .int x2), (3, .int x3), (4, .int x4)] [] h (some (.int q.1)) q.2 := by
  intro n
  induction n with
  | zero => intro a0 x1 x2 x3 x4 h hf; cases hf
  | succ n ih =>
    intro a0 x1 x2 x3 x4 h hf
    refine ev_ok (o := 0) (ini := false) (Cl := C_X0_cheapestKind N) (Rc := RcI) (B := B_X0_cheapestKind) (K := fun pc ls st g => kb pc 7 (lgr 0 ls fun a0 => lgi 1 ls fun x1 => lgi 2 ls fun x2 => lgi 3 ls fun x3 => lgi 4 ls fun x4 => pe st (L_X0_cheapestKind_7 N n a0 x1 x2 x3 x4 g)) (none)) rfl (fun e => by cases e) (by decide) (rcI_ok rfl) ?_ (co_X0_cheapestKind N q) lb_X0_cheapestKind 3000 7 S_X0_cheapestKind_7 _ _ h ls_X0_cheapestKind_7 hf
    intro pc ls st g e
    rcases kb_s e with ⟨rfl, e⟩ | e
    · obtain ⟨a0, e0, f0⟩ := lgr_s e
      obtain ⟨x1, e1, f1⟩ := lgi_s f0
      obtain ⟨x2, e2, f2⟩ := lgi_s f1
      obtain ⟨x3, e3, f3⟩ := lgi_s f2
      obtain ⟨x4, e4, f4⟩ := lgi_s f3
      obtain ⟨qe, fe⟩ := pe_s f4
      subst qe
      exact MW.sub (List.forall_mem_cons.mpr ⟨lg_mem e0, List.forall_mem_cons.mpr ⟨lg_mem e1, List.forall_mem_cons.mpr ⟨lg_mem e2, List.forall_mem_cons.mpr ⟨lg_mem e3, List.forall_mem_cons.mpr ⟨lg_mem e4, fun _ h => absurd h List.not_mem_nil⟩⟩⟩⟩⟩) (ih a0 x1 x2 x3 x4 g fe)
    cases e
set_option maxRecDepth 100000 in
theorem m_X0_cheapestKind (N : Nat) {a0 : Nat} {x1 : Int32} {h : mH} {q : Int32 × mH} (hf : f_X0_cheapestKind N a0 x1 h = some q) : MM y_X0_cheapestKind 7 [.ref a0, .int x1] h (some (.int q.1)) q.2 := by
  refine MM.of (mFx (j := 30) rfl).2.2.2.1 (Nat.le_of_ble_eq_true rfl) (fun X => ?_)
  refine ev_ok (o := 0) (ini := false) (Cl := C_X0_cheapestKind N) (Rc := RcI) (B := B_X0_cheapestKind) (K := fun pc ls st g => kb pc 7 (lgr 0 ls fun a0 => lgi 1 ls fun x1 => lgi 2 ls fun x2 => lgi 3 ls fun x3 => lgi 4 ls fun x4 => pe st (L_X0_cheapestKind_7 N N a0 x1 x2 x3 x4 g)) (none)) rfl (fun e => by cases e) (by decide) (rcI_ok rfl) ?_ (co_X0_cheapestKind N q) lb_X0_cheapestKind 3000 0 S_X0_cheapestKind_0 _ _ h ls_X0_cheapestKind_0 hf
  intro pc ls st g e
  rcases kb_s e with ⟨rfl, e⟩ | e
  · obtain ⟨a0, e0, f0⟩ := lgr_s e
    obtain ⟨x1, e1, f1⟩ := lgi_s f0
    obtain ⟨x2, e2, f2⟩ := lgi_s f1
    obtain ⟨x3, e3, f3⟩ := lgi_s f2
    obtain ⟨x4, e4, f4⟩ := lgi_s f3
    obtain ⟨qe, fe⟩ := pe_s f4
    subst qe
    exact MW.sub (List.forall_mem_cons.mpr ⟨lg_mem e0, List.forall_mem_cons.mpr ⟨lg_mem e1, List.forall_mem_cons.mpr ⟨lg_mem e2, List.forall_mem_cons.mpr ⟨lg_mem e3, List.forall_mem_cons.mpr ⟨lg_mem e4, fun _ h => absurd h List.not_mem_nil⟩⟩⟩⟩⟩) (t_X0_cheapestKind_7 N N a0 x1 x2 x3 x4 g fe)
  cases e
def L_X0_longestRod_4 (N : Nat) : Nat → Nat → Int32 → Int32 → Int32 → mH → Option (Int32 × mH)
  | 0, _, _, _, _, _ => none
  | n + 1, a0, x1, x2, x3, h =>
    (rcv h 0 a0).bind fun _ =>
    (f_X0_ofBand N a0 x1 (jI 0) h).bind fun p1 =>
    if x3 < p1.1 then
      (rcv p1.2 0 a0).bind fun _ =>
      (f_X0_kindOf N a0 x1 x3 p1.2).bind fun p2 =>
      (rcv p2.2 0 a0).bind fun _ =>
      (f_X0_ofKind N a0 p2.1 (jI 0) p2.2).bind fun p3 =>
      let w4 := iMax x2 p3.1
      let w5 := iAdd x3 (jI 1)
      L_X0_longestRod_4 N n a0 x1 w4 w5 p3.2
    else
      some (x2, p1.2)
def f_X0_longestRod (N : Nat) (a0 : Nat) (x1 : Int32) (h : mH) : Option (Int32 × mH) :=
  L_X0_longestRod_4 N N a0 x1 (jI 0) (jI 0) h
def y_X0_longestRod : mM := (yX0_longestRod, cX0_longestRod, 4, (some .int))
def B_X0_longestRod : List (Nat × List mI) := [(36, [(.iload_n 2, 1, [2], []), (.ireturn, 1, [], [])])]
def S_X0_longestRod_0 : List mI := [(.iconst 0, 1, [], [0]), (.istore_n 2, 1, [2], []), (.iconst 0, 1, [], [0]), (.istore_n 3, 1, [3], [])]
def S_X0_longestRod_4 : List mI := [(.iload_n 3, 1, [3], []), (.aload_n 0, 1, [0], []), (.iload_n 1, 1, [1], []), (.iconst 0, 1, [], [0]), (.invokevirtual 53, 3, [0, 9, 2, 0, 33], []), (.if_icmp .ge 25, 3, [36], []), (.iload_n 2, 1, [2], []), (.aload_n 0, 1, [0], []), (.aload_n 0, 1, [0], []), (.iload_n 1, 1, [1], []), (.iload_n 3, 1, [3], []), (.invokevirtual 96, 3, [0, 10, 2, 0, 58], []), (.iconst 0, 1, [], [0]), (.invokevirtual 90, 3, [0, 8, 2, 0, 60], []), (.invokestatic 65, 3, [6, 0, 0, 0, 16], []), (.istore_n 2, 1, [2], []), (.iinc 3 1, 3, [3], [1]), (.goto (-29), 3, [4], [])]
theorem lb_X0_longestRod : B_X0_longestRod.all (fun b => lst y_X0_longestRod.2.1 0 y_X0_longestRod.2.2.1 false b.1 b.2) = true := by decide +kernel
theorem ls_X0_longestRod_0 : lst y_X0_longestRod.2.1 0 y_X0_longestRod.2.2.1 false 0 S_X0_longestRod_0 = true := by decide +kernel
theorem ls_X0_longestRod_4 : lst y_X0_longestRod.2.1 0 y_X0_longestRod.2.2.1 false 4 S_X0_longestRod_4 = true := by decide +kernel
def C_X0_longestRod (N : Nat) : Nat → List Value → mH → (Option Value → mH → Option (Int32 × mH)) → Option (Int32 × mH) := fun j as g k => kb j 9 (pr1 as fun b0 as => pp1 as fun b1 as => pp1 as fun b2 as => pe as ((f_X0_ofBand N b0 b1 b2 g).bind fun p => k (some (.int p.1)) p.2)) (kb j 10 (pr1 as fun b0 as => pp1 as fun b1 as => pp1 as fun b2 as => pe as ((f_X0_kindOf N b0 b1 b2 g).bind fun p => k (some (.int p.1)) p.2)) (kb j 8 (pr1 as fun b0 as => pp1 as fun b1 as => pp1 as fun b2 as => pe as ((f_X0_ofKind N b0 b1 b2 g).bind fun p => k (some (.int p.1)) p.2)) (none)))
theorem co_X0_longestRod (N : Nat) (q : Int32 × mH) : clOK 6 q (C_X0_longestRod N) := by
  intro j as g k e
  rcases kb_s e with ⟨rfl, e⟩ | e
  · obtain ⟨b0, r0, q0, f0⟩ := pr1_s e
    obtain ⟨b1, r1, q1, f1⟩ := pp1_s f0
    obtain ⟨b2, r2, q2, f2⟩ := pp1_s f1
    obtain ⟨qe, fe⟩ := pe_s f2
    obtain ⟨p, e1, e2⟩ := bnd_s fe
    subst qe
    subst q2
    subst q1
    subst q0
    exact ⟨_, _, _, _, 4, rfl, (by decide), m_X0_ofBand N e1, e2⟩
  rcases kb_s e with ⟨rfl, e⟩ | e
  · obtain ⟨b0, r0, q0, f0⟩ := pr1_s e
    obtain ⟨b1, r1, q1, f1⟩ := pp1_s f0
    obtain ⟨b2, r2, q2, f2⟩ := pp1_s f1
    obtain ⟨qe, fe⟩ := pe_s f2
    obtain ⟨p, e1, e2⟩ := bnd_s fe
    subst qe
    subst q2
    subst q1
    subst q0
    exact ⟨_, _, _, _, 5, rfl, (by decide), m_X0_kindOf N e1, e2⟩
  rcases kb_s e with ⟨rfl, e⟩ | e
  · obtain ⟨b0, r0, q0, f0⟩ := pr1_s e
    obtain ⟨b1, r1, q1, f1⟩ := pp1_s f0
    obtain ⟨b2, r2, q2, f2⟩ := pp1_s f1
    obtain ⟨qe, fe⟩ := pe_s f2
    obtain ⟨p, e1, e2⟩ := bnd_s fe
    subst qe
    subst q2
    subst q1
    subst q0
    exact ⟨_, _, _, _, 4, rfl, (by decide), m_X0_ofKind N e1, e2⟩
  cases e
set_option maxRecDepth 100000 in
theorem t_X0_longestRod_4 {X : Nat × (Nat → Int32)} (N : Nat) {q : Int32 × mH} : ∀ (n : Nat) (a0 : Nat) (x1 : Int32) (x2 : Int32) (x3 : Int32) (h : mH), L_X0_longestRod_4 N n a0 x1 x2 x3 h = some q → MW X y_X0_longestRod 6 4 [(0, .ref a0), (1, .int x1), (2, .int x2), (3, .int x3)] [] h (some (.int q.1)) q.2 := by
  intro n
  induction n with
  | zero => intro a0 x1 x2 x3 h hf; cases hf
  | succ n ih =>
    intro a0 x1 x2 x3 h hf
    refine ev_ok (o := 0) (ini := false) (Cl := C_X0_longestRod N) (Rc := RcI) (B := B_X0_longestRod) (K := fun pc ls st g => kb pc 4 (lgr 0 ls fun a0 => lgi 1 ls fun x1 => lgi 2 ls fun x2 => lgi 3 ls fun x3 => pe st (L_X0_longestRod_4 N n a0 x1 x2 x3 g)) (none)) rfl (fun e => by cases e) (by decide) (rcI_ok rfl) ?_ (co_X0_longestRod N q) lb_X0_longestRod 3000 4 S_X0_longestRod_4 _ _ h ls_X0_longestRod_4 hf
    intro pc ls st g e
    rcases kb_s e with ⟨rfl, e⟩ | e
    · obtain ⟨a0, e0, f0⟩ := lgr_s e
      obtain ⟨x1, e1, f1⟩ := lgi_s f0
      obtain ⟨x2, e2, f2⟩ := lgi_s f1
      obtain ⟨x3, e3, f3⟩ := lgi_s f2
      obtain ⟨qe, fe⟩ := pe_s f3
      subst qe
      exact MW.sub (List.forall_mem_cons.mpr ⟨lg_mem e0, List.forall_mem_cons.mpr ⟨lg_mem e1, List.forall_mem_cons.mpr ⟨lg_mem e2, List.forall_mem_cons.mpr ⟨lg_mem e3, fun _ h => absurd h List.not_mem_nil⟩⟩⟩⟩) (ih a0 x1 x2 x3 g fe)
    cases e
set_option maxRecDepth 100000 in
theorem m_X0_longestRod (N : Nat) {a0 : Nat} {x1 : Int32} {h : mH} {q : Int32 × mH} (hf : f_X0_longestRod N a0 x1 h = some q) : MM y_X0_longestRod 6 [.ref a0, .int x1] h (some (.int q.1)) q.2 := by
  refine MM.of (mFx (j := 31) rfl).2.2.2.1 (Nat.le_of_ble_eq_true rfl) (fun X => ?_)
  refine ev_ok (o := 0) (ini := false) (Cl := C_X0_longestRod N) (Rc := RcI) (B := B_X0_longestRod) (K := fun pc ls st g => kb pc 4 (lgr 0 ls fun a0 => lgi 1 ls fun x1 => lgi 2 ls fun x2 => lgi 3 ls fun x3 => pe st (L_X0_longestRod_4 N N a0 x1 x2 x3 g)) (none)) rfl (fun e => by cases e) (by decide) (rcI_ok rfl) ?_ (co_X0_longestRod N q) lb_X0_longestRod 3000 0 S_X0_longestRod_0 _ _ h ls_X0_longestRod_0 hf
  intro pc ls st g e
  rcases kb_s e with ⟨rfl, e⟩ | e
  · obtain ⟨a0, e0, f0⟩ := lgr_s e
    obtain ⟨x1, e1, f1⟩ := lgi_s f0
    obtain ⟨x2, e2, f2⟩ := lgi_s f1
    obtain ⟨x3, e3, f3⟩ := lgi_s f2
    obtain ⟨qe, fe⟩ := pe_s f3
    subst qe
    exact MW.sub (List.forall_mem_cons.mpr ⟨lg_mem e0, List.forall_mem_cons.mpr ⟨lg_mem e1, List.forall_mem_cons.mpr ⟨lg_mem e2, List.forall_mem_cons.mpr ⟨lg_mem e3, fun _ h => absurd h List.not_mem_nil⟩⟩⟩⟩) (t_X0_longestRod_4 N N a0 x1 x2 x3 g fe)
  cases e
def f_X0_driesTo (N : Nat) (a0 : Nat) (x1 : Int32) (h : mH) : Option (Int32 × mH) :=
  (rcv h 0 a0).bind fun _ =>
  (f_X0_ofKind N a0 x1 (jI 2) h).bind fun p1 =>
  some (iSub (jI 100) p1.1, p1.2)
def y_X0_driesTo : mM := (yX0_driesTo, cX0_driesTo, 2, (some .int))
def B_X0_driesTo : List (Nat × List mI) := []
def S_X0_driesTo_0 : List mI := [(.bipush 100, 2, [], [100]), (.aload_n 0, 1, [0], []), (.iload_n 1, 1, [1], []), (.iconst 2, 1, [], [2]), (.invokevirtual 90, 3, [0, 8, 2, 0, 60], []), (.isub, 1, [], []), (.ireturn, 1, [], [])]
theorem lb_X0_driesTo : B_X0_driesTo.all (fun b => lst y_X0_driesTo.2.1 0 y_X0_driesTo.2.2.1 false b.1 b.2) = true := by decide +kernel
theorem ls_X0_driesTo_0 : lst y_X0_driesTo.2.1 0 y_X0_driesTo.2.2.1 false 0 S_X0_driesTo_0 = true := by decide +kernel
def C_X0_driesTo (N : Nat) : Nat → List Value → mH → (Option Value → mH → Option (Int32 × mH)) → Option (Int32 × mH) := fun j as g k => kb j 8 (pr1 as fun b0 as => pp1 as fun b1 as => pp1 as fun b2 as => pe as ((f_X0_ofKind N b0 b1 b2 g).bind fun p => k (some (.int p.1)) p.2)) (none)
theorem co_X0_driesTo (N : Nat) (q : Int32 × mH) : clOK 5 q (C_X0_driesTo N) := by
  intro j as g k e
  rcases kb_s e with ⟨rfl, e⟩ | e
  · obtain ⟨b0, r0, q0, f0⟩ := pr1_s e
    obtain ⟨b1, r1, q1, f1⟩ := pp1_s f0
    obtain ⟨b2, r2, q2, f2⟩ := pp1_s f1
    obtain ⟨qe, fe⟩ := pe_s f2
    obtain ⟨p, e1, e2⟩ := bnd_s fe
    subst qe
    subst q2
    subst q1
    subst q0
    exact ⟨_, _, _, _, 4, rfl, (by decide), m_X0_ofKind N e1, e2⟩
  cases e
set_option maxRecDepth 100000 in
theorem m_X0_driesTo (N : Nat) {a0 : Nat} {x1 : Int32} {h : mH} {q : Int32 × mH} (hf : f_X0_driesTo N a0 x1 h = some q) : MM y_X0_driesTo 5 [.ref a0, .int x1] h (some (.int q.1)) q.2 := by
  refine MM.of (mFx (j := 32) rfl).2.2.2.1 (Nat.le_of_ble_eq_true rfl) (fun X => ?_)
  refine ev_ok (o := 0) (ini := false) (Cl := C_X0_driesTo N) (Rc := RcI) (B := B_X0_driesTo) (K := fun pc ls st g => none) rfl (fun e => by cases e) (by decide) (rcI_ok rfl) ?_ (co_X0_driesTo N q) lb_X0_driesTo 3000 0 S_X0_driesTo_0 _ _ h ls_X0_driesTo_0 hf
  intro pc ls st g e
  cases e
def L_X0_heightOf_5 (N : Nat) : Nat → Nat → Int32 → Int32 → Int32 → Int32 → mH → Option (Int32 × mH)
  | 0, _, _, _, _, _, _ => none
  | n + 1, a0, x1, x2, x3, x4, h =>
    (rcv h 0 a0).bind fun _ =>
    (f_X0_ofBand N a0 x1 (jI 0) h).bind fun p1 =>
    if x4 < p1.1 then
      (rcv p1.2 0 a0).bind fun _ =>
      (f_X0_kindOf N a0 x1 x4 p1.2).bind fun p2 =>
      (rcv p2.2 0 a0).bind fun _ =>
      (f_X0_ofKind N a0 p2.1 (jI 1) p2.2).bind fun p3 =>
      if x2 = 0 then
        let w4 := iAdd x3 (iMul p3.1 (jI 100))
        let w5 := iAdd x4 (jI 1)
        L_X0_heightOf_5 N n a0 x1 x2 w4 w5 p3.2
      else
        (rcv p3.2 0 a0).bind fun _ =>
        (f_X0_driesTo N a0 p2.1 p3.2).bind fun p6 =>
        let w7 := iAdd x3 (iMul p3.1 p6.1)
        let w8 := iAdd x4 (jI 1)
        L_X0_heightOf_5 N n a0 x1 x2 w7 w8 p6.2
    else
      (rcv p1.2 0 a0).bind fun _ =>
      (f_X0_ofBand N a0 x1 (jI 3) p1.2).bind fun p9 =>
      some (iMul x3 p9.1, p9.2)
def f_X0_heightOf (N : Nat) (a0 : Nat) (x1 : Int32) (x2 : Int32) (h : mH) : Option (Int32 × mH) :=
  L_X0_heightOf_5 N N a0 x1 x2 (jI 0) (jI 0) h
def y_X0_heightOf : mM := (yX0_heightOf, cX0_heightOf, 6, (some .int))
def B_X0_heightOf : List (Nat × List mI) := [(46, [(.bipush 100, 2, [], [100])]), (48, [(.imul, 1, [], []), (.iadd, 1, [], []), (.istore_n 3, 1, [3], []), (.iinc 4 1, 3, [4], [1]), (.goto (-49), 3, [5], [])]), (57, [(.iload_n 3, 1, [3], []), (.aload_n 0, 1, [0], []), (.iload_n 1, 1, [1], []), (.iconst 3, 1, [], [3]), (.invokevirtual 53, 3, [0, 9, 2, 0, 33], []), (.imul, 1, [], []), (.ireturn, 1, [], [])])]
def S_X0_heightOf_0 : List mI := [(.iconst 0, 1, [], [0]), (.istore_n 3, 1, [3], []), (.iconst 0, 1, [], [0]), (.istore 4, 2, [4], [])]
def S_X0_heightOf_5 : List mI := [(.iload 4, 2, [4], []), (.aload_n 0, 1, [0], []), (.iload_n 1, 1, [1], []), (.iconst 0, 1, [], [0]), (.invokevirtual 53, 3, [0, 9, 2, 0, 33], []), (.if_icmp .ge 44, 3, [57], []), (.aload_n 0, 1, [0], []), (.iload_n 1, 1, [1], []), (.iload 4, 2, [4], []), (.invokevirtual 96, 3, [0, 10, 2, 0, 58], []), (.istore 5, 2, [5], []), (.iload_n 3, 1, [3], []), (.aload_n 0, 1, [0], []), (.iload 5, 2, [5], []), (.iconst 1, 1, [], [1]), (.invokevirtual 90, 3, [0, 8, 2, 0, 60], []), (.iload_n 2, 1, [2], []), (.ifCond .eq 12, 3, [46], []), (.aload_n 0, 1, [0], []), (.iload 5, 2, [5], []), (.invokevirtual 105, 3, [0, 32, 1, 0, 193], []), (.goto 5, 3, [48], [])]
theorem lb_X0_heightOf : B_X0_heightOf.all (fun b => lst y_X0_heightOf.2.1 0 y_X0_heightOf.2.2.1 false b.1 b.2) = true := by decide +kernel
theorem ls_X0_heightOf_0 : lst y_X0_heightOf.2.1 0 y_X0_heightOf.2.2.1 false 0 S_X0_heightOf_0 = true := by decide +kernel
theorem ls_X0_heightOf_5 : lst y_X0_heightOf.2.1 0 y_X0_heightOf.2.2.1 false 5 S_X0_heightOf_5 = true := by decide +kernel
def C_X0_heightOf (N : Nat) : Nat → List Value → mH → (Option Value → mH → Option (Int32 × mH)) → Option (Int32 × mH) := fun j as g k => kb j 9 (pr1 as fun b0 as => pp1 as fun b1 as => pp1 as fun b2 as => pe as ((f_X0_ofBand N b0 b1 b2 g).bind fun p => k (some (.int p.1)) p.2)) (kb j 10 (pr1 as fun b0 as => pp1 as fun b1 as => pp1 as fun b2 as => pe as ((f_X0_kindOf N b0 b1 b2 g).bind fun p => k (some (.int p.1)) p.2)) (kb j 8 (pr1 as fun b0 as => pp1 as fun b1 as => pp1 as fun b2 as => pe as ((f_X0_ofKind N b0 b1 b2 g).bind fun p => k (some (.int p.1)) p.2)) (kb j 32 (pr1 as fun b0 as => pp1 as fun b1 as => pe as ((f_X0_driesTo N b0 b1 g).bind fun p => k (some (.int p.1)) p.2)) (none))))
theorem co_X0_heightOf (N : Nat) (q : Int32 × mH) : clOK 6 q (C_X0_heightOf N) := by
  intro j as g k e
  rcases kb_s e with ⟨rfl, e⟩ | e
  · obtain ⟨b0, r0, q0, f0⟩ := pr1_s e
    obtain ⟨b1, r1, q1, f1⟩ := pp1_s f0
    obtain ⟨b2, r2, q2, f2⟩ := pp1_s f1
    obtain ⟨qe, fe⟩ := pe_s f2
    obtain ⟨p, e1, e2⟩ := bnd_s fe
    subst qe
    subst q2
    subst q1
    subst q0
    exact ⟨_, _, _, _, 4, rfl, (by decide), m_X0_ofBand N e1, e2⟩
  rcases kb_s e with ⟨rfl, e⟩ | e
  · obtain ⟨b0, r0, q0, f0⟩ := pr1_s e
    obtain ⟨b1, r1, q1, f1⟩ := pp1_s f0
    obtain ⟨b2, r2, q2, f2⟩ := pp1_s f1
    obtain ⟨qe, fe⟩ := pe_s f2
    obtain ⟨p, e1, e2⟩ := bnd_s fe
    subst qe
    subst q2
    subst q1
    subst q0
    exact ⟨_, _, _, _, 5, rfl, (by decide), m_X0_kindOf N e1, e2⟩
  rcases kb_s e with ⟨rfl, e⟩ | e
  · obtain ⟨b0, r0, q0, f0⟩ := pr1_s e
    obtain ⟨b1, r1, q1, f1⟩ := pp1_s f0
    obtain ⟨b2, r2, q2, f2⟩ := pp1_s f1
    obtain ⟨qe, fe⟩ := pe_s f2
    obtain ⟨p, e1, e2⟩ := bnd_s fe
    subst qe
    subst q2
    subst q1
    subst q0
    exact ⟨_, _, _, _, 4, rfl, (by decide), m_X0_ofKind N e1, e2⟩
  rcases kb_s e with ⟨rfl, e⟩ | e
  · obtain ⟨b0, r0, q0, f0⟩ := pr1_s e
    obtain ⟨b1, r1, q1, f1⟩ := pp1_s f0
    obtain ⟨qe, fe⟩ := pe_s f1
    obtain ⟨p, e1, e2⟩ := bnd_s fe
    subst qe
    subst q1
    subst q0
    exact ⟨_, _, _, _, 5, rfl, (by decide), m_X0_driesTo N e1, e2⟩
  cases e
set_option maxRecDepth 100000 in
theorem t_X0_heightOf_5 {X : Nat × (Nat → Int32)} (N : Nat) {q : Int32 × mH} : ∀ (n : Nat) (a0 : Nat) (x1 : Int32) (x2 : Int32) (x3 : Int32) (x4 : Int32) (h : mH), L_X0_heightOf_5 N n a0 x1 x2 x3 x4 h = some q → MW X y_X0_heightOf 6 5 [(0, .ref a0), (1, .int x1), (2, .int x2), (3, .int x3), (4, .int x4)] [] h (some (.int q.1)) q.2 := by
  intro n
  induction n with
  | zero => intro a0 x1 x2 x3 x4 h hf; cases hf
  | succ n ih =>
    intro a0 x1 x2 x3 x4 h hf
    refine ev_ok (o := 0) (ini := false) (Cl := C_X0_heightOf N) (Rc := RcI) (B := B_X0_heightOf) (K := fun pc ls st g => kb pc 5 (lgr 0 ls fun a0 => lgi 1 ls fun x1 => lgi 2 ls fun x2 => lgi 3 ls fun x3 => lgi 4 ls fun x4 => pe st (L_X0_heightOf_5 N n a0 x1 x2 x3 x4 g)) (none)) rfl (fun e => by cases e) (by decide) (rcI_ok rfl) ?_ (co_X0_heightOf N q) lb_X0_heightOf 3000 5 S_X0_heightOf_5 _ _ h ls_X0_heightOf_5 hf
    intro pc ls st g e
    rcases kb_s e with ⟨rfl, e⟩ | e
    · obtain ⟨a0, e0, f0⟩ := lgr_s e
      obtain ⟨x1, e1, f1⟩ := lgi_s f0
      obtain ⟨x2, e2, f2⟩ := lgi_s f1
      obtain ⟨x3, e3, f3⟩ := lgi_s f2
      obtain ⟨x4, e4, f4⟩ := lgi_s f3
      obtain ⟨qe, fe⟩ := pe_s f4
      subst qe
      exact MW.sub (List.forall_mem_cons.mpr ⟨lg_mem e0, List.forall_mem_cons.mpr ⟨lg_mem e1, List.forall_mem_cons.mpr ⟨lg_mem e2, List.forall_mem_cons.mpr ⟨lg_mem e3, List.forall_mem_cons.mpr ⟨lg_mem e4, fun _ h => absurd h List.not_mem_nil⟩⟩⟩⟩⟩) (ih a0 x1 x2 x3 x4 g fe)
    cases e
set_option maxRecDepth 100000 in
theorem m_X0_heightOf (N : Nat) {a0 : Nat} {x1 : Int32} {x2 : Int32} {h : mH} {q : Int32 × mH} (hf : f_X0_heightOf N a0 x1 x2 h = some q) : MM y_X0_heightOf 6 [.ref a0, .int x1, .int x2] h (some (.int q.1)) q.2 := by
  refine MM.of (mFx (j := 33) rfl).2.2.2.1 (Nat.le_of_ble_eq_true rfl) (fun X => ?_)
  refine ev_ok (o := 0) (ini := false) (Cl := C_X0_heightOf N) (Rc := RcI) (B := B_X0_heightOf) (K := fun pc ls st g => kb pc 5 (lgr 0 ls fun a0 => lgi 1 ls fun x1 => lgi 2 ls fun x2 => lgi 3 ls fun x3 => lgi 4 ls fun x4 => pe st (L_X0_heightOf_5 N N a0 x1 x2 x3 x4 g)) (none)) rfl (fun e => by cases e) (by decide) (rcI_ok rfl) ?_ (co_X0_heightOf N q) lb_X0_heightOf 3000 0 S_X0_heightOf_0 _ _ h ls_X0_heightOf_0 hf
  intro pc ls st g e
  rcases kb_s e with ⟨rfl, e⟩ | e
  · obtain ⟨a0, e0, f0⟩ := lgr_s e
    obtain ⟨x1, e1, f1⟩ := lgi_s f0
    obtain ⟨x2, e2, f2⟩ := lgi_s f1
    obtain ⟨x3, e3, f3⟩ := lgi_s f2
    obtain ⟨x4, e4, f4⟩ := lgi_s f3
    obtain ⟨qe, fe⟩ := pe_s f4
    subst qe
    exact MW.sub (List.forall_mem_cons.mpr ⟨lg_mem e0, List.forall_mem_cons.mpr ⟨lg_mem e1, List.forall_mem_cons.mpr ⟨lg_mem e2, List.forall_mem_cons.mpr ⟨lg_mem e3, List.forall_mem_cons.mpr ⟨lg_mem e4, fun _ h => absurd h List.not_mem_nil⟩⟩⟩⟩⟩) (t_X0_heightOf_5 N N a0 x1 x2 x3 x4 g fe)
  cases e
def L_X0_loosest_10 (N : Nat) : Nat → Nat → Int32 → Int64 → Int64 → Int32 → mH → Option (Int32 × mH)
  | 0, _, _, _, _, _, _ => none
  | n + 1, a0, x1, l2, l4, x6, h =>
    (gI h 0 a0 2).bind fun v1 =>
    if x6 < v1 then
      (rcv h 0 a0).bind fun _ =>
      (f_X0_heightOf N a0 x6 (jI 0) h).bind fun p2 =>
      (rcv p2.2 0 a0).bind fun _ =>
      (f_X0_heightOf N a0 x6 (jI 1) p2.2).bind fun p3 =>
      let w4 := lSub p2.1.toInt64 p3.1.toInt64
      if x1 = (jI (-1)) then
        let w5 := iAdd x6 (jI 1)
        L_X0_loosest_10 N n a0 x6 w4 p2.1.toInt64 w5 p3.2
      else
        if (lMul l2 p2.1.toInt64) < (lMul w4 l4) then
          let w6 := iAdd x6 (jI 1)
          L_X0_loosest_10 N n a0 x6 w4 p2.1.toInt64 w6 p3.2
        else
          let w7 := iAdd x6 (jI 1)
          L_X0_loosest_10 N n a0 x1 l2 l4 w7 p3.2
    else
      some (x1, h)
def f_X0_loosest (N : Nat) (a0 : Nat) (h : mH) : Option (Int32 × mH) :=
  L_X0_loosest_10 N N a0 (jI (-1)) (jL 0) (jL 1) (jI 0) h
def y_X0_loosest : mM := (yX0_loosest, cX0_loosest, 11, (some .int))
def B_X0_loosest : List (Nat × List mI) := [(60, [(.iload 6, 2, [6], []), (.istore_n 1, 1, [1], []), (.lload 9, 2, [9], []), (.lstore_n 2, 1, [2], []), (.lload 7, 2, [7], []), (.lstore 4, 2, [4], [])]), (70, [(.iinc 6 1, 3, [6], [1]), (.goto (-63), 3, [10], [])]), (76, [(.iload_n 1, 1, [1], []), (.ireturn, 1, [], [])])]
def S_X0_loosest_0 : List mI := [(.iconst (-1), 1, [], [-1]), (.istore_n 1, 1, [1], []), (.lconst 0, 1, [], [0]), (.lstore_n 2, 1, [2], []), (.lconst 1, 1, [], [1]), (.lstore 4, 2, [4], []), (.iconst 0, 1, [], [0]), (.istore 6, 2, [6], [])]
def S_X0_loosest_10 : List mI := [(.iload 6, 2, [6], []), (.aload_n 0, 1, [0], []), (.getfield 34, 3, [0, 2, 0, 7], []), (.if_icmp .ge 60, 3, [76], []), (.aload_n 0, 1, [0], []), (.iload 6, 2, [6], []), (.iconst 0, 1, [], [0]), (.invokevirtual 108, 3, [0, 33, 2, 0, 196], []), (.i2l, 1, [], []), (.lstore 7, 2, [7], []), (.lload 7, 2, [7], []), (.aload_n 0, 1, [0], []), (.iload 6, 2, [6], []), (.iconst 1, 1, [], [1]), (.invokevirtual 108, 3, [0, 33, 2, 0, 196], []), (.i2l, 1, [], []), (.lsub, 1, [], []), (.lstore 9, 2, [9], []), (.iload_n 1, 1, [1], []), (.iconst (-1), 1, [], [-1]), (.if_icmp .eq 16, 3, [60], []), (.lload 9, 2, [9], []), (.lload 4, 2, [4], []), (.lmul, 1, [], []), (.lload_n 2, 1, [2], []), (.lload 7, 2, [7], []), (.lmul, 1, [], []), (.lcmp, 1, [], []), (.ifCond .le 13, 3, [70], [])]
theorem lb_X0_loosest : B_X0_loosest.all (fun b => lst y_X0_loosest.2.1 0 y_X0_loosest.2.2.1 false b.1 b.2) = true := by decide +kernel
theorem ls_X0_loosest_0 : lst y_X0_loosest.2.1 0 y_X0_loosest.2.2.1 false 0 S_X0_loosest_0 = true := by decide +kernel
theorem ls_X0_loosest_10 : lst y_X0_loosest.2.1 0 y_X0_loosest.2.2.1 false 10 S_X0_loosest_10 = true := by decide +kernel
def C_X0_loosest (N : Nat) : Nat → List Value → mH → (Option Value → mH → Option (Int32 × mH)) → Option (Int32 × mH) := fun j as g k => kb j 33 (pr1 as fun b0 as => pp1 as fun b1 as => pp1 as fun b2 as => pe as ((f_X0_heightOf N b0 b1 b2 g).bind fun p => k (some (.int p.1)) p.2)) (none)
theorem co_X0_loosest (N : Nat) (q : Int32 × mH) : clOK 7 q (C_X0_loosest N) := by
  intro j as g k e
  rcases kb_s e with ⟨rfl, e⟩ | e
  · obtain ⟨b0, r0, q0, f0⟩ := pr1_s e
    obtain ⟨b1, r1, q1, f1⟩ := pp1_s f0
    obtain ⟨b2, r2, q2, f2⟩ := pp1_s f1
    obtain ⟨qe, fe⟩ := pe_s f2
    obtain ⟨p, e1, e2⟩ := bnd_s fe
    subst qe
    subst q2
    subst q1
    subst q0
    exact ⟨_, _, _, _, 6, rfl, (by decide), m_X0_heightOf N e1, e2⟩
  cases e
set_option maxRecDepth 100000 in
theorem t_X0_loosest_10 {X : Nat × (Nat → Int32)} (N : Nat) {q : Int32 × mH} : ∀ (n : Nat) (a0 : Nat) (x1 : Int32) (l2 : Int64) (l4 : Int64) (x6 : Int32) (h : mH), L_X0_loosest_10 N n a0 x1 l2 l4 x6 h = some q → MW X y_X0_loosest 7 10 [(0, .ref a0), (1, .int x1), (2, .long l2), (4, .long l4), (6, .int x6)] [] h (some (.int q.1)) q.2 := by
  intro n
  induction n with
  | zero => intro a0 x1 l2 l4 x6 h hf; cases hf
  | succ n ih =>
    intro a0 x1 l2 l4 x6 h hf
    refine ev_ok (o := 0) (ini := false) (Cl := C_X0_loosest N) (Rc := RcI) (B := B_X0_loosest) (K := fun pc ls st g => kb pc 10 (lgr 0 ls fun a0 => lgi 1 ls fun x1 => lgl_ 2 ls fun l2 => lgl_ 4 ls fun l4 => lgi 6 ls fun x6 => pe st (L_X0_loosest_10 N n a0 x1 l2 l4 x6 g)) (none)) rfl (fun e => by cases e) (by decide) (rcI_ok rfl) ?_ (co_X0_loosest N q) lb_X0_loosest 3000 10 S_X0_loosest_10 _ _ h ls_X0_loosest_10 hf
    intro pc ls st g e
    rcases kb_s e with ⟨rfl, e⟩ | e
    · obtain ⟨a0, e0, f0⟩ := lgr_s e
      obtain ⟨x1, e1, f1⟩ := lgi_s f0
      obtain ⟨l2, e2, f2⟩ := lgl_s f1
      obtain ⟨l4, e3, f3⟩ := lgl_s f2
      obtain ⟨x6, e4, f4⟩ := lgi_s f3
      obtain ⟨qe, fe⟩ := pe_s f4
      subst qe
      exact MW.sub (List.forall_mem_cons.mpr ⟨lg_mem e0, List.forall_mem_cons.mpr ⟨lg_mem e1, List.forall_mem_cons.mpr ⟨lg_mem e2, List.forall_mem_cons.mpr ⟨lg_mem e3, List.forall_mem_cons.mpr ⟨lg_mem e4, fun _ h => absurd h List.not_mem_nil⟩⟩⟩⟩⟩) (ih a0 x1 l2 l4 x6 g fe)
    cases e
set_option maxRecDepth 100000 in
theorem m_X0_loosest (N : Nat) {a0 : Nat} {h : mH} {q : Int32 × mH} (hf : f_X0_loosest N a0 h = some q) : MM y_X0_loosest 7 [.ref a0] h (some (.int q.1)) q.2 := by
  refine MM.of (mFx (j := 34) rfl).2.2.2.1 (Nat.le_of_ble_eq_true rfl) (fun X => ?_)
  refine ev_ok (o := 0) (ini := false) (Cl := C_X0_loosest N) (Rc := RcI) (B := B_X0_loosest) (K := fun pc ls st g => kb pc 10 (lgr 0 ls fun a0 => lgi 1 ls fun x1 => lgl_ 2 ls fun l2 => lgl_ 4 ls fun l4 => lgi 6 ls fun x6 => pe st (L_X0_loosest_10 N N a0 x1 l2 l4 x6 g)) (none)) rfl (fun e => by cases e) (by decide) (rcI_ok rfl) ?_ (co_X0_loosest N q) lb_X0_loosest 3000 0 S_X0_loosest_0 _ _ h ls_X0_loosest_0 hf
  intro pc ls st g e
  rcases kb_s e with ⟨rfl, e⟩ | e
  · obtain ⟨a0, e0, f0⟩ := lgr_s e
    obtain ⟨x1, e1, f1⟩ := lgi_s f0
    obtain ⟨l2, e2, f2⟩ := lgl_s f1
    obtain ⟨l4, e3, f3⟩ := lgl_s f2
    obtain ⟨x6, e4, f4⟩ := lgi_s f3
    obtain ⟨qe, fe⟩ := pe_s f4
    subst qe
    exact MW.sub (List.forall_mem_cons.mpr ⟨lg_mem e0, List.forall_mem_cons.mpr ⟨lg_mem e1, List.forall_mem_cons.mpr ⟨lg_mem e2, List.forall_mem_cons.mpr ⟨lg_mem e3, List.forall_mem_cons.mpr ⟨lg_mem e4, fun _ h => absurd h List.not_mem_nil⟩⟩⟩⟩⟩) (t_X0_loosest_10 N N a0 x1 l2 l4 x6 g fe)
  cases e
def L_X0_widthBehind_7 (N : Nat) : Nat → Nat → Int32 → Int32 → Int32 → mH → Option (Int32 × mH)
  | 0, _, _, _, _, _ => none
  | n + 1, a0, x1, x2, x3, h =>
    if x1 < x3 then
      some (x2, h)
    else
      (gI h 0 a0 2).bind fun v1 =>
      if x3 < v1 then
        (rcv h 0 a0).bind fun _ =>
        (f_X0_ofBand N a0 x3 (jI 6) h).bind fun p2 =>
        (rcv p2.2 0 a0).bind fun _ =>
        (f_X0_ofBand N a0 x3 (jI 3) p2.2).bind fun p3 =>
        let w4 := iMax (jI 1) (iAdd x2 (iMul p2.1 p3.1))
        let w5 := iAdd x3 (jI 1)
        L_X0_widthBehind_7 N n a0 x1 w4 w5 p3.2
      else
        some (x2, h)
def f_X0_widthBehind (N : Nat) (a0 : Nat) (x1 : Int32) (h : mH) : Option (Int32 × mH) :=
  (gI h 0 a0 5).bind fun v1 =>
  L_X0_widthBehind_7 N N a0 x1 v1 (jI 0) h
def y_X0_widthBehind : mM := (yX0_widthBehind, cX0_widthBehind, 4, (some .int))
def B_X0_widthBehind : List (Nat × List mI) := [(47, [(.iload_n 2, 1, [2], []), (.ireturn, 1, [], [])])]
def S_X0_widthBehind_0 : List mI := [(.aload_n 0, 1, [0], []), (.getfield 25, 3, [0, 5, 0, 17], []), (.istore_n 2, 1, [2], []), (.iconst 0, 1, [], [0]), (.istore_n 3, 1, [3], [])]
def S_X0_widthBehind_7 : List mI := [(.iload_n 3, 1, [3], []), (.iload_n 1, 1, [1], []), (.if_icmp .gt 38, 3, [47], []), (.iload_n 3, 1, [3], []), (.aload_n 0, 1, [0], []), (.getfield 34, 3, [0, 2, 0, 7], []), (.if_icmp .ge 30, 3, [47], []), (.iconst 1, 1, [], [1]), (.iload_n 2, 1, [2], []), (.aload_n 0, 1, [0], []), (.iload_n 3, 1, [3], []), (.bipush 6, 2, [], [6]), (.invokevirtual 53, 3, [0, 9, 2, 0, 33], []), (.aload_n 0, 1, [0], []), (.iload_n 3, 1, [3], []), (.iconst 3, 1, [], [3]), (.invokevirtual 53, 3, [0, 9, 2, 0, 33], []), (.imul, 1, [], []), (.iadd, 1, [], []), (.invokestatic 65, 3, [6, 0, 0, 0, 16], []), (.istore_n 2, 1, [2], []), (.iinc 3 1, 3, [3], [1]), (.goto (-37), 3, [7], [])]
theorem lb_X0_widthBehind : B_X0_widthBehind.all (fun b => lst y_X0_widthBehind.2.1 0 y_X0_widthBehind.2.2.1 false b.1 b.2) = true := by decide +kernel
theorem ls_X0_widthBehind_0 : lst y_X0_widthBehind.2.1 0 y_X0_widthBehind.2.2.1 false 0 S_X0_widthBehind_0 = true := by decide +kernel
theorem ls_X0_widthBehind_7 : lst y_X0_widthBehind.2.1 0 y_X0_widthBehind.2.2.1 false 7 S_X0_widthBehind_7 = true := by decide +kernel
def C_X0_widthBehind (N : Nat) : Nat → List Value → mH → (Option Value → mH → Option (Int32 × mH)) → Option (Int32 × mH) := fun j as g k => kb j 9 (pr1 as fun b0 as => pp1 as fun b1 as => pp1 as fun b2 as => pe as ((f_X0_ofBand N b0 b1 b2 g).bind fun p => k (some (.int p.1)) p.2)) (none)
theorem co_X0_widthBehind (N : Nat) (q : Int32 × mH) : clOK 5 q (C_X0_widthBehind N) := by
  intro j as g k e
  rcases kb_s e with ⟨rfl, e⟩ | e
  · obtain ⟨b0, r0, q0, f0⟩ := pr1_s e
    obtain ⟨b1, r1, q1, f1⟩ := pp1_s f0
    obtain ⟨b2, r2, q2, f2⟩ := pp1_s f1
    obtain ⟨qe, fe⟩ := pe_s f2
    obtain ⟨p, e1, e2⟩ := bnd_s fe
    subst qe
    subst q2
    subst q1
    subst q0
    exact ⟨_, _, _, _, 4, rfl, (by decide), m_X0_ofBand N e1, e2⟩
  cases e
set_option maxRecDepth 100000 in
theorem t_X0_widthBehind_7 {X : Nat × (Nat → Int32)} (N : Nat) {q : Int32 × mH} : ∀ (n : Nat) (a0 : Nat) (x1 : Int32) (x2 : Int32) (x3 : Int32) (h : mH), L_X0_widthBehind_7 N n a0 x1 x2 x3 h = some q → MW X y_X0_widthBehind 5 7 [(0, .ref a0), (1, .int x1), (2, .int x2), (3, .int x3)] [] h (some (.int q.1)) q.2 := by
  intro n
  induction n with
  | zero => intro a0 x1 x2 x3 h hf; cases hf
  | succ n ih =>
    intro a0 x1 x2 x3 h hf
    refine ev_ok (o := 0) (ini := false) (Cl := C_X0_widthBehind N) (Rc := RcI) (B := B_X0_widthBehind) (K := fun pc ls st g => kb pc 7 (lgr 0 ls fun a0 => lgi 1 ls fun x1 => lgi 2 ls fun x2 => lgi 3 ls fun x3 => pe st (L_X0_widthBehind_7 N n a0 x1 x2 x3 g)) (none)) rfl (fun e => by cases e) (by decide) (rcI_ok rfl) ?_ (co_X0_widthBehind N q) lb_X0_widthBehind 3000 7 S_X0_widthBehind_7 _ _ h ls_X0_widthBehind_7 hf
    intro pc ls st g e
    rcases kb_s e with ⟨rfl, e⟩ | e
    · obtain ⟨a0, e0, f0⟩ := lgr_s e
      obtain ⟨x1, e1, f1⟩ := lgi_s f0
      obtain ⟨x2, e2, f2⟩ := lgi_s f1
      obtain ⟨x3, e3, f3⟩ := lgi_s f2
      obtain ⟨qe, fe⟩ := pe_s f3
      subst qe
      exact MW.sub (List.forall_mem_cons.mpr ⟨lg_mem e0, List.forall_mem_cons.mpr ⟨lg_mem e1, List.forall_mem_cons.mpr ⟨lg_mem e2, List.forall_mem_cons.mpr ⟨lg_mem e3, fun _ h => absurd h List.not_mem_nil⟩⟩⟩⟩) (ih a0 x1 x2 x3 g fe)
    cases e
set_option maxRecDepth 100000 in
theorem m_X0_widthBehind (N : Nat) {a0 : Nat} {x1 : Int32} {h : mH} {q : Int32 × mH} (hf : f_X0_widthBehind N a0 x1 h = some q) : MM y_X0_widthBehind 5 [.ref a0, .int x1] h (some (.int q.1)) q.2 := by
  refine MM.of (mFx (j := 35) rfl).2.2.2.1 (Nat.le_of_ble_eq_true rfl) (fun X => ?_)
  refine ev_ok (o := 0) (ini := false) (Cl := C_X0_widthBehind N) (Rc := RcI) (B := B_X0_widthBehind) (K := fun pc ls st g => kb pc 7 (lgr 0 ls fun a0 => lgi 1 ls fun x1 => lgi 2 ls fun x2 => lgi 3 ls fun x3 => pe st (L_X0_widthBehind_7 N N a0 x1 x2 x3 g)) (none)) rfl (fun e => by cases e) (by decide) (rcI_ok rfl) ?_ (co_X0_widthBehind N q) lb_X0_widthBehind 3000 0 S_X0_widthBehind_0 _ _ h ls_X0_widthBehind_0 hf
  intro pc ls st g e
  rcases kb_s e with ⟨rfl, e⟩ | e
  · obtain ⟨a0, e0, f0⟩ := lgr_s e
    obtain ⟨x1, e1, f1⟩ := lgi_s f0
    obtain ⟨x2, e2, f2⟩ := lgi_s f1
    obtain ⟨x3, e3, f3⟩ := lgi_s f2
    obtain ⟨qe, fe⟩ := pe_s f3
    subst qe
    exact MW.sub (List.forall_mem_cons.mpr ⟨lg_mem e0, List.forall_mem_cons.mpr ⟨lg_mem e1, List.forall_mem_cons.mpr ⟨lg_mem e2, List.forall_mem_cons.mpr ⟨lg_mem e3, fun _ h => absurd h List.not_mem_nil⟩⟩⟩⟩) (t_X0_widthBehind_7 N N a0 x1 x2 x3 g fe)
  cases e
def f_X11_drawn (N : Nat) (x0 : Int32) (h : mH) : Option (Int32 × mH) :=
  some (iAdd (iMul (jI 1103515245) x0) (jI 12345), h)
def y_X11_drawn : mM := (yX11_drawn, cX11_drawn, 1, (some .int))
def B_X11_drawn : List (Nat × List mI) := []
def S_X11_drawn_0 : List mI := [(.ldc_w 471, 3, [3], [1103515245]), (.iload_n 0, 1, [0], []), (.imul, 1, [], []), (.sipush 12345, 3, [], [12345]), (.iadd, 1, [], []), (.ireturn, 1, [], [])]
theorem lb_X11_drawn : B_X11_drawn.all (fun b => lst y_X11_drawn.2.1 11 y_X11_drawn.2.2.1 false b.1 b.2) = true := by decide +kernel
theorem ls_X11_drawn_0 : lst y_X11_drawn.2.1 11 y_X11_drawn.2.2.1 false 0 S_X11_drawn_0 = true := by decide +kernel
def C_X11_drawn (N : Nat) : Nat → List Value → mH → (Option Value → mH → Option (Int32 × mH)) → Option (Int32 × mH) := fun j as g k => none
theorem co_X11_drawn (N : Nat) (q : Int32 × mH) : clOK 4 q (C_X11_drawn N) := by
  intro j as g k e
  cases e
set_option maxRecDepth 100000 in
theorem m_X11_drawn (N : Nat) {x0 : Int32} {h : mH} {q : Int32 × mH} (hf : f_X11_drawn N x0 h = some q) : MM y_X11_drawn 4 [.int x0] h (some (.int q.1)) q.2 := by
  refine MM.of (mFx (j := 220) rfl).2.2.2.1 (Nat.le_of_ble_eq_true rfl) (fun X => ?_)
  refine ev_ok (o := 11) (ini := false) (Cl := C_X11_drawn N) (Rc := RcI) (B := B_X11_drawn) (K := fun pc ls st g => none) rfl (fun e => by cases e) (by decide) (rcI_ok rfl) ?_ (co_X11_drawn N q) lb_X11_drawn 3000 0 S_X11_drawn_0 _ _ h ls_X11_drawn_0 hf
  intro pc ls st g e
  cases e
def L_X0_wanderFrom_58 (N : Nat) (k46 : Nat → Int32 → Int32 → Int32 → Int32 → Int32 → Int32 → mH → Option (Int32 × mH)) : Nat → Nat → Int32 → Int32 → Int32 → Int32 → Int32 → Int32 → Int32 → mH → Option (Int32 × mH)
  | 0, _, _, _, _, _, _, _, _, _ => none
  | n + 1, a0, x2, x3, x4, x5, x6, x7, x8, h =>
    (rcv h 0 a0).bind fun _ =>
    (f_X0_ofBand N a0 x7 (jI 3) h).bind fun p1 =>
    if x8 < p1.1 then
      (f_X11_drawn N x3 p1.2).bind fun p2 =>
      (rcv p2.2 0 a0).bind fun _ =>
      (f_X0_ofBand N a0 x7 (jI 6) p2.2).bind fun p3 =>
      if (jI 3) = 0 then none else
      let w4 := iMax (jI 1) (iSub (iAdd (iAdd x4 p3.1) (iRem (iUsr p2.1 (jI 16)) (jI 3))) (jI 1))
      let w5 := iMin x5 w4
      let w6 := iMax x6 w4
      let w7 := iAdd x8 (jI 1)
      L_X0_wanderFrom_58 N k46 n a0 x2 p2.1 w4 w5 w6 x7 w7 p3.2
    else
      let w8 := iAdd x7 (jI 1)
      k46 a0 x2 x3 x4 x5 x6 w8 p1.2
def L_X0_wanderFrom_46 (N : Nat) : Nat → Nat → Int32 → Int32 → Int32 → Int32 → Int32 → Int32 → mH → Option (Int32 × mH)
  | 0, _, _, _, _, _, _, _, _ => none
  | n + 1, a0, x2, x3, x4, x5, x6, x7, h =>
    (gI h 0 a0 2).bind fun v1 =>
    if x7 < v1 then
      L_X0_wanderFrom_58 N (L_X0_wanderFrom_46 N n) N a0 x2 x3 x4 x5 x6 x7 (jI 0) h
    else
      if x2 = jI 0 then
        some (x4, h)
      else
      if x2 = jI 1 then
        some (x5, h)
      else
      some (x6, h)
def J_X0_wanderFrom_24 (N : Nat) (a0 : Nat) (x2 : Int32) (x3 : Int32) (x4 : Int32) (s_0 : Int32) (h : mH) : Option (Int32 × mH) :=
  (gI h 0 a0 2).bind fun v1 =>
  if v1 = 0 then
    (gI h 0 a0 5).bind fun v2 =>
    L_X0_wanderFrom_46 N N a0 x2 x3 x4 s_0 v2 (jI 0) h
  else
    L_X0_wanderFrom_46 N N a0 x2 x3 x4 s_0 (jI 0) (jI 0) h
def f_X0_wanderFrom (N : Nat) (a0 : Nat) (x1 : Int32) (x2 : Int32) (h : mH) : Option (Int32 × mH) :=
  (gI h 0 a0 5).bind fun v1 =>
  (gI h 0 a0 2).bind fun v2 =>
  if v2 = 0 then
    (gI h 0 a0 5).bind fun v3 =>
    J_X0_wanderFrom_24 N a0 x2 x1 v1 v3 h
  else
    J_X0_wanderFrom_24 N a0 x2 x1 v1 (jI 2147483647) h
def y_X0_wanderFrom : mM := (yX0_wanderFrom, cX0_wanderFrom, 9, (some .int))
def B_X0_wanderFrom : List (Nat × List mI) := [(22, [(.ldc 112, 2, [0, 8], [2147483647])]), (40, [(.iconst 0, 1, [], [0])]), (41, [(.istore 6, 2, [6], []), (.iconst 0, 1, [], [0]), (.istore 7, 2, [7], [])]), (125, [(.iinc 7 1, 3, [7], [1]), (.goto (-82), 3, [46], [])]), (131, [(.iload_n 2, 1, [2], []), (.lookupswitch 34 #[(0, 28), (1, 31)], 28, [166, 160, 163], [0, 1])]), (160, [(.iload 4, 2, [4], []), (.ireturn, 1, [], [])]), (163, [(.iload 5, 2, [5], []), (.ireturn, 1, [], [])]), (166, [(.iload 6, 2, [6], []), (.ireturn, 1, [], [])])]
def S_X0_wanderFrom_0 : List mI := [(.iload_n 1, 1, [1], []), (.istore_n 3, 1, [3], []), (.aload_n 0, 1, [0], []), (.getfield 25, 3, [0, 5, 0, 17], []), (.istore 4, 2, [4], []), (.aload_n 0, 1, [0], []), (.getfield 34, 3, [0, 2, 0, 7], []), (.ifCond .ne 10, 3, [22], []), (.aload_n 0, 1, [0], []), (.getfield 25, 3, [0, 5, 0, 17], []), (.goto 5, 3, [24], [])]
def S_X0_wanderFrom_24 : List mI := [(.istore 5, 2, [5], []), (.aload_n 0, 1, [0], []), (.getfield 34, 3, [0, 2, 0, 7], []), (.ifCond .ne 10, 3, [40], []), (.aload_n 0, 1, [0], []), (.getfield 25, 3, [0, 5, 0, 17], []), (.goto 4, 3, [41], [])]
def S_X0_wanderFrom_46 : List mI := [(.iload 7, 2, [7], []), (.aload_n 0, 1, [0], []), (.getfield 34, 3, [0, 2, 0, 7], []), (.if_icmp .ge 79, 3, [131], []), (.iconst 0, 1, [], [0]), (.istore 8, 2, [8], [])]
def S_X0_wanderFrom_58 : List mI := [(.iload 8, 2, [8], []), (.aload_n 0, 1, [0], []), (.iload 7, 2, [7], []), (.iconst 3, 1, [], [3]), (.invokevirtual 53, 3, [0, 9, 2, 0, 33], []), (.if_icmp .ge 58, 3, [125], []), (.iload_n 3, 1, [3], []), (.invokestatic 113, 3, [3, 220, 1, 0, 15], []), (.istore_n 3, 1, [3], []), (.iconst 1, 1, [], [1]), (.iload 4, 2, [4], []), (.aload_n 0, 1, [0], []), (.iload 7, 2, [7], []), (.bipush 6, 2, [], [6]), (.invokevirtual 53, 3, [0, 9, 2, 0, 33], []), (.iadd, 1, [], []), (.iload_n 3, 1, [3], []), (.bipush 16, 2, [], [16]), (.iushr, 1, [], []), (.iconst 3, 1, [], [3]), (.irem, 1, [], []), (.iadd, 1, [], []), (.iconst 1, 1, [], [1]), (.isub, 1, [], []), (.invokestatic 65, 3, [6, 0, 0, 0, 16], []), (.istore 4, 2, [4], []), (.iload 5, 2, [5], []), (.iload 4, 2, [4], []), (.invokestatic 87, 3, [7, 0, 0, 0, 17], []), (.istore 5, 2, [5], []), (.iload 6, 2, [6], []), (.iload 4, 2, [4], []), (.invokestatic 65, 3, [6, 0, 0, 0, 16], []), (.istore 6, 2, [6], []), (.iinc 8 1, 3, [8], [1]), (.goto (-64), 3, [58], [])]
theorem lb_X0_wanderFrom : B_X0_wanderFrom.all (fun b => lst y_X0_wanderFrom.2.1 0 y_X0_wanderFrom.2.2.1 false b.1 b.2) = true := by decide +kernel
theorem ls_X0_wanderFrom_0 : lst y_X0_wanderFrom.2.1 0 y_X0_wanderFrom.2.2.1 false 0 S_X0_wanderFrom_0 = true := by decide +kernel
theorem ls_X0_wanderFrom_24 : lst y_X0_wanderFrom.2.1 0 y_X0_wanderFrom.2.2.1 false 24 S_X0_wanderFrom_24 = true := by decide +kernel
theorem ls_X0_wanderFrom_46 : lst y_X0_wanderFrom.2.1 0 y_X0_wanderFrom.2.2.1 false 46 S_X0_wanderFrom_46 = true := by decide +kernel
theorem ls_X0_wanderFrom_58 : lst y_X0_wanderFrom.2.1 0 y_X0_wanderFrom.2.2.1 false 58 S_X0_wanderFrom_58 = true := by decide +kernel
def C_X0_wanderFrom (N : Nat) : Nat → List Value → mH → (Option Value → mH → Option (Int32 × mH)) → Option (Int32 × mH) := fun j as g k => kb j 9 (pr1 as fun b0 as => pp1 as fun b1 as => pp1 as fun b2 as => pe as ((f_X0_ofBand N b0 b1 b2 g).bind fun p => k (some (.int p.1)) p.2)) (kb j 220 (pp1 as fun b0 as => pe as ((f_X11_drawn N b0 g).bind fun p => k (some (.int p.1)) p.2)) (none))
theorem co_X0_wanderFrom (N : Nat) (q : Int32 × mH) : clOK 5 q (C_X0_wanderFrom N) := by
  intro j as g k e
  rcases kb_s e with ⟨rfl, e⟩ | e
  · obtain ⟨b0, r0, q0, f0⟩ := pr1_s e
    obtain ⟨b1, r1, q1, f1⟩ := pp1_s f0
    obtain ⟨b2, r2, q2, f2⟩ := pp1_s f1
    obtain ⟨qe, fe⟩ := pe_s f2
    obtain ⟨p, e1, e2⟩ := bnd_s fe
    subst qe
    subst q2
    subst q1
    subst q0
    exact ⟨_, _, _, _, 4, rfl, (by decide), m_X0_ofBand N e1, e2⟩
  rcases kb_s e with ⟨rfl, e⟩ | e
  · obtain ⟨b0, r0, q0, f0⟩ := pp1_s e
    obtain ⟨qe, fe⟩ := pe_s f0
    obtain ⟨p, e1, e2⟩ := bnd_s fe
    subst qe
    subst q0
    exact ⟨_, _, _, _, 4, rfl, (by decide), m_X11_drawn N e1, e2⟩
  cases e
set_option maxRecDepth 100000 in
theorem t_X0_wanderFrom_58 {X : Nat × (Nat → Int32)} (N : Nat) {q : Int32 × mH} {k46 : Nat → Int32 → Int32 → Int32 → Int32 → Int32 → Int32 → mH → Option (Int32 × mH)} (hk46 : ∀ (a0 : Nat) (x2 : Int32) (x3 : Int32) (x4 : Int32) (x5 : Int32) (x6 : Int32) (x7 : Int32) g, k46 a0 x2 x3 x4 x5 x6 x7 g = some q → MW X y_X0_wanderFrom 5 46 [(0, .ref a0), (2, .int x2), (3, .int x3), (4, .int x4), (5, .int x5), (6, .int x6), (7, .int x7)] [] g (some (.int q.1)) q.2) : ∀ (n : Nat) (a0 : Nat) (x2 : Int32) (x3 : Int32) (x4 : Int32) (x5 : Int32) (x6 : Int32) (x7 : Int32) (x8 : Int32) (h : mH), L_X0_wanderFrom_58 N k46 n a0 x2 x3 x4 x5 x6 x7 x8 h = some q → MW X y_X0_wanderFrom 5 58 [(0, .ref a0), (2, .int x2), (3, .int x3), (4, .int x4), (5, .int x5), (6, .int x6), (7, .int x7), (8, .int x8)] [] h (some (.int q.1)) q.2 := by
  intro n
  induction n with
  | zero => intro a0 x2 x3 x4 x5 x6 x7 x8 h hf; cases hf
  | succ n ih =>
    intro a0 x2 x3 x4 x5 x6 x7 x8 h hf
    refine ev_ok (o := 0) (ini := false) (Cl := C_X0_wanderFrom N) (Rc := RcI) (B := B_X0_wanderFrom) (K := fun pc ls st g => kb pc 46 (lgr 0 ls fun a0 => lgi 2 ls fun x2 => lgi 3 ls fun x3 => lgi 4 ls fun x4 => lgi 5 ls fun x5 => lgi 6 ls fun x6 => lgi 7 ls fun x7 => pe st (k46 a0 x2 x3 x4 x5 x6 x7 g)) (kb pc 58 (lgr 0 ls fun a0 => lgi 2 ls fun x2 => lgi 3 ls fun x3 => lgi 4 ls fun x4 => lgi 5 ls fun x5 => lgi 6 ls fun x6 => lgi 7 ls fun x7 => lgi 8 ls fun x8 => pe st (L_X0_wanderFrom_58 N k46 n a0 x2 x3 x4 x5 x6 x7 x8 g)) (none))) rfl (fun e => by cases e) (by decide) (rcI_ok rfl) ?_ (co_X0_wanderFrom N q) lb_X0_wanderFrom 3000 58 S_X0_wanderFrom_58 _ _ h ls_X0_wanderFrom_58 hf
    intro pc ls st g e
    rcases kb_s e with ⟨rfl, e⟩ | e
    · obtain ⟨a0, e0, f0⟩ := lgr_s e
      obtain ⟨x2, e1, f1⟩ := lgi_s f0
      obtain ⟨x3, e2, f2⟩ := lgi_s f1
      obtain ⟨x4, e3, f3⟩ := lgi_s f2
      obtain ⟨x5, e4, f4⟩ := lgi_s f3
      obtain ⟨x6, e5, f5⟩ := lgi_s f4
      obtain ⟨x7, e6, f6⟩ := lgi_s f5
      obtain ⟨qe, fe⟩ := pe_s f6
      subst qe
      exact MW.sub (List.forall_mem_cons.mpr ⟨lg_mem e0, List.forall_mem_cons.mpr ⟨lg_mem e1, List.forall_mem_cons.mpr ⟨lg_mem e2, List.forall_mem_cons.mpr ⟨lg_mem e3, List.forall_mem_cons.mpr ⟨lg_mem e4, List.forall_mem_cons.mpr ⟨lg_mem e5, List.forall_mem_cons.mpr ⟨lg_mem e6, fun _ h => absurd h List.not_mem_nil⟩⟩⟩⟩⟩⟩⟩) (hk46 a0 x2 x3 x4 x5 x6 x7 g fe)
    rcases kb_s e with ⟨rfl, e⟩ | e
    · obtain ⟨a0, e0, f0⟩ := lgr_s e
      obtain ⟨x2, e1, f1⟩ := lgi_s f0
      obtain ⟨x3, e2, f2⟩ := lgi_s f1
      obtain ⟨x4, e3, f3⟩ := lgi_s f2
      obtain ⟨x5, e4, f4⟩ := lgi_s f3
      obtain ⟨x6, e5, f5⟩ := lgi_s f4
      obtain ⟨x7, e6, f6⟩ := lgi_s f5
      obtain ⟨x8, e7, f7⟩ := lgi_s f6
      obtain ⟨qe, fe⟩ := pe_s f7
      subst qe
      exact MW.sub (List.forall_mem_cons.mpr ⟨lg_mem e0, List.forall_mem_cons.mpr ⟨lg_mem e1, List.forall_mem_cons.mpr ⟨lg_mem e2, List.forall_mem_cons.mpr ⟨lg_mem e3, List.forall_mem_cons.mpr ⟨lg_mem e4, List.forall_mem_cons.mpr ⟨lg_mem e5, List.forall_mem_cons.mpr ⟨lg_mem e6, List.forall_mem_cons.mpr ⟨lg_mem e7, fun _ h => absurd h List.not_mem_nil⟩⟩⟩⟩⟩⟩⟩⟩) (ih a0 x2 x3 x4 x5 x6 x7 x8 g fe)
    cases e
set_option maxRecDepth 100000 in
theorem t_X0_wanderFrom_46 {X : Nat × (Nat → Int32)} (N : Nat) {q : Int32 × mH} : ∀ (n : Nat) (a0 : Nat) (x2 : Int32) (x3 : Int32) (x4 : Int32) (x5 : Int32) (x6 : Int32) (x7 : Int32) (h : mH), L_X0_wanderFrom_46 N n a0 x2 x3 x4 x5 x6 x7 h = some q → MW X y_X0_wanderFrom 5 46 [(0, .ref a0), (2, .int x2), (3, .int x3), (4, .int x4), (5, .int x5), (6, .int x6), (7, .int x7)] [] h (some (.int q.1)) q.2 := by
  intro n
  induction n with
  | zero => intro a0 x2 x3 x4 x5 x6 x7 h hf; cases hf
  | succ n ih =>
    intro a0 x2 x3 x4 x5 x6 x7 h hf
    refine ev_ok (o := 0) (ini := false) (Cl := C_X0_wanderFrom N) (Rc := RcI) (B := B_X0_wanderFrom) (K := fun pc ls st g => kb pc 58 (lgr 0 ls fun a0 => lgi 2 ls fun x2 => lgi 3 ls fun x3 => lgi 4 ls fun x4 => lgi 5 ls fun x5 => lgi 6 ls fun x6 => lgi 7 ls fun x7 => lgi 8 ls fun x8 => pe st (L_X0_wanderFrom_58 N (L_X0_wanderFrom_46 N n) N a0 x2 x3 x4 x5 x6 x7 x8 g)) (none)) rfl (fun e => by cases e) (by decide) (rcI_ok rfl) ?_ (co_X0_wanderFrom N q) lb_X0_wanderFrom 3000 46 S_X0_wanderFrom_46 _ _ h ls_X0_wanderFrom_46 hf
    intro pc ls st g e
    rcases kb_s e with ⟨rfl, e⟩ | e
    · obtain ⟨a0, e0, f0⟩ := lgr_s e
      obtain ⟨x2, e1, f1⟩ := lgi_s f0
      obtain ⟨x3, e2, f2⟩ := lgi_s f1
      obtain ⟨x4, e3, f3⟩ := lgi_s f2
      obtain ⟨x5, e4, f4⟩ := lgi_s f3
      obtain ⟨x6, e5, f5⟩ := lgi_s f4
      obtain ⟨x7, e6, f6⟩ := lgi_s f5
      obtain ⟨x8, e7, f7⟩ := lgi_s f6
      obtain ⟨qe, fe⟩ := pe_s f7
      subst qe
      exact MW.sub (List.forall_mem_cons.mpr ⟨lg_mem e0, List.forall_mem_cons.mpr ⟨lg_mem e1, List.forall_mem_cons.mpr ⟨lg_mem e2, List.forall_mem_cons.mpr ⟨lg_mem e3, List.forall_mem_cons.mpr ⟨lg_mem e4, List.forall_mem_cons.mpr ⟨lg_mem e5, List.forall_mem_cons.mpr ⟨lg_mem e6, List.forall_mem_cons.mpr ⟨lg_mem e7, fun _ h => absurd h List.not_mem_nil⟩⟩⟩⟩⟩⟩⟩⟩) (t_X0_wanderFrom_58 N (fun a0 x2 x3 x4 x5 x6 x7 g e => ih a0 x2 x3 x4 x5 x6 x7 g e) N a0 x2 x3 x4 x5 x6 x7 x8 g fe)
    cases e
set_option maxRecDepth 100000 in
theorem t_X0_wanderFrom_24 {X : Nat × (Nat → Int32)} (N : Nat) {q : Int32 × mH} (a0 : Nat) (x2 : Int32) (x3 : Int32) (x4 : Int32) (s_0 : Int32) (h : mH) (hf : J_X0_wanderFrom_24 N a0 x2 x3 x4 s_0 h = some q) : MW X y_X0_wanderFrom 5 24 [(0, .ref a0), (2, .int x2), (3, .int x3), (4, .int x4)] [.int s_0] h (some (.int q.1)) q.2 := by
  refine ev_ok (o := 0) (ini := false) (Cl := C_X0_wanderFrom N) (Rc := RcI) (B := B_X0_wanderFrom) (K := fun pc ls st g => kb pc 46 (lgr 0 ls fun a0 => lgi 2 ls fun x2 => lgi 3 ls fun x3 => lgi 4 ls fun x4 => lgi 5 ls fun x5 => lgi 6 ls fun x6 => lgi 7 ls fun x7 => pe st (L_X0_wanderFrom_46 N N a0 x2 x3 x4 x5 x6 x7 g)) (none)) rfl (fun e => by cases e) (by decide) (rcI_ok rfl) ?_ (co_X0_wanderFrom N q) lb_X0_wanderFrom 3000 24 S_X0_wanderFrom_24 _ _ h ls_X0_wanderFrom_24 hf
  intro pc ls st g e
  rcases kb_s e with ⟨rfl, e⟩ | e
  · obtain ⟨a0, e0, f0⟩ := lgr_s e
    obtain ⟨x2, e1, f1⟩ := lgi_s f0
    obtain ⟨x3, e2, f2⟩ := lgi_s f1
    obtain ⟨x4, e3, f3⟩ := lgi_s f2
    obtain ⟨x5, e4, f4⟩ := lgi_s f3
    obtain ⟨x6, e5, f5⟩ := lgi_s f4
    obtain ⟨x7, e6, f6⟩ := lgi_s f5
    obtain ⟨qe, fe⟩ := pe_s f6
    subst qe
    exact MW.sub (List.forall_mem_cons.mpr ⟨lg_mem e0, List.forall_mem_cons.mpr ⟨lg_mem e1, List.forall_mem_cons.mpr ⟨lg_mem e2, List.forall_mem_cons.mpr ⟨lg_mem e3, List.forall_mem_cons.mpr ⟨lg_mem e4, List.forall_mem_cons.mpr ⟨lg_mem e5, List.forall_mem_cons.mpr ⟨lg_mem e6, fun _ h => absurd h List.not_mem_nil⟩⟩⟩⟩⟩⟩⟩) (t_X0_wanderFrom_46 N N a0 x2 x3 x4 x5 x6 x7 g fe)
  cases e
set_option maxRecDepth 100000 in
theorem m_X0_wanderFrom (N : Nat) {a0 : Nat} {x1 : Int32} {x2 : Int32} {h : mH} {q : Int32 × mH} (hf : f_X0_wanderFrom N a0 x1 x2 h = some q) : MM y_X0_wanderFrom 5 [.ref a0, .int x1, .int x2] h (some (.int q.1)) q.2 := by
  refine MM.of (mFx (j := 36) rfl).2.2.2.1 (Nat.le_of_ble_eq_true rfl) (fun X => ?_)
  refine ev_ok (o := 0) (ini := false) (Cl := C_X0_wanderFrom N) (Rc := RcI) (B := B_X0_wanderFrom) (K := fun pc ls st g => kb pc 24 (lgr 0 ls fun a0 => lgi 2 ls fun x2 => lgi 3 ls fun x3 => lgi 4 ls fun x4 => pp1 st fun s_0 st => pe st (J_X0_wanderFrom_24 N a0 x2 x3 x4 s_0 g)) (none)) rfl (fun e => by cases e) (by decide) (rcI_ok rfl) ?_ (co_X0_wanderFrom N q) lb_X0_wanderFrom 3000 0 S_X0_wanderFrom_0 _ _ h ls_X0_wanderFrom_0 hf
  intro pc ls st g e
  rcases kb_s e with ⟨rfl, e⟩ | e
  · obtain ⟨a0, e0, f0⟩ := lgr_s e
    obtain ⟨x2, e1, f1⟩ := lgi_s f0
    obtain ⟨x3, e2, f2⟩ := lgi_s f1
    obtain ⟨x4, e3, f3⟩ := lgi_s f2
    obtain ⟨s_0, r0, q0, g0⟩ := pp1_s f3
    obtain ⟨qe, fe⟩ := pe_s g0
    subst qe
    subst q0
    exact MW.sub (List.forall_mem_cons.mpr ⟨lg_mem e0, List.forall_mem_cons.mpr ⟨lg_mem e1, List.forall_mem_cons.mpr ⟨lg_mem e2, List.forall_mem_cons.mpr ⟨lg_mem e3, fun _ h => absurd h List.not_mem_nil⟩⟩⟩⟩) (t_X0_wanderFrom_24 N a0 x2 x3 x4 s_0 g fe)
  cases e
def f_X1_init (N : Nat) (a0 : Nat) (h : mH) : Option (mH) :=
  (nwA h 0 (jI 8)).bind fun h1 =>
  (pV h1 1 a0 4 (.ref h.1)).bind fun h2 =>
  (nwA h2 0 (jI 8)).bind fun h3 =>
  (pV h3 1 a0 5 (.ref h2.1)).bind fun h4 =>
  (nwA h4 0 (jI 8)).bind fun h5 =>
  (pV h5 1 a0 6 (.ref h4.1)).bind fun h6 =>
  (nwA h6 0 (jI 8)).bind fun h7 =>
  (pV h7 1 a0 7 (.ref h6.1)).bind fun h8 =>
  (nwA h8 0 (jI 8)).bind fun h9 =>
  (pV h9 1 a0 8 (.ref h8.1)).bind fun h10 =>
  (nwA h10 0 (jI 8)).bind fun h11 =>
  (pV h11 1 a0 9 (.ref h10.1)).bind fun h12 =>
  (nwA h12 0 (jI 19)).bind fun h13 =>
  (pV h13 1 a0 10 (.ref h12.1)).bind fun h14 =>
  (nwA h14 0 (jI 19)).bind fun h15 =>
  (pV h15 1 a0 11 (.ref h14.1)).bind fun h16 =>
  (nwA h16 0 (jI 19)).bind fun h17 =>
  (pV h17 1 a0 12 (.ref h16.1)).bind fun h18 =>
  (nwA h18 0 (jI 19)).bind fun h19 =>
  (pV h19 1 a0 13 (.ref h18.1)).bind fun h20 =>
  (nwA h20 1 (jI 0)).bind fun h21 =>
  (pV h21 1 a0 14 (.ref h20.1)).bind fun h22 =>
  (nwA h22 1 (jI 0)).bind fun h23 =>
  (pV h23 1 a0 15 (.ref h22.1)).bind fun h24 =>
  some h24
def y_X1_init : mM := (yX1_init, cX1_init, 1, none)
def B_X1_init : List (Nat × List mI) := []
def S_X1_init_0 : List mI := [(.aload_n 0, 1, [0], []), (.invokespecial 7, 3, [5, 0, 0, 0, 10], []), (.aload_n 0, 1, [0], []), (.bipush 8, 2, [], [8]), (.newarray .int, 2, [0], []), (.putfield 13, 3, [1, 4, 2, 94], []), (.aload_n 0, 1, [0], []), (.bipush 8, 2, [], [8]), (.newarray .int, 2, [0], []), (.putfield 17, 3, [1, 5, 2, 95], []), (.aload_n 0, 1, [0], []), (.bipush 8, 2, [], [8]), (.newarray .int, 2, [0], []), (.putfield 20, 3, [1, 6, 2, 96], []), (.aload_n 0, 1, [0], []), (.bipush 8, 2, [], [8]), (.newarray .int, 2, [0], []), (.putfield 23, 3, [1, 7, 2, 97], []), (.aload_n 0, 1, [0], []), (.bipush 8, 2, [], [8]), (.newarray .int, 2, [0], []), (.putfield 26, 3, [1, 8, 2, 98], []), (.aload_n 0, 1, [0], []), (.bipush 8, 2, [], [8]), (.newarray .int, 2, [0], []), (.putfield 29, 3, [1, 9, 2, 99], []), (.aload_n 0, 1, [0], []), (.bipush 19, 2, [], [19]), (.newarray .int, 2, [0], []), (.putfield 32, 3, [1, 10, 2, 100], []), (.aload_n 0, 1, [0], []), (.bipush 19, 2, [], [19]), (.newarray .int, 2, [0], []), (.putfield 35, 3, [1, 11, 2, 101], []), (.aload_n 0, 1, [0], []), (.bipush 19, 2, [], [19]), (.newarray .int, 2, [0], []), (.putfield 38, 3, [1, 12, 2, 102], []), (.aload_n 0, 1, [0], []), (.bipush 19, 2, [], [19]), (.newarray .int, 2, [0], []), (.putfield 41, 3, [1, 13, 2, 103], []), (.aload_n 0, 1, [0], []), (.iconst 0, 1, [], [0]), (.newarray .long, 2, [1], []), (.putfield 44, 3, [1, 14, 2, 104], []), (.aload_n 0, 1, [0], []), (.iconst 0, 1, [], [0]), (.newarray .long, 2, [1], []), (.putfield 48, 3, [1, 15, 2, 105], []), (.return_, 1, [], [])]
theorem lb_X1_init : B_X1_init.all (fun b => lst y_X1_init.2.1 1 y_X1_init.2.2.1 true b.1 b.2) = true := by decide +kernel
theorem ls_X1_init_0 : lst y_X1_init.2.1 1 y_X1_init.2.2.1 true 0 S_X1_init_0 = true := by decide +kernel
def C_X1_init (N : Nat) : Nat → List Value → mH → (Option Value → mH → Option (mH)) → Option (mH) := fun j as g k => none
theorem co_X1_init (N : Nat) (q : mH) : clOK 4 q (C_X1_init N) := by
  intro j as g k e
  cases e
set_option maxRecDepth 100000 in
theorem m_X1_init (N : Nat) {a0 : Nat} {h : mH} {q : mH} (hf : f_X1_init N a0 h = some q) : MM y_X1_init 4 [.ref a0] h none q := by
  refine MM.of (mFx (j := 37) rfl).2.2.2.1 (Nat.le_of_ble_eq_true rfl) (fun X => ?_)
  refine ev_ok (o := 1) (ini := true) (Cl := C_X1_init N) (Rc := RcV) (B := B_X1_init) (K := fun pc ls st g => none) rfl (fun _ => rfl) (by decide) (rcV_ok rfl) ?_ (co_X1_init N q) lb_X1_init 3000 0 S_X1_init_0 _ _ h ls_X1_init_0 hf
  intro pc ls st g e
  cases e
