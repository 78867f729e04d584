/-! printed by wip/whole/gen_code.py: the functions of methods 240 to 279 (leaves first), and their contracts -/
def L_X12_next_89 (N : Nat) : Nat → Nat → mH → Option (mH)
  | 0, _, _ => none
  | n + 1, a0, h =>
    (gI h 12 a0 8).bind fun v1 =>
    (rcv h 12 a0).bind fun _ =>
    (f_X12_see N a0 v1 h).bind fun p2 =>
    (f_X12_isSmall N p2.1 p2.2).bind fun p3 =>
    if p3.1 = 0 then
      (rcv p3.2 12 a0).bind fun _ =>
      (f_X12_keyAt N a0 p3.2).bind fun p4 =>
      (pV p4.2 12 a0 10 (.int p4.1)).bind fun h5 =>
      some h5
    else
      (gI p3.2 12 a0 8).bind fun v6 =>
      (pV p3.2 12 a0 8 (.int (iAdd v6 (jI 1)))).bind fun h7 =>
      L_X12_next_89 N n a0 h7
def L_X12_next_146 (N : Nat) : Nat → Nat → mH → Option (mH)
  | 0, _, _ => none
  | n + 1, a0, h =>
    (gI h 12 a0 8).bind fun v1 =>
    (rcv h 12 a0).bind fun _ =>
    (f_X12_see N a0 v1 h).bind fun p2 =>
    (f_X12_isDigit N p2.1 p2.2).bind fun p3 =>
    if p3.1 = 0 then
      (gI p3.2 12 a0 8).bind fun v4 =>
      (gI p3.2 12 a0 7).bind fun v5 =>
      if (jI 4) < (iSub v4 v5) then
        (pV p3.2 12 a0 10 (.int (jI 21))).bind fun h6 =>
        some h6
      else
        (pV p3.2 12 a0 10 (.int (jI 18))).bind fun h7 =>
        some h7
    else
      (gI p3.2 12 a0 8).bind fun v8 =>
      (gI p3.2 12 a0 7).bind fun v9 =>
      if (iSub v8 v9) < (jI 4) then
        (gI p3.2 12 a0 11).bind fun v10 =>
        (gI p3.2 12 a0 8).bind fun v11 =>
        (rcv p3.2 12 a0).bind fun _ =>
        (f_X12_see N a0 v11 p3.2).bind fun p12 =>
        (pV p12.2 12 a0 11 (.int (iSub (iAdd (iMul (jI 10) v10) p12.1) (jI 48)))).bind fun h13 =>
        (gI h13 12 a0 8).bind fun v14 =>
        (pV h13 12 a0 8 (.int (iAdd v14 (jI 1)))).bind fun h15 =>
        L_X12_next_146 N n a0 h15
      else
        (gI p3.2 12 a0 8).bind fun v16 =>
        (pV p3.2 12 a0 8 (.int (iAdd v16 (jI 1)))).bind fun h17 =>
        L_X12_next_146 N n a0 h17
def L_X12_next_8 (N : Nat) : Nat → Nat → mH → Option (mH)
  | 0, _, _ => none
  | n + 1, a0, h =>
    (gI h 12 a0 7).bind fun v1 =>
    (rcv h 12 a0).bind fun _ =>
    (f_X12_see N a0 v1 h).bind fun p2 =>
    if p2.1 = (jI 10) then
      (gI p2.2 12 a0 7).bind fun v3 =>
      (pV p2.2 12 a0 7 (.int (iAdd v3 (jI 1)))).bind fun h4 =>
      L_X12_next_8 N n a0 h4
    else
      (gI p2.2 12 a0 7).bind fun v5 =>
      (rcv p2.2 12 a0).bind fun _ =>
      (f_X12_see N a0 v5 p2.2).bind fun p6 =>
      if p6.1 = (jI 32) then
        (gI p6.2 12 a0 7).bind fun v7 =>
        (pV p6.2 12 a0 7 (.int (iAdd v7 (jI 1)))).bind fun h8 =>
        L_X12_next_8 N n a0 h8
      else
        (gI p6.2 12 a0 7).bind fun v9 =>
        (pV p6.2 12 a0 8 (.int v9)).bind fun h10 =>
        (gI h10 12 a0 7).bind fun v11 =>
        (gI h10 12 a0 9).bind fun v12 =>
        if v11 < v12 then
          (gI h10 12 a0 7).bind fun v13 =>
          (rcv h10 12 a0).bind fun _ =>
          (f_X12_see N a0 v13 h10).bind fun p14 =>
          (f_X12_isSmall N p14.1 p14.2).bind fun p15 =>
          if p15.1 = 0 then
            (gI p15.2 12 a0 7).bind fun v16 =>
            (rcv p15.2 12 a0).bind fun _ =>
            (f_X12_see N a0 v16 p15.2).bind fun p17 =>
            (f_X12_isDigit N p17.1 p17.2).bind fun p18 =>
            if p18.1 = 0 then
              (gI p18.2 12 a0 8).bind fun v19 =>
              (pV p18.2 12 a0 8 (.int (iAdd v19 (jI 1)))).bind fun h20 =>
              (gI h20 12 a0 7).bind fun v21 =>
              (rcv h20 12 a0).bind fun _ =>
              (f_X12_see N a0 v21 h20).bind fun p22 =>
              if p22.1 = (jI 59) then
                (pV p22.2 12 a0 10 (.int (jI 19))).bind fun h23 =>
                some h23
              else
                (pV p22.2 12 a0 10 (.int (jI 21))).bind fun h24 =>
                some h24
            else
              (pV p18.2 12 a0 11 (.int (jI 0))).bind fun h25 =>
              L_X12_next_146 N N a0 h25
          else
            L_X12_next_89 N N a0 p15.2
        else
          (pV h10 12 a0 10 (.int (jI 20))).bind fun h26 =>
          some h26
def f_X12_next (N : Nat) (a0 : Nat) (h : mH) : Option (mH) :=
  (gI h 12 a0 8).bind fun v1 =>
  (pV h 12 a0 7 (.int v1)).bind fun h2 =>
  L_X12_next_8 N N a0 h2
def y_X12_next : mM := (yX12_next, cX12_next, 1, none)
def B_X12_next : List (Nat × List mI) := [(34, [(.aload_n 0, 1, [0], []), (.dup, 1, [], []), (.getfield 103, 3, [12, 7, 0, 133], []), (.iconst 1, 1, [], [1]), (.iadd, 1, [], []), (.putfield 103, 3, [12, 7, 0, 133], []), (.goto (-36), 3, [8], [])]), (47, [(.aload_n 0, 1, [0], []), (.aload_n 0, 1, [0], []), (.getfield 103, 3, [12, 7, 0, 133], []), (.putfield 106, 3, [12, 8, 0, 134], []), (.aload_n 0, 1, [0], []), (.getfield 103, 3, [12, 7, 0, 133], []), (.aload_n 0, 1, [0], []), (.getfield 88, 3, [12, 9, 0, 135], []), (.if_icmp .lt 12, 3, [75], []), (.aload_n 0, 1, [0], []), (.bipush 20, 2, [], [20]), (.putfield 112, 3, [12, 10, 0, 136], []), (.goto 198, 3, [270], [])]), (75, [(.aload_n 0, 1, [0], []), (.aload_n 0, 1, [0], []), (.getfield 103, 3, [12, 7, 0, 133], []), (.invokevirtual 109, 3, [0, 229, 1, 12, 271], []), (.invokestatic 115, 3, [1, 230, 1, 0, 272], []), (.ifCond .eq 41, 3, [127], [])]), (116, [(.aload_n 0, 1, [0], []), (.aload_n 0, 1, [0], []), (.invokevirtual 119, 3, [0, 232, 0, 12, 273], []), (.putfield 112, 3, [12, 10, 0, 136], []), (.goto 146, 3, [270], [])]), (127, [(.aload_n 0, 1, [0], []), (.aload_n 0, 1, [0], []), (.getfield 103, 3, [12, 7, 0, 133], []), (.invokevirtual 109, 3, [0, 229, 1, 12, 271], []), (.invokestatic 122, 3, [1, 231, 1, 0, 274], []), (.ifCond .eq 98, 3, [236], []), (.aload_n 0, 1, [0], []), (.iconst 0, 1, [], [0]), (.putfield 125, 3, [12, 11, 0, 137], [])]), (196, [(.aload_n 0, 1, [0], []), (.dup, 1, [], []), (.getfield 106, 3, [12, 8, 0, 134], []), (.iconst 1, 1, [], [1]), (.iadd, 1, [], []), (.putfield 106, 3, [12, 8, 0, 134], []), (.goto (-60), 3, [146], [])]), (209, [(.aload_n 0, 1, [0], []), (.aload_n 0, 1, [0], []), (.getfield 106, 3, [12, 8, 0, 134], []), (.aload_n 0, 1, [0], []), (.getfield 103, 3, [12, 7, 0, 133], []), (.isub, 1, [], []), (.iconst 4, 1, [], [4]), (.if_icmp .le 8, 3, [228], []), (.bipush 21, 2, [], [21]), (.goto 5, 3, [230], [])]), (228, [(.bipush 18, 2, [], [18])]), (230, [(.putfield 112, 3, [12, 10, 0, 136], []), (.goto 37, 3, [270], [])]), (236, [(.aload_n 0, 1, [0], []), (.dup, 1, [], []), (.getfield 106, 3, [12, 8, 0, 134], []), (.iconst 1, 1, [], [1]), (.iadd, 1, [], []), (.putfield 106, 3, [12, 8, 0, 134], []), (.aload_n 0, 1, [0], []), (.aload_n 0, 1, [0], []), (.aload_n 0, 1, [0], []), (.getfield 103, 3, [12, 7, 0, 133], []), (.invokevirtual 109, 3, [0, 229, 1, 12, 271], []), (.bipush 59, 2, [], [59]), (.if_icmp .ne 8, 3, [265], []), (.bipush 19, 2, [], [19]), (.goto 5, 3, [267], [])]), (265, [(.bipush 21, 2, [], [21])]), (267, [(.putfield 112, 3, [12, 10, 0, 136], [])]), (270, [(.return_, 1, [], [])])]
def S_X12_next_0 : List mI := [(.aload_n 0, 1, [0], []), (.aload_n 0, 1, [0], []), (.getfield 106, 3, [12, 8, 0, 134], []), (.putfield 103, 3, [12, 7, 0, 133], [])]
def S_X12_next_8 : List mI := [(.aload_n 0, 1, [0], []), (.aload_n 0, 1, [0], []), (.getfield 103, 3, [12, 7, 0, 133], []), (.invokevirtual 109, 3, [0, 229, 1, 12, 271], []), (.bipush 10, 2, [], [10]), (.if_icmp .eq 16, 3, [34], []), (.aload_n 0, 1, [0], []), (.aload_n 0, 1, [0], []), (.getfield 103, 3, [12, 7, 0, 133], []), (.invokevirtual 109, 3, [0, 229, 1, 12, 271], []), (.bipush 32, 2, [], [32]), (.if_icmp .ne 16, 3, [47], [])]
def S_X12_next_89 : List mI := [(.aload_n 0, 1, [0], []), (.aload_n 0, 1, [0], []), (.getfield 106, 3, [12, 8, 0, 134], []), (.invokevirtual 109, 3, [0, 229, 1, 12, 271], []), (.invokestatic 115, 3, [1, 230, 1, 0, 272], []), (.ifCond .eq 16, 3, [116], []), (.aload_n 0, 1, [0], []), (.dup, 1, [], []), (.getfield 106, 3, [12, 8, 0, 134], []), (.iconst 1, 1, [], [1]), (.iadd, 1, [], []), (.putfield 106, 3, [12, 8, 0, 134], []), (.goto (-24), 3, [89], [])]
def S_X12_next_146 : List mI := [(.aload_n 0, 1, [0], []), (.aload_n 0, 1, [0], []), (.getfield 106, 3, [12, 8, 0, 134], []), (.invokevirtual 109, 3, [0, 229, 1, 12, 271], []), (.invokestatic 122, 3, [1, 231, 1, 0, 274], []), (.ifCond .eq 52, 3, [209], []), (.aload_n 0, 1, [0], []), (.getfield 106, 3, [12, 8, 0, 134], []), (.aload_n 0, 1, [0], []), (.getfield 103, 3, [12, 7, 0, 133], []), (.isub, 1, [], []), (.iconst 4, 1, [], [4]), (.if_icmp .ge 26, 3, [196], []), (.aload_n 0, 1, [0], []), (.bipush 10, 2, [], [10]), (.aload_n 0, 1, [0], []), (.getfield 125, 3, [12, 11, 0, 137], []), (.imul, 1, [], []), (.aload_n 0, 1, [0], []), (.aload_n 0, 1, [0], []), (.getfield 106, 3, [12, 8, 0, 134], []), (.invokevirtual 109, 3, [0, 229, 1, 12, 271], []), (.iadd, 1, [], []), (.bipush 48, 2, [], [48]), (.isub, 1, [], []), (.putfield 125, 3, [12, 11, 0, 137], [])]
theorem lb_X12_next : B_X12_next.all (fun b => lst y_X12_next.2.1 12 y_X12_next.2.2.1 false b.1 b.2) = true := by decide +kernel
theorem ls_X12_next_0 : lst y_X12_next.2.1 12 y_X12_next.2.2.1 false 0 S_X12_next_0 = true := by decide +kernel
theorem ls_X12_next_8 : lst y_X12_next.2.1 12 y_X12_next.2.2.1 false 8 S_X12_next_8 = true := by decide +kernel
theorem ls_X12_next_89 : lst y_X12_next.2.1 12 y_X12_next.2.2.1 false 89 S_X12_next_89 = true := by decide +kernel
theorem ls_X12_next_146 : lst y_X12_next.2.1 12 y_X12_next.2.2.1 false 146 S_X12_next_146 = true := by decide +kernel
def C_X12_next (N : Nat) : Nat → List Value → mH → (Option Value → mH → Option (mH)) → Option (mH) := fun j as g k => kb j 229 (pr1 as fun b0 as => pp1 as fun b1 as => pe as ((f_X12_see N b0 b1 g).bind fun p => k (some (.int p.1)) p.2)) (kb j 230 (pp1 as fun b0 as => pe as ((f_X12_isSmall N b0 g).bind fun p => k (some (.int p.1)) p.2)) (kb j 232 (pr1 as fun b0 as => pe as ((f_X12_keyAt N b0 g).bind fun p => k (some (.int p.1)) p.2)) (kb j 231 (pp1 as fun b0 as => pe as ((f_X12_isDigit N b0 g).bind fun p => k (some (.int p.1)) p.2)) (none))))
theorem co_X12_next (N : Nat) (q : mH) : clOK 5 q (C_X12_next N) := by
  intro j as g k e
  rcases kb_s e with ⟨rfl, e⟩ | e
  · obtain ⟨b0, r0, q0, f0⟩ := pr1_s e
    obtain ⟨b1, r1, q1, f1⟩ := pp1_s f0
    obtain ⟨qe, fe⟩ := pe_s f1
    obtain ⟨p, e1, e2⟩ := bnd_s fe
    subst qe
    subst q1
    subst q0
    exact ⟨_, _, _, _, 4, rfl, (by decide), m_X12_see N e1, e2⟩
  rcases kb_s e with ⟨rfl, e⟩ | e
  · obtain ⟨b0, r0, q0, f0⟩ := pp1_s e
    obtain ⟨qe, fe⟩ := pe_s f0
    obtain ⟨p, e1, e2⟩ := bnd_s fe
    subst qe
    subst q0
    exact ⟨_, _, _, _, 4, rfl, (by decide), m_X12_isSmall N e1, e2⟩
  rcases kb_s e with ⟨rfl, e⟩ | e
  · obtain ⟨b0, r0, q0, f0⟩ := pr1_s e
    obtain ⟨qe, fe⟩ := pe_s f0
    obtain ⟨p, e1, e2⟩ := bnd_s fe
    subst qe
    subst q0
    exact ⟨_, _, _, _, 4, rfl, (by decide), m_X12_keyAt N e1, e2⟩
  rcases kb_s e with ⟨rfl, e⟩ | e
  · obtain ⟨b0, r0, q0, f0⟩ := pp1_s e
    obtain ⟨qe, fe⟩ := pe_s f0
    obtain ⟨p, e1, e2⟩ := bnd_s fe
    subst qe
    subst q0
    exact ⟨_, _, _, _, 4, rfl, (by decide), m_X12_isDigit N e1, e2⟩
  cases e
set_option maxRecDepth 100000 in
theorem t_X12_next_89 {X : Nat × (Nat → Int32)} (N : Nat) {q : mH} : ∀ (n : Nat) (a0 : Nat) (h : mH), L_X12_next_89 N n a0 h = some q → MW X y_X12_next 5 89 [(0, .ref a0)] [] h none q := by
  intro n
  induction n with
  | zero => intro a0 h hf; cases hf
  | succ n ih =>
    intro a0 h hf
    refine ev_ok (o := 12) (ini := false) (Cl := C_X12_next N) (Rc := RcV) (B := B_X12_next) (K := fun pc ls st g => kb pc 89 (lgr 0 ls fun a0 => pe st (L_X12_next_89 N n a0 g)) (none)) rfl (fun e => by cases e) (by decide) (rcV_ok rfl) ?_ (co_X12_next N q) lb_X12_next 3000 89 S_X12_next_89 _ _ h ls_X12_next_89 hf
    intro pc ls st g e
    rcases kb_s e with ⟨rfl, e⟩ | e
    · obtain ⟨a0, e0, f0⟩ := lgr_s e
      obtain ⟨qe, fe⟩ := pe_s f0
      subst qe
      exact MW.sub (List.forall_mem_cons.mpr ⟨lg_mem e0, fun _ h => absurd h List.not_mem_nil⟩) (ih a0 g fe)
    cases e
set_option maxRecDepth 100000 in
theorem t_X12_next_146 {X : Nat × (Nat → Int32)} (N : Nat) {q : mH} : ∀ (n : Nat) (a0 : Nat) (h : mH), L_X12_next_146 N n a0 h = some q → MW X y_X12_next 5 146 [(0, .ref a0)] [] h none q := by
  intro n
  induction n with
  | zero => intro a0 h hf; cases hf
  | succ n ih =>
    intro a0 h hf
    refine ev_ok (o := 12) (ini := false) (Cl := C_X12_next N) (Rc := RcV) (B := B_X12_next) (K := fun pc ls st g => kb pc 146 (lgr 0 ls fun a0 => pe st (L_X12_next_146 N n a0 g)) (none)) rfl (fun e => by cases e) (by decide) (rcV_ok rfl) ?_ (co_X12_next N q) lb_X12_next 3000 146 S_X12_next_146 _ _ h ls_X12_next_146 hf
    intro pc ls st g e
    rcases kb_s e with ⟨rfl, e⟩ | e
    · obtain ⟨a0, e0, f0⟩ := lgr_s e
      obtain ⟨qe, fe⟩ := pe_s f0
      subst qe
      exact MW.sub (List.forall_mem_cons.mpr ⟨lg_mem e0, fun _ h => absurd h List.not_mem_nil⟩) (ih a0 g fe)
    cases e
set_option maxRecDepth 100000 in
theorem t_X12_next_8 {X : Nat × (Nat → Int32)} (N : Nat) {q : mH} : ∀ (n : Nat) (a0 : Nat) (h : mH), L_X12_next_8 N n a0 h = some q → MW X y_X12_next 5 8 [(0, .ref a0)] [] h none q := by
  intro n
  induction n with
  | zero => intro a0 h hf; cases hf
  | succ n ih =>
    intro a0 h hf
    refine ev_ok (o := 12) (ini := false) (Cl := C_X12_next N) (Rc := RcV) (B := B_X12_next) (K := fun pc ls st g => kb pc 8 (lgr 0 ls fun a0 => pe st (L_X12_next_8 N n a0 g)) (kb pc 89 (lgr 0 ls fun a0 => pe st (L_X12_next_89 N N a0 g)) (kb pc 146 (lgr 0 ls fun a0 => pe st (L_X12_next_146 N N a0 g)) (none)))) rfl (fun e => by cases e) (by decide) (rcV_ok rfl) ?_ (co_X12_next N q) lb_X12_next 3000 8 S_X12_next_8 _ _ h ls_X12_next_8 hf
    intro pc ls st g e
    rcases kb_s e with ⟨rfl, e⟩ | e
    · obtain ⟨a0, e0, f0⟩ := lgr_s e
      obtain ⟨qe, fe⟩ := pe_s f0
      subst qe
      exact MW.sub (List.forall_mem_cons.mpr ⟨lg_mem e0, fun _ h => absurd h List.not_mem_nil⟩) (ih a0 g fe)
    rcases kb_s e with ⟨rfl, e⟩ | e
    · obtain ⟨a0, e0, f0⟩ := lgr_s e
      obtain ⟨qe, fe⟩ := pe_s f0
      subst qe
      exact MW.sub (List.forall_mem_cons.mpr ⟨lg_mem e0, fun _ h => absurd h List.not_mem_nil⟩) (t_X12_next_89 N N a0 g fe)
    rcases kb_s e with ⟨rfl, e⟩ | e
    · obtain ⟨a0, e0, f0⟩ := lgr_s e
      obtain ⟨qe, fe⟩ := pe_s f0
      subst qe
      exact MW.sub (List.forall_mem_cons.mpr ⟨lg_mem e0, fun _ h => absurd h List.not_mem_nil⟩) (t_X12_next_146 N N a0 g fe)
    cases e
set_option maxRecDepth 100000 in
theorem m_X12_next (N : Nat) {a0 : Nat} {h : mH} {q : mH} (hf : f_X12_next N a0 h = some q) : MM y_X12_next 5 [.ref a0] h none q := by
  refine MM.of (mFx (j := 233) rfl).2.2.2.1 (Nat.le_of_ble_eq_true rfl) (fun X => ?_)
  refine ev_ok (o := 12) (ini := false) (Cl := C_X12_next N) (Rc := RcV) (B := B_X12_next) (K := fun pc ls st g => kb pc 8 (lgr 0 ls fun a0 => pe st (L_X12_next_8 N N a0 g)) (none)) rfl (fun e => by cases e) (by decide) (rcV_ok rfl) ?_ (co_X12_next N q) lb_X12_next 3000 0 S_X12_next_0 _ _ h ls_X12_next_0 hf
  intro pc ls st g e
  rcases kb_s e with ⟨rfl, e⟩ | e
  · obtain ⟨a0, e0, f0⟩ := lgr_s e
    obtain ⟨qe, fe⟩ := pe_s f0
    subst qe
    exact MW.sub (List.forall_mem_cons.mpr ⟨lg_mem e0, fun _ h => absurd h List.not_mem_nil⟩) (t_X12_next_8 N N a0 g fe)
  cases e
def f_X12_fails (N : Nat) (a0 : Nat) (x1 : Int32) (h : mH) : Option (mH) :=
  (gI h 12 a0 12).bind fun v1 =>
  if v1 = 0 then
    (gI h 12 a0 10).bind fun v2 =>
    if v2 = (jI 21) then
      (pV h 12 a0 12 (.int (jI 1))).bind fun h3 =>
      (gI h3 12 a0 7).bind fun v4 =>
      (pV h3 12 a0 13 (.int v4)).bind fun h5 =>
      some h5
    else
      (pV h 12 a0 12 (.int x1)).bind fun h6 =>
      (gI h6 12 a0 7).bind fun v7 =>
      (pV h6 12 a0 13 (.int v7)).bind fun h8 =>
      some h8
  else
    some h
def y_X12_fails : mM := (yX12_fails, cX12_fails, 2, none)
def B_X12_fails : List (Nat × List mI) := [(8, [(.aload_n 0, 1, [0], []), (.aload_n 0, 1, [0], []), (.getfield 112, 3, [12, 10, 0, 136], []), (.bipush 21, 2, [], [21]), (.if_icmp .ne 7, 3, [22], []), (.iconst 1, 1, [], [1]), (.goto 4, 3, [23], [])]), (22, [(.iload_n 1, 1, [1], [])]), (23, [(.putfield 128, 3, [12, 12, 0, 138], []), (.aload_n 0, 1, [0], []), (.aload_n 0, 1, [0], []), (.getfield 103, 3, [12, 7, 0, 133], []), (.putfield 131, 3, [12, 13, 0, 139], []), (.return_, 1, [], [])])]
def S_X12_fails_0 : List mI := [(.aload_n 0, 1, [0], []), (.getfield 128, 3, [12, 12, 0, 138], []), (.ifCond .eq 4, 3, [8], []), (.return_, 1, [], [])]
theorem lb_X12_fails : B_X12_fails.all (fun b => lst y_X12_fails.2.1 12 y_X12_fails.2.2.1 false b.1 b.2) = true := by decide +kernel
theorem ls_X12_fails_0 : lst y_X12_fails.2.1 12 y_X12_fails.2.2.1 false 0 S_X12_fails_0 = true := by decide +kernel
def C_X12_fails (N : Nat) : Nat → List Value → mH → (Option Value → mH → Option (mH)) → Option (mH) := fun j as g k => none
theorem co_X12_fails (N : Nat) (q : mH) : clOK 4 q (C_X12_fails N) := by
  intro j as g k e
  cases e
set_option maxRecDepth 100000 in
theorem m_X12_fails (N : Nat) {a0 : Nat} {x1 : Int32} {h : mH} {q : mH} (hf : f_X12_fails N a0 x1 h = some q) : MM y_X12_fails 4 [.ref a0, .int x1] h none q := by
  refine MM.of (mFx (j := 234) rfl).2.2.2.1 (Nat.le_of_ble_eq_true rfl) (fun X => ?_)
  refine ev_ok (o := 12) (ini := false) (Cl := C_X12_fails N) (Rc := RcV) (B := B_X12_fails) (K := fun pc ls st g => none) rfl (fun e => by cases e) (by decide) (rcV_ok rfl) ?_ (co_X12_fails N q) lb_X12_fails 3000 0 S_X12_fails_0 _ _ h ls_X12_fails_0 hf
  intro pc ls st g e
  cases e
def f_X12_is (N : Nat) (a0 : Nat) (x1 : Int32) (h : mH) : Option (Int32 × mH) :=
  (gI h 12 a0 12).bind fun v1 =>
  if v1 = 0 then
    (gI h 12 a0 10).bind fun v2 =>
    if v2 = x1 then
      some (jI 1, h)
    else
      some (jI 0, h)
  else
    some (jI 0, h)
def y_X12_is : mM := (yX12_is, cX12_is, 2, (some .boolean))
def B_X12_is : List (Nat × List mI) := [(19, [(.iconst 0, 1, [], [0])]), (20, [(.ireturn, 1, [], [])])]
def S_X12_is_0 : List mI := [(.aload_n 0, 1, [0], []), (.getfield 128, 3, [12, 12, 0, 138], []), (.ifCond .ne 15, 3, [19], []), (.aload_n 0, 1, [0], []), (.getfield 112, 3, [12, 10, 0, 136], []), (.iload_n 1, 1, [1], []), (.if_icmp .ne 7, 3, [19], []), (.iconst 1, 1, [], [1]), (.goto 4, 3, [20], [])]
theorem lb_X12_is : B_X12_is.all (fun b => lst y_X12_is.2.1 12 y_X12_is.2.2.1 false b.1 b.2) = true := by decide +kernel
theorem ls_X12_is_0 : lst y_X12_is.2.1 12 y_X12_is.2.2.1 false 0 S_X12_is_0 = true := by decide +kernel
def C_X12_is (N : Nat) : Nat → List Value → mH → (Option Value → mH → Option (Int32 × mH)) → Option (Int32 × mH) := fun j as g k => none
theorem co_X12_is (N : Nat) (q : Int32 × mH) : clOK 4 q (C_X12_is N) := by
  intro j as g k e
  cases e
set_option maxRecDepth 100000 in
theorem m_X12_is (N : Nat) {a0 : Nat} {x1 : Int32} {h : mH} {q : Int32 × mH} (hf : f_X12_is N a0 x1 h = some q) : MM y_X12_is 4 [.ref a0, .int x1] h (some (.int q.1)) q.2 := by
  refine MM.of (mFx (j := 235) rfl).2.2.2.1 (Nat.le_of_ble_eq_true rfl) (fun X => ?_)
  refine ev_ok (o := 12) (ini := false) (Cl := C_X12_is N) (Rc := RcZ) (B := B_X12_is) (K := fun pc ls st g => none) rfl (fun e => by cases e) (by decide) (rcZ_ok rfl) ?_ (co_X12_is N q) lb_X12_is 3000 0 S_X12_is_0 _ _ h ls_X12_is_0 hf
  intro pc ls st g e
  cases e
def f_X12_eats (N : Nat) (a0 : Nat) (x1 : Int32) (h : mH) : Option (Int32 × mH) :=
  (rcv h 12 a0).bind fun _ =>
  (f_X12_is N a0 x1 h).bind fun p1 =>
  if p1.1 = 0 then
    some (jI 0, p1.2)
  else
    (rcv p1.2 12 a0).bind fun _ =>
    (f_X12_next N a0 p1.2).bind fun h2 =>
    some (jI 1, h2)
def y_X12_eats : mM := (yX12_eats, cX12_eats, 2, (some .boolean))
def B_X12_eats : List (Nat × List mI) := [(10, [(.aload_n 0, 1, [0], []), (.invokevirtual 137, 3, [0, 233, 0, 12, 270], []), (.iconst 1, 1, [], [1]), (.ireturn, 1, [], [])])]
def S_X12_eats_0 : List mI := [(.aload_n 0, 1, [0], []), (.iload_n 1, 1, [1], []), (.invokevirtual 134, 3, [0, 235, 1, 12, 276], []), (.ifCond .ne 5, 3, [10], []), (.iconst 0, 1, [], [0]), (.ireturn, 1, [], [])]
theorem lb_X12_eats : B_X12_eats.all (fun b => lst y_X12_eats.2.1 12 y_X12_eats.2.2.1 false b.1 b.2) = true := by decide +kernel
theorem ls_X12_eats_0 : lst y_X12_eats.2.1 12 y_X12_eats.2.2.1 false 0 S_X12_eats_0 = true := by decide +kernel
def C_X12_eats (N : Nat) : Nat → List Value → mH → (Option Value → mH → Option (Int32 × mH)) → Option (Int32 × mH) := fun j as g k => kb j 235 (pr1 as fun b0 as => pp1 as fun b1 as => pe as ((f_X12_is N b0 b1 g).bind fun p => k (some (.int p.1)) p.2)) (kb j 233 (pr1 as fun b0 as => pe as ((f_X12_next N b0 g).bind fun p => k none p)) (none))
theorem co_X12_eats (N : Nat) (q : Int32 × mH) : clOK 6 q (C_X12_eats N) := by
  intro j as g k e
  rcases kb_s e with ⟨rfl, e⟩ | e
  · obtain ⟨b0, r0, q0, f0⟩ := pr1_s e
    obtain ⟨b1, r1, q1, f1⟩ := pp1_s f0
    obtain ⟨qe, fe⟩ := pe_s f1
    obtain ⟨p, e1, e2⟩ := bnd_s fe
    subst qe
    subst q1
    subst q0
    exact ⟨_, _, _, _, 4, rfl, (by decide), m_X12_is N e1, e2⟩
  rcases kb_s e with ⟨rfl, e⟩ | e
  · obtain ⟨b0, r0, q0, f0⟩ := pr1_s e
    obtain ⟨qe, fe⟩ := pe_s f0
    obtain ⟨p, e1, e2⟩ := bnd_s fe
    subst qe
    subst q0
    exact ⟨_, _, _, _, 5, rfl, (by decide), m_X12_next N e1, e2⟩
  cases e
set_option maxRecDepth 100000 in
theorem m_X12_eats (N : Nat) {a0 : Nat} {x1 : Int32} {h : mH} {q : Int32 × mH} (hf : f_X12_eats N a0 x1 h = some q) : MM y_X12_eats 6 [.ref a0, .int x1] h (some (.int q.1)) q.2 := by
  refine MM.of (mFx (j := 236) rfl).2.2.2.1 (Nat.le_of_ble_eq_true rfl) (fun X => ?_)
  refine ev_ok (o := 12) (ini := false) (Cl := C_X12_eats N) (Rc := RcZ) (B := B_X12_eats) (K := fun pc ls st g => none) rfl (fun e => by cases e) (by decide) (rcZ_ok rfl) ?_ (co_X12_eats N q) lb_X12_eats 3000 0 S_X12_eats_0 _ _ h ls_X12_eats_0 hf
  intro pc ls st g e
  cases e
def f_X12_needs (N : Nat) (a0 : Nat) (x1 : Int32) (h : mH) : Option (mH) :=
  (rcv h 12 a0).bind fun _ =>
  (f_X12_eats N a0 x1 h).bind fun p1 =>
  if p1.1 = 0 then
    (rcv p1.2 12 a0).bind fun _ =>
    (f_X12_fails N a0 (jI 2) p1.2).bind fun h2 =>
    some h2
  else
    some p1.2
def y_X12_needs : mM := (yX12_needs, cX12_needs, 2, none)
def B_X12_needs : List (Nat × List mI) := [(13, [(.return_, 1, [], [])])]
def S_X12_needs_0 : List mI := [(.aload_n 0, 1, [0], []), (.iload_n 1, 1, [1], []), (.invokevirtual 140, 3, [0, 236, 1, 12, 282], []), (.ifCond .ne 8, 3, [13], []), (.aload_n 0, 1, [0], []), (.iconst 2, 1, [], [2]), (.invokevirtual 143, 3, [0, 234, 1, 12, 278], [])]
theorem lb_X12_needs : B_X12_needs.all (fun b => lst y_X12_needs.2.1 12 y_X12_needs.2.2.1 false b.1 b.2) = true := by decide +kernel
theorem ls_X12_needs_0 : lst y_X12_needs.2.1 12 y_X12_needs.2.2.1 false 0 S_X12_needs_0 = true := by decide +kernel
def C_X12_needs (N : Nat) : Nat → List Value → mH → (Option Value → mH → Option (mH)) → Option (mH) := fun j as g k => kb j 236 (pr1 as fun b0 as => pp1 as fun b1 as => pe as ((f_X12_eats N b0 b1 g).bind fun p => k (some (.int p.1)) p.2)) (kb j 234 (pr1 as fun b0 as => pp1 as fun b1 as => pe as ((f_X12_fails N b0 b1 g).bind fun p => k none p)) (none))
theorem co_X12_needs (N : Nat) (q : mH) : clOK 7 q (C_X12_needs N) := by
  intro j as g k e
  rcases kb_s e with ⟨rfl, e⟩ | e
  · obtain ⟨b0, r0, q0, f0⟩ := pr1_s e
    obtain ⟨b1, r1, q1, f1⟩ := pp1_s f0
    obtain ⟨qe, fe⟩ := pe_s f1
    obtain ⟨p, e1, e2⟩ := bnd_s fe
    subst qe
    subst q1
    subst q0
    exact ⟨_, _, _, _, 6, rfl, (by decide), m_X12_eats N e1, e2⟩
  rcases kb_s e with ⟨rfl, e⟩ | e
  · obtain ⟨b0, r0, q0, f0⟩ := pr1_s e
    obtain ⟨b1, r1, q1, f1⟩ := pp1_s f0
    obtain ⟨qe, fe⟩ := pe_s f1
    obtain ⟨p, e1, e2⟩ := bnd_s fe
    subst qe
    subst q1
    subst q0
    exact ⟨_, _, _, _, 4, rfl, (by decide), m_X12_fails N e1, e2⟩
  cases e
set_option maxRecDepth 100000 in
theorem m_X12_needs (N : Nat) {a0 : Nat} {x1 : Int32} {h : mH} {q : mH} (hf : f_X12_needs N a0 x1 h = some q) : MM y_X12_needs 7 [.ref a0, .int x1] h none q := by
  refine MM.of (mFx (j := 237) rfl).2.2.2.1 (Nat.le_of_ble_eq_true rfl) (fun X => ?_)
  refine ev_ok (o := 12) (ini := false) (Cl := C_X12_needs N) (Rc := RcV) (B := B_X12_needs) (K := fun pc ls st g => none) rfl (fun e => by cases e) (by decide) (rcV_ok rfl) ?_ (co_X12_needs N q) lb_X12_needs 3000 0 S_X12_needs_0 _ _ h ls_X12_needs_0 hf
  intro pc ls st g e
  cases e
def f_X12_takes (N : Nat) (a0 : Nat) (x1 : Int32) (x2 : Int32) (h : mH) : Option (Int32 × mH) :=
  (rcv h 12 a0).bind fun _ =>
  (f_X12_is N a0 (jI 18) h).bind fun p1 =>
  if p1.1 = 0 then
    (rcv p1.2 12 a0).bind fun _ =>
    (f_X12_fails N a0 (jI 2) p1.2).bind fun h2 =>
    (gI h2 12 a0 11).bind fun v3 =>
    (gI h2 12 a0 12).bind fun v4 =>
    if v4 = 0 then
      (rcv h2 12 a0).bind fun _ =>
      (f_X12_next N a0 h2).bind fun h5 =>
      some (v3, h5)
    else
      some (v3, h2)
  else
    (gI p1.2 12 a0 11).bind fun v6 =>
    (f_X12_within N v6.toInt64 x1.toInt64 x2.toInt64 p1.2).bind fun p7 =>
    if p7.1 = 0 then
      (rcv p7.2 12 a0).bind fun _ =>
      (f_X12_fails N a0 (jI 3) p7.2).bind fun h8 =>
      (gI h8 12 a0 11).bind fun v9 =>
      (gI h8 12 a0 12).bind fun v10 =>
      if v10 = 0 then
        (rcv h8 12 a0).bind fun _ =>
        (f_X12_next N a0 h8).bind fun h11 =>
        some (v9, h11)
      else
        some (v9, h8)
    else
      (gI p7.2 12 a0 11).bind fun v12 =>
      (gI p7.2 12 a0 12).bind fun v13 =>
      if v13 = 0 then
        (rcv p7.2 12 a0).bind fun _ =>
        (f_X12_next N a0 p7.2).bind fun h14 =>
        some (v12, h14)
      else
        some (v12, p7.2)
def y_X12_takes : mM := (yX12_takes, cX12_takes, 4, (some .int))
def B_X12_takes : List (Nat × List mI) := [(17, [(.aload_n 0, 1, [0], []), (.getfield 125, 3, [12, 11, 0, 137], []), (.i2l, 1, [], []), (.iload_n 1, 1, [1], []), (.i2l, 1, [], []), (.iload_n 2, 1, [2], []), (.i2l, 1, [], []), (.invokestatic 147, 3, [1, 225, 3, 0, 269], []), (.ifCond .ne 8, 3, [37], []), (.aload_n 0, 1, [0], []), (.iconst 3, 1, [], [3]), (.invokevirtual 143, 3, [0, 234, 1, 12, 278], [])]), (37, [(.aload_n 0, 1, [0], []), (.getfield 125, 3, [12, 11, 0, 137], []), (.istore_n 3, 1, [3], []), (.aload_n 0, 1, [0], []), (.getfield 128, 3, [12, 12, 0, 138], []), (.ifCond .ne 7, 3, [53], []), (.aload_n 0, 1, [0], []), (.invokevirtual 137, 3, [0, 233, 0, 12, 270], [])]), (53, [(.iload_n 3, 1, [3], []), (.ireturn, 1, [], [])])]
def S_X12_takes_0 : List mI := [(.aload_n 0, 1, [0], []), (.bipush 18, 2, [], [18]), (.invokevirtual 134, 3, [0, 235, 1, 12, 276], []), (.ifCond .ne 11, 3, [17], []), (.aload_n 0, 1, [0], []), (.iconst 2, 1, [], [2]), (.invokevirtual 143, 3, [0, 234, 1, 12, 278], []), (.goto 23, 3, [37], [])]
theorem lb_X12_takes : B_X12_takes.all (fun b => lst y_X12_takes.2.1 12 y_X12_takes.2.2.1 false b.1 b.2) = true := by decide +kernel
theorem ls_X12_takes_0 : lst y_X12_takes.2.1 12 y_X12_takes.2.2.1 false 0 S_X12_takes_0 = true := by decide +kernel
def C_X12_takes (N : Nat) : Nat → List Value → mH → (Option Value → mH → Option (Int32 × mH)) → Option (Int32 × mH) := fun j as g k => kb j 235 (pr1 as fun b0 as => pp1 as fun b1 as => pe as ((f_X12_is N b0 b1 g).bind fun p => k (some (.int p.1)) p.2)) (kb j 234 (pr1 as fun b0 as => pp1 as fun b1 as => pe as ((f_X12_fails N b0 b1 g).bind fun p => k none p)) (kb j 225 (pl1 as fun b0 as => pl1 as fun b1 as => pl1 as fun b2 as => pe as ((f_X12_within N b0 b1 b2 g).bind fun p => k (some (.int p.1)) p.2)) (kb j 233 (pr1 as fun b0 as => pe as ((f_X12_next N b0 g).bind fun p => k none p)) (none))))
theorem co_X12_takes (N : Nat) (q : Int32 × mH) : clOK 6 q (C_X12_takes N) := by
  intro j as g k e
  rcases kb_s e with ⟨rfl, e⟩ | e
  · obtain ⟨b0, r0, q0, f0⟩ := pr1_s e
    obtain ⟨b1, r1, q1, f1⟩ := pp1_s f0
    obtain ⟨qe, fe⟩ := pe_s f1
    obtain ⟨p, e1, e2⟩ := bnd_s fe
    subst qe
    subst q1
    subst q0
    exact ⟨_, _, _, _, 4, rfl, (by decide), m_X12_is N e1, e2⟩
  rcases kb_s e with ⟨rfl, e⟩ | e
  · obtain ⟨b0, r0, q0, f0⟩ := pr1_s e
    obtain ⟨b1, r1, q1, f1⟩ := pp1_s f0
    obtain ⟨qe, fe⟩ := pe_s f1
    obtain ⟨p, e1, e2⟩ := bnd_s fe
    subst qe
    subst q1
    subst q0
    exact ⟨_, _, _, _, 4, rfl, (by decide), m_X12_fails N e1, e2⟩
  rcases kb_s e with ⟨rfl, e⟩ | e
  · obtain ⟨b0, r0, q0, f0⟩ := pl1_s e
    obtain ⟨b1, r1, q1, f1⟩ := pl1_s f0
    obtain ⟨b2, r2, q2, f2⟩ := pl1_s f1
    obtain ⟨qe, fe⟩ := pe_s f2
    obtain ⟨p, e1, e2⟩ := bnd_s fe
    subst qe
    subst q2
    subst q1
    subst q0
    exact ⟨_, _, _, _, 4, rfl, (by decide), m_X12_within N e1, e2⟩
  rcases kb_s e with ⟨rfl, e⟩ | e
  · obtain ⟨b0, r0, q0, f0⟩ := pr1_s e
    obtain ⟨qe, fe⟩ := pe_s f0
    obtain ⟨p, e1, e2⟩ := bnd_s fe
    subst qe
    subst q0
    exact ⟨_, _, _, _, 5, rfl, (by decide), m_X12_next N e1, e2⟩
  cases e
set_option maxRecDepth 100000 in
theorem m_X12_takes (N : Nat) {a0 : Nat} {x1 : Int32} {x2 : Int32} {h : mH} {q : Int32 × mH} (hf : f_X12_takes N a0 x1 x2 h = some q) : MM y_X12_takes 6 [.ref a0, .int x1, .int x2] h (some (.int q.1)) q.2 := by
  refine MM.of (mFx (j := 238) rfl).2.2.2.1 (Nat.le_of_ble_eq_true rfl) (fun X => ?_)
  refine ev_ok (o := 12) (ini := false) (Cl := C_X12_takes N) (Rc := RcI) (B := B_X12_takes) (K := fun pc ls st g => none) rfl (fun e => by cases e) (by decide) (rcI_ok rfl) ?_ (co_X12_takes N q) lb_X12_takes 3000 0 S_X12_takes_0 _ _ h ls_X12_takes_0 hf
  intro pc ls st g e
  cases e
def J_X12_readStakes_14 (N : Nat) (a0 : Nat) (h : mH) : Option (mH) :=
  (gI h 12 a0 12).bind fun v1 =>
  if v1 = 0 then
    (rcv h 12 a0).bind fun _ =>
    (f_X12_next N a0 h).bind fun h2 =>
    (gR h2 12 a0 5).bind fun v3 =>
    (rcv h2 12 a0).bind fun _ =>
    (f_X12_takes N a0 (jI 3) (jI 32) h2).bind fun p4 =>
    (stI 0 p4.2 v3 (jI 0) p4.1).bind fun h5 =>
    some h5
  else
    some h
def f_X12_readStakes (N : Nat) (a0 : Nat) (h : mH) : Option (mH) :=
  (gR h 12 a0 5).bind fun v1 =>
  (ldI 0 h v1 (jI 0)).bind fun v2 =>
  if 0 < v2 then
    (rcv h 12 a0).bind fun _ =>
    (f_X12_fails N a0 (jI 4) h).bind fun h3 =>
    J_X12_readStakes_14 N a0 h3
  else
    J_X12_readStakes_14 N a0 h
def y_X12_readStakes : mM := (yX12_readStakes, cX12_readStakes, 1, none)
def B_X12_readStakes : List (Nat × List mI) := [(22, [(.aload_n 0, 1, [0], []), (.invokevirtual 137, 3, [0, 233, 0, 12, 270], []), (.aload_n 0, 1, [0], []), (.getfield 27, 3, [12, 5, 2, 131], []), (.iconst 0, 1, [], [0]), (.aload_n 0, 1, [0], []), (.iconst 3, 1, [], [3]), (.bipush 32, 2, [], [32]), (.invokevirtual 151, 3, [0, 238, 2, 12, 279], []), (.iastore, 1, [], []), (.return_, 1, [], [])])]
def S_X12_readStakes_0 : List mI := [(.aload_n 0, 1, [0], []), (.getfield 27, 3, [12, 5, 2, 131], []), (.iconst 0, 1, [], [0]), (.iaload, 1, [0], []), (.ifCond .le 8, 3, [14], []), (.aload_n 0, 1, [0], []), (.iconst 4, 1, [], [4]), (.invokevirtual 143, 3, [0, 234, 1, 12, 278], [])]
def S_X12_readStakes_14 : List mI := [(.aload_n 0, 1, [0], []), (.getfield 128, 3, [12, 12, 0, 138], []), (.ifCond .eq 4, 3, [22], []), (.return_, 1, [], [])]
theorem lb_X12_readStakes : B_X12_readStakes.all (fun b => lst y_X12_readStakes.2.1 12 y_X12_readStakes.2.2.1 false b.1 b.2) = true := by decide +kernel
theorem ls_X12_readStakes_0 : lst y_X12_readStakes.2.1 12 y_X12_readStakes.2.2.1 false 0 S_X12_readStakes_0 = true := by decide +kernel
theorem ls_X12_readStakes_14 : lst y_X12_readStakes.2.1 12 y_X12_readStakes.2.2.1 false 14 S_X12_readStakes_14 = true := by decide +kernel
def C_X12_readStakes (N : Nat) : Nat → List Value → mH → (Option Value → mH → Option (mH)) → Option (mH) := fun j as g k => kb j 234 (pr1 as fun b0 as => pp1 as fun b1 as => pe as ((f_X12_fails N b0 b1 g).bind fun p => k none p)) (kb j 233 (pr1 as fun b0 as => pe as ((f_X12_next N b0 g).bind fun p => k none p)) (kb j 238 (pr1 as fun b0 as => pp1 as fun b1 as => pp1 as fun b2 as => pe as ((f_X12_takes N b0 b1 b2 g).bind fun p => k (some (.int p.1)) p.2)) (none)))
theorem co_X12_readStakes (N : Nat) (q : mH) : clOK 7 q (C_X12_readStakes N) := by
  intro j as g k e
  rcases kb_s e with ⟨rfl, e⟩ | e
  · obtain ⟨b0, r0, q0, f0⟩ := pr1_s e
    obtain ⟨b1, r1, q1, f1⟩ := pp1_s f0
    obtain ⟨qe, fe⟩ := pe_s f1
    obtain ⟨p, e1, e2⟩ := bnd_s fe
    subst qe
    subst q1
    subst q0
    exact ⟨_, _, _, _, 4, rfl, (by decide), m_X12_fails N e1, e2⟩
  rcases kb_s e with ⟨rfl, e⟩ | e
  · obtain ⟨b0, r0, q0, f0⟩ := pr1_s e
    obtain ⟨qe, fe⟩ := pe_s f0
    obtain ⟨p, e1, e2⟩ := bnd_s fe
    subst qe
    subst q0
    exact ⟨_, _, _, _, 5, rfl, (by decide), m_X12_next N e1, e2⟩
  rcases kb_s e with ⟨rfl, e⟩ | e
  · obtain ⟨b0, r0, q0, f0⟩ := pr1_s e
    obtain ⟨b1, r1, q1, f1⟩ := pp1_s f0
    obtain ⟨b2, r2, q2, f2⟩ := pp1_s f1
    obtain ⟨qe, fe⟩ := pe_s f2
    obtain ⟨p, e1, e2⟩ := bnd_s fe
    subst qe
    subst q2
    subst q1
    subst q0
    exact ⟨_, _, _, _, 6, rfl, (by decide), m_X12_takes N e1, e2⟩
  cases e
set_option maxRecDepth 100000 in
theorem t_X12_readStakes_14 {X : Nat × (Nat → Int32)} (N : Nat) {q : mH} (a0 : Nat) (h : mH) (hf : J_X12_readStakes_14 N a0 h = some q) : MW X y_X12_readStakes 7 14 [(0, .ref a0)] [] h none q := by
  refine ev_ok (o := 12) (ini := false) (Cl := C_X12_readStakes N) (Rc := RcV) (B := B_X12_readStakes) (K := fun pc ls st g => none) rfl (fun e => by cases e) (by decide) (rcV_ok rfl) ?_ (co_X12_readStakes N q) lb_X12_readStakes 3000 14 S_X12_readStakes_14 _ _ h ls_X12_readStakes_14 hf
  intro pc ls st g e
  cases e
set_option maxRecDepth 100000 in
theorem m_X12_readStakes (N : Nat) {a0 : Nat} {h : mH} {q : mH} (hf : f_X12_readStakes N a0 h = some q) : MM y_X12_readStakes 7 [.ref a0] h none q := by
  refine MM.of (mFx (j := 239) rfl).2.2.2.1 (Nat.le_of_ble_eq_true rfl) (fun X => ?_)
  refine ev_ok (o := 12) (ini := false) (Cl := C_X12_readStakes N) (Rc := RcV) (B := B_X12_readStakes) (K := fun pc ls st g => kb pc 14 (lgr 0 ls fun a0 => pe st (J_X12_readStakes_14 N a0 g)) (none)) rfl (fun e => by cases e) (by decide) (rcV_ok rfl) ?_ (co_X12_readStakes N q) lb_X12_readStakes 3000 0 S_X12_readStakes_0 _ _ h ls_X12_readStakes_0 hf
  intro pc ls st g e
  rcases kb_s e with ⟨rfl, e⟩ | e
  · obtain ⟨a0, e0, f0⟩ := lgr_s e
    obtain ⟨qe, fe⟩ := pe_s f0
    subst qe
    exact MW.sub (List.forall_mem_cons.mpr ⟨lg_mem e0, fun _ h => absurd h List.not_mem_nil⟩) (t_X12_readStakes_14 N a0 g fe)
  cases e
def J_X12_readRod_18 (N : Nat) (a0 : Nat) (x1 : Int32) (h : mH) : Option (mH) :=
  (gI h 12 a0 12).bind fun v1 =>
  if v1 = 0 then
    (rcv h 12 a0).bind fun _ =>
    (f_X12_next N a0 h).bind fun h2 =>
    (gR h2 12 a0 5).bind fun v3 =>
    (rcv h2 12 a0).bind fun _ =>
    (f_X12_takes N a0 (jI 2) (jI 99) h2).bind fun p4 =>
    (stI 0 p4.2 v3 (iAdd (jI 2) x1) p4.1).bind fun h5 =>
    (rcv h5 12 a0).bind fun _ =>
    (f_X12_needs N a0 (jI 2) h5).bind fun h6 =>
    (gR h6 12 a0 5).bind fun v7 =>
    (rcv h6 12 a0).bind fun _ =>
    (f_X12_takes N a0 (jI 1) (jI 9) h6).bind fun p8 =>
    (stI 0 p8.2 v7 (iAdd (jI 8) x1) p8.1).bind fun h9 =>
    (rcv h9 12 a0).bind fun _ =>
    (f_X12_needs N a0 (jI 3) h9).bind fun h10 =>
    (gR h10 12 a0 5).bind fun v11 =>
    (rcv h10 12 a0).bind fun _ =>
    (f_X12_takes N a0 (jI 0) (jI 50) h10).bind fun p12 =>
    (stI 0 p12.2 v11 (iAdd (jI 14) x1) p12.1).bind fun h13 =>
    (rcv h13 12 a0).bind fun _ =>
    (f_X12_needs N a0 (jI 4) h13).bind fun h14 =>
    (gR h14 12 a0 5).bind fun v15 =>
    (rcv h14 12 a0).bind fun _ =>
    (f_X12_takes N a0 (jI 0) (jI 99) h14).bind fun p16 =>
    (stI 0 p16.2 v15 (iAdd (jI 20) x1) p16.1).bind fun h17 =>
    (gR h17 12 a0 5).bind fun v18 =>
    (ldI 0 h17 v18 (jI 1)).bind fun v19 =>
    (stI 0 h17 v18 (jI 1) (iAdd v19 (jI 1))).bind fun h20 =>
    some h20
  else
    some h
def f_X12_readRod (N : Nat) (a0 : Nat) (h : mH) : Option (mH) :=
  (gR h 12 a0 5).bind fun v1 =>
  (ldI 0 h v1 (jI 1)).bind fun v2 =>
  if v2 = (jI 6) then
    (rcv h 12 a0).bind fun _ =>
    (f_X12_fails N a0 (jI 4) h).bind fun h3 =>
    J_X12_readRod_18 N a0 v2 h3
  else
    J_X12_readRod_18 N a0 v2 h
def y_X12_readRod : mM := (yX12_readRod, cX12_readRod, 2, none)
def B_X12_readRod : List (Nat × List mI) := [(26, [(.aload_n 0, 1, [0], []), (.invokevirtual 137, 3, [0, 233, 0, 12, 270], []), (.aload_n 0, 1, [0], []), (.getfield 27, 3, [12, 5, 2, 131], []), (.iconst 2, 1, [], [2]), (.iload_n 1, 1, [1], []), (.iadd, 1, [], []), (.aload_n 0, 1, [0], []), (.iconst 2, 1, [], [2]), (.bipush 99, 2, [], [99]), (.invokevirtual 151, 3, [0, 238, 2, 12, 279], []), (.iastore, 1, [], []), (.aload_n 0, 1, [0], []), (.iconst 2, 1, [], [2]), (.invokevirtual 155, 3, [0, 237, 1, 12, 281], []), (.aload_n 0, 1, [0], []), (.getfield 27, 3, [12, 5, 2, 131], []), (.bipush 8, 2, [], [8]), (.iload_n 1, 1, [1], []), (.iadd, 1, [], []), (.aload_n 0, 1, [0], []), (.iconst 1, 1, [], [1]), (.bipush 9, 2, [], [9]), (.invokevirtual 151, 3, [0, 238, 2, 12, 279], []), (.iastore, 1, [], []), (.aload_n 0, 1, [0], []), (.iconst 3, 1, [], [3]), (.invokevirtual 155, 3, [0, 237, 1, 12, 281], []), (.aload_n 0, 1, [0], []), (.getfield 27, 3, [12, 5, 2, 131], []), (.bipush 14, 2, [], [14]), (.iload_n 1, 1, [1], []), (.iadd, 1, [], []), (.aload_n 0, 1, [0], []), (.iconst 0, 1, [], [0]), (.bipush 50, 2, [], [50]), (.invokevirtual 151, 3, [0, 238, 2, 12, 279], []), (.iastore, 1, [], []), (.aload_n 0, 1, [0], []), (.iconst 4, 1, [], [4]), (.invokevirtual 155, 3, [0, 237, 1, 12, 281], []), (.aload_n 0, 1, [0], []), (.getfield 27, 3, [12, 5, 2, 131], []), (.bipush 20, 2, [], [20]), (.iload_n 1, 1, [1], []), (.iadd, 1, [], []), (.aload_n 0, 1, [0], []), (.iconst 0, 1, [], [0]), (.bipush 99, 2, [], [99]), (.invokevirtual 151, 3, [0, 238, 2, 12, 279], []), (.iastore, 1, [], []), (.aload_n 0, 1, [0], []), (.getfield 27, 3, [12, 5, 2, 131], []), (.iconst 1, 1, [], [1]), (.dup2, 1, [], []), (.iaload, 1, [0], []), (.iconst 1, 1, [], [1]), (.iadd, 1, [], []), (.iastore, 1, [], []), (.return_, 1, [], [])])]
def S_X12_readRod_0 : List mI := [(.aload_n 0, 1, [0], []), (.getfield 27, 3, [12, 5, 2, 131], []), (.iconst 1, 1, [], [1]), (.iaload, 1, [0], []), (.istore_n 1, 1, [1], []), (.iload_n 1, 1, [1], []), (.bipush 6, 2, [], [6]), (.if_icmp .ne 8, 3, [18], []), (.aload_n 0, 1, [0], []), (.iconst 4, 1, [], [4]), (.invokevirtual 143, 3, [0, 234, 1, 12, 278], [])]
def S_X12_readRod_18 : List mI := [(.aload_n 0, 1, [0], []), (.getfield 128, 3, [12, 12, 0, 138], []), (.ifCond .eq 4, 3, [26], []), (.return_, 1, [], [])]
theorem lb_X12_readRod : B_X12_readRod.all (fun b => lst y_X12_readRod.2.1 12 y_X12_readRod.2.2.1 false b.1 b.2) = true := by decide +kernel
theorem ls_X12_readRod_0 : lst y_X12_readRod.2.1 12 y_X12_readRod.2.2.1 false 0 S_X12_readRod_0 = true := by decide +kernel
theorem ls_X12_readRod_18 : lst y_X12_readRod.2.1 12 y_X12_readRod.2.2.1 false 18 S_X12_readRod_18 = true := by decide +kernel
def C_X12_readRod (N : Nat) : Nat → List Value → mH → (Option Value → mH → Option (mH)) → Option (mH) := fun j as g k => kb j 234 (pr1 as fun b0 as => pp1 as fun b1 as => pe as ((f_X12_fails N b0 b1 g).bind fun p => k none p)) (kb j 233 (pr1 as fun b0 as => pe as ((f_X12_next N b0 g).bind fun p => k none p)) (kb j 238 (pr1 as fun b0 as => pp1 as fun b1 as => pp1 as fun b2 as => pe as ((f_X12_takes N b0 b1 b2 g).bind fun p => k (some (.int p.1)) p.2)) (kb j 237 (pr1 as fun b0 as => pp1 as fun b1 as => pe as ((f_X12_needs N b0 b1 g).bind fun p => k none p)) (none))))
theorem co_X12_readRod (N : Nat) (q : mH) : clOK 8 q (C_X12_readRod N) := by
  intro j as g k e
  rcases kb_s e with ⟨rfl, e⟩ | e
  · obtain ⟨b0, r0, q0, f0⟩ := pr1_s e
    obtain ⟨b1, r1, q1, f1⟩ := pp1_s f0
    obtain ⟨qe, fe⟩ := pe_s f1
    obtain ⟨p, e1, e2⟩ := bnd_s fe
    subst qe
    subst q1
    subst q0
    exact ⟨_, _, _, _, 4, rfl, (by decide), m_X12_fails N e1, e2⟩
  rcases kb_s e with ⟨rfl, e⟩ | e
  · obtain ⟨b0, r0, q0, f0⟩ := pr1_s e
    obtain ⟨qe, fe⟩ := pe_s f0
    obtain ⟨p, e1, e2⟩ := bnd_s fe
    subst qe
    subst q0
    exact ⟨_, _, _, _, 5, rfl, (by decide), m_X12_next N e1, e2⟩
  rcases kb_s e with ⟨rfl, e⟩ | e
  · obtain ⟨b0, r0, q0, f0⟩ := pr1_s e
    obtain ⟨b1, r1, q1, f1⟩ := pp1_s f0
    obtain ⟨b2, r2, q2, f2⟩ := pp1_s f1
    obtain ⟨qe, fe⟩ := pe_s f2
    obtain ⟨p, e1, e2⟩ := bnd_s fe
    subst qe
    subst q2
    subst q1
    subst q0
    exact ⟨_, _, _, _, 6, rfl, (by decide), m_X12_takes N e1, e2⟩
  rcases kb_s e with ⟨rfl, e⟩ | e
  · obtain ⟨b0, r0, q0, f0⟩ := pr1_s e
    obtain ⟨b1, r1, q1, f1⟩ := pp1_s f0
    obtain ⟨qe, fe⟩ := pe_s f1
    obtain ⟨p, e1, e2⟩ := bnd_s fe
    subst qe
    subst q1
    subst q0
    exact ⟨_, _, _, _, 7, rfl, (by decide), m_X12_needs N e1, e2⟩
  cases e
set_option maxRecDepth 100000 in
theorem t_X12_readRod_18 {X : Nat × (Nat → Int32)} (N : Nat) {q : mH} (a0 : Nat) (x1 : Int32) (h : mH) (hf : J_X12_readRod_18 N a0 x1 h = some q) : MW X y_X12_readRod 8 18 [(0, .ref a0), (1, .int x1)] [] h none q := by
  refine ev_ok (o := 12) (ini := false) (Cl := C_X12_readRod N) (Rc := RcV) (B := B_X12_readRod) (K := fun pc ls st g => none) rfl (fun e => by cases e) (by decide) (rcV_ok rfl) ?_ (co_X12_readRod N q) lb_X12_readRod 3000 18 S_X12_readRod_18 _ _ h ls_X12_readRod_18 hf
  intro pc ls st g e
  cases e
set_option maxRecDepth 100000 in
theorem m_X12_readRod (N : Nat) {a0 : Nat} {h : mH} {q : mH} (hf : f_X12_readRod N a0 h = some q) : MM y_X12_readRod 8 [.ref a0] h none q := by
  refine MM.of (mFx (j := 240) rfl).2.2.2.1 (Nat.le_of_ble_eq_true rfl) (fun X => ?_)
  refine ev_ok (o := 12) (ini := false) (Cl := C_X12_readRod N) (Rc := RcV) (B := B_X12_readRod) (K := fun pc ls st g => kb pc 18 (lgr 0 ls fun a0 => lgi 1 ls fun x1 => pe st (J_X12_readRod_18 N a0 x1 g)) (none)) rfl (fun e => by cases e) (by decide) (rcV_ok rfl) ?_ (co_X12_readRod N q) lb_X12_readRod 3000 0 S_X12_readRod_0 _ _ h ls_X12_readRod_0 hf
  intro pc ls st g e
  rcases kb_s e with ⟨rfl, e⟩ | e
  · obtain ⟨a0, e0, f0⟩ := lgr_s e
    obtain ⟨x1, e1, f1⟩ := lgi_s f0
    obtain ⟨qe, fe⟩ := pe_s f1
    subst qe
    exact MW.sub (List.forall_mem_cons.mpr ⟨lg_mem e0, List.forall_mem_cons.mpr ⟨lg_mem e1, fun _ h => absurd h List.not_mem_nil⟩⟩) (t_X12_readRod_18 N a0 x1 g fe)
  cases e
def J_X12_readBand_286 (N : Nat) (a0 : Nat) (x1 : Int32) (x2 : Int32) (h : mH) : Option (mH) :=
  (gI h 12 a0 12).bind fun v1 =>
  if v1 = 0 then
    (gR h 12 a0 5).bind fun v2 =>
    (stI 0 h v2 (iAdd (jI 27) x1) x2).bind fun h3 =>
    (gR h3 12 a0 5).bind fun v4 =>
    (ldI 0 h3 v4 (jI 26)).bind fun v5 =>
    (stI 0 h3 v4 (jI 26) (iAdd v5 (jI 1))).bind fun h6 =>
    some h6
  else
    some h
def J_X12_readBand_221 (N : Nat) (a0 : Nat) (x1 : Int32) (x2 : Int32) (s_0 : Nat) (s_1 : Int32) (s_2 : Int32) (h : mH) : Option (mH) :=
  (stI 0 h s_0 s_1 s_2).bind fun h1 =>
  (gR h1 12 a0 5).bind fun v2 =>
  (stI 0 h1 v2 (iAdd (jI 75) x1) (jI 0)).bind fun h3 =>
  (rcv h3 12 a0).bind fun _ =>
  (f_X12_eats N a0 (jI 12) h3).bind fun p4 =>
  if p4.1 = 0 then
    (rcv p4.2 12 a0).bind fun _ =>
    (f_X12_eats N a0 (jI 13) p4.2).bind fun p5 =>
    if p5.1 = 0 then
      J_X12_readBand_286 N a0 x1 x2 p5.2
    else
      (gR p5.2 12 a0 5).bind fun v6 =>
      (rcv p5.2 12 a0).bind fun _ =>
      (f_X12_takes N a0 (jI 0) (jI 9) p5.2).bind fun p7 =>
      (stI 0 p7.2 v6 (iAdd (jI 75) x1) (iNeg p7.1)).bind fun h8 =>
      J_X12_readBand_286 N a0 x1 x2 h8
  else
    (gR p4.2 12 a0 5).bind fun v9 =>
    (rcv p4.2 12 a0).bind fun _ =>
    (f_X12_takes N a0 (jI 0) (jI 9) p4.2).bind fun p10 =>
    (stI 0 p10.2 v9 (iAdd (jI 75) x1) p10.1).bind fun h11 =>
    J_X12_readBand_286 N a0 x1 x2 h11
def J_X12_readBand_199 (N : Nat) (a0 : Nat) (x1 : Int32) (x2 : Int32) (h : mH) : Option (mH) :=
  (gR h 12 a0 5).bind fun v1 =>
  (rcv h 12 a0).bind fun _ =>
  (f_X12_eats N a0 (jI 11) h).bind fun p2 =>
  if p2.1 = 0 then
    J_X12_readBand_221 N a0 x1 x2 v1 (iAdd (jI 67) x1) (jI 0) p2.2
  else
    J_X12_readBand_221 N a0 x1 x2 v1 (iAdd (jI 67) x1) (jI 1) p2.2
def L_X12_readBand_155 (N : Nat) : Nat → Nat → Int32 → Int32 → Int32 → mH → Option (mH)
  | 0, _, _, _, _, _ => none
  | n + 1, a0, x1, x2, x3, h =>
    if x3 < x2 then
      (gI h 12 a0 12).bind fun v1 =>
      if v1 = 0 then
        (gR h 12 a0 5).bind fun v2 =>
        (gR h 12 a0 5).bind fun v3 =>
        (ldI 0 h v3 (jI 1)).bind fun v4 =>
        (rcv h 12 a0).bind fun _ =>
        (f_X12_takes N a0 (jI 0) (iSub v4 (jI 1)) h).bind fun p5 =>
        (stI 0 p5.2 v2 (iAdd (iAdd (jI 83) (iMul (jI 4) x1)) x3) p5.1).bind fun h6 =>
        let w7 := iAdd x3 (jI 1)
        L_X12_readBand_155 N n a0 x1 x2 w7 h6
      else
        J_X12_readBand_199 N a0 x1 x2 h
    else
      J_X12_readBand_199 N a0 x1 x2 h
def J_X12_readBand_36 (N : Nat) (a0 : Nat) (x1 : Int32) (h : mH) : Option (mH) :=
  (gI h 12 a0 12).bind fun v1 =>
  if v1 = 0 then
    (rcv h 12 a0).bind fun _ =>
    (f_X12_next N a0 h).bind fun h2 =>
    (rcv h2 12 a0).bind fun _ =>
    (f_X12_takes N a0 (jI 1) (jI 4) h2).bind fun p3 =>
    (rcv p3.2 12 a0).bind fun _ =>
    (f_X12_needs N a0 (jI 6) p3.2).bind fun h4 =>
    (gR h4 12 a0 5).bind fun v5 =>
    (rcv h4 12 a0).bind fun _ =>
    (f_X12_takes N a0 (jI 1) (jI 4) h4).bind fun p6 =>
    (stI 0 p6.2 v5 (iAdd (jI 35) x1) p6.1).bind fun h7 =>
    (rcv h7 12 a0).bind fun _ =>
    (f_X12_needs N a0 (jI 7) h7).bind fun h8 =>
    (gR h8 12 a0 5).bind fun v9 =>
    (rcv h8 12 a0).bind fun _ =>
    (f_X12_takes N a0 (jI 1) (jI 4) h8).bind fun p10 =>
    (stI 0 p10.2 v9 (iAdd (jI 43) x1) p10.1).bind fun h11 =>
    (rcv h11 12 a0).bind fun _ =>
    (f_X12_needs N a0 (jI 8) h11).bind fun h12 =>
    (gR h12 12 a0 5).bind fun v13 =>
    (rcv h12 12 a0).bind fun _ =>
    (f_X12_takes N a0 (jI 1) (jI 40) h12).bind fun p14 =>
    (stI 0 p14.2 v13 (iAdd (jI 51) x1) p14.1).bind fun h15 =>
    (rcv h15 12 a0).bind fun _ =>
    (f_X12_needs N a0 (jI 9) h15).bind fun h16 =>
    (gR h16 12 a0 5).bind fun v17 =>
    (gR h16 12 a0 5).bind fun v18 =>
    (ldI 0 h16 v18 (jI 0)).bind fun v19 =>
    (rcv h16 12 a0).bind fun _ =>
    (f_X12_takes N a0 (jI 0) (iSub v19 (jI 1)) h16).bind fun p20 =>
    (stI 0 p20.2 v17 (iAdd (jI 59) x1) p20.1).bind fun h21 =>
    (rcv h21 12 a0).bind fun _ =>
    (f_X12_needs N a0 (jI 10) h21).bind fun h22 =>
    L_X12_readBand_155 N N a0 x1 p3.1 (jI 0) h22
  else
    some h
def f_X12_readBand (N : Nat) (a0 : Nat) (h : mH) : Option (mH) :=
  (gR h 12 a0 5).bind fun v1 =>
  (ldI 0 h v1 (jI 26)).bind fun v2 =>
  (gR h 12 a0 5).bind fun v3 =>
  (ldI 0 h v3 (jI 0)).bind fun v4 =>
  if v4 = 0 then
    (rcv h 12 a0).bind fun _ =>
    (f_X12_fails N a0 (jI 3) h).bind fun h5 =>
    J_X12_readBand_36 N a0 v2 h5
  else
    if v2 = (jI 8) then
      (rcv h 12 a0).bind fun _ =>
      (f_X12_fails N a0 (jI 4) h).bind fun h6 =>
      J_X12_readBand_36 N a0 v2 h6
    else
      J_X12_readBand_36 N a0 v2 h
def y_X12_readBand : mM := (yX12_readBand, cX12_readBand, 4, none)
def B_X12_readBand : List (Nat × List mI) := [(25, [(.iload_n 1, 1, [1], []), (.bipush 8, 2, [], [8]), (.if_icmp .ne 8, 3, [36], []), (.aload_n 0, 1, [0], []), (.iconst 4, 1, [], [4]), (.invokevirtual 143, 3, [0, 234, 1, 12, 278], [])]), (44, [(.aload_n 0, 1, [0], []), (.invokevirtual 137, 3, [0, 233, 0, 12, 270], []), (.aload_n 0, 1, [0], []), (.iconst 1, 1, [], [1]), (.iconst 4, 1, [], [4]), (.invokevirtual 151, 3, [0, 238, 2, 12, 279], []), (.istore_n 2, 1, [2], []), (.aload_n 0, 1, [0], []), (.bipush 6, 2, [], [6]), (.invokevirtual 155, 3, [0, 237, 1, 12, 281], []), (.aload_n 0, 1, [0], []), (.getfield 27, 3, [12, 5, 2, 131], []), (.bipush 35, 2, [], [35]), (.iload_n 1, 1, [1], []), (.iadd, 1, [], []), (.aload_n 0, 1, [0], []), (.iconst 1, 1, [], [1]), (.iconst 4, 1, [], [4]), (.invokevirtual 151, 3, [0, 238, 2, 12, 279], []), (.iastore, 1, [], []), (.aload_n 0, 1, [0], []), (.bipush 7, 2, [], [7]), (.invokevirtual 155, 3, [0, 237, 1, 12, 281], []), (.aload_n 0, 1, [0], []), (.getfield 27, 3, [12, 5, 2, 131], []), (.bipush 43, 2, [], [43]), (.iload_n 1, 1, [1], []), (.iadd, 1, [], []), (.aload_n 0, 1, [0], []), (.iconst 1, 1, [], [1]), (.iconst 4, 1, [], [4]), (.invokevirtual 151, 3, [0, 238, 2, 12, 279], []), (.iastore, 1, [], []), (.aload_n 0, 1, [0], []), (.bipush 8, 2, [], [8]), (.invokevirtual 155, 3, [0, 237, 1, 12, 281], []), (.aload_n 0, 1, [0], []), (.getfield 27, 3, [12, 5, 2, 131], []), (.bipush 51, 2, [], [51]), (.iload_n 1, 1, [1], []), (.iadd, 1, [], []), (.aload_n 0, 1, [0], []), (.iconst 1, 1, [], [1]), (.bipush 40, 2, [], [40]), (.invokevirtual 151, 3, [0, 238, 2, 12, 279], []), (.iastore, 1, [], []), (.aload_n 0, 1, [0], []), (.bipush 9, 2, [], [9]), (.invokevirtual 155, 3, [0, 237, 1, 12, 281], []), (.aload_n 0, 1, [0], []), (.getfield 27, 3, [12, 5, 2, 131], []), (.bipush 59, 2, [], [59]), (.iload_n 1, 1, [1], []), (.iadd, 1, [], []), (.aload_n 0, 1, [0], []), (.iconst 0, 1, [], [0]), (.aload_n 0, 1, [0], []), (.getfield 27, 3, [12, 5, 2, 131], []), (.iconst 0, 1, [], [0]), (.iaload, 1, [0], []), (.iconst 1, 1, [], [1]), (.isub, 1, [], []), (.invokevirtual 151, 3, [0, 238, 2, 12, 279], []), (.iastore, 1, [], []), (.aload_n 0, 1, [0], []), (.bipush 10, 2, [], [10]), (.invokevirtual 155, 3, [0, 237, 1, 12, 281], []), (.iconst 0, 1, [], [0]), (.istore_n 3, 1, [3], [])]), (220, [(.iconst 0, 1, [], [0])]), (260, [(.aload_n 0, 1, [0], []), (.bipush 13, 2, [], [13]), (.invokevirtual 140, 3, [0, 236, 1, 12, 282], []), (.ifCond .eq 20, 3, [286], []), (.aload_n 0, 1, [0], []), (.getfield 27, 3, [12, 5, 2, 131], []), (.bipush 75, 2, [], [75]), (.iload_n 1, 1, [1], []), (.iadd, 1, [], []), (.aload_n 0, 1, [0], []), (.iconst 0, 1, [], [0]), (.bipush 9, 2, [], [9]), (.invokevirtual 151, 3, [0, 238, 2, 12, 279], []), (.ineg, 1, [], []), (.iastore, 1, [], [])]), (294, [(.aload_n 0, 1, [0], []), (.getfield 27, 3, [12, 5, 2, 131], []), (.bipush 27, 2, [], [27]), (.iload_n 1, 1, [1], []), (.iadd, 1, [], []), (.iload_n 2, 1, [2], []), (.iastore, 1, [], []), (.aload_n 0, 1, [0], []), (.getfield 27, 3, [12, 5, 2, 131], []), (.bipush 26, 2, [], [26]), (.dup2, 1, [], []), (.iaload, 1, [0], []), (.iconst 1, 1, [], [1]), (.iadd, 1, [], []), (.iastore, 1, [], []), (.return_, 1, [], [])])]
def S_X12_readBand_0 : List mI := [(.aload_n 0, 1, [0], []), (.getfield 27, 3, [12, 5, 2, 131], []), (.bipush 26, 2, [], [26]), (.iaload, 1, [0], []), (.istore_n 1, 1, [1], []), (.aload_n 0, 1, [0], []), (.getfield 27, 3, [12, 5, 2, 131], []), (.iconst 0, 1, [], [0]), (.iaload, 1, [0], []), (.ifCond .ne 11, 3, [25], []), (.aload_n 0, 1, [0], []), (.iconst 3, 1, [], [3]), (.invokevirtual 143, 3, [0, 234, 1, 12, 278], []), (.goto 14, 3, [36], [])]
def S_X12_readBand_36 : List mI := [(.aload_n 0, 1, [0], []), (.getfield 128, 3, [12, 12, 0, 138], []), (.ifCond .eq 4, 3, [44], []), (.return_, 1, [], [])]
def S_X12_readBand_155 : List mI := [(.iload_n 3, 1, [3], []), (.iload_n 2, 1, [2], []), (.if_icmp .ge 42, 3, [199], []), (.aload_n 0, 1, [0], []), (.getfield 128, 3, [12, 12, 0, 138], []), (.ifCond .ne 35, 3, [199], []), (.aload_n 0, 1, [0], []), (.getfield 27, 3, [12, 5, 2, 131], []), (.bipush 83, 2, [], [83]), (.iconst 4, 1, [], [4]), (.iload_n 1, 1, [1], []), (.imul, 1, [], []), (.iadd, 1, [], []), (.iload_n 3, 1, [3], []), (.iadd, 1, [], []), (.aload_n 0, 1, [0], []), (.iconst 0, 1, [], [0]), (.aload_n 0, 1, [0], []), (.getfield 27, 3, [12, 5, 2, 131], []), (.iconst 1, 1, [], [1]), (.iaload, 1, [0], []), (.iconst 1, 1, [], [1]), (.isub, 1, [], []), (.invokevirtual 151, 3, [0, 238, 2, 12, 279], []), (.iastore, 1, [], []), (.iinc 3 1, 3, [3], [1]), (.goto (-41), 3, [155], [])]
def S_X12_readBand_199 : List mI := [(.aload_n 0, 1, [0], []), (.getfield 27, 3, [12, 5, 2, 131], []), (.bipush 67, 2, [], [67]), (.iload_n 1, 1, [1], []), (.iadd, 1, [], []), (.aload_n 0, 1, [0], []), (.bipush 11, 2, [], [11]), (.invokevirtual 140, 3, [0, 236, 1, 12, 282], []), (.ifCond .eq 7, 3, [220], []), (.iconst 1, 1, [], [1]), (.goto 4, 3, [221], [])]
def S_X12_readBand_221 : List mI := [(.iastore, 1, [], []), (.aload_n 0, 1, [0], []), (.getfield 27, 3, [12, 5, 2, 131], []), (.bipush 75, 2, [], [75]), (.iload_n 1, 1, [1], []), (.iadd, 1, [], []), (.iconst 0, 1, [], [0]), (.iastore, 1, [], []), (.aload_n 0, 1, [0], []), (.bipush 12, 2, [], [12]), (.invokevirtual 140, 3, [0, 236, 1, 12, 282], []), (.ifCond .eq 22, 3, [260], []), (.aload_n 0, 1, [0], []), (.getfield 27, 3, [12, 5, 2, 131], []), (.bipush 75, 2, [], [75]), (.iload_n 1, 1, [1], []), (.iadd, 1, [], []), (.aload_n 0, 1, [0], []), (.iconst 0, 1, [], [0]), (.bipush 9, 2, [], [9]), (.invokevirtual 151, 3, [0, 238, 2, 12, 279], []), (.iastore, 1, [], []), (.goto 29, 3, [286], [])]
def S_X12_readBand_286 : List mI := [(.aload_n 0, 1, [0], []), (.getfield 128, 3, [12, 12, 0, 138], []), (.ifCond .eq 4, 3, [294], []), (.return_, 1, [], [])]
theorem lb_X12_readBand : B_X12_readBand.all (fun b => lst y_X12_readBand.2.1 12 y_X12_readBand.2.2.1 false b.1 b.2) = true := by decide +kernel
theorem ls_X12_readBand_0 : lst y_X12_readBand.2.1 12 y_X12_readBand.2.2.1 false 0 S_X12_readBand_0 = true := by decide +kernel
theorem ls_X12_readBand_36 : lst y_X12_readBand.2.1 12 y_X12_readBand.2.2.1 false 36 S_X12_readBand_36 = true := by decide +kernel
theorem ls_X12_readBand_155 : lst y_X12_readBand.2.1 12 y_X12_readBand.2.2.1 false 155 S_X12_readBand_155 = true := by decide +kernel
theorem ls_X12_readBand_199 : lst y_X12_readBand.2.1 12 y_X12_readBand.2.2.1 false 199 S_X12_readBand_199 = true := by decide +kernel
theorem ls_X12_readBand_221 : lst y_X12_readBand.2.1 12 y_X12_readBand.2.2.1 false 221 S_X12_readBand_221 = true := by decide +kernel
theorem ls_X12_readBand_286 : lst y_X12_readBand.2.1 12 y_X12_readBand.2.2.1 false 286 S_X12_readBand_286 = true := by decide +kernel
def C_X12_readBand (N : Nat) : Nat → List Value → mH → (Option Value → mH → Option (mH)) → Option (mH) := fun j as g k => kb j 234 (pr1 as fun b0 as => pp1 as fun b1 as => pe as ((f_X12_fails N b0 b1 g).bind fun p => k none p)) (kb j 233 (pr1 as fun b0 as => pe as ((f_X12_next N b0 g).bind fun p => k none p)) (kb j 238 (pr1 as fun b0 as => pp1 as fun b1 as => pp1 as fun b2 as => pe as ((f_X12_takes N b0 b1 b2 g).bind fun p => k (some (.int p.1)) p.2)) (kb j 237 (pr1 as fun b0 as => pp1 as fun b1 as => pe as ((f_X12_needs N b0 b1 g).bind fun p => k none p)) (kb j 236 (pr1 as fun b0 as => pp1 as fun b1 as => pe as ((f_X12_eats N b0 b1 g).bind fun p => k (some (.int p.1)) p.2)) (none)))))
theorem co_X12_readBand (N : Nat) (q : mH) : clOK 8 q (C_X12_readBand N) := by
  intro j as g k e
  rcases kb_s e with ⟨rfl, e⟩ | e
  · obtain ⟨b0, r0, q0, f0⟩ := pr1_s e
    obtain ⟨b1, r1, q1, f1⟩ := pp1_s f0
    obtain ⟨qe, fe⟩ := pe_s f1
    obtain ⟨p, e1, e2⟩ := bnd_s fe
    subst qe
    subst q1
    subst q0
    exact ⟨_, _, _, _, 4, rfl, (by decide), m_X12_fails N e1, e2⟩
  rcases kb_s e with ⟨rfl, e⟩ | e
  · obtain ⟨b0, r0, q0, f0⟩ := pr1_s e
    obtain ⟨qe, fe⟩ := pe_s f0
    obtain ⟨p, e1, e2⟩ := bnd_s fe
    subst qe
    subst q0
    exact ⟨_, _, _, _, 5, rfl, (by decide), m_X12_next N e1, e2⟩
  rcases kb_s e with ⟨rfl, e⟩ | e
  · obtain ⟨b0, r0, q0, f0⟩ := pr1_s e
    obtain ⟨b1, r1, q1, f1⟩ := pp1_s f0
    obtain ⟨b2, r2, q2, f2⟩ := pp1_s f1
    obtain ⟨qe, fe⟩ := pe_s f2
    obtain ⟨p, e1, e2⟩ := bnd_s fe
    subst qe
    subst q2
    subst q1
    subst q0
    exact ⟨_, _, _, _, 6, rfl, (by decide), m_X12_takes N e1, e2⟩
  rcases kb_s e with ⟨rfl, e⟩ | e
  · obtain ⟨b0, r0, q0, f0⟩ := pr1_s e
    obtain ⟨b1, r1, q1, f1⟩ := pp1_s f0
    obtain ⟨qe, fe⟩ := pe_s f1
    obtain ⟨p, e1, e2⟩ := bnd_s fe
    subst qe
    subst q1
    subst q0
    exact ⟨_, _, _, _, 7, rfl, (by decide), m_X12_needs N e1, e2⟩
  rcases kb_s e with ⟨rfl, e⟩ | e
  · obtain ⟨b0, r0, q0, f0⟩ := pr1_s e
    obtain ⟨b1, r1, q1, f1⟩ := pp1_s f0
    obtain ⟨qe, fe⟩ := pe_s f1
    obtain ⟨p, e1, e2⟩ := bnd_s fe
    subst qe
    subst q1
    subst q0
    exact ⟨_, _, _, _, 6, rfl, (by decide), m_X12_eats N e1, e2⟩
  cases e
set_option maxRecDepth 100000 in
theorem t_X12_readBand_286 {X : Nat × (Nat → Int32)} (N : Nat) {q : mH} (a0 : Nat) (x1 : Int32) (x2 : Int32) (h : mH) (hf : J_X12_readBand_286 N a0 x1 x2 h = some q) : MW X y_X12_readBand 8 286 [(0, .ref a0), (1, .int x1), (2, .int x2)] [] h none q := by
  refine ev_ok (o := 12) (ini := false) (Cl := C_X12_readBand N) (Rc := RcV) (B := B_X12_readBand) (K := fun pc ls st g => none) rfl (fun e => by cases e) (by decide) (rcV_ok rfl) ?_ (co_X12_readBand N q) lb_X12_readBand 3000 286 S_X12_readBand_286 _ _ h ls_X12_readBand_286 hf
  intro pc ls st g e
  cases e
set_option maxRecDepth 100000 in
theorem t_X12_readBand_221 {X : Nat × (Nat → Int32)} (N : Nat) {q : mH} (a0 : Nat) (x1 : Int32) (x2 : Int32) (s_0 : Nat) (s_1 : Int32) (s_2 : Int32) (h : mH) (hf : J_X12_readBand_221 N a0 x1 x2 s_0 s_1 s_2 h = some q) : MW X y_X12_readBand 8 221 [(0, .ref a0), (1, .int x1), (2, .int x2)] [.int s_2, .int s_1, .ref s_0] h none q := by
  refine ev_ok (o := 12) (ini := false) (Cl := C_X12_readBand N) (Rc := RcV) (B := B_X12_readBand) (K := fun pc ls st g => kb pc 286 (lgr 0 ls fun a0 => lgi 1 ls fun x1 => lgi 2 ls fun x2 => pe st (J_X12_readBand_286 N a0 x1 x2 g)) (none)) rfl (fun e => by cases e) (by decide) (rcV_ok rfl) ?_ (co_X12_readBand N q) lb_X12_readBand 3000 221 S_X12_readBand_221 _ _ h ls_X12_readBand_221 hf
  intro pc ls st g e
  rcases kb_s e with ⟨rfl, e⟩ | e
  · obtain ⟨a0, e0, f0⟩ := lgr_s e
    obtain ⟨x1, e1, f1⟩ := lgi_s f0
    obtain ⟨x2, e2, f2⟩ := lgi_s f1
    obtain ⟨qe, fe⟩ := pe_s f2
    subst qe
    exact MW.sub (List.forall_mem_cons.mpr ⟨lg_mem e0, List.forall_mem_cons.mpr ⟨lg_mem e1, List.forall_mem_cons.mpr ⟨lg_mem e2, fun _ h => absurd h List.not_mem_nil⟩⟩⟩) (t_X12_readBand_286 N a0 x1 x2 g fe)
  cases e
set_option maxRecDepth 100000 in
theorem t_X12_readBand_199 {X : Nat × (Nat → Int32)} (N : Nat) {q : mH} (a0 : Nat) (x1 : Int32) (x2 : Int32) (h : mH) (hf : J_X12_readBand_199 N a0 x1 x2 h = some q) : MW X y_X12_readBand 8 199 [(0, .ref a0), (1, .int x1), (2, .int x2)] [] h none q := by
  refine ev_ok (o := 12) (ini := false) (Cl := C_X12_readBand N) (Rc := RcV) (B := B_X12_readBand) (K := fun pc ls st g => kb pc 221 (lgr 0 ls fun a0 => lgi 1 ls fun x1 => lgi 2 ls fun x2 => pp1 st fun s_2 st => pp1 st fun s_1 st => pr1 st fun s_0 st => pe st (J_X12_readBand_221 N a0 x1 x2 s_0 s_1 s_2 g)) (none)) rfl (fun e => by cases e) (by decide) (rcV_ok rfl) ?_ (co_X12_readBand N q) lb_X12_readBand 3000 199 S_X12_readBand_199 _ _ h ls_X12_readBand_199 hf
  intro pc ls st g e
  rcases kb_s e with ⟨rfl, e⟩ | e
  · obtain ⟨a0, e0, f0⟩ := lgr_s e
    obtain ⟨x1, e1, f1⟩ := lgi_s f0
    obtain ⟨x2, e2, f2⟩ := lgi_s f1
    obtain ⟨s_2, r0, q0, g0⟩ := pp1_s f2
    obtain ⟨s_1, r1, q1, g1⟩ := pp1_s g0
    obtain ⟨s_0, r2, q2, g2⟩ := pr1_s g1
    obtain ⟨qe, fe⟩ := pe_s g2
    subst qe
    subst q2
    subst q1
    subst q0
    exact MW.sub (List.forall_mem_cons.mpr ⟨lg_mem e0, List.forall_mem_cons.mpr ⟨lg_mem e1, List.forall_mem_cons.mpr ⟨lg_mem e2, fun _ h => absurd h List.not_mem_nil⟩⟩⟩) (t_X12_readBand_221 N a0 x1 x2 s_0 s_1 s_2 g fe)
  cases e
set_option maxRecDepth 100000 in
theorem t_X12_readBand_155 {X : Nat × (Nat → Int32)} (N : Nat) {q : mH} : ∀ (n : Nat) (a0 : Nat) (x1 : Int32) (x2 : Int32) (x3 : Int32) (h : mH), L_X12_readBand_155 N n a0 x1 x2 x3 h = some q → MW X y_X12_readBand 8 155 [(0, .ref a0), (1, .int x1), (2, .int x2), (3, .int x3)] [] h none q := by
  intro n
  induction n with
  | zero => intro a0 x1 x2 x3 h hf; cases hf
  | succ n ih =>
    intro a0 x1 x2 x3 h hf
    refine ev_ok (o := 12) (ini := false) (Cl := C_X12_readBand N) (Rc := RcV) (B := B_X12_readBand) (K := fun pc ls st g => kb pc 155 (lgr 0 ls fun a0 => lgi 1 ls fun x1 => lgi 2 ls fun x2 => lgi 3 ls fun x3 => pe st (L_X12_readBand_155 N n a0 x1 x2 x3 g)) (kb pc 199 (lgr 0 ls fun a0 => lgi 1 ls fun x1 => lgi 2 ls fun x2 => pe st (J_X12_readBand_199 N a0 x1 x2 g)) (none))) rfl (fun e => by cases e) (by decide) (rcV_ok rfl) ?_ (co_X12_readBand N q) lb_X12_readBand 3000 155 S_X12_readBand_155 _ _ h ls_X12_readBand_155 hf
    intro pc ls st g e
    rcases kb_s e with ⟨rfl, e⟩ | e
    · obtain ⟨a0, e0, f0⟩ := lgr_s e
      obtain ⟨x1, e1, f1⟩ := lgi_s f0
      obtain ⟨x2, e2, f2⟩ := lgi_s f1
      obtain ⟨x3, e3, f3⟩ := lgi_s f2
      obtain ⟨qe, fe⟩ := pe_s f3
      subst qe
      exact MW.sub (List.forall_mem_cons.mpr ⟨lg_mem e0, List.forall_mem_cons.mpr ⟨lg_mem e1, List.forall_mem_cons.mpr ⟨lg_mem e2, List.forall_mem_cons.mpr ⟨lg_mem e3, fun _ h => absurd h List.not_mem_nil⟩⟩⟩⟩) (ih a0 x1 x2 x3 g fe)
    rcases kb_s e with ⟨rfl, e⟩ | e
    · obtain ⟨a0, e0, f0⟩ := lgr_s e
      obtain ⟨x1, e1, f1⟩ := lgi_s f0
      obtain ⟨x2, e2, f2⟩ := lgi_s f1
      obtain ⟨qe, fe⟩ := pe_s f2
      subst qe
      exact MW.sub (List.forall_mem_cons.mpr ⟨lg_mem e0, List.forall_mem_cons.mpr ⟨lg_mem e1, List.forall_mem_cons.mpr ⟨lg_mem e2, fun _ h => absurd h List.not_mem_nil⟩⟩⟩) (t_X12_readBand_199 N a0 x1 x2 g fe)
    cases e
set_option maxRecDepth 100000 in
theorem t_X12_readBand_36 {X : Nat × (Nat → Int32)} (N : Nat) {q : mH} (a0 : Nat) (x1 : Int32) (h : mH) (hf : J_X12_readBand_36 N a0 x1 h = some q) : MW X y_X12_readBand 8 36 [(0, .ref a0), (1, .int x1)] [] h none q := by
  refine ev_ok (o := 12) (ini := false) (Cl := C_X12_readBand N) (Rc := RcV) (B := B_X12_readBand) (K := fun pc ls st g => kb pc 155 (lgr 0 ls fun a0 => lgi 1 ls fun x1 => lgi 2 ls fun x2 => lgi 3 ls fun x3 => pe st (L_X12_readBand_155 N N a0 x1 x2 x3 g)) (none)) rfl (fun e => by cases e) (by decide) (rcV_ok rfl) ?_ (co_X12_readBand N q) lb_X12_readBand 3000 36 S_X12_readBand_36 _ _ h ls_X12_readBand_36 hf
  intro pc ls st g e
  rcases kb_s e with ⟨rfl, e⟩ | e
  · obtain ⟨a0, e0, f0⟩ := lgr_s e
    obtain ⟨x1, e1, f1⟩ := lgi_s f0
    obtain ⟨x2, e2, f2⟩ := lgi_s f1
    obtain ⟨x3, e3, f3⟩ := lgi_s f2
    obtain ⟨qe, fe⟩ := pe_s f3
    subst qe
    exact MW.sub (List.forall_mem_cons.mpr ⟨lg_mem e0, List.forall_mem_cons.mpr ⟨lg_mem e1, List.forall_mem_cons.mpr ⟨lg_mem e2, List.forall_mem_cons.mpr ⟨lg_mem e3, fun _ h => absurd h List.not_mem_nil⟩⟩⟩⟩) (t_X12_readBand_155 N N a0 x1 x2 x3 g fe)
  cases e
set_option maxRecDepth 100000 in
theorem m_X12_readBand (N : Nat) {a0 : Nat} {h : mH} {q : mH} (hf : f_X12_readBand N a0 h = some q) : MM y_X12_readBand 8 [.ref a0] h none q := by
  refine MM.of (mFx (j := 241) rfl).2.2.2.1 (Nat.le_of_ble_eq_true rfl) (fun X => ?_)
  refine ev_ok (o := 12) (ini := false) (Cl := C_X12_readBand N) (Rc := RcV) (B := B_X12_readBand) (K := fun pc ls st g => kb pc 36 (lgr 0 ls fun a0 => lgi 1 ls fun x1 => pe st (J_X12_readBand_36 N a0 x1 g)) (none)) rfl (fun e => by cases e) (by decide) (rcV_ok rfl) ?_ (co_X12_readBand N q) lb_X12_readBand 3000 0 S_X12_readBand_0 _ _ h ls_X12_readBand_0 hf
  intro pc ls st g e
  rcases kb_s e with ⟨rfl, e⟩ | e
  · obtain ⟨a0, e0, f0⟩ := lgr_s e
    obtain ⟨x1, e1, f1⟩ := lgi_s f0
    obtain ⟨qe, fe⟩ := pe_s f1
    subst qe
    exact MW.sub (List.forall_mem_cons.mpr ⟨lg_mem e0, List.forall_mem_cons.mpr ⟨lg_mem e1, fun _ h => absurd h List.not_mem_nil⟩⟩) (t_X12_readBand_36 N a0 x1 g fe)
  cases e
def J_X12_readSlip_108 (N : Nat) (a0 : Nat) (x1 : Int32) (x2 : Int32) (x3 : Int32) (s_0 : Int32) (h : mH) : Option (mH) :=
  (gI h 12 a0 12).bind fun v1 =>
  if v1 = 0 then
    (gR h 12 a0 5).bind fun v2 =>
    (stI 0 h v2 (iAdd (jI 116) x1) x2).bind fun h3 =>
    (gR h3 12 a0 5).bind fun v4 =>
    (stI 0 h3 v4 (iAdd (jI 124) x1) x3).bind fun h5 =>
    (gR h5 12 a0 5).bind fun v6 =>
    (stI 0 h5 v6 (iAdd (jI 132) x1) s_0).bind fun h7 =>
    (gR h7 12 a0 5).bind fun v8 =>
    (ldI 0 h7 v8 (jI 115)).bind fun v9 =>
    (stI 0 h7 v8 (jI 115) (iAdd v9 (jI 1))).bind fun h10 =>
    some h10
  else
    some h
def J_X12_readSlip_73 (N : Nat) (a0 : Nat) (x1 : Int32) (x2 : Int32) (s_0 : Int32) (h : mH) : Option (mH) :=
  (gI h 12 a0 12).bind fun v1 =>
  if v1 = 0 then
    (gR h 12 a0 5).bind fun v2 =>
    (ldI 0 h v2 (iAdd (jI 51) x2)).bind fun v3 =>
    (gR h 12 a0 5).bind fun v4 =>
    (ldI 0 h v4 (jI 0)).bind fun v5 =>
    (rcv h 12 a0).bind fun _ =>
    (f_X12_takes N a0 (jI 0) (iSub (iMul v3 v5) (jI 1)) h).bind fun p6 =>
    J_X12_readSlip_108 N a0 x1 x2 s_0 p6.1 p6.2
  else
    J_X12_readSlip_108 N a0 x1 x2 s_0 (jI 0) h
def J_X12_readSlip_19 (N : Nat) (a0 : Nat) (x1 : Int32) (h : mH) : Option (mH) :=
  (gI h 12 a0 12).bind fun v1 =>
  if v1 = 0 then
    (rcv h 12 a0).bind fun _ =>
    (f_X12_next N a0 h).bind fun h2 =>
    (gR h2 12 a0 5).bind fun v3 =>
    (ldI 0 h2 v3 (jI 26)).bind fun v4 =>
    (rcv h2 12 a0).bind fun _ =>
    (f_X12_takes N a0 (jI 0) (iSub v4 (jI 1)) h2).bind fun p5 =>
    (gI p5.2 12 a0 12).bind fun v6 =>
    if v6 = 0 then
      (gR p5.2 12 a0 5).bind fun v7 =>
      (ldI 0 p5.2 v7 (iAdd (jI 27) p5.1)).bind fun v8 =>
      (rcv p5.2 12 a0).bind fun _ =>
      (f_X12_takes N a0 (jI 0) (iSub v8 (jI 1)) p5.2).bind fun p9 =>
      J_X12_readSlip_73 N a0 x1 p5.1 p9.1 p9.2
    else
      J_X12_readSlip_73 N a0 x1 p5.1 (jI 0) p5.2
  else
    some h
def f_X12_readSlip (N : Nat) (a0 : Nat) (h : mH) : Option (mH) :=
  (gR h 12 a0 5).bind fun v1 =>
  (ldI 0 h v1 (jI 115)).bind fun v2 =>
  if v2 = (jI 8) then
    (rcv h 12 a0).bind fun _ =>
    (f_X12_fails N a0 (jI 4) h).bind fun h3 =>
    J_X12_readSlip_19 N a0 v2 h3
  else
    J_X12_readSlip_19 N a0 v2 h
def y_X12_readSlip : mM := (yX12_readSlip, cX12_readSlip, 5, none)
def B_X12_readSlip : List (Nat × List mI) := [(27, [(.aload_n 0, 1, [0], []), (.invokevirtual 137, 3, [0, 233, 0, 12, 270], []), (.aload_n 0, 1, [0], []), (.iconst 0, 1, [], [0]), (.aload_n 0, 1, [0], []), (.getfield 27, 3, [12, 5, 2, 131], []), (.bipush 26, 2, [], [26]), (.iaload, 1, [0], []), (.iconst 1, 1, [], [1]), (.isub, 1, [], []), (.invokevirtual 151, 3, [0, 238, 2, 12, 279], []), (.istore_n 2, 1, [2], []), (.aload_n 0, 1, [0], []), (.getfield 128, 3, [12, 12, 0, 138], []), (.ifCond .ne 22, 3, [72], []), (.aload_n 0, 1, [0], []), (.iconst 0, 1, [], [0]), (.aload_n 0, 1, [0], []), (.getfield 27, 3, [12, 5, 2, 131], []), (.bipush 27, 2, [], [27]), (.iload_n 2, 1, [2], []), (.iadd, 1, [], []), (.iaload, 1, [0], []), (.iconst 1, 1, [], [1]), (.isub, 1, [], []), (.invokevirtual 151, 3, [0, 238, 2, 12, 279], []), (.goto 4, 3, [73], [])]), (72, [(.iconst 0, 1, [], [0])]), (107, [(.iconst 0, 1, [], [0])]), (118, [(.aload_n 0, 1, [0], []), (.getfield 27, 3, [12, 5, 2, 131], []), (.bipush 116, 2, [], [116]), (.iload_n 1, 1, [1], []), (.iadd, 1, [], []), (.iload_n 2, 1, [2], []), (.iastore, 1, [], []), (.aload_n 0, 1, [0], []), (.getfield 27, 3, [12, 5, 2, 131], []), (.bipush 124, 2, [], [124]), (.iload_n 1, 1, [1], []), (.iadd, 1, [], []), (.iload_n 3, 1, [3], []), (.iastore, 1, [], []), (.aload_n 0, 1, [0], []), (.getfield 27, 3, [12, 5, 2, 131], []), (.sipush 132, 3, [], [132]), (.iload_n 1, 1, [1], []), (.iadd, 1, [], []), (.iload 4, 2, [4], []), (.iastore, 1, [], []), (.aload_n 0, 1, [0], []), (.getfield 27, 3, [12, 5, 2, 131], []), (.bipush 115, 2, [], [115]), (.dup2, 1, [], []), (.iaload, 1, [0], []), (.iconst 1, 1, [], [1]), (.iadd, 1, [], []), (.iastore, 1, [], []), (.return_, 1, [], [])])]
def S_X12_readSlip_0 : List mI := [(.aload_n 0, 1, [0], []), (.getfield 27, 3, [12, 5, 2, 131], []), (.bipush 115, 2, [], [115]), (.iaload, 1, [0], []), (.istore_n 1, 1, [1], []), (.iload_n 1, 1, [1], []), (.bipush 8, 2, [], [8]), (.if_icmp .ne 8, 3, [19], []), (.aload_n 0, 1, [0], []), (.iconst 4, 1, [], [4]), (.invokevirtual 143, 3, [0, 234, 1, 12, 278], [])]
def S_X12_readSlip_19 : List mI := [(.aload_n 0, 1, [0], []), (.getfield 128, 3, [12, 12, 0, 138], []), (.ifCond .eq 4, 3, [27], []), (.return_, 1, [], [])]
def S_X12_readSlip_73 : List mI := [(.istore_n 3, 1, [3], []), (.aload_n 0, 1, [0], []), (.getfield 128, 3, [12, 12, 0, 138], []), (.ifCond .ne 29, 3, [107], []), (.aload_n 0, 1, [0], []), (.iconst 0, 1, [], [0]), (.aload_n 0, 1, [0], []), (.getfield 27, 3, [12, 5, 2, 131], []), (.bipush 51, 2, [], [51]), (.iload_n 2, 1, [2], []), (.iadd, 1, [], []), (.iaload, 1, [0], []), (.aload_n 0, 1, [0], []), (.getfield 27, 3, [12, 5, 2, 131], []), (.iconst 0, 1, [], [0]), (.iaload, 1, [0], []), (.imul, 1, [], []), (.iconst 1, 1, [], [1]), (.isub, 1, [], []), (.invokevirtual 151, 3, [0, 238, 2, 12, 279], []), (.goto 4, 3, [108], [])]
def S_X12_readSlip_108 : List mI := [(.istore 4, 2, [4], []), (.aload_n 0, 1, [0], []), (.getfield 128, 3, [12, 12, 0, 138], []), (.ifCond .eq 4, 3, [118], []), (.return_, 1, [], [])]
theorem lb_X12_readSlip : B_X12_readSlip.all (fun b => lst y_X12_readSlip.2.1 12 y_X12_readSlip.2.2.1 false b.1 b.2) = true := by decide +kernel
theorem ls_X12_readSlip_0 : lst y_X12_readSlip.2.1 12 y_X12_readSlip.2.2.1 false 0 S_X12_readSlip_0 = true := by decide +kernel
theorem ls_X12_readSlip_19 : lst y_X12_readSlip.2.1 12 y_X12_readSlip.2.2.1 false 19 S_X12_readSlip_19 = true := by decide +kernel
theorem ls_X12_readSlip_73 : lst y_X12_readSlip.2.1 12 y_X12_readSlip.2.2.1 false 73 S_X12_readSlip_73 = true := by decide +kernel
theorem ls_X12_readSlip_108 : lst y_X12_readSlip.2.1 12 y_X12_readSlip.2.2.1 false 108 S_X12_readSlip_108 = true := by decide +kernel
def C_X12_readSlip (N : Nat) : Nat → List Value → mH → (Option Value → mH → Option (mH)) → Option (mH) := fun j as g k => kb j 234 (pr1 as fun b0 as => pp1 as fun b1 as => pe as ((f_X12_fails N b0 b1 g).bind fun p => k none p)) (kb j 233 (pr1 as fun b0 as => pe as ((f_X12_next N b0 g).bind fun p => k none p)) (kb j 238 (pr1 as fun b0 as => pp1 as fun b1 as => pp1 as fun b2 as => pe as ((f_X12_takes N b0 b1 b2 g).bind fun p => k (some (.int p.1)) p.2)) (none)))
theorem co_X12_readSlip (N : Nat) (q : mH) : clOK 7 q (C_X12_readSlip N) := by
  intro j as g k e
  rcases kb_s e with ⟨rfl, e⟩ | e
  · obtain ⟨b0, r0, q0, f0⟩ := pr1_s e
    obtain ⟨b1, r1, q1, f1⟩ := pp1_s f0
    obtain ⟨qe, fe⟩ := pe_s f1
    obtain ⟨p, e1, e2⟩ := bnd_s fe
    subst qe
    subst q1
    subst q0
    exact ⟨_, _, _, _, 4, rfl, (by decide), m_X12_fails N e1, e2⟩
  rcases kb_s e with ⟨rfl, e⟩ | e
  · obtain ⟨b0, r0, q0, f0⟩ := pr1_s e
    obtain ⟨qe, fe⟩ := pe_s f0
    obtain ⟨p, e1, e2⟩ := bnd_s fe
    subst qe
    subst q0
    exact ⟨_, _, _, _, 5, rfl, (by decide), m_X12_next N e1, e2⟩
  rcases kb_s e with ⟨rfl, e⟩ | e
  · obtain ⟨b0, r0, q0, f0⟩ := pr1_s e
    obtain ⟨b1, r1, q1, f1⟩ := pp1_s f0
    obtain ⟨b2, r2, q2, f2⟩ := pp1_s f1
    obtain ⟨qe, fe⟩ := pe_s f2
    obtain ⟨p, e1, e2⟩ := bnd_s fe
    subst qe
    subst q2
    subst q1
    subst q0
    exact ⟨_, _, _, _, 6, rfl, (by decide), m_X12_takes N e1, e2⟩
  cases e
set_option maxRecDepth 100000 in
theorem t_X12_readSlip_108 {X : Nat × (Nat → Int32)} (N : Nat) {q : mH} (a0 : Nat) (x1 : Int32) (x2 : Int32) (x3 : Int32) (s_0 : Int32) (h : mH) (hf : J_X12_readSlip_108 N a0 x1 x2 x3 s_0 h = some q) : MW X y_X12_readSlip 7 108 [(0, .ref a0), (1, .int x1), (2, .int x2), (3, .int x3)] [.int s_0] h none q := by
  refine ev_ok (o := 12) (ini := false) (Cl := C_X12_readSlip N) (Rc := RcV) (B := B_X12_readSlip) (K := fun pc ls st g => none) rfl (fun e => by cases e) (by decide) (rcV_ok rfl) ?_ (co_X12_readSlip N q) lb_X12_readSlip 3000 108 S_X12_readSlip_108 _ _ h ls_X12_readSlip_108 hf
  intro pc ls st g e
  cases e
set_option maxRecDepth 100000 in
theorem t_X12_readSlip_73 {X : Nat × (Nat → Int32)} (N : Nat) {q : mH} (a0 : Nat) (x1 : Int32) (x2 : Int32) (s_0 : Int32) (h : mH) (hf : J_X12_readSlip_73 N a0 x1 x2 s_0 h = some q) : MW X y_X12_readSlip 7 73 [(0, .ref a0), (1, .int x1), (2, .int x2)] [.int s_0] h none q := by
  refine ev_ok (o := 12) (ini := false) (Cl := C_X12_readSlip N) (Rc := RcV) (B := B_X12_readSlip) (K := fun pc ls st g => kb pc 108 (lgr 0 ls fun a0 => lgi 1 ls fun x1 => lgi 2 ls fun x2 => lgi 3 ls fun x3 => pp1 st fun s_0 st => pe st (J_X12_readSlip_108 N a0 x1 x2 x3 s_0 g)) (none)) rfl (fun e => by cases e) (by decide) (rcV_ok rfl) ?_ (co_X12_readSlip N q) lb_X12_readSlip 3000 73 S_X12_readSlip_73 _ _ h ls_X12_readSlip_73 hf
  intro pc ls st g e
  rcases kb_s e with ⟨rfl, e⟩ | e
  · obtain ⟨a0, e0, f0⟩ := lgr_s e
    obtain ⟨x1, e1, f1⟩ := lgi_s f0
    obtain ⟨x2, e2, f2⟩ := lgi_s f1
    obtain ⟨x3, e3, f3⟩ := lgi_s f2
    obtain ⟨s_0, r0, q0, g0⟩ := pp1_s f3
    obtain ⟨qe, fe⟩ := pe_s g0
    subst qe
    subst q0
    exact MW.sub (List.forall_mem_cons.mpr ⟨lg_mem e0, List.forall_mem_cons.mpr ⟨lg_mem e1, List.forall_mem_cons.mpr ⟨lg_mem e2, List.forall_mem_cons.mpr ⟨lg_mem e3, fun _ h => absurd h List.not_mem_nil⟩⟩⟩⟩) (t_X12_readSlip_108 N a0 x1 x2 x3 s_0 g fe)
  cases e
set_option maxRecDepth 100000 in
theorem t_X12_readSlip_19 {X : Nat × (Nat → Int32)} (N : Nat) {q : mH} (a0 : Nat) (x1 : Int32) (h : mH) (hf : J_X12_readSlip_19 N a0 x1 h = some q) : MW X y_X12_readSlip 7 19 [(0, .ref a0), (1, .int x1)] [] h none q := by
  refine ev_ok (o := 12) (ini := false) (Cl := C_X12_readSlip N) (Rc := RcV) (B := B_X12_readSlip) (K := fun pc ls st g => kb pc 73 (lgr 0 ls fun a0 => lgi 1 ls fun x1 => lgi 2 ls fun x2 => pp1 st fun s_0 st => pe st (J_X12_readSlip_73 N a0 x1 x2 s_0 g)) (none)) rfl (fun e => by cases e) (by decide) (rcV_ok rfl) ?_ (co_X12_readSlip N q) lb_X12_readSlip 3000 19 S_X12_readSlip_19 _ _ h ls_X12_readSlip_19 hf
  intro pc ls st g e
  rcases kb_s e with ⟨rfl, e⟩ | e
  · obtain ⟨a0, e0, f0⟩ := lgr_s e
    obtain ⟨x1, e1, f1⟩ := lgi_s f0
    obtain ⟨x2, e2, f2⟩ := lgi_s f1
    obtain ⟨s_0, r0, q0, g0⟩ := pp1_s f2
    obtain ⟨qe, fe⟩ := pe_s g0
    subst qe
    subst q0
    exact MW.sub (List.forall_mem_cons.mpr ⟨lg_mem e0, List.forall_mem_cons.mpr ⟨lg_mem e1, List.forall_mem_cons.mpr ⟨lg_mem e2, fun _ h => absurd h List.not_mem_nil⟩⟩⟩) (t_X12_readSlip_73 N a0 x1 x2 s_0 g fe)
  cases e
set_option maxRecDepth 100000 in
theorem m_X12_readSlip (N : Nat) {a0 : Nat} {h : mH} {q : mH} (hf : f_X12_readSlip N a0 h = some q) : MM y_X12_readSlip 7 [.ref a0] h none q := by
  refine MM.of (mFx (j := 242) rfl).2.2.2.1 (Nat.le_of_ble_eq_true rfl) (fun X => ?_)
  refine ev_ok (o := 12) (ini := false) (Cl := C_X12_readSlip N) (Rc := RcV) (B := B_X12_readSlip) (K := fun pc ls st g => kb pc 19 (lgr 0 ls fun a0 => lgi 1 ls fun x1 => pe st (J_X12_readSlip_19 N a0 x1 g)) (none)) rfl (fun e => by cases e) (by decide) (rcV_ok rfl) ?_ (co_X12_readSlip N q) lb_X12_readSlip 3000 0 S_X12_readSlip_0 _ _ h ls_X12_readSlip_0 hf
  intro pc ls st g e
  rcases kb_s e with ⟨rfl, e⟩ | e
  · obtain ⟨a0, e0, f0⟩ := lgr_s e
    obtain ⟨x1, e1, f1⟩ := lgi_s f0
    obtain ⟨qe, fe⟩ := pe_s f1
    subst qe
    exact MW.sub (List.forall_mem_cons.mpr ⟨lg_mem e0, List.forall_mem_cons.mpr ⟨lg_mem e1, fun _ h => absurd h List.not_mem_nil⟩⟩) (t_X12_readSlip_19 N a0 x1 g fe)
  cases e
def J_X12_readLine_121 (N : Nat) (a0 : Nat) (h : mH) : Option (mH) :=
  (rcv h 12 a0).bind fun _ =>
  (f_X12_needs N a0 (jI 19) h).bind fun h1 =>
  (gR h1 12 a0 5).bind fun v2 =>
  (ldI 0 h1 v2 (jI 142)).bind fun v3 =>
  (stI 0 h1 v2 (jI 142) (iAdd v3 (jI 1))).bind fun h4 =>
  some h4
def f_X12_readLine (N : Nat) (a0 : Nat) (h : mH) : Option (mH) :=
  (rcv h 12 a0).bind fun _ =>
  (f_X12_is N a0 (jI 0) h).bind fun p1 =>
  if p1.1 = 0 then
    (rcv p1.2 12 a0).bind fun _ =>
    (f_X12_is N a0 (jI 1) p1.2).bind fun p2 =>
    if p2.1 = 0 then
      (rcv p2.2 12 a0).bind fun _ =>
      (f_X12_is N a0 (jI 5) p2.2).bind fun p3 =>
      if p3.1 = 0 then
        (rcv p3.2 12 a0).bind fun _ =>
        (f_X12_is N a0 (jI 14) p3.2).bind fun p4 =>
        if p4.1 = 0 then
          (rcv p4.2 12 a0).bind fun _ =>
          (f_X12_eats N a0 (jI 15) p4.2).bind fun p5 =>
          if p5.1 = 0 then
            (rcv p5.2 12 a0).bind fun _ =>
            (f_X12_eats N a0 (jI 16) p5.2).bind fun p6 =>
            if p6.1 = 0 then
              (rcv p6.2 12 a0).bind fun _ =>
              (f_X12_fails N a0 (jI 2) p6.2).bind fun h7 =>
              J_X12_readLine_121 N a0 h7
            else
              (gR p6.2 12 a0 5).bind fun v8 =>
              (rcv p6.2 12 a0).bind fun _ =>
              (f_X12_takes N a0 (jI 1) (jI 999) p6.2).bind fun p9 =>
              (stI 0 p9.2 v8 (jI 141) p9.1).bind fun h10 =>
              J_X12_readLine_121 N a0 h10
          else
            (gR p5.2 12 a0 5).bind fun v11 =>
            (rcv p5.2 12 a0).bind fun _ =>
            (f_X12_takes N a0 (jI 0) (jI 20) p5.2).bind fun p12 =>
            (stI 0 p12.2 v11 (jI 140) p12.1).bind fun h13 =>
            J_X12_readLine_121 N a0 h13
        else
          (rcv p4.2 12 a0).bind fun _ =>
          (f_X12_readSlip N a0 p4.2).bind fun h14 =>
          J_X12_readLine_121 N a0 h14
      else
        (rcv p3.2 12 a0).bind fun _ =>
        (f_X12_readBand N a0 p3.2).bind fun h15 =>
        J_X12_readLine_121 N a0 h15
    else
      (rcv p2.2 12 a0).bind fun _ =>
      (f_X12_readRod N a0 p2.2).bind fun h16 =>
      J_X12_readLine_121 N a0 h16
  else
    (rcv p1.2 12 a0).bind fun _ =>
    (f_X12_readStakes N a0 p1.2).bind fun h17 =>
    J_X12_readLine_121 N a0 h17
def y_X12_readLine : mM := (yX12_readLine, cX12_readLine, 1, none)
def B_X12_readLine : List (Nat × List mI) := [(15, [(.aload_n 0, 1, [0], []), (.iconst 1, 1, [], [1]), (.invokevirtual 134, 3, [0, 235, 1, 12, 276], []), (.ifCond .eq 10, 3, [30], []), (.aload_n 0, 1, [0], []), (.invokevirtual 161, 3, [0, 240, 0, 12, 280], []), (.goto 94, 3, [121], [])]), (30, [(.aload_n 0, 1, [0], []), (.iconst 5, 1, [], [5]), (.invokevirtual 134, 3, [0, 235, 1, 12, 276], []), (.ifCond .eq 10, 3, [45], []), (.aload_n 0, 1, [0], []), (.invokevirtual 164, 3, [0, 241, 0, 12, 283], []), (.goto 79, 3, [121], [])]), (45, [(.aload_n 0, 1, [0], []), (.bipush 14, 2, [], [14]), (.invokevirtual 134, 3, [0, 235, 1, 12, 276], []), (.ifCond .eq 10, 3, [61], []), (.aload_n 0, 1, [0], []), (.invokevirtual 167, 3, [0, 242, 0, 12, 284], []), (.goto 63, 3, [121], [])]), (61, [(.aload_n 0, 1, [0], []), (.bipush 15, 2, [], [15]), (.invokevirtual 140, 3, [0, 236, 1, 12, 282], []), (.ifCond .eq 21, 3, [88], []), (.aload_n 0, 1, [0], []), (.getfield 27, 3, [12, 5, 2, 131], []), (.sipush 140, 3, [], [140]), (.aload_n 0, 1, [0], []), (.iconst 0, 1, [], [0]), (.bipush 20, 2, [], [20]), (.invokevirtual 151, 3, [0, 238, 2, 12, 279], []), (.iastore, 1, [], []), (.goto 36, 3, [121], [])]), (88, [(.aload_n 0, 1, [0], []), (.bipush 16, 2, [], [16]), (.invokevirtual 140, 3, [0, 236, 1, 12, 282], []), (.ifCond .eq 22, 3, [116], []), (.aload_n 0, 1, [0], []), (.getfield 27, 3, [12, 5, 2, 131], []), (.sipush 141, 3, [], [141]), (.aload_n 0, 1, [0], []), (.iconst 1, 1, [], [1]), (.sipush 999, 3, [], [999]), (.invokevirtual 151, 3, [0, 238, 2, 12, 279], []), (.iastore, 1, [], []), (.goto 8, 3, [121], [])]), (116, [(.aload_n 0, 1, [0], []), (.iconst 2, 1, [], [2]), (.invokevirtual 143, 3, [0, 234, 1, 12, 278], [])])]
def S_X12_readLine_0 : List mI := [(.aload_n 0, 1, [0], []), (.iconst 0, 1, [], [0]), (.invokevirtual 134, 3, [0, 235, 1, 12, 276], []), (.ifCond .eq 10, 3, [15], []), (.aload_n 0, 1, [0], []), (.invokevirtual 158, 3, [0, 239, 0, 12, 277], []), (.goto 109, 3, [121], [])]
def S_X12_readLine_121 : List mI := [(.aload_n 0, 1, [0], []), (.bipush 19, 2, [], [19]), (.invokevirtual 155, 3, [0, 237, 1, 12, 281], []), (.aload_n 0, 1, [0], []), (.getfield 27, 3, [12, 5, 2, 131], []), (.sipush 142, 3, [], [142]), (.dup2, 1, [], []), (.iaload, 1, [0], []), (.iconst 1, 1, [], [1]), (.iadd, 1, [], []), (.iastore, 1, [], []), (.return_, 1, [], [])]
theorem lb_X12_readLine : B_X12_readLine.all (fun b => lst y_X12_readLine.2.1 12 y_X12_readLine.2.2.1 false b.1 b.2) = true := by decide +kernel
theorem ls_X12_readLine_0 : lst y_X12_readLine.2.1 12 y_X12_readLine.2.2.1 false 0 S_X12_readLine_0 = true := by decide +kernel
theorem ls_X12_readLine_121 : lst y_X12_readLine.2.1 12 y_X12_readLine.2.2.1 false 121 S_X12_readLine_121 = true := by decide +kernel
def C_X12_readLine (N : Nat) : Nat → List Value → mH → (Option Value → mH → Option (mH)) → Option (mH) := fun j as g k => kb j 235 (pr1 as fun b0 as => pp1 as fun b1 as => pe as ((f_X12_is N b0 b1 g).bind fun p => k (some (.int p.1)) p.2)) (kb j 239 (pr1 as fun b0 as => pe as ((f_X12_readStakes N b0 g).bind fun p => k none p)) (kb j 240 (pr1 as fun b0 as => pe as ((f_X12_readRod N b0 g).bind fun p => k none p)) (kb j 241 (pr1 as fun b0 as => pe as ((f_X12_readBand N b0 g).bind fun p => k none p)) (kb j 242 (pr1 as fun b0 as => pe as ((f_X12_readSlip N b0 g).bind fun p => k none p)) (kb j 236 (pr1 as fun b0 as => pp1 as fun b1 as => pe as ((f_X12_eats N b0 b1 g).bind fun p => k (some (.int p.1)) p.2)) (kb j 238 (pr1 as fun b0 as => pp1 as fun b1 as => pp1 as fun b2 as => pe as ((f_X12_takes N b0 b1 b2 g).bind fun p => k (some (.int p.1)) p.2)) (kb j 234 (pr1 as fun b0 as => pp1 as fun b1 as => pe as ((f_X12_fails N b0 b1 g).bind fun p => k none p)) (kb j 237 (pr1 as fun b0 as => pp1 as fun b1 as => pe as ((f_X12_needs N b0 b1 g).bind fun p => k none p)) (none)))))))))
theorem co_X12_readLine (N : Nat) (q : mH) : clOK 9 q (C_X12_readLine N) := by
  intro j as g k e
  rcases kb_s e with ⟨rfl, e⟩ | e
  · obtain ⟨b0, r0, q0, f0⟩ := pr1_s e
    obtain ⟨b1, r1, q1, f1⟩ := pp1_s f0
    obtain ⟨qe, fe⟩ := pe_s f1
    obtain ⟨p, e1, e2⟩ := bnd_s fe
    subst qe
    subst q1
    subst q0
    exact ⟨_, _, _, _, 4, rfl, (by decide), m_X12_is N e1, e2⟩
  rcases kb_s e with ⟨rfl, e⟩ | e
  · obtain ⟨b0, r0, q0, f0⟩ := pr1_s e
    obtain ⟨qe, fe⟩ := pe_s f0
    obtain ⟨p, e1, e2⟩ := bnd_s fe
    subst qe
    subst q0
    exact ⟨_, _, _, _, 7, rfl, (by decide), m_X12_readStakes N e1, e2⟩
  rcases kb_s e with ⟨rfl, e⟩ | e
  · obtain ⟨b0, r0, q0, f0⟩ := pr1_s e
    obtain ⟨qe, fe⟩ := pe_s f0
    obtain ⟨p, e1, e2⟩ := bnd_s fe
    subst qe
    subst q0
    exact ⟨_, _, _, _, 8, rfl, (by decide), m_X12_readRod N e1, e2⟩
  rcases kb_s e with ⟨rfl, e⟩ | e
  · obtain ⟨b0, r0, q0, f0⟩ := pr1_s e
    obtain ⟨qe, fe⟩ := pe_s f0
    obtain ⟨p, e1, e2⟩ := bnd_s fe
    subst qe
    subst q0
    exact ⟨_, _, _, _, 8, rfl, (by decide), m_X12_readBand N e1, e2⟩
  rcases kb_s e with ⟨rfl, e⟩ | e
  · obtain ⟨b0, r0, q0, f0⟩ := pr1_s e
    obtain ⟨qe, fe⟩ := pe_s f0
    obtain ⟨p, e1, e2⟩ := bnd_s fe
    subst qe
    subst q0
    exact ⟨_, _, _, _, 7, rfl, (by decide), m_X12_readSlip N e1, e2⟩
  rcases kb_s e with ⟨rfl, e⟩ | e
  · obtain ⟨b0, r0, q0, f0⟩ := pr1_s e
    obtain ⟨b1, r1, q1, f1⟩ := pp1_s f0
    obtain ⟨qe, fe⟩ := pe_s f1
    obtain ⟨p, e1, e2⟩ := bnd_s fe
    subst qe
    subst q1
    subst q0
    exact ⟨_, _, _, _, 6, rfl, (by decide), m_X12_eats N e1, e2⟩
  rcases kb_s e with ⟨rfl, e⟩ | e
  · obtain ⟨b0, r0, q0, f0⟩ := pr1_s e
    obtain ⟨b1, r1, q1, f1⟩ := pp1_s f0
    obtain ⟨b2, r2, q2, f2⟩ := pp1_s f1
    obtain ⟨qe, fe⟩ := pe_s f2
    obtain ⟨p, e1, e2⟩ := bnd_s fe
    subst qe
    subst q2
    subst q1
    subst q0
    exact ⟨_, _, _, _, 6, rfl, (by decide), m_X12_takes N e1, e2⟩
  rcases kb_s e with ⟨rfl, e⟩ | e
  · obtain ⟨b0, r0, q0, f0⟩ := pr1_s e
    obtain ⟨b1, r1, q1, f1⟩ := pp1_s f0
    obtain ⟨qe, fe⟩ := pe_s f1
    obtain ⟨p, e1, e2⟩ := bnd_s fe
    subst qe
    subst q1
    subst q0
    exact ⟨_, _, _, _, 4, rfl, (by decide), m_X12_fails N e1, e2⟩
  rcases kb_s e with ⟨rfl, e⟩ | e
  · obtain ⟨b0, r0, q0, f0⟩ := pr1_s e
    obtain ⟨b1, r1, q1, f1⟩ := pp1_s f0
    obtain ⟨qe, fe⟩ := pe_s f1
    obtain ⟨p, e1, e2⟩ := bnd_s fe
    subst qe
    subst q1
    subst q0
    exact ⟨_, _, _, _, 7, rfl, (by decide), m_X12_needs N e1, e2⟩
  cases e
set_option maxRecDepth 100000 in
theorem t_X12_readLine_121 {X : Nat × (Nat → Int32)} (N : Nat) {q : mH} (a0 : Nat) (h : mH) (hf : J_X12_readLine_121 N a0 h = some q) : MW X y_X12_readLine 9 121 [(0, .ref a0)] [] h none q := by
  refine ev_ok (o := 12) (ini := false) (Cl := C_X12_readLine N) (Rc := RcV) (B := B_X12_readLine) (K := fun pc ls st g => none) rfl (fun e => by cases e) (by decide) (rcV_ok rfl) ?_ (co_X12_readLine N q) lb_X12_readLine 3000 121 S_X12_readLine_121 _ _ h ls_X12_readLine_121 hf
  intro pc ls st g e
  cases e
set_option maxRecDepth 100000 in
theorem m_X12_readLine (N : Nat) {a0 : Nat} {h : mH} {q : mH} (hf : f_X12_readLine N a0 h = some q) : MM y_X12_readLine 9 [.ref a0] h none q := by
  refine MM.of (mFx (j := 243) rfl).2.2.2.1 (Nat.le_of_ble_eq_true rfl) (fun X => ?_)
  refine ev_ok (o := 12) (ini := false) (Cl := C_X12_readLine N) (Rc := RcV) (B := B_X12_readLine) (K := fun pc ls st g => kb pc 121 (lgr 0 ls fun a0 => pe st (J_X12_readLine_121 N a0 g)) (none)) rfl (fun e => by cases e) (by decide) (rcV_ok rfl) ?_ (co_X12_readLine N q) lb_X12_readLine 3000 0 S_X12_readLine_0 _ _ h ls_X12_readLine_0 hf
  intro pc ls st g e
  rcases kb_s e with ⟨rfl, e⟩ | e
  · obtain ⟨a0, e0, f0⟩ := lgr_s e
    obtain ⟨qe, fe⟩ := pe_s f0
    subst qe
    exact MW.sub (List.forall_mem_cons.mpr ⟨lg_mem e0, fun _ h => absurd h List.not_mem_nil⟩) (t_X12_readLine_121 N a0 g fe)
  cases e
def L_X12_basket_128 (N : Nat) : Nat → Nat → Int32 → mH → Option (Int32 × mH)
  | 0, _, _, _ => none
  | n + 1, a0, x2, h =>
    if x2 < (jI 143) then
      (gR h 12 a0 2).bind fun v1 =>
      (gR h 12 a0 5).bind fun v2 =>
      (ldI 0 h v2 x2).bind fun v3 =>
      (stI 0 h v1 x2 v3).bind fun h4 =>
      let w5 := iAdd x2 (jI 1)
      L_X12_basket_128 N n a0 w5 h4
    else
      (gR h 12 a0 2).bind fun v6 =>
      (stI 0 h v6 (jI 143) (jI (-1))).bind fun h7 =>
      (gR h7 12 a0 2).bind fun v8 =>
      (stI 0 h7 v8 (jI 400) (jI (-1))).bind fun h9 =>
      (gR h9 12 a0 2).bind fun v10 =>
      (ldI 0 h9 v10 (jI 142)).bind fun v11 =>
      some (v11, h9)
def J_X12_basket_104 (N : Nat) (a0 : Nat) (s_0 : Nat) (s_1 : Int32) (h : mH) : Option (Int32 × mH) :=
  (pV h 12 s_0 15 (.int s_1)).bind fun h1 =>
  (gI h1 12 a0 12).bind fun v2 =>
  if v2 = 0 then
    L_X12_basket_128 N N a0 (jI 0) h1
  else
    (gI h1 12 a0 12).bind fun v3 =>
    (rcv h1 12 a0).bind fun _ =>
    (f_X12_no N a0 (iSub (jI (-30)) v3) h1).bind fun p4 =>
    some (p4.1, p4.2)
def J_X12_basket_80 (N : Nat) (a0 : Nat) (h : mH) : Option (Int32 × mH) :=
  (gI h 12 a0 12).bind fun v1 =>
  (pV h 12 a0 14 (.int v1)).bind fun h2 =>
  (gI h2 12 a0 12).bind fun v3 =>
  if v3 = 0 then
    J_X12_basket_104 N a0 a0 (jI (-1)) h2
  else
    (gI h2 12 a0 13).bind fun v4 =>
    J_X12_basket_104 N a0 a0 v4 h2
def L_X12_basket_57 (N : Nat) : Nat → Nat → mH → Option (Int32 × mH)
  | 0, _, _ => none
  | n + 1, a0, h =>
    (gI h 12 a0 12).bind fun v1 =>
    if v1 = 0 then
      (gI h 12 a0 10).bind fun v2 =>
      if v2 = (jI 20) then
        J_X12_basket_80 N a0 h
      else
        (rcv h 12 a0).bind fun _ =>
        (f_X12_readLine N a0 h).bind fun h3 =>
        L_X12_basket_57 N n a0 h3
    else
      J_X12_basket_80 N a0 h
def f_X12_basket (N : Nat) (a0 : Nat) (x1 : Int32) (h : mH) : Option (Int32 × mH) :=
  (pV h 12 a0 0 (.int (jI 0))).bind fun h1 =>
  (gI h1 12 a0 6).bind fun v2 =>
  (f_X12_within N x1.toInt64 (jL 0) v2.toInt64 h1).bind fun p3 =>
  if p3.1 = 0 then
    (rcv p3.2 12 a0).bind fun _ =>
    (f_X12_no N a0 (jI (-3)) p3.2).bind fun p4 =>
    some (p4.1, p4.2)
  else
    (pV p3.2 12 a0 9 (.int x1)).bind fun h5 =>
    (pV h5 12 a0 6 (.int (jI 0))).bind fun h6 =>
    (pV h6 12 a0 8 (.int (jI 0))).bind fun h7 =>
    (pV h7 12 a0 12 (.int (jI 0))).bind fun h8 =>
    (gR h8 12 a0 5).bind fun v9 =>
    (f_X12_plain N v9 h8).bind fun h10 =>
    (rcv h10 12 a0).bind fun _ =>
    (f_X12_next N a0 h10).bind fun h11 =>
    L_X12_basket_57 N N a0 h11
def y_X12_basket : mM := (yX12_basket, cX12_basket, 3, (some .int))
def B_X12_basket : List (Nat × List mI) := [(26, [(.aload_n 0, 1, [0], []), (.iload_n 1, 1, [1], []), (.putfield 88, 3, [12, 9, 0, 135], []), (.aload_n 0, 1, [0], []), (.iconst 0, 1, [], [0]), (.putfield 81, 3, [12, 6, 0, 132], []), (.aload_n 0, 1, [0], []), (.iconst 0, 1, [], [0]), (.putfield 106, 3, [12, 8, 0, 134], []), (.aload_n 0, 1, [0], []), (.iconst 0, 1, [], [0]), (.putfield 128, 3, [12, 12, 0, 138], []), (.aload_n 0, 1, [0], []), (.getfield 27, 3, [12, 5, 2, 131], []), (.invokestatic 77, 3, [1, 227, 1, 0, 265], []), (.aload_n 0, 1, [0], []), (.invokevirtual 137, 3, [0, 233, 0, 12, 270], [])]), (100, [(.aload_n 0, 1, [0], []), (.getfield 131, 3, [12, 13, 0, 139], [])]), (126, [(.iconst 0, 1, [], [0]), (.istore_n 2, 1, [2], [])]), (153, [(.aload_n 0, 1, [0], []), (.getfield 17, 3, [12, 2, 2, 128], []), (.sipush 143, 3, [], [143]), (.iconst (-1), 1, [], [-1]), (.iastore, 1, [], []), (.aload_n 0, 1, [0], []), (.getfield 17, 3, [12, 2, 2, 128], []), (.sipush 400, 3, [], [400]), (.iconst (-1), 1, [], [-1]), (.iastore, 1, [], []), (.aload_n 0, 1, [0], []), (.getfield 17, 3, [12, 2, 2, 128], []), (.sipush 142, 3, [], [142]), (.iaload, 1, [0], []), (.ireturn, 1, [], [])])]
def S_X12_basket_0 : List mI := [(.aload_n 0, 1, [0], []), (.iconst 0, 1, [], [0]), (.putfield 1, 3, [12, 0, 0, 126], []), (.iload_n 1, 1, [1], []), (.i2l, 1, [], []), (.lconst 0, 1, [], [0]), (.aload_n 0, 1, [0], []), (.getfield 81, 3, [12, 6, 0, 132], []), (.i2l, 1, [], []), (.invokestatic 147, 3, [1, 225, 3, 0, 269], []), (.ifCond .ne 10, 3, [26], []), (.aload_n 0, 1, [0], []), (.bipush (-3), 2, [], [-3]), (.invokevirtual 84, 3, [0, 224, 1, 12, 267], []), (.ireturn, 1, [], [])]
def S_X12_basket_57 : List mI := [(.aload_n 0, 1, [0], []), (.getfield 128, 3, [12, 12, 0, 138], []), (.ifCond .ne 19, 3, [80], []), (.aload_n 0, 1, [0], []), (.getfield 112, 3, [12, 10, 0, 136], []), (.bipush 20, 2, [], [20]), (.if_icmp .eq 10, 3, [80], []), (.aload_n 0, 1, [0], []), (.invokevirtual 170, 3, [0, 243, 0, 12, 275], []), (.goto (-20), 3, [57], [])]
def S_X12_basket_80 : List mI := [(.aload_n 0, 1, [0], []), (.aload_n 0, 1, [0], []), (.getfield 128, 3, [12, 12, 0, 138], []), (.putfield 173, 3, [12, 14, 0, 140], []), (.aload_n 0, 1, [0], []), (.aload_n 0, 1, [0], []), (.getfield 128, 3, [12, 12, 0, 138], []), (.ifCond .ne 7, 3, [100], []), (.iconst (-1), 1, [], [-1]), (.goto 7, 3, [104], [])]
def S_X12_basket_104 : List mI := [(.putfield 30, 3, [12, 15, 0, 141], []), (.aload_n 0, 1, [0], []), (.getfield 128, 3, [12, 12, 0, 138], []), (.ifCond .eq 15, 3, [126], []), (.aload_n 0, 1, [0], []), (.bipush (-30), 2, [], [-30]), (.aload_n 0, 1, [0], []), (.getfield 128, 3, [12, 12, 0, 138], []), (.isub, 1, [], []), (.invokevirtual 84, 3, [0, 224, 1, 12, 267], []), (.ireturn, 1, [], [])]
def S_X12_basket_128 : List mI := [(.iload_n 2, 1, [2], []), (.sipush 143, 3, [], [143]), (.if_icmp .ge 21, 3, [153], []), (.aload_n 0, 1, [0], []), (.getfield 17, 3, [12, 2, 2, 128], []), (.iload_n 2, 1, [2], []), (.aload_n 0, 1, [0], []), (.getfield 27, 3, [12, 5, 2, 131], []), (.iload_n 2, 1, [2], []), (.iaload, 1, [0], []), (.iastore, 1, [], []), (.iinc 2 1, 3, [2], [1]), (.goto (-22), 3, [128], [])]
theorem lb_X12_basket : B_X12_basket.all (fun b => lst y_X12_basket.2.1 12 y_X12_basket.2.2.1 false b.1 b.2) = true := by decide +kernel
theorem ls_X12_basket_0 : lst y_X12_basket.2.1 12 y_X12_basket.2.2.1 false 0 S_X12_basket_0 = true := by decide +kernel
theorem ls_X12_basket_57 : lst y_X12_basket.2.1 12 y_X12_basket.2.2.1 false 57 S_X12_basket_57 = true := by decide +kernel
theorem ls_X12_basket_80 : lst y_X12_basket.2.1 12 y_X12_basket.2.2.1 false 80 S_X12_basket_80 = true := by decide +kernel
theorem ls_X12_basket_104 : lst y_X12_basket.2.1 12 y_X12_basket.2.2.1 false 104 S_X12_basket_104 = true := by decide +kernel
theorem ls_X12_basket_128 : lst y_X12_basket.2.1 12 y_X12_basket.2.2.1 false 128 S_X12_basket_128 = true := by decide +kernel
def C_X12_basket (N : Nat) : Nat → List Value → mH → (Option Value → mH → Option (Int32 × mH)) → Option (Int32 × mH) := fun j as g k => kb j 225 (pl1 as fun b0 as => pl1 as fun b1 as => pl1 as fun b2 as => pe as ((f_X12_within N b0 b1 b2 g).bind fun p => k (some (.int p.1)) p.2)) (kb j 224 (pr1 as fun b0 as => pp1 as fun b1 as => pe as ((f_X12_no N b0 b1 g).bind fun p => k (some (.int p.1)) p.2)) (kb j 227 (pr1 as fun b0 as => pe as ((f_X12_plain N b0 g).bind fun p => k none p)) (kb j 233 (pr1 as fun b0 as => pe as ((f_X12_next N b0 g).bind fun p => k none p)) (kb j 243 (pr1 as fun b0 as => pe as ((f_X12_readLine N b0 g).bind fun p => k none p)) (none)))))
theorem co_X12_basket (N : Nat) (q : Int32 × mH) : clOK 10 q (C_X12_basket N) := by
  intro j as g k e
  rcases kb_s e with ⟨rfl, e⟩ | e
  · obtain ⟨b0, r0, q0, f0⟩ := pl1_s e
    obtain ⟨b1, r1, q1, f1⟩ := pl1_s f0
    obtain ⟨b2, r2, q2, f2⟩ := pl1_s f1
    obtain ⟨qe, fe⟩ := pe_s f2
    obtain ⟨p, e1, e2⟩ := bnd_s fe
    subst qe
    subst q2
    subst q1
    subst q0
    exact ⟨_, _, _, _, 4, rfl, (by decide), m_X12_within N e1, e2⟩
  rcases kb_s e with ⟨rfl, e⟩ | e
  · obtain ⟨b0, r0, q0, f0⟩ := pr1_s e
    obtain ⟨b1, r1, q1, f1⟩ := pp1_s f0
    obtain ⟨qe, fe⟩ := pe_s f1
    obtain ⟨p, e1, e2⟩ := bnd_s fe
    subst qe
    subst q1
    subst q0
    exact ⟨_, _, _, _, 4, rfl, (by decide), m_X12_no N e1, e2⟩
  rcases kb_s e with ⟨rfl, e⟩ | e
  · obtain ⟨b0, r0, q0, f0⟩ := pr1_s e
    obtain ⟨qe, fe⟩ := pe_s f0
    obtain ⟨p, e1, e2⟩ := bnd_s fe
    subst qe
    subst q0
    exact ⟨_, _, _, _, 4, rfl, (by decide), m_X12_plain N e1, e2⟩
  rcases kb_s e with ⟨rfl, e⟩ | e
  · obtain ⟨b0, r0, q0, f0⟩ := pr1_s e
    obtain ⟨qe, fe⟩ := pe_s f0
    obtain ⟨p, e1, e2⟩ := bnd_s fe
    subst qe
    subst q0
    exact ⟨_, _, _, _, 5, rfl, (by decide), m_X12_next N e1, e2⟩
  rcases kb_s e with ⟨rfl, e⟩ | e
  · obtain ⟨b0, r0, q0, f0⟩ := pr1_s e
    obtain ⟨qe, fe⟩ := pe_s f0
    obtain ⟨p, e1, e2⟩ := bnd_s fe
    subst qe
    subst q0
    exact ⟨_, _, _, _, 9, rfl, (by decide), m_X12_readLine N e1, e2⟩
  cases e
set_option maxRecDepth 100000 in
theorem t_X12_basket_128 {X : Nat × (Nat → Int32)} (N : Nat) {q : Int32 × mH} : ∀ (n : Nat) (a0 : Nat) (x2 : Int32) (h : mH), L_X12_basket_128 N n a0 x2 h = some q → MW X y_X12_basket 10 128 [(0, .ref a0), (2, .int x2)] [] h (some (.int q.1)) q.2 := by
  intro n
  induction n with
  | zero => intro a0 x2 h hf; cases hf
  | succ n ih =>
    intro a0 x2 h hf
    refine ev_ok (o := 12) (ini := false) (Cl := C_X12_basket N) (Rc := RcI) (B := B_X12_basket) (K := fun pc ls st g => kb pc 128 (lgr 0 ls fun a0 => lgi 2 ls fun x2 => pe st (L_X12_basket_128 N n a0 x2 g)) (none)) rfl (fun e => by cases e) (by decide) (rcI_ok rfl) ?_ (co_X12_basket N q) lb_X12_basket 3000 128 S_X12_basket_128 _ _ h ls_X12_basket_128 hf
    intro pc ls st g e
    rcases kb_s e with ⟨rfl, e⟩ | e
    · obtain ⟨a0, e0, f0⟩ := lgr_s e
      obtain ⟨x2, e1, f1⟩ := lgi_s f0
      obtain ⟨qe, fe⟩ := pe_s f1
      subst qe
      exact MW.sub (List.forall_mem_cons.mpr ⟨lg_mem e0, List.forall_mem_cons.mpr ⟨lg_mem e1, fun _ h => absurd h List.not_mem_nil⟩⟩) (ih a0 x2 g fe)
    cases e
set_option maxRecDepth 100000 in
theorem t_X12_basket_104 {X : Nat × (Nat → Int32)} (N : Nat) {q : Int32 × mH} (a0 : Nat) (s_0 : Nat) (s_1 : Int32) (h : mH) (hf : J_X12_basket_104 N a0 s_0 s_1 h = some q) : MW X y_X12_basket 10 104 [(0, .ref a0)] [.int s_1, .ref s_0] h (some (.int q.1)) q.2 := by
  refine ev_ok (o := 12) (ini := false) (Cl := C_X12_basket N) (Rc := RcI) (B := B_X12_basket) (K := fun pc ls st g => kb pc 128 (lgr 0 ls fun a0 => lgi 2 ls fun x2 => pe st (L_X12_basket_128 N N a0 x2 g)) (none)) rfl (fun e => by cases e) (by decide) (rcI_ok rfl) ?_ (co_X12_basket N q) lb_X12_basket 3000 104 S_X12_basket_104 _ _ h ls_X12_basket_104 hf
  intro pc ls st g e
  rcases kb_s e with ⟨rfl, e⟩ | e
  · obtain ⟨a0, e0, f0⟩ := lgr_s e
    obtain ⟨x2, e1, f1⟩ := lgi_s f0
    obtain ⟨qe, fe⟩ := pe_s f1
    subst qe
    exact MW.sub (List.forall_mem_cons.mpr ⟨lg_mem e0, List.forall_mem_cons.mpr ⟨lg_mem e1, fun _ h => absurd h List.not_mem_nil⟩⟩) (t_X12_basket_128 N N a0 x2 g fe)
  cases e
set_option maxRecDepth 100000 in
theorem t_X12_basket_80 {X : Nat × (Nat → Int32)} (N : Nat) {q : Int32 × mH} (a0 : Nat) (h : mH) (hf : J_X12_basket_80 N a0 h = some q) : MW X y_X12_basket 10 80 [(0, .ref a0)] [] h (some (.int q.1)) q.2 := by
  refine ev_ok (o := 12) (ini := false) (Cl := C_X12_basket N) (Rc := RcI) (B := B_X12_basket) (K := fun pc ls st g => kb pc 104 (lgr 0 ls fun a0 => pp1 st fun s_1 st => pr1 st fun s_0 st => pe st (J_X12_basket_104 N a0 s_0 s_1 g)) (none)) rfl (fun e => by cases e) (by decide) (rcI_ok rfl) ?_ (co_X12_basket N q) lb_X12_basket 3000 80 S_X12_basket_80 _ _ h ls_X12_basket_80 hf
  intro pc ls st g e
  rcases kb_s e with ⟨rfl, e⟩ | e
  · obtain ⟨a0, e0, f0⟩ := lgr_s e
    obtain ⟨s_1, r0, q0, g0⟩ := pp1_s f0
    obtain ⟨s_0, r1, q1, g1⟩ := pr1_s g0
    obtain ⟨qe, fe⟩ := pe_s g1
    subst qe
    subst q1
    subst q0
    exact MW.sub (List.forall_mem_cons.mpr ⟨lg_mem e0, fun _ h => absurd h List.not_mem_nil⟩) (t_X12_basket_104 N a0 s_0 s_1 g fe)
  cases e
set_option maxRecDepth 100000 in
theorem t_X12_basket_57 {X : Nat × (Nat → Int32)} (N : Nat) {q : Int32 × mH} : ∀ (n : Nat) (a0 : Nat) (h : mH), L_X12_basket_57 N n a0 h = some q → MW X y_X12_basket 10 57 [(0, .ref a0)] [] h (some (.int q.1)) q.2 := by
  intro n
  induction n with
  | zero => intro a0 h hf; cases hf
  | succ n ih =>
    intro a0 h hf
    refine ev_ok (o := 12) (ini := false) (Cl := C_X12_basket N) (Rc := RcI) (B := B_X12_basket) (K := fun pc ls st g => kb pc 57 (lgr 0 ls fun a0 => pe st (L_X12_basket_57 N n a0 g)) (kb pc 80 (lgr 0 ls fun a0 => pe st (J_X12_basket_80 N a0 g)) (none))) rfl (fun e => by cases e) (by decide) (rcI_ok rfl) ?_ (co_X12_basket N q) lb_X12_basket 3000 57 S_X12_basket_57 _ _ h ls_X12_basket_57 hf
    intro pc ls st g e
    rcases kb_s e with ⟨rfl, e⟩ | e
    · obtain ⟨a0, e0, f0⟩ := lgr_s e
      obtain ⟨qe, fe⟩ := pe_s f0
      subst qe
      exact MW.sub (List.forall_mem_cons.mpr ⟨lg_mem e0, fun _ h => absurd h List.not_mem_nil⟩) (ih a0 g fe)
    rcases kb_s e with ⟨rfl, e⟩ | e
    · obtain ⟨a0, e0, f0⟩ := lgr_s e
      obtain ⟨qe, fe⟩ := pe_s f0
      subst qe
      exact MW.sub (List.forall_mem_cons.mpr ⟨lg_mem e0, fun _ h => absurd h List.not_mem_nil⟩) (t_X12_basket_80 N a0 g fe)
    cases e
set_option maxRecDepth 100000 in
theorem m_X12_basket (N : Nat) {a0 : Nat} {x1 : Int32} {h : mH} {q : Int32 × mH} (hf : f_X12_basket N a0 x1 h = some q) : MM y_X12_basket 10 [.ref a0, .int x1] h (some (.int q.1)) q.2 := by
  refine MM.of (mFx (j := 244) rfl).2.2.2.1 (Nat.le_of_ble_eq_true rfl) (fun X => ?_)
  refine ev_ok (o := 12) (ini := false) (Cl := C_X12_basket N) (Rc := RcI) (B := B_X12_basket) (K := fun pc ls st g => kb pc 57 (lgr 0 ls fun a0 => pe st (L_X12_basket_57 N N a0 g)) (none)) rfl (fun e => by cases e) (by decide) (rcI_ok rfl) ?_ (co_X12_basket N q) lb_X12_basket 3000 0 S_X12_basket_0 _ _ h ls_X12_basket_0 hf
  intro pc ls st g e
  rcases kb_s e with ⟨rfl, e⟩ | e
  · obtain ⟨a0, e0, f0⟩ := lgr_s e
    obtain ⟨qe, fe⟩ := pe_s f0
    subst qe
    exact MW.sub (List.forall_mem_cons.mpr ⟨lg_mem e0, fun _ h => absurd h List.not_mem_nil⟩) (t_X12_basket_57 N N a0 g fe)
  cases e
def f_X12_fault (N : Nat) (a0 : Nat) (x1 : Int32) (h : mH) : Option (Int32 × mH) :=
  (pV h 12 a0 0 (.int (jI 0))).bind fun h1 =>
  if x1 = 0 then
    (gI h1 12 a0 14).bind fun v2 =>
    some (v2, h1)
  else
    if x1 = (jI 1) then
      (gI h1 12 a0 15).bind fun v3 =>
      some (v3, h1)
    else
      some (jI (-1), h1)
def y_X12_fault : mM := (yX12_fault, cX12_fault, 2, (some .int))
def B_X12_fault : List (Nat × List mI) := [(16, [(.iload_n 1, 1, [1], []), (.iconst 1, 1, [], [1]), (.if_icmp .ne 10, 3, [28], []), (.aload_n 0, 1, [0], []), (.getfield 30, 3, [12, 15, 0, 141], []), (.goto 4, 3, [29], [])]), (28, [(.iconst (-1), 1, [], [-1])]), (29, [(.ireturn, 1, [], [])])]
def S_X12_fault_0 : List mI := [(.aload_n 0, 1, [0], []), (.iconst 0, 1, [], [0]), (.putfield 1, 3, [12, 0, 0, 126], []), (.iload_n 1, 1, [1], []), (.ifCond .ne 10, 3, [16], []), (.aload_n 0, 1, [0], []), (.getfield 173, 3, [12, 14, 0, 140], []), (.goto 16, 3, [29], [])]
theorem lb_X12_fault : B_X12_fault.all (fun b => lst y_X12_fault.2.1 12 y_X12_fault.2.2.1 false b.1 b.2) = true := by decide +kernel
theorem ls_X12_fault_0 : lst y_X12_fault.2.1 12 y_X12_fault.2.2.1 false 0 S_X12_fault_0 = true := by decide +kernel
def C_X12_fault (N : Nat) : Nat → List Value → mH → (Option Value → mH → Option (Int32 × mH)) → Option (Int32 × mH) := fun j as g k => none
theorem co_X12_fault (N : Nat) (q : Int32 × mH) : clOK 4 q (C_X12_fault N) := by
  intro j as g k e
  cases e
set_option maxRecDepth 100000 in
theorem m_X12_fault (N : Nat) {a0 : Nat} {x1 : Int32} {h : mH} {q : Int32 × mH} (hf : f_X12_fault N a0 x1 h = some q) : MM y_X12_fault 4 [.ref a0, .int x1] h (some (.int q.1)) q.2 := by
  refine MM.of (mFx (j := 245) rfl).2.2.2.1 (Nat.le_of_ble_eq_true rfl) (fun X => ?_)
  refine ev_ok (o := 12) (ini := false) (Cl := C_X12_fault N) (Rc := RcI) (B := B_X12_fault) (K := fun pc ls st g => none) rfl (fun e => by cases e) (by decide) (rcI_ok rfl) ?_ (co_X12_fault N q) lb_X12_fault 3000 0 S_X12_fault_0 _ _ h ls_X12_fault_0 hf
  intro pc ls st g e
  cases e
def f_X12_isKind (N : Nat) (a0 : Nat) (x1 : Int32) (h : mH) : Option (Int32 × mH) :=
  (gR h 12 a0 2).bind fun v1 =>
  (ldI 0 h v1 (jI 1)).bind fun v2 =>
  (f_X12_within N x1.toInt64 (jL 0) ((iSub v2 (jI 1)).toInt64) h).bind fun p3 =>
  if p3.1 &&& 1 = p3.1 then some (p3.1, p3.2) else none
def y_X12_isKind : mM := (yX12_isKind, cX12_isKind, 2, (some .boolean))
def B_X12_isKind : List (Nat × List mI) := []
def S_X12_isKind_0 : List mI := [(.iload_n 1, 1, [1], []), (.i2l, 1, [], []), (.lconst 0, 1, [], [0]), (.aload_n 0, 1, [0], []), (.getfield 17, 3, [12, 2, 2, 128], []), (.iconst 1, 1, [], [1]), (.iaload, 1, [0], []), (.iconst 1, 1, [], [1]), (.isub, 1, [], []), (.i2l, 1, [], []), (.invokestatic 147, 3, [1, 225, 3, 0, 269], []), (.ireturn, 1, [], [])]
theorem lb_X12_isKind : B_X12_isKind.all (fun b => lst y_X12_isKind.2.1 12 y_X12_isKind.2.2.1 false b.1 b.2) = true := by decide +kernel
theorem ls_X12_isKind_0 : lst y_X12_isKind.2.1 12 y_X12_isKind.2.2.1 false 0 S_X12_isKind_0 = true := by decide +kernel
def C_X12_isKind (N : Nat) : Nat → List Value → mH → (Option Value → mH → Option (Int32 × mH)) → Option (Int32 × mH) := fun j as g k => kb j 225 (pl1 as fun b0 as => pl1 as fun b1 as => pl1 as fun b2 as => pe as ((f_X12_within N b0 b1 b2 g).bind fun p => k (some (.int p.1)) p.2)) (none)
theorem co_X12_isKind (N : Nat) (q : Int32 × mH) : clOK 5 q (C_X12_isKind N) := by
  intro j as g k e
  rcases kb_s e with ⟨rfl, e⟩ | e
  · obtain ⟨b0, r0, q0, f0⟩ := pl1_s e
    obtain ⟨b1, r1, q1, f1⟩ := pl1_s f0
    obtain ⟨b2, r2, q2, f2⟩ := pl1_s f1
    obtain ⟨qe, fe⟩ := pe_s f2
    obtain ⟨p, e1, e2⟩ := bnd_s fe
    subst qe
    subst q2
    subst q1
    subst q0
    exact ⟨_, _, _, _, 4, rfl, (by decide), m_X12_within N e1, e2⟩
  cases e
set_option maxRecDepth 100000 in
theorem m_X12_isKind (N : Nat) {a0 : Nat} {x1 : Int32} {h : mH} {q : Int32 × mH} (hf : f_X12_isKind N a0 x1 h = some q) : MM y_X12_isKind 5 [.ref a0, .int x1] h (some (.int q.1)) q.2 := by
  refine MM.of (mFx (j := 246) rfl).2.2.2.1 (Nat.le_of_ble_eq_true rfl) (fun X => ?_)
  refine ev_ok (o := 12) (ini := false) (Cl := C_X12_isKind N) (Rc := RcZ) (B := B_X12_isKind) (K := fun pc ls st g => none) rfl (fun e => by cases e) (by decide) (rcZ_ok rfl) ?_ (co_X12_isKind N q) lb_X12_isKind 3000 0 S_X12_isKind_0 _ _ h ls_X12_isKind_0 hf
  intro pc ls st g e
  cases e
def f_X12_isBand (N : Nat) (a0 : Nat) (x1 : Int32) (h : mH) : Option (Int32 × mH) :=
  (gR h 12 a0 2).bind fun v1 =>
  (ldI 0 h v1 (jI 26)).bind fun v2 =>
  (f_X12_within N x1.toInt64 (jL 0) ((iSub v2 (jI 1)).toInt64) h).bind fun p3 =>
  if p3.1 &&& 1 = p3.1 then some (p3.1, p3.2) else none
def y_X12_isBand : mM := (yX12_isBand, cX12_isBand, 2, (some .boolean))
def B_X12_isBand : List (Nat × List mI) := []
def S_X12_isBand_0 : List mI := [(.iload_n 1, 1, [1], []), (.i2l, 1, [], []), (.lconst 0, 1, [], [0]), (.aload_n 0, 1, [0], []), (.getfield 17, 3, [12, 2, 2, 128], []), (.bipush 26, 2, [], [26]), (.iaload, 1, [0], []), (.iconst 1, 1, [], [1]), (.isub, 1, [], []), (.i2l, 1, [], []), (.invokestatic 147, 3, [1, 225, 3, 0, 269], []), (.ireturn, 1, [], [])]
theorem lb_X12_isBand : B_X12_isBand.all (fun b => lst y_X12_isBand.2.1 12 y_X12_isBand.2.2.1 false b.1 b.2) = true := by decide +kernel
theorem ls_X12_isBand_0 : lst y_X12_isBand.2.1 12 y_X12_isBand.2.2.1 false 0 S_X12_isBand_0 = true := by decide +kernel
def C_X12_isBand (N : Nat) : Nat → List Value → mH → (Option Value → mH → Option (Int32 × mH)) → Option (Int32 × mH) := fun j as g k => kb j 225 (pl1 as fun b0 as => pl1 as fun b1 as => pl1 as fun b2 as => pe as ((f_X12_within N b0 b1 b2 g).bind fun p => k (some (.int p.1)) p.2)) (none)
theorem co_X12_isBand (N : Nat) (q : Int32 × mH) : clOK 5 q (C_X12_isBand N) := by
  intro j as g k e
  rcases kb_s e with ⟨rfl, e⟩ | e
  · obtain ⟨b0, r0, q0, f0⟩ := pl1_s e
    obtain ⟨b1, r1, q1, f1⟩ := pl1_s f0
    obtain ⟨b2, r2, q2, f2⟩ := pl1_s f1
    obtain ⟨qe, fe⟩ := pe_s f2
    obtain ⟨p, e1, e2⟩ := bnd_s fe
    subst qe
    subst q2
    subst q1
    subst q0
    exact ⟨_, _, _, _, 4, rfl, (by decide), m_X12_within N e1, e2⟩
  cases e
set_option maxRecDepth 100000 in
theorem m_X12_isBand (N : Nat) {a0 : Nat} {x1 : Int32} {h : mH} {q : Int32 × mH} (hf : f_X12_isBand N a0 x1 h = some q) : MM y_X12_isBand 5 [.ref a0, .int x1] h (some (.int q.1)) q.2 := by
  refine MM.of (mFx (j := 247) rfl).2.2.2.1 (Nat.le_of_ble_eq_true rfl) (fun X => ?_)
  refine ev_ok (o := 12) (ini := false) (Cl := C_X12_isBand N) (Rc := RcZ) (B := B_X12_isBand) (K := fun pc ls st g => none) rfl (fun e => by cases e) (by decide) (rcZ_ok rfl) ?_ (co_X12_isBand N q) lb_X12_isBand 3000 0 S_X12_isBand_0 _ _ h ls_X12_isBand_0 hf
  intro pc ls st g e
  cases e
def f_X12_rod (N : Nat) (a0 : Nat) (x1 : Int32) (x2 : Int32) (h : mH) : Option (Int32 × mH) :=
  (pV h 12 a0 0 (.int (jI 0))).bind fun h1 =>
  (rcv h1 12 a0).bind fun _ =>
  (f_X12_isKind N a0 x1 h1).bind fun p2 =>
  if p2.1 = 0 then
    (rcv p2.2 12 a0).bind fun _ =>
    (f_X12_no N a0 (jI (-2)) p2.2).bind fun p3 =>
    some (p3.1, p3.2)
  else
    (f_X12_within N x2.toInt64 (jL 0) (jL 3) p2.2).bind fun p4 =>
    if p4.1 = 0 then
      (rcv p4.2 12 a0).bind fun _ =>
      (f_X12_no N a0 (jI (-2)) p4.2).bind fun p5 =>
      some (p5.1, p5.2)
    else
      (gR p4.2 12 a0 2).bind fun v6 =>
      (ldI 0 p4.2 v6 (iAdd (iAdd (jI 2) (iMul (jI 6) x2)) x1)).bind fun v7 =>
      some (v7, p4.2)
def y_X12_rod : mM := (yX12_rod, cX12_rod, 3, (some .int))
def B_X12_rod : List (Nat × List mI) := [(25, [(.aload_n 0, 1, [0], []), (.bipush (-2), 2, [], [-2]), (.invokevirtual 84, 3, [0, 224, 1, 12, 267], []), (.ireturn, 1, [], [])]), (32, [(.aload_n 0, 1, [0], []), (.getfield 17, 3, [12, 2, 2, 128], []), (.iconst 2, 1, [], [2]), (.bipush 6, 2, [], [6]), (.iload_n 2, 1, [2], []), (.imul, 1, [], []), (.iadd, 1, [], []), (.iload_n 1, 1, [1], []), (.iadd, 1, [], []), (.iaload, 1, [0], []), (.ireturn, 1, [], [])])]
def S_X12_rod_0 : List mI := [(.aload_n 0, 1, [0], []), (.iconst 0, 1, [], [0]), (.putfield 1, 3, [12, 0, 0, 126], []), (.aload_n 0, 1, [0], []), (.iload_n 1, 1, [1], []), (.invokevirtual 176, 3, [0, 246, 1, 12, 287], []), (.ifCond .eq 15, 3, [25], []), (.iload_n 2, 1, [2], []), (.i2l, 1, [], []), (.lconst 0, 1, [], [0]), (.ldc2_w 179, 3, [5], [3]), (.invokestatic 147, 3, [1, 225, 3, 0, 269], []), (.ifCond .ne 10, 3, [32], [])]
theorem lb_X12_rod : B_X12_rod.all (fun b => lst y_X12_rod.2.1 12 y_X12_rod.2.2.1 false b.1 b.2) = true := by decide +kernel
theorem ls_X12_rod_0 : lst y_X12_rod.2.1 12 y_X12_rod.2.2.1 false 0 S_X12_rod_0 = true := by decide +kernel
def C_X12_rod (N : Nat) : Nat → List Value → mH → (Option Value → mH → Option (Int32 × mH)) → Option (Int32 × mH) := fun j as g k => kb j 246 (pr1 as fun b0 as => pp1 as fun b1 as => pe as ((f_X12_isKind N b0 b1 g).bind fun p => k (some (.int p.1)) p.2)) (kb j 225 (pl1 as fun b0 as => pl1 as fun b1 as => pl1 as fun b2 as => pe as ((f_X12_within N b0 b1 b2 g).bind fun p => k (some (.int p.1)) p.2)) (kb j 224 (pr1 as fun b0 as => pp1 as fun b1 as => pe as ((f_X12_no N b0 b1 g).bind fun p => k (some (.int p.1)) p.2)) (none)))
theorem co_X12_rod (N : Nat) (q : Int32 × mH) : clOK 6 q (C_X12_rod N) := by
  intro j as g k e
  rcases kb_s e with ⟨rfl, e⟩ | e
  · obtain ⟨b0, r0, q0, f0⟩ := pr1_s e
    obtain ⟨b1, r1, q1, f1⟩ := pp1_s f0
    obtain ⟨qe, fe⟩ := pe_s f1
    obtain ⟨p, e1, e2⟩ := bnd_s fe
    subst qe
    subst q1
    subst q0
    exact ⟨_, _, _, _, 5, rfl, (by decide), m_X12_isKind N e1, e2⟩
  rcases kb_s e with ⟨rfl, e⟩ | e
  · obtain ⟨b0, r0, q0, f0⟩ := pl1_s e
    obtain ⟨b1, r1, q1, f1⟩ := pl1_s f0
    obtain ⟨b2, r2, q2, f2⟩ := pl1_s f1
    obtain ⟨qe, fe⟩ := pe_s f2
    obtain ⟨p, e1, e2⟩ := bnd_s fe
    subst qe
    subst q2
    subst q1
    subst q0
    exact ⟨_, _, _, _, 4, rfl, (by decide), m_X12_within N e1, e2⟩
  rcases kb_s e with ⟨rfl, e⟩ | e
  · obtain ⟨b0, r0, q0, f0⟩ := pr1_s e
    obtain ⟨b1, r1, q1, f1⟩ := pp1_s f0
    obtain ⟨qe, fe⟩ := pe_s f1
    obtain ⟨p, e1, e2⟩ := bnd_s fe
    subst qe
    subst q1
    subst q0
    exact ⟨_, _, _, _, 4, rfl, (by decide), m_X12_no N e1, e2⟩
  cases e
set_option maxRecDepth 100000 in
theorem m_X12_rod (N : Nat) {a0 : Nat} {x1 : Int32} {x2 : Int32} {h : mH} {q : Int32 × mH} (hf : f_X12_rod N a0 x1 x2 h = some q) : MM y_X12_rod 6 [.ref a0, .int x1, .int x2] h (some (.int q.1)) q.2 := by
  refine MM.of (mFx (j := 248) rfl).2.2.2.1 (Nat.le_of_ble_eq_true rfl) (fun X => ?_)
  refine ev_ok (o := 12) (ini := false) (Cl := C_X12_rod N) (Rc := RcI) (B := B_X12_rod) (K := fun pc ls st g => none) rfl (fun e => by cases e) (by decide) (rcI_ok rfl) ?_ (co_X12_rod N q) lb_X12_rod 3000 0 S_X12_rod_0 _ _ h ls_X12_rod_0 hf
  intro pc ls st g e
  cases e
def L_X12_slipsOf_4 (N : Nat) : Nat → Nat → Int32 → Int32 → Int32 → mH → Option (Int32 × mH)
  | 0, _, _, _, _, _ => none
  | n + 1, a0, x1, x2, x3, h =>
    (gR h 12 a0 2).bind fun v1 =>
    (ldI 0 h v1 (jI 115)).bind fun v2 =>
    if x3 < v2 then
      (gR h 12 a0 2).bind fun v3 =>
      (ldI 0 h v3 (iAdd (jI 116) x3)).bind fun v4 =>
      if v4 = x1 then
        let w5 := iAdd x2 (jI 1)
        let w6 := iAdd x3 (jI 1)
        L_X12_slipsOf_4 N n a0 x1 w5 w6 h
      else
        let w7 := iAdd x2 (jI 0)
        let w8 := iAdd x3 (jI 1)
        L_X12_slipsOf_4 N n a0 x1 w7 w8 h
    else
      some (x2, h)
def f_X12_slipsOf (N : Nat) (a0 : Nat) (x1 : Int32) (h : mH) : Option (Int32 × mH) :=
  L_X12_slipsOf_4 N N a0 x1 (jI 0) (jI 0) h
def y_X12_slipsOf : mM := (yX12_slipsOf, cX12_slipsOf, 4, (some .int))
def B_X12_slipsOf : List (Nat × List mI) := [(33, [(.iconst 0, 1, [], [0])]), (34, [(.iadd, 1, [], []), (.istore_n 2, 1, [2], []), (.iinc 3 1, 3, [3], [1]), (.goto (-35), 3, [4], [])]), (42, [(.iload_n 2, 1, [2], []), (.ireturn, 1, [], [])])]
def S_X12_slipsOf_0 : List mI := [(.iconst 0, 1, [], [0]), (.istore_n 2, 1, [2], []), (.iconst 0, 1, [], [0]), (.istore_n 3, 1, [3], [])]
def S_X12_slipsOf_4 : List mI := [(.iload_n 3, 1, [3], []), (.aload_n 0, 1, [0], []), (.getfield 17, 3, [12, 2, 2, 128], []), (.bipush 115, 2, [], [115]), (.iaload, 1, [0], []), (.if_icmp .ge 30, 3, [42], []), (.iload_n 2, 1, [2], []), (.aload_n 0, 1, [0], []), (.getfield 17, 3, [12, 2, 2, 128], []), (.bipush 116, 2, [], [116]), (.iload_n 3, 1, [3], []), (.iadd, 1, [], []), (.iaload, 1, [0], []), (.iload_n 1, 1, [1], []), (.if_icmp .ne 7, 3, [33], []), (.iconst 1, 1, [], [1]), (.goto 4, 3, [34], [])]
theorem lb_X12_slipsOf : B_X12_slipsOf.all (fun b => lst y_X12_slipsOf.2.1 12 y_X12_slipsOf.2.2.1 false b.1 b.2) = true := by decide +kernel
theorem ls_X12_slipsOf_0 : lst y_X12_slipsOf.2.1 12 y_X12_slipsOf.2.2.1 false 0 S_X12_slipsOf_0 = true := by decide +kernel
theorem ls_X12_slipsOf_4 : lst y_X12_slipsOf.2.1 12 y_X12_slipsOf.2.2.1 false 4 S_X12_slipsOf_4 = true := by decide +kernel
def C_X12_slipsOf (N : Nat) : Nat → List Value → mH → (Option Value → mH → Option (Int32 × mH)) → Option (Int32 × mH) := fun j as g k => none
theorem co_X12_slipsOf (N : Nat) (q : Int32 × mH) : clOK 4 q (C_X12_slipsOf N) := by
  intro j as g k e
  cases e
set_option maxRecDepth 100000 in
theorem t_X12_slipsOf_4 {X : Nat × (Nat → Int32)} (N : Nat) {q : Int32 × mH} : ∀ (n : Nat) (a0 : Nat) (x1 : Int32) (x2 : Int32) (x3 : Int32) (h : mH), L_X12_slipsOf_4 N n a0 x1 x2 x3 h = some q → MW X y_X12_slipsOf 4 4 [(0, .ref a0), (1, .int x1), (2, .int x2), (3, .int x3)] [] h (some (.int q.1)) q.2 := by
  intro n
  induction n with
  | zero => intro a0 x1 x2 x3 h hf; cases hf
  | succ n ih =>
    intro a0 x1 x2 x3 h hf
    refine ev_ok (o := 12) (ini := false) (Cl := C_X12_slipsOf N) (Rc := RcI) (B := B_X12_slipsOf) (K := fun pc ls st g => kb pc 4 (lgr 0 ls fun a0 => lgi 1 ls fun x1 => lgi 2 ls fun x2 => lgi 3 ls fun x3 => pe st (L_X12_slipsOf_4 N n a0 x1 x2 x3 g)) (none)) rfl (fun e => by cases e) (by decide) (rcI_ok rfl) ?_ (co_X12_slipsOf N q) lb_X12_slipsOf 3000 4 S_X12_slipsOf_4 _ _ h ls_X12_slipsOf_4 hf
    intro pc ls st g e
    rcases kb_s e with ⟨rfl, e⟩ | e
    · obtain ⟨a0, e0, f0⟩ := lgr_s e
      obtain ⟨x1, e1, f1⟩ := lgi_s f0
      obtain ⟨x2, e2, f2⟩ := lgi_s f1
      obtain ⟨x3, e3, f3⟩ := lgi_s f2
      obtain ⟨qe, fe⟩ := pe_s f3
      subst qe
      exact MW.sub (List.forall_mem_cons.mpr ⟨lg_mem e0, List.forall_mem_cons.mpr ⟨lg_mem e1, List.forall_mem_cons.mpr ⟨lg_mem e2, List.forall_mem_cons.mpr ⟨lg_mem e3, fun _ h => absurd h List.not_mem_nil⟩⟩⟩⟩) (ih a0 x1 x2 x3 g fe)
    cases e
set_option maxRecDepth 100000 in
theorem m_X12_slipsOf (N : Nat) {a0 : Nat} {x1 : Int32} {h : mH} {q : Int32 × mH} (hf : f_X12_slipsOf N a0 x1 h = some q) : MM y_X12_slipsOf 4 [.ref a0, .int x1] h (some (.int q.1)) q.2 := by
  refine MM.of (mFx (j := 249) rfl).2.2.2.1 (Nat.le_of_ble_eq_true rfl) (fun X => ?_)
  refine ev_ok (o := 12) (ini := false) (Cl := C_X12_slipsOf N) (Rc := RcI) (B := B_X12_slipsOf) (K := fun pc ls st g => kb pc 4 (lgr 0 ls fun a0 => lgi 1 ls fun x1 => lgi 2 ls fun x2 => lgi 3 ls fun x3 => pe st (L_X12_slipsOf_4 N N a0 x1 x2 x3 g)) (none)) rfl (fun e => by cases e) (by decide) (rcI_ok rfl) ?_ (co_X12_slipsOf N q) lb_X12_slipsOf 3000 0 S_X12_slipsOf_0 _ _ h ls_X12_slipsOf_0 hf
  intro pc ls st g e
  rcases kb_s e with ⟨rfl, e⟩ | e
  · obtain ⟨a0, e0, f0⟩ := lgr_s e
    obtain ⟨x1, e1, f1⟩ := lgi_s f0
    obtain ⟨x2, e2, f2⟩ := lgi_s f1
    obtain ⟨x3, e3, f3⟩ := lgi_s f2
    obtain ⟨qe, fe⟩ := pe_s f3
    subst qe
    exact MW.sub (List.forall_mem_cons.mpr ⟨lg_mem e0, List.forall_mem_cons.mpr ⟨lg_mem e1, List.forall_mem_cons.mpr ⟨lg_mem e2, List.forall_mem_cons.mpr ⟨lg_mem e3, fun _ h => absurd h List.not_mem_nil⟩⟩⟩⟩) (t_X12_slipsOf_4 N N a0 x1 x2 x3 g fe)
  cases e
def f_X12_band (N : Nat) (a0 : Nat) (x1 : Int32) (x2 : Int32) (h : mH) : Option (Int32 × mH) :=
  (pV h 12 a0 0 (.int (jI 0))).bind fun h1 =>
  (rcv h1 12 a0).bind fun _ =>
  (f_X12_isBand N a0 x1 h1).bind fun p2 =>
  if p2.1 = 0 then
    (rcv p2.2 12 a0).bind fun _ =>
    (f_X12_no N a0 (jI (-2)) p2.2).bind fun p3 =>
    some (p3.1, p3.2)
  else
    (gR p2.2 12 a0 2).bind fun v4 =>
    (ldI 0 p2.2 v4 (iAdd (jI 27) x1)).bind fun v5 =>
    (f_X12_within N x2.toInt64 (jL 10) ((iAdd (jI 9) v5).toInt64) p2.2).bind fun p6 =>
    if p6.1 = 0 then
      (f_X12_within N x2.toInt64 (jL 0) (jL 6) p6.2).bind fun p7 =>
      if p7.1 = 0 then
        (rcv p7.2 12 a0).bind fun _ =>
        (f_X12_no N a0 (jI (-2)) p7.2).bind fun p8 =>
        some (p8.1, p8.2)
      else
        if x2 = (jI 6) then
          (rcv p7.2 12 a0).bind fun _ =>
          (f_X12_slipsOf N a0 x1 p7.2).bind fun p9 =>
          some (p9.1, p9.2)
        else
          (gR p7.2 12 a0 2).bind fun v10 =>
          (ldI 0 p7.2 v10 (iAdd (iAdd (jI 27) (iMul (jI 8) x2)) x1)).bind fun v11 =>
          some (v11, p7.2)
    else
      (gR p6.2 12 a0 2).bind fun v12 =>
      (ldI 0 p6.2 v12 (iSub (iAdd (iAdd (jI 83) (iMul (jI 4) x1)) x2) (jI 10))).bind fun v13 =>
      some (v13, p6.2)
def y_X12_band : mM := (yX12_band, cX12_band, 3, (some .int))
def B_X12_band : List (Nat × List mI) := [(20, [(.iload_n 2, 1, [2], []), (.i2l, 1, [], []), (.ldc2_w 184, 3, [6], [10]), (.bipush 9, 2, [], [9]), (.aload_n 0, 1, [0], []), (.getfield 17, 3, [12, 2, 2, 128], []), (.bipush 27, 2, [], [27]), (.iload_n 1, 1, [1], []), (.iadd, 1, [], []), (.iaload, 1, [0], []), (.iadd, 1, [], []), (.i2l, 1, [], []), (.invokestatic 147, 3, [1, 225, 3, 0, 269], []), (.ifCond .eq 20, 3, [61], []), (.aload_n 0, 1, [0], []), (.getfield 17, 3, [12, 2, 2, 128], []), (.bipush 83, 2, [], [83]), (.iconst 4, 1, [], [4]), (.iload_n 1, 1, [1], []), (.imul, 1, [], []), (.iadd, 1, [], []), (.iload_n 2, 1, [2], []), (.iadd, 1, [], []), (.bipush 10, 2, [], [10]), (.isub, 1, [], []), (.iaload, 1, [0], []), (.ireturn, 1, [], [])]), (61, [(.iload_n 2, 1, [2], []), (.i2l, 1, [], []), (.lconst 0, 1, [], [0]), (.ldc2_w 186, 3, [7], [6]), (.invokestatic 147, 3, [1, 225, 3, 0, 269], []), (.ifCond .ne 10, 3, [80], []), (.aload_n 0, 1, [0], []), (.bipush (-2), 2, [], [-2]), (.invokevirtual 84, 3, [0, 224, 1, 12, 267], []), (.ireturn, 1, [], [])]), (80, [(.iload_n 2, 1, [2], []), (.bipush 6, 2, [], [6]), (.if_icmp .ne 11, 3, [94], []), (.aload_n 0, 1, [0], []), (.iload_n 1, 1, [1], []), (.invokevirtual 188, 3, [0, 249, 1, 12, 290], []), (.goto 17, 3, [108], [])]), (94, [(.aload_n 0, 1, [0], []), (.getfield 17, 3, [12, 2, 2, 128], []), (.bipush 27, 2, [], [27]), (.bipush 8, 2, [], [8]), (.iload_n 2, 1, [2], []), (.imul, 1, [], []), (.iadd, 1, [], []), (.iload_n 1, 1, [1], []), (.iadd, 1, [], []), (.iaload, 1, [0], [])]), (108, [(.ireturn, 1, [], [])])]
def S_X12_band_0 : List mI := [(.aload_n 0, 1, [0], []), (.iconst 0, 1, [], [0]), (.putfield 1, 3, [12, 0, 0, 126], []), (.aload_n 0, 1, [0], []), (.iload_n 1, 1, [1], []), (.invokevirtual 181, 3, [0, 247, 1, 12, 289], []), (.ifCond .ne 10, 3, [20], []), (.aload_n 0, 1, [0], []), (.bipush (-2), 2, [], [-2]), (.invokevirtual 84, 3, [0, 224, 1, 12, 267], []), (.ireturn, 1, [], [])]
theorem lb_X12_band : B_X12_band.all (fun b => lst y_X12_band.2.1 12 y_X12_band.2.2.1 false b.1 b.2) = true := by decide +kernel
theorem ls_X12_band_0 : lst y_X12_band.2.1 12 y_X12_band.2.2.1 false 0 S_X12_band_0 = true := by decide +kernel
def C_X12_band (N : Nat) : Nat → List Value → mH → (Option Value → mH → Option (Int32 × mH)) → Option (Int32 × mH) := fun j as g k => kb j 247 (pr1 as fun b0 as => pp1 as fun b1 as => pe as ((f_X12_isBand N b0 b1 g).bind fun p => k (some (.int p.1)) p.2)) (kb j 224 (pr1 as fun b0 as => pp1 as fun b1 as => pe as ((f_X12_no N b0 b1 g).bind fun p => k (some (.int p.1)) p.2)) (kb j 225 (pl1 as fun b0 as => pl1 as fun b1 as => pl1 as fun b2 as => pe as ((f_X12_within N b0 b1 b2 g).bind fun p => k (some (.int p.1)) p.2)) (kb j 249 (pr1 as fun b0 as => pp1 as fun b1 as => pe as ((f_X12_slipsOf N b0 b1 g).bind fun p => k (some (.int p.1)) p.2)) (none))))
theorem co_X12_band (N : Nat) (q : Int32 × mH) : clOK 6 q (C_X12_band N) := by
  intro j as g k e
  rcases kb_s e with ⟨rfl, e⟩ | e
  · obtain ⟨b0, r0, q0, f0⟩ := pr1_s e
    obtain ⟨b1, r1, q1, f1⟩ := pp1_s f0
    obtain ⟨qe, fe⟩ := pe_s f1
    obtain ⟨p, e1, e2⟩ := bnd_s fe
    subst qe
    subst q1
    subst q0
    exact ⟨_, _, _, _, 5, rfl, (by decide), m_X12_isBand N e1, e2⟩
  rcases kb_s e with ⟨rfl, e⟩ | e
  · obtain ⟨b0, r0, q0, f0⟩ := pr1_s e
    obtain ⟨b1, r1, q1, f1⟩ := pp1_s f0
    obtain ⟨qe, fe⟩ := pe_s f1
    obtain ⟨p, e1, e2⟩ := bnd_s fe
    subst qe
    subst q1
    subst q0
    exact ⟨_, _, _, _, 4, rfl, (by decide), m_X12_no N e1, e2⟩
  rcases kb_s e with ⟨rfl, e⟩ | e
  · obtain ⟨b0, r0, q0, f0⟩ := pl1_s e
    obtain ⟨b1, r1, q1, f1⟩ := pl1_s f0
    obtain ⟨b2, r2, q2, f2⟩ := pl1_s f1
    obtain ⟨qe, fe⟩ := pe_s f2
    obtain ⟨p, e1, e2⟩ := bnd_s fe
    subst qe
    subst q2
    subst q1
    subst q0
    exact ⟨_, _, _, _, 4, rfl, (by decide), m_X12_within N e1, e2⟩
  rcases kb_s e with ⟨rfl, e⟩ | e
  · obtain ⟨b0, r0, q0, f0⟩ := pr1_s e
    obtain ⟨b1, r1, q1, f1⟩ := pp1_s f0
    obtain ⟨qe, fe⟩ := pe_s f1
    obtain ⟨p, e1, e2⟩ := bnd_s fe
    subst qe
    subst q1
    subst q0
    exact ⟨_, _, _, _, 4, rfl, (by decide), m_X12_slipsOf N e1, e2⟩
  cases e
set_option maxRecDepth 100000 in
theorem m_X12_band (N : Nat) {a0 : Nat} {x1 : Int32} {x2 : Int32} {h : mH} {q : Int32 × mH} (hf : f_X12_band N a0 x1 x2 h = some q) : MM y_X12_band 6 [.ref a0, .int x1, .int x2] h (some (.int q.1)) q.2 := by
  refine MM.of (mFx (j := 250) rfl).2.2.2.1 (Nat.le_of_ble_eq_true rfl) (fun X => ?_)
  refine ev_ok (o := 12) (ini := false) (Cl := C_X12_band N) (Rc := RcI) (B := B_X12_band) (K := fun pc ls st g => none) rfl (fun e => by cases e) (by decide) (rcI_ok rfl) ?_ (co_X12_band N q) lb_X12_band 3000 0 S_X12_band_0 _ _ h ls_X12_band_0 hf
  intro pc ls st g e
  cases e
def f_X12_lean (N : Nat) (a0 : Nat) (x1 : Int32) (h : mH) : Option (Int32 × mH) :=
  (pV h 12 a0 0 (.int (jI 0))).bind fun h1 =>
  (rcv h1 12 a0).bind fun _ =>
  (f_X12_isBand N a0 x1 h1).bind fun p2 =>
  if p2.1 = 0 then
    (rcv p2.2 12 a0).bind fun _ =>
    (f_X12_no N a0 (jI (-2)) p2.2).bind fun p3 =>
    some (jI (-100), p3.2)
  else
    (gR p2.2 12 a0 2).bind fun v4 =>
    (ldI 0 p2.2 v4 (iAdd (jI 75) x1)).bind fun v5 =>
    some (v5, p2.2)
def y_X12_lean : mM := (yX12_lean, cX12_lean, 2, (some .int))
def B_X12_lean : List (Nat × List mI) := [(23, [(.aload_n 0, 1, [0], []), (.bipush (-2), 2, [], [-2]), (.invokevirtual 84, 3, [0, 224, 1, 12, 267], []), (.pop, 1, [], []), (.bipush (-100), 2, [], [-100]), (.ireturn, 1, [], [])])]
def S_X12_lean_0 : List mI := [(.aload_n 0, 1, [0], []), (.iconst 0, 1, [], [0]), (.putfield 1, 3, [12, 0, 0, 126], []), (.aload_n 0, 1, [0], []), (.iload_n 1, 1, [1], []), (.invokevirtual 181, 3, [0, 247, 1, 12, 289], []), (.ifCond .eq 13, 3, [23], []), (.aload_n 0, 1, [0], []), (.getfield 17, 3, [12, 2, 2, 128], []), (.bipush 75, 2, [], [75]), (.iload_n 1, 1, [1], []), (.iadd, 1, [], []), (.iaload, 1, [0], []), (.ireturn, 1, [], [])]
theorem lb_X12_lean : B_X12_lean.all (fun b => lst y_X12_lean.2.1 12 y_X12_lean.2.2.1 false b.1 b.2) = true := by decide +kernel
theorem ls_X12_lean_0 : lst y_X12_lean.2.1 12 y_X12_lean.2.2.1 false 0 S_X12_lean_0 = true := by decide +kernel
def C_X12_lean (N : Nat) : Nat → List Value → mH → (Option Value → mH → Option (Int32 × mH)) → Option (Int32 × mH) := fun j as g k => kb j 247 (pr1 as fun b0 as => pp1 as fun b1 as => pe as ((f_X12_isBand N b0 b1 g).bind fun p => k (some (.int p.1)) p.2)) (kb j 224 (pr1 as fun b0 as => pp1 as fun b1 as => pe as ((f_X12_no N b0 b1 g).bind fun p => k (some (.int p.1)) p.2)) (none))
theorem co_X12_lean (N : Nat) (q : Int32 × mH) : clOK 6 q (C_X12_lean N) := by
  intro j as g k e
  rcases kb_s e with ⟨rfl, e⟩ | e
  · obtain ⟨b0, r0, q0, f0⟩ := pr1_s e
    obtain ⟨b1, r1, q1, f1⟩ := pp1_s f0
    obtain ⟨qe, fe⟩ := pe_s f1
    obtain ⟨p, e1, e2⟩ := bnd_s fe
    subst qe
    subst q1
    subst q0
    exact ⟨_, _, _, _, 5, rfl, (by decide), m_X12_isBand N e1, e2⟩
  rcases kb_s e with ⟨rfl, e⟩ | e
  · obtain ⟨b0, r0, q0, f0⟩ := pr1_s e
    obtain ⟨b1, r1, q1, f1⟩ := pp1_s f0
    obtain ⟨qe, fe⟩ := pe_s f1
    obtain ⟨p, e1, e2⟩ := bnd_s fe
    subst qe
    subst q1
    subst q0
    exact ⟨_, _, _, _, 4, rfl, (by decide), m_X12_no N e1, e2⟩
  cases e
set_option maxRecDepth 100000 in
theorem m_X12_lean (N : Nat) {a0 : Nat} {x1 : Int32} {h : mH} {q : Int32 × mH} (hf : f_X12_lean N a0 x1 h = some q) : MM y_X12_lean 6 [.ref a0, .int x1] h (some (.int q.1)) q.2 := by
  refine MM.of (mFx (j := 251) rfl).2.2.2.1 (Nat.le_of_ble_eq_true rfl) (fun X => ?_)
  refine ev_ok (o := 12) (ini := false) (Cl := C_X12_lean N) (Rc := RcI) (B := B_X12_lean) (K := fun pc ls st g => none) rfl (fun e => by cases e) (by decide) (rcI_ok rfl) ?_ (co_X12_lean N q) lb_X12_lean 3000 0 S_X12_lean_0 _ _ h ls_X12_lean_0 hf
  intro pc ls st g e
  cases e
def f_X12_crossingsOf (N : Nat) (a0 : Nat) (x1 : Int32) (h : mH) : Option (Int32 × mH) :=
  (gR h 12 a0 2).bind fun v1 =>
  (ldI 0 h v1 (iAdd (jI 51) x1)).bind fun v2 =>
  (gR h 12 a0 2).bind fun v3 =>
  (ldI 0 h v3 (jI 0)).bind fun v4 =>
  some (iMul v2 v4, h)
def y_X12_crossingsOf : mM := (yX12_crossingsOf, cX12_crossingsOf, 2, (some .int))
def B_X12_crossingsOf : List (Nat × List mI) := []
def S_X12_crossingsOf_0 : List mI := [(.aload_n 0, 1, [0], []), (.getfield 17, 3, [12, 2, 2, 128], []), (.bipush 51, 2, [], [51]), (.iload_n 1, 1, [1], []), (.iadd, 1, [], []), (.iaload, 1, [0], []), (.aload_n 0, 1, [0], []), (.getfield 17, 3, [12, 2, 2, 128], []), (.iconst 0, 1, [], [0]), (.iaload, 1, [0], []), (.imul, 1, [], []), (.ireturn, 1, [], [])]
theorem lb_X12_crossingsOf : B_X12_crossingsOf.all (fun b => lst y_X12_crossingsOf.2.1 12 y_X12_crossingsOf.2.2.1 false b.1 b.2) = true := by decide +kernel
theorem ls_X12_crossingsOf_0 : lst y_X12_crossingsOf.2.1 12 y_X12_crossingsOf.2.2.1 false 0 S_X12_crossingsOf_0 = true := by decide +kernel
def C_X12_crossingsOf (N : Nat) : Nat → List Value → mH → (Option Value → mH → Option (Int32 × mH)) → Option (Int32 × mH) := fun j as g k => none
theorem co_X12_crossingsOf (N : Nat) (q : Int32 × mH) : clOK 4 q (C_X12_crossingsOf N) := by
  intro j as g k e
  cases e
set_option maxRecDepth 100000 in
theorem m_X12_crossingsOf (N : Nat) {a0 : Nat} {x1 : Int32} {h : mH} {q : Int32 × mH} (hf : f_X12_crossingsOf N a0 x1 h = some q) : MM y_X12_crossingsOf 4 [.ref a0, .int x1] h (some (.int q.1)) q.2 := by
  refine MM.of (mFx (j := 252) rfl).2.2.2.1 (Nat.le_of_ble_eq_true rfl) (fun X => ?_)
  refine ev_ok (o := 12) (ini := false) (Cl := C_X12_crossingsOf N) (Rc := RcI) (B := B_X12_crossingsOf) (K := fun pc ls st g => none) rfl (fun e => by cases e) (by decide) (rcI_ok rfl) ?_ (co_X12_crossingsOf N q) lb_X12_crossingsOf 3000 0 S_X12_crossingsOf_0 _ _ h ls_X12_crossingsOf_0 hf
  intro pc ls st g e
  cases e
def f_X12_round (N : Nat) (x0 : Int32) (x1 : Int32) (h : mH) : Option (Int32 × mH) :=
  if x1 = 0 then none else
  let w1 := iRem x0 x1
  if w1 < 0 then
    some (iAdd w1 x1, h)
  else
    some (w1, h)
def y_X12_round : mM := (yX12_round, cX12_round, 3, (some .int))
def B_X12_round : List (Nat × List mI) := [(14, [(.iload_n 2, 1, [2], [])]), (15, [(.ireturn, 1, [], [])])]
def S_X12_round_0 : List mI := [(.iload_n 0, 1, [0], []), (.iload_n 1, 1, [1], []), (.irem, 1, [], []), (.istore_n 2, 1, [2], []), (.iload_n 2, 1, [2], []), (.ifCond .ge 9, 3, [14], []), (.iload_n 2, 1, [2], []), (.iload_n 1, 1, [1], []), (.iadd, 1, [], []), (.goto 4, 3, [15], [])]
theorem lb_X12_round : B_X12_round.all (fun b => lst y_X12_round.2.1 12 y_X12_round.2.2.1 false b.1 b.2) = true := by decide +kernel
theorem ls_X12_round_0 : lst y_X12_round.2.1 12 y_X12_round.2.2.1 false 0 S_X12_round_0 = true := by decide +kernel
def C_X12_round (N : Nat) : Nat → List Value → mH → (Option Value → mH → Option (Int32 × mH)) → Option (Int32 × mH) := fun j as g k => none
theorem co_X12_round (N : Nat) (q : Int32 × mH) : clOK 4 q (C_X12_round N) := by
  intro j as g k e
  cases e
set_option maxRecDepth 100000 in
theorem m_X12_round (N : Nat) {x0 : Int32} {x1 : Int32} {h : mH} {q : Int32 × mH} (hf : f_X12_round N x0 x1 h = some q) : MM y_X12_round 4 [.int x0, .int x1] h (some (.int q.1)) q.2 := by
  refine MM.of (mFx (j := 253) rfl).2.2.2.1 (Nat.le_of_ble_eq_true rfl) (fun X => ?_)
  refine ev_ok (o := 12) (ini := false) (Cl := C_X12_round N) (Rc := RcI) (B := B_X12_round) (K := fun pc ls st g => none) rfl (fun e => by cases e) (by decide) (rcI_ok rfl) ?_ (co_X12_round N q) lb_X12_round 3000 0 S_X12_round_0 _ _ h ls_X12_round_0 hf
  intro pc ls st g e
  cases e
def f_X12_stakeAt (N : Nat) (a0 : Nat) (x1 : Int32) (x2 : Int32) (x3 : Int32) (h : mH) : Option (Int32 × mH) :=
  (gR h 12 a0 2).bind fun v1 =>
  (ldI 0 h v1 (iAdd (jI 67) x1)).bind fun v2 =>
  if v2 = (jI 1) then
    (gR h 12 a0 2).bind fun v3 =>
    (ldI 0 h v3 (iAdd (jI 59) x1)).bind fun v4 =>
    (gR h 12 a0 2).bind fun v5 =>
    (ldI 0 h v5 (jI 0)).bind fun v6 =>
    (f_X12_round N (iSub (iSub v4 x2) x3) v6 h).bind fun p7 =>
    some (p7.1, p7.2)
  else
    (gR h 12 a0 2).bind fun v8 =>
    (ldI 0 h v8 (iAdd (jI 59) x1)).bind fun v9 =>
    (gR h 12 a0 2).bind fun v10 =>
    (ldI 0 h v10 (jI 0)).bind fun v11 =>
    (f_X12_round N (iAdd (iAdd v9 x2) x3) v11 h).bind fun p12 =>
    some (p12.1, p12.2)
def y_X12_stakeAt : mM := (yX12_stakeAt, cX12_stakeAt, 4, (some .int))
def B_X12_stakeAt : List (Nat × List mI) := [(29, [(.aload_n 0, 1, [0], []), (.getfield 17, 3, [12, 2, 2, 128], []), (.bipush 59, 2, [], [59]), (.iload_n 1, 1, [1], []), (.iadd, 1, [], []), (.iaload, 1, [0], []), (.iload_n 2, 1, [2], []), (.iadd, 1, [], []), (.iload_n 3, 1, [3], []), (.iadd, 1, [], [])]), (42, [(.aload_n 0, 1, [0], []), (.getfield 17, 3, [12, 2, 2, 128], []), (.iconst 0, 1, [], [0]), (.iaload, 1, [0], []), (.invokestatic 191, 3, [1, 253, 2, 0, 300], []), (.ireturn, 1, [], [])])]
def S_X12_stakeAt_0 : List mI := [(.aload_n 0, 1, [0], []), (.getfield 17, 3, [12, 2, 2, 128], []), (.bipush 67, 2, [], [67]), (.iload_n 1, 1, [1], []), (.iadd, 1, [], []), (.iaload, 1, [0], []), (.iconst 1, 1, [], [1]), (.if_icmp .ne 19, 3, [29], []), (.aload_n 0, 1, [0], []), (.getfield 17, 3, [12, 2, 2, 128], []), (.bipush 59, 2, [], [59]), (.iload_n 1, 1, [1], []), (.iadd, 1, [], []), (.iaload, 1, [0], []), (.iload_n 2, 1, [2], []), (.isub, 1, [], []), (.iload_n 3, 1, [3], []), (.isub, 1, [], []), (.goto 16, 3, [42], [])]
theorem lb_X12_stakeAt : B_X12_stakeAt.all (fun b => lst y_X12_stakeAt.2.1 12 y_X12_stakeAt.2.2.1 false b.1 b.2) = true := by decide +kernel
theorem ls_X12_stakeAt_0 : lst y_X12_stakeAt.2.1 12 y_X12_stakeAt.2.2.1 false 0 S_X12_stakeAt_0 = true := by decide +kernel
def C_X12_stakeAt (N : Nat) : Nat → List Value → mH → (Option Value → mH → Option (Int32 × mH)) → Option (Int32 × mH) := fun j as g k => kb j 253 (pp1 as fun b0 as => pp1 as fun b1 as => pe as ((f_X12_round N b0 b1 g).bind fun p => k (some (.int p.1)) p.2)) (none)
theorem co_X12_stakeAt (N : Nat) (q : Int32 × mH) : clOK 5 q (C_X12_stakeAt N) := by
  intro j as g k e
  rcases kb_s e with ⟨rfl, e⟩ | e
  · obtain ⟨b0, r0, q0, f0⟩ := pp1_s e
    obtain ⟨b1, r1, q1, f1⟩ := pp1_s f0
    obtain ⟨qe, fe⟩ := pe_s f1
    obtain ⟨p, e1, e2⟩ := bnd_s fe
    subst qe
    subst q1
    subst q0
    exact ⟨_, _, _, _, 4, rfl, (by decide), m_X12_round N e1, e2⟩
  cases e
set_option maxRecDepth 100000 in
theorem m_X12_stakeAt (N : Nat) {a0 : Nat} {x1 : Int32} {x2 : Int32} {x3 : Int32} {h : mH} {q : Int32 × mH} (hf : f_X12_stakeAt N a0 x1 x2 x3 h = some q) : MM y_X12_stakeAt 5 [.ref a0, .int x1, .int x2, .int x3] h (some (.int q.1)) q.2 := by
  refine MM.of (mFx (j := 254) rfl).2.2.2.1 (Nat.le_of_ble_eq_true rfl) (fun X => ?_)
  refine ev_ok (o := 12) (ini := false) (Cl := C_X12_stakeAt N) (Rc := RcI) (B := B_X12_stakeAt) (K := fun pc ls st g => none) rfl (fun e => by cases e) (by decide) (rcI_ok rfl) ?_ (co_X12_stakeAt N q) lb_X12_stakeAt 3000 0 S_X12_stakeAt_0 _ _ h ls_X12_stakeAt_0 hf
  intro pc ls st g e
  cases e
def L_X12_placeIn_6 (N : Nat) : Nat → Nat → Int32 → Int32 → Int32 → Int32 → Int32 → mH → Option (Int32 × mH)
  | 0, _, _, _, _, _, _, _ => none
  | n + 1, a0, x1, x2, x3, x4, x5, h =>
    (gR h 12 a0 2).bind fun v1 =>
    (ldI 0 h v1 (jI 115)).bind fun v2 =>
    if x5 < v2 then
      (gR h 12 a0 2).bind fun v3 =>
      (ldI 0 h v3 (iAdd (jI 116) x5)).bind fun v4 =>
      if v4 = x1 then
        (gR h 12 a0 2).bind fun v5 =>
        (ldI 0 h v5 (iAdd (jI 124) x5)).bind fun v6 =>
        if v6 = x2 then
          (gR h 12 a0 2).bind fun v7 =>
          (ldI 0 h v7 (iAdd (jI 132) x5)).bind fun v8 =>
          if x3 < v8 then
            let w9 := iAdd x4 (jI 0)
            let w10 := iAdd x5 (jI 1)
            L_X12_placeIn_6 N n a0 x1 x2 x3 w9 w10 h
          else
            let w11 := iAdd x4 (jI 1)
            let w12 := iAdd x5 (jI 1)
            L_X12_placeIn_6 N n a0 x1 x2 x3 w11 w12 h
        else
          let w13 := iAdd x4 (jI 0)
          let w14 := iAdd x5 (jI 1)
          L_X12_placeIn_6 N n a0 x1 x2 x3 w13 w14 h
      else
        let w15 := iAdd x4 (jI 0)
        let w16 := iAdd x5 (jI 1)
        L_X12_placeIn_6 N n a0 x1 x2 x3 w15 w16 h
    else
      some (x4, h)
def f_X12_placeIn (N : Nat) (a0 : Nat) (x1 : Int32) (x2 : Int32) (x3 : Int32) (h : mH) : Option (Int32 × mH) :=
  L_X12_placeIn_6 N N a0 x1 x2 x3 x3 (jI 0) h
def y_X12_placeIn : mM := (yX12_placeIn, cX12_placeIn, 6, (some .int))
def B_X12_placeIn : List (Nat × List mI) := [(67, [(.iconst 0, 1, [], [0])]), (68, [(.iadd, 1, [], []), (.istore 4, 2, [4], []), (.iinc 5 1, 3, [5], [1]), (.goto (-68), 3, [6], [])]), (77, [(.iload 4, 2, [4], []), (.ireturn, 1, [], [])])]
def S_X12_placeIn_0 : List mI := [(.iload_n 3, 1, [3], []), (.istore 4, 2, [4], []), (.iconst 0, 1, [], [0]), (.istore 5, 2, [5], [])]
def S_X12_placeIn_6 : List mI := [(.iload 5, 2, [5], []), (.aload_n 0, 1, [0], []), (.getfield 17, 3, [12, 2, 2, 128], []), (.bipush 115, 2, [], [115]), (.iaload, 1, [0], []), (.if_icmp .ge 62, 3, [77], []), (.iload 4, 2, [4], []), (.aload_n 0, 1, [0], []), (.getfield 17, 3, [12, 2, 2, 128], []), (.bipush 116, 2, [], [116]), (.iload 5, 2, [5], []), (.iadd, 1, [], []), (.iaload, 1, [0], []), (.iload_n 1, 1, [1], []), (.if_icmp .ne 36, 3, [67], []), (.aload_n 0, 1, [0], []), (.getfield 17, 3, [12, 2, 2, 128], []), (.bipush 124, 2, [], [124]), (.iload 5, 2, [5], []), (.iadd, 1, [], []), (.iaload, 1, [0], []), (.iload_n 2, 1, [2], []), (.if_icmp .ne 22, 3, [67], []), (.aload_n 0, 1, [0], []), (.getfield 17, 3, [12, 2, 2, 128], []), (.sipush 132, 3, [], [132]), (.iload 5, 2, [5], []), (.iadd, 1, [], []), (.iaload, 1, [0], []), (.iload_n 3, 1, [3], []), (.if_icmp .gt 7, 3, [67], []), (.iconst 1, 1, [], [1]), (.goto 4, 3, [68], [])]
theorem lb_X12_placeIn : B_X12_placeIn.all (fun b => lst y_X12_placeIn.2.1 12 y_X12_placeIn.2.2.1 false b.1 b.2) = true := by decide +kernel
theorem ls_X12_placeIn_0 : lst y_X12_placeIn.2.1 12 y_X12_placeIn.2.2.1 false 0 S_X12_placeIn_0 = true := by decide +kernel
theorem ls_X12_placeIn_6 : lst y_X12_placeIn.2.1 12 y_X12_placeIn.2.2.1 false 6 S_X12_placeIn_6 = true := by decide +kernel
def C_X12_placeIn (N : Nat) : Nat → List Value → mH → (Option Value → mH → Option (Int32 × mH)) → Option (Int32 × mH) := fun j as g k => none
theorem co_X12_placeIn (N : Nat) (q : Int32 × mH) : clOK 4 q (C_X12_placeIn N) := by
  intro j as g k e
  cases e
set_option maxRecDepth 100000 in
theorem t_X12_placeIn_6 {X : Nat × (Nat → Int32)} (N : Nat) {q : Int32 × mH} : ∀ (n : Nat) (a0 : Nat) (x1 : Int32) (x2 : Int32) (x3 : Int32) (x4 : Int32) (x5 : Int32) (h : mH), L_X12_placeIn_6 N n a0 x1 x2 x3 x4 x5 h = some q → MW X y_X12_placeIn 4 6 [(0, .ref a0), (1, .int x1), (2, .int x2), (3, .int x3), (4, .int x4), (5, .int x5)] [] h (some (.int q.1)) q.2 := by
  intro n
  induction n with
  | zero => intro a0 x1 x2 x3 x4 x5 h hf; cases hf
  | succ n ih =>
    intro a0 x1 x2 x3 x4 x5 h hf
    refine ev_ok (o := 12) (ini := false) (Cl := C_X12_placeIn N) (Rc := RcI) (B := B_X12_placeIn) (K := fun pc ls st g => kb pc 6 (lgr 0 ls fun a0 => lgi 1 ls fun x1 => lgi 2 ls fun x2 => lgi 3 ls fun x3 => lgi 4 ls fun x4 => lgi 5 ls fun x5 => pe st (L_X12_placeIn_6 N n a0 x1 x2 x3 x4 x5 g)) (none)) rfl (fun e => by cases e) (by decide) (rcI_ok rfl) ?_ (co_X12_placeIn N q) lb_X12_placeIn 3000 6 S_X12_placeIn_6 _ _ h ls_X12_placeIn_6 hf
    intro pc ls st g e
    rcases kb_s e with ⟨rfl, e⟩ | e
    · obtain ⟨a0, e0, f0⟩ := lgr_s e
      obtain ⟨x1, e1, f1⟩ := lgi_s f0
      obtain ⟨x2, e2, f2⟩ := lgi_s f1
      obtain ⟨x3, e3, f3⟩ := lgi_s f2
      obtain ⟨x4, e4, f4⟩ := lgi_s f3
      obtain ⟨x5, e5, f5⟩ := lgi_s f4
      obtain ⟨qe, fe⟩ := pe_s f5
      subst qe
      exact MW.sub (List.forall_mem_cons.mpr ⟨lg_mem e0, List.forall_mem_cons.mpr ⟨lg_mem e1, List.forall_mem_cons.mpr ⟨lg_mem e2, List.forall_mem_cons.mpr ⟨lg_mem e3, List.forall_mem_cons.mpr ⟨lg_mem e4, List.forall_mem_cons.mpr ⟨lg_mem e5, fun _ h => absurd h List.not_mem_nil⟩⟩⟩⟩⟩⟩) (ih a0 x1 x2 x3 x4 x5 g fe)
    cases e
set_option maxRecDepth 100000 in
theorem m_X12_placeIn (N : Nat) {a0 : Nat} {x1 : Int32} {x2 : Int32} {x3 : Int32} {h : mH} {q : Int32 × mH} (hf : f_X12_placeIn N a0 x1 x2 x3 h = some q) : MM y_X12_placeIn 4 [.ref a0, .int x1, .int x2, .int x3] h (some (.int q.1)) q.2 := by
  refine MM.of (mFx (j := 255) rfl).2.2.2.1 (Nat.le_of_ble_eq_true rfl) (fun X => ?_)
  refine ev_ok (o := 12) (ini := false) (Cl := C_X12_placeIn N) (Rc := RcI) (B := B_X12_placeIn) (K := fun pc ls st g => kb pc 6 (lgr 0 ls fun a0 => lgi 1 ls fun x1 => lgi 2 ls fun x2 => lgi 3 ls fun x3 => lgi 4 ls fun x4 => lgi 5 ls fun x5 => pe st (L_X12_placeIn_6 N N a0 x1 x2 x3 x4 x5 g)) (none)) rfl (fun e => by cases e) (by decide) (rcI_ok rfl) ?_ (co_X12_placeIn N q) lb_X12_placeIn 3000 0 S_X12_placeIn_0 _ _ h ls_X12_placeIn_0 hf
  intro pc ls st g e
  rcases kb_s e with ⟨rfl, e⟩ | e
  · obtain ⟨a0, e0, f0⟩ := lgr_s e
    obtain ⟨x1, e1, f1⟩ := lgi_s f0
    obtain ⟨x2, e2, f2⟩ := lgi_s f1
    obtain ⟨x3, e3, f3⟩ := lgi_s f2
    obtain ⟨x4, e4, f4⟩ := lgi_s f3
    obtain ⟨x5, e5, f5⟩ := lgi_s f4
    obtain ⟨qe, fe⟩ := pe_s f5
    subst qe
    exact MW.sub (List.forall_mem_cons.mpr ⟨lg_mem e0, List.forall_mem_cons.mpr ⟨lg_mem e1, List.forall_mem_cons.mpr ⟨lg_mem e2, List.forall_mem_cons.mpr ⟨lg_mem e3, List.forall_mem_cons.mpr ⟨lg_mem e4, List.forall_mem_cons.mpr ⟨lg_mem e5, fun _ h => absurd h List.not_mem_nil⟩⟩⟩⟩⟩⟩) (t_X12_placeIn_6 N N a0 x1 x2 x3 x4 x5 g fe)
  cases e
def f_X12_isOver (N : Nat) (a0 : Nat) (x1 : Int32) (x2 : Int32) (x3 : Int32) (h : mH) : Option (Int32 × mH) :=
  (rcv h 12 a0).bind fun _ =>
  (f_X12_placeIn N a0 x1 x2 x3 h).bind fun p1 =>
  (gR p1.2 12 a0 2).bind fun v2 =>
  (ldI 0 p1.2 v2 (iAdd (jI 35) x1)).bind fun v3 =>
  (gR p1.2 12 a0 2).bind fun v4 =>
  (ldI 0 p1.2 v4 (iAdd (jI 43) x1)).bind fun v5 =>
  if (iAdd v3 v5) = 0 then none else
  (gR p1.2 12 a0 2).bind fun v6 =>
  (ldI 0 p1.2 v6 (iAdd (jI 35) x1)).bind fun v7 =>
  if (iRem p1.1 (iAdd v3 v5)) < v7 then
    some (jI 1, p1.2)
  else
    some (jI 0, p1.2)
def y_X12_isOver : mM := (yX12_isOver, cX12_isOver, 4, (some .boolean))
def B_X12_isOver : List (Nat × List mI) := [(43, [(.iconst 0, 1, [], [0])]), (44, [(.ireturn, 1, [], [])])]
def S_X12_isOver_0 : List mI := [(.aload_n 0, 1, [0], []), (.iload_n 1, 1, [1], []), (.iload_n 2, 1, [2], []), (.iload_n 3, 1, [3], []), (.invokevirtual 194, 3, [0, 255, 3, 12, 302], []), (.aload_n 0, 1, [0], []), (.getfield 17, 3, [12, 2, 2, 128], []), (.bipush 35, 2, [], [35]), (.iload_n 1, 1, [1], []), (.iadd, 1, [], []), (.iaload, 1, [0], []), (.aload_n 0, 1, [0], []), (.getfield 17, 3, [12, 2, 2, 128], []), (.bipush 43, 2, [], [43]), (.iload_n 1, 1, [1], []), (.iadd, 1, [], []), (.iaload, 1, [0], []), (.iadd, 1, [], []), (.irem, 1, [], []), (.aload_n 0, 1, [0], []), (.getfield 17, 3, [12, 2, 2, 128], []), (.bipush 35, 2, [], [35]), (.iload_n 1, 1, [1], []), (.iadd, 1, [], []), (.iaload, 1, [0], []), (.if_icmp .ge 7, 3, [43], []), (.iconst 1, 1, [], [1]), (.goto 4, 3, [44], [])]
theorem lb_X12_isOver : B_X12_isOver.all (fun b => lst y_X12_isOver.2.1 12 y_X12_isOver.2.2.1 false b.1 b.2) = true := by decide +kernel
theorem ls_X12_isOver_0 : lst y_X12_isOver.2.1 12 y_X12_isOver.2.2.1 false 0 S_X12_isOver_0 = true := by decide +kernel
def C_X12_isOver (N : Nat) : Nat → List Value → mH → (Option Value → mH → Option (Int32 × mH)) → Option (Int32 × mH) := fun j as g k => kb j 255 (pr1 as fun b0 as => pp1 as fun b1 as => pp1 as fun b2 as => pp1 as fun b3 as => pe as ((f_X12_placeIn N b0 b1 b2 b3 g).bind fun p => k (some (.int p.1)) p.2)) (none)
theorem co_X12_isOver (N : Nat) (q : Int32 × mH) : clOK 5 q (C_X12_isOver N) := by
  intro j as g k e
  rcases kb_s e with ⟨rfl, e⟩ | e
  · obtain ⟨b0, r0, q0, f0⟩ := pr1_s e
    obtain ⟨b1, r1, q1, f1⟩ := pp1_s f0
    obtain ⟨b2, r2, q2, f2⟩ := pp1_s f1
    obtain ⟨b3, r3, q3, f3⟩ := pp1_s f2
    obtain ⟨qe, fe⟩ := pe_s f3
    obtain ⟨p, e1, e2⟩ := bnd_s fe
    subst qe
    subst q3
    subst q2
    subst q1
    subst q0
    exact ⟨_, _, _, _, 4, rfl, (by decide), m_X12_placeIn N e1, e2⟩
  cases e
set_option maxRecDepth 100000 in
theorem m_X12_isOver (N : Nat) {a0 : Nat} {x1 : Int32} {x2 : Int32} {x3 : Int32} {h : mH} {q : Int32 × mH} (hf : f_X12_isOver N a0 x1 x2 x3 h = some q) : MM y_X12_isOver 5 [.ref a0, .int x1, .int x2, .int x3] h (some (.int q.1)) q.2 := by
  refine MM.of (mFx (j := 256) rfl).2.2.2.1 (Nat.le_of_ble_eq_true rfl) (fun X => ?_)
  refine ev_ok (o := 12) (ini := false) (Cl := C_X12_isOver N) (Rc := RcZ) (B := B_X12_isOver) (K := fun pc ls st g => none) rfl (fun e => by cases e) (by decide) (rcZ_ok rfl) ?_ (co_X12_isOver N q) lb_X12_isOver 3000 0 S_X12_isOver_0 _ _ h ls_X12_isOver_0 hf
  intro pc ls st g e
  cases e
def L_X12_allAhead_4 (N : Nat) : Nat → Nat → Int32 → Int32 → Int32 → mH → Option (Int32 × mH)
  | 0, _, _, _, _, _ => none
  | n + 1, a0, x1, x2, x3, h =>
    if x3 < x1 then
      (gR h 12 a0 2).bind fun v1 =>
      (ldI 0 h v1 (iAdd (jI 27) x3)).bind fun v2 =>
      (rcv h 12 a0).bind fun _ =>
      (f_X12_crossingsOf N a0 x3 h).bind fun p3 =>
      let w4 := iAdd x2 (iMul v2 p3.1)
      let w5 := iAdd x3 (jI 1)
      L_X12_allAhead_4 N n a0 x1 w4 w5 p3.2
    else
      some (x2, h)
def f_X12_allAhead (N : Nat) (a0 : Nat) (x1 : Int32) (h : mH) : Option (Int32 × mH) :=
  L_X12_allAhead_4 N N a0 x1 (jI 0) (jI 0) h
def y_X12_allAhead : mM := (yX12_allAhead, cX12_allAhead, 4, (some .int))
def B_X12_allAhead : List (Nat × List mI) := [(33, [(.iload_n 2, 1, [2], []), (.ireturn, 1, [], [])])]
def S_X12_allAhead_0 : List mI := [(.iconst 0, 1, [], [0]), (.istore_n 2, 1, [2], []), (.iconst 0, 1, [], [0]), (.istore_n 3, 1, [3], [])]
def S_X12_allAhead_4 : List mI := [(.iload_n 3, 1, [3], []), (.iload_n 1, 1, [1], []), (.if_icmp .ge 27, 3, [33], []), (.iload_n 2, 1, [2], []), (.aload_n 0, 1, [0], []), (.getfield 17, 3, [12, 2, 2, 128], []), (.bipush 27, 2, [], [27]), (.iload_n 3, 1, [3], []), (.iadd, 1, [], []), (.iaload, 1, [0], []), (.aload_n 0, 1, [0], []), (.iload_n 3, 1, [3], []), (.invokevirtual 198, 3, [0, 252, 1, 12, 294], []), (.imul, 1, [], []), (.iadd, 1, [], []), (.istore_n 2, 1, [2], []), (.iinc 3 1, 3, [3], [1]), (.goto (-26), 3, [4], [])]
theorem lb_X12_allAhead : B_X12_allAhead.all (fun b => lst y_X12_allAhead.2.1 12 y_X12_allAhead.2.2.1 false b.1 b.2) = true := by decide +kernel
theorem ls_X12_allAhead_0 : lst y_X12_allAhead.2.1 12 y_X12_allAhead.2.2.1 false 0 S_X12_allAhead_0 = true := by decide +kernel
theorem ls_X12_allAhead_4 : lst y_X12_allAhead.2.1 12 y_X12_allAhead.2.2.1 false 4 S_X12_allAhead_4 = true := by decide +kernel
def C_X12_allAhead (N : Nat) : Nat → List Value → mH → (Option Value → mH → Option (Int32 × mH)) → Option (Int32 × mH) := fun j as g k => kb j 252 (pr1 as fun b0 as => pp1 as fun b1 as => pe as ((f_X12_crossingsOf N b0 b1 g).bind fun p => k (some (.int p.1)) p.2)) (none)
theorem co_X12_allAhead (N : Nat) (q : Int32 × mH) : clOK 5 q (C_X12_allAhead N) := by
  intro j as g k e
  rcases kb_s e with ⟨rfl, e⟩ | e
  · obtain ⟨b0, r0, q0, f0⟩ := pr1_s e
    obtain ⟨b1, r1, q1, f1⟩ := pp1_s f0
    obtain ⟨qe, fe⟩ := pe_s f1
    obtain ⟨p, e1, e2⟩ := bnd_s fe
    subst qe
    subst q1
    subst q0
    exact ⟨_, _, _, _, 4, rfl, (by decide), m_X12_crossingsOf N e1, e2⟩
  cases e
set_option maxRecDepth 100000 in
theorem t_X12_allAhead_4 {X : Nat × (Nat → Int32)} (N : Nat) {q : Int32 × mH} : ∀ (n : Nat) (a0 : Nat) (x1 : Int32) (x2 : Int32) (x3 : Int32) (h : mH), L_X12_allAhead_4 N n a0 x1 x2 x3 h = some q → MW X y_X12_allAhead 5 4 [(0, .ref a0), (1, .int x1), (2, .int x2), (3, .int x3)] [] h (some (.int q.1)) q.2 := by
  intro n
  induction n with
  | zero => intro a0 x1 x2 x3 h hf; cases hf
  | succ n ih =>
    intro a0 x1 x2 x3 h hf
    refine ev_ok (o := 12) (ini := false) (Cl := C_X12_allAhead N) (Rc := RcI) (B := B_X12_allAhead) (K := fun pc ls st g => kb pc 4 (lgr 0 ls fun a0 => lgi 1 ls fun x1 => lgi 2 ls fun x2 => lgi 3 ls fun x3 => pe st (L_X12_allAhead_4 N n a0 x1 x2 x3 g)) (none)) rfl (fun e => by cases e) (by decide) (rcI_ok rfl) ?_ (co_X12_allAhead N q) lb_X12_allAhead 3000 4 S_X12_allAhead_4 _ _ h ls_X12_allAhead_4 hf
    intro pc ls st g e
    rcases kb_s e with ⟨rfl, e⟩ | e
    · obtain ⟨a0, e0, f0⟩ := lgr_s e
      obtain ⟨x1, e1, f1⟩ := lgi_s f0
      obtain ⟨x2, e2, f2⟩ := lgi_s f1
      obtain ⟨x3, e3, f3⟩ := lgi_s f2
      obtain ⟨qe, fe⟩ := pe_s f3
      subst qe
      exact MW.sub (List.forall_mem_cons.mpr ⟨lg_mem e0, List.forall_mem_cons.mpr ⟨lg_mem e1, List.forall_mem_cons.mpr ⟨lg_mem e2, List.forall_mem_cons.mpr ⟨lg_mem e3, fun _ h => absurd h List.not_mem_nil⟩⟩⟩⟩) (ih a0 x1 x2 x3 g fe)
    cases e
set_option maxRecDepth 100000 in
theorem m_X12_allAhead (N : Nat) {a0 : Nat} {x1 : Int32} {h : mH} {q : Int32 × mH} (hf : f_X12_allAhead N a0 x1 h = some q) : MM y_X12_allAhead 5 [.ref a0, .int x1] h (some (.int q.1)) q.2 := by
  refine MM.of (mFx (j := 257) rfl).2.2.2.1 (Nat.le_of_ble_eq_true rfl) (fun X => ?_)
  refine ev_ok (o := 12) (ini := false) (Cl := C_X12_allAhead N) (Rc := RcI) (B := B_X12_allAhead) (K := fun pc ls st g => kb pc 4 (lgr 0 ls fun a0 => lgi 1 ls fun x1 => lgi 2 ls fun x2 => lgi 3 ls fun x3 => pe st (L_X12_allAhead_4 N N a0 x1 x2 x3 g)) (none)) rfl (fun e => by cases e) (by decide) (rcI_ok rfl) ?_ (co_X12_allAhead N q) lb_X12_allAhead 3000 0 S_X12_allAhead_0 _ _ h ls_X12_allAhead_0 hf
  intro pc ls st g e
  rcases kb_s e with ⟨rfl, e⟩ | e
  · obtain ⟨a0, e0, f0⟩ := lgr_s e
    obtain ⟨x1, e1, f1⟩ := lgi_s f0
    obtain ⟨x2, e2, f2⟩ := lgi_s f1
    obtain ⟨x3, e3, f3⟩ := lgi_s f2
    obtain ⟨qe, fe⟩ := pe_s f3
    subst qe
    exact MW.sub (List.forall_mem_cons.mpr ⟨lg_mem e0, List.forall_mem_cons.mpr ⟨lg_mem e1, List.forall_mem_cons.mpr ⟨lg_mem e2, List.forall_mem_cons.mpr ⟨lg_mem e3, fun _ h => absurd h List.not_mem_nil⟩⟩⟩⟩) (t_X12_allAhead_4 N N a0 x1 x2 x3 g fe)
  cases e
def f_X12_when (N : Nat) (a0 : Nat) (x1 : Int32) (x2 : Int32) (x3 : Int32) (h : mH) : Option (Int32 × mH) :=
  (rcv h 12 a0).bind fun _ =>
  (f_X12_allAhead N a0 x1 h).bind fun p1 =>
  (gR p1.2 12 a0 2).bind fun v2 =>
  (ldI 0 p1.2 v2 (iAdd (jI 27) x1)).bind fun v3 =>
  some (iAdd (iAdd p1.1 (iMul x3 v3)) x2, p1.2)
def y_X12_when : mM := (yX12_when, cX12_when, 4, (some .int))
def B_X12_when : List (Nat × List mI) := []
def S_X12_when_0 : List mI := [(.aload_n 0, 1, [0], []), (.iload_n 1, 1, [1], []), (.invokevirtual 201, 3, [0, 257, 1, 12, 304], []), (.iload_n 3, 1, [3], []), (.aload_n 0, 1, [0], []), (.getfield 17, 3, [12, 2, 2, 128], []), (.bipush 27, 2, [], [27]), (.iload_n 1, 1, [1], []), (.iadd, 1, [], []), (.iaload, 1, [0], []), (.imul, 1, [], []), (.iadd, 1, [], []), (.iload_n 2, 1, [2], []), (.iadd, 1, [], []), (.ireturn, 1, [], [])]
theorem lb_X12_when : B_X12_when.all (fun b => lst y_X12_when.2.1 12 y_X12_when.2.2.1 false b.1 b.2) = true := by decide +kernel
theorem ls_X12_when_0 : lst y_X12_when.2.1 12 y_X12_when.2.2.1 false 0 S_X12_when_0 = true := by decide +kernel
def C_X12_when (N : Nat) : Nat → List Value → mH → (Option Value → mH → Option (Int32 × mH)) → Option (Int32 × mH) := fun j as g k => kb j 257 (pr1 as fun b0 as => pp1 as fun b1 as => pe as ((f_X12_allAhead N b0 b1 g).bind fun p => k (some (.int p.1)) p.2)) (none)
theorem co_X12_when (N : Nat) (q : Int32 × mH) : clOK 6 q (C_X12_when N) := by
  intro j as g k e
  rcases kb_s e with ⟨rfl, e⟩ | e
  · obtain ⟨b0, r0, q0, f0⟩ := pr1_s e
    obtain ⟨b1, r1, q1, f1⟩ := pp1_s f0
    obtain ⟨qe, fe⟩ := pe_s f1
    obtain ⟨p, e1, e2⟩ := bnd_s fe
    subst qe
    subst q1
    subst q0
    exact ⟨_, _, _, _, 5, rfl, (by decide), m_X12_allAhead N e1, e2⟩
  cases e
set_option maxRecDepth 100000 in
theorem m_X12_when (N : Nat) {a0 : Nat} {x1 : Int32} {x2 : Int32} {x3 : Int32} {h : mH} {q : Int32 × mH} (hf : f_X12_when N a0 x1 x2 x3 h = some q) : MM y_X12_when 6 [.ref a0, .int x1, .int x2, .int x3] h (some (.int q.1)) q.2 := by
  refine MM.of (mFx (j := 258) rfl).2.2.2.1 (Nat.le_of_ble_eq_true rfl) (fun X => ?_)
  refine ev_ok (o := 12) (ini := false) (Cl := C_X12_when N) (Rc := RcI) (B := B_X12_when) (K := fun pc ls st g => none) rfl (fun e => by cases e) (by decide) (rcI_ok rfl) ?_ (co_X12_when N q) lb_X12_when 3000 0 S_X12_when_0 _ _ h ls_X12_when_0 hf
  intro pc ls st g e
  cases e
def f_X12_stepOf (N : Nat) (a0 : Nat) (x1 : Int32) (h : mH) : Option (Int32 × mH) :=
  (gR h 12 a0 2).bind fun v1 =>
  (ldI 0 h v1 (iAdd (jI 2) x1)).bind fun v2 =>
  (gR h 12 a0 2).bind fun v3 =>
  (ldI 0 h v3 (jI 140)).bind fun v4 =>
  let w5 := iSub v2 v4
  if w5 < (jI 1) then
    some (jI 1, h)
  else
    some (w5, h)
def y_X12_stepOf : mM := (yX12_stepOf, cX12_stepOf, 3, (some .int))
def B_X12_stepOf : List (Nat × List mI) := [(27, [(.iload_n 2, 1, [2], [])]), (28, [(.ireturn, 1, [], [])])]
def S_X12_stepOf_0 : List mI := [(.aload_n 0, 1, [0], []), (.getfield 17, 3, [12, 2, 2, 128], []), (.iconst 2, 1, [], [2]), (.iload_n 1, 1, [1], []), (.iadd, 1, [], []), (.iaload, 1, [0], []), (.aload_n 0, 1, [0], []), (.getfield 17, 3, [12, 2, 2, 128], []), (.sipush 140, 3, [], [140]), (.iaload, 1, [0], []), (.isub, 1, [], []), (.istore_n 2, 1, [2], []), (.iload_n 2, 1, [2], []), (.iconst 1, 1, [], [1]), (.if_icmp .ge 7, 3, [27], []), (.iconst 1, 1, [], [1]), (.goto 4, 3, [28], [])]
theorem lb_X12_stepOf : B_X12_stepOf.all (fun b => lst y_X12_stepOf.2.1 12 y_X12_stepOf.2.2.1 false b.1 b.2) = true := by decide +kernel
theorem ls_X12_stepOf_0 : lst y_X12_stepOf.2.1 12 y_X12_stepOf.2.2.1 false 0 S_X12_stepOf_0 = true := by decide +kernel
def C_X12_stepOf (N : Nat) : Nat → List Value → mH → (Option Value → mH → Option (Int32 × mH)) → Option (Int32 × mH) := fun j as g k => none
theorem co_X12_stepOf (N : Nat) (q : Int32 × mH) : clOK 4 q (C_X12_stepOf N) := by
  intro j as g k e
  cases e
set_option maxRecDepth 100000 in
theorem m_X12_stepOf (N : Nat) {a0 : Nat} {x1 : Int32} {h : mH} {q : Int32 × mH} (hf : f_X12_stepOf N a0 x1 h = some q) : MM y_X12_stepOf 4 [.ref a0, .int x1] h (some (.int q.1)) q.2 := by
  refine MM.of (mFx (j := 259) rfl).2.2.2.1 (Nat.le_of_ble_eq_true rfl) (fun X => ?_)
  refine ev_ok (o := 12) (ini := false) (Cl := C_X12_stepOf N) (Rc := RcI) (B := B_X12_stepOf) (K := fun pc ls st g => none) rfl (fun e => by cases e) (by decide) (rcI_ok rfl) ?_ (co_X12_stepOf N q) lb_X12_stepOf 3000 0 S_X12_stepOf_0 _ _ h ls_X12_stepOf_0 hf
  intro pc ls st g e
  cases e
def f_X12_rodsFor (N : Nat) (a0 : Nat) (x1 : Int32) (x2 : Int32) (h : mH) : Option (Int32 × mH) :=
  (gR h 12 a0 2).bind fun v1 =>
  (ldI 0 h v1 (iAdd (jI 2) x1)).bind fun v2 =>
  let w3 := iSub x2 v2
  (rcv h 12 a0).bind fun _ =>
  (f_X12_stepOf N a0 x1 h).bind fun p4 =>
  if 0 < w3 then
    if p4.1 = 0 then none else
    some (iAdd (jI 1) (iDiv (iSub (iAdd w3 p4.1) (jI 1)) p4.1), p4.2)
  else
    some (jI 1, p4.2)
def y_X12_rodsFor : mM := (yX12_rodsFor, cX12_rodsFor, 5, (some .int))
def B_X12_rodsFor : List (Nat × List mI) := [(26, [(.iconst 1, 1, [], [1]), (.iload_n 3, 1, [3], []), (.iload 4, 2, [4], []), (.iadd, 1, [], []), (.iconst 1, 1, [], [1]), (.isub, 1, [], []), (.iload 4, 2, [4], []), (.idiv, 1, [], []), (.iadd, 1, [], [])]), (37, [(.ireturn, 1, [], [])])]
def S_X12_rodsFor_0 : List mI := [(.iload_n 2, 1, [2], []), (.aload_n 0, 1, [0], []), (.getfield 17, 3, [12, 2, 2, 128], []), (.iconst 2, 1, [], [2]), (.iload_n 1, 1, [1], []), (.iadd, 1, [], []), (.iaload, 1, [0], []), (.isub, 1, [], []), (.istore_n 3, 1, [3], []), (.aload_n 0, 1, [0], []), (.iload_n 1, 1, [1], []), (.invokevirtual 204, 3, [0, 259, 1, 12, 297], []), (.istore 4, 2, [4], []), (.iload_n 3, 1, [3], []), (.ifCond .gt 7, 3, [26], []), (.iconst 1, 1, [], [1]), (.goto 14, 3, [37], [])]
theorem lb_X12_rodsFor : B_X12_rodsFor.all (fun b => lst y_X12_rodsFor.2.1 12 y_X12_rodsFor.2.2.1 false b.1 b.2) = true := by decide +kernel
theorem ls_X12_rodsFor_0 : lst y_X12_rodsFor.2.1 12 y_X12_rodsFor.2.2.1 false 0 S_X12_rodsFor_0 = true := by decide +kernel
def C_X12_rodsFor (N : Nat) : Nat → List Value → mH → (Option Value → mH → Option (Int32 × mH)) → Option (Int32 × mH) := fun j as g k => kb j 259 (pr1 as fun b0 as => pp1 as fun b1 as => pe as ((f_X12_stepOf N b0 b1 g).bind fun p => k (some (.int p.1)) p.2)) (none)
theorem co_X12_rodsFor (N : Nat) (q : Int32 × mH) : clOK 5 q (C_X12_rodsFor N) := by
  intro j as g k e
  rcases kb_s e with ⟨rfl, e⟩ | e
  · obtain ⟨b0, r0, q0, f0⟩ := pr1_s e
    obtain ⟨b1, r1, q1, f1⟩ := pp1_s f0
    obtain ⟨qe, fe⟩ := pe_s f1
    obtain ⟨p, e1, e2⟩ := bnd_s fe
    subst qe
    subst q1
    subst q0
    exact ⟨_, _, _, _, 4, rfl, (by decide), m_X12_stepOf N e1, e2⟩
  cases e
set_option maxRecDepth 100000 in
theorem m_X12_rodsFor (N : Nat) {a0 : Nat} {x1 : Int32} {x2 : Int32} {h : mH} {q : Int32 × mH} (hf : f_X12_rodsFor N a0 x1 x2 h = some q) : MM y_X12_rodsFor 5 [.ref a0, .int x1, .int x2] h (some (.int q.1)) q.2 := by
  refine MM.of (mFx (j := 260) rfl).2.2.2.1 (Nat.le_of_ble_eq_true rfl) (fun X => ?_)
  refine ev_ok (o := 12) (ini := false) (Cl := C_X12_rodsFor N) (Rc := RcI) (B := B_X12_rodsFor) (K := fun pc ls st g => none) rfl (fun e => by cases e) (by decide) (rcI_ok rfl) ?_ (co_X12_rodsFor N q) lb_X12_rodsFor 3000 0 S_X12_rodsFor_0 _ _ h ls_X12_rodsFor_0 hf
  intro pc ls st g e
  cases e
def f_X12_kindOf (N : Nat) (a0 : Nat) (x1 : Int32) (x2 : Int32) (h : mH) : Option (Int32 × mH) :=
  (gR h 12 a0 2).bind fun v1 =>
  (ldI 0 h v1 (iAdd (iAdd (jI 83) (iMul (jI 4) x1)) x2)).bind fun v2 =>
  some (v2, h)
def y_X12_kindOf : mM := (yX12_kindOf, cX12_kindOf, 3, (some .int))
def B_X12_kindOf : List (Nat × List mI) := []
def S_X12_kindOf_0 : List mI := [(.aload_n 0, 1, [0], []), (.getfield 17, 3, [12, 2, 2, 128], []), (.bipush 83, 2, [], [83]), (.iconst 4, 1, [], [4]), (.iload_n 1, 1, [1], []), (.imul, 1, [], []), (.iadd, 1, [], []), (.iload_n 2, 1, [2], []), (.iadd, 1, [], []), (.iaload, 1, [0], []), (.ireturn, 1, [], [])]
theorem lb_X12_kindOf : B_X12_kindOf.all (fun b => lst y_X12_kindOf.2.1 12 y_X12_kindOf.2.2.1 false b.1 b.2) = true := by decide +kernel
theorem ls_X12_kindOf_0 : lst y_X12_kindOf.2.1 12 y_X12_kindOf.2.2.1 false 0 S_X12_kindOf_0 = true := by decide +kernel
def C_X12_kindOf (N : Nat) : Nat → List Value → mH → (Option Value → mH → Option (Int32 × mH)) → Option (Int32 × mH) := fun j as g k => none
theorem co_X12_kindOf (N : Nat) (q : Int32 × mH) : clOK 4 q (C_X12_kindOf N) := by
  intro j as g k e
  cases e
set_option maxRecDepth 100000 in
theorem m_X12_kindOf (N : Nat) {a0 : Nat} {x1 : Int32} {x2 : Int32} {h : mH} {q : Int32 × mH} (hf : f_X12_kindOf N a0 x1 x2 h = some q) : MM y_X12_kindOf 4 [.ref a0, .int x1, .int x2] h (some (.int q.1)) q.2 := by
  refine MM.of (mFx (j := 261) rfl).2.2.2.1 (Nat.le_of_ble_eq_true rfl) (fun X => ?_)
  refine ev_ok (o := 12) (ini := false) (Cl := C_X12_kindOf N) (Rc := RcI) (B := B_X12_kindOf) (K := fun pc ls st g => none) rfl (fun e => by cases e) (by decide) (rcI_ok rfl) ?_ (co_X12_kindOf N q) lb_X12_kindOf 3000 0 S_X12_kindOf_0 _ _ h ls_X12_kindOf_0 hf
  intro pc ls st g e
  cases e
def f_X12_rodAt (N : Nat) (a0 : Nat) (x1 : Int32) (x2 : Int32) (x3 : Int32) (h : mH) : Option (Int32 × mH) :=
  (rcv h 12 a0).bind fun _ =>
  (f_X12_kindOf N a0 x1 x2 h).bind fun p1 =>
  (rcv p1.2 12 a0).bind fun _ =>
  (f_X12_stepOf N a0 p1.1 p1.2).bind fun p2 =>
  if p2.1 = 0 then none else
  let w3 := iDiv x3 p2.1
  (rcv p2.2 12 a0).bind fun _ =>
  (f_X12_kindOf N a0 x1 x2 p2.2).bind fun p4 =>
  (rcv p4.2 12 a0).bind fun _ =>
  (f_X12_crossingsOf N a0 x1 p4.2).bind fun p5 =>
  (rcv p5.2 12 a0).bind fun _ =>
  (f_X12_rodsFor N a0 p4.1 p5.1 p5.2).bind fun p6 =>
  let w7 := iSub p6.1 (jI 1)
  if w7 < w3 then
    some (w7, p6.2)
  else
    some (w3, p6.2)
def y_X12_rodAt : mM := (yX12_rodAt, cX12_rodAt, 6, (some .int))
def B_X12_rodAt : List (Nat × List mI) := [(45, [(.iload 4, 2, [4], [])]), (47, [(.ireturn, 1, [], [])])]
def S_X12_rodAt_0 : List mI := [(.iload_n 3, 1, [3], []), (.aload_n 0, 1, [0], []), (.aload_n 0, 1, [0], []), (.iload_n 1, 1, [1], []), (.iload_n 2, 1, [2], []), (.invokevirtual 207, 3, [0, 261, 2, 12, 296], []), (.invokevirtual 204, 3, [0, 259, 1, 12, 297], []), (.idiv, 1, [], []), (.istore 4, 2, [4], []), (.aload_n 0, 1, [0], []), (.aload_n 0, 1, [0], []), (.iload_n 1, 1, [1], []), (.iload_n 2, 1, [2], []), (.invokevirtual 207, 3, [0, 261, 2, 12, 296], []), (.aload_n 0, 1, [0], []), (.iload_n 1, 1, [1], []), (.invokevirtual 198, 3, [0, 252, 1, 12, 294], []), (.invokevirtual 210, 3, [0, 260, 2, 12, 298], []), (.iconst 1, 1, [], [1]), (.isub, 1, [], []), (.istore 5, 2, [5], []), (.iload 4, 2, [4], []), (.iload 5, 2, [5], []), (.if_icmp .le 8, 3, [45], []), (.iload 5, 2, [5], []), (.goto 5, 3, [47], [])]
theorem lb_X12_rodAt : B_X12_rodAt.all (fun b => lst y_X12_rodAt.2.1 12 y_X12_rodAt.2.2.1 false b.1 b.2) = true := by decide +kernel
theorem ls_X12_rodAt_0 : lst y_X12_rodAt.2.1 12 y_X12_rodAt.2.2.1 false 0 S_X12_rodAt_0 = true := by decide +kernel
def C_X12_rodAt (N : Nat) : Nat → List Value → mH → (Option Value → mH → Option (Int32 × mH)) → Option (Int32 × mH) := fun j as g k => kb j 261 (pr1 as fun b0 as => pp1 as fun b1 as => pp1 as fun b2 as => pe as ((f_X12_kindOf N b0 b1 b2 g).bind fun p => k (some (.int p.1)) p.2)) (kb j 259 (pr1 as fun b0 as => pp1 as fun b1 as => pe as ((f_X12_stepOf N b0 b1 g).bind fun p => k (some (.int p.1)) p.2)) (kb j 252 (pr1 as fun b0 as => pp1 as fun b1 as => pe as ((f_X12_crossingsOf N b0 b1 g).bind fun p => k (some (.int p.1)) p.2)) (kb j 260 (pr1 as fun b0 as => pp1 as fun b1 as => pp1 as fun b2 as => pe as ((f_X12_rodsFor N b0 b1 b2 g).bind fun p => k (some (.int p.1)) p.2)) (none))))
theorem co_X12_rodAt (N : Nat) (q : Int32 × mH) : clOK 6 q (C_X12_rodAt N) := by
  intro j as g k e
  rcases kb_s e with ⟨rfl, e⟩ | e
  · obtain ⟨b0, r0, q0, f0⟩ := pr1_s e
    obtain ⟨b1, r1, q1, f1⟩ := pp1_s f0
    obtain ⟨b2, r2, q2, f2⟩ := pp1_s f1
    obtain ⟨qe, fe⟩ := pe_s f2
    obtain ⟨p, e1, e2⟩ := bnd_s fe
    subst qe
    subst q2
    subst q1
    subst q0
    exact ⟨_, _, _, _, 4, rfl, (by decide), m_X12_kindOf N e1, e2⟩
  rcases kb_s e with ⟨rfl, e⟩ | e
  · obtain ⟨b0, r0, q0, f0⟩ := pr1_s e
    obtain ⟨b1, r1, q1, f1⟩ := pp1_s f0
    obtain ⟨qe, fe⟩ := pe_s f1
    obtain ⟨p, e1, e2⟩ := bnd_s fe
    subst qe
    subst q1
    subst q0
    exact ⟨_, _, _, _, 4, rfl, (by decide), m_X12_stepOf N e1, e2⟩
  rcases kb_s e with ⟨rfl, e⟩ | e
  · obtain ⟨b0, r0, q0, f0⟩ := pr1_s e
    obtain ⟨b1, r1, q1, f1⟩ := pp1_s f0
    obtain ⟨qe, fe⟩ := pe_s f1
    obtain ⟨p, e1, e2⟩ := bnd_s fe
    subst qe
    subst q1
    subst q0
    exact ⟨_, _, _, _, 4, rfl, (by decide), m_X12_crossingsOf N e1, e2⟩
  rcases kb_s e with ⟨rfl, e⟩ | e
  · obtain ⟨b0, r0, q0, f0⟩ := pr1_s e
    obtain ⟨b1, r1, q1, f1⟩ := pp1_s f0
    obtain ⟨b2, r2, q2, f2⟩ := pp1_s f1
    obtain ⟨qe, fe⟩ := pe_s f2
    obtain ⟨p, e1, e2⟩ := bnd_s fe
    subst qe
    subst q2
    subst q1
    subst q0
    exact ⟨_, _, _, _, 5, rfl, (by decide), m_X12_rodsFor N e1, e2⟩
  cases e
set_option maxRecDepth 100000 in
theorem m_X12_rodAt (N : Nat) {a0 : Nat} {x1 : Int32} {x2 : Int32} {x3 : Int32} {h : mH} {q : Int32 × mH} (hf : f_X12_rodAt N a0 x1 x2 x3 h = some q) : MM y_X12_rodAt 6 [.ref a0, .int x1, .int x2, .int x3] h (some (.int q.1)) q.2 := by
  refine MM.of (mFx (j := 262) rfl).2.2.2.1 (Nat.le_of_ble_eq_true rfl) (fun X => ?_)
  refine ev_ok (o := 12) (ini := false) (Cl := C_X12_rodAt N) (Rc := RcI) (B := B_X12_rodAt) (K := fun pc ls st g => none) rfl (fun e => by cases e) (by decide) (rcI_ok rfl) ?_ (co_X12_rodAt N q) lb_X12_rodAt 3000 0 S_X12_rodAt_0 _ _ h ls_X12_rodAt_0 hf
  intro pc ls st g e
  cases e
def f_X12_isCrossing (N : Nat) (a0 : Nat) (x1 : Int32) (x2 : Int32) (x3 : Int32) (h : mH) : Option (Int32 × mH) :=
  (rcv h 12 a0).bind fun _ =>
  (f_X12_isBand N a0 x1 h).bind fun p1 =>
  if p1.1 = 0 then
    some (jI 0, p1.2)
  else
    (gR p1.2 12 a0 2).bind fun v2 =>
    (ldI 0 p1.2 v2 (iAdd (jI 27) x1)).bind fun v3 =>
    (f_X12_within N x2.toInt64 (jL 0) ((iSub v3 (jI 1)).toInt64) p1.2).bind fun p4 =>
    if p4.1 = 0 then
      some (jI 0, p4.2)
    else
      (rcv p4.2 12 a0).bind fun _ =>
      (f_X12_crossingsOf N a0 x1 p4.2).bind fun p5 =>
      (f_X12_within N x3.toInt64 (jL 0) ((iSub p5.1 (jI 1)).toInt64) p5.2).bind fun p6 =>
      if p6.1 = 0 then
        some (jI 0, p6.2)
      else
        some (jI 1, p6.2)
def y_X12_isCrossing : mM := (yX12_isCrossing, cX12_isCrossing, 4, (some .boolean))
def B_X12_isCrossing : List (Nat × List mI) := [(50, [(.iconst 0, 1, [], [0])]), (51, [(.ireturn, 1, [], [])])]
def S_X12_isCrossing_0 : List mI := [(.aload_n 0, 1, [0], []), (.iload_n 1, 1, [1], []), (.invokevirtual 181, 3, [0, 247, 1, 12, 289], []), (.ifCond .eq 45, 3, [50], []), (.iload_n 2, 1, [2], []), (.i2l, 1, [], []), (.lconst 0, 1, [], [0]), (.aload_n 0, 1, [0], []), (.getfield 17, 3, [12, 2, 2, 128], []), (.bipush 27, 2, [], [27]), (.iload_n 1, 1, [1], []), (.iadd, 1, [], []), (.iaload, 1, [0], []), (.iconst 1, 1, [], [1]), (.isub, 1, [], []), (.i2l, 1, [], []), (.invokestatic 147, 3, [1, 225, 3, 0, 269], []), (.ifCond .eq 24, 3, [50], []), (.iload_n 3, 1, [3], []), (.i2l, 1, [], []), (.lconst 0, 1, [], [0]), (.aload_n 0, 1, [0], []), (.iload_n 1, 1, [1], []), (.invokevirtual 198, 3, [0, 252, 1, 12, 294], []), (.iconst 1, 1, [], [1]), (.isub, 1, [], []), (.i2l, 1, [], []), (.invokestatic 147, 3, [1, 225, 3, 0, 269], []), (.ifCond .eq 7, 3, [50], []), (.iconst 1, 1, [], [1]), (.goto 4, 3, [51], [])]
theorem lb_X12_isCrossing : B_X12_isCrossing.all (fun b => lst y_X12_isCrossing.2.1 12 y_X12_isCrossing.2.2.1 false b.1 b.2) = true := by decide +kernel
theorem ls_X12_isCrossing_0 : lst y_X12_isCrossing.2.1 12 y_X12_isCrossing.2.2.1 false 0 S_X12_isCrossing_0 = true := by decide +kernel
def C_X12_isCrossing (N : Nat) : Nat → List Value → mH → (Option Value → mH → Option (Int32 × mH)) → Option (Int32 × mH) := fun j as g k => kb j 247 (pr1 as fun b0 as => pp1 as fun b1 as => pe as ((f_X12_isBand N b0 b1 g).bind fun p => k (some (.int p.1)) p.2)) (kb j 225 (pl1 as fun b0 as => pl1 as fun b1 as => pl1 as fun b2 as => pe as ((f_X12_within N b0 b1 b2 g).bind fun p => k (some (.int p.1)) p.2)) (kb j 252 (pr1 as fun b0 as => pp1 as fun b1 as => pe as ((f_X12_crossingsOf N b0 b1 g).bind fun p => k (some (.int p.1)) p.2)) (none)))
theorem co_X12_isCrossing (N : Nat) (q : Int32 × mH) : clOK 6 q (C_X12_isCrossing N) := by
  intro j as g k e
  rcases kb_s e with ⟨rfl, e⟩ | e
  · obtain ⟨b0, r0, q0, f0⟩ := pr1_s e
    obtain ⟨b1, r1, q1, f1⟩ := pp1_s f0
    obtain ⟨qe, fe⟩ := pe_s f1
    obtain ⟨p, e1, e2⟩ := bnd_s fe
    subst qe
    subst q1
    subst q0
    exact ⟨_, _, _, _, 5, rfl, (by decide), m_X12_isBand N e1, e2⟩
  rcases kb_s e with ⟨rfl, e⟩ | e
  · obtain ⟨b0, r0, q0, f0⟩ := pl1_s e
    obtain ⟨b1, r1, q1, f1⟩ := pl1_s f0
    obtain ⟨b2, r2, q2, f2⟩ := pl1_s f1
    obtain ⟨qe, fe⟩ := pe_s f2
    obtain ⟨p, e1, e2⟩ := bnd_s fe
    subst qe
    subst q2
    subst q1
    subst q0
    exact ⟨_, _, _, _, 4, rfl, (by decide), m_X12_within N e1, e2⟩
  rcases kb_s e with ⟨rfl, e⟩ | e
  · obtain ⟨b0, r0, q0, f0⟩ := pr1_s e
    obtain ⟨b1, r1, q1, f1⟩ := pp1_s f0
    obtain ⟨qe, fe⟩ := pe_s f1
    obtain ⟨p, e1, e2⟩ := bnd_s fe
    subst qe
    subst q1
    subst q0
    exact ⟨_, _, _, _, 4, rfl, (by decide), m_X12_crossingsOf N e1, e2⟩
  cases e
set_option maxRecDepth 100000 in
theorem m_X12_isCrossing (N : Nat) {a0 : Nat} {x1 : Int32} {x2 : Int32} {x3 : Int32} {h : mH} {q : Int32 × mH} (hf : f_X12_isCrossing N a0 x1 x2 x3 h = some q) : MM y_X12_isCrossing 6 [.ref a0, .int x1, .int x2, .int x3] h (some (.int q.1)) q.2 := by
  refine MM.of (mFx (j := 263) rfl).2.2.2.1 (Nat.le_of_ble_eq_true rfl) (fun X => ?_)
  refine ev_ok (o := 12) (ini := false) (Cl := C_X12_isCrossing N) (Rc := RcZ) (B := B_X12_isCrossing) (K := fun pc ls st g => none) rfl (fun e => by cases e) (by decide) (rcZ_ok rfl) ?_ (co_X12_isCrossing N q) lb_X12_isCrossing 3000 0 S_X12_isCrossing_0 _ _ h ls_X12_isCrossing_0 hf
  intro pc ls st g e
  cases e
def f_X12_crossing (N : Nat) (a0 : Nat) (x1 : Int32) (x2 : Int32) (x3 : Int32) (x4 : Int32) (h : mH) : Option (Int32 × mH) :=
  (pV h 12 a0 0 (.int (jI 0))).bind fun h1 =>
  (rcv h1 12 a0).bind fun _ =>
  (f_X12_isCrossing N a0 x1 x2 x3 h1).bind fun p2 =>
  if p2.1 = 0 then
    (rcv p2.2 12 a0).bind fun _ =>
    (f_X12_no N a0 (jI (-2)) p2.2).bind fun p3 =>
    some (p3.1, p3.2)
  else
    (f_X12_within N x4.toInt64 (jL 0) (jL 5) p2.2).bind fun p4 =>
    if p4.1 = 0 then
      (rcv p4.2 12 a0).bind fun _ =>
      (f_X12_no N a0 (jI (-2)) p4.2).bind fun p5 =>
      some (p5.1, p5.2)
    else
      (rcv p4.2 12 a0).bind fun _ =>
      (f_X12_rodAt N a0 x1 x2 x3 p4.2).bind fun p6 =>
      if x4 = jI 0 then
        (rcv p6.2 12 a0).bind fun _ =>
        (f_X12_stakeAt N a0 x1 x2 x3 p6.2).bind fun p7 =>
        some (p7.1, p7.2)
      else
      if x4 = jI 1 then
        (rcv p6.2 12 a0).bind fun _ =>
        (f_X12_isOver N a0 x1 x2 x3 p6.2).bind fun p8 =>
        if p8.1 = 0 then
          some (jI 0, p8.2)
        else
          some (jI 1, p8.2)
      else
      if x4 = jI 2 then
        some (p6.1, p6.2)
      else
      if x4 = jI 3 then
        (rcv p6.2 12 a0).bind fun _ =>
        (f_X12_kindOf N a0 x1 x2 p6.2).bind fun p9 =>
        (rcv p9.2 12 a0).bind fun _ =>
        (f_X12_stepOf N a0 p9.1 p9.2).bind fun p10 =>
        some (iSub x3 (iMul p6.1 p10.1), p10.2)
      else
      if x4 = jI 4 then
        if (jI 2) = 0 then none else
        some (iSub (jI 1) (iRem p6.1 (jI 2)), p6.2)
      else
      (rcv p6.2 12 a0).bind fun _ =>
      (f_X12_when N a0 x1 x2 x3 p6.2).bind fun p11 =>
      some (p11.1, p11.2)
def y_X12_crossing : mM := (yX12_crossing, cX12_crossing, 6, (some .int))
def B_X12_crossing : List (Nat × List mI) := [(28, [(.aload_n 0, 1, [0], []), (.bipush (-2), 2, [], [-2]), (.invokevirtual 84, 3, [0, 224, 1, 12, 267], []), (.ireturn, 1, [], [])]), (35, [(.aload_n 0, 1, [0], []), (.iload_n 1, 1, [1], []), (.iload_n 2, 1, [2], []), (.iload_n 3, 1, [3], []), (.invokevirtual 219, 3, [0, 262, 3, 12, 295], []), (.istore 5, 2, [5], []), (.iload 4, 2, [4], []), (.tableswitch 84 0 4 #[34, 42, 58, 61, 77], 34, [130, 80, 88, 104, 107, 123], [0, 1, 2, 3, 4])]), (80, [(.aload_n 0, 1, [0], []), (.iload_n 1, 1, [1], []), (.iload_n 2, 1, [2], []), (.iload_n 3, 1, [3], []), (.invokevirtual 222, 3, [0, 254, 3, 12, 299], []), (.ireturn, 1, [], [])]), (88, [(.aload_n 0, 1, [0], []), (.iload_n 1, 1, [1], []), (.iload_n 2, 1, [2], []), (.iload_n 3, 1, [3], []), (.invokevirtual 225, 3, [0, 256, 3, 12, 301], []), (.ifCond .eq 7, 3, [102], []), (.iconst 1, 1, [], [1]), (.goto 4, 3, [103], [])]), (102, [(.iconst 0, 1, [], [0])]), (103, [(.ireturn, 1, [], [])]), (104, [(.iload 5, 2, [5], []), (.ireturn, 1, [], [])]), (107, [(.iload_n 3, 1, [3], []), (.iload 5, 2, [5], []), (.aload_n 0, 1, [0], []), (.aload_n 0, 1, [0], []), (.iload_n 1, 1, [1], []), (.iload_n 2, 1, [2], []), (.invokevirtual 207, 3, [0, 261, 2, 12, 296], []), (.invokevirtual 204, 3, [0, 259, 1, 12, 297], []), (.imul, 1, [], []), (.isub, 1, [], []), (.ireturn, 1, [], [])]), (123, [(.iconst 1, 1, [], [1]), (.iload 5, 2, [5], []), (.iconst 2, 1, [], [2]), (.irem, 1, [], []), (.isub, 1, [], []), (.ireturn, 1, [], [])]), (130, [(.aload_n 0, 1, [0], []), (.iload_n 1, 1, [1], []), (.iload_n 2, 1, [2], []), (.iload_n 3, 1, [3], []), (.invokevirtual 228, 3, [0, 258, 3, 12, 303], []), (.ireturn, 1, [], [])])]
def S_X12_crossing_0 : List mI := [(.aload_n 0, 1, [0], []), (.iconst 0, 1, [], [0]), (.putfield 1, 3, [12, 0, 0, 126], []), (.aload_n 0, 1, [0], []), (.iload_n 1, 1, [1], []), (.iload_n 2, 1, [2], []), (.iload_n 3, 1, [3], []), (.invokevirtual 213, 3, [0, 263, 3, 12, 293], []), (.ifCond .eq 16, 3, [28], []), (.iload 4, 2, [4], []), (.i2l, 1, [], []), (.lconst 0, 1, [], [0]), (.ldc2_w 217, 3, [8], [5]), (.invokestatic 147, 3, [1, 225, 3, 0, 269], []), (.ifCond .ne 10, 3, [35], [])]
theorem lb_X12_crossing : B_X12_crossing.all (fun b => lst y_X12_crossing.2.1 12 y_X12_crossing.2.2.1 false b.1 b.2) = true := by decide +kernel
theorem ls_X12_crossing_0 : lst y_X12_crossing.2.1 12 y_X12_crossing.2.2.1 false 0 S_X12_crossing_0 = true := by decide +kernel
def C_X12_crossing (N : Nat) : Nat → List Value → mH → (Option Value → mH → Option (Int32 × mH)) → Option (Int32 × mH) := fun j as g k => kb j 263 (pr1 as fun b0 as => pp1 as fun b1 as => pp1 as fun b2 as => pp1 as fun b3 as => pe as ((f_X12_isCrossing N b0 b1 b2 b3 g).bind fun p => k (some (.int p.1)) p.2)) (kb j 225 (pl1 as fun b0 as => pl1 as fun b1 as => pl1 as fun b2 as => pe as ((f_X12_within N b0 b1 b2 g).bind fun p => k (some (.int p.1)) p.2)) (kb j 224 (pr1 as fun b0 as => pp1 as fun b1 as => pe as ((f_X12_no N b0 b1 g).bind fun p => k (some (.int p.1)) p.2)) (kb j 262 (pr1 as fun b0 as => pp1 as fun b1 as => pp1 as fun b2 as => pp1 as fun b3 as => pe as ((f_X12_rodAt N b0 b1 b2 b3 g).bind fun p => k (some (.int p.1)) p.2)) (kb j 254 (pr1 as fun b0 as => pp1 as fun b1 as => pp1 as fun b2 as => pp1 as fun b3 as => pe as ((f_X12_stakeAt N b0 b1 b2 b3 g).bind fun p => k (some (.int p.1)) p.2)) (kb j 256 (pr1 as fun b0 as => pp1 as fun b1 as => pp1 as fun b2 as => pp1 as fun b3 as => pe as ((f_X12_isOver N b0 b1 b2 b3 g).bind fun p => k (some (.int p.1)) p.2)) (kb j 261 (pr1 as fun b0 as => pp1 as fun b1 as => pp1 as fun b2 as => pe as ((f_X12_kindOf N b0 b1 b2 g).bind fun p => k (some (.int p.1)) p.2)) (kb j 259 (pr1 as fun b0 as => pp1 as fun b1 as => pe as ((f_X12_stepOf N b0 b1 g).bind fun p => k (some (.int p.1)) p.2)) (kb j 258 (pr1 as fun b0 as => pp1 as fun b1 as => pp1 as fun b2 as => pp1 as fun b3 as => pe as ((f_X12_when N b0 b1 b2 b3 g).bind fun p => k (some (.int p.1)) p.2)) (none)))))))))
theorem co_X12_crossing (N : Nat) (q : Int32 × mH) : clOK 7 q (C_X12_crossing N) := by
  intro j as g k e
  rcases kb_s e with ⟨rfl, e⟩ | e
  · obtain ⟨b0, r0, q0, f0⟩ := pr1_s e
    obtain ⟨b1, r1, q1, f1⟩ := pp1_s f0
    obtain ⟨b2, r2, q2, f2⟩ := pp1_s f1
    obtain ⟨b3, r3, q3, f3⟩ := pp1_s f2
    obtain ⟨qe, fe⟩ := pe_s f3
    obtain ⟨p, e1, e2⟩ := bnd_s fe
    subst qe
    subst q3
    subst q2
    subst q1
    subst q0
    exact ⟨_, _, _, _, 6, rfl, (by decide), m_X12_isCrossing N e1, e2⟩
  rcases kb_s e with ⟨rfl, e⟩ | e
  · obtain ⟨b0, r0, q0, f0⟩ := pl1_s e
    obtain ⟨b1, r1, q1, f1⟩ := pl1_s f0
    obtain ⟨b2, r2, q2, f2⟩ := pl1_s f1
    obtain ⟨qe, fe⟩ := pe_s f2
    obtain ⟨p, e1, e2⟩ := bnd_s fe
    subst qe
    subst q2
    subst q1
    subst q0
    exact ⟨_, _, _, _, 4, rfl, (by decide), m_X12_within N e1, e2⟩
  rcases kb_s e with ⟨rfl, e⟩ | e
  · obtain ⟨b0, r0, q0, f0⟩ := pr1_s e
    obtain ⟨b1, r1, q1, f1⟩ := pp1_s f0
    obtain ⟨qe, fe⟩ := pe_s f1
    obtain ⟨p, e1, e2⟩ := bnd_s fe
    subst qe
    subst q1
    subst q0
    exact ⟨_, _, _, _, 4, rfl, (by decide), m_X12_no N e1, e2⟩
  rcases kb_s e with ⟨rfl, e⟩ | e
  · obtain ⟨b0, r0, q0, f0⟩ := pr1_s e
    obtain ⟨b1, r1, q1, f1⟩ := pp1_s f0
    obtain ⟨b2, r2, q2, f2⟩ := pp1_s f1
    obtain ⟨b3, r3, q3, f3⟩ := pp1_s f2
    obtain ⟨qe, fe⟩ := pe_s f3
    obtain ⟨p, e1, e2⟩ := bnd_s fe
    subst qe
    subst q3
    subst q2
    subst q1
    subst q0
    exact ⟨_, _, _, _, 6, rfl, (by decide), m_X12_rodAt N e1, e2⟩
  rcases kb_s e with ⟨rfl, e⟩ | e
  · obtain ⟨b0, r0, q0, f0⟩ := pr1_s e
    obtain ⟨b1, r1, q1, f1⟩ := pp1_s f0
    obtain ⟨b2, r2, q2, f2⟩ := pp1_s f1
    obtain ⟨b3, r3, q3, f3⟩ := pp1_s f2
    obtain ⟨qe, fe⟩ := pe_s f3
    obtain ⟨p, e1, e2⟩ := bnd_s fe
    subst qe
    subst q3
    subst q2
    subst q1
    subst q0
    exact ⟨_, _, _, _, 5, rfl, (by decide), m_X12_stakeAt N e1, e2⟩
  rcases kb_s e with ⟨rfl, e⟩ | e
  · obtain ⟨b0, r0, q0, f0⟩ := pr1_s e
    obtain ⟨b1, r1, q1, f1⟩ := pp1_s f0
    obtain ⟨b2, r2, q2, f2⟩ := pp1_s f1
    obtain ⟨b3, r3, q3, f3⟩ := pp1_s f2
    obtain ⟨qe, fe⟩ := pe_s f3
    obtain ⟨p, e1, e2⟩ := bnd_s fe
    subst qe
    subst q3
    subst q2
    subst q1
    subst q0
    exact ⟨_, _, _, _, 5, rfl, (by decide), m_X12_isOver N e1, e2⟩
  rcases kb_s e with ⟨rfl, e⟩ | e
  · obtain ⟨b0, r0, q0, f0⟩ := pr1_s e
    obtain ⟨b1, r1, q1, f1⟩ := pp1_s f0
    obtain ⟨b2, r2, q2, f2⟩ := pp1_s f1
    obtain ⟨qe, fe⟩ := pe_s f2
    obtain ⟨p, e1, e2⟩ := bnd_s fe
    subst qe
    subst q2
    subst q1
    subst q0
    exact ⟨_, _, _, _, 4, rfl, (by decide), m_X12_kindOf N e1, e2⟩
  rcases kb_s e with ⟨rfl, e⟩ | e
  · obtain ⟨b0, r0, q0, f0⟩ := pr1_s e
    obtain ⟨b1, r1, q1, f1⟩ := pp1_s f0
    obtain ⟨qe, fe⟩ := pe_s f1
    obtain ⟨p, e1, e2⟩ := bnd_s fe
    subst qe
    subst q1
    subst q0
    exact ⟨_, _, _, _, 4, rfl, (by decide), m_X12_stepOf N e1, e2⟩
  rcases kb_s e with ⟨rfl, e⟩ | e
  · obtain ⟨b0, r0, q0, f0⟩ := pr1_s e
    obtain ⟨b1, r1, q1, f1⟩ := pp1_s f0
    obtain ⟨b2, r2, q2, f2⟩ := pp1_s f1
    obtain ⟨b3, r3, q3, f3⟩ := pp1_s f2
    obtain ⟨qe, fe⟩ := pe_s f3
    obtain ⟨p, e1, e2⟩ := bnd_s fe
    subst qe
    subst q3
    subst q2
    subst q1
    subst q0
    exact ⟨_, _, _, _, 6, rfl, (by decide), m_X12_when N e1, e2⟩
  cases e
set_option maxRecDepth 100000 in
theorem m_X12_crossing (N : Nat) {a0 : Nat} {x1 : Int32} {x2 : Int32} {x3 : Int32} {x4 : Int32} {h : mH} {q : Int32 × mH} (hf : f_X12_crossing N a0 x1 x2 x3 x4 h = some q) : MM y_X12_crossing 7 [.ref a0, .int x1, .int x2, .int x3, .int x4] h (some (.int q.1)) q.2 := by
  refine MM.of (mFx (j := 264) rfl).2.2.2.1 (Nat.le_of_ble_eq_true rfl) (fun X => ?_)
  refine ev_ok (o := 12) (ini := false) (Cl := C_X12_crossing N) (Rc := RcI) (B := B_X12_crossing) (K := fun pc ls st g => none) rfl (fun e => by cases e) (by decide) (rcI_ok rfl) ?_ (co_X12_crossing N q) lb_X12_crossing 3000 0 S_X12_crossing_0 _ _ h ls_X12_crossing_0 hf
  intro pc ls st g e
  cases e
def J_X12_indexAt_44 (N : Nat) (a0 : Nat) (x3 : Int32) (s_0 : Int32) (h : mH) : Option (Int32 × mH) :=
  (gR h 12 a0 2).bind fun v1 =>
  (ldI 0 h v1 (jI 0)).bind fun v2 =>
  (gR h 12 a0 2).bind fun v3 =>
  (ldI 0 h v3 (jI 0)).bind fun v4 =>
  (f_X12_round N s_0 v4 h).bind fun p5 =>
  some (iAdd (iMul x3 v2) p5.1, p5.2)
def f_X12_indexAt (N : Nat) (a0 : Nat) (x1 : Int32) (x2 : Int32) (x3 : Int32) (x4 : Int32) (h : mH) : Option (Int32 × mH) :=
  (gR h 12 a0 2).bind fun v1 =>
  (ldI 0 h v1 (iAdd (jI 67) x1)).bind fun v2 =>
  if v2 = (jI 1) then
    (gR h 12 a0 2).bind fun v3 =>
    (ldI 0 h v3 (iAdd (jI 59) x1)).bind fun v4 =>
    J_X12_indexAt_44 N a0 x3 (iSub (iSub v4 x2) x4) h
  else
    (gR h 12 a0 2).bind fun v5 =>
    (ldI 0 h v5 (iAdd (jI 59) x1)).bind fun v6 =>
    J_X12_indexAt_44 N a0 x3 (iSub (iSub x4 v6) x2) h
def y_X12_indexAt : mM := (yX12_indexAt, cX12_indexAt, 6, (some .int))
def B_X12_indexAt : List (Nat × List mI) := [(30, [(.iload 4, 2, [4], []), (.aload_n 0, 1, [0], []), (.getfield 17, 3, [12, 2, 2, 128], []), (.bipush 59, 2, [], [59]), (.iload_n 1, 1, [1], []), (.iadd, 1, [], []), (.iaload, 1, [0], []), (.isub, 1, [], []), (.iload_n 2, 1, [2], []), (.isub, 1, [], [])])]
def S_X12_indexAt_0 : List mI := [(.aload_n 0, 1, [0], []), (.getfield 17, 3, [12, 2, 2, 128], []), (.bipush 67, 2, [], [67]), (.iload_n 1, 1, [1], []), (.iadd, 1, [], []), (.iaload, 1, [0], []), (.iconst 1, 1, [], [1]), (.if_icmp .ne 20, 3, [30], []), (.aload_n 0, 1, [0], []), (.getfield 17, 3, [12, 2, 2, 128], []), (.bipush 59, 2, [], [59]), (.iload_n 1, 1, [1], []), (.iadd, 1, [], []), (.iaload, 1, [0], []), (.iload_n 2, 1, [2], []), (.isub, 1, [], []), (.iload 4, 2, [4], []), (.isub, 1, [], []), (.goto 17, 3, [44], [])]
def S_X12_indexAt_44 : List mI := [(.istore 5, 2, [5], []), (.iload_n 3, 1, [3], []), (.aload_n 0, 1, [0], []), (.getfield 17, 3, [12, 2, 2, 128], []), (.iconst 0, 1, [], [0]), (.iaload, 1, [0], []), (.imul, 1, [], []), (.iload 5, 2, [5], []), (.aload_n 0, 1, [0], []), (.getfield 17, 3, [12, 2, 2, 128], []), (.iconst 0, 1, [], [0]), (.iaload, 1, [0], []), (.invokestatic 191, 3, [1, 253, 2, 0, 300], []), (.iadd, 1, [], []), (.ireturn, 1, [], [])]
theorem lb_X12_indexAt : B_X12_indexAt.all (fun b => lst y_X12_indexAt.2.1 12 y_X12_indexAt.2.2.1 false b.1 b.2) = true := by decide +kernel
theorem ls_X12_indexAt_0 : lst y_X12_indexAt.2.1 12 y_X12_indexAt.2.2.1 false 0 S_X12_indexAt_0 = true := by decide +kernel
theorem ls_X12_indexAt_44 : lst y_X12_indexAt.2.1 12 y_X12_indexAt.2.2.1 false 44 S_X12_indexAt_44 = true := by decide +kernel
def C_X12_indexAt (N : Nat) : Nat → List Value → mH → (Option Value → mH → Option (Int32 × mH)) → Option (Int32 × mH) := fun j as g k => kb j 253 (pp1 as fun b0 as => pp1 as fun b1 as => pe as ((f_X12_round N b0 b1 g).bind fun p => k (some (.int p.1)) p.2)) (none)
theorem co_X12_indexAt (N : Nat) (q : Int32 × mH) : clOK 5 q (C_X12_indexAt N) := by
  intro j as g k e
  rcases kb_s e with ⟨rfl, e⟩ | e
  · obtain ⟨b0, r0, q0, f0⟩ := pp1_s e
    obtain ⟨b1, r1, q1, f1⟩ := pp1_s f0
    obtain ⟨qe, fe⟩ := pe_s f1
    obtain ⟨p, e1, e2⟩ := bnd_s fe
    subst qe
    subst q1
    subst q0
    exact ⟨_, _, _, _, 4, rfl, (by decide), m_X12_round N e1, e2⟩
  cases e
set_option maxRecDepth 100000 in
theorem t_X12_indexAt_44 {X : Nat × (Nat → Int32)} (N : Nat) {q : Int32 × mH} (a0 : Nat) (x3 : Int32) (s_0 : Int32) (h : mH) (hf : J_X12_indexAt_44 N a0 x3 s_0 h = some q) : MW X y_X12_indexAt 5 44 [(0, .ref a0), (3, .int x3)] [.int s_0] h (some (.int q.1)) q.2 := by
  refine ev_ok (o := 12) (ini := false) (Cl := C_X12_indexAt N) (Rc := RcI) (B := B_X12_indexAt) (K := fun pc ls st g => none) rfl (fun e => by cases e) (by decide) (rcI_ok rfl) ?_ (co_X12_indexAt N q) lb_X12_indexAt 3000 44 S_X12_indexAt_44 _ _ h ls_X12_indexAt_44 hf
  intro pc ls st g e
  cases e
set_option maxRecDepth 100000 in
theorem m_X12_indexAt (N : Nat) {a0 : Nat} {x1 : Int32} {x2 : Int32} {x3 : Int32} {x4 : Int32} {h : mH} {q : Int32 × mH} (hf : f_X12_indexAt N a0 x1 x2 x3 x4 h = some q) : MM y_X12_indexAt 5 [.ref a0, .int x1, .int x2, .int x3, .int x4] h (some (.int q.1)) q.2 := by
  refine MM.of (mFx (j := 265) rfl).2.2.2.1 (Nat.le_of_ble_eq_true rfl) (fun X => ?_)
  refine ev_ok (o := 12) (ini := false) (Cl := C_X12_indexAt N) (Rc := RcI) (B := B_X12_indexAt) (K := fun pc ls st g => kb pc 44 (lgr 0 ls fun a0 => lgi 3 ls fun x3 => pp1 st fun s_0 st => pe st (J_X12_indexAt_44 N a0 x3 s_0 g)) (none)) rfl (fun e => by cases e) (by decide) (rcI_ok rfl) ?_ (co_X12_indexAt N q) lb_X12_indexAt 3000 0 S_X12_indexAt_0 _ _ h ls_X12_indexAt_0 hf
  intro pc ls st g e
  rcases kb_s e with ⟨rfl, e⟩ | e
  · obtain ⟨a0, e0, f0⟩ := lgr_s e
    obtain ⟨x3, e1, f1⟩ := lgi_s f0
    obtain ⟨s_0, r0, q0, g0⟩ := pp1_s f1
    obtain ⟨qe, fe⟩ := pe_s g0
    subst qe
    subst q0
    exact MW.sub (List.forall_mem_cons.mpr ⟨lg_mem e0, List.forall_mem_cons.mpr ⟨lg_mem e1, fun _ h => absurd h List.not_mem_nil⟩⟩) (t_X12_indexAt_44 N a0 x3 s_0 g fe)
  cases e
def f_X12_isStake (N : Nat) (a0 : Nat) (x1 : Int32) (h : mH) : Option (Int32 × mH) :=
  (gR h 12 a0 2).bind fun v1 =>
  (ldI 0 h v1 (jI 0)).bind fun v2 =>
  (f_X12_within N x1.toInt64 (jL 0) ((iSub v2 (jI 1)).toInt64) h).bind fun p3 =>
  if p3.1 &&& 1 = p3.1 then some (p3.1, p3.2) else none
def y_X12_isStake : mM := (yX12_isStake, cX12_isStake, 2, (some .boolean))
def B_X12_isStake : List (Nat × List mI) := []
def S_X12_isStake_0 : List mI := [(.iload_n 1, 1, [1], []), (.i2l, 1, [], []), (.lconst 0, 1, [], [0]), (.aload_n 0, 1, [0], []), (.getfield 17, 3, [12, 2, 2, 128], []), (.iconst 0, 1, [], [0]), (.iaload, 1, [0], []), (.iconst 1, 1, [], [1]), (.isub, 1, [], []), (.i2l, 1, [], []), (.invokestatic 147, 3, [1, 225, 3, 0, 269], []), (.ireturn, 1, [], [])]
theorem lb_X12_isStake : B_X12_isStake.all (fun b => lst y_X12_isStake.2.1 12 y_X12_isStake.2.2.1 false b.1 b.2) = true := by decide +kernel
theorem ls_X12_isStake_0 : lst y_X12_isStake.2.1 12 y_X12_isStake.2.2.1 false 0 S_X12_isStake_0 = true := by decide +kernel
def C_X12_isStake (N : Nat) : Nat → List Value → mH → (Option Value → mH → Option (Int32 × mH)) → Option (Int32 × mH) := fun j as g k => kb j 225 (pl1 as fun b0 as => pl1 as fun b1 as => pl1 as fun b2 as => pe as ((f_X12_within N b0 b1 b2 g).bind fun p => k (some (.int p.1)) p.2)) (none)
theorem co_X12_isStake (N : Nat) (q : Int32 × mH) : clOK 5 q (C_X12_isStake N) := by
  intro j as g k e
  rcases kb_s e with ⟨rfl, e⟩ | e
  · obtain ⟨b0, r0, q0, f0⟩ := pl1_s e
    obtain ⟨b1, r1, q1, f1⟩ := pl1_s f0
    obtain ⟨b2, r2, q2, f2⟩ := pl1_s f1
    obtain ⟨qe, fe⟩ := pe_s f2
    obtain ⟨p, e1, e2⟩ := bnd_s fe
    subst qe
    subst q2
    subst q1
    subst q0
    exact ⟨_, _, _, _, 4, rfl, (by decide), m_X12_within N e1, e2⟩
  cases e
set_option maxRecDepth 100000 in
theorem m_X12_isStake (N : Nat) {a0 : Nat} {x1 : Int32} {h : mH} {q : Int32 × mH} (hf : f_X12_isStake N a0 x1 h = some q) : MM y_X12_isStake 5 [.ref a0, .int x1] h (some (.int q.1)) q.2 := by
  refine MM.of (mFx (j := 266) rfl).2.2.2.1 (Nat.le_of_ble_eq_true rfl) (fun X => ?_)
  refine ev_ok (o := 12) (ini := false) (Cl := C_X12_isStake N) (Rc := RcZ) (B := B_X12_isStake) (K := fun pc ls st g => none) rfl (fun e => by cases e) (by decide) (rcZ_ok rfl) ?_ (co_X12_isStake N q) lb_X12_isStake 3000 0 S_X12_isStake_0 _ _ h ls_X12_isStake_0 hf
  intro pc ls st g e
  cases e
def f_X12_isOverIn (N : Nat) (a0 : Nat) (x1 : Int32) (x2 : Int32) (x3 : Int32) (h : mH) : Option (Int32 × mH) :=
  (gR h 12 a0 2).bind fun v1 =>
  (ldI 0 h v1 (iAdd (jI 27) x1)).bind fun v2 =>
  if v2 = 0 then none else
  let w3 := iRem x2 v2
  (gR h 12 a0 2).bind fun v4 =>
  (ldI 0 h v4 (iAdd (jI 27) x1)).bind fun v5 =>
  if v5 = 0 then none else
  (rcv h 12 a0).bind fun _ =>
  (f_X12_indexAt N a0 x1 w3 (iDiv x2 v5) x3 h).bind fun p6 =>
  (rcv p6.2 12 a0).bind fun _ =>
  (f_X12_isOver N a0 x1 w3 p6.1 p6.2).bind fun p7 =>
  if p7.1 &&& 1 = p7.1 then some (p7.1, p7.2) else none
def y_X12_isOverIn : mM := (yX12_isOverIn, cX12_isOverIn, 5, (some .boolean))
def B_X12_isOverIn : List (Nat × List mI) := []
def S_X12_isOverIn_0 : List mI := [(.iload_n 2, 1, [2], []), (.aload_n 0, 1, [0], []), (.getfield 17, 3, [12, 2, 2, 128], []), (.bipush 27, 2, [], [27]), (.iload_n 1, 1, [1], []), (.iadd, 1, [], []), (.iaload, 1, [0], []), (.irem, 1, [], []), (.istore 4, 2, [4], []), (.aload_n 0, 1, [0], []), (.iload_n 1, 1, [1], []), (.iload 4, 2, [4], []), (.aload_n 0, 1, [0], []), (.iload_n 1, 1, [1], []), (.iload 4, 2, [4], []), (.iload_n 2, 1, [2], []), (.aload_n 0, 1, [0], []), (.getfield 17, 3, [12, 2, 2, 128], []), (.bipush 27, 2, [], [27]), (.iload_n 1, 1, [1], []), (.iadd, 1, [], []), (.iaload, 1, [0], []), (.idiv, 1, [], []), (.iload_n 3, 1, [3], []), (.invokevirtual 231, 3, [0, 265, 4, 12, 308], []), (.invokevirtual 225, 3, [0, 256, 3, 12, 301], []), (.ireturn, 1, [], [])]
theorem lb_X12_isOverIn : B_X12_isOverIn.all (fun b => lst y_X12_isOverIn.2.1 12 y_X12_isOverIn.2.2.1 false b.1 b.2) = true := by decide +kernel
theorem ls_X12_isOverIn_0 : lst y_X12_isOverIn.2.1 12 y_X12_isOverIn.2.2.1 false 0 S_X12_isOverIn_0 = true := by decide +kernel
def C_X12_isOverIn (N : Nat) : Nat → List Value → mH → (Option Value → mH → Option (Int32 × mH)) → Option (Int32 × mH) := fun j as g k => kb j 265 (pr1 as fun b0 as => pp1 as fun b1 as => pp1 as fun b2 as => pp1 as fun b3 as => pp1 as fun b4 as => pe as ((f_X12_indexAt N b0 b1 b2 b3 b4 g).bind fun p => k (some (.int p.1)) p.2)) (kb j 256 (pr1 as fun b0 as => pp1 as fun b1 as => pp1 as fun b2 as => pp1 as fun b3 as => pe as ((f_X12_isOver N b0 b1 b2 b3 g).bind fun p => k (some (.int p.1)) p.2)) (none))
theorem co_X12_isOverIn (N : Nat) (q : Int32 × mH) : clOK 6 q (C_X12_isOverIn N) := by
  intro j as g k e
  rcases kb_s e with ⟨rfl, e⟩ | e
  · obtain ⟨b0, r0, q0, f0⟩ := pr1_s e
    obtain ⟨b1, r1, q1, f1⟩ := pp1_s f0
    obtain ⟨b2, r2, q2, f2⟩ := pp1_s f1
    obtain ⟨b3, r3, q3, f3⟩ := pp1_s f2
    obtain ⟨b4, r4, q4, f4⟩ := pp1_s f3
    obtain ⟨qe, fe⟩ := pe_s f4
    obtain ⟨p, e1, e2⟩ := bnd_s fe
    subst qe
    subst q4
    subst q3
    subst q2
    subst q1
    subst q0
    exact ⟨_, _, _, _, 5, rfl, (by decide), m_X12_indexAt N e1, e2⟩
  rcases kb_s e with ⟨rfl, e⟩ | e
  · obtain ⟨b0, r0, q0, f0⟩ := pr1_s e
    obtain ⟨b1, r1, q1, f1⟩ := pp1_s f0
    obtain ⟨b2, r2, q2, f2⟩ := pp1_s f1
    obtain ⟨b3, r3, q3, f3⟩ := pp1_s f2
    obtain ⟨qe, fe⟩ := pe_s f3
    obtain ⟨p, e1, e2⟩ := bnd_s fe
    subst qe
    subst q3
    subst q2
    subst q1
    subst q0
    exact ⟨_, _, _, _, 5, rfl, (by decide), m_X12_isOver N e1, e2⟩
  cases e
set_option maxRecDepth 100000 in
theorem m_X12_isOverIn (N : Nat) {a0 : Nat} {x1 : Int32} {x2 : Int32} {x3 : Int32} {h : mH} {q : Int32 × mH} (hf : f_X12_isOverIn N a0 x1 x2 x3 h = some q) : MM y_X12_isOverIn 6 [.ref a0, .int x1, .int x2, .int x3] h (some (.int q.1)) q.2 := by
  refine MM.of (mFx (j := 267) rfl).2.2.2.1 (Nat.le_of_ble_eq_true rfl) (fun X => ?_)
  refine ev_ok (o := 12) (ini := false) (Cl := C_X12_isOverIn N) (Rc := RcZ) (B := B_X12_isOverIn) (K := fun pc ls st g => none) rfl (fun e => by cases e) (by decide) (rcZ_ok rfl) ?_ (co_X12_isOverIn N q) lb_X12_isOverIn 3000 0 S_X12_isOverIn_0 _ _ h ls_X12_isOverIn_0 hf
  intro pc ls st g e
  cases e
def f_X12_seen (N : Nat) (a0 : Nat) (x1 : Int32) (x2 : Int32) (x3 : Int32) (x4 : Int32) (h : mH) : Option (Int32 × mH) :=
  (pV h 12 a0 0 (.int (jI 0))).bind fun h1 =>
  (rcv h1 12 a0).bind fun _ =>
  (f_X12_isBand N a0 x1 h1).bind fun p2 =>
  if p2.1 = 0 then
    (rcv p2.2 12 a0).bind fun _ =>
    (f_X12_no N a0 (jI (-2)) p2.2).bind fun p3 =>
    some (p3.1, p3.2)
  else
    (gR p2.2 12 a0 2).bind fun v4 =>
    (ldI 0 p2.2 v4 (iAdd (jI 27) x1)).bind fun v5 =>
    (gR p2.2 12 a0 2).bind fun v6 =>
    (ldI 0 p2.2 v6 (iAdd (jI 51) x1)).bind fun v7 =>
    (f_X12_within N x2.toInt64 (jL 0) ((iSub (iMul v5 v7) (jI 1)).toInt64) p2.2).bind fun p8 =>
    if p8.1 = 0 then
      (rcv p8.2 12 a0).bind fun _ =>
      (f_X12_no N a0 (jI (-2)) p8.2).bind fun p9 =>
      some (p9.1, p9.2)
    else
      (rcv p8.2 12 a0).bind fun _ =>
      (f_X12_isStake N a0 x3 p8.2).bind fun p10 =>
      if p10.1 = 0 then
        (rcv p10.2 12 a0).bind fun _ =>
        (f_X12_no N a0 (jI (-2)) p10.2).bind fun p11 =>
        some (p11.1, p11.2)
      else
        (rcv p10.2 12 a0).bind fun _ =>
        (f_X12_isOverIn N a0 x1 x2 x3 p10.2).bind fun p12 =>
        if p12.1 = x4 then
          some (jI (-1), p12.2)
        else
          (gR p12.2 12 a0 2).bind fun v13 =>
          (ldI 0 p12.2 v13 (iAdd (jI 27) x1)).bind fun v14 =>
          if v14 = 0 then none else
          (rcv p12.2 12 a0).bind fun _ =>
          (f_X12_kindOf N a0 x1 (iRem x2 v14) p12.2).bind fun p15 =>
          some (p15.1, p15.2)
def y_X12_seen : mM := (yX12_seen, cX12_seen, 5, (some .int))
def B_X12_seen : List (Nat × List mI) := [(52, [(.aload_n 0, 1, [0], []), (.bipush (-2), 2, [], [-2]), (.invokevirtual 84, 3, [0, 224, 1, 12, 267], []), (.ireturn, 1, [], [])]), (59, [(.aload_n 0, 1, [0], []), (.iload_n 1, 1, [1], []), (.iload_n 2, 1, [2], []), (.iload_n 3, 1, [3], []), (.invokevirtual 238, 3, [0, 267, 3, 12, 307], []), (.iload 4, 2, [4], []), (.if_icmp .eq 22, 3, [90], []), (.aload_n 0, 1, [0], []), (.iload_n 1, 1, [1], []), (.iload_n 2, 1, [2], []), (.aload_n 0, 1, [0], []), (.getfield 17, 3, [12, 2, 2, 128], []), (.bipush 27, 2, [], [27]), (.iload_n 1, 1, [1], []), (.iadd, 1, [], []), (.iaload, 1, [0], []), (.irem, 1, [], []), (.invokevirtual 207, 3, [0, 261, 2, 12, 296], []), (.goto 4, 3, [91], [])]), (90, [(.iconst (-1), 1, [], [-1])]), (91, [(.ireturn, 1, [], [])])]
def S_X12_seen_0 : List mI := [(.aload_n 0, 1, [0], []), (.iconst 0, 1, [], [0]), (.putfield 1, 3, [12, 0, 0, 126], []), (.aload_n 0, 1, [0], []), (.iload_n 1, 1, [1], []), (.invokevirtual 181, 3, [0, 247, 1, 12, 289], []), (.ifCond .eq 42, 3, [52], []), (.iload_n 2, 1, [2], []), (.i2l, 1, [], []), (.lconst 0, 1, [], [0]), (.aload_n 0, 1, [0], []), (.getfield 17, 3, [12, 2, 2, 128], []), (.bipush 27, 2, [], [27]), (.iload_n 1, 1, [1], []), (.iadd, 1, [], []), (.iaload, 1, [0], []), (.aload_n 0, 1, [0], []), (.getfield 17, 3, [12, 2, 2, 128], []), (.bipush 51, 2, [], [51]), (.iload_n 1, 1, [1], []), (.iadd, 1, [], []), (.iaload, 1, [0], []), (.imul, 1, [], []), (.iconst 1, 1, [], [1]), (.isub, 1, [], []), (.i2l, 1, [], []), (.invokestatic 147, 3, [1, 225, 3, 0, 269], []), (.ifCond .eq 11, 3, [52], []), (.aload_n 0, 1, [0], []), (.iload_n 3, 1, [3], []), (.invokevirtual 235, 3, [0, 266, 1, 12, 306], []), (.ifCond .ne 10, 3, [59], [])]
theorem lb_X12_seen : B_X12_seen.all (fun b => lst y_X12_seen.2.1 12 y_X12_seen.2.2.1 false b.1 b.2) = true := by decide +kernel
theorem ls_X12_seen_0 : lst y_X12_seen.2.1 12 y_X12_seen.2.2.1 false 0 S_X12_seen_0 = true := by decide +kernel
def C_X12_seen (N : Nat) : Nat → List Value → mH → (Option Value → mH → Option (Int32 × mH)) → Option (Int32 × mH) := fun j as g k => kb j 247 (pr1 as fun b0 as => pp1 as fun b1 as => pe as ((f_X12_isBand N b0 b1 g).bind fun p => k (some (.int p.1)) p.2)) (kb j 225 (pl1 as fun b0 as => pl1 as fun b1 as => pl1 as fun b2 as => pe as ((f_X12_within N b0 b1 b2 g).bind fun p => k (some (.int p.1)) p.2)) (kb j 266 (pr1 as fun b0 as => pp1 as fun b1 as => pe as ((f_X12_isStake N b0 b1 g).bind fun p => k (some (.int p.1)) p.2)) (kb j 224 (pr1 as fun b0 as => pp1 as fun b1 as => pe as ((f_X12_no N b0 b1 g).bind fun p => k (some (.int p.1)) p.2)) (kb j 267 (pr1 as fun b0 as => pp1 as fun b1 as => pp1 as fun b2 as => pp1 as fun b3 as => pe as ((f_X12_isOverIn N b0 b1 b2 b3 g).bind fun p => k (some (.int p.1)) p.2)) (kb j 261 (pr1 as fun b0 as => pp1 as fun b1 as => pp1 as fun b2 as => pe as ((f_X12_kindOf N b0 b1 b2 g).bind fun p => k (some (.int p.1)) p.2)) (none))))))
theorem co_X12_seen (N : Nat) (q : Int32 × mH) : clOK 7 q (C_X12_seen N) := by
  intro j as g k e
  rcases kb_s e with ⟨rfl, e⟩ | e
  · obtain ⟨b0, r0, q0, f0⟩ := pr1_s e
    obtain ⟨b1, r1, q1, f1⟩ := pp1_s f0
    obtain ⟨qe, fe⟩ := pe_s f1
    obtain ⟨p, e1, e2⟩ := bnd_s fe
    subst qe
    subst q1
    subst q0
    exact ⟨_, _, _, _, 5, rfl, (by decide), m_X12_isBand N e1, e2⟩
  rcases kb_s e with ⟨rfl, e⟩ | e
  · obtain ⟨b0, r0, q0, f0⟩ := pl1_s e
    obtain ⟨b1, r1, q1, f1⟩ := pl1_s f0
    obtain ⟨b2, r2, q2, f2⟩ := pl1_s f1
    obtain ⟨qe, fe⟩ := pe_s f2
    obtain ⟨p, e1, e2⟩ := bnd_s fe
    subst qe
    subst q2
    subst q1
    subst q0
    exact ⟨_, _, _, _, 4, rfl, (by decide), m_X12_within N e1, e2⟩
  rcases kb_s e with ⟨rfl, e⟩ | e
  · obtain ⟨b0, r0, q0, f0⟩ := pr1_s e
    obtain ⟨b1, r1, q1, f1⟩ := pp1_s f0
    obtain ⟨qe, fe⟩ := pe_s f1
    obtain ⟨p, e1, e2⟩ := bnd_s fe
    subst qe
    subst q1
    subst q0
    exact ⟨_, _, _, _, 5, rfl, (by decide), m_X12_isStake N e1, e2⟩
  rcases kb_s e with ⟨rfl, e⟩ | e
  · obtain ⟨b0, r0, q0, f0⟩ := pr1_s e
    obtain ⟨b1, r1, q1, f1⟩ := pp1_s f0
    obtain ⟨qe, fe⟩ := pe_s f1
    obtain ⟨p, e1, e2⟩ := bnd_s fe
    subst qe
    subst q1
    subst q0
    exact ⟨_, _, _, _, 4, rfl, (by decide), m_X12_no N e1, e2⟩
  rcases kb_s e with ⟨rfl, e⟩ | e
  · obtain ⟨b0, r0, q0, f0⟩ := pr1_s e
    obtain ⟨b1, r1, q1, f1⟩ := pp1_s f0
    obtain ⟨b2, r2, q2, f2⟩ := pp1_s f1
    obtain ⟨b3, r3, q3, f3⟩ := pp1_s f2
    obtain ⟨qe, fe⟩ := pe_s f3
    obtain ⟨p, e1, e2⟩ := bnd_s fe
    subst qe
    subst q3
    subst q2
    subst q1
    subst q0
    exact ⟨_, _, _, _, 6, rfl, (by decide), m_X12_isOverIn N e1, e2⟩
  rcases kb_s e with ⟨rfl, e⟩ | e
  · obtain ⟨b0, r0, q0, f0⟩ := pr1_s e
    obtain ⟨b1, r1, q1, f1⟩ := pp1_s f0
    obtain ⟨b2, r2, q2, f2⟩ := pp1_s f1
    obtain ⟨qe, fe⟩ := pe_s f2
    obtain ⟨p, e1, e2⟩ := bnd_s fe
    subst qe
    subst q2
    subst q1
    subst q0
    exact ⟨_, _, _, _, 4, rfl, (by decide), m_X12_kindOf N e1, e2⟩
  cases e
set_option maxRecDepth 100000 in
theorem m_X12_seen (N : Nat) {a0 : Nat} {x1 : Int32} {x2 : Int32} {x3 : Int32} {x4 : Int32} {h : mH} {q : Int32 × mH} (hf : f_X12_seen N a0 x1 x2 x3 x4 h = some q) : MM y_X12_seen 7 [.ref a0, .int x1, .int x2, .int x3, .int x4] h (some (.int q.1)) q.2 := by
  refine MM.of (mFx (j := 268) rfl).2.2.2.1 (Nat.le_of_ble_eq_true rfl) (fun X => ?_)
  refine ev_ok (o := 12) (ini := false) (Cl := C_X12_seen N) (Rc := RcI) (B := B_X12_seen) (K := fun pc ls st g => none) rfl (fun e => by cases e) (by decide) (rcI_ok rfl) ?_ (co_X12_seen N q) lb_X12_seen 3000 0 S_X12_seen_0 _ _ h ls_X12_seen_0 hf
  intro pc ls st g e
  cases e
def L_X12_overs_33 (N : Nat) : Nat → Nat → Int32 → Int32 → Int32 → Int32 → mH → Option (Int32 × mH)
  | 0, _, _, _, _, _, _ => none
  | n + 1, a0, x1, x2, x3, x4, h =>
    (gR h 12 a0 2).bind fun v1 =>
    (ldI 0 h v1 (iAdd (jI 27) x1)).bind fun v2 =>
    (gR h 12 a0 2).bind fun v3 =>
    (ldI 0 h v3 (iAdd (jI 51) x1)).bind fun v4 =>
    if x4 < (iMul v2 v4) then
      (rcv h 12 a0).bind fun _ =>
      (f_X12_isOverIn N a0 x1 x4 x2 h).bind fun p5 =>
      if p5.1 = 0 then
        let w6 := iAdd x3 (jI 0)
        let w7 := iAdd x4 (jI 1)
        L_X12_overs_33 N n a0 x1 x2 w6 w7 p5.2
      else
        let w8 := iAdd x3 (jI 1)
        let w9 := iAdd x4 (jI 1)
        L_X12_overs_33 N n a0 x1 x2 w8 w9 p5.2
    else
      some (x3, h)
def f_X12_overs (N : Nat) (a0 : Nat) (x1 : Int32) (x2 : Int32) (h : mH) : Option (Int32 × mH) :=
  (pV h 12 a0 0 (.int (jI 0))).bind fun h1 =>
  (rcv h1 12 a0).bind fun _ =>
  (f_X12_isBand N a0 x1 h1).bind fun p2 =>
  if p2.1 = 0 then
    (rcv p2.2 12 a0).bind fun _ =>
    (f_X12_no N a0 (jI (-2)) p2.2).bind fun p3 =>
    some (p3.1, p3.2)
  else
    (rcv p2.2 12 a0).bind fun _ =>
    (f_X12_isStake N a0 x2 p2.2).bind fun p4 =>
    if p4.1 = 0 then
      (rcv p4.2 12 a0).bind fun _ =>
      (f_X12_no N a0 (jI (-2)) p4.2).bind fun p5 =>
      some (p5.1, p5.2)
    else
      L_X12_overs_33 N N a0 x1 x2 (jI 0) (jI 0) p4.2
def y_X12_overs : mM := (yX12_overs, cX12_overs, 5, (some .int))
def B_X12_overs : List (Nat × List mI) := [(21, [(.aload_n 0, 1, [0], []), (.bipush (-2), 2, [], [-2]), (.invokevirtual 84, 3, [0, 224, 1, 12, 267], []), (.ireturn, 1, [], [])]), (28, [(.iconst 0, 1, [], [0]), (.istore_n 3, 1, [3], []), (.iconst 0, 1, [], [0]), (.istore 4, 2, [4], [])]), (73, [(.iconst 0, 1, [], [0])]), (74, [(.iadd, 1, [], []), (.istore_n 3, 1, [3], []), (.iinc 4 1, 3, [4], [1]), (.goto (-46), 3, [33], [])]), (82, [(.iload_n 3, 1, [3], []), (.ireturn, 1, [], [])])]
def S_X12_overs_0 : List mI := [(.aload_n 0, 1, [0], []), (.iconst 0, 1, [], [0]), (.putfield 1, 3, [12, 0, 0, 126], []), (.aload_n 0, 1, [0], []), (.iload_n 1, 1, [1], []), (.invokevirtual 181, 3, [0, 247, 1, 12, 289], []), (.ifCond .eq 11, 3, [21], []), (.aload_n 0, 1, [0], []), (.iload_n 2, 1, [2], []), (.invokevirtual 235, 3, [0, 266, 1, 12, 306], []), (.ifCond .ne 10, 3, [28], [])]
def S_X12_overs_33 : List mI := [(.iload 4, 2, [4], []), (.aload_n 0, 1, [0], []), (.getfield 17, 3, [12, 2, 2, 128], []), (.bipush 27, 2, [], [27]), (.iload_n 1, 1, [1], []), (.iadd, 1, [], []), (.iaload, 1, [0], []), (.aload_n 0, 1, [0], []), (.getfield 17, 3, [12, 2, 2, 128], []), (.bipush 51, 2, [], [51]), (.iload_n 1, 1, [1], []), (.iadd, 1, [], []), (.iaload, 1, [0], []), (.imul, 1, [], []), (.if_icmp .ge 28, 3, [82], []), (.iload_n 3, 1, [3], []), (.aload_n 0, 1, [0], []), (.iload_n 1, 1, [1], []), (.iload 4, 2, [4], []), (.iload_n 2, 1, [2], []), (.invokevirtual 238, 3, [0, 267, 3, 12, 307], []), (.ifCond .eq 7, 3, [73], []), (.iconst 1, 1, [], [1]), (.goto 4, 3, [74], [])]
theorem lb_X12_overs : B_X12_overs.all (fun b => lst y_X12_overs.2.1 12 y_X12_overs.2.2.1 false b.1 b.2) = true := by decide +kernel
theorem ls_X12_overs_0 : lst y_X12_overs.2.1 12 y_X12_overs.2.2.1 false 0 S_X12_overs_0 = true := by decide +kernel
theorem ls_X12_overs_33 : lst y_X12_overs.2.1 12 y_X12_overs.2.2.1 false 33 S_X12_overs_33 = true := by decide +kernel
def C_X12_overs (N : Nat) : Nat → List Value → mH → (Option Value → mH → Option (Int32 × mH)) → Option (Int32 × mH) := fun j as g k => kb j 247 (pr1 as fun b0 as => pp1 as fun b1 as => pe as ((f_X12_isBand N b0 b1 g).bind fun p => k (some (.int p.1)) p.2)) (kb j 266 (pr1 as fun b0 as => pp1 as fun b1 as => pe as ((f_X12_isStake N b0 b1 g).bind fun p => k (some (.int p.1)) p.2)) (kb j 224 (pr1 as fun b0 as => pp1 as fun b1 as => pe as ((f_X12_no N b0 b1 g).bind fun p => k (some (.int p.1)) p.2)) (kb j 267 (pr1 as fun b0 as => pp1 as fun b1 as => pp1 as fun b2 as => pp1 as fun b3 as => pe as ((f_X12_isOverIn N b0 b1 b2 b3 g).bind fun p => k (some (.int p.1)) p.2)) (none))))
theorem co_X12_overs (N : Nat) (q : Int32 × mH) : clOK 7 q (C_X12_overs N) := by
  intro j as g k e
  rcases kb_s e with ⟨rfl, e⟩ | e
  · obtain ⟨b0, r0, q0, f0⟩ := pr1_s e
    obtain ⟨b1, r1, q1, f1⟩ := pp1_s f0
    obtain ⟨qe, fe⟩ := pe_s f1
    obtain ⟨p, e1, e2⟩ := bnd_s fe
    subst qe
    subst q1
    subst q0
    exact ⟨_, _, _, _, 5, rfl, (by decide), m_X12_isBand N e1, e2⟩
  rcases kb_s e with ⟨rfl, e⟩ | e
  · obtain ⟨b0, r0, q0, f0⟩ := pr1_s e
    obtain ⟨b1, r1, q1, f1⟩ := pp1_s f0
    obtain ⟨qe, fe⟩ := pe_s f1
    obtain ⟨p, e1, e2⟩ := bnd_s fe
    subst qe
    subst q1
    subst q0
    exact ⟨_, _, _, _, 5, rfl, (by decide), m_X12_isStake N e1, e2⟩
  rcases kb_s e with ⟨rfl, e⟩ | e
  · obtain ⟨b0, r0, q0, f0⟩ := pr1_s e
    obtain ⟨b1, r1, q1, f1⟩ := pp1_s f0
    obtain ⟨qe, fe⟩ := pe_s f1
    obtain ⟨p, e1, e2⟩ := bnd_s fe
    subst qe
    subst q1
    subst q0
    exact ⟨_, _, _, _, 4, rfl, (by decide), m_X12_no N e1, e2⟩
  rcases kb_s e with ⟨rfl, e⟩ | e
  · obtain ⟨b0, r0, q0, f0⟩ := pr1_s e
    obtain ⟨b1, r1, q1, f1⟩ := pp1_s f0
    obtain ⟨b2, r2, q2, f2⟩ := pp1_s f1
    obtain ⟨b3, r3, q3, f3⟩ := pp1_s f2
    obtain ⟨qe, fe⟩ := pe_s f3
    obtain ⟨p, e1, e2⟩ := bnd_s fe
    subst qe
    subst q3
    subst q2
    subst q1
    subst q0
    exact ⟨_, _, _, _, 6, rfl, (by decide), m_X12_isOverIn N e1, e2⟩
  cases e
set_option maxRecDepth 100000 in
theorem t_X12_overs_33 {X : Nat × (Nat → Int32)} (N : Nat) {q : Int32 × mH} : ∀ (n : Nat) (a0 : Nat) (x1 : Int32) (x2 : Int32) (x3 : Int32) (x4 : Int32) (h : mH), L_X12_overs_33 N n a0 x1 x2 x3 x4 h = some q → MW X y_X12_overs 7 33 [(0, .ref a0), (1, .int x1), (2, .int x2), (3, .int x3), (4, .int x4)] [] h (some (.int q.1)) q.2 := by
  intro n
  induction n with
  | zero => intro a0 x1 x2 x3 x4 h hf; cases hf
  | succ n ih =>
    intro a0 x1 x2 x3 x4 h hf
    refine ev_ok (o := 12) (ini := false) (Cl := C_X12_overs N) (Rc := RcI) (B := B_X12_overs) (K := fun pc ls st g => kb pc 33 (lgr 0 ls fun a0 => lgi 1 ls fun x1 => lgi 2 ls fun x2 => lgi 3 ls fun x3 => lgi 4 ls fun x4 => pe st (L_X12_overs_33 N n a0 x1 x2 x3 x4 g)) (none)) rfl (fun e => by cases e) (by decide) (rcI_ok rfl) ?_ (co_X12_overs N q) lb_X12_overs 3000 33 S_X12_overs_33 _ _ h ls_X12_overs_33 hf
    intro pc ls st g e
    rcases kb_s e with ⟨rfl, e⟩ | e
    · obtain ⟨a0, e0, f0⟩ := lgr_s e
      obtain ⟨x1, e1, f1⟩ := lgi_s f0
      obtain ⟨x2, e2, f2⟩ := lgi_s f1
      obtain ⟨x3, e3, f3⟩ := lgi_s f2
      obtain ⟨x4, e4, f4⟩ := lgi_s f3
      obtain ⟨qe, fe⟩ := pe_s f4
      subst qe
      exact MW.sub (List.forall_mem_cons.mpr ⟨lg_mem e0, List.forall_mem_cons.mpr ⟨lg_mem e1, List.forall_mem_cons.mpr ⟨lg_mem e2, List.forall_mem_cons.mpr ⟨lg_mem e3, List.forall_mem_cons.mpr ⟨lg_mem e4, fun _ h => absurd h List.not_mem_nil⟩⟩⟩⟩⟩) (ih a0 x1 x2 x3 x4 g fe)
    cases e
set_option maxRecDepth 100000 in
theorem m_X12_overs (N : Nat) {a0 : Nat} {x1 : Int32} {x2 : Int32} {h : mH} {q : Int32 × mH} (hf : f_X12_overs N a0 x1 x2 h = some q) : MM y_X12_overs 7 [.ref a0, .int x1, .int x2] h (some (.int q.1)) q.2 := by
  refine MM.of (mFx (j := 269) rfl).2.2.2.1 (Nat.le_of_ble_eq_true rfl) (fun X => ?_)
  refine ev_ok (o := 12) (ini := false) (Cl := C_X12_overs N) (Rc := RcI) (B := B_X12_overs) (K := fun pc ls st g => kb pc 33 (lgr 0 ls fun a0 => lgi 1 ls fun x1 => lgi 2 ls fun x2 => lgi 3 ls fun x3 => lgi 4 ls fun x4 => pe st (L_X12_overs_33 N N a0 x1 x2 x3 x4 g)) (none)) rfl (fun e => by cases e) (by decide) (rcI_ok rfl) ?_ (co_X12_overs N q) lb_X12_overs 3000 0 S_X12_overs_0 _ _ h ls_X12_overs_0 hf
  intro pc ls st g e
  rcases kb_s e with ⟨rfl, e⟩ | e
  · obtain ⟨a0, e0, f0⟩ := lgr_s e
    obtain ⟨x1, e1, f1⟩ := lgi_s f0
    obtain ⟨x2, e2, f2⟩ := lgi_s f1
    obtain ⟨x3, e3, f3⟩ := lgi_s f2
    obtain ⟨x4, e4, f4⟩ := lgi_s f3
    obtain ⟨qe, fe⟩ := pe_s f4
    subst qe
    exact MW.sub (List.forall_mem_cons.mpr ⟨lg_mem e0, List.forall_mem_cons.mpr ⟨lg_mem e1, List.forall_mem_cons.mpr ⟨lg_mem e2, List.forall_mem_cons.mpr ⟨lg_mem e3, List.forall_mem_cons.mpr ⟨lg_mem e4, fun _ h => absurd h List.not_mem_nil⟩⟩⟩⟩⟩) (t_X12_overs_33 N N a0 x1 x2 x3 x4 g fe)
  cases e
def J_X12_run_93 (N : Nat) (k39 : Nat → Int32 → Int32 → Int32 → Int32 → Int32 → Int32 → mH → Option (Int32 × mH)) (a0 : Nat) (x1 : Int32) (x2 : Int32) (x3 : Int32) (x6 : Int32) (x7 : Int32) (s_0 : Int32) (h : mH) : Option (Int32 × mH) :=
  if x3 < s_0 then
    let w1 := iAdd x6 (jI 1)
    k39 a0 x1 x2 s_0 s_0 x7 w1 h
  else
    let w2 := iAdd x6 (jI 1)
    k39 a0 x1 x2 x3 s_0 x7 w2 h
def L_X12_run_39 (N : Nat) : Nat → Nat → Int32 → Int32 → Int32 → Int32 → Int32 → Int32 → mH → Option (Int32 × mH)
  | 0, _, _, _, _, _, _, _, _ => none
  | n + 1, a0, x1, x2, x3, x4, x5, x6, h =>
    (gR h 12 a0 2).bind fun v1 =>
    (ldI 0 h v1 (iAdd (jI 27) x1)).bind fun v2 =>
    (gR h 12 a0 2).bind fun v3 =>
    (ldI 0 h v3 (iAdd (jI 51) x1)).bind fun v4 =>
    if x6 < (iMul v2 v4) then
      (rcv h 12 a0).bind fun _ =>
      (f_X12_isOverIn N a0 x1 x6 x2 h).bind fun p5 =>
      if 0 < x6 then
        if p5.1 = x5 then
          J_X12_run_93 N (L_X12_run_39 N n) a0 x1 x2 x3 x6 p5.1 (iAdd x4 (jI 1)) p5.2
        else
          J_X12_run_93 N (L_X12_run_39 N n) a0 x1 x2 x3 x6 p5.1 (jI 1) p5.2
      else
        J_X12_run_93 N (L_X12_run_39 N n) a0 x1 x2 x3 x6 p5.1 (jI 1) p5.2
    else
      some (x3, h)
def f_X12_run (N : Nat) (a0 : Nat) (x1 : Int32) (x2 : Int32) (h : mH) : Option (Int32 × mH) :=
  (pV h 12 a0 0 (.int (jI 0))).bind fun h1 =>
  (rcv h1 12 a0).bind fun _ =>
  (f_X12_isBand N a0 x1 h1).bind fun p2 =>
  if p2.1 = 0 then
    (rcv p2.2 12 a0).bind fun _ =>
    (f_X12_no N a0 (jI (-2)) p2.2).bind fun p3 =>
    some (p3.1, p3.2)
  else
    (rcv p2.2 12 a0).bind fun _ =>
    (f_X12_isStake N a0 x2 p2.2).bind fun p4 =>
    if p4.1 = 0 then
      (rcv p4.2 12 a0).bind fun _ =>
      (f_X12_no N a0 (jI (-2)) p4.2).bind fun p5 =>
      some (p5.1, p5.2)
    else
      L_X12_run_39 N N a0 x1 x2 (jI 0) (jI 0) (jI 0) (jI 0) p4.2
def y_X12_run : mM := (yX12_run, cX12_run, 8, (some .int))
def B_X12_run : List (Nat × List mI) := [(21, [(.aload_n 0, 1, [0], []), (.bipush (-2), 2, [], [-2]), (.invokevirtual 84, 3, [0, 224, 1, 12, 267], []), (.ireturn, 1, [], [])]), (28, [(.iconst 0, 1, [], [0]), (.istore_n 3, 1, [3], []), (.iconst 0, 1, [], [0]), (.istore 4, 2, [4], []), (.iconst 0, 1, [], [0]), (.istore 5, 2, [5], []), (.iconst 0, 1, [], [0]), (.istore 6, 2, [6], [])]), (92, [(.iconst 1, 1, [], [1])]), (110, [(.iload_n 3, 1, [3], [])]), (111, [(.istore_n 3, 1, [3], []), (.iinc 6 1, 3, [6], [1]), (.goto (-76), 3, [39], [])]), (118, [(.iload_n 3, 1, [3], []), (.ireturn, 1, [], [])])]
def S_X12_run_0 : List mI := [(.aload_n 0, 1, [0], []), (.iconst 0, 1, [], [0]), (.putfield 1, 3, [12, 0, 0, 126], []), (.aload_n 0, 1, [0], []), (.iload_n 1, 1, [1], []), (.invokevirtual 181, 3, [0, 247, 1, 12, 289], []), (.ifCond .eq 11, 3, [21], []), (.aload_n 0, 1, [0], []), (.iload_n 2, 1, [2], []), (.invokevirtual 235, 3, [0, 266, 1, 12, 306], []), (.ifCond .ne 10, 3, [28], [])]
def S_X12_run_39 : List mI := [(.iload 6, 2, [6], []), (.aload_n 0, 1, [0], []), (.getfield 17, 3, [12, 2, 2, 128], []), (.bipush 27, 2, [], [27]), (.iload_n 1, 1, [1], []), (.iadd, 1, [], []), (.iaload, 1, [0], []), (.aload_n 0, 1, [0], []), (.getfield 17, 3, [12, 2, 2, 128], []), (.bipush 51, 2, [], [51]), (.iload_n 1, 1, [1], []), (.iadd, 1, [], []), (.iaload, 1, [0], []), (.imul, 1, [], []), (.if_icmp .ge 58, 3, [118], []), (.aload_n 0, 1, [0], []), (.iload_n 1, 1, [1], []), (.iload 6, 2, [6], []), (.iload_n 2, 1, [2], []), (.invokevirtual 238, 3, [0, 267, 3, 12, 307], []), (.istore 7, 2, [7], []), (.iload 6, 2, [6], []), (.ifCond .le 17, 3, [92], []), (.iload 7, 2, [7], []), (.iload 5, 2, [5], []), (.if_icmp .ne 10, 3, [92], []), (.iload 4, 2, [4], []), (.iconst 1, 1, [], [1]), (.iadd, 1, [], []), (.goto 4, 3, [93], [])]
def S_X12_run_93 : List mI := [(.istore 4, 2, [4], []), (.iload 7, 2, [7], []), (.istore 5, 2, [5], []), (.iload 4, 2, [4], []), (.iload_n 3, 1, [3], []), (.if_icmp .le 8, 3, [110], []), (.iload 4, 2, [4], []), (.goto 4, 3, [111], [])]
theorem lb_X12_run : B_X12_run.all (fun b => lst y_X12_run.2.1 12 y_X12_run.2.2.1 false b.1 b.2) = true := by decide +kernel
theorem ls_X12_run_0 : lst y_X12_run.2.1 12 y_X12_run.2.2.1 false 0 S_X12_run_0 = true := by decide +kernel
theorem ls_X12_run_39 : lst y_X12_run.2.1 12 y_X12_run.2.2.1 false 39 S_X12_run_39 = true := by decide +kernel
theorem ls_X12_run_93 : lst y_X12_run.2.1 12 y_X12_run.2.2.1 false 93 S_X12_run_93 = true := by decide +kernel
def C_X12_run (N : Nat) : Nat → List Value → mH → (Option Value → mH → Option (Int32 × mH)) → Option (Int32 × mH) := fun j as g k => kb j 247 (pr1 as fun b0 as => pp1 as fun b1 as => pe as ((f_X12_isBand N b0 b1 g).bind fun p => k (some (.int p.1)) p.2)) (kb j 266 (pr1 as fun b0 as => pp1 as fun b1 as => pe as ((f_X12_isStake N b0 b1 g).bind fun p => k (some (.int p.1)) p.2)) (kb j 224 (pr1 as fun b0 as => pp1 as fun b1 as => pe as ((f_X12_no N b0 b1 g).bind fun p => k (some (.int p.1)) p.2)) (kb j 267 (pr1 as fun b0 as => pp1 as fun b1 as => pp1 as fun b2 as => pp1 as fun b3 as => pe as ((f_X12_isOverIn N b0 b1 b2 b3 g).bind fun p => k (some (.int p.1)) p.2)) (none))))
theorem co_X12_run (N : Nat) (q : Int32 × mH) : clOK 7 q (C_X12_run N) := by
  intro j as g k e
  rcases kb_s e with ⟨rfl, e⟩ | e
  · obtain ⟨b0, r0, q0, f0⟩ := pr1_s e
    obtain ⟨b1, r1, q1, f1⟩ := pp1_s f0
    obtain ⟨qe, fe⟩ := pe_s f1
    obtain ⟨p, e1, e2⟩ := bnd_s fe
    subst qe
    subst q1
    subst q0
    exact ⟨_, _, _, _, 5, rfl, (by decide), m_X12_isBand N e1, e2⟩
  rcases kb_s e with ⟨rfl, e⟩ | e
  · obtain ⟨b0, r0, q0, f0⟩ := pr1_s e
    obtain ⟨b1, r1, q1, f1⟩ := pp1_s f0
    obtain ⟨qe, fe⟩ := pe_s f1
    obtain ⟨p, e1, e2⟩ := bnd_s fe
    subst qe
    subst q1
    subst q0
    exact ⟨_, _, _, _, 5, rfl, (by decide), m_X12_isStake N e1, e2⟩
  rcases kb_s e with ⟨rfl, e⟩ | e
  · obtain ⟨b0, r0, q0, f0⟩ := pr1_s e
    obtain ⟨b1, r1, q1, f1⟩ := pp1_s f0
    obtain ⟨qe, fe⟩ := pe_s f1
    obtain ⟨p, e1, e2⟩ := bnd_s fe
    subst qe
    subst q1
    subst q0
    exact ⟨_, _, _, _, 4, rfl, (by decide), m_X12_no N e1, e2⟩
  rcases kb_s e with ⟨rfl, e⟩ | e
  · obtain ⟨b0, r0, q0, f0⟩ := pr1_s e
    obtain ⟨b1, r1, q1, f1⟩ := pp1_s f0
    obtain ⟨b2, r2, q2, f2⟩ := pp1_s f1
    obtain ⟨b3, r3, q3, f3⟩ := pp1_s f2
    obtain ⟨qe, fe⟩ := pe_s f3
    obtain ⟨p, e1, e2⟩ := bnd_s fe
    subst qe
    subst q3
    subst q2
    subst q1
    subst q0
    exact ⟨_, _, _, _, 6, rfl, (by decide), m_X12_isOverIn N e1, e2⟩
  cases e
set_option maxRecDepth 100000 in
theorem t_X12_run_93 {X : Nat × (Nat → Int32)} (N : Nat) {q : Int32 × mH} {k39 : Nat → Int32 → Int32 → Int32 → Int32 → Int32 → Int32 → mH → Option (Int32 × mH)} (hk39 : ∀ (a0 : Nat) (x1 : Int32) (x2 : Int32) (x3 : Int32) (x4 : Int32) (x5 : Int32) (x6 : Int32) g, k39 a0 x1 x2 x3 x4 x5 x6 g = some q → MW X y_X12_run 7 39 [(0, .ref a0), (1, .int x1), (2, .int x2), (3, .int x3), (4, .int x4), (5, .int x5), (6, .int x6)] [] g (some (.int q.1)) q.2) (a0 : Nat) (x1 : Int32) (x2 : Int32) (x3 : Int32) (x6 : Int32) (x7 : Int32) (s_0 : Int32) (h : mH) (hf : J_X12_run_93 N k39 a0 x1 x2 x3 x6 x7 s_0 h = some q) : MW X y_X12_run 7 93 [(0, .ref a0), (1, .int x1), (2, .int x2), (3, .int x3), (6, .int x6), (7, .int x7)] [.int s_0] h (some (.int q.1)) q.2 := by
  refine ev_ok (o := 12) (ini := false) (Cl := C_X12_run N) (Rc := RcI) (B := B_X12_run) (K := fun pc ls st g => kb pc 39 (lgr 0 ls fun a0 => lgi 1 ls fun x1 => lgi 2 ls fun x2 => lgi 3 ls fun x3 => lgi 4 ls fun x4 => lgi 5 ls fun x5 => lgi 6 ls fun x6 => pe st (k39 a0 x1 x2 x3 x4 x5 x6 g)) (none)) rfl (fun e => by cases e) (by decide) (rcI_ok rfl) ?_ (co_X12_run N q) lb_X12_run 3000 93 S_X12_run_93 _ _ h ls_X12_run_93 hf
  intro pc ls st g e
  rcases kb_s e with ⟨rfl, e⟩ | e
  · obtain ⟨a0, e0, f0⟩ := lgr_s e
    obtain ⟨x1, e1, f1⟩ := lgi_s f0
    obtain ⟨x2, e2, f2⟩ := lgi_s f1
    obtain ⟨x3, e3, f3⟩ := lgi_s f2
    obtain ⟨x4, e4, f4⟩ := lgi_s f3
    obtain ⟨x5, e5, f5⟩ := lgi_s f4
    obtain ⟨x6, e6, f6⟩ := lgi_s f5
    obtain ⟨qe, fe⟩ := pe_s f6
    subst qe
    exact MW.sub (List.forall_mem_cons.mpr ⟨lg_mem e0, List.forall_mem_cons.mpr ⟨lg_mem e1, List.forall_mem_cons.mpr ⟨lg_mem e2, List.forall_mem_cons.mpr ⟨lg_mem e3, List.forall_mem_cons.mpr ⟨lg_mem e4, List.forall_mem_cons.mpr ⟨lg_mem e5, List.forall_mem_cons.mpr ⟨lg_mem e6, fun _ h => absurd h List.not_mem_nil⟩⟩⟩⟩⟩⟩⟩) (hk39 a0 x1 x2 x3 x4 x5 x6 g fe)
  cases e
set_option maxRecDepth 100000 in
theorem t_X12_run_39 {X : Nat × (Nat → Int32)} (N : Nat) {q : Int32 × mH} : ∀ (n : Nat) (a0 : Nat) (x1 : Int32) (x2 : Int32) (x3 : Int32) (x4 : Int32) (x5 : Int32) (x6 : Int32) (h : mH), L_X12_run_39 N n a0 x1 x2 x3 x4 x5 x6 h = some q → MW X y_X12_run 7 39 [(0, .ref a0), (1, .int x1), (2, .int x2), (3, .int x3), (4, .int x4), (5, .int x5), (6, .int x6)] [] h (some (.int q.1)) q.2 := by
  intro n
  induction n with
  | zero => intro a0 x1 x2 x3 x4 x5 x6 h hf; cases hf
  | succ n ih =>
    intro a0 x1 x2 x3 x4 x5 x6 h hf
    refine ev_ok (o := 12) (ini := false) (Cl := C_X12_run N) (Rc := RcI) (B := B_X12_run) (K := fun pc ls st g => kb pc 93 (lgr 0 ls fun a0 => lgi 1 ls fun x1 => lgi 2 ls fun x2 => lgi 3 ls fun x3 => lgi 6 ls fun x6 => lgi 7 ls fun x7 => pp1 st fun s_0 st => pe st (J_X12_run_93 N (L_X12_run_39 N n) a0 x1 x2 x3 x6 x7 s_0 g)) (none)) rfl (fun e => by cases e) (by decide) (rcI_ok rfl) ?_ (co_X12_run N q) lb_X12_run 3000 39 S_X12_run_39 _ _ h ls_X12_run_39 hf
    intro pc ls st g e
    rcases kb_s e with ⟨rfl, e⟩ | e
    · obtain ⟨a0, e0, f0⟩ := lgr_s e
      obtain ⟨x1, e1, f1⟩ := lgi_s f0
      obtain ⟨x2, e2, f2⟩ := lgi_s f1
      obtain ⟨x3, e3, f3⟩ := lgi_s f2
      obtain ⟨x6, e4, f4⟩ := lgi_s f3
      obtain ⟨x7, e5, f5⟩ := lgi_s f4
      obtain ⟨s_0, r0, q0, g0⟩ := pp1_s f5
      obtain ⟨qe, fe⟩ := pe_s g0
      subst qe
      subst q0
      exact MW.sub (List.forall_mem_cons.mpr ⟨lg_mem e0, List.forall_mem_cons.mpr ⟨lg_mem e1, List.forall_mem_cons.mpr ⟨lg_mem e2, List.forall_mem_cons.mpr ⟨lg_mem e3, List.forall_mem_cons.mpr ⟨lg_mem e4, List.forall_mem_cons.mpr ⟨lg_mem e5, fun _ h => absurd h List.not_mem_nil⟩⟩⟩⟩⟩⟩) (t_X12_run_93 N (fun a0 x1 x2 x3 x4 x5 x6 g e => ih a0 x1 x2 x3 x4 x5 x6 g e) a0 x1 x2 x3 x6 x7 s_0 g fe)
    cases e
set_option maxRecDepth 100000 in
theorem m_X12_run (N : Nat) {a0 : Nat} {x1 : Int32} {x2 : Int32} {h : mH} {q : Int32 × mH} (hf : f_X12_run N a0 x1 x2 h = some q) : MM y_X12_run 7 [.ref a0, .int x1, .int x2] h (some (.int q.1)) q.2 := by
  refine MM.of (mFx (j := 270) rfl).2.2.2.1 (Nat.le_of_ble_eq_true rfl) (fun X => ?_)
  refine ev_ok (o := 12) (ini := false) (Cl := C_X12_run N) (Rc := RcI) (B := B_X12_run) (K := fun pc ls st g => kb pc 39 (lgr 0 ls fun a0 => lgi 1 ls fun x1 => lgi 2 ls fun x2 => lgi 3 ls fun x3 => lgi 4 ls fun x4 => lgi 5 ls fun x5 => lgi 6 ls fun x6 => pe st (L_X12_run_39 N N a0 x1 x2 x3 x4 x5 x6 g)) (none)) rfl (fun e => by cases e) (by decide) (rcI_ok rfl) ?_ (co_X12_run N q) lb_X12_run 3000 0 S_X12_run_0 _ _ h ls_X12_run_0 hf
  intro pc ls st g e
  rcases kb_s e with ⟨rfl, e⟩ | e
  · obtain ⟨a0, e0, f0⟩ := lgr_s e
    obtain ⟨x1, e1, f1⟩ := lgi_s f0
    obtain ⟨x2, e2, f2⟩ := lgi_s f1
    obtain ⟨x3, e3, f3⟩ := lgi_s f2
    obtain ⟨x4, e4, f4⟩ := lgi_s f3
    obtain ⟨x5, e5, f5⟩ := lgi_s f4
    obtain ⟨x6, e6, f6⟩ := lgi_s f5
    obtain ⟨qe, fe⟩ := pe_s f6
    subst qe
    exact MW.sub (List.forall_mem_cons.mpr ⟨lg_mem e0, List.forall_mem_cons.mpr ⟨lg_mem e1, List.forall_mem_cons.mpr ⟨lg_mem e2, List.forall_mem_cons.mpr ⟨lg_mem e3, List.forall_mem_cons.mpr ⟨lg_mem e4, List.forall_mem_cons.mpr ⟨lg_mem e5, List.forall_mem_cons.mpr ⟨lg_mem e6, fun _ h => absurd h List.not_mem_nil⟩⟩⟩⟩⟩⟩⟩) (t_X12_run_39 N N a0 x1 x2 x3 x4 x5 x6 g fe)
  cases e
def L_X12_common_4 (N : Nat) : Nat → Int32 → Int32 → mH → Option (Int32 × mH)
  | 0, _, _, _ => none
  | n + 1, x2, x3, h =>
    if x3 = 0 then
      some (x2, h)
    else
      if x3 = 0 then none else
      let w1 := iRem x2 x3
      L_X12_common_4 N n x3 w1 h
def f_X12_common (N : Nat) (x0 : Int32) (x1 : Int32) (h : mH) : Option (Int32 × mH) :=
  L_X12_common_4 N N x0 x1 h
def y_X12_common : mM := (yX12_common, cX12_common, 5, (some .int))
def B_X12_common : List (Nat × List mI) := [(21, [(.iload_n 2, 1, [2], []), (.ireturn, 1, [], [])])]
def S_X12_common_0 : List mI := [(.iload_n 0, 1, [0], []), (.istore_n 2, 1, [2], []), (.iload_n 1, 1, [1], []), (.istore_n 3, 1, [3], [])]
def S_X12_common_4 : List mI := [(.iload_n 3, 1, [3], []), (.ifCond .eq 16, 3, [21], []), (.iload_n 2, 1, [2], []), (.iload_n 3, 1, [3], []), (.irem, 1, [], []), (.istore 4, 2, [4], []), (.iload_n 3, 1, [3], []), (.istore_n 2, 1, [2], []), (.iload 4, 2, [4], []), (.istore_n 3, 1, [3], []), (.goto (-14), 3, [4], [])]
theorem lb_X12_common : B_X12_common.all (fun b => lst y_X12_common.2.1 12 y_X12_common.2.2.1 false b.1 b.2) = true := by decide +kernel
theorem ls_X12_common_0 : lst y_X12_common.2.1 12 y_X12_common.2.2.1 false 0 S_X12_common_0 = true := by decide +kernel
theorem ls_X12_common_4 : lst y_X12_common.2.1 12 y_X12_common.2.2.1 false 4 S_X12_common_4 = true := by decide +kernel
def C_X12_common (N : Nat) : Nat → List Value → mH → (Option Value → mH → Option (Int32 × mH)) → Option (Int32 × mH) := fun j as g k => none
theorem co_X12_common (N : Nat) (q : Int32 × mH) : clOK 4 q (C_X12_common N) := by
  intro j as g k e
  cases e
set_option maxRecDepth 100000 in
theorem t_X12_common_4 {X : Nat × (Nat → Int32)} (N : Nat) {q : Int32 × mH} : ∀ (n : Nat) (x2 : Int32) (x3 : Int32) (h : mH), L_X12_common_4 N n x2 x3 h = some q → MW X y_X12_common 4 4 [(2, .int x2), (3, .int x3)] [] h (some (.int q.1)) q.2 := by
  intro n
  induction n with
  | zero => intro x2 x3 h hf; cases hf
  | succ n ih =>
    intro x2 x3 h hf
    refine ev_ok (o := 12) (ini := false) (Cl := C_X12_common N) (Rc := RcI) (B := B_X12_common) (K := fun pc ls st g => kb pc 4 (lgi 2 ls fun x2 => lgi 3 ls fun x3 => pe st (L_X12_common_4 N n x2 x3 g)) (none)) rfl (fun e => by cases e) (by decide) (rcI_ok rfl) ?_ (co_X12_common N q) lb_X12_common 3000 4 S_X12_common_4 _ _ h ls_X12_common_4 hf
    intro pc ls st g e
    rcases kb_s e with ⟨rfl, e⟩ | e
    · obtain ⟨x2, e0, f0⟩ := lgi_s e
      obtain ⟨x3, e1, f1⟩ := lgi_s f0
      obtain ⟨qe, fe⟩ := pe_s f1
      subst qe
      exact MW.sub (List.forall_mem_cons.mpr ⟨lg_mem e0, List.forall_mem_cons.mpr ⟨lg_mem e1, fun _ h => absurd h List.not_mem_nil⟩⟩) (ih x2 x3 g fe)
    cases e
set_option maxRecDepth 100000 in
theorem m_X12_common (N : Nat) {x0 : Int32} {x1 : Int32} {h : mH} {q : Int32 × mH} (hf : f_X12_common N x0 x1 h = some q) : MM y_X12_common 4 [.int x0, .int x1] h (some (.int q.1)) q.2 := by
  refine MM.of (mFx (j := 271) rfl).2.2.2.1 (Nat.le_of_ble_eq_true rfl) (fun X => ?_)
  refine ev_ok (o := 12) (ini := false) (Cl := C_X12_common N) (Rc := RcI) (B := B_X12_common) (K := fun pc ls st g => kb pc 4 (lgi 2 ls fun x2 => lgi 3 ls fun x3 => pe st (L_X12_common_4 N N x2 x3 g)) (none)) rfl (fun e => by cases e) (by decide) (rcI_ok rfl) ?_ (co_X12_common N q) lb_X12_common 3000 0 S_X12_common_0 _ _ h ls_X12_common_0 hf
  intro pc ls st g e
  rcases kb_s e with ⟨rfl, e⟩ | e
  · obtain ⟨x2, e0, f0⟩ := lgi_s e
    obtain ⟨x3, e1, f1⟩ := lgi_s f0
    obtain ⟨qe, fe⟩ := pe_s f1
    subst qe
    exact MW.sub (List.forall_mem_cons.mpr ⟨lg_mem e0, List.forall_mem_cons.mpr ⟨lg_mem e1, fun _ h => absurd h List.not_mem_nil⟩⟩) (t_X12_common_4 N N x2 x3 g fe)
  cases e
def J_X12_step_122 (N : Nat) (k99 : Int32 → Int32 → Int32 → Int32 → mH → Option (Int32 × mH)) (x1 : Int32) (x2 : Int32) (x5 : Int32) (x6 : Int32) (s_0 : Int32) (h : mH) : Option (Int32 × mH) :=
  if x6 < x2 then
    if s_0 = (jI 1) then
      some (jI 0, h)
    else
      let w1 := iAdd x6 (jI 1)
      k99 x1 x2 x5 w1 h
  else
    if s_0 = (jI 0) then
      some (jI 0, h)
    else
      let w2 := iAdd x6 (jI 1)
      k99 x1 x2 x5 w2 h
def L_X12_step_99 (N : Nat) : Nat → Int32 → Int32 → Int32 → Int32 → mH → Option (Int32 × mH)
  | 0, _, _, _, _, _ => none
  | n + 1, x1, x2, x5, x6, h =>
    if x6 < x5 then
      if x5 = 0 then none else
      if (iRem (iAdd x6 x1) x5) < x2 then
        J_X12_step_122 N (L_X12_step_99 N n) x1 x2 x5 x6 (jI 1) h
      else
        J_X12_step_122 N (L_X12_step_99 N n) x1 x2 x5 x6 (jI 0) h
    else
      some (jI 1, h)
def f_X12_step (N : Nat) (a0 : Nat) (x1 : Int32) (x2 : Int32) (x3 : Int32) (x4 : Int32) (h : mH) : Option (Int32 × mH) :=
  (pV h 12 a0 0 (.int (jI 0))).bind fun h1 =>
  (f_X12_within N x1.toInt64 (jL 3) (jL 999) h1).bind fun p2 =>
  if p2.1 = 0 then
    (rcv p2.2 12 a0).bind fun _ =>
    (f_X12_no N a0 (jI (-3)) p2.2).bind fun p3 =>
    some (p3.1, p3.2)
  else
    (f_X12_within N x2.toInt64 (jL 1) (jL 9) p2.2).bind fun p4 =>
    if p4.1 = 0 then
      (rcv p4.2 12 a0).bind fun _ =>
      (f_X12_no N a0 (jI (-3)) p4.2).bind fun p5 =>
      some (p5.1, p5.2)
    else
      (f_X12_within N x3.toInt64 (jL 1) (jL 9) p4.2).bind fun p6 =>
      if p6.1 = 0 then
        (rcv p6.2 12 a0).bind fun _ =>
        (f_X12_no N a0 (jI (-3)) p6.2).bind fun p7 =>
        some (p7.1, p7.2)
      else
        (f_X12_within N x4.toInt64 (jL 0) (jL 2) p6.2).bind fun p8 =>
        if p8.1 = 0 then
          (rcv p8.2 12 a0).bind fun _ =>
          (f_X12_no N a0 (jI (-3)) p8.2).bind fun p9 =>
          some (p9.1, p9.2)
        else
          let w10 := iAdd x2 x3
          if x4 < (jI 2) then
            if x4 = 0 then
              if w10 = 0 then none else
              some (iRem x1 w10, p8.2)
            else
              (f_X12_common N x1 w10 p8.2).bind fun p11 =>
              if p11.1 = 0 then none else
              some (iDiv w10 p11.1, p11.2)
          else
            L_X12_step_99 N N x1 x2 w10 (jI 0) p8.2
def y_X12_step : mM := (yX12_step, cX12_step, 7, (some .int))
def B_X12_step : List (Nat × List mI) := [(56, [(.aload_n 0, 1, [0], []), (.bipush (-3), 2, [], [-3]), (.invokevirtual 84, 3, [0, 224, 1, 12, 267], []), (.ireturn, 1, [], [])]), (63, [(.iload_n 2, 1, [2], []), (.iload_n 3, 1, [3], []), (.iadd, 1, [], []), (.istore 5, 2, [5], []), (.iload 4, 2, [4], []), (.iconst 2, 1, [], [2]), (.if_icmp .ge 25, 3, [96], []), (.iload 4, 2, [4], []), (.ifCond .ne 10, 3, [86], []), (.iload_n 1, 1, [1], []), (.iload 5, 2, [5], []), (.irem, 1, [], []), (.goto 12, 3, [95], [])]), (86, [(.iload 5, 2, [5], []), (.iload_n 1, 1, [1], []), (.iload 5, 2, [5], []), (.invokestatic 247, 3, [1, 271, 2, 0, 312], []), (.idiv, 1, [], [])]), (95, [(.ireturn, 1, [], [])]), (96, [(.iconst 0, 1, [], [0]), (.istore 6, 2, [6], [])]), (121, [(.iconst 0, 1, [], [0])]), (132, [(.iconst 0, 1, [], [0])]), (133, [(.if_icmp .ne 5, 3, [138], []), (.iconst 0, 1, [], [0]), (.ireturn, 1, [], [])]), (138, [(.iinc 6 1, 3, [6], [1]), (.goto (-42), 3, [99], [])]), (144, [(.iconst 1, 1, [], [1]), (.ireturn, 1, [], [])])]
def S_X12_step_0 : List mI := [(.aload_n 0, 1, [0], []), (.iconst 0, 1, [], [0]), (.putfield 1, 3, [12, 0, 0, 126], []), (.iload_n 1, 1, [1], []), (.i2l, 1, [], []), (.ldc2_w 179, 3, [5], [3]), (.ldc2_w 241, 3, [9], [999]), (.invokestatic 147, 3, [1, 225, 3, 0, 269], []), (.ifCond .eq 40, 3, [56], []), (.iload_n 2, 1, [2], []), (.i2l, 1, [], []), (.lconst 1, 1, [], [1]), (.ldc2_w 243, 3, [10], [9]), (.invokestatic 147, 3, [1, 225, 3, 0, 269], []), (.ifCond .eq 28, 3, [56], []), (.iload_n 3, 1, [3], []), (.i2l, 1, [], []), (.lconst 1, 1, [], [1]), (.ldc2_w 243, 3, [10], [9]), (.invokestatic 147, 3, [1, 225, 3, 0, 269], []), (.ifCond .eq 16, 3, [56], []), (.iload 4, 2, [4], []), (.i2l, 1, [], []), (.lconst 0, 1, [], [0]), (.ldc2_w 245, 3, [11], [2]), (.invokestatic 147, 3, [1, 225, 3, 0, 269], []), (.ifCond .ne 10, 3, [63], [])]
def S_X12_step_99 : List mI := [(.iload 6, 2, [6], []), (.iload 5, 2, [5], []), (.if_icmp .ge 41, 3, [144], []), (.iload 6, 2, [6], []), (.iload_n 1, 1, [1], []), (.iadd, 1, [], []), (.iload 5, 2, [5], []), (.irem, 1, [], []), (.iload_n 2, 1, [2], []), (.if_icmp .ge 7, 3, [121], []), (.iconst 1, 1, [], [1]), (.goto 4, 3, [122], [])]
def S_X12_step_122 : List mI := [(.iload 6, 2, [6], []), (.iload_n 2, 1, [2], []), (.if_icmp .ge 7, 3, [132], []), (.iconst 1, 1, [], [1]), (.goto 4, 3, [133], [])]
theorem lb_X12_step : B_X12_step.all (fun b => lst y_X12_step.2.1 12 y_X12_step.2.2.1 false b.1 b.2) = true := by decide +kernel
theorem ls_X12_step_0 : lst y_X12_step.2.1 12 y_X12_step.2.2.1 false 0 S_X12_step_0 = true := by decide +kernel
theorem ls_X12_step_99 : lst y_X12_step.2.1 12 y_X12_step.2.2.1 false 99 S_X12_step_99 = true := by decide +kernel
theorem ls_X12_step_122 : lst y_X12_step.2.1 12 y_X12_step.2.2.1 false 122 S_X12_step_122 = true := by decide +kernel
def C_X12_step (N : Nat) : Nat → List Value → mH → (Option Value → mH → Option (Int32 × mH)) → Option (Int32 × mH) := fun j as g k => kb j 225 (pl1 as fun b0 as => pl1 as fun b1 as => pl1 as fun b2 as => pe as ((f_X12_within N b0 b1 b2 g).bind fun p => k (some (.int p.1)) p.2)) (kb j 224 (pr1 as fun b0 as => pp1 as fun b1 as => pe as ((f_X12_no N b0 b1 g).bind fun p => k (some (.int p.1)) p.2)) (kb j 271 (pp1 as fun b0 as => pp1 as fun b1 as => pe as ((f_X12_common N b0 b1 g).bind fun p => k (some (.int p.1)) p.2)) (none)))
theorem co_X12_step (N : Nat) (q : Int32 × mH) : clOK 5 q (C_X12_step N) := by
  intro j as g k e
  rcases kb_s e with ⟨rfl, e⟩ | e
  · obtain ⟨b0, r0, q0, f0⟩ := pl1_s e
    obtain ⟨b1, r1, q1, f1⟩ := pl1_s f0
    obtain ⟨b2, r2, q2, f2⟩ := pl1_s f1
    obtain ⟨qe, fe⟩ := pe_s f2
    obtain ⟨p, e1, e2⟩ := bnd_s fe
    subst qe
    subst q2
    subst q1
    subst q0
    exact ⟨_, _, _, _, 4, rfl, (by decide), m_X12_within N e1, e2⟩
  rcases kb_s e with ⟨rfl, e⟩ | e
  · obtain ⟨b0, r0, q0, f0⟩ := pr1_s e
    obtain ⟨b1, r1, q1, f1⟩ := pp1_s f0
    obtain ⟨qe, fe⟩ := pe_s f1
    obtain ⟨p, e1, e2⟩ := bnd_s fe
    subst qe
    subst q1
    subst q0
    exact ⟨_, _, _, _, 4, rfl, (by decide), m_X12_no N e1, e2⟩
  rcases kb_s e with ⟨rfl, e⟩ | e
  · obtain ⟨b0, r0, q0, f0⟩ := pp1_s e
    obtain ⟨b1, r1, q1, f1⟩ := pp1_s f0
    obtain ⟨qe, fe⟩ := pe_s f1
    obtain ⟨p, e1, e2⟩ := bnd_s fe
    subst qe
    subst q1
    subst q0
    exact ⟨_, _, _, _, 4, rfl, (by decide), m_X12_common N e1, e2⟩
  cases e
set_option maxRecDepth 100000 in
theorem t_X12_step_122 {X : Nat × (Nat → Int32)} (N : Nat) {q : Int32 × mH} {k99 : Int32 → Int32 → Int32 → Int32 → mH → Option (Int32 × mH)} (hk99 : ∀ (x1 : Int32) (x2 : Int32) (x5 : Int32) (x6 : Int32) g, k99 x1 x2 x5 x6 g = some q → MW X y_X12_step 5 99 [(1, .int x1), (2, .int x2), (5, .int x5), (6, .int x6)] [] g (some (.int q.1)) q.2) (x1 : Int32) (x2 : Int32) (x5 : Int32) (x6 : Int32) (s_0 : Int32) (h : mH) (hf : J_X12_step_122 N k99 x1 x2 x5 x6 s_0 h = some q) : MW X y_X12_step 5 122 [(1, .int x1), (2, .int x2), (5, .int x5), (6, .int x6)] [.int s_0] h (some (.int q.1)) q.2 := by
  refine ev_ok (o := 12) (ini := false) (Cl := C_X12_step N) (Rc := RcI) (B := B_X12_step) (K := fun pc ls st g => kb pc 99 (lgi 1 ls fun x1 => lgi 2 ls fun x2 => lgi 5 ls fun x5 => lgi 6 ls fun x6 => pe st (k99 x1 x2 x5 x6 g)) (none)) rfl (fun e => by cases e) (by decide) (rcI_ok rfl) ?_ (co_X12_step N q) lb_X12_step 3000 122 S_X12_step_122 _ _ h ls_X12_step_122 hf
  intro pc ls st g e
  rcases kb_s e with ⟨rfl, e⟩ | e
  · obtain ⟨x1, e0, f0⟩ := lgi_s e
    obtain ⟨x2, e1, f1⟩ := lgi_s f0
    obtain ⟨x5, e2, f2⟩ := lgi_s f1
    obtain ⟨x6, e3, f3⟩ := lgi_s f2
    obtain ⟨qe, fe⟩ := pe_s f3
    subst qe
    exact MW.sub (List.forall_mem_cons.mpr ⟨lg_mem e0, List.forall_mem_cons.mpr ⟨lg_mem e1, List.forall_mem_cons.mpr ⟨lg_mem e2, List.forall_mem_cons.mpr ⟨lg_mem e3, fun _ h => absurd h List.not_mem_nil⟩⟩⟩⟩) (hk99 x1 x2 x5 x6 g fe)
  cases e
set_option maxRecDepth 100000 in
theorem t_X12_step_99 {X : Nat × (Nat → Int32)} (N : Nat) {q : Int32 × mH} : ∀ (n : Nat) (x1 : Int32) (x2 : Int32) (x5 : Int32) (x6 : Int32) (h : mH), L_X12_step_99 N n x1 x2 x5 x6 h = some q → MW X y_X12_step 5 99 [(1, .int x1), (2, .int x2), (5, .int x5), (6, .int x6)] [] h (some (.int q.1)) q.2 := by
  intro n
  induction n with
  | zero => intro x1 x2 x5 x6 h hf; cases hf
  | succ n ih =>
    intro x1 x2 x5 x6 h hf
    refine ev_ok (o := 12) (ini := false) (Cl := C_X12_step N) (Rc := RcI) (B := B_X12_step) (K := fun pc ls st g => kb pc 122 (lgi 1 ls fun x1 => lgi 2 ls fun x2 => lgi 5 ls fun x5 => lgi 6 ls fun x6 => pp1 st fun s_0 st => pe st (J_X12_step_122 N (L_X12_step_99 N n) x1 x2 x5 x6 s_0 g)) (none)) rfl (fun e => by cases e) (by decide) (rcI_ok rfl) ?_ (co_X12_step N q) lb_X12_step 3000 99 S_X12_step_99 _ _ h ls_X12_step_99 hf
    intro pc ls st g e
    rcases kb_s e with ⟨rfl, e⟩ | e
    · obtain ⟨x1, e0, f0⟩ := lgi_s e
      obtain ⟨x2, e1, f1⟩ := lgi_s f0
      obtain ⟨x5, e2, f2⟩ := lgi_s f1
      obtain ⟨x6, e3, f3⟩ := lgi_s f2
      obtain ⟨s_0, r0, q0, g0⟩ := pp1_s f3
      obtain ⟨qe, fe⟩ := pe_s g0
      subst qe
      subst q0
      exact MW.sub (List.forall_mem_cons.mpr ⟨lg_mem e0, List.forall_mem_cons.mpr ⟨lg_mem e1, List.forall_mem_cons.mpr ⟨lg_mem e2, List.forall_mem_cons.mpr ⟨lg_mem e3, fun _ h => absurd h List.not_mem_nil⟩⟩⟩⟩) (t_X12_step_122 N (fun x1 x2 x5 x6 g e => ih x1 x2 x5 x6 g e) x1 x2 x5 x6 s_0 g fe)
    cases e
set_option maxRecDepth 100000 in
theorem m_X12_step (N : Nat) {a0 : Nat} {x1 : Int32} {x2 : Int32} {x3 : Int32} {x4 : Int32} {h : mH} {q : Int32 × mH} (hf : f_X12_step N a0 x1 x2 x3 x4 h = some q) : MM y_X12_step 5 [.ref a0, .int x1, .int x2, .int x3, .int x4] h (some (.int q.1)) q.2 := by
  refine MM.of (mFx (j := 272) rfl).2.2.2.1 (Nat.le_of_ble_eq_true rfl) (fun X => ?_)
  refine ev_ok (o := 12) (ini := false) (Cl := C_X12_step N) (Rc := RcI) (B := B_X12_step) (K := fun pc ls st g => kb pc 99 (lgi 1 ls fun x1 => lgi 2 ls fun x2 => lgi 5 ls fun x5 => lgi 6 ls fun x6 => pe st (L_X12_step_99 N N x1 x2 x5 x6 g)) (none)) rfl (fun e => by cases e) (by decide) (rcI_ok rfl) ?_ (co_X12_step N q) lb_X12_step 3000 0 S_X12_step_0 _ _ h ls_X12_step_0 hf
  intro pc ls st g e
  rcases kb_s e with ⟨rfl, e⟩ | e
  · obtain ⟨x1, e0, f0⟩ := lgi_s e
    obtain ⟨x2, e1, f1⟩ := lgi_s f0
    obtain ⟨x5, e2, f2⟩ := lgi_s f1
    obtain ⟨x6, e3, f3⟩ := lgi_s f2
    obtain ⟨qe, fe⟩ := pe_s f3
    subst qe
    exact MW.sub (List.forall_mem_cons.mpr ⟨lg_mem e0, List.forall_mem_cons.mpr ⟨lg_mem e1, List.forall_mem_cons.mpr ⟨lg_mem e2, List.forall_mem_cons.mpr ⟨lg_mem e3, fun _ h => absurd h List.not_mem_nil⟩⟩⟩⟩) (t_X12_step_99 N N x1 x2 x5 x6 g fe)
  cases e
