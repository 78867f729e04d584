/-! printed by wip/whole/gen_code.py: the functions of methods 160 to 199 (leaves first), and their contracts -/
def f_X11_feed (N : Nat) (a0 : Nat) (x1 : Int32) (x2 : Int32) (x3 : Int32) (x4 : Int32) (x5 : Int32) (h : mH) : Option (Int32 × mH) :=
  (gI h 11 a0 1).bind fun v1 =>
  if (jI 500) < (iAdd v1 (jI 20)) then
    (rcv h 11 a0).bind fun _ =>
    (f_X11_refuse N a0 (jI (-5)) h).bind fun p2 =>
    some (p2.1, p2.2)
  else
    (rcv h 11 a0).bind fun _ =>
    (f_X11_putBytes N a0 x1 h).bind fun h3 =>
    (rcv h3 11 a0).bind fun _ =>
    (f_X11_putBytes N a0 x2 h3).bind fun h4 =>
    (rcv h4 11 a0).bind fun _ =>
    (f_X11_putBytes N a0 x3 h4).bind fun h5 =>
    (rcv h5 11 a0).bind fun _ =>
    (f_X11_putBytes N a0 x4 h5).bind fun h6 =>
    (rcv h6 11 a0).bind fun _ =>
    (f_X11_putBytes N a0 x5 h6).bind fun h7 =>
    (gI h7 11 a0 1).bind fun v8 =>
    some (v8, h7)
def y_X11_feed : mM := (yX11_feed, cX11_feed, 6, (some .int))
def B_X11_feed : List (Nat × List mI) := [(20, [(.aload_n 0, 1, [0], []), (.iload_n 1, 1, [1], []), (.invokevirtual 113, 3, [0, 204, 1, 11, 11], []), (.aload_n 0, 1, [0], []), (.iload_n 2, 1, [2], []), (.invokevirtual 113, 3, [0, 204, 1, 11, 11], []), (.aload_n 0, 1, [0], []), (.iload_n 3, 1, [3], []), (.invokevirtual 113, 3, [0, 204, 1, 11, 11], []), (.aload_n 0, 1, [0], []), (.iload 4, 2, [4], []), (.invokevirtual 113, 3, [0, 204, 1, 11, 11], []), (.aload_n 0, 1, [0], []), (.iload 5, 2, [5], []), (.invokevirtual 113, 3, [0, 204, 1, 11, 11], []), (.aload_n 0, 1, [0], []), (.getfield 105, 3, [11, 1, 0, 110], []), (.ireturn, 1, [], [])])]
def S_X11_feed_0 : List mI := [(.aload_n 0, 1, [0], []), (.getfield 105, 3, [11, 1, 0, 110], []), (.bipush 20, 2, [], [20]), (.iadd, 1, [], []), (.sipush 500, 3, [], [500]), (.if_icmp .le 10, 3, [20], []), (.aload_n 0, 1, [0], []), (.bipush (-5), 2, [], [-5]), (.invokevirtual 109, 3, [0, 203, 1, 11, 10], []), (.ireturn, 1, [], [])]
theorem lb_X11_feed : B_X11_feed.all (fun b => lst y_X11_feed.2.1 11 y_X11_feed.2.2.1 false b.1 b.2) = true := by decide +kernel
theorem ls_X11_feed_0 : lst y_X11_feed.2.1 11 y_X11_feed.2.2.1 false 0 S_X11_feed_0 = true := by decide +kernel
def C_X11_feed (N : Nat) : Nat → List Value → mH → (Option Value → mH → Option (Int32 × mH)) → Option (Int32 × mH) := fun j as g k => kb j 203 (pr1 as fun b0 as => pp1 as fun b1 as => pe as ((f_X11_refuse N b0 b1 g).bind fun p => k (some (.int p.1)) p.2)) (kb j 204 (pr1 as fun b0 as => pp1 as fun b1 as => pe as ((f_X11_putBytes N b0 b1 g).bind fun p => k none p)) (none))
theorem co_X11_feed (N : Nat) (q : Int32 × mH) : clOK 5 q (C_X11_feed N) := by
  intro j as g k e
  rcases kb_s e with ⟨rfl, e⟩ | e
  · obtain ⟨b0, r0, q0, f0⟩ := pr1_s e
    obtain ⟨b1, r1, q1, f1⟩ := pp1_s f0
    obtain ⟨qe, fe⟩ := pe_s f1
    obtain ⟨p, e1, e2⟩ := bnd_s fe
    subst qe
    subst q1
    subst q0
    exact ⟨_, _, _, _, 4, rfl, (by decide), m_X11_refuse N e1, e2⟩
  rcases kb_s e with ⟨rfl, e⟩ | e
  · obtain ⟨b0, r0, q0, f0⟩ := pr1_s e
    obtain ⟨b1, r1, q1, f1⟩ := pp1_s f0
    obtain ⟨qe, fe⟩ := pe_s f1
    obtain ⟨p, e1, e2⟩ := bnd_s fe
    subst qe
    subst q1
    subst q0
    exact ⟨_, _, _, _, 4, rfl, (by decide), m_X11_putBytes N e1, e2⟩
  cases e
set_option maxRecDepth 100000 in
theorem m_X11_feed (N : Nat) {a0 : Nat} {x1 : Int32} {x2 : Int32} {x3 : Int32} {x4 : Int32} {x5 : Int32} {h : mH} {q : Int32 × mH} (hf : f_X11_feed N a0 x1 x2 x3 x4 x5 h = some q) : MM y_X11_feed 5 [.ref a0, .int x1, .int x2, .int x3, .int x4, .int x5] h (some (.int q.1)) q.2 := by
  refine MM.of (mFx (j := 147) rfl).2.2.2.1 (Nat.le_of_ble_eq_true rfl) (fun X => ?_)
  refine ev_ok (o := 11) (ini := false) (Cl := C_X11_feed N) (Rc := RcI) (B := B_X11_feed) (K := fun pc ls st g => none) rfl (fun e => by cases e) (by decide) (rcI_ok rfl) ?_ (co_X11_feed N q) lb_X11_feed 3000 0 S_X11_feed_0 _ _ h ls_X11_feed_0 hf
  intro pc ls st g e
  cases e
def f_X11_onTape (N : Nat) (a0 : Nat) (x1 : Int32) (h : mH) : Option (Int32 × mH) :=
  if x1 < 0 then
    some (jI 0, h)
  else
    (gI h 11 a0 1).bind fun v1 =>
    if v1 < x1 then
      some (jI 0, h)
    else
      some (jI 1, h)
def y_X11_onTape : mM := (yX11_onTape, cX11_onTape, 2, (some .boolean))
def B_X11_onTape : List (Nat × List mI) := [(16, [(.iconst 0, 1, [], [0])]), (17, [(.ireturn, 1, [], [])])]
def S_X11_onTape_0 : List mI := [(.iload_n 1, 1, [1], []), (.ifCond .lt 15, 3, [16], []), (.iload_n 1, 1, [1], []), (.aload_n 0, 1, [0], []), (.getfield 105, 3, [11, 1, 0, 110], []), (.if_icmp .gt 7, 3, [16], []), (.iconst 1, 1, [], [1]), (.goto 4, 3, [17], [])]
theorem lb_X11_onTape : B_X11_onTape.all (fun b => lst y_X11_onTape.2.1 11 y_X11_onTape.2.2.1 false b.1 b.2) = true := by decide +kernel
theorem ls_X11_onTape_0 : lst y_X11_onTape.2.1 11 y_X11_onTape.2.2.1 false 0 S_X11_onTape_0 = true := by decide +kernel
def C_X11_onTape (N : Nat) : Nat → List Value → mH → (Option Value → mH → Option (Int32 × mH)) → Option (Int32 × mH) := fun j as g k => none
theorem co_X11_onTape (N : Nat) (q : Int32 × mH) : clOK 4 q (C_X11_onTape N) := by
  intro j as g k e
  cases e
set_option maxRecDepth 100000 in
theorem m_X11_onTape (N : Nat) {a0 : Nat} {x1 : Int32} {h : mH} {q : Int32 × mH} (hf : f_X11_onTape N a0 x1 h = some q) : MM y_X11_onTape 4 [.ref a0, .int x1] h (some (.int q.1)) q.2 := by
  refine MM.of (mFx (j := 205) rfl).2.2.2.1 (Nat.le_of_ble_eq_true rfl) (fun X => ?_)
  refine ev_ok (o := 11) (ini := false) (Cl := C_X11_onTape N) (Rc := RcZ) (B := B_X11_onTape) (K := fun pc ls st g => none) rfl (fun e => by cases e) (by decide) (rcZ_ok rfl) ?_ (co_X11_onTape N q) lb_X11_onTape 3000 0 S_X11_onTape_0 _ _ h ls_X11_onTape_0 hf
  intro pc ls st g e
  cases e
def f_X11_forgetAnswers (N : Nat) (a0 : Nat) (h : mH) : Option (mH) :=
  (gR h 11 a0 5).bind fun v1 =>
  (rcv h 10 v1).bind fun _ =>
  (f_X10_forget N v1 h).bind fun h2 =>
  (gR h2 11 a0 8).bind fun v3 =>
  (rcv h2 9 v3).bind fun _ =>
  (f_X9_forgetWish N v3 h2).bind fun h4 =>
  (gR h4 11 a0 8).bind fun v5 =>
  (rcv h4 9 v5).bind fun _ =>
  (f_X9_forgetPrint N v5 h4).bind fun h6 =>
  some h6
def y_X11_forgetAnswers : mM := (yX11_forgetAnswers, cX11_forgetAnswers, 1, none)
def B_X11_forgetAnswers : List (Nat × List mI) := []
def S_X11_forgetAnswers_0 : List mI := [(.aload_n 0, 1, [0], []), (.getfield 35, 3, [11, 5, 2, 114], []), (.invokevirtual 442, 3, [0, 126, 0, 10, 38], []), (.aload_n 0, 1, [0], []), (.getfield 52, 3, [11, 8, 2, 117], []), (.invokevirtual 445, 3, [0, 110, 0, 9, 39], []), (.aload_n 0, 1, [0], []), (.getfield 52, 3, [11, 8, 2, 117], []), (.invokevirtual 448, 3, [0, 111, 0, 9, 40], []), (.return_, 1, [], [])]
theorem lb_X11_forgetAnswers : B_X11_forgetAnswers.all (fun b => lst y_X11_forgetAnswers.2.1 11 y_X11_forgetAnswers.2.2.1 false b.1 b.2) = true := by decide +kernel
theorem ls_X11_forgetAnswers_0 : lst y_X11_forgetAnswers.2.1 11 y_X11_forgetAnswers.2.2.1 false 0 S_X11_forgetAnswers_0 = true := by decide +kernel
def C_X11_forgetAnswers (N : Nat) : Nat → List Value → mH → (Option Value → mH → Option (mH)) → Option (mH) := fun j as g k => kb j 126 (pr1 as fun b0 as => pe as ((f_X10_forget N b0 g).bind fun p => k none p)) (kb j 110 (pr1 as fun b0 as => pe as ((f_X9_forgetWish N b0 g).bind fun p => k none p)) (kb j 111 (pr1 as fun b0 as => pe as ((f_X9_forgetPrint N b0 g).bind fun p => k none p)) (none)))
theorem co_X11_forgetAnswers (N : Nat) (q : mH) : clOK 5 q (C_X11_forgetAnswers N) := by
  intro j as g k e
  rcases kb_s e with ⟨rfl, e⟩ | e
  · obtain ⟨b0, r0, q0, f0⟩ := pr1_s e
    obtain ⟨qe, fe⟩ := pe_s f0
    obtain ⟨p, e1, e2⟩ := bnd_s fe
    subst qe
    subst q0
    exact ⟨_, _, _, _, 4, rfl, (by decide), m_X10_forget N e1, e2⟩
  rcases kb_s e with ⟨rfl, e⟩ | e
  · obtain ⟨b0, r0, q0, f0⟩ := pr1_s e
    obtain ⟨qe, fe⟩ := pe_s f0
    obtain ⟨p, e1, e2⟩ := bnd_s fe
    subst qe
    subst q0
    exact ⟨_, _, _, _, 4, rfl, (by decide), m_X9_forgetWish N e1, e2⟩
  rcases kb_s e with ⟨rfl, e⟩ | e
  · obtain ⟨b0, r0, q0, f0⟩ := pr1_s e
    obtain ⟨qe, fe⟩ := pe_s f0
    obtain ⟨p, e1, e2⟩ := bnd_s fe
    subst qe
    subst q0
    exact ⟨_, _, _, _, 4, rfl, (by decide), m_X9_forgetPrint N e1, e2⟩
  cases e
set_option maxRecDepth 100000 in
theorem m_X11_forgetAnswers (N : Nat) {a0 : Nat} {h : mH} {q : mH} (hf : f_X11_forgetAnswers N a0 h = some q) : MM y_X11_forgetAnswers 5 [.ref a0] h none q := by
  refine MM.of (mFx (j := 207) rfl).2.2.2.1 (Nat.le_of_ble_eq_true rfl) (fun X => ?_)
  refine ev_ok (o := 11) (ini := false) (Cl := C_X11_forgetAnswers N) (Rc := RcV) (B := B_X11_forgetAnswers) (K := fun pc ls st g => none) rfl (fun e => by cases e) (by decide) (rcV_ok rfl) ?_ (co_X11_forgetAnswers N q) lb_X11_forgetAnswers 3000 0 S_X11_forgetAnswers_0 _ _ h ls_X11_forgetAnswers_0 hf
  intro pc ls st g e
  cases e
def J_X11_basket_50 (N : Nat) (s_0 : Nat) (s_1 : Int32) (h : mH) : Option (Int32 × mH) :=
  (rcv h 11 s_0).bind fun _ =>
  (f_X11_refuse N s_0 s_1 h).bind fun p1 =>
  some (p1.1, p1.2)
def f_X11_basket (N : Nat) (a0 : Nat) (x1 : Int32) (h : mH) : Option (Int32 × mH) :=
  (rcv h 11 a0).bind fun _ =>
  (f_X11_onTape N a0 x1 h).bind fun p1 =>
  if p1.1 = 0 then
    (rcv p1.2 11 a0).bind fun _ =>
    (f_X11_refuse N a0 (jI (-3)) p1.2).bind fun p2 =>
    some (p2.1, p2.2)
  else
    (pV p1.2 11 a0 1 (.int (jI 0))).bind fun h3 =>
    (gR h3 11 a0 4).bind fun v4 =>
    (gR h3 11 a0 0).bind fun v5 =>
    (gR h3 11 a0 3).bind fun v6 =>
    (rcv h3 8 v4).bind fun _ =>
    (f_X8_readBasket N v4 v5 x1 v6 h3).bind fun p7 =>
    if p7.1 = 0 then
      (gR p7.2 11 a0 4).bind fun v8 =>
      (gI p7.2 8 v8 0).bind fun v9 =>
      J_X11_basket_50 N a0 (iSub (jI (-30)) v9) p7.2
    else
      (gR p7.2 11 a0 2).bind fun v10 =>
      (gR p7.2 11 a0 3).bind fun v11 =>
      (rcv p7.2 0 v10).bind fun _ =>
      (f_X0_become N v10 v11 p7.2).bind fun h12 =>
      (gR h12 11 a0 6).bind fun v13 =>
      (rcv h12 6 v13).bind fun _ =>
      (f_X6_clear N v13 h12).bind fun h14 =>
      (gR h14 11 a0 7).bind fun v15 =>
      (rcv h14 6 v15).bind fun _ =>
      (f_X6_clear N v15 h14).bind fun h16 =>
      (rcv h16 11 a0).bind fun _ =>
      (f_X11_forgetAnswers N a0 h16).bind fun h17 =>
      (gR h17 11 a0 2).bind fun v18 =>
      (gI h17 0 v18 6).bind fun v19 =>
      some (v19, h17)
def y_X11_basket : mM := (yX11_basket, cX11_basket, 2, (some .int))
def B_X11_basket : List (Nat × List mI) := [(15, [(.aload_n 0, 1, [0], []), (.iconst 0, 1, [], [0]), (.putfield 105, 3, [11, 1, 0, 110], []), (.aload_n 0, 1, [0], []), (.getfield 26, 3, [11, 4, 2, 113], []), (.aload_n 0, 1, [0], []), (.getfield 9, 3, [11, 0, 2, 109], []), (.iload_n 1, 1, [1], []), (.aload_n 0, 1, [0], []), (.getfield 20, 3, [11, 3, 2, 112], []), (.invokevirtual 121, 3, [0, 92, 3, 8, 14], []), (.ifCond .ne 18, 3, [54], []), (.aload_n 0, 1, [0], []), (.bipush (-30), 2, [], [-30]), (.aload_n 0, 1, [0], []), (.getfield 26, 3, [11, 4, 2, 113], []), (.getfield 125, 3, [8, 0, 0, 31], []), (.isub, 1, [], [])]), (54, [(.aload_n 0, 1, [0], []), (.getfield 16, 3, [11, 2, 2, 111], []), (.aload_n 0, 1, [0], []), (.getfield 20, 3, [11, 3, 2, 112], []), (.invokevirtual 128, 3, [0, 2, 1, 0, 35], []), (.aload_n 0, 1, [0], []), (.getfield 42, 3, [11, 6, 2, 115], []), (.invokevirtual 131, 3, [0, 78, 0, 6, 36], []), (.aload_n 0, 1, [0], []), (.getfield 46, 3, [11, 7, 2, 116], []), (.invokevirtual 131, 3, [0, 78, 0, 6, 36], []), (.aload_n 0, 1, [0], []), (.invokevirtual 134, 3, [0, 207, 0, 11, 37], []), (.aload_n 0, 1, [0], []), (.getfield 16, 3, [11, 2, 2, 111], []), (.getfield 137, 3, [0, 6, 0, 23], []), (.ireturn, 1, [], [])])]
def S_X11_basket_0 : List mI := [(.aload_n 0, 1, [0], []), (.iload_n 1, 1, [1], []), (.invokevirtual 117, 3, [0, 205, 1, 11, 13], []), (.ifCond .ne 10, 3, [15], []), (.aload_n 0, 1, [0], []), (.bipush (-3), 2, [], [-3]), (.invokevirtual 109, 3, [0, 203, 1, 11, 10], []), (.ireturn, 1, [], [])]
def S_X11_basket_50 : List mI := [(.invokevirtual 109, 3, [0, 203, 1, 11, 10], []), (.ireturn, 1, [], [])]
theorem lb_X11_basket : B_X11_basket.all (fun b => lst y_X11_basket.2.1 11 y_X11_basket.2.2.1 false b.1 b.2) = true := by decide +kernel
theorem ls_X11_basket_0 : lst y_X11_basket.2.1 11 y_X11_basket.2.2.1 false 0 S_X11_basket_0 = true := by decide +kernel
theorem ls_X11_basket_50 : lst y_X11_basket.2.1 11 y_X11_basket.2.2.1 false 50 S_X11_basket_50 = true := by decide +kernel
def C_X11_basket (N : Nat) : Nat → List Value → mH → (Option Value → mH → Option (Int32 × mH)) → Option (Int32 × mH) := fun j as g k => kb j 205 (pr1 as fun b0 as => pp1 as fun b1 as => pe as ((f_X11_onTape N b0 b1 g).bind fun p => k (some (.int p.1)) p.2)) (kb j 203 (pr1 as fun b0 as => pp1 as fun b1 as => pe as ((f_X11_refuse N b0 b1 g).bind fun p => k (some (.int p.1)) p.2)) (kb j 92 (pr1 as fun b0 as => pr1 as fun b1 as => pp1 as fun b2 as => pr1 as fun b3 as => pe as ((f_X8_readBasket N b0 b1 b2 b3 g).bind fun p => k (some (.int p.1)) p.2)) (kb j 2 (pr1 as fun b0 as => pr1 as fun b1 as => pe as ((f_X0_become N b0 b1 g).bind fun p => k none p)) (kb j 78 (pr1 as fun b0 as => pe as ((f_X6_clear N b0 g).bind fun p => k none p)) (kb j 207 (pr1 as fun b0 as => pe as ((f_X11_forgetAnswers N b0 g).bind fun p => k none p)) (none))))))
theorem co_X11_basket (N : Nat) (q : Int32 × mH) : clOK 11 q (C_X11_basket N) := by
  intro j as g k e
  rcases kb_s e with ⟨rfl, e⟩ | e
  · obtain ⟨b0, r0, q0, f0⟩ := pr1_s e
    obtain ⟨b1, r1, q1, f1⟩ := pp1_s f0
    obtain ⟨qe, fe⟩ := pe_s f1
    obtain ⟨p, e1, e2⟩ := bnd_s fe
    subst qe
    subst q1
    subst q0
    exact ⟨_, _, _, _, 4, rfl, (by decide), m_X11_onTape N e1, e2⟩
  rcases kb_s e with ⟨rfl, e⟩ | e
  · obtain ⟨b0, r0, q0, f0⟩ := pr1_s e
    obtain ⟨b1, r1, q1, f1⟩ := pp1_s f0
    obtain ⟨qe, fe⟩ := pe_s f1
    obtain ⟨p, e1, e2⟩ := bnd_s fe
    subst qe
    subst q1
    subst q0
    exact ⟨_, _, _, _, 4, rfl, (by decide), m_X11_refuse N e1, e2⟩
  rcases kb_s e with ⟨rfl, e⟩ | e
  · obtain ⟨b0, r0, q0, f0⟩ := pr1_s e
    obtain ⟨b1, r1, q1, f1⟩ := pr1_s f0
    obtain ⟨b2, r2, q2, f2⟩ := pp1_s f1
    obtain ⟨b3, r3, q3, f3⟩ := pr1_s f2
    obtain ⟨qe, fe⟩ := pe_s f3
    obtain ⟨p, e1, e2⟩ := bnd_s fe
    subst qe
    subst q3
    subst q2
    subst q1
    subst q0
    exact ⟨_, _, _, _, 10, rfl, (by decide), m_X8_readBasket N e1, e2⟩
  rcases kb_s e with ⟨rfl, e⟩ | e
  · obtain ⟨b0, r0, q0, f0⟩ := pr1_s e
    obtain ⟨b1, r1, q1, f1⟩ := pr1_s f0
    obtain ⟨qe, fe⟩ := pe_s f1
    obtain ⟨p, e1, e2⟩ := bnd_s fe
    subst qe
    subst q1
    subst q0
    exact ⟨_, _, _, _, 4, rfl, (by decide), m_X0_become N e1, e2⟩
  rcases kb_s e with ⟨rfl, e⟩ | e
  · obtain ⟨b0, r0, q0, f0⟩ := pr1_s e
    obtain ⟨qe, fe⟩ := pe_s f0
    obtain ⟨p, e1, e2⟩ := bnd_s fe
    subst qe
    subst q0
    exact ⟨_, _, _, _, 4, rfl, (by decide), m_X6_clear N e1, e2⟩
  rcases kb_s e with ⟨rfl, e⟩ | e
  · obtain ⟨b0, r0, q0, f0⟩ := pr1_s e
    obtain ⟨qe, fe⟩ := pe_s f0
    obtain ⟨p, e1, e2⟩ := bnd_s fe
    subst qe
    subst q0
    exact ⟨_, _, _, _, 5, rfl, (by decide), m_X11_forgetAnswers N e1, e2⟩
  cases e
set_option maxRecDepth 100000 in
theorem t_X11_basket_50 {X : Nat × (Nat → Int32)} (N : Nat) {q : Int32 × mH} (s_0 : Nat) (s_1 : Int32) (h : mH) (hf : J_X11_basket_50 N s_0 s_1 h = some q) : MW X y_X11_basket 11 50 [] [.int s_1, .ref s_0] h (some (.int q.1)) q.2 := by
  refine ev_ok (o := 11) (ini := false) (Cl := C_X11_basket N) (Rc := RcI) (B := B_X11_basket) (K := fun pc ls st g => none) rfl (fun e => by cases e) (by decide) (rcI_ok rfl) ?_ (co_X11_basket N q) lb_X11_basket 3000 50 S_X11_basket_50 _ _ h ls_X11_basket_50 hf
  intro pc ls st g e
  cases e
set_option maxRecDepth 100000 in
theorem m_X11_basket (N : Nat) {a0 : Nat} {x1 : Int32} {h : mH} {q : Int32 × mH} (hf : f_X11_basket N a0 x1 h = some q) : MM y_X11_basket 11 [.ref a0, .int x1] h (some (.int q.1)) q.2 := by
  refine MM.of (mFx (j := 148) rfl).2.2.2.1 (Nat.le_of_ble_eq_true rfl) (fun X => ?_)
  refine ev_ok (o := 11) (ini := false) (Cl := C_X11_basket N) (Rc := RcI) (B := B_X11_basket) (K := fun pc ls st g => kb pc 50 (pp1 st fun s_1 st => pr1 st fun s_0 st => pe st (J_X11_basket_50 N s_0 s_1 g)) (none)) rfl (fun e => by cases e) (by decide) (rcI_ok rfl) ?_ (co_X11_basket N q) lb_X11_basket 3000 0 S_X11_basket_0 _ _ h ls_X11_basket_0 hf
  intro pc ls st g e
  rcases kb_s e with ⟨rfl, e⟩ | e
  · obtain ⟨s_1, r0, q0, g0⟩ := pp1_s e
    obtain ⟨s_0, r1, q1, g1⟩ := pr1_s g0
    obtain ⟨qe, fe⟩ := pe_s g1
    subst qe
    subst q1
    subst q0
    exact MW.sub (fun _ h => absurd h List.not_mem_nil) (t_X11_basket_50 N s_0 s_1 g fe)
  cases e
def f_X11_fault (N : Nat) (a0 : Nat) (x1 : Int32) (h : mH) : Option (Int32 × mH) :=
  if x1 = jI 0 then
    (gR h 11 a0 4).bind fun v1 =>
    (gI h 8 v1 0).bind fun v2 =>
    some (v2, h)
  else
  if x1 = jI 1 then
    (gR h 11 a0 4).bind fun v3 =>
    (gI h 8 v3 1).bind fun v4 =>
    some (v4, h)
  else
  some (jI (-1), h)
def y_X11_fault : mM := (yX11_fault, cX11_fault, 2, (some .int))
def B_X11_fault : List (Nat × List mI) := [(28, [(.aload_n 0, 1, [0], []), (.getfield 26, 3, [11, 4, 2, 113], []), (.getfield 125, 3, [8, 0, 0, 31], []), (.ireturn, 1, [], [])]), (36, [(.aload_n 0, 1, [0], []), (.getfield 26, 3, [11, 4, 2, 113], []), (.getfield 140, 3, [8, 1, 0, 33], []), (.ireturn, 1, [], [])]), (44, [(.iconst (-1), 1, [], [-1]), (.ireturn, 1, [], [])])]
def S_X11_fault_0 : List mI := [(.iload_n 1, 1, [1], []), (.lookupswitch 43 #[(0, 27), (1, 35)], 27, [44, 28, 36], [0, 1])]
theorem lb_X11_fault : B_X11_fault.all (fun b => lst y_X11_fault.2.1 11 y_X11_fault.2.2.1 false b.1 b.2) = true := by decide +kernel
theorem ls_X11_fault_0 : lst y_X11_fault.2.1 11 y_X11_fault.2.2.1 false 0 S_X11_fault_0 = true := by decide +kernel
def C_X11_fault (N : Nat) : Nat → List Value → mH → (Option Value → mH → Option (Int32 × mH)) → Option (Int32 × mH) := fun j as g k => none
theorem co_X11_fault (N : Nat) (q : Int32 × mH) : clOK 4 q (C_X11_fault N) := by
  intro j as g k e
  cases e
set_option maxRecDepth 100000 in
theorem m_X11_fault (N : Nat) {a0 : Nat} {x1 : Int32} {h : mH} {q : Int32 × mH} (hf : f_X11_fault N a0 x1 h = some q) : MM y_X11_fault 4 [.ref a0, .int x1] h (some (.int q.1)) q.2 := by
  refine MM.of (mFx (j := 149) rfl).2.2.2.1 (Nat.le_of_ble_eq_true rfl) (fun X => ?_)
  refine ev_ok (o := 11) (ini := false) (Cl := C_X11_fault N) (Rc := RcI) (B := B_X11_fault) (K := fun pc ls st g => none) rfl (fun e => by cases e) (by decide) (rcI_ok rfl) ?_ (co_X11_fault N q) lb_X11_fault 3000 0 S_X11_fault_0 _ _ h ls_X11_fault_0 hf
  intro pc ls st g e
  cases e
def f_X11_rod (N : Nat) (a0 : Nat) (x1 : Int32) (x2 : Int32) (h : mH) : Option (Int32 × mH) :=
  (gR h 11 a0 2).bind fun v1 =>
  (rcv h 0 v1).bind fun _ =>
  (f_X0_hasKind N v1 x1 h).bind fun p2 =>
  if p2.1 = 0 then
    (rcv p2.2 11 a0).bind fun _ =>
    (f_X11_refuse N a0 (jI (-2)) p2.2).bind fun p3 =>
    some (p3.1, p3.2)
  else
    if x2 < 0 then
      (rcv p2.2 11 a0).bind fun _ =>
      (f_X11_refuse N a0 (jI (-2)) p2.2).bind fun p4 =>
      some (p4.1, p4.2)
    else
      if (jI 3) < x2 then
        (rcv p2.2 11 a0).bind fun _ =>
        (f_X11_refuse N a0 (jI (-2)) p2.2).bind fun p5 =>
        some (p5.1, p5.2)
      else
        (gR p2.2 11 a0 2).bind fun v6 =>
        (rcv p2.2 0 v6).bind fun _ =>
        (f_X0_ofKind N v6 x1 x2 p2.2).bind fun p7 =>
        some (p7.1, p7.2)
def y_X11_rod : mM := (yX11_rod, cX11_rod, 3, (some .int))
def B_X11_rod : List (Nat × List mI) := [(20, [(.aload_n 0, 1, [0], []), (.bipush (-2), 2, [], [-2]), (.invokevirtual 109, 3, [0, 203, 1, 11, 10], []), (.ireturn, 1, [], [])]), (27, [(.aload_n 0, 1, [0], []), (.getfield 16, 3, [11, 2, 2, 111], []), (.iload_n 1, 1, [1], []), (.iload_n 2, 1, [2], []), (.invokevirtual 146, 3, [0, 8, 2, 0, 44], []), (.ireturn, 1, [], [])])]
def S_X11_rod_0 : List mI := [(.aload_n 0, 1, [0], []), (.getfield 16, 3, [11, 2, 2, 111], []), (.iload_n 1, 1, [1], []), (.invokevirtual 143, 3, [0, 3, 1, 0, 43], []), (.ifCond .eq 12, 3, [20], []), (.iload_n 2, 1, [2], []), (.ifCond .lt 8, 3, [20], []), (.iload_n 2, 1, [2], []), (.iconst 3, 1, [], [3]), (.if_icmp .le 10, 3, [27], [])]
theorem lb_X11_rod : B_X11_rod.all (fun b => lst y_X11_rod.2.1 11 y_X11_rod.2.2.1 false b.1 b.2) = true := by decide +kernel
theorem ls_X11_rod_0 : lst y_X11_rod.2.1 11 y_X11_rod.2.2.1 false 0 S_X11_rod_0 = true := by decide +kernel
def C_X11_rod (N : Nat) : Nat → List Value → mH → (Option Value → mH → Option (Int32 × mH)) → Option (Int32 × mH) := fun j as g k => kb j 3 (pr1 as fun b0 as => pp1 as fun b1 as => pe as ((f_X0_hasKind N b0 b1 g).bind fun p => k (some (.int p.1)) p.2)) (kb j 203 (pr1 as fun b0 as => pp1 as fun b1 as => pe as ((f_X11_refuse N b0 b1 g).bind fun p => k (some (.int p.1)) p.2)) (kb j 8 (pr1 as fun b0 as => pp1 as fun b1 as => pp1 as fun b2 as => pe as ((f_X0_ofKind N b0 b1 b2 g).bind fun p => k (some (.int p.1)) p.2)) (none)))
theorem co_X11_rod (N : Nat) (q : Int32 × mH) : clOK 5 q (C_X11_rod N) := by
  intro j as g k e
  rcases kb_s e with ⟨rfl, e⟩ | e
  · obtain ⟨b0, r0, q0, f0⟩ := pr1_s e
    obtain ⟨b1, r1, q1, f1⟩ := pp1_s f0
    obtain ⟨qe, fe⟩ := pe_s f1
    obtain ⟨p, e1, e2⟩ := bnd_s fe
    subst qe
    subst q1
    subst q0
    exact ⟨_, _, _, _, 4, rfl, (by decide), m_X0_hasKind N e1, e2⟩
  rcases kb_s e with ⟨rfl, e⟩ | e
  · obtain ⟨b0, r0, q0, f0⟩ := pr1_s e
    obtain ⟨b1, r1, q1, f1⟩ := pp1_s f0
    obtain ⟨qe, fe⟩ := pe_s f1
    obtain ⟨p, e1, e2⟩ := bnd_s fe
    subst qe
    subst q1
    subst q0
    exact ⟨_, _, _, _, 4, rfl, (by decide), m_X11_refuse N e1, e2⟩
  rcases kb_s e with ⟨rfl, e⟩ | e
  · obtain ⟨b0, r0, q0, f0⟩ := pr1_s e
    obtain ⟨b1, r1, q1, f1⟩ := pp1_s f0
    obtain ⟨b2, r2, q2, f2⟩ := pp1_s f1
    obtain ⟨qe, fe⟩ := pe_s f2
    obtain ⟨p, e1, e2⟩ := bnd_s fe
    subst qe
    subst q2
    subst q1
    subst q0
    exact ⟨_, _, _, _, 4, rfl, (by decide), m_X0_ofKind N e1, e2⟩
  cases e
set_option maxRecDepth 100000 in
theorem m_X11_rod (N : Nat) {a0 : Nat} {x1 : Int32} {x2 : Int32} {h : mH} {q : Int32 × mH} (hf : f_X11_rod N a0 x1 x2 h = some q) : MM y_X11_rod 5 [.ref a0, .int x1, .int x2] h (some (.int q.1)) q.2 := by
  refine MM.of (mFx (j := 150) rfl).2.2.2.1 (Nat.le_of_ble_eq_true rfl) (fun X => ?_)
  refine ev_ok (o := 11) (ini := false) (Cl := C_X11_rod N) (Rc := RcI) (B := B_X11_rod) (K := fun pc ls st g => none) rfl (fun e => by cases e) (by decide) (rcI_ok rfl) ?_ (co_X11_rod N q) lb_X11_rod 3000 0 S_X11_rod_0 _ _ h ls_X11_rod_0 hf
  intro pc ls st g e
  cases e
def J_X11_band_66 (N : Nat) (a0 : Nat) (x1 : Int32) (s_0 : Int32) (h : mH) : Option (Int32 × mH) :=
  (gR h 11 a0 2).bind fun v1 =>
  (rcv h 0 v1).bind fun _ =>
  (f_X0_hasWeaver N v1 x1 s_0 h).bind fun p2 =>
  if p2.1 = 0 then
    (rcv p2.2 11 a0).bind fun _ =>
    (f_X11_refuse N a0 (jI (-2)) p2.2).bind fun p3 =>
    some (p3.1, p3.2)
  else
    (gR p2.2 11 a0 2).bind fun v4 =>
    (rcv p2.2 0 v4).bind fun _ =>
    (f_X0_kindOf N v4 x1 s_0 p2.2).bind fun p5 =>
    some (p5.1, p5.2)
def J_X11_band_37 (N : Nat) (a0 : Nat) (x1 : Int32) (x2 : Int32) (h : mH) : Option (Int32 × mH) :=
  if x2 = (jI 6) then
    (gR h 11 a0 2).bind fun v1 =>
    (rcv h 0 v1).bind fun _ =>
    (f_X0_slipsOfBand N v1 x1 h).bind fun p2 =>
    some (p2.1, p2.2)
  else
    if x2 < (jI 10) then
      J_X11_band_66 N a0 x1 (jI (-1)) h
    else
      J_X11_band_66 N a0 x1 (iSub x2 (jI 10)) h
def f_X11_band (N : Nat) (a0 : Nat) (x1 : Int32) (x2 : Int32) (h : mH) : Option (Int32 × mH) :=
  (gR h 11 a0 2).bind fun v1 =>
  (rcv h 0 v1).bind fun _ =>
  (f_X0_hasBand N v1 x1 h).bind fun p2 =>
  if p2.1 = 0 then
    (rcv p2.2 11 a0).bind fun _ =>
    (f_X11_refuse N a0 (jI (-2)) p2.2).bind fun p3 =>
    some (p3.1, p3.2)
  else
    if x2 < 0 then
      J_X11_band_37 N a0 x1 x2 p2.2
    else
      if (jI 5) < x2 then
        J_X11_band_37 N a0 x1 x2 p2.2
      else
        (gR p2.2 11 a0 2).bind fun v4 =>
        (rcv p2.2 0 v4).bind fun _ =>
        (f_X0_ofBand N v4 x1 x2 p2.2).bind fun p5 =>
        some (p5.1, p5.2)
def y_X11_band : mM := (yX11_band, cX11_band, 4, (some .int))
def B_X11_band : List (Nat × List mI) := [(18, [(.iload_n 2, 1, [2], []), (.ifCond .lt 18, 3, [37], []), (.iload_n 2, 1, [2], []), (.iconst 5, 1, [], [5]), (.if_icmp .gt 13, 3, [37], []), (.aload_n 0, 1, [0], []), (.getfield 16, 3, [11, 2, 2, 111], []), (.iload_n 1, 1, [1], []), (.iload_n 2, 1, [2], []), (.invokevirtual 153, 3, [0, 9, 2, 0, 47], []), (.ireturn, 1, [], [])]), (52, [(.iload_n 2, 1, [2], []), (.bipush 10, 2, [], [10]), (.if_icmp .ge 7, 3, [62], []), (.iconst (-1), 1, [], [-1]), (.goto 7, 3, [66], [])]), (62, [(.iload_n 2, 1, [2], []), (.bipush 10, 2, [], [10]), (.isub, 1, [], [])]), (91, [(.aload_n 0, 1, [0], []), (.bipush (-2), 2, [], [-2]), (.invokevirtual 109, 3, [0, 203, 1, 11, 10], [])]), (97, [(.ireturn, 1, [], [])])]
def S_X11_band_0 : List mI := [(.aload_n 0, 1, [0], []), (.getfield 16, 3, [11, 2, 2, 111], []), (.iload_n 1, 1, [1], []), (.invokevirtual 150, 3, [0, 4, 1, 0, 46], []), (.ifCond .ne 10, 3, [18], []), (.aload_n 0, 1, [0], []), (.bipush (-2), 2, [], [-2]), (.invokevirtual 109, 3, [0, 203, 1, 11, 10], []), (.ireturn, 1, [], [])]
def S_X11_band_37 : List mI := [(.iload_n 2, 1, [2], []), (.bipush 6, 2, [], [6]), (.if_icmp .ne 12, 3, [52], []), (.aload_n 0, 1, [0], []), (.getfield 16, 3, [11, 2, 2, 111], []), (.iload_n 1, 1, [1], []), (.invokevirtual 156, 3, [0, 16, 1, 0, 48], []), (.ireturn, 1, [], [])]
def S_X11_band_66 : List mI := [(.istore_n 3, 1, [3], []), (.aload_n 0, 1, [0], []), (.getfield 16, 3, [11, 2, 2, 111], []), (.iload_n 1, 1, [1], []), (.iload_n 3, 1, [3], []), (.invokevirtual 159, 3, [0, 6, 2, 0, 49], []), (.ifCond .eq 15, 3, [91], []), (.aload_n 0, 1, [0], []), (.getfield 16, 3, [11, 2, 2, 111], []), (.iload_n 1, 1, [1], []), (.iload_n 3, 1, [3], []), (.invokevirtual 163, 3, [0, 10, 2, 0, 51], []), (.goto 9, 3, [97], [])]
theorem lb_X11_band : B_X11_band.all (fun b => lst y_X11_band.2.1 11 y_X11_band.2.2.1 false b.1 b.2) = true := by decide +kernel
theorem ls_X11_band_0 : lst y_X11_band.2.1 11 y_X11_band.2.2.1 false 0 S_X11_band_0 = true := by decide +kernel
theorem ls_X11_band_37 : lst y_X11_band.2.1 11 y_X11_band.2.2.1 false 37 S_X11_band_37 = true := by decide +kernel
theorem ls_X11_band_66 : lst y_X11_band.2.1 11 y_X11_band.2.2.1 false 66 S_X11_band_66 = true := by decide +kernel
def C_X11_band (N : Nat) : Nat → List Value → mH → (Option Value → mH → Option (Int32 × mH)) → Option (Int32 × mH) := fun j as g k => kb j 4 (pr1 as fun b0 as => pp1 as fun b1 as => pe as ((f_X0_hasBand N b0 b1 g).bind fun p => k (some (.int p.1)) p.2)) (kb j 203 (pr1 as fun b0 as => pp1 as fun b1 as => pe as ((f_X11_refuse N b0 b1 g).bind fun p => k (some (.int p.1)) p.2)) (kb j 9 (pr1 as fun b0 as => pp1 as fun b1 as => pp1 as fun b2 as => pe as ((f_X0_ofBand N b0 b1 b2 g).bind fun p => k (some (.int p.1)) p.2)) (kb j 16 (pr1 as fun b0 as => pp1 as fun b1 as => pe as ((f_X0_slipsOfBand N b0 b1 g).bind fun p => k (some (.int p.1)) p.2)) (kb j 6 (pr1 as fun b0 as => pp1 as fun b1 as => pp1 as fun b2 as => pe as ((f_X0_hasWeaver N b0 b1 b2 g).bind fun p => k (some (.int p.1)) p.2)) (kb j 10 (pr1 as fun b0 as => pp1 as fun b1 as => pp1 as fun b2 as => pe as ((f_X0_kindOf N b0 b1 b2 g).bind fun p => k (some (.int p.1)) p.2)) (none))))))
theorem co_X11_band (N : Nat) (q : Int32 × mH) : clOK 6 q (C_X11_band N) := by
  intro j as g k e
  rcases kb_s e with ⟨rfl, e⟩ | e
  · obtain ⟨b0, r0, q0, f0⟩ := pr1_s e
    obtain ⟨b1, r1, q1, f1⟩ := pp1_s f0
    obtain ⟨qe, fe⟩ := pe_s f1
    obtain ⟨p, e1, e2⟩ := bnd_s fe
    subst qe
    subst q1
    subst q0
    exact ⟨_, _, _, _, 4, rfl, (by decide), m_X0_hasBand N e1, e2⟩
  rcases kb_s e with ⟨rfl, e⟩ | e
  · obtain ⟨b0, r0, q0, f0⟩ := pr1_s e
    obtain ⟨b1, r1, q1, f1⟩ := pp1_s f0
    obtain ⟨qe, fe⟩ := pe_s f1
    obtain ⟨p, e1, e2⟩ := bnd_s fe
    subst qe
    subst q1
    subst q0
    exact ⟨_, _, _, _, 4, rfl, (by decide), m_X11_refuse N e1, e2⟩
  rcases kb_s e with ⟨rfl, e⟩ | e
  · obtain ⟨b0, r0, q0, f0⟩ := pr1_s e
    obtain ⟨b1, r1, q1, f1⟩ := pp1_s f0
    obtain ⟨b2, r2, q2, f2⟩ := pp1_s f1
    obtain ⟨qe, fe⟩ := pe_s f2
    obtain ⟨p, e1, e2⟩ := bnd_s fe
    subst qe
    subst q2
    subst q1
    subst q0
    exact ⟨_, _, _, _, 4, rfl, (by decide), m_X0_ofBand N e1, e2⟩
  rcases kb_s e with ⟨rfl, e⟩ | e
  · obtain ⟨b0, r0, q0, f0⟩ := pr1_s e
    obtain ⟨b1, r1, q1, f1⟩ := pp1_s f0
    obtain ⟨qe, fe⟩ := pe_s f1
    obtain ⟨p, e1, e2⟩ := bnd_s fe
    subst qe
    subst q1
    subst q0
    exact ⟨_, _, _, _, 4, rfl, (by decide), m_X0_slipsOfBand N e1, e2⟩
  rcases kb_s e with ⟨rfl, e⟩ | e
  · obtain ⟨b0, r0, q0, f0⟩ := pr1_s e
    obtain ⟨b1, r1, q1, f1⟩ := pp1_s f0
    obtain ⟨b2, r2, q2, f2⟩ := pp1_s f1
    obtain ⟨qe, fe⟩ := pe_s f2
    obtain ⟨p, e1, e2⟩ := bnd_s fe
    subst qe
    subst q2
    subst q1
    subst q0
    exact ⟨_, _, _, _, 5, rfl, (by decide), m_X0_hasWeaver N e1, e2⟩
  rcases kb_s e with ⟨rfl, e⟩ | e
  · obtain ⟨b0, r0, q0, f0⟩ := pr1_s e
    obtain ⟨b1, r1, q1, f1⟩ := pp1_s f0
    obtain ⟨b2, r2, q2, f2⟩ := pp1_s f1
    obtain ⟨qe, fe⟩ := pe_s f2
    obtain ⟨p, e1, e2⟩ := bnd_s fe
    subst qe
    subst q2
    subst q1
    subst q0
    exact ⟨_, _, _, _, 5, rfl, (by decide), m_X0_kindOf N e1, e2⟩
  cases e
set_option maxRecDepth 100000 in
theorem t_X11_band_66 {X : Nat × (Nat → Int32)} (N : Nat) {q : Int32 × mH} (a0 : Nat) (x1 : Int32) (s_0 : Int32) (h : mH) (hf : J_X11_band_66 N a0 x1 s_0 h = some q) : MW X y_X11_band 6 66 [(0, .ref a0), (1, .int x1)] [.int s_0] h (some (.int q.1)) q.2 := by
  refine ev_ok (o := 11) (ini := false) (Cl := C_X11_band N) (Rc := RcI) (B := B_X11_band) (K := fun pc ls st g => none) rfl (fun e => by cases e) (by decide) (rcI_ok rfl) ?_ (co_X11_band N q) lb_X11_band 3000 66 S_X11_band_66 _ _ h ls_X11_band_66 hf
  intro pc ls st g e
  cases e
set_option maxRecDepth 100000 in
theorem t_X11_band_37 {X : Nat × (Nat → Int32)} (N : Nat) {q : Int32 × mH} (a0 : Nat) (x1 : Int32) (x2 : Int32) (h : mH) (hf : J_X11_band_37 N a0 x1 x2 h = some q) : MW X y_X11_band 6 37 [(0, .ref a0), (1, .int x1), (2, .int x2)] [] h (some (.int q.1)) q.2 := by
  refine ev_ok (o := 11) (ini := false) (Cl := C_X11_band N) (Rc := RcI) (B := B_X11_band) (K := fun pc ls st g => kb pc 66 (lgr 0 ls fun a0 => lgi 1 ls fun x1 => pp1 st fun s_0 st => pe st (J_X11_band_66 N a0 x1 s_0 g)) (none)) rfl (fun e => by cases e) (by decide) (rcI_ok rfl) ?_ (co_X11_band N q) lb_X11_band 3000 37 S_X11_band_37 _ _ h ls_X11_band_37 hf
  intro pc ls st g e
  rcases kb_s e with ⟨rfl, e⟩ | e
  · obtain ⟨a0, e0, f0⟩ := lgr_s e
    obtain ⟨x1, e1, f1⟩ := lgi_s f0
    obtain ⟨s_0, r0, q0, g0⟩ := pp1_s f1
    obtain ⟨qe, fe⟩ := pe_s g0
    subst qe
    subst q0
    exact MW.sub (List.forall_mem_cons.mpr ⟨lg_mem e0, List.forall_mem_cons.mpr ⟨lg_mem e1, fun _ h => absurd h List.not_mem_nil⟩⟩) (t_X11_band_66 N a0 x1 s_0 g fe)
  cases e
set_option maxRecDepth 100000 in
theorem m_X11_band (N : Nat) {a0 : Nat} {x1 : Int32} {x2 : Int32} {h : mH} {q : Int32 × mH} (hf : f_X11_band N a0 x1 x2 h = some q) : MM y_X11_band 6 [.ref a0, .int x1, .int x2] h (some (.int q.1)) q.2 := by
  refine MM.of (mFx (j := 151) rfl).2.2.2.1 (Nat.le_of_ble_eq_true rfl) (fun X => ?_)
  refine ev_ok (o := 11) (ini := false) (Cl := C_X11_band N) (Rc := RcI) (B := B_X11_band) (K := fun pc ls st g => kb pc 37 (lgr 0 ls fun a0 => lgi 1 ls fun x1 => lgi 2 ls fun x2 => pe st (J_X11_band_37 N a0 x1 x2 g)) (none)) rfl (fun e => by cases e) (by decide) (rcI_ok rfl) ?_ (co_X11_band N q) lb_X11_band 3000 0 S_X11_band_0 _ _ h ls_X11_band_0 hf
  intro pc ls st g e
  rcases kb_s e with ⟨rfl, e⟩ | e
  · obtain ⟨a0, e0, f0⟩ := lgr_s e
    obtain ⟨x1, e1, f1⟩ := lgi_s f0
    obtain ⟨x2, e2, f2⟩ := lgi_s f1
    obtain ⟨qe, fe⟩ := pe_s f2
    subst qe
    exact MW.sub (List.forall_mem_cons.mpr ⟨lg_mem e0, List.forall_mem_cons.mpr ⟨lg_mem e1, List.forall_mem_cons.mpr ⟨lg_mem e2, fun _ h => absurd h List.not_mem_nil⟩⟩⟩) (t_X11_band_37 N a0 x1 x2 g fe)
  cases e
def f_X11_lean (N : Nat) (a0 : Nat) (x1 : Int32) (h : mH) : Option (Int32 × mH) :=
  (gR h 11 a0 2).bind fun v1 =>
  (rcv h 0 v1).bind fun _ =>
  (f_X0_hasBand N v1 x1 h).bind fun p2 =>
  if p2.1 = 0 then
    (rcv p2.2 11 a0).bind fun _ =>
    (f_X11_refuse N a0 (jI (-2)) p2.2).bind fun p3 =>
    some (jI (-100), p3.2)
  else
    (gR p2.2 11 a0 2).bind fun v4 =>
    (rcv p2.2 0 v4).bind fun _ =>
    (f_X0_ofBand N v4 x1 (jI 6) p2.2).bind fun p5 =>
    some (p5.1, p5.2)
def y_X11_lean : mM := (yX11_lean, cX11_lean, 2, (some .int))
def B_X11_lean : List (Nat × List mI) := [(21, [(.aload_n 0, 1, [0], []), (.getfield 16, 3, [11, 2, 2, 111], []), (.iload_n 1, 1, [1], []), (.bipush 6, 2, [], [6]), (.invokevirtual 153, 3, [0, 9, 2, 0, 47], []), (.ireturn, 1, [], [])])]
def S_X11_lean_0 : List mI := [(.aload_n 0, 1, [0], []), (.getfield 16, 3, [11, 2, 2, 111], []), (.iload_n 1, 1, [1], []), (.invokevirtual 150, 3, [0, 4, 1, 0, 46], []), (.ifCond .ne 13, 3, [21], []), (.aload_n 0, 1, [0], []), (.bipush (-2), 2, [], [-2]), (.invokevirtual 109, 3, [0, 203, 1, 11, 10], []), (.pop, 1, [], []), (.bipush (-100), 2, [], [-100]), (.ireturn, 1, [], [])]
theorem lb_X11_lean : B_X11_lean.all (fun b => lst y_X11_lean.2.1 11 y_X11_lean.2.2.1 false b.1 b.2) = true := by decide +kernel
theorem ls_X11_lean_0 : lst y_X11_lean.2.1 11 y_X11_lean.2.2.1 false 0 S_X11_lean_0 = true := by decide +kernel
def C_X11_lean (N : Nat) : Nat → List Value → mH → (Option Value → mH → Option (Int32 × mH)) → Option (Int32 × mH) := fun j as g k => kb j 4 (pr1 as fun b0 as => pp1 as fun b1 as => pe as ((f_X0_hasBand N b0 b1 g).bind fun p => k (some (.int p.1)) p.2)) (kb j 203 (pr1 as fun b0 as => pp1 as fun b1 as => pe as ((f_X11_refuse N b0 b1 g).bind fun p => k (some (.int p.1)) p.2)) (kb j 9 (pr1 as fun b0 as => pp1 as fun b1 as => pp1 as fun b2 as => pe as ((f_X0_ofBand N b0 b1 b2 g).bind fun p => k (some (.int p.1)) p.2)) (none)))
theorem co_X11_lean (N : Nat) (q : Int32 × mH) : clOK 5 q (C_X11_lean N) := by
  intro j as g k e
  rcases kb_s e with ⟨rfl, e⟩ | e
  · obtain ⟨b0, r0, q0, f0⟩ := pr1_s e
    obtain ⟨b1, r1, q1, f1⟩ := pp1_s f0
    obtain ⟨qe, fe⟩ := pe_s f1
    obtain ⟨p, e1, e2⟩ := bnd_s fe
    subst qe
    subst q1
    subst q0
    exact ⟨_, _, _, _, 4, rfl, (by decide), m_X0_hasBand N e1, e2⟩
  rcases kb_s e with ⟨rfl, e⟩ | e
  · obtain ⟨b0, r0, q0, f0⟩ := pr1_s e
    obtain ⟨b1, r1, q1, f1⟩ := pp1_s f0
    obtain ⟨qe, fe⟩ := pe_s f1
    obtain ⟨p, e1, e2⟩ := bnd_s fe
    subst qe
    subst q1
    subst q0
    exact ⟨_, _, _, _, 4, rfl, (by decide), m_X11_refuse N e1, e2⟩
  rcases kb_s e with ⟨rfl, e⟩ | e
  · obtain ⟨b0, r0, q0, f0⟩ := pr1_s e
    obtain ⟨b1, r1, q1, f1⟩ := pp1_s f0
    obtain ⟨b2, r2, q2, f2⟩ := pp1_s f1
    obtain ⟨qe, fe⟩ := pe_s f2
    obtain ⟨p, e1, e2⟩ := bnd_s fe
    subst qe
    subst q2
    subst q1
    subst q0
    exact ⟨_, _, _, _, 4, rfl, (by decide), m_X0_ofBand N e1, e2⟩
  cases e
set_option maxRecDepth 100000 in
theorem m_X11_lean (N : Nat) {a0 : Nat} {x1 : Int32} {h : mH} {q : Int32 × mH} (hf : f_X11_lean N a0 x1 h = some q) : MM y_X11_lean 5 [.ref a0, .int x1] h (some (.int q.1)) q.2 := by
  refine MM.of (mFx (j := 152) rfl).2.2.2.1 (Nat.le_of_ble_eq_true rfl) (fun X => ?_)
  refine ev_ok (o := 11) (ini := false) (Cl := C_X11_lean N) (Rc := RcI) (B := B_X11_lean) (K := fun pc ls st g => none) rfl (fun e => by cases e) (by decide) (rcI_ok rfl) ?_ (co_X11_lean N q) lb_X11_lean 3000 0 S_X11_lean_0 _ _ h ls_X11_lean_0 hf
  intro pc ls st g e
  cases e
def f_X11_crossing (N : Nat) (a0 : Nat) (x1 : Int32) (x2 : Int32) (x3 : Int32) (x4 : Int32) (h : mH) : Option (Int32 × mH) :=
  (gR h 11 a0 2).bind fun v1 =>
  (rcv h 0 v1).bind fun _ =>
  (f_X0_hasCrossing N v1 x1 x2 x3 h).bind fun p2 =>
  if p2.1 = 0 then
    (rcv p2.2 11 a0).bind fun _ =>
    (f_X11_refuse N a0 (jI (-2)) p2.2).bind fun p3 =>
    some (p3.1, p3.2)
  else
    (gR p2.2 11 a0 2).bind fun v4 =>
    (rcv p2.2 0 v4).bind fun _ =>
    (f_X0_rodAt N v4 x1 x2 x3 p2.2).bind fun p5 =>
    if x4 = jI 0 then
      (gR p5.2 11 a0 2).bind fun v6 =>
      (rcv p5.2 0 v6).bind fun _ =>
      (f_X0_stakeAt N v6 x1 x2 x3 p5.2).bind fun p7 =>
      some (p7.1, p7.2)
    else
    if x4 = jI 1 then
      (gR p5.2 11 a0 5).bind fun v8 =>
      (rcv p5.2 10 v8).bind fun _ =>
      (f_X10_goesOver N v8 x1 x2 x3 p5.2).bind fun p9 =>
      if p9.1 = 0 then
        some (jI 0, p9.2)
      else
        some (jI 1, p9.2)
    else
    if x4 = jI 2 then
      some (p5.1, p5.2)
    else
    if x4 = jI 3 then
      (gR p5.2 11 a0 2).bind fun v10 =>
      (gR p5.2 11 a0 2).bind fun v11 =>
      (rcv p5.2 0 v11).bind fun _ =>
      (f_X0_kindOf N v11 x1 x2 p5.2).bind fun p12 =>
      (gR p12.2 11 a0 2).bind fun v13 =>
      (gI p12.2 0 v13 4).bind fun v14 =>
      (rcv p12.2 0 v10).bind fun _ =>
      (f_X0_rodStep N v10 p12.1 v14 p12.2).bind fun p15 =>
      some (iSub x3 (iMul p5.1 p15.1), p15.2)
    else
    if x4 = jI 4 then
      if (iAnd p5.1 (jI 1)) = 0 then
        some (jI 1, p5.2)
      else
        some (jI 0, p5.2)
    else
    if x4 = jI 5 then
      (gR p5.2 11 a0 2).bind fun v16 =>
      (rcv p5.2 0 v16).bind fun _ =>
      (f_X0_whenOf N v16 x1 x2 x3 p5.2).bind fun p17 =>
      some (p17.1, p17.2)
    else
    (rcv p5.2 11 a0).bind fun _ =>
    (f_X11_refuse N a0 (jI (-2)) p5.2).bind fun p18 =>
    some (p18.1, p18.2)
def y_X11_crossing : mM := (yX11_crossing, cX11_crossing, 6, (some .int))
def B_X11_crossing : List (Nat × List mI) := [(20, [(.aload_n 0, 1, [0], []), (.getfield 16, 3, [11, 2, 2, 111], []), (.iload_n 1, 1, [1], []), (.iload_n 2, 1, [2], []), (.iload_n 3, 1, [3], []), (.invokevirtual 170, 3, [0, 26, 3, 0, 57], []), (.istore 5, 2, [5], []), (.iload 4, 2, [4], []), (.tableswitch 124 0 5 #[38, 49, 68, 71, 100, 113], 38, [158, 72, 83, 102, 105, 134, 147], [0, 1, 2, 3, 4, 5])]), (72, [(.aload_n 0, 1, [0], []), (.getfield 16, 3, [11, 2, 2, 111], []), (.iload_n 1, 1, [1], []), (.iload_n 2, 1, [2], []), (.iload_n 3, 1, [3], []), (.invokevirtual 174, 3, [0, 18, 3, 0, 62], []), (.ireturn, 1, [], [])]), (83, [(.aload_n 0, 1, [0], []), (.getfield 35, 3, [11, 5, 2, 114], []), (.iload_n 1, 1, [1], []), (.iload_n 2, 1, [2], []), (.iload_n 3, 1, [3], []), (.invokevirtual 177, 3, [0, 129, 3, 10, 65], []), (.ifCond .eq 7, 3, [100], []), (.iconst 1, 1, [], [1]), (.goto 4, 3, [101], [])]), (100, [(.iconst 0, 1, [], [0])]), (101, [(.ireturn, 1, [], [])]), (102, [(.iload 5, 2, [5], []), (.ireturn, 1, [], [])]), (105, [(.iload_n 3, 1, [3], []), (.iload 5, 2, [5], []), (.aload_n 0, 1, [0], []), (.getfield 16, 3, [11, 2, 2, 111], []), (.aload_n 0, 1, [0], []), (.getfield 16, 3, [11, 2, 2, 111], []), (.iload_n 1, 1, [1], []), (.iload_n 2, 1, [2], []), (.invokevirtual 163, 3, [0, 10, 2, 0, 51], []), (.aload_n 0, 1, [0], []), (.getfield 16, 3, [11, 2, 2, 111], []), (.getfield 180, 3, [0, 4, 0, 16], []), (.invokevirtual 183, 3, [0, 24, 2, 0, 75], []), (.imul, 1, [], []), (.isub, 1, [], []), (.ireturn, 1, [], [])]), (134, [(.iload 5, 2, [5], []), (.iconst 1, 1, [], [1]), (.iand, 1, [], []), (.ifCond .ne 7, 3, [145], []), (.iconst 1, 1, [], [1]), (.goto 4, 3, [146], [])]), (145, [(.iconst 0, 1, [], [0])]), (146, [(.ireturn, 1, [], [])]), (147, [(.aload_n 0, 1, [0], []), (.getfield 16, 3, [11, 2, 2, 111], []), (.iload_n 1, 1, [1], []), (.iload_n 2, 1, [2], []), (.iload_n 3, 1, [3], []), (.invokevirtual 186, 3, [0, 22, 3, 0, 76], []), (.ireturn, 1, [], [])]), (158, [(.aload_n 0, 1, [0], []), (.bipush (-2), 2, [], [-2]), (.invokevirtual 109, 3, [0, 203, 1, 11, 10], []), (.ireturn, 1, [], [])])]
def S_X11_crossing_0 : List mI := [(.aload_n 0, 1, [0], []), (.getfield 16, 3, [11, 2, 2, 111], []), (.iload_n 1, 1, [1], []), (.iload_n 2, 1, [2], []), (.iload_n 3, 1, [3], []), (.invokevirtual 166, 3, [0, 7, 3, 0, 54], []), (.ifCond .ne 10, 3, [20], []), (.aload_n 0, 1, [0], []), (.bipush (-2), 2, [], [-2]), (.invokevirtual 109, 3, [0, 203, 1, 11, 10], []), (.ireturn, 1, [], [])]
theorem lb_X11_crossing : B_X11_crossing.all (fun b => lst y_X11_crossing.2.1 11 y_X11_crossing.2.2.1 false b.1 b.2) = true := by decide +kernel
theorem ls_X11_crossing_0 : lst y_X11_crossing.2.1 11 y_X11_crossing.2.2.1 false 0 S_X11_crossing_0 = true := by decide +kernel
def C_X11_crossing (N : Nat) : Nat → List Value → mH → (Option Value → mH → Option (Int32 × mH)) → Option (Int32 × mH) := fun j as g k => kb j 7 (pr1 as fun b0 as => pp1 as fun b1 as => pp1 as fun b2 as => pp1 as fun b3 as => pe as ((f_X0_hasCrossing N b0 b1 b2 b3 g).bind fun p => k (some (.int p.1)) p.2)) (kb j 203 (pr1 as fun b0 as => pp1 as fun b1 as => pe as ((f_X11_refuse N b0 b1 g).bind fun p => k (some (.int p.1)) p.2)) (kb j 26 (pr1 as fun b0 as => pp1 as fun b1 as => pp1 as fun b2 as => pp1 as fun b3 as => pe as ((f_X0_rodAt N b0 b1 b2 b3 g).bind fun p => k (some (.int p.1)) p.2)) (kb j 18 (pr1 as fun b0 as => pp1 as fun b1 as => pp1 as fun b2 as => pp1 as fun b3 as => pe as ((f_X0_stakeAt N b0 b1 b2 b3 g).bind fun p => k (some (.int p.1)) p.2)) (kb j 129 (pr1 as fun b0 as => pp1 as fun b1 as => pp1 as fun b2 as => pp1 as fun b3 as => pe as ((f_X10_goesOver N b0 b1 b2 b3 g).bind fun p => k (some (.int p.1)) p.2)) (kb j 10 (pr1 as fun b0 as => pp1 as fun b1 as => pp1 as fun b2 as => pe as ((f_X0_kindOf N b0 b1 b2 g).bind fun p => k (some (.int p.1)) p.2)) (kb j 24 (pr1 as fun b0 as => pp1 as fun b1 as => pp1 as fun b2 as => pe as ((f_X0_rodStep N b0 b1 b2 g).bind fun p => k (some (.int p.1)) p.2)) (kb j 22 (pr1 as fun b0 as => pp1 as fun b1 as => pp1 as fun b2 as => pp1 as fun b3 as => pe as ((f_X0_whenOf N b0 b1 b2 b3 g).bind fun p => k (some (.int p.1)) p.2)) (none))))))))
theorem co_X11_crossing (N : Nat) (q : Int32 × mH) : clOK 9 q (C_X11_crossing N) := by
  intro j as g k e
  rcases kb_s e with ⟨rfl, e⟩ | e
  · obtain ⟨b0, r0, q0, f0⟩ := pr1_s e
    obtain ⟨b1, r1, q1, f1⟩ := pp1_s f0
    obtain ⟨b2, r2, q2, f2⟩ := pp1_s f1
    obtain ⟨b3, r3, q3, f3⟩ := pp1_s f2
    obtain ⟨qe, fe⟩ := pe_s f3
    obtain ⟨p, e1, e2⟩ := bnd_s fe
    subst qe
    subst q3
    subst q2
    subst q1
    subst q0
    exact ⟨_, _, _, _, 6, rfl, (by decide), m_X0_hasCrossing N e1, e2⟩
  rcases kb_s e with ⟨rfl, e⟩ | e
  · obtain ⟨b0, r0, q0, f0⟩ := pr1_s e
    obtain ⟨b1, r1, q1, f1⟩ := pp1_s f0
    obtain ⟨qe, fe⟩ := pe_s f1
    obtain ⟨p, e1, e2⟩ := bnd_s fe
    subst qe
    subst q1
    subst q0
    exact ⟨_, _, _, _, 4, rfl, (by decide), m_X11_refuse N e1, e2⟩
  rcases kb_s e with ⟨rfl, e⟩ | e
  · obtain ⟨b0, r0, q0, f0⟩ := pr1_s e
    obtain ⟨b1, r1, q1, f1⟩ := pp1_s f0
    obtain ⟨b2, r2, q2, f2⟩ := pp1_s f1
    obtain ⟨b3, r3, q3, f3⟩ := pp1_s f2
    obtain ⟨qe, fe⟩ := pe_s f3
    obtain ⟨p, e1, e2⟩ := bnd_s fe
    subst qe
    subst q3
    subst q2
    subst q1
    subst q0
    exact ⟨_, _, _, _, 7, rfl, (by decide), m_X0_rodAt N e1, e2⟩
  rcases kb_s e with ⟨rfl, e⟩ | e
  · obtain ⟨b0, r0, q0, f0⟩ := pr1_s e
    obtain ⟨b1, r1, q1, f1⟩ := pp1_s f0
    obtain ⟨b2, r2, q2, f2⟩ := pp1_s f1
    obtain ⟨b3, r3, q3, f3⟩ := pp1_s f2
    obtain ⟨qe, fe⟩ := pe_s f3
    obtain ⟨p, e1, e2⟩ := bnd_s fe
    subst qe
    subst q3
    subst q2
    subst q1
    subst q0
    exact ⟨_, _, _, _, 5, rfl, (by decide), m_X0_stakeAt N e1, e2⟩
  rcases kb_s e with ⟨rfl, e⟩ | e
  · obtain ⟨b0, r0, q0, f0⟩ := pr1_s e
    obtain ⟨b1, r1, q1, f1⟩ := pp1_s f0
    obtain ⟨b2, r2, q2, f2⟩ := pp1_s f1
    obtain ⟨b3, r3, q3, f3⟩ := pp1_s f2
    obtain ⟨qe, fe⟩ := pe_s f3
    obtain ⟨p, e1, e2⟩ := bnd_s fe
    subst qe
    subst q3
    subst q2
    subst q1
    subst q0
    exact ⟨_, _, _, _, 8, rfl, (by decide), m_X10_goesOver N e1, e2⟩
  rcases kb_s e with ⟨rfl, e⟩ | e
  · obtain ⟨b0, r0, q0, f0⟩ := pr1_s e
    obtain ⟨b1, r1, q1, f1⟩ := pp1_s f0
    obtain ⟨b2, r2, q2, f2⟩ := pp1_s f1
    obtain ⟨qe, fe⟩ := pe_s f2
    obtain ⟨p, e1, e2⟩ := bnd_s fe
    subst qe
    subst q2
    subst q1
    subst q0
    exact ⟨_, _, _, _, 5, rfl, (by decide), m_X0_kindOf N e1, e2⟩
  rcases kb_s e with ⟨rfl, e⟩ | e
  · obtain ⟨b0, r0, q0, f0⟩ := pr1_s e
    obtain ⟨b1, r1, q1, f1⟩ := pp1_s f0
    obtain ⟨b2, r2, q2, f2⟩ := pp1_s f1
    obtain ⟨qe, fe⟩ := pe_s f2
    obtain ⟨p, e1, e2⟩ := bnd_s fe
    subst qe
    subst q2
    subst q1
    subst q0
    exact ⟨_, _, _, _, 5, rfl, (by decide), m_X0_rodStep N e1, e2⟩
  rcases kb_s e with ⟨rfl, e⟩ | e
  · obtain ⟨b0, r0, q0, f0⟩ := pr1_s e
    obtain ⟨b1, r1, q1, f1⟩ := pp1_s f0
    obtain ⟨b2, r2, q2, f2⟩ := pp1_s f1
    obtain ⟨b3, r3, q3, f3⟩ := pp1_s f2
    obtain ⟨qe, fe⟩ := pe_s f3
    obtain ⟨p, e1, e2⟩ := bnd_s fe
    subst qe
    subst q3
    subst q2
    subst q1
    subst q0
    exact ⟨_, _, _, _, 7, rfl, (by decide), m_X0_whenOf N e1, e2⟩
  cases e
set_option maxRecDepth 100000 in
theorem m_X11_crossing (N : Nat) {a0 : Nat} {x1 : Int32} {x2 : Int32} {x3 : Int32} {x4 : Int32} {h : mH} {q : Int32 × mH} (hf : f_X11_crossing N a0 x1 x2 x3 x4 h = some q) : MM y_X11_crossing 9 [.ref a0, .int x1, .int x2, .int x3, .int x4] h (some (.int q.1)) q.2 := by
  refine MM.of (mFx (j := 153) rfl).2.2.2.1 (Nat.le_of_ble_eq_true rfl) (fun X => ?_)
  refine ev_ok (o := 11) (ini := false) (Cl := C_X11_crossing N) (Rc := RcI) (B := B_X11_crossing) (K := fun pc ls st g => none) rfl (fun e => by cases e) (by decide) (rcI_ok rfl) ?_ (co_X11_crossing N q) lb_X11_crossing 3000 0 S_X11_crossing_0 _ _ h ls_X11_crossing_0 hf
  intro pc ls st g e
  cases e
def f_X11_seen (N : Nat) (a0 : Nat) (x1 : Int32) (x2 : Int32) (x3 : Int32) (x4 : Int32) (h : mH) : Option (Int32 × mH) :=
  (gR h 11 a0 2).bind fun v1 =>
  (rcv h 0 v1).bind fun _ =>
  (f_X0_hasBand N v1 x1 h).bind fun p2 =>
  if p2.1 = 0 then
    (rcv p2.2 11 a0).bind fun _ =>
    (f_X11_refuse N a0 (jI (-2)) p2.2).bind fun p3 =>
    some (p3.1, p3.2)
  else
    if x2 < 0 then
      (rcv p2.2 11 a0).bind fun _ =>
      (f_X11_refuse N a0 (jI (-2)) p2.2).bind fun p4 =>
      some (p4.1, p4.2)
    else
      (gR p2.2 11 a0 2).bind fun v5 =>
      (rcv p2.2 0 v5).bind fun _ =>
      (f_X0_rowsOf N v5 x1 p2.2).bind fun p6 =>
      if x2 < p6.1 then
        (gR p6.2 11 a0 2).bind fun v7 =>
        (rcv p6.2 0 v7).bind fun _ =>
        (f_X0_hasStake N v7 x3 p6.2).bind fun p8 =>
        if p8.1 = 0 then
          (rcv p8.2 11 a0).bind fun _ =>
          (f_X11_refuse N a0 (jI (-2)) p8.2).bind fun p9 =>
          some (p9.1, p9.2)
        else
          (gR p8.2 11 a0 5).bind fun v10 =>
          (rcv p8.2 10 v10).bind fun _ =>
          (f_X10_kindSeen N v10 x1 x2 x3 x4 p8.2).bind fun p11 =>
          some (p11.1, p11.2)
      else
        (rcv p6.2 11 a0).bind fun _ =>
        (f_X11_refuse N a0 (jI (-2)) p6.2).bind fun p12 =>
        some (p12.1, p12.2)
def y_X11_seen : mM := (yX11_seen, cX11_seen, 5, (some .int))
def B_X11_seen : List (Nat × List mI) := [(38, [(.aload_n 0, 1, [0], []), (.bipush (-2), 2, [], [-2]), (.invokevirtual 109, 3, [0, 203, 1, 11, 10], []), (.ireturn, 1, [], [])]), (45, [(.aload_n 0, 1, [0], []), (.getfield 35, 3, [11, 5, 2, 114], []), (.iload_n 1, 1, [1], []), (.iload_n 2, 1, [2], []), (.iload_n 3, 1, [3], []), (.iload 4, 2, [4], []), (.invokevirtual 195, 3, [0, 131, 4, 10, 81], []), (.ireturn, 1, [], [])])]
def S_X11_seen_0 : List mI := [(.aload_n 0, 1, [0], []), (.getfield 16, 3, [11, 2, 2, 111], []), (.iload_n 1, 1, [1], []), (.invokevirtual 150, 3, [0, 4, 1, 0, 46], []), (.ifCond .eq 30, 3, [38], []), (.iload_n 2, 1, [2], []), (.ifCond .lt 26, 3, [38], []), (.iload_n 2, 1, [2], []), (.aload_n 0, 1, [0], []), (.getfield 16, 3, [11, 2, 2, 111], []), (.iload_n 1, 1, [1], []), (.invokevirtual 189, 3, [0, 15, 1, 0, 79], []), (.if_icmp .ge 14, 3, [38], []), (.aload_n 0, 1, [0], []), (.getfield 16, 3, [11, 2, 2, 111], []), (.iload_n 3, 1, [3], []), (.invokevirtual 192, 3, [0, 5, 1, 0, 80], []), (.ifCond .ne 10, 3, [45], [])]
theorem lb_X11_seen : B_X11_seen.all (fun b => lst y_X11_seen.2.1 11 y_X11_seen.2.2.1 false b.1 b.2) = true := by decide +kernel
theorem ls_X11_seen_0 : lst y_X11_seen.2.1 11 y_X11_seen.2.2.1 false 0 S_X11_seen_0 = true := by decide +kernel
def C_X11_seen (N : Nat) : Nat → List Value → mH → (Option Value → mH → Option (Int32 × mH)) → Option (Int32 × mH) := fun j as g k => kb j 4 (pr1 as fun b0 as => pp1 as fun b1 as => pe as ((f_X0_hasBand N b0 b1 g).bind fun p => k (some (.int p.1)) p.2)) (kb j 15 (pr1 as fun b0 as => pp1 as fun b1 as => pe as ((f_X0_rowsOf N b0 b1 g).bind fun p => k (some (.int p.1)) p.2)) (kb j 5 (pr1 as fun b0 as => pp1 as fun b1 as => pe as ((f_X0_hasStake N b0 b1 g).bind fun p => k (some (.int p.1)) p.2)) (kb j 203 (pr1 as fun b0 as => pp1 as fun b1 as => pe as ((f_X11_refuse N b0 b1 g).bind fun p => k (some (.int p.1)) p.2)) (kb j 131 (pr1 as fun b0 as => pp1 as fun b1 as => pp1 as fun b2 as => pp1 as fun b3 as => pp1 as fun b4 as => pe as ((f_X10_kindSeen N b0 b1 b2 b3 b4 g).bind fun p => k (some (.int p.1)) p.2)) (none)))))
theorem co_X11_seen (N : Nat) (q : Int32 × mH) : clOK 10 q (C_X11_seen N) := by
  intro j as g k e
  rcases kb_s e with ⟨rfl, e⟩ | e
  · obtain ⟨b0, r0, q0, f0⟩ := pr1_s e
    obtain ⟨b1, r1, q1, f1⟩ := pp1_s f0
    obtain ⟨qe, fe⟩ := pe_s f1
    obtain ⟨p, e1, e2⟩ := bnd_s fe
    subst qe
    subst q1
    subst q0
    exact ⟨_, _, _, _, 4, rfl, (by decide), m_X0_hasBand N e1, e2⟩
  rcases kb_s e with ⟨rfl, e⟩ | e
  · obtain ⟨b0, r0, q0, f0⟩ := pr1_s e
    obtain ⟨b1, r1, q1, f1⟩ := pp1_s f0
    obtain ⟨qe, fe⟩ := pe_s f1
    obtain ⟨p, e1, e2⟩ := bnd_s fe
    subst qe
    subst q1
    subst q0
    exact ⟨_, _, _, _, 5, rfl, (by decide), m_X0_rowsOf N e1, e2⟩
  rcases kb_s e with ⟨rfl, e⟩ | e
  · obtain ⟨b0, r0, q0, f0⟩ := pr1_s e
    obtain ⟨b1, r1, q1, f1⟩ := pp1_s f0
    obtain ⟨qe, fe⟩ := pe_s f1
    obtain ⟨p, e1, e2⟩ := bnd_s fe
    subst qe
    subst q1
    subst q0
    exact ⟨_, _, _, _, 4, rfl, (by decide), m_X0_hasStake N e1, e2⟩
  rcases kb_s e with ⟨rfl, e⟩ | e
  · obtain ⟨b0, r0, q0, f0⟩ := pr1_s e
    obtain ⟨b1, r1, q1, f1⟩ := pp1_s f0
    obtain ⟨qe, fe⟩ := pe_s f1
    obtain ⟨p, e1, e2⟩ := bnd_s fe
    subst qe
    subst q1
    subst q0
    exact ⟨_, _, _, _, 4, rfl, (by decide), m_X11_refuse N e1, e2⟩
  rcases kb_s e with ⟨rfl, e⟩ | e
  · obtain ⟨b0, r0, q0, f0⟩ := pr1_s e
    obtain ⟨b1, r1, q1, f1⟩ := pp1_s f0
    obtain ⟨b2, r2, q2, f2⟩ := pp1_s f1
    obtain ⟨b3, r3, q3, f3⟩ := pp1_s f2
    obtain ⟨b4, r4, q4, f4⟩ := pp1_s f3
    obtain ⟨qe, fe⟩ := pe_s f4
    obtain ⟨p, e1, e2⟩ := bnd_s fe
    subst qe
    subst q4
    subst q3
    subst q2
    subst q1
    subst q0
    exact ⟨_, _, _, _, 9, rfl, (by decide), m_X10_kindSeen N e1, e2⟩
  cases e
set_option maxRecDepth 100000 in
theorem m_X11_seen (N : Nat) {a0 : Nat} {x1 : Int32} {x2 : Int32} {x3 : Int32} {x4 : Int32} {h : mH} {q : Int32 × mH} (hf : f_X11_seen N a0 x1 x2 x3 x4 h = some q) : MM y_X11_seen 10 [.ref a0, .int x1, .int x2, .int x3, .int x4] h (some (.int q.1)) q.2 := by
  refine MM.of (mFx (j := 154) rfl).2.2.2.1 (Nat.le_of_ble_eq_true rfl) (fun X => ?_)
  refine ev_ok (o := 11) (ini := false) (Cl := C_X11_seen N) (Rc := RcI) (B := B_X11_seen) (K := fun pc ls st g => none) rfl (fun e => by cases e) (by decide) (rcI_ok rfl) ?_ (co_X11_seen N q) lb_X11_seen 3000 0 S_X11_seen_0 _ _ h ls_X11_seen_0 hf
  intro pc ls st g e
  cases e
def f_X11_overs (N : Nat) (a0 : Nat) (x1 : Int32) (x2 : Int32) (h : mH) : Option (Int32 × mH) :=
  (gR h 11 a0 2).bind fun v1 =>
  (rcv h 0 v1).bind fun _ =>
  (f_X0_hasBand N v1 x1 h).bind fun p2 =>
  if p2.1 = 0 then
    (rcv p2.2 11 a0).bind fun _ =>
    (f_X11_refuse N a0 (jI (-2)) p2.2).bind fun p3 =>
    some (p3.1, p3.2)
  else
    (gR p2.2 11 a0 2).bind fun v4 =>
    (rcv p2.2 0 v4).bind fun _ =>
    (f_X0_hasStake N v4 x2 p2.2).bind fun p5 =>
    if p5.1 = 0 then
      (rcv p5.2 11 a0).bind fun _ =>
      (f_X11_refuse N a0 (jI (-2)) p5.2).bind fun p6 =>
      some (p6.1, p6.2)
    else
      (gR p5.2 11 a0 5).bind fun v7 =>
      (rcv p5.2 10 v7).bind fun _ =>
      (f_X10_oversAt N v7 x1 x2 p5.2).bind fun p8 =>
      some (p8.1, p8.2)
def y_X11_overs : mM := (yX11_overs, cX11_overs, 3, (some .int))
def B_X11_overs : List (Nat × List mI) := [(22, [(.aload_n 0, 1, [0], []), (.bipush (-2), 2, [], [-2]), (.invokevirtual 109, 3, [0, 203, 1, 11, 10], []), (.ireturn, 1, [], [])]), (29, [(.aload_n 0, 1, [0], []), (.getfield 35, 3, [11, 5, 2, 114], []), (.iload_n 1, 1, [1], []), (.iload_n 2, 1, [2], []), (.invokevirtual 199, 3, [0, 132, 2, 10, 86], []), (.ireturn, 1, [], [])])]
def S_X11_overs_0 : List mI := [(.aload_n 0, 1, [0], []), (.getfield 16, 3, [11, 2, 2, 111], []), (.iload_n 1, 1, [1], []), (.invokevirtual 150, 3, [0, 4, 1, 0, 46], []), (.ifCond .eq 14, 3, [22], []), (.aload_n 0, 1, [0], []), (.getfield 16, 3, [11, 2, 2, 111], []), (.iload_n 2, 1, [2], []), (.invokevirtual 192, 3, [0, 5, 1, 0, 80], []), (.ifCond .ne 10, 3, [29], [])]
theorem lb_X11_overs : B_X11_overs.all (fun b => lst y_X11_overs.2.1 11 y_X11_overs.2.2.1 false b.1 b.2) = true := by decide +kernel
theorem ls_X11_overs_0 : lst y_X11_overs.2.1 11 y_X11_overs.2.2.1 false 0 S_X11_overs_0 = true := by decide +kernel
def C_X11_overs (N : Nat) : Nat → List Value → mH → (Option Value → mH → Option (Int32 × mH)) → Option (Int32 × mH) := fun j as g k => kb j 4 (pr1 as fun b0 as => pp1 as fun b1 as => pe as ((f_X0_hasBand N b0 b1 g).bind fun p => k (some (.int p.1)) p.2)) (kb j 5 (pr1 as fun b0 as => pp1 as fun b1 as => pe as ((f_X0_hasStake N b0 b1 g).bind fun p => k (some (.int p.1)) p.2)) (kb j 203 (pr1 as fun b0 as => pp1 as fun b1 as => pe as ((f_X11_refuse N b0 b1 g).bind fun p => k (some (.int p.1)) p.2)) (kb j 132 (pr1 as fun b0 as => pp1 as fun b1 as => pp1 as fun b2 as => pe as ((f_X10_oversAt N b0 b1 b2 g).bind fun p => k (some (.int p.1)) p.2)) (none))))
theorem co_X11_overs (N : Nat) (q : Int32 × mH) : clOK 10 q (C_X11_overs N) := by
  intro j as g k e
  rcases kb_s e with ⟨rfl, e⟩ | e
  · obtain ⟨b0, r0, q0, f0⟩ := pr1_s e
    obtain ⟨b1, r1, q1, f1⟩ := pp1_s f0
    obtain ⟨qe, fe⟩ := pe_s f1
    obtain ⟨p, e1, e2⟩ := bnd_s fe
    subst qe
    subst q1
    subst q0
    exact ⟨_, _, _, _, 4, rfl, (by decide), m_X0_hasBand N e1, e2⟩
  rcases kb_s e with ⟨rfl, e⟩ | e
  · obtain ⟨b0, r0, q0, f0⟩ := pr1_s e
    obtain ⟨b1, r1, q1, f1⟩ := pp1_s f0
    obtain ⟨qe, fe⟩ := pe_s f1
    obtain ⟨p, e1, e2⟩ := bnd_s fe
    subst qe
    subst q1
    subst q0
    exact ⟨_, _, _, _, 4, rfl, (by decide), m_X0_hasStake N e1, e2⟩
  rcases kb_s e with ⟨rfl, e⟩ | e
  · obtain ⟨b0, r0, q0, f0⟩ := pr1_s e
    obtain ⟨b1, r1, q1, f1⟩ := pp1_s f0
    obtain ⟨qe, fe⟩ := pe_s f1
    obtain ⟨p, e1, e2⟩ := bnd_s fe
    subst qe
    subst q1
    subst q0
    exact ⟨_, _, _, _, 4, rfl, (by decide), m_X11_refuse N e1, e2⟩
  rcases kb_s e with ⟨rfl, e⟩ | e
  · obtain ⟨b0, r0, q0, f0⟩ := pr1_s e
    obtain ⟨b1, r1, q1, f1⟩ := pp1_s f0
    obtain ⟨b2, r2, q2, f2⟩ := pp1_s f1
    obtain ⟨qe, fe⟩ := pe_s f2
    obtain ⟨p, e1, e2⟩ := bnd_s fe
    subst qe
    subst q2
    subst q1
    subst q0
    exact ⟨_, _, _, _, 9, rfl, (by decide), m_X10_oversAt N e1, e2⟩
  cases e
set_option maxRecDepth 100000 in
theorem m_X11_overs (N : Nat) {a0 : Nat} {x1 : Int32} {x2 : Int32} {h : mH} {q : Int32 × mH} (hf : f_X11_overs N a0 x1 x2 h = some q) : MM y_X11_overs 10 [.ref a0, .int x1, .int x2] h (some (.int q.1)) q.2 := by
  refine MM.of (mFx (j := 155) rfl).2.2.2.1 (Nat.le_of_ble_eq_true rfl) (fun X => ?_)
  refine ev_ok (o := 11) (ini := false) (Cl := C_X11_overs N) (Rc := RcI) (B := B_X11_overs) (K := fun pc ls st g => none) rfl (fun e => by cases e) (by decide) (rcI_ok rfl) ?_ (co_X11_overs N q) lb_X11_overs 3000 0 S_X11_overs_0 _ _ h ls_X11_overs_0 hf
  intro pc ls st g e
  cases e
def f_X11_run (N : Nat) (a0 : Nat) (x1 : Int32) (x2 : Int32) (h : mH) : Option (Int32 × mH) :=
  (gR h 11 a0 2).bind fun v1 =>
  (rcv h 0 v1).bind fun _ =>
  (f_X0_hasBand N v1 x1 h).bind fun p2 =>
  if p2.1 = 0 then
    (rcv p2.2 11 a0).bind fun _ =>
    (f_X11_refuse N a0 (jI (-2)) p2.2).bind fun p3 =>
    some (p3.1, p3.2)
  else
    (gR p2.2 11 a0 2).bind fun v4 =>
    (rcv p2.2 0 v4).bind fun _ =>
    (f_X0_hasStake N v4 x2 p2.2).bind fun p5 =>
    if p5.1 = 0 then
      (rcv p5.2 11 a0).bind fun _ =>
      (f_X11_refuse N a0 (jI (-2)) p5.2).bind fun p6 =>
      some (p6.1, p6.2)
    else
      (gR p5.2 11 a0 5).bind fun v7 =>
      (rcv p5.2 10 v7).bind fun _ =>
      (f_X10_longestRun N v7 x1 x2 p5.2).bind fun p8 =>
      some (p8.1, p8.2)
def y_X11_run : mM := (yX11_run, cX11_run, 3, (some .int))
def B_X11_run : List (Nat × List mI) := [(22, [(.aload_n 0, 1, [0], []), (.bipush (-2), 2, [], [-2]), (.invokevirtual 109, 3, [0, 203, 1, 11, 10], []), (.ireturn, 1, [], [])]), (29, [(.aload_n 0, 1, [0], []), (.getfield 35, 3, [11, 5, 2, 114], []), (.iload_n 1, 1, [1], []), (.iload_n 2, 1, [2], []), (.invokevirtual 202, 3, [0, 133, 2, 10, 89], []), (.ireturn, 1, [], [])])]
def S_X11_run_0 : List mI := [(.aload_n 0, 1, [0], []), (.getfield 16, 3, [11, 2, 2, 111], []), (.iload_n 1, 1, [1], []), (.invokevirtual 150, 3, [0, 4, 1, 0, 46], []), (.ifCond .eq 14, 3, [22], []), (.aload_n 0, 1, [0], []), (.getfield 16, 3, [11, 2, 2, 111], []), (.iload_n 2, 1, [2], []), (.invokevirtual 192, 3, [0, 5, 1, 0, 80], []), (.ifCond .ne 10, 3, [29], [])]
theorem lb_X11_run : B_X11_run.all (fun b => lst y_X11_run.2.1 11 y_X11_run.2.2.1 false b.1 b.2) = true := by decide +kernel
theorem ls_X11_run_0 : lst y_X11_run.2.1 11 y_X11_run.2.2.1 false 0 S_X11_run_0 = true := by decide +kernel
def C_X11_run (N : Nat) : Nat → List Value → mH → (Option Value → mH → Option (Int32 × mH)) → Option (Int32 × mH) := fun j as g k => kb j 4 (pr1 as fun b0 as => pp1 as fun b1 as => pe as ((f_X0_hasBand N b0 b1 g).bind fun p => k (some (.int p.1)) p.2)) (kb j 5 (pr1 as fun b0 as => pp1 as fun b1 as => pe as ((f_X0_hasStake N b0 b1 g).bind fun p => k (some (.int p.1)) p.2)) (kb j 203 (pr1 as fun b0 as => pp1 as fun b1 as => pe as ((f_X11_refuse N b0 b1 g).bind fun p => k (some (.int p.1)) p.2)) (kb j 133 (pr1 as fun b0 as => pp1 as fun b1 as => pp1 as fun b2 as => pe as ((f_X10_longestRun N b0 b1 b2 g).bind fun p => k (some (.int p.1)) p.2)) (none))))
theorem co_X11_run (N : Nat) (q : Int32 × mH) : clOK 10 q (C_X11_run N) := by
  intro j as g k e
  rcases kb_s e with ⟨rfl, e⟩ | e
  · obtain ⟨b0, r0, q0, f0⟩ := pr1_s e
    obtain ⟨b1, r1, q1, f1⟩ := pp1_s f0
    obtain ⟨qe, fe⟩ := pe_s f1
    obtain ⟨p, e1, e2⟩ := bnd_s fe
    subst qe
    subst q1
    subst q0
    exact ⟨_, _, _, _, 4, rfl, (by decide), m_X0_hasBand N e1, e2⟩
  rcases kb_s e with ⟨rfl, e⟩ | e
  · obtain ⟨b0, r0, q0, f0⟩ := pr1_s e
    obtain ⟨b1, r1, q1, f1⟩ := pp1_s f0
    obtain ⟨qe, fe⟩ := pe_s f1
    obtain ⟨p, e1, e2⟩ := bnd_s fe
    subst qe
    subst q1
    subst q0
    exact ⟨_, _, _, _, 4, rfl, (by decide), m_X0_hasStake N e1, e2⟩
  rcases kb_s e with ⟨rfl, e⟩ | e
  · obtain ⟨b0, r0, q0, f0⟩ := pr1_s e
    obtain ⟨b1, r1, q1, f1⟩ := pp1_s f0
    obtain ⟨qe, fe⟩ := pe_s f1
    obtain ⟨p, e1, e2⟩ := bnd_s fe
    subst qe
    subst q1
    subst q0
    exact ⟨_, _, _, _, 4, rfl, (by decide), m_X11_refuse N e1, e2⟩
  rcases kb_s e with ⟨rfl, e⟩ | e
  · obtain ⟨b0, r0, q0, f0⟩ := pr1_s e
    obtain ⟨b1, r1, q1, f1⟩ := pp1_s f0
    obtain ⟨b2, r2, q2, f2⟩ := pp1_s f1
    obtain ⟨qe, fe⟩ := pe_s f2
    obtain ⟨p, e1, e2⟩ := bnd_s fe
    subst qe
    subst q2
    subst q1
    subst q0
    exact ⟨_, _, _, _, 9, rfl, (by decide), m_X10_longestRun N e1, e2⟩
  cases e
set_option maxRecDepth 100000 in
theorem m_X11_run (N : Nat) {a0 : Nat} {x1 : Int32} {x2 : Int32} {h : mH} {q : Int32 × mH} (hf : f_X11_run N a0 x1 x2 h = some q) : MM y_X11_run 10 [.ref a0, .int x1, .int x2] h (some (.int q.1)) q.2 := by
  refine MM.of (mFx (j := 156) rfl).2.2.2.1 (Nat.le_of_ble_eq_true rfl) (fun X => ?_)
  refine ev_ok (o := 11) (ini := false) (Cl := C_X11_run N) (Rc := RcI) (B := B_X11_run) (K := fun pc ls st g => none) rfl (fun e => by cases e) (by decide) (rcI_ok rfl) ?_ (co_X11_run N q) lb_X11_run 3000 0 S_X11_run_0 _ _ h ls_X11_run_0 hf
  intro pc ls st g e
  cases e
def f_X11_stakesCan (N : Nat) (x0 : Int32) (h : mH) : Option (Int32 × mH) :=
  if x0 < (jI 3) then
    some (jI 0, h)
  else
    if (jI 999) < x0 then
      some (jI 0, h)
    else
      some (jI 1, h)
def y_X11_stakesCan : mM := (yX11_stakesCan, cX11_stakesCan, 1, (some .boolean))
def B_X11_stakesCan : List (Nat × List mI) := [(16, [(.iconst 0, 1, [], [0])]), (17, [(.ireturn, 1, [], [])])]
def S_X11_stakesCan_0 : List mI := [(.iload_n 0, 1, [0], []), (.iconst 3, 1, [], [3]), (.if_icmp .lt 14, 3, [16], []), (.iload_n 0, 1, [0], []), (.sipush 999, 3, [], [999]), (.if_icmp .gt 7, 3, [16], []), (.iconst 1, 1, [], [1]), (.goto 4, 3, [17], [])]
theorem lb_X11_stakesCan : B_X11_stakesCan.all (fun b => lst y_X11_stakesCan.2.1 11 y_X11_stakesCan.2.2.1 false b.1 b.2) = true := by decide +kernel
theorem ls_X11_stakesCan_0 : lst y_X11_stakesCan.2.1 11 y_X11_stakesCan.2.2.1 false 0 S_X11_stakesCan_0 = true := by decide +kernel
def C_X11_stakesCan (N : Nat) : Nat → List Value → mH → (Option Value → mH → Option (Int32 × mH)) → Option (Int32 × mH) := fun j as g k => none
theorem co_X11_stakesCan (N : Nat) (q : Int32 × mH) : clOK 4 q (C_X11_stakesCan N) := by
  intro j as g k e
  cases e
set_option maxRecDepth 100000 in
theorem m_X11_stakesCan (N : Nat) {x0 : Int32} {h : mH} {q : Int32 × mH} (hf : f_X11_stakesCan N x0 h = some q) : MM y_X11_stakesCan 4 [.int x0] h (some (.int q.1)) q.2 := by
  refine MM.of (mFx (j := 209) rfl).2.2.2.1 (Nat.le_of_ble_eq_true rfl) (fun X => ?_)
  refine ev_ok (o := 11) (ini := false) (Cl := C_X11_stakesCan N) (Rc := RcZ) (B := B_X11_stakesCan) (K := fun pc ls st g => none) rfl (fun e => by cases e) (by decide) (rcZ_ok rfl) ?_ (co_X11_stakesCan N q) lb_X11_stakesCan 3000 0 S_X11_stakesCan_0 _ _ h ls_X11_stakesCan_0 hf
  intro pc ls st g e
  cases e
def f_X11_strokeCan (N : Nat) (x0 : Int32) (x1 : Int32) (h : mH) : Option (Int32 × mH) :=
  if x0 < (jI 1) then
    some (jI 0, h)
  else
    if (jI 9) < x0 then
      some (jI 0, h)
    else
      if x1 < (jI 1) then
        some (jI 0, h)
      else
        if (jI 9) < x1 then
          some (jI 0, h)
        else
          some (jI 1, h)
def y_X11_strokeCan : mM := (yX11_strokeCan, cX11_strokeCan, 2, (some .boolean))
def B_X11_strokeCan : List (Nat × List mI) := [(26, [(.iconst 0, 1, [], [0])]), (27, [(.ireturn, 1, [], [])])]
def S_X11_strokeCan_0 : List mI := [(.iload_n 0, 1, [0], []), (.iconst 1, 1, [], [1]), (.if_icmp .lt 24, 3, [26], []), (.iload_n 0, 1, [0], []), (.bipush 9, 2, [], [9]), (.if_icmp .gt 18, 3, [26], []), (.iload_n 1, 1, [1], []), (.iconst 1, 1, [], [1]), (.if_icmp .lt 13, 3, [26], []), (.iload_n 1, 1, [1], []), (.bipush 9, 2, [], [9]), (.if_icmp .gt 7, 3, [26], []), (.iconst 1, 1, [], [1]), (.goto 4, 3, [27], [])]
theorem lb_X11_strokeCan : B_X11_strokeCan.all (fun b => lst y_X11_strokeCan.2.1 11 y_X11_strokeCan.2.2.1 false b.1 b.2) = true := by decide +kernel
theorem ls_X11_strokeCan_0 : lst y_X11_strokeCan.2.1 11 y_X11_strokeCan.2.2.1 false 0 S_X11_strokeCan_0 = true := by decide +kernel
def C_X11_strokeCan (N : Nat) : Nat → List Value → mH → (Option Value → mH → Option (Int32 × mH)) → Option (Int32 × mH) := fun j as g k => none
theorem co_X11_strokeCan (N : Nat) (q : Int32 × mH) : clOK 4 q (C_X11_strokeCan N) := by
  intro j as g k e
  cases e
set_option maxRecDepth 100000 in
theorem m_X11_strokeCan (N : Nat) {x0 : Int32} {x1 : Int32} {h : mH} {q : Int32 × mH} (hf : f_X11_strokeCan N x0 x1 h = some q) : MM y_X11_strokeCan 4 [.int x0, .int x1] h (some (.int q.1)) q.2 := by
  refine MM.of (mFx (j := 210) rfl).2.2.2.1 (Nat.le_of_ble_eq_true rfl) (fun X => ?_)
  refine ev_ok (o := 11) (ini := false) (Cl := C_X11_strokeCan N) (Rc := RcZ) (B := B_X11_strokeCan) (K := fun pc ls st g => none) rfl (fun e => by cases e) (by decide) (rcZ_ok rfl) ?_ (co_X11_strokeCan N q) lb_X11_strokeCan 3000 0 S_X11_strokeCan_0 _ _ h ls_X11_strokeCan_0 hf
  intro pc ls st g e
  cases e
def J_X11_turnsOver_17 (N : Nat) (k2 : Int32 → Int32 → Int32 → Int32 → mH → Option (Int32 × mH)) (x0 : Int32) (x1 : Int32) (x2 : Int32) (x3 : Int32) (s_0 : Int32) (h : mH) : Option (Int32 × mH) :=
  if x2 = 0 then none else
  if (iRem (iAdd x3 x0) x2) < x1 then
    if s_0 = (jI 1) then
      some (jI 0, h)
    else
      let w1 := iAdd x3 (jI 1)
      k2 x0 x1 x2 w1 h
  else
    if s_0 = (jI 0) then
      some (jI 0, h)
    else
      let w2 := iAdd x3 (jI 1)
      k2 x0 x1 x2 w2 h
def L_X11_turnsOver_2 (N : Nat) : Nat → Int32 → Int32 → Int32 → Int32 → mH → Option (Int32 × mH)
  | 0, _, _, _, _, _ => none
  | n + 1, x0, x1, x2, x3, h =>
    if x3 < x2 then
      if x3 < x1 then
        J_X11_turnsOver_17 N (L_X11_turnsOver_2 N n) x0 x1 x2 x3 (jI 1) h
      else
        J_X11_turnsOver_17 N (L_X11_turnsOver_2 N n) x0 x1 x2 x3 (jI 0) h
    else
      some (jI 1, h)
def f_X11_turnsOver (N : Nat) (x0 : Int32) (x1 : Int32) (x2 : Int32) (h : mH) : Option (Int32 × mH) :=
  L_X11_turnsOver_2 N N x0 x1 x2 (jI 0) h
def y_X11_turnsOver : mM := (yX11_turnsOver, cX11_turnsOver, 4, (some .boolean))
def B_X11_turnsOver : List (Nat × List mI) := [(16, [(.iconst 0, 1, [], [0])]), (30, [(.iconst 0, 1, [], [0])]), (31, [(.if_icmp .ne 5, 3, [36], []), (.iconst 0, 1, [], [0]), (.ireturn, 1, [], [])]), (36, [(.iinc 3 1, 3, [3], [1]), (.goto (-37), 3, [2], [])]), (42, [(.iconst 1, 1, [], [1]), (.ireturn, 1, [], [])])]
def S_X11_turnsOver_0 : List mI := [(.iconst 0, 1, [], [0]), (.istore_n 3, 1, [3], [])]
def S_X11_turnsOver_2 : List mI := [(.iload_n 3, 1, [3], []), (.iload_n 2, 1, [2], []), (.if_icmp .ge 38, 3, [42], []), (.iload_n 3, 1, [3], []), (.iload_n 1, 1, [1], []), (.if_icmp .ge 7, 3, [16], []), (.iconst 1, 1, [], [1]), (.goto 4, 3, [17], [])]
def S_X11_turnsOver_17 : List mI := [(.iload_n 3, 1, [3], []), (.iload_n 0, 1, [0], []), (.iadd, 1, [], []), (.iload_n 2, 1, [2], []), (.irem, 1, [], []), (.iload_n 1, 1, [1], []), (.if_icmp .ge 7, 3, [30], []), (.iconst 1, 1, [], [1]), (.goto 4, 3, [31], [])]
theorem lb_X11_turnsOver : B_X11_turnsOver.all (fun b => lst y_X11_turnsOver.2.1 11 y_X11_turnsOver.2.2.1 false b.1 b.2) = true := by decide +kernel
theorem ls_X11_turnsOver_0 : lst y_X11_turnsOver.2.1 11 y_X11_turnsOver.2.2.1 false 0 S_X11_turnsOver_0 = true := by decide +kernel
theorem ls_X11_turnsOver_2 : lst y_X11_turnsOver.2.1 11 y_X11_turnsOver.2.2.1 false 2 S_X11_turnsOver_2 = true := by decide +kernel
theorem ls_X11_turnsOver_17 : lst y_X11_turnsOver.2.1 11 y_X11_turnsOver.2.2.1 false 17 S_X11_turnsOver_17 = true := by decide +kernel
def C_X11_turnsOver (N : Nat) : Nat → List Value → mH → (Option Value → mH → Option (Int32 × mH)) → Option (Int32 × mH) := fun j as g k => none
theorem co_X11_turnsOver (N : Nat) (q : Int32 × mH) : clOK 4 q (C_X11_turnsOver N) := by
  intro j as g k e
  cases e
set_option maxRecDepth 100000 in
theorem t_X11_turnsOver_17 {X : Nat × (Nat → Int32)} (N : Nat) {q : Int32 × mH} {k2 : Int32 → Int32 → Int32 → Int32 → mH → Option (Int32 × mH)} (hk2 : ∀ (x0 : Int32) (x1 : Int32) (x2 : Int32) (x3 : Int32) g, k2 x0 x1 x2 x3 g = some q → MW X y_X11_turnsOver 4 2 [(0, .int x0), (1, .int x1), (2, .int x2), (3, .int x3)] [] g (some (.int q.1)) q.2) (x0 : Int32) (x1 : Int32) (x2 : Int32) (x3 : Int32) (s_0 : Int32) (h : mH) (hf : J_X11_turnsOver_17 N k2 x0 x1 x2 x3 s_0 h = some q) : MW X y_X11_turnsOver 4 17 [(0, .int x0), (1, .int x1), (2, .int x2), (3, .int x3)] [.int s_0] h (some (.int q.1)) q.2 := by
  refine ev_ok (o := 11) (ini := false) (Cl := C_X11_turnsOver N) (Rc := RcZ) (B := B_X11_turnsOver) (K := fun pc ls st g => kb pc 2 (lgi 0 ls fun x0 => lgi 1 ls fun x1 => lgi 2 ls fun x2 => lgi 3 ls fun x3 => pe st (k2 x0 x1 x2 x3 g)) (none)) rfl (fun e => by cases e) (by decide) (rcZ_ok rfl) ?_ (co_X11_turnsOver N q) lb_X11_turnsOver 3000 17 S_X11_turnsOver_17 _ _ h ls_X11_turnsOver_17 hf
  intro pc ls st g e
  rcases kb_s e with ⟨rfl, e⟩ | e
  · obtain ⟨x0, e0, f0⟩ := lgi_s e
    obtain ⟨x1, e1, f1⟩ := lgi_s f0
    obtain ⟨x2, e2, f2⟩ := lgi_s f1
    obtain ⟨x3, e3, f3⟩ := lgi_s f2
    obtain ⟨qe, fe⟩ := pe_s f3
    subst qe
    exact MW.sub (List.forall_mem_cons.mpr ⟨lg_mem e0, List.forall_mem_cons.mpr ⟨lg_mem e1, List.forall_mem_cons.mpr ⟨lg_mem e2, List.forall_mem_cons.mpr ⟨lg_mem e3, fun _ h => absurd h List.not_mem_nil⟩⟩⟩⟩) (hk2 x0 x1 x2 x3 g fe)
  cases e
set_option maxRecDepth 100000 in
theorem t_X11_turnsOver_2 {X : Nat × (Nat → Int32)} (N : Nat) {q : Int32 × mH} : ∀ (n : Nat) (x0 : Int32) (x1 : Int32) (x2 : Int32) (x3 : Int32) (h : mH), L_X11_turnsOver_2 N n x0 x1 x2 x3 h = some q → MW X y_X11_turnsOver 4 2 [(0, .int x0), (1, .int x1), (2, .int x2), (3, .int x3)] [] h (some (.int q.1)) q.2 := by
  intro n
  induction n with
  | zero => intro x0 x1 x2 x3 h hf; cases hf
  | succ n ih =>
    intro x0 x1 x2 x3 h hf
    refine ev_ok (o := 11) (ini := false) (Cl := C_X11_turnsOver N) (Rc := RcZ) (B := B_X11_turnsOver) (K := fun pc ls st g => kb pc 17 (lgi 0 ls fun x0 => lgi 1 ls fun x1 => lgi 2 ls fun x2 => lgi 3 ls fun x3 => pp1 st fun s_0 st => pe st (J_X11_turnsOver_17 N (L_X11_turnsOver_2 N n) x0 x1 x2 x3 s_0 g)) (none)) rfl (fun e => by cases e) (by decide) (rcZ_ok rfl) ?_ (co_X11_turnsOver N q) lb_X11_turnsOver 3000 2 S_X11_turnsOver_2 _ _ h ls_X11_turnsOver_2 hf
    intro pc ls st g e
    rcases kb_s e with ⟨rfl, e⟩ | e
    · obtain ⟨x0, e0, f0⟩ := lgi_s e
      obtain ⟨x1, e1, f1⟩ := lgi_s f0
      obtain ⟨x2, e2, f2⟩ := lgi_s f1
      obtain ⟨x3, e3, f3⟩ := lgi_s f2
      obtain ⟨s_0, r0, q0, g0⟩ := pp1_s f3
      obtain ⟨qe, fe⟩ := pe_s g0
      subst qe
      subst q0
      exact MW.sub (List.forall_mem_cons.mpr ⟨lg_mem e0, List.forall_mem_cons.mpr ⟨lg_mem e1, List.forall_mem_cons.mpr ⟨lg_mem e2, List.forall_mem_cons.mpr ⟨lg_mem e3, fun _ h => absurd h List.not_mem_nil⟩⟩⟩⟩) (t_X11_turnsOver_17 N (fun x0 x1 x2 x3 g e => ih x0 x1 x2 x3 g e) x0 x1 x2 x3 s_0 g fe)
    cases e
set_option maxRecDepth 100000 in
theorem m_X11_turnsOver (N : Nat) {x0 : Int32} {x1 : Int32} {x2 : Int32} {h : mH} {q : Int32 × mH} (hf : f_X11_turnsOver N x0 x1 x2 h = some q) : MM y_X11_turnsOver 4 [.int x0, .int x1, .int x2] h (some (.int q.1)) q.2 := by
  refine MM.of (mFx (j := 212) rfl).2.2.2.1 (Nat.le_of_ble_eq_true rfl) (fun X => ?_)
  refine ev_ok (o := 11) (ini := false) (Cl := C_X11_turnsOver N) (Rc := RcZ) (B := B_X11_turnsOver) (K := fun pc ls st g => kb pc 2 (lgi 0 ls fun x0 => lgi 1 ls fun x1 => lgi 2 ls fun x2 => lgi 3 ls fun x3 => pe st (L_X11_turnsOver_2 N N x0 x1 x2 x3 g)) (none)) rfl (fun e => by cases e) (by decide) (rcZ_ok rfl) ?_ (co_X11_turnsOver N q) lb_X11_turnsOver 3000 0 S_X11_turnsOver_0 _ _ h ls_X11_turnsOver_0 hf
  intro pc ls st g e
  rcases kb_s e with ⟨rfl, e⟩ | e
  · obtain ⟨x0, e0, f0⟩ := lgi_s e
    obtain ⟨x1, e1, f1⟩ := lgi_s f0
    obtain ⟨x2, e2, f2⟩ := lgi_s f1
    obtain ⟨x3, e3, f3⟩ := lgi_s f2
    obtain ⟨qe, fe⟩ := pe_s f3
    subst qe
    exact MW.sub (List.forall_mem_cons.mpr ⟨lg_mem e0, List.forall_mem_cons.mpr ⟨lg_mem e1, List.forall_mem_cons.mpr ⟨lg_mem e2, List.forall_mem_cons.mpr ⟨lg_mem e3, fun _ h => absurd h List.not_mem_nil⟩⟩⟩⟩) (t_X11_turnsOver_2 N N x0 x1 x2 x3 g fe)
  cases e
def f_X11_step (N : Nat) (a0 : Nat) (x1 : Int32) (x2 : Int32) (x3 : Int32) (x4 : Int32) (h : mH) : Option (Int32 × mH) :=
  (f_X11_stakesCan N x1 h).bind fun p1 =>
  if p1.1 = 0 then
    (rcv p1.2 11 a0).bind fun _ =>
    (f_X11_refuse N a0 (jI (-3)) p1.2).bind fun p2 =>
    some (p2.1, p2.2)
  else
    (f_X11_strokeCan N x2 x3 p1.2).bind fun p3 =>
    if p3.1 = 0 then
      (rcv p3.2 11 a0).bind fun _ =>
      (f_X11_refuse N a0 (jI (-3)) p3.2).bind fun p4 =>
      some (p4.1, p4.2)
    else
      if x4 < 0 then
        (rcv p3.2 11 a0).bind fun _ =>
        (f_X11_refuse N a0 (jI (-3)) p3.2).bind fun p5 =>
        some (p5.1, p5.2)
      else
        if (jI 2) < x4 then
          (rcv p3.2 11 a0).bind fun _ =>
          (f_X11_refuse N a0 (jI (-3)) p3.2).bind fun p6 =>
          some (p6.1, p6.2)
        else
          let w7 := iAdd x2 x3
          if x4 = 0 then
            if w7 = 0 then none else
            some (iRem x1 w7, p3.2)
          else
            if x4 = (jI 1) then
              (f_X11_commonDivisor N x1 w7 p3.2).bind fun p8 =>
              if p8.1 = 0 then none else
              some (iDiv w7 p8.1, p8.2)
            else
              (f_X11_turnsOver N x1 x2 w7 p3.2).bind fun p9 =>
              if p9.1 = 0 then
                some (jI 0, p9.2)
              else
                some (jI 1, p9.2)
def y_X11_step : mM := (yX11_step, cX11_step, 6, (some .int))
def B_X11_step : List (Nat × List mI) := [(26, [(.aload_n 0, 1, [0], []), (.bipush (-3), 2, [], [-3]), (.invokevirtual 109, 3, [0, 203, 1, 11, 10], []), (.ireturn, 1, [], [])]), (33, [(.iload_n 2, 1, [2], []), (.iload_n 3, 1, [3], []), (.iadd, 1, [], []), (.istore 5, 2, [5], []), (.iload 4, 2, [4], []), (.ifCond .ne 8, 3, [48], []), (.iload_n 1, 1, [1], []), (.iload 5, 2, [5], []), (.irem, 1, [], []), (.ireturn, 1, [], [])]), (48, [(.iload 4, 2, [4], []), (.iconst 1, 1, [], [1]), (.if_icmp .ne 13, 3, [64], []), (.iload 5, 2, [5], []), (.iload_n 1, 1, [1], []), (.iload 5, 2, [5], []), (.invokestatic 211, 3, [1, 211, 2, 0, 93], []), (.idiv, 1, [], []), (.ireturn, 1, [], [])]), (64, [(.iload_n 1, 1, [1], []), (.iload_n 2, 1, [2], []), (.iload 5, 2, [5], []), (.invokestatic 214, 3, [1, 212, 3, 0, 94], []), (.ifCond .eq 7, 3, [78], []), (.iconst 1, 1, [], [1]), (.goto 4, 3, [79], [])]), (78, [(.iconst 0, 1, [], [0])]), (79, [(.ireturn, 1, [], [])])]
def S_X11_step_0 : List mI := [(.iload_n 1, 1, [1], []), (.invokestatic 205, 3, [1, 209, 1, 0, 91], []), (.ifCond .eq 22, 3, [26], []), (.iload_n 2, 1, [2], []), (.iload_n 3, 1, [3], []), (.invokestatic 208, 3, [1, 210, 2, 0, 92], []), (.ifCond .eq 14, 3, [26], []), (.iload 4, 2, [4], []), (.ifCond .lt 9, 3, [26], []), (.iload 4, 2, [4], []), (.iconst 2, 1, [], [2]), (.if_icmp .le 10, 3, [33], [])]
theorem lb_X11_step : B_X11_step.all (fun b => lst y_X11_step.2.1 11 y_X11_step.2.2.1 false b.1 b.2) = true := by decide +kernel
theorem ls_X11_step_0 : lst y_X11_step.2.1 11 y_X11_step.2.2.1 false 0 S_X11_step_0 = true := by decide +kernel
def C_X11_step (N : Nat) : Nat → List Value → mH → (Option Value → mH → Option (Int32 × mH)) → Option (Int32 × mH) := fun j as g k => kb j 209 (pp1 as fun b0 as => pe as ((f_X11_stakesCan N b0 g).bind fun p => k (some (.int p.1)) p.2)) (kb j 210 (pp1 as fun b0 as => pp1 as fun b1 as => pe as ((f_X11_strokeCan N b0 b1 g).bind fun p => k (some (.int p.1)) p.2)) (kb j 203 (pr1 as fun b0 as => pp1 as fun b1 as => pe as ((f_X11_refuse N b0 b1 g).bind fun p => k (some (.int p.1)) p.2)) (kb j 211 (pp1 as fun b0 as => pp1 as fun b1 as => pe as ((f_X11_commonDivisor N b0 b1 g).bind fun p => k (some (.int p.1)) p.2)) (kb j 212 (pp1 as fun b0 as => pp1 as fun b1 as => pp1 as fun b2 as => pe as ((f_X11_turnsOver N b0 b1 b2 g).bind fun p => k (some (.int p.1)) p.2)) (none)))))
theorem co_X11_step (N : Nat) (q : Int32 × mH) : clOK 5 q (C_X11_step N) := by
  intro j as g k e
  rcases kb_s e with ⟨rfl, e⟩ | e
  · obtain ⟨b0, r0, q0, f0⟩ := pp1_s e
    obtain ⟨qe, fe⟩ := pe_s f0
    obtain ⟨p, e1, e2⟩ := bnd_s fe
    subst qe
    subst q0
    exact ⟨_, _, _, _, 4, rfl, (by decide), m_X11_stakesCan N e1, e2⟩
  rcases kb_s e with ⟨rfl, e⟩ | e
  · obtain ⟨b0, r0, q0, f0⟩ := pp1_s e
    obtain ⟨b1, r1, q1, f1⟩ := pp1_s f0
    obtain ⟨qe, fe⟩ := pe_s f1
    obtain ⟨p, e1, e2⟩ := bnd_s fe
    subst qe
    subst q1
    subst q0
    exact ⟨_, _, _, _, 4, rfl, (by decide), m_X11_strokeCan N e1, e2⟩
  rcases kb_s e with ⟨rfl, e⟩ | e
  · obtain ⟨b0, r0, q0, f0⟩ := pr1_s e
    obtain ⟨b1, r1, q1, f1⟩ := pp1_s f0
    obtain ⟨qe, fe⟩ := pe_s f1
    obtain ⟨p, e1, e2⟩ := bnd_s fe
    subst qe
    subst q1
    subst q0
    exact ⟨_, _, _, _, 4, rfl, (by decide), m_X11_refuse N e1, e2⟩
  rcases kb_s e with ⟨rfl, e⟩ | e
  · obtain ⟨b0, r0, q0, f0⟩ := pp1_s e
    obtain ⟨b1, r1, q1, f1⟩ := pp1_s f0
    obtain ⟨qe, fe⟩ := pe_s f1
    obtain ⟨p, e1, e2⟩ := bnd_s fe
    subst qe
    subst q1
    subst q0
    exact ⟨_, _, _, _, 4, rfl, (by decide), m_X11_commonDivisor N e1, e2⟩
  rcases kb_s e with ⟨rfl, e⟩ | e
  · obtain ⟨b0, r0, q0, f0⟩ := pp1_s e
    obtain ⟨b1, r1, q1, f1⟩ := pp1_s f0
    obtain ⟨b2, r2, q2, f2⟩ := pp1_s f1
    obtain ⟨qe, fe⟩ := pe_s f2
    obtain ⟨p, e1, e2⟩ := bnd_s fe
    subst qe
    subst q2
    subst q1
    subst q0
    exact ⟨_, _, _, _, 4, rfl, (by decide), m_X11_turnsOver N e1, e2⟩
  cases e
set_option maxRecDepth 100000 in
theorem m_X11_step (N : Nat) {a0 : Nat} {x1 : Int32} {x2 : Int32} {x3 : Int32} {x4 : Int32} {h : mH} {q : Int32 × mH} (hf : f_X11_step N a0 x1 x2 x3 x4 h = some q) : MM y_X11_step 5 [.ref a0, .int x1, .int x2, .int x3, .int x4] h (some (.int q.1)) q.2 := by
  refine MM.of (mFx (j := 157) rfl).2.2.2.1 (Nat.le_of_ble_eq_true rfl) (fun X => ?_)
  refine ev_ok (o := 11) (ini := false) (Cl := C_X11_step N) (Rc := RcI) (B := B_X11_step) (K := fun pc ls st g => none) rfl (fun e => by cases e) (by decide) (rcI_ok rfl) ?_ (co_X11_step N q) lb_X11_step 3000 0 S_X11_step_0 _ _ h ls_X11_step_0 hf
  intro pc ls st g e
  cases e
def L_X11_counts_52 (N : Nat) : Nat → Int32 → Int32 → Int32 → Int32 → Int32 → mH → Option (Int32 × mH)
  | 0, _, _, _, _, _, _ => none
  | n + 1, x2, x5, x6, x7, x8, h =>
    if x2 < x8 then
      some (x7, h)
    else
      if x6 = 0 then none else
      if (iRem x8 x6) = x5 then
        let w1 := iAdd x7 (jI 1)
        let w2 := iAdd x8 (jI 1)
        L_X11_counts_52 N n x2 x5 x6 w1 w2 h
      else
        let w3 := iAdd x8 (jI 1)
        L_X11_counts_52 N n x2 x5 x6 x7 w3 h
def f_X11_counts (N : Nat) (a0 : Nat) (x1 : Int32) (x2 : Int32) (x3 : Int32) (x4 : Int32) (x5 : Int32) (h : mH) : Option (Int32 × mH) :=
  (f_X11_stakesCan N x1 h).bind fun p1 =>
  if p1.1 = 0 then
    (rcv p1.2 11 a0).bind fun _ =>
    (f_X11_refuse N a0 (jI (-3)) p1.2).bind fun p2 =>
    some (p2.1, p2.2)
  else
    (f_X11_stakesCan N x2 p1.2).bind fun p3 =>
    if p3.1 = 0 then
      (rcv p3.2 11 a0).bind fun _ =>
      (f_X11_refuse N a0 (jI (-3)) p3.2).bind fun p4 =>
      some (p4.1, p4.2)
    else
      if x2 < x1 then
        (rcv p3.2 11 a0).bind fun _ =>
        (f_X11_refuse N a0 (jI (-3)) p3.2).bind fun p5 =>
        some (p5.1, p5.2)
      else
        (f_X11_strokeCan N x3 x4 p3.2).bind fun p6 =>
        if p6.1 = 0 then
          (rcv p6.2 11 a0).bind fun _ =>
          (f_X11_refuse N a0 (jI (-3)) p6.2).bind fun p7 =>
          some (p7.1, p7.2)
        else
          if x5 < 0 then
            (rcv p6.2 11 a0).bind fun _ =>
            (f_X11_refuse N a0 (jI (-3)) p6.2).bind fun p8 =>
            some (p8.1, p8.2)
          else
            let w9 := iAdd x3 x4
            L_X11_counts_52 N N x2 x5 w9 (jI 0) x1 p6.2
def y_X11_counts : mM := (yX11_counts, cX11_counts, 9, (some .int))
def B_X11_counts : List (Nat × List mI) := [(33, [(.aload_n 0, 1, [0], []), (.bipush (-3), 2, [], [-3]), (.invokevirtual 109, 3, [0, 203, 1, 11, 10], []), (.ireturn, 1, [], [])]), (40, [(.iload_n 3, 1, [3], []), (.iload 4, 2, [4], []), (.iadd, 1, [], []), (.istore 6, 2, [6], []), (.iconst 0, 1, [], [0]), (.istore 7, 2, [7], []), (.iload_n 1, 1, [1], []), (.istore 8, 2, [8], [])]), (71, [(.iinc 8 1, 3, [8], [1]), (.goto (-22), 3, [52], [])]), (77, [(.iload 7, 2, [7], []), (.ireturn, 1, [], [])])]
def S_X11_counts_0 : List mI := [(.iload_n 1, 1, [1], []), (.invokestatic 205, 3, [1, 209, 1, 0, 91], []), (.ifCond .eq 29, 3, [33], []), (.iload_n 2, 1, [2], []), (.invokestatic 205, 3, [1, 209, 1, 0, 91], []), (.ifCond .eq 22, 3, [33], []), (.iload_n 1, 1, [1], []), (.iload_n 2, 1, [2], []), (.if_icmp .gt 17, 3, [33], []), (.iload_n 3, 1, [3], []), (.iload 4, 2, [4], []), (.invokestatic 208, 3, [1, 210, 2, 0, 92], []), (.ifCond .eq 8, 3, [33], []), (.iload 5, 2, [5], []), (.ifCond .ge 10, 3, [40], [])]
def S_X11_counts_52 : List mI := [(.iload 8, 2, [8], []), (.iload_n 2, 1, [2], []), (.if_icmp .gt 22, 3, [77], []), (.iload 8, 2, [8], []), (.iload 6, 2, [6], []), (.irem, 1, [], []), (.iload 5, 2, [5], []), (.if_icmp .ne 6, 3, [71], []), (.iinc 7 1, 3, [7], [1])]
theorem lb_X11_counts : B_X11_counts.all (fun b => lst y_X11_counts.2.1 11 y_X11_counts.2.2.1 false b.1 b.2) = true := by decide +kernel
theorem ls_X11_counts_0 : lst y_X11_counts.2.1 11 y_X11_counts.2.2.1 false 0 S_X11_counts_0 = true := by decide +kernel
theorem ls_X11_counts_52 : lst y_X11_counts.2.1 11 y_X11_counts.2.2.1 false 52 S_X11_counts_52 = true := by decide +kernel
def C_X11_counts (N : Nat) : Nat → List Value → mH → (Option Value → mH → Option (Int32 × mH)) → Option (Int32 × mH) := fun j as g k => kb j 209 (pp1 as fun b0 as => pe as ((f_X11_stakesCan N b0 g).bind fun p => k (some (.int p.1)) p.2)) (kb j 210 (pp1 as fun b0 as => pp1 as fun b1 as => pe as ((f_X11_strokeCan N b0 b1 g).bind fun p => k (some (.int p.1)) p.2)) (kb j 203 (pr1 as fun b0 as => pp1 as fun b1 as => pe as ((f_X11_refuse N b0 b1 g).bind fun p => k (some (.int p.1)) p.2)) (none)))
theorem co_X11_counts (N : Nat) (q : Int32 × mH) : clOK 5 q (C_X11_counts N) := by
  intro j as g k e
  rcases kb_s e with ⟨rfl, e⟩ | e
  · obtain ⟨b0, r0, q0, f0⟩ := pp1_s e
    obtain ⟨qe, fe⟩ := pe_s f0
    obtain ⟨p, e1, e2⟩ := bnd_s fe
    subst qe
    subst q0
    exact ⟨_, _, _, _, 4, rfl, (by decide), m_X11_stakesCan N e1, e2⟩
  rcases kb_s e with ⟨rfl, e⟩ | e
  · obtain ⟨b0, r0, q0, f0⟩ := pp1_s e
    obtain ⟨b1, r1, q1, f1⟩ := pp1_s f0
    obtain ⟨qe, fe⟩ := pe_s f1
    obtain ⟨p, e1, e2⟩ := bnd_s fe
    subst qe
    subst q1
    subst q0
    exact ⟨_, _, _, _, 4, rfl, (by decide), m_X11_strokeCan N e1, e2⟩
  rcases kb_s e with ⟨rfl, e⟩ | e
  · obtain ⟨b0, r0, q0, f0⟩ := pr1_s e
    obtain ⟨b1, r1, q1, f1⟩ := pp1_s f0
    obtain ⟨qe, fe⟩ := pe_s f1
    obtain ⟨p, e1, e2⟩ := bnd_s fe
    subst qe
    subst q1
    subst q0
    exact ⟨_, _, _, _, 4, rfl, (by decide), m_X11_refuse N e1, e2⟩
  cases e
set_option maxRecDepth 100000 in
theorem t_X11_counts_52 {X : Nat × (Nat → Int32)} (N : Nat) {q : Int32 × mH} : ∀ (n : Nat) (x2 : Int32) (x5 : Int32) (x6 : Int32) (x7 : Int32) (x8 : Int32) (h : mH), L_X11_counts_52 N n x2 x5 x6 x7 x8 h = some q → MW X y_X11_counts 5 52 [(2, .int x2), (5, .int x5), (6, .int x6), (7, .int x7), (8, .int x8)] [] h (some (.int q.1)) q.2 := by
  intro n
  induction n with
  | zero => intro x2 x5 x6 x7 x8 h hf; cases hf
  | succ n ih =>
    intro x2 x5 x6 x7 x8 h hf
    refine ev_ok (o := 11) (ini := false) (Cl := C_X11_counts N) (Rc := RcI) (B := B_X11_counts) (K := fun pc ls st g => kb pc 52 (lgi 2 ls fun x2 => lgi 5 ls fun x5 => lgi 6 ls fun x6 => lgi 7 ls fun x7 => lgi 8 ls fun x8 => pe st (L_X11_counts_52 N n x2 x5 x6 x7 x8 g)) (none)) rfl (fun e => by cases e) (by decide) (rcI_ok rfl) ?_ (co_X11_counts N q) lb_X11_counts 3000 52 S_X11_counts_52 _ _ h ls_X11_counts_52 hf
    intro pc ls st g e
    rcases kb_s e with ⟨rfl, e⟩ | e
    · obtain ⟨x2, e0, f0⟩ := lgi_s e
      obtain ⟨x5, e1, f1⟩ := lgi_s f0
      obtain ⟨x6, e2, f2⟩ := lgi_s f1
      obtain ⟨x7, e3, f3⟩ := lgi_s f2
      obtain ⟨x8, e4, f4⟩ := lgi_s f3
      obtain ⟨qe, fe⟩ := pe_s f4
      subst qe
      exact MW.sub (List.forall_mem_cons.mpr ⟨lg_mem e0, List.forall_mem_cons.mpr ⟨lg_mem e1, List.forall_mem_cons.mpr ⟨lg_mem e2, List.forall_mem_cons.mpr ⟨lg_mem e3, List.forall_mem_cons.mpr ⟨lg_mem e4, fun _ h => absurd h List.not_mem_nil⟩⟩⟩⟩⟩) (ih x2 x5 x6 x7 x8 g fe)
    cases e
set_option maxRecDepth 100000 in
theorem m_X11_counts (N : Nat) {a0 : Nat} {x1 : Int32} {x2 : Int32} {x3 : Int32} {x4 : Int32} {x5 : Int32} {h : mH} {q : Int32 × mH} (hf : f_X11_counts N a0 x1 x2 x3 x4 x5 h = some q) : MM y_X11_counts 5 [.ref a0, .int x1, .int x2, .int x3, .int x4, .int x5] h (some (.int q.1)) q.2 := by
  refine MM.of (mFx (j := 158) rfl).2.2.2.1 (Nat.le_of_ble_eq_true rfl) (fun X => ?_)
  refine ev_ok (o := 11) (ini := false) (Cl := C_X11_counts N) (Rc := RcI) (B := B_X11_counts) (K := fun pc ls st g => kb pc 52 (lgi 2 ls fun x2 => lgi 5 ls fun x5 => lgi 6 ls fun x6 => lgi 7 ls fun x7 => lgi 8 ls fun x8 => pe st (L_X11_counts_52 N N x2 x5 x6 x7 x8 g)) (none)) rfl (fun e => by cases e) (by decide) (rcI_ok rfl) ?_ (co_X11_counts N q) lb_X11_counts 3000 0 S_X11_counts_0 _ _ h ls_X11_counts_0 hf
  intro pc ls st g e
  rcases kb_s e with ⟨rfl, e⟩ | e
  · obtain ⟨x2, e0, f0⟩ := lgi_s e
    obtain ⟨x5, e1, f1⟩ := lgi_s f0
    obtain ⟨x6, e2, f2⟩ := lgi_s f1
    obtain ⟨x7, e3, f3⟩ := lgi_s f2
    obtain ⟨x8, e4, f4⟩ := lgi_s f3
    obtain ⟨qe, fe⟩ := pe_s f4
    subst qe
    exact MW.sub (List.forall_mem_cons.mpr ⟨lg_mem e0, List.forall_mem_cons.mpr ⟨lg_mem e1, List.forall_mem_cons.mpr ⟨lg_mem e2, List.forall_mem_cons.mpr ⟨lg_mem e3, List.forall_mem_cons.mpr ⟨lg_mem e4, fun _ h => absurd h List.not_mem_nil⟩⟩⟩⟩⟩) (t_X11_counts_52 N N x2 x5 x6 x7 x8 g fe)
  cases e
def f_X11_total (N : Nat) (a0 : Nat) (h : mH) : Option (Int32 × mH) :=
  (gR h 11 a0 2).bind fun v1 =>
  (rcv h 0 v1).bind fun _ =>
  (f_X0_allCrossings N v1 h).bind fun p2 =>
  some (p2.1, p2.2)
def y_X11_total : mM := (yX11_total, cX11_total, 1, (some .int))
def B_X11_total : List (Nat × List mI) := []
def S_X11_total_0 : List mI := [(.aload_n 0, 1, [0], []), (.getfield 16, 3, [11, 2, 2, 111], []), (.invokevirtual 217, 3, [0, 21, 0, 0, 97], []), (.ireturn, 1, [], [])]
theorem lb_X11_total : B_X11_total.all (fun b => lst y_X11_total.2.1 11 y_X11_total.2.2.1 false b.1 b.2) = true := by decide +kernel
theorem ls_X11_total_0 : lst y_X11_total.2.1 11 y_X11_total.2.2.1 false 0 S_X11_total_0 = true := by decide +kernel
def C_X11_total (N : Nat) : Nat → List Value → mH → (Option Value → mH → Option (Int32 × mH)) → Option (Int32 × mH) := fun j as g k => kb j 21 (pr1 as fun b0 as => pe as ((f_X0_allCrossings N b0 g).bind fun p => k (some (.int p.1)) p.2)) (none)
theorem co_X11_total (N : Nat) (q : Int32 × mH) : clOK 8 q (C_X11_total N) := by
  intro j as g k e
  rcases kb_s e with ⟨rfl, e⟩ | e
  · obtain ⟨b0, r0, q0, f0⟩ := pr1_s e
    obtain ⟨qe, fe⟩ := pe_s f0
    obtain ⟨p, e1, e2⟩ := bnd_s fe
    subst qe
    subst q0
    exact ⟨_, _, _, _, 7, rfl, (by decide), m_X0_allCrossings N e1, e2⟩
  cases e
set_option maxRecDepth 100000 in
theorem m_X11_total (N : Nat) {a0 : Nat} {h : mH} {q : Int32 × mH} (hf : f_X11_total N a0 h = some q) : MM y_X11_total 8 [.ref a0] h (some (.int q.1)) q.2 := by
  refine MM.of (mFx (j := 159) rfl).2.2.2.1 (Nat.le_of_ble_eq_true rfl) (fun X => ?_)
  refine ev_ok (o := 11) (ini := false) (Cl := C_X11_total N) (Rc := RcI) (B := B_X11_total) (K := fun pc ls st g => none) rfl (fun e => by cases e) (by decide) (rcI_ok rfl) ?_ (co_X11_total N q) lb_X11_total 3000 0 S_X11_total_0 _ _ h ls_X11_total_0 hf
  intro pc ls st g e
  cases e
def f_X11_undo (N : Nat) (a0 : Nat) (x1 : Int32) (x2 : Int32) (x3 : Int32) (x4 : Int32) (h : mH) : Option (Int32 × mH) :=
  (gR h 11 a0 2).bind fun v1 =>
  (rcv h 0 v1).bind fun _ =>
  (f_X0_hasCrossing N v1 x1 x2 x3 h).bind fun p2 =>
  if p2.1 = 0 then
    (rcv p2.2 11 a0).bind fun _ =>
    (f_X11_refuse N a0 (jI (-2)) p2.2).bind fun p3 =>
    some (p3.1, p3.2)
  else
    (gR p2.2 11 a0 2).bind fun v4 =>
    (rcv p2.2 0 v4).bind fun _ =>
    (f_X0_whenOf N v4 x1 x2 x3 p2.2).bind fun p5 =>
    if x4 = 0 then
      some (iAdd p5.1 (jI 1), p5.2)
    else
      (gR p5.2 11 a0 2).bind fun v6 =>
      (rcv p5.2 0 v6).bind fun _ =>
      (f_X0_allCrossings N v6 p5.2).bind fun p7 =>
      some (iSub p7.1 p5.1, p7.2)
def y_X11_undo : mM := (yX11_undo, cX11_undo, 6, (some .int))
def B_X11_undo : List (Nat × List mI) := [(20, [(.aload_n 0, 1, [0], []), (.getfield 16, 3, [11, 2, 2, 111], []), (.iload_n 1, 1, [1], []), (.iload_n 2, 1, [2], []), (.iload_n 3, 1, [3], []), (.invokevirtual 186, 3, [0, 22, 3, 0, 76], []), (.istore 5, 2, [5], []), (.iload 4, 2, [4], []), (.ifCond .eq 16, 3, [50], []), (.aload_n 0, 1, [0], []), (.getfield 16, 3, [11, 2, 2, 111], []), (.invokevirtual 217, 3, [0, 21, 0, 0, 97], []), (.iload 5, 2, [5], []), (.isub, 1, [], []), (.goto 7, 3, [54], [])]), (50, [(.iload 5, 2, [5], []), (.iconst 1, 1, [], [1]), (.iadd, 1, [], [])]), (54, [(.ireturn, 1, [], [])])]
def S_X11_undo_0 : List mI := [(.aload_n 0, 1, [0], []), (.getfield 16, 3, [11, 2, 2, 111], []), (.iload_n 1, 1, [1], []), (.iload_n 2, 1, [2], []), (.iload_n 3, 1, [3], []), (.invokevirtual 166, 3, [0, 7, 3, 0, 54], []), (.ifCond .ne 10, 3, [20], []), (.aload_n 0, 1, [0], []), (.bipush (-2), 2, [], [-2]), (.invokevirtual 109, 3, [0, 203, 1, 11, 10], []), (.ireturn, 1, [], [])]
theorem lb_X11_undo : B_X11_undo.all (fun b => lst y_X11_undo.2.1 11 y_X11_undo.2.2.1 false b.1 b.2) = true := by decide +kernel
theorem ls_X11_undo_0 : lst y_X11_undo.2.1 11 y_X11_undo.2.2.1 false 0 S_X11_undo_0 = true := by decide +kernel
def C_X11_undo (N : Nat) : Nat → List Value → mH → (Option Value → mH → Option (Int32 × mH)) → Option (Int32 × mH) := fun j as g k => kb j 7 (pr1 as fun b0 as => pp1 as fun b1 as => pp1 as fun b2 as => pp1 as fun b3 as => pe as ((f_X0_hasCrossing N b0 b1 b2 b3 g).bind fun p => k (some (.int p.1)) p.2)) (kb j 203 (pr1 as fun b0 as => pp1 as fun b1 as => pe as ((f_X11_refuse N b0 b1 g).bind fun p => k (some (.int p.1)) p.2)) (kb j 22 (pr1 as fun b0 as => pp1 as fun b1 as => pp1 as fun b2 as => pp1 as fun b3 as => pe as ((f_X0_whenOf N b0 b1 b2 b3 g).bind fun p => k (some (.int p.1)) p.2)) (kb j 21 (pr1 as fun b0 as => pe as ((f_X0_allCrossings N b0 g).bind fun p => k (some (.int p.1)) p.2)) (none))))
theorem co_X11_undo (N : Nat) (q : Int32 × mH) : clOK 8 q (C_X11_undo N) := by
  intro j as g k e
  rcases kb_s e with ⟨rfl, e⟩ | e
  · obtain ⟨b0, r0, q0, f0⟩ := pr1_s e
    obtain ⟨b1, r1, q1, f1⟩ := pp1_s f0
    obtain ⟨b2, r2, q2, f2⟩ := pp1_s f1
    obtain ⟨b3, r3, q3, f3⟩ := pp1_s f2
    obtain ⟨qe, fe⟩ := pe_s f3
    obtain ⟨p, e1, e2⟩ := bnd_s fe
    subst qe
    subst q3
    subst q2
    subst q1
    subst q0
    exact ⟨_, _, _, _, 6, rfl, (by decide), m_X0_hasCrossing N e1, e2⟩
  rcases kb_s e with ⟨rfl, e⟩ | e
  · obtain ⟨b0, r0, q0, f0⟩ := pr1_s e
    obtain ⟨b1, r1, q1, f1⟩ := pp1_s f0
    obtain ⟨qe, fe⟩ := pe_s f1
    obtain ⟨p, e1, e2⟩ := bnd_s fe
    subst qe
    subst q1
    subst q0
    exact ⟨_, _, _, _, 4, rfl, (by decide), m_X11_refuse N e1, e2⟩
  rcases kb_s e with ⟨rfl, e⟩ | e
  · obtain ⟨b0, r0, q0, f0⟩ := pr1_s e
    obtain ⟨b1, r1, q1, f1⟩ := pp1_s f0
    obtain ⟨b2, r2, q2, f2⟩ := pp1_s f1
    obtain ⟨b3, r3, q3, f3⟩ := pp1_s f2
    obtain ⟨qe, fe⟩ := pe_s f3
    obtain ⟨p, e1, e2⟩ := bnd_s fe
    subst qe
    subst q3
    subst q2
    subst q1
    subst q0
    exact ⟨_, _, _, _, 7, rfl, (by decide), m_X0_whenOf N e1, e2⟩
  rcases kb_s e with ⟨rfl, e⟩ | e
  · obtain ⟨b0, r0, q0, f0⟩ := pr1_s e
    obtain ⟨qe, fe⟩ := pe_s f0
    obtain ⟨p, e1, e2⟩ := bnd_s fe
    subst qe
    subst q0
    exact ⟨_, _, _, _, 7, rfl, (by decide), m_X0_allCrossings N e1, e2⟩
  cases e
set_option maxRecDepth 100000 in
theorem m_X11_undo (N : Nat) {a0 : Nat} {x1 : Int32} {x2 : Int32} {x3 : Int32} {x4 : Int32} {h : mH} {q : Int32 × mH} (hf : f_X11_undo N a0 x1 x2 x3 x4 h = some q) : MM y_X11_undo 8 [.ref a0, .int x1, .int x2, .int x3, .int x4] h (some (.int q.1)) q.2 := by
  refine MM.of (mFx (j := 160) rfl).2.2.2.1 (Nat.le_of_ble_eq_true rfl) (fun X => ?_)
  refine ev_ok (o := 11) (ini := false) (Cl := C_X11_undo N) (Rc := RcI) (B := B_X11_undo) (K := fun pc ls st g => none) rfl (fun e => by cases e) (by decide) (rcI_ok rfl) ?_ (co_X11_undo N q) lb_X11_undo 3000 0 S_X11_undo_0 _ _ h ls_X11_undo_0 hf
  intro pc ls st g e
  cases e
def f_X11_mend (N : Nat) (a0 : Nat) (x1 : Int32) (x2 : Int32) (x3 : Int32) (h : mH) : Option (Int32 × mH) :=
  (gR h 11 a0 2).bind fun v1 =>
  (rcv h 0 v1).bind fun _ =>
  (f_X0_hasBand N v1 x1 h).bind fun p2 =>
  if p2.1 = 0 then
    (rcv p2.2 11 a0).bind fun _ =>
    (f_X11_refuse N a0 (jI (-2)) p2.2).bind fun p3 =>
    some (p3.1, p3.2)
  else
    if x2 < 0 then
      (rcv p2.2 11 a0).bind fun _ =>
      (f_X11_refuse N a0 (jI (-2)) p2.2).bind fun p4 =>
      some (p4.1, p4.2)
    else
      (gR p2.2 11 a0 2).bind fun v5 =>
      (rcv p2.2 0 v5).bind fun _ =>
      (f_X0_ofBand N v5 x1 (jI 3) p2.2).bind fun p6 =>
      if x2 < p6.1 then
        (gR p6.2 11 a0 2).bind fun v7 =>
        (rcv p6.2 0 v7).bind fun _ =>
        (f_X0_hasStake N v7 x3 p6.2).bind fun p8 =>
        if p8.1 = 0 then
          (rcv p8.2 11 a0).bind fun _ =>
          (f_X11_refuse N a0 (jI (-2)) p8.2).bind fun p9 =>
          some (p9.1, p9.2)
        else
          (gR p8.2 11 a0 2).bind fun v10 =>
          (rcv p8.2 0 v10).bind fun _ =>
          (f_X0_allCrossings N v10 p8.2).bind fun p11 =>
          (gR p11.2 11 a0 2).bind fun v12 =>
          (rcv p11.2 0 v12).bind fun _ =>
          (f_X0_firstTouch N v12 x1 x2 x3 p11.2).bind fun p13 =>
          some (iSub p11.1 p13.1, p13.2)
      else
        (rcv p6.2 11 a0).bind fun _ =>
        (f_X11_refuse N a0 (jI (-2)) p6.2).bind fun p14 =>
        some (p14.1, p14.2)
def y_X11_mend : mM := (yX11_mend, cX11_mend, 4, (some .int))
def B_X11_mend : List (Nat × List mI) := [(39, [(.aload_n 0, 1, [0], []), (.bipush (-2), 2, [], [-2]), (.invokevirtual 109, 3, [0, 203, 1, 11, 10], []), (.ireturn, 1, [], [])]), (46, [(.aload_n 0, 1, [0], []), (.getfield 16, 3, [11, 2, 2, 111], []), (.invokevirtual 217, 3, [0, 21, 0, 0, 97], []), (.aload_n 0, 1, [0], []), (.getfield 16, 3, [11, 2, 2, 111], []), (.iload_n 1, 1, [1], []), (.iload_n 2, 1, [2], []), (.iload_n 3, 1, [3], []), (.invokevirtual 221, 3, [0, 23, 3, 0, 100], []), (.isub, 1, [], []), (.ireturn, 1, [], [])])]
def S_X11_mend_0 : List mI := [(.aload_n 0, 1, [0], []), (.getfield 16, 3, [11, 2, 2, 111], []), (.iload_n 1, 1, [1], []), (.invokevirtual 150, 3, [0, 4, 1, 0, 46], []), (.ifCond .eq 31, 3, [39], []), (.iload_n 2, 1, [2], []), (.ifCond .lt 27, 3, [39], []), (.iload_n 2, 1, [2], []), (.aload_n 0, 1, [0], []), (.getfield 16, 3, [11, 2, 2, 111], []), (.iload_n 1, 1, [1], []), (.iconst 3, 1, [], [3]), (.invokevirtual 153, 3, [0, 9, 2, 0, 47], []), (.if_icmp .ge 14, 3, [39], []), (.aload_n 0, 1, [0], []), (.getfield 16, 3, [11, 2, 2, 111], []), (.iload_n 3, 1, [3], []), (.invokevirtual 192, 3, [0, 5, 1, 0, 80], []), (.ifCond .ne 10, 3, [46], [])]
theorem lb_X11_mend : B_X11_mend.all (fun b => lst y_X11_mend.2.1 11 y_X11_mend.2.2.1 false b.1 b.2) = true := by decide +kernel
theorem ls_X11_mend_0 : lst y_X11_mend.2.1 11 y_X11_mend.2.2.1 false 0 S_X11_mend_0 = true := by decide +kernel
def C_X11_mend (N : Nat) : Nat → List Value → mH → (Option Value → mH → Option (Int32 × mH)) → Option (Int32 × mH) := fun j as g k => kb j 4 (pr1 as fun b0 as => pp1 as fun b1 as => pe as ((f_X0_hasBand N b0 b1 g).bind fun p => k (some (.int p.1)) p.2)) (kb j 9 (pr1 as fun b0 as => pp1 as fun b1 as => pp1 as fun b2 as => pe as ((f_X0_ofBand N b0 b1 b2 g).bind fun p => k (some (.int p.1)) p.2)) (kb j 5 (pr1 as fun b0 as => pp1 as fun b1 as => pe as ((f_X0_hasStake N b0 b1 g).bind fun p => k (some (.int p.1)) p.2)) (kb j 203 (pr1 as fun b0 as => pp1 as fun b1 as => pe as ((f_X11_refuse N b0 b1 g).bind fun p => k (some (.int p.1)) p.2)) (kb j 21 (pr1 as fun b0 as => pe as ((f_X0_allCrossings N b0 g).bind fun p => k (some (.int p.1)) p.2)) (kb j 23 (pr1 as fun b0 as => pp1 as fun b1 as => pp1 as fun b2 as => pp1 as fun b3 as => pe as ((f_X0_firstTouch N b0 b1 b2 b3 g).bind fun p => k (some (.int p.1)) p.2)) (none))))))
theorem co_X11_mend (N : Nat) (q : Int32 × mH) : clOK 9 q (C_X11_mend N) := by
  intro j as g k e
  rcases kb_s e with ⟨rfl, e⟩ | e
  · obtain ⟨b0, r0, q0, f0⟩ := pr1_s e
    obtain ⟨b1, r1, q1, f1⟩ := pp1_s f0
    obtain ⟨qe, fe⟩ := pe_s f1
    obtain ⟨p, e1, e2⟩ := bnd_s fe
    subst qe
    subst q1
    subst q0
    exact ⟨_, _, _, _, 4, rfl, (by decide), m_X0_hasBand N e1, e2⟩
  rcases kb_s e with ⟨rfl, e⟩ | e
  · obtain ⟨b0, r0, q0, f0⟩ := pr1_s e
    obtain ⟨b1, r1, q1, f1⟩ := pp1_s f0
    obtain ⟨b2, r2, q2, f2⟩ := pp1_s f1
    obtain ⟨qe, fe⟩ := pe_s f2
    obtain ⟨p, e1, e2⟩ := bnd_s fe
    subst qe
    subst q2
    subst q1
    subst q0
    exact ⟨_, _, _, _, 4, rfl, (by decide), m_X0_ofBand N e1, e2⟩
  rcases kb_s e with ⟨rfl, e⟩ | e
  · obtain ⟨b0, r0, q0, f0⟩ := pr1_s e
    obtain ⟨b1, r1, q1, f1⟩ := pp1_s f0
    obtain ⟨qe, fe⟩ := pe_s f1
    obtain ⟨p, e1, e2⟩ := bnd_s fe
    subst qe
    subst q1
    subst q0
    exact ⟨_, _, _, _, 4, rfl, (by decide), m_X0_hasStake N e1, e2⟩
  rcases kb_s e with ⟨rfl, e⟩ | e
  · obtain ⟨b0, r0, q0, f0⟩ := pr1_s e
    obtain ⟨b1, r1, q1, f1⟩ := pp1_s f0
    obtain ⟨qe, fe⟩ := pe_s f1
    obtain ⟨p, e1, e2⟩ := bnd_s fe
    subst qe
    subst q1
    subst q0
    exact ⟨_, _, _, _, 4, rfl, (by decide), m_X11_refuse N e1, e2⟩
  rcases kb_s e with ⟨rfl, e⟩ | e
  · obtain ⟨b0, r0, q0, f0⟩ := pr1_s e
    obtain ⟨qe, fe⟩ := pe_s f0
    obtain ⟨p, e1, e2⟩ := bnd_s fe
    subst qe
    subst q0
    exact ⟨_, _, _, _, 7, rfl, (by decide), m_X0_allCrossings N e1, e2⟩
  rcases kb_s e with ⟨rfl, e⟩ | e
  · obtain ⟨b0, r0, q0, f0⟩ := pr1_s e
    obtain ⟨b1, r1, q1, f1⟩ := pp1_s f0
    obtain ⟨b2, r2, q2, f2⟩ := pp1_s f1
    obtain ⟨b3, r3, q3, f3⟩ := pp1_s f2
    obtain ⟨qe, fe⟩ := pe_s f3
    obtain ⟨p, e1, e2⟩ := bnd_s fe
    subst qe
    subst q3
    subst q2
    subst q1
    subst q0
    exact ⟨_, _, _, _, 8, rfl, (by decide), m_X0_firstTouch N e1, e2⟩
  cases e
set_option maxRecDepth 100000 in
theorem m_X11_mend (N : Nat) {a0 : Nat} {x1 : Int32} {x2 : Int32} {x3 : Int32} {h : mH} {q : Int32 × mH} (hf : f_X11_mend N a0 x1 x2 x3 h = some q) : MM y_X11_mend 9 [.ref a0, .int x1, .int x2, .int x3] h (some (.int q.1)) q.2 := by
  refine MM.of (mFx (j := 161) rfl).2.2.2.1 (Nat.le_of_ble_eq_true rfl) (fun X => ?_)
  refine ev_ok (o := 11) (ini := false) (Cl := C_X11_mend N) (Rc := RcI) (B := B_X11_mend) (K := fun pc ls st g => none) rfl (fun e => by cases e) (by decide) (rcI_ok rfl) ?_ (co_X11_mend N q) lb_X11_mend 3000 0 S_X11_mend_0 _ _ h ls_X11_mend_0 hf
  intro pc ls st g e
  cases e
def f_X11_seam (N : Nat) (a0 : Nat) (x1 : Int32) (h : mH) : Option (Int32 × mH) :=
  (gR h 11 a0 2).bind fun v1 =>
  (rcv h 0 v1).bind fun _ =>
  (f_X0_hasBand N v1 x1 h).bind fun p2 =>
  if p2.1 = 0 then
    (rcv p2.2 11 a0).bind fun _ =>
    (f_X11_refuse N a0 (jI (-2)) p2.2).bind fun p3 =>
    some (p3.1, p3.2)
  else
    (gR p2.2 11 a0 2).bind fun v4 =>
    (rcv p2.2 0 v4).bind fun _ =>
    (f_X0_hasBand N v4 (iAdd x1 (jI 1)) p2.2).bind fun p5 =>
    if p5.1 = 0 then
      some (jI (-1), p5.2)
    else
      (gR p5.2 11 a0 5).bind fun v6 =>
      (gR p5.2 11 a0 2).bind fun v7 =>
      (rcv p5.2 0 v7).bind fun _ =>
      (f_X0_ofBand N v7 (iAdd x1 (jI 1)) (jI 4) p5.2).bind fun p8 =>
      (rcv p8.2 10 v6).bind fun _ =>
      (f_X10_alike N v6 x1 p8.1 p8.2).bind fun p9 =>
      some (p9.1, p9.2)
def y_X11_seam : mM := (yX11_seam, cX11_seam, 2, (some .int))
def B_X11_seam : List (Nat × List mI) := [(18, [(.aload_n 0, 1, [0], []), (.getfield 16, 3, [11, 2, 2, 111], []), (.iload_n 1, 1, [1], []), (.iconst 1, 1, [], [1]), (.iadd, 1, [], []), (.invokevirtual 150, 3, [0, 4, 1, 0, 46], []), (.ifCond .ne 5, 3, [33], []), (.iconst (-1), 1, [], [-1]), (.ireturn, 1, [], [])]), (33, [(.aload_n 0, 1, [0], []), (.getfield 35, 3, [11, 5, 2, 114], []), (.iload_n 1, 1, [1], []), (.aload_n 0, 1, [0], []), (.getfield 16, 3, [11, 2, 2, 111], []), (.iload_n 1, 1, [1], []), (.iconst 1, 1, [], [1]), (.iadd, 1, [], []), (.iconst 4, 1, [], [4]), (.invokevirtual 153, 3, [0, 9, 2, 0, 47], []), (.invokevirtual 224, 3, [0, 135, 2, 10, 104], []), (.ireturn, 1, [], [])])]
def S_X11_seam_0 : List mI := [(.aload_n 0, 1, [0], []), (.getfield 16, 3, [11, 2, 2, 111], []), (.iload_n 1, 1, [1], []), (.invokevirtual 150, 3, [0, 4, 1, 0, 46], []), (.ifCond .ne 10, 3, [18], []), (.aload_n 0, 1, [0], []), (.bipush (-2), 2, [], [-2]), (.invokevirtual 109, 3, [0, 203, 1, 11, 10], []), (.ireturn, 1, [], [])]
theorem lb_X11_seam : B_X11_seam.all (fun b => lst y_X11_seam.2.1 11 y_X11_seam.2.2.1 false b.1 b.2) = true := by decide +kernel
theorem ls_X11_seam_0 : lst y_X11_seam.2.1 11 y_X11_seam.2.2.1 false 0 S_X11_seam_0 = true := by decide +kernel
def C_X11_seam (N : Nat) : Nat → List Value → mH → (Option Value → mH → Option (Int32 × mH)) → Option (Int32 × mH) := fun j as g k => kb j 4 (pr1 as fun b0 as => pp1 as fun b1 as => pe as ((f_X0_hasBand N b0 b1 g).bind fun p => k (some (.int p.1)) p.2)) (kb j 203 (pr1 as fun b0 as => pp1 as fun b1 as => pe as ((f_X11_refuse N b0 b1 g).bind fun p => k (some (.int p.1)) p.2)) (kb j 9 (pr1 as fun b0 as => pp1 as fun b1 as => pp1 as fun b2 as => pe as ((f_X0_ofBand N b0 b1 b2 g).bind fun p => k (some (.int p.1)) p.2)) (kb j 135 (pr1 as fun b0 as => pp1 as fun b1 as => pp1 as fun b2 as => pe as ((f_X10_alike N b0 b1 b2 g).bind fun p => k (some (.int p.1)) p.2)) (none))))
theorem co_X11_seam (N : Nat) (q : Int32 × mH) : clOK 10 q (C_X11_seam N) := by
  intro j as g k e
  rcases kb_s e with ⟨rfl, e⟩ | e
  · obtain ⟨b0, r0, q0, f0⟩ := pr1_s e
    obtain ⟨b1, r1, q1, f1⟩ := pp1_s f0
    obtain ⟨qe, fe⟩ := pe_s f1
    obtain ⟨p, e1, e2⟩ := bnd_s fe
    subst qe
    subst q1
    subst q0
    exact ⟨_, _, _, _, 4, rfl, (by decide), m_X0_hasBand N e1, e2⟩
  rcases kb_s e with ⟨rfl, e⟩ | e
  · obtain ⟨b0, r0, q0, f0⟩ := pr1_s e
    obtain ⟨b1, r1, q1, f1⟩ := pp1_s f0
    obtain ⟨qe, fe⟩ := pe_s f1
    obtain ⟨p, e1, e2⟩ := bnd_s fe
    subst qe
    subst q1
    subst q0
    exact ⟨_, _, _, _, 4, rfl, (by decide), m_X11_refuse N e1, e2⟩
  rcases kb_s e with ⟨rfl, e⟩ | e
  · obtain ⟨b0, r0, q0, f0⟩ := pr1_s e
    obtain ⟨b1, r1, q1, f1⟩ := pp1_s f0
    obtain ⟨b2, r2, q2, f2⟩ := pp1_s f1
    obtain ⟨qe, fe⟩ := pe_s f2
    obtain ⟨p, e1, e2⟩ := bnd_s fe
    subst qe
    subst q2
    subst q1
    subst q0
    exact ⟨_, _, _, _, 4, rfl, (by decide), m_X0_ofBand N e1, e2⟩
  rcases kb_s e with ⟨rfl, e⟩ | e
  · obtain ⟨b0, r0, q0, f0⟩ := pr1_s e
    obtain ⟨b1, r1, q1, f1⟩ := pp1_s f0
    obtain ⟨b2, r2, q2, f2⟩ := pp1_s f1
    obtain ⟨qe, fe⟩ := pe_s f2
    obtain ⟨p, e1, e2⟩ := bnd_s fe
    subst qe
    subst q2
    subst q1
    subst q0
    exact ⟨_, _, _, _, 9, rfl, (by decide), m_X10_alike N e1, e2⟩
  cases e
set_option maxRecDepth 100000 in
theorem m_X11_seam (N : Nat) {a0 : Nat} {x1 : Int32} {h : mH} {q : Int32 × mH} (hf : f_X11_seam N a0 x1 h = some q) : MM y_X11_seam 10 [.ref a0, .int x1] h (some (.int q.1)) q.2 := by
  refine MM.of (mFx (j := 162) rfl).2.2.2.1 (Nat.le_of_ble_eq_true rfl) (fun X => ?_)
  refine ev_ok (o := 11) (ini := false) (Cl := C_X11_seam N) (Rc := RcI) (B := B_X11_seam) (K := fun pc ls st g => none) rfl (fun e => by cases e) (by decide) (rcI_ok rfl) ?_ (co_X11_seam N q) lb_X11_seam 3000 0 S_X11_seam_0 _ _ h ls_X11_seam_0 hf
  intro pc ls st g e
  cases e
def f_X11_turn (N : Nat) (a0 : Nat) (x1 : Int32) (h : mH) : Option (Int32 × mH) :=
  (gR h 11 a0 2).bind fun v1 =>
  (rcv h 0 v1).bind fun _ =>
  (f_X0_hasBand N v1 x1 h).bind fun p2 =>
  if p2.1 = 0 then
    (rcv p2.2 11 a0).bind fun _ =>
    (f_X11_refuse N a0 (jI (-2)) p2.2).bind fun p3 =>
    some (p3.1, p3.2)
  else
    (gR p2.2 11 a0 2).bind fun v4 =>
    (rcv p2.2 0 v4).bind fun _ =>
    (f_X0_hasBand N v4 (iAdd x1 (jI 1)) p2.2).bind fun p5 =>
    if p5.1 = 0 then
      some (jI (-1), p5.2)
    else
      (gR p5.2 11 a0 5).bind fun v6 =>
      (rcv p5.2 10 v6).bind fun _ =>
      (f_X10_bestFrom N v6 x1 p5.2).bind fun p7 =>
      some (p7.1, p7.2)
def y_X11_turn : mM := (yX11_turn, cX11_turn, 2, (some .int))
def B_X11_turn : List (Nat × List mI) := [(18, [(.aload_n 0, 1, [0], []), (.getfield 16, 3, [11, 2, 2, 111], []), (.iload_n 1, 1, [1], []), (.iconst 1, 1, [], [1]), (.iadd, 1, [], []), (.invokevirtual 150, 3, [0, 4, 1, 0, 46], []), (.ifCond .ne 5, 3, [33], []), (.iconst (-1), 1, [], [-1]), (.ireturn, 1, [], [])]), (33, [(.aload_n 0, 1, [0], []), (.getfield 35, 3, [11, 5, 2, 114], []), (.iload_n 1, 1, [1], []), (.invokevirtual 227, 3, [0, 136, 1, 10, 110], []), (.ireturn, 1, [], [])])]
def S_X11_turn_0 : List mI := [(.aload_n 0, 1, [0], []), (.getfield 16, 3, [11, 2, 2, 111], []), (.iload_n 1, 1, [1], []), (.invokevirtual 150, 3, [0, 4, 1, 0, 46], []), (.ifCond .ne 10, 3, [18], []), (.aload_n 0, 1, [0], []), (.bipush (-2), 2, [], [-2]), (.invokevirtual 109, 3, [0, 203, 1, 11, 10], []), (.ireturn, 1, [], [])]
theorem lb_X11_turn : B_X11_turn.all (fun b => lst y_X11_turn.2.1 11 y_X11_turn.2.2.1 false b.1 b.2) = true := by decide +kernel
theorem ls_X11_turn_0 : lst y_X11_turn.2.1 11 y_X11_turn.2.2.1 false 0 S_X11_turn_0 = true := by decide +kernel
def C_X11_turn (N : Nat) : Nat → List Value → mH → (Option Value → mH → Option (Int32 × mH)) → Option (Int32 × mH) := fun j as g k => kb j 4 (pr1 as fun b0 as => pp1 as fun b1 as => pe as ((f_X0_hasBand N b0 b1 g).bind fun p => k (some (.int p.1)) p.2)) (kb j 203 (pr1 as fun b0 as => pp1 as fun b1 as => pe as ((f_X11_refuse N b0 b1 g).bind fun p => k (some (.int p.1)) p.2)) (kb j 136 (pr1 as fun b0 as => pp1 as fun b1 as => pe as ((f_X10_bestFrom N b0 b1 g).bind fun p => k (some (.int p.1)) p.2)) (none)))
theorem co_X11_turn (N : Nat) (q : Int32 × mH) : clOK 11 q (C_X11_turn N) := by
  intro j as g k e
  rcases kb_s e with ⟨rfl, e⟩ | e
  · obtain ⟨b0, r0, q0, f0⟩ := pr1_s e
    obtain ⟨b1, r1, q1, f1⟩ := pp1_s f0
    obtain ⟨qe, fe⟩ := pe_s f1
    obtain ⟨p, e1, e2⟩ := bnd_s fe
    subst qe
    subst q1
    subst q0
    exact ⟨_, _, _, _, 4, rfl, (by decide), m_X0_hasBand N e1, e2⟩
  rcases kb_s e with ⟨rfl, e⟩ | e
  · obtain ⟨b0, r0, q0, f0⟩ := pr1_s e
    obtain ⟨b1, r1, q1, f1⟩ := pp1_s f0
    obtain ⟨qe, fe⟩ := pe_s f1
    obtain ⟨p, e1, e2⟩ := bnd_s fe
    subst qe
    subst q1
    subst q0
    exact ⟨_, _, _, _, 4, rfl, (by decide), m_X11_refuse N e1, e2⟩
  rcases kb_s e with ⟨rfl, e⟩ | e
  · obtain ⟨b0, r0, q0, f0⟩ := pr1_s e
    obtain ⟨b1, r1, q1, f1⟩ := pp1_s f0
    obtain ⟨qe, fe⟩ := pe_s f1
    obtain ⟨p, e1, e2⟩ := bnd_s fe
    subst qe
    subst q1
    subst q0
    exact ⟨_, _, _, _, 10, rfl, (by decide), m_X10_bestFrom N e1, e2⟩
  cases e
set_option maxRecDepth 100000 in
theorem m_X11_turn (N : Nat) {a0 : Nat} {x1 : Int32} {h : mH} {q : Int32 × mH} (hf : f_X11_turn N a0 x1 h = some q) : MM y_X11_turn 11 [.ref a0, .int x1] h (some (.int q.1)) q.2 := by
  refine MM.of (mFx (j := 163) rfl).2.2.2.1 (Nat.le_of_ble_eq_true rfl) (fun X => ?_)
  refine ev_ok (o := 11) (ini := false) (Cl := C_X11_turn N) (Rc := RcI) (B := B_X11_turn) (K := fun pc ls st g => none) rfl (fun e => by cases e) (by decide) (rcI_ok rfl) ?_ (co_X11_turn N q) lb_X11_turn 3000 0 S_X11_turn_0 _ _ h ls_X11_turn_0 hf
  intro pc ls st g e
  cases e
def f_X11_spiral (N : Nat) (a0 : Nat) (x1 : Int32) (x2 : Int32) (x3 : Int32) (h : mH) : Option (Int32 × mH) :=
  (gR h 11 a0 2).bind fun v1 =>
  (rcv h 0 v1).bind fun _ =>
  (f_X0_hasWeaver N v1 x1 x2 h).bind fun p2 =>
  if p2.1 = 0 then
    (rcv p2.2 11 a0).bind fun _ =>
    (f_X11_refuse N a0 (jI (-2)) p2.2).bind fun p3 =>
    some (p3.1, p3.2)
  else
    if x3 < 0 then
      (rcv p2.2 11 a0).bind fun _ =>
      (f_X11_refuse N a0 (jI (-2)) p2.2).bind fun p4 =>
      some (p4.1, p4.2)
    else
      (gR p2.2 11 a0 2).bind fun v5 =>
      (rcv p2.2 0 v5).bind fun _ =>
      (f_X0_ofBand N v5 x1 (jI 3) p2.2).bind fun p6 =>
      if (iSub p6.1 (jI 2)) < x3 then
        (rcv p6.2 11 a0).bind fun _ =>
        (f_X11_refuse N a0 (jI (-2)) p6.2).bind fun p7 =>
        some (p7.1, p7.2)
      else
        (gR p6.2 11 a0 5).bind fun v8 =>
        (rcv p6.2 10 v8).bind fun _ =>
        (f_X10_turnBetween N v8 x1 x2 x3 p6.2).bind fun p9 =>
        some (p9.1, p9.2)
def y_X11_spiral : mM := (yX11_spiral, cX11_spiral, 4, (some .int))
def B_X11_spiral : List (Nat × List mI) := [(31, [(.aload_n 0, 1, [0], []), (.bipush (-2), 2, [], [-2]), (.invokevirtual 109, 3, [0, 203, 1, 11, 10], []), (.ireturn, 1, [], [])]), (38, [(.aload_n 0, 1, [0], []), (.getfield 35, 3, [11, 5, 2, 114], []), (.iload_n 1, 1, [1], []), (.iload_n 2, 1, [2], []), (.iload_n 3, 1, [3], []), (.invokevirtual 230, 3, [0, 137, 3, 10, 113], []), (.ireturn, 1, [], [])])]
def S_X11_spiral_0 : List mI := [(.aload_n 0, 1, [0], []), (.getfield 16, 3, [11, 2, 2, 111], []), (.iload_n 1, 1, [1], []), (.iload_n 2, 1, [2], []), (.invokevirtual 159, 3, [0, 6, 2, 0, 49], []), (.ifCond .eq 22, 3, [31], []), (.iload_n 3, 1, [3], []), (.ifCond .lt 18, 3, [31], []), (.iload_n 3, 1, [3], []), (.aload_n 0, 1, [0], []), (.getfield 16, 3, [11, 2, 2, 111], []), (.iload_n 1, 1, [1], []), (.iconst 3, 1, [], [3]), (.invokevirtual 153, 3, [0, 9, 2, 0, 47], []), (.iconst 2, 1, [], [2]), (.isub, 1, [], []), (.if_icmp .le 10, 3, [38], [])]
theorem lb_X11_spiral : B_X11_spiral.all (fun b => lst y_X11_spiral.2.1 11 y_X11_spiral.2.2.1 false b.1 b.2) = true := by decide +kernel
theorem ls_X11_spiral_0 : lst y_X11_spiral.2.1 11 y_X11_spiral.2.2.1 false 0 S_X11_spiral_0 = true := by decide +kernel
def C_X11_spiral (N : Nat) : Nat → List Value → mH → (Option Value → mH → Option (Int32 × mH)) → Option (Int32 × mH) := fun j as g k => kb j 6 (pr1 as fun b0 as => pp1 as fun b1 as => pp1 as fun b2 as => pe as ((f_X0_hasWeaver N b0 b1 b2 g).bind fun p => k (some (.int p.1)) p.2)) (kb j 9 (pr1 as fun b0 as => pp1 as fun b1 as => pp1 as fun b2 as => pe as ((f_X0_ofBand N b0 b1 b2 g).bind fun p => k (some (.int p.1)) p.2)) (kb j 203 (pr1 as fun b0 as => pp1 as fun b1 as => pe as ((f_X11_refuse N b0 b1 g).bind fun p => k (some (.int p.1)) p.2)) (kb j 137 (pr1 as fun b0 as => pp1 as fun b1 as => pp1 as fun b2 as => pp1 as fun b3 as => pe as ((f_X10_turnBetween N b0 b1 b2 b3 g).bind fun p => k (some (.int p.1)) p.2)) (none))))
theorem co_X11_spiral (N : Nat) (q : Int32 × mH) : clOK 10 q (C_X11_spiral N) := by
  intro j as g k e
  rcases kb_s e with ⟨rfl, e⟩ | e
  · obtain ⟨b0, r0, q0, f0⟩ := pr1_s e
    obtain ⟨b1, r1, q1, f1⟩ := pp1_s f0
    obtain ⟨b2, r2, q2, f2⟩ := pp1_s f1
    obtain ⟨qe, fe⟩ := pe_s f2
    obtain ⟨p, e1, e2⟩ := bnd_s fe
    subst qe
    subst q2
    subst q1
    subst q0
    exact ⟨_, _, _, _, 5, rfl, (by decide), m_X0_hasWeaver N e1, e2⟩
  rcases kb_s e with ⟨rfl, e⟩ | e
  · obtain ⟨b0, r0, q0, f0⟩ := pr1_s e
    obtain ⟨b1, r1, q1, f1⟩ := pp1_s f0
    obtain ⟨b2, r2, q2, f2⟩ := pp1_s f1
    obtain ⟨qe, fe⟩ := pe_s f2
    obtain ⟨p, e1, e2⟩ := bnd_s fe
    subst qe
    subst q2
    subst q1
    subst q0
    exact ⟨_, _, _, _, 4, rfl, (by decide), m_X0_ofBand N e1, e2⟩
  rcases kb_s e with ⟨rfl, e⟩ | e
  · obtain ⟨b0, r0, q0, f0⟩ := pr1_s e
    obtain ⟨b1, r1, q1, f1⟩ := pp1_s f0
    obtain ⟨qe, fe⟩ := pe_s f1
    obtain ⟨p, e1, e2⟩ := bnd_s fe
    subst qe
    subst q1
    subst q0
    exact ⟨_, _, _, _, 4, rfl, (by decide), m_X11_refuse N e1, e2⟩
  rcases kb_s e with ⟨rfl, e⟩ | e
  · obtain ⟨b0, r0, q0, f0⟩ := pr1_s e
    obtain ⟨b1, r1, q1, f1⟩ := pp1_s f0
    obtain ⟨b2, r2, q2, f2⟩ := pp1_s f1
    obtain ⟨b3, r3, q3, f3⟩ := pp1_s f2
    obtain ⟨qe, fe⟩ := pe_s f3
    obtain ⟨p, e1, e2⟩ := bnd_s fe
    subst qe
    subst q3
    subst q2
    subst q1
    subst q0
    exact ⟨_, _, _, _, 9, rfl, (by decide), m_X10_turnBetween N e1, e2⟩
  cases e
set_option maxRecDepth 100000 in
theorem m_X11_spiral (N : Nat) {a0 : Nat} {x1 : Int32} {x2 : Int32} {x3 : Int32} {h : mH} {q : Int32 × mH} (hf : f_X11_spiral N a0 x1 x2 x3 h = some q) : MM y_X11_spiral 10 [.ref a0, .int x1, .int x2, .int x3] h (some (.int q.1)) q.2 := by
  refine MM.of (mFx (j := 164) rfl).2.2.2.1 (Nat.le_of_ble_eq_true rfl) (fun X => ?_)
  refine ev_ok (o := 11) (ini := false) (Cl := C_X11_spiral N) (Rc := RcI) (B := B_X11_spiral) (K := fun pc ls st g => none) rfl (fun e => by cases e) (by decide) (rcI_ok rfl) ?_ (co_X11_spiral N q) lb_X11_spiral 3000 0 S_X11_spiral_0 _ _ h ls_X11_spiral_0 hf
  intro pc ls st g e
  cases e
def f_X11_repeats (N : Nat) (a0 : Nat) (x1 : Int32) (h : mH) : Option (Int32 × mH) :=
  (gR h 11 a0 2).bind fun v1 =>
  (rcv h 0 v1).bind fun _ =>
  (f_X0_hasBand N v1 x1 h).bind fun p2 =>
  if p2.1 = 0 then
    (rcv p2.2 11 a0).bind fun _ =>
    (f_X11_refuse N a0 (jI (-2)) p2.2).bind fun p3 =>
    some (p3.1, p3.2)
  else
    (gR p2.2 11 a0 5).bind fun v4 =>
    (rcv p2.2 10 v4).bind fun _ =>
    (f_X10_rowsTillAgain N v4 x1 p2.2).bind fun p5 =>
    some (p5.1, p5.2)
def y_X11_repeats : mM := (yX11_repeats, cX11_repeats, 2, (some .int))
def B_X11_repeats : List (Nat × List mI) := [(22, [(.aload_n 0, 1, [0], []), (.bipush (-2), 2, [], [-2]), (.invokevirtual 109, 3, [0, 203, 1, 11, 10], [])]), (28, [(.ireturn, 1, [], [])])]
def S_X11_repeats_0 : List mI := [(.aload_n 0, 1, [0], []), (.getfield 16, 3, [11, 2, 2, 111], []), (.iload_n 1, 1, [1], []), (.invokevirtual 150, 3, [0, 4, 1, 0, 46], []), (.ifCond .eq 14, 3, [22], []), (.aload_n 0, 1, [0], []), (.getfield 35, 3, [11, 5, 2, 114], []), (.iload_n 1, 1, [1], []), (.invokevirtual 233, 3, [0, 138, 1, 10, 115], []), (.goto 9, 3, [28], [])]
theorem lb_X11_repeats : B_X11_repeats.all (fun b => lst y_X11_repeats.2.1 11 y_X11_repeats.2.2.1 false b.1 b.2) = true := by decide +kernel
theorem ls_X11_repeats_0 : lst y_X11_repeats.2.1 11 y_X11_repeats.2.2.1 false 0 S_X11_repeats_0 = true := by decide +kernel
def C_X11_repeats (N : Nat) : Nat → List Value → mH → (Option Value → mH → Option (Int32 × mH)) → Option (Int32 × mH) := fun j as g k => kb j 4 (pr1 as fun b0 as => pp1 as fun b1 as => pe as ((f_X0_hasBand N b0 b1 g).bind fun p => k (some (.int p.1)) p.2)) (kb j 138 (pr1 as fun b0 as => pp1 as fun b1 as => pe as ((f_X10_rowsTillAgain N b0 b1 g).bind fun p => k (some (.int p.1)) p.2)) (kb j 203 (pr1 as fun b0 as => pp1 as fun b1 as => pe as ((f_X11_refuse N b0 b1 g).bind fun p => k (some (.int p.1)) p.2)) (none)))
theorem co_X11_repeats (N : Nat) (q : Int32 × mH) : clOK 10 q (C_X11_repeats N) := by
  intro j as g k e
  rcases kb_s e with ⟨rfl, e⟩ | e
  · obtain ⟨b0, r0, q0, f0⟩ := pr1_s e
    obtain ⟨b1, r1, q1, f1⟩ := pp1_s f0
    obtain ⟨qe, fe⟩ := pe_s f1
    obtain ⟨p, e1, e2⟩ := bnd_s fe
    subst qe
    subst q1
    subst q0
    exact ⟨_, _, _, _, 4, rfl, (by decide), m_X0_hasBand N e1, e2⟩
  rcases kb_s e with ⟨rfl, e⟩ | e
  · obtain ⟨b0, r0, q0, f0⟩ := pr1_s e
    obtain ⟨b1, r1, q1, f1⟩ := pp1_s f0
    obtain ⟨qe, fe⟩ := pe_s f1
    obtain ⟨p, e1, e2⟩ := bnd_s fe
    subst qe
    subst q1
    subst q0
    exact ⟨_, _, _, _, 9, rfl, (by decide), m_X10_rowsTillAgain N e1, e2⟩
  rcases kb_s e with ⟨rfl, e⟩ | e
  · obtain ⟨b0, r0, q0, f0⟩ := pr1_s e
    obtain ⟨b1, r1, q1, f1⟩ := pp1_s f0
    obtain ⟨qe, fe⟩ := pe_s f1
    obtain ⟨p, e1, e2⟩ := bnd_s fe
    subst qe
    subst q1
    subst q0
    exact ⟨_, _, _, _, 4, rfl, (by decide), m_X11_refuse N e1, e2⟩
  cases e
set_option maxRecDepth 100000 in
theorem m_X11_repeats (N : Nat) {a0 : Nat} {x1 : Int32} {h : mH} {q : Int32 × mH} (hf : f_X11_repeats N a0 x1 h = some q) : MM y_X11_repeats 10 [.ref a0, .int x1] h (some (.int q.1)) q.2 := by
  refine MM.of (mFx (j := 165) rfl).2.2.2.1 (Nat.le_of_ble_eq_true rfl) (fun X => ?_)
  refine ev_ok (o := 11) (ini := false) (Cl := C_X11_repeats N) (Rc := RcI) (B := B_X11_repeats) (K := fun pc ls st g => none) rfl (fun e => by cases e) (by decide) (rcI_ok rfl) ?_ (co_X11_repeats N q) lb_X11_repeats 3000 0 S_X11_repeats_0 _ _ h ls_X11_repeats_0 hf
  intro pc ls st g e
  cases e
def f_X11_colour (N : Nat) (a0 : Nat) (x1 : Int32) (x2 : Int32) (x3 : Int32) (h : mH) : Option (Int32 × mH) :=
  (gR h 11 a0 2).bind fun v1 =>
  (rcv h 0 v1).bind fun _ =>
  (f_X0_hasBand N v1 x1 h).bind fun p2 =>
  if p2.1 = 0 then
    (rcv p2.2 11 a0).bind fun _ =>
    (f_X11_refuse N a0 (jI (-2)) p2.2).bind fun p3 =>
    some (p3.1, p3.2)
  else
    (gR p2.2 11 a0 2).bind fun v4 =>
    (rcv p2.2 0 v4).bind fun _ =>
    (f_X0_hasStake N v4 x2 p2.2).bind fun p5 =>
    if p5.1 = 0 then
      (rcv p5.2 11 a0).bind fun _ =>
      (f_X11_refuse N a0 (jI (-2)) p5.2).bind fun p6 =>
      some (p6.1, p6.2)
    else
      (gR p5.2 11 a0 5).bind fun v7 =>
      (rcv p5.2 10 v7).bind fun _ =>
      (f_X10_mostSeen N v7 x1 x2 x3 p5.2).bind fun p8 =>
      some (p8.1, p8.2)
def y_X11_colour : mM := (yX11_colour, cX11_colour, 4, (some .int))
def B_X11_colour : List (Nat × List mI) := [(22, [(.aload_n 0, 1, [0], []), (.bipush (-2), 2, [], [-2]), (.invokevirtual 109, 3, [0, 203, 1, 11, 10], []), (.ireturn, 1, [], [])]), (29, [(.aload_n 0, 1, [0], []), (.getfield 35, 3, [11, 5, 2, 114], []), (.iload_n 1, 1, [1], []), (.iload_n 2, 1, [2], []), (.iload_n 3, 1, [3], []), (.invokevirtual 236, 3, [0, 140, 3, 10, 118], []), (.ireturn, 1, [], [])])]
def S_X11_colour_0 : List mI := [(.aload_n 0, 1, [0], []), (.getfield 16, 3, [11, 2, 2, 111], []), (.iload_n 1, 1, [1], []), (.invokevirtual 150, 3, [0, 4, 1, 0, 46], []), (.ifCond .eq 14, 3, [22], []), (.aload_n 0, 1, [0], []), (.getfield 16, 3, [11, 2, 2, 111], []), (.iload_n 2, 1, [2], []), (.invokevirtual 192, 3, [0, 5, 1, 0, 80], []), (.ifCond .ne 10, 3, [29], [])]
theorem lb_X11_colour : B_X11_colour.all (fun b => lst y_X11_colour.2.1 11 y_X11_colour.2.2.1 false b.1 b.2) = true := by decide +kernel
theorem ls_X11_colour_0 : lst y_X11_colour.2.1 11 y_X11_colour.2.2.1 false 0 S_X11_colour_0 = true := by decide +kernel
def C_X11_colour (N : Nat) : Nat → List Value → mH → (Option Value → mH → Option (Int32 × mH)) → Option (Int32 × mH) := fun j as g k => kb j 4 (pr1 as fun b0 as => pp1 as fun b1 as => pe as ((f_X0_hasBand N b0 b1 g).bind fun p => k (some (.int p.1)) p.2)) (kb j 5 (pr1 as fun b0 as => pp1 as fun b1 as => pe as ((f_X0_hasStake N b0 b1 g).bind fun p => k (some (.int p.1)) p.2)) (kb j 203 (pr1 as fun b0 as => pp1 as fun b1 as => pe as ((f_X11_refuse N b0 b1 g).bind fun p => k (some (.int p.1)) p.2)) (kb j 140 (pr1 as fun b0 as => pp1 as fun b1 as => pp1 as fun b2 as => pp1 as fun b3 as => pe as ((f_X10_mostSeen N b0 b1 b2 b3 g).bind fun p => k (some (.int p.1)) p.2)) (none))))
theorem co_X11_colour (N : Nat) (q : Int32 × mH) : clOK 11 q (C_X11_colour N) := by
  intro j as g k e
  rcases kb_s e with ⟨rfl, e⟩ | e
  · obtain ⟨b0, r0, q0, f0⟩ := pr1_s e
    obtain ⟨b1, r1, q1, f1⟩ := pp1_s f0
    obtain ⟨qe, fe⟩ := pe_s f1
    obtain ⟨p, e1, e2⟩ := bnd_s fe
    subst qe
    subst q1
    subst q0
    exact ⟨_, _, _, _, 4, rfl, (by decide), m_X0_hasBand N e1, e2⟩
  rcases kb_s e with ⟨rfl, e⟩ | e
  · obtain ⟨b0, r0, q0, f0⟩ := pr1_s e
    obtain ⟨b1, r1, q1, f1⟩ := pp1_s f0
    obtain ⟨qe, fe⟩ := pe_s f1
    obtain ⟨p, e1, e2⟩ := bnd_s fe
    subst qe
    subst q1
    subst q0
    exact ⟨_, _, _, _, 4, rfl, (by decide), m_X0_hasStake N e1, e2⟩
  rcases kb_s e with ⟨rfl, e⟩ | e
  · obtain ⟨b0, r0, q0, f0⟩ := pr1_s e
    obtain ⟨b1, r1, q1, f1⟩ := pp1_s f0
    obtain ⟨qe, fe⟩ := pe_s f1
    obtain ⟨p, e1, e2⟩ := bnd_s fe
    subst qe
    subst q1
    subst q0
    exact ⟨_, _, _, _, 4, rfl, (by decide), m_X11_refuse N e1, e2⟩
  rcases kb_s e with ⟨rfl, e⟩ | e
  · obtain ⟨b0, r0, q0, f0⟩ := pr1_s e
    obtain ⟨b1, r1, q1, f1⟩ := pp1_s f0
    obtain ⟨b2, r2, q2, f2⟩ := pp1_s f1
    obtain ⟨b3, r3, q3, f3⟩ := pp1_s f2
    obtain ⟨qe, fe⟩ := pe_s f3
    obtain ⟨p, e1, e2⟩ := bnd_s fe
    subst qe
    subst q3
    subst q2
    subst q1
    subst q0
    exact ⟨_, _, _, _, 10, rfl, (by decide), m_X10_mostSeen N e1, e2⟩
  cases e
set_option maxRecDepth 100000 in
theorem m_X11_colour (N : Nat) {a0 : Nat} {x1 : Int32} {x2 : Int32} {x3 : Int32} {h : mH} {q : Int32 × mH} (hf : f_X11_colour N a0 x1 x2 x3 h = some q) : MM y_X11_colour 11 [.ref a0, .int x1, .int x2, .int x3] h (some (.int q.1)) q.2 := by
  refine MM.of (mFx (j := 166) rfl).2.2.2.1 (Nat.le_of_ble_eq_true rfl) (fun X => ?_)
  refine ev_ok (o := 11) (ini := false) (Cl := C_X11_colour N) (Rc := RcI) (B := B_X11_colour) (K := fun pc ls st g => none) rfl (fun e => by cases e) (by decide) (rcI_ok rfl) ?_ (co_X11_colour N q) lb_X11_colour 3000 0 S_X11_colour_0 _ _ h ls_X11_colour_0 hf
  intro pc ls st g e
  cases e
def f_X11_floats (N : Nat) (a0 : Nat) (x1 : Int32) (x2 : Int32) (h : mH) : Option (Int32 × mH) :=
  (gR h 11 a0 2).bind fun v1 =>
  (rcv h 0 v1).bind fun _ =>
  (f_X0_hasBand N v1 x1 h).bind fun p2 =>
  if p2.1 = 0 then
    (rcv p2.2 11 a0).bind fun _ =>
    (f_X11_refuse N a0 (jI (-2)) p2.2).bind fun p3 =>
    some (p3.1, p3.2)
  else
    if x2 < (jI 1) then
      (rcv p2.2 11 a0).bind fun _ =>
      (f_X11_refuse N a0 (jI (-3)) p2.2).bind fun p4 =>
      some (p4.1, p4.2)
    else
      if (jI 9999) < x2 then
        (rcv p2.2 11 a0).bind fun _ =>
        (f_X11_refuse N a0 (jI (-3)) p2.2).bind fun p5 =>
        some (p5.1, p5.2)
      else
        (gR p2.2 11 a0 5).bind fun v6 =>
        (rcv p2.2 10 v6).bind fun _ =>
        (f_X10_longStretches N v6 x1 x2 p2.2).bind fun p7 =>
        some (p7.1, p7.2)
def y_X11_floats : mM := (yX11_floats, cX11_floats, 3, (some .int))
def B_X11_floats : List (Nat × List mI) := [(18, [(.iload_n 2, 1, [2], []), (.iconst 1, 1, [], [1]), (.if_icmp .lt 10, 3, [30], []), (.iload_n 2, 1, [2], []), (.sipush 9999, 3, [], [9999]), (.if_icmp .le 10, 3, [37], [])]), (30, [(.aload_n 0, 1, [0], []), (.bipush (-3), 2, [], [-3]), (.invokevirtual 109, 3, [0, 203, 1, 11, 10], []), (.ireturn, 1, [], [])]), (37, [(.aload_n 0, 1, [0], []), (.getfield 35, 3, [11, 5, 2, 114], []), (.iload_n 1, 1, [1], []), (.iload_n 2, 1, [2], []), (.invokevirtual 240, 3, [0, 141, 2, 10, 122], []), (.ireturn, 1, [], [])])]
def S_X11_floats_0 : List mI := [(.aload_n 0, 1, [0], []), (.getfield 16, 3, [11, 2, 2, 111], []), (.iload_n 1, 1, [1], []), (.invokevirtual 150, 3, [0, 4, 1, 0, 46], []), (.ifCond .ne 10, 3, [18], []), (.aload_n 0, 1, [0], []), (.bipush (-2), 2, [], [-2]), (.invokevirtual 109, 3, [0, 203, 1, 11, 10], []), (.ireturn, 1, [], [])]
theorem lb_X11_floats : B_X11_floats.all (fun b => lst y_X11_floats.2.1 11 y_X11_floats.2.2.1 false b.1 b.2) = true := by decide +kernel
theorem ls_X11_floats_0 : lst y_X11_floats.2.1 11 y_X11_floats.2.2.1 false 0 S_X11_floats_0 = true := by decide +kernel
def C_X11_floats (N : Nat) : Nat → List Value → mH → (Option Value → mH → Option (Int32 × mH)) → Option (Int32 × mH) := fun j as g k => kb j 4 (pr1 as fun b0 as => pp1 as fun b1 as => pe as ((f_X0_hasBand N b0 b1 g).bind fun p => k (some (.int p.1)) p.2)) (kb j 203 (pr1 as fun b0 as => pp1 as fun b1 as => pe as ((f_X11_refuse N b0 b1 g).bind fun p => k (some (.int p.1)) p.2)) (kb j 141 (pr1 as fun b0 as => pp1 as fun b1 as => pp1 as fun b2 as => pe as ((f_X10_longStretches N b0 b1 b2 g).bind fun p => k (some (.int p.1)) p.2)) (none)))
theorem co_X11_floats (N : Nat) (q : Int32 × mH) : clOK 10 q (C_X11_floats N) := by
  intro j as g k e
  rcases kb_s e with ⟨rfl, e⟩ | e
  · obtain ⟨b0, r0, q0, f0⟩ := pr1_s e
    obtain ⟨b1, r1, q1, f1⟩ := pp1_s f0
    obtain ⟨qe, fe⟩ := pe_s f1
    obtain ⟨p, e1, e2⟩ := bnd_s fe
    subst qe
    subst q1
    subst q0
    exact ⟨_, _, _, _, 4, rfl, (by decide), m_X0_hasBand N e1, e2⟩
  rcases kb_s e with ⟨rfl, e⟩ | e
  · obtain ⟨b0, r0, q0, f0⟩ := pr1_s e
    obtain ⟨b1, r1, q1, f1⟩ := pp1_s f0
    obtain ⟨qe, fe⟩ := pe_s f1
    obtain ⟨p, e1, e2⟩ := bnd_s fe
    subst qe
    subst q1
    subst q0
    exact ⟨_, _, _, _, 4, rfl, (by decide), m_X11_refuse N e1, e2⟩
  rcases kb_s e with ⟨rfl, e⟩ | e
  · obtain ⟨b0, r0, q0, f0⟩ := pr1_s e
    obtain ⟨b1, r1, q1, f1⟩ := pp1_s f0
    obtain ⟨b2, r2, q2, f2⟩ := pp1_s f1
    obtain ⟨qe, fe⟩ := pe_s f2
    obtain ⟨p, e1, e2⟩ := bnd_s fe
    subst qe
    subst q2
    subst q1
    subst q0
    exact ⟨_, _, _, _, 9, rfl, (by decide), m_X10_longStretches N e1, e2⟩
  cases e
set_option maxRecDepth 100000 in
theorem m_X11_floats (N : Nat) {a0 : Nat} {x1 : Int32} {x2 : Int32} {h : mH} {q : Int32 × mH} (hf : f_X11_floats N a0 x1 x2 h = some q) : MM y_X11_floats 10 [.ref a0, .int x1, .int x2] h (some (.int q.1)) q.2 := by
  refine MM.of (mFx (j := 167) rfl).2.2.2.1 (Nat.le_of_ble_eq_true rfl) (fun X => ?_)
  refine ev_ok (o := 11) (ini := false) (Cl := C_X11_floats N) (Rc := RcI) (B := B_X11_floats) (K := fun pc ls st g => none) rfl (fun e => by cases e) (by decide) (rcI_ok rfl) ?_ (co_X11_floats N q) lb_X11_floats 3000 0 S_X11_floats_0 _ _ h ls_X11_floats_0 hf
  intro pc ls st g e
  cases e
def f_X11_learner (N : Nat) (a0 : Nat) (x1 : Int32) (x2 : Int32) (x3 : Int32) (x4 : Int32) (h : mH) : Option (Int32 × mH) :=
  (gR h 11 a0 2).bind fun v1 =>
  (rcv h 0 v1).bind fun _ =>
  (f_X0_hasBand N v1 x1 h).bind fun p2 =>
  if p2.1 = 0 then
    (rcv p2.2 11 a0).bind fun _ =>
    (f_X11_refuse N a0 (jI (-2)) p2.2).bind fun p3 =>
    some (p3.1, p3.2)
  else
    if x4 < 0 then
      (rcv p2.2 11 a0).bind fun _ =>
      (f_X11_refuse N a0 (jI (-2)) p2.2).bind fun p4 =>
      some (p4.1, p4.2)
    else
      if (jI 2) < x4 then
        (rcv p2.2 11 a0).bind fun _ =>
        (f_X11_refuse N a0 (jI (-2)) p2.2).bind fun p5 =>
        some (p5.1, p5.2)
      else
        if x3 < 0 then
          (rcv p2.2 11 a0).bind fun _ =>
          (f_X11_refuse N a0 (jI (-3)) p2.2).bind fun p6 =>
          some (p6.1, p6.2)
        else
          if (jI 100) < x3 then
            (rcv p2.2 11 a0).bind fun _ =>
            (f_X11_refuse N a0 (jI (-3)) p2.2).bind fun p7 =>
            some (p7.1, p7.2)
          else
            (gR p2.2 11 a0 5).bind fun v8 =>
            (rcv p2.2 10 v8).bind fun _ =>
            (f_X10_learnerDoes N v8 x1 x2 x3 x4 p2.2).bind fun p9 =>
            some (p9.1, p9.2)
def y_X11_learner : mM := (yX11_learner, cX11_learner, 5, (some .int))
def B_X11_learner : List (Nat × List mI) := [(22, [(.aload_n 0, 1, [0], []), (.bipush (-2), 2, [], [-2]), (.invokevirtual 109, 3, [0, 203, 1, 11, 10], []), (.ireturn, 1, [], [])]), (29, [(.iload_n 3, 1, [3], []), (.ifCond .lt 9, 3, [39], []), (.iload_n 3, 1, [3], []), (.bipush 100, 2, [], [100]), (.if_icmp .le 10, 3, [46], [])]), (39, [(.aload_n 0, 1, [0], []), (.bipush (-3), 2, [], [-3]), (.invokevirtual 109, 3, [0, 203, 1, 11, 10], []), (.ireturn, 1, [], [])]), (46, [(.aload_n 0, 1, [0], []), (.getfield 35, 3, [11, 5, 2, 114], []), (.iload_n 1, 1, [1], []), (.iload_n 2, 1, [2], []), (.iload_n 3, 1, [3], []), (.iload 4, 2, [4], []), (.invokevirtual 243, 3, [0, 142, 4, 10, 126], []), (.ireturn, 1, [], [])])]
def S_X11_learner_0 : List mI := [(.aload_n 0, 1, [0], []), (.getfield 16, 3, [11, 2, 2, 111], []), (.iload_n 1, 1, [1], []), (.invokevirtual 150, 3, [0, 4, 1, 0, 46], []), (.ifCond .eq 14, 3, [22], []), (.iload 4, 2, [4], []), (.ifCond .lt 9, 3, [22], []), (.iload 4, 2, [4], []), (.iconst 2, 1, [], [2]), (.if_icmp .le 10, 3, [29], [])]
theorem lb_X11_learner : B_X11_learner.all (fun b => lst y_X11_learner.2.1 11 y_X11_learner.2.2.1 false b.1 b.2) = true := by decide +kernel
theorem ls_X11_learner_0 : lst y_X11_learner.2.1 11 y_X11_learner.2.2.1 false 0 S_X11_learner_0 = true := by decide +kernel
def C_X11_learner (N : Nat) : Nat → List Value → mH → (Option Value → mH → Option (Int32 × mH)) → Option (Int32 × mH) := fun j as g k => kb j 4 (pr1 as fun b0 as => pp1 as fun b1 as => pe as ((f_X0_hasBand N b0 b1 g).bind fun p => k (some (.int p.1)) p.2)) (kb j 203 (pr1 as fun b0 as => pp1 as fun b1 as => pe as ((f_X11_refuse N b0 b1 g).bind fun p => k (some (.int p.1)) p.2)) (kb j 142 (pr1 as fun b0 as => pp1 as fun b1 as => pp1 as fun b2 as => pp1 as fun b3 as => pp1 as fun b4 as => pe as ((f_X10_learnerDoes N b0 b1 b2 b3 b4 g).bind fun p => k (some (.int p.1)) p.2)) (none)))
theorem co_X11_learner (N : Nat) (q : Int32 × mH) : clOK 9 q (C_X11_learner N) := by
  intro j as g k e
  rcases kb_s e with ⟨rfl, e⟩ | e
  · obtain ⟨b0, r0, q0, f0⟩ := pr1_s e
    obtain ⟨b1, r1, q1, f1⟩ := pp1_s f0
    obtain ⟨qe, fe⟩ := pe_s f1
    obtain ⟨p, e1, e2⟩ := bnd_s fe
    subst qe
    subst q1
    subst q0
    exact ⟨_, _, _, _, 4, rfl, (by decide), m_X0_hasBand N e1, e2⟩
  rcases kb_s e with ⟨rfl, e⟩ | e
  · obtain ⟨b0, r0, q0, f0⟩ := pr1_s e
    obtain ⟨b1, r1, q1, f1⟩ := pp1_s f0
    obtain ⟨qe, fe⟩ := pe_s f1
    obtain ⟨p, e1, e2⟩ := bnd_s fe
    subst qe
    subst q1
    subst q0
    exact ⟨_, _, _, _, 4, rfl, (by decide), m_X11_refuse N e1, e2⟩
  rcases kb_s e with ⟨rfl, e⟩ | e
  · obtain ⟨b0, r0, q0, f0⟩ := pr1_s e
    obtain ⟨b1, r1, q1, f1⟩ := pp1_s f0
    obtain ⟨b2, r2, q2, f2⟩ := pp1_s f1
    obtain ⟨b3, r3, q3, f3⟩ := pp1_s f2
    obtain ⟨b4, r4, q4, f4⟩ := pp1_s f3
    obtain ⟨qe, fe⟩ := pe_s f4
    obtain ⟨p, e1, e2⟩ := bnd_s fe
    subst qe
    subst q4
    subst q3
    subst q2
    subst q1
    subst q0
    exact ⟨_, _, _, _, 8, rfl, (by decide), m_X10_learnerDoes N e1, e2⟩
  cases e
set_option maxRecDepth 100000 in
theorem m_X11_learner (N : Nat) {a0 : Nat} {x1 : Int32} {x2 : Int32} {x3 : Int32} {x4 : Int32} {h : mH} {q : Int32 × mH} (hf : f_X11_learner N a0 x1 x2 x3 x4 h = some q) : MM y_X11_learner 9 [.ref a0, .int x1, .int x2, .int x3, .int x4] h (some (.int q.1)) q.2 := by
  refine MM.of (mFx (j := 168) rfl).2.2.2.1 (Nat.le_of_ble_eq_true rfl) (fun X => ?_)
  refine ev_ok (o := 11) (ini := false) (Cl := C_X11_learner N) (Rc := RcI) (B := B_X11_learner) (K := fun pc ls st g => none) rfl (fun e => by cases e) (by decide) (rcI_ok rfl) ?_ (co_X11_learner N q) lb_X11_learner 3000 0 S_X11_learner_0 _ _ h ls_X11_learner_0 hf
  intro pc ls st g e
  cases e
def f_X11_takePicture (N : Nat) (a0 : Nat) (x1 : Int32) (a2 : Nat) (x3 : Int32) (h : mH) : Option (Int32 × mH) :=
  (gR h 11 a0 2).bind fun v1 =>
  (gI h 0 v1 0).bind fun v2 =>
  if v2 = 0 then
    (rcv h 11 a0).bind fun _ =>
    (f_X11_refuse N a0 (jI (-5)) h).bind fun p3 =>
    some (p3.1, p3.2)
  else
    (rcv h 11 a0).bind fun _ =>
    (f_X11_onTape N a0 x1 h).bind fun p4 =>
    if p4.1 = 0 then
      (rcv p4.2 11 a0).bind fun _ =>
      (f_X11_refuse N a0 (jI (-3)) p4.2).bind fun p5 =>
      some (p5.1, p5.2)
    else
      (pV p4.2 11 a0 1 (.int (jI 0))).bind fun h6 =>
      (gR h6 11 a0 0).bind fun v7 =>
      (gR h6 11 a0 2).bind fun v8 =>
      (gI h6 0 v8 0).bind fun v9 =>
      (f_X6_isPicture N v7 x1 v9 x3 h6).bind fun p10 =>
      if p10.1 = 0 then
        (rcv p10.2 11 a0).bind fun _ =>
        (f_X11_refuse N a0 (jI (-9)) p10.2).bind fun p11 =>
        some (p11.1, p11.2)
      else
        (gR p10.2 11 a0 0).bind fun v12 =>
        (gR p10.2 11 a0 2).bind fun v13 =>
        (gI p10.2 0 v13 0).bind fun v14 =>
        (rcv p10.2 6 a2).bind fun _ =>
        (f_X6_take N a2 v12 x1 v14 x3 p10.2).bind fun h15 =>
        if x3 = 0 then
          (gR h15 11 a0 8).bind fun v16 =>
          (rcv h15 9 v16).bind fun _ =>
          (f_X9_forgetPrint N v16 h15).bind fun h17 =>
          (gI h17 6 a2 0).bind fun v18 =>
          some (v18, h17)
        else
          (gR h15 11 a0 8).bind fun v19 =>
          (rcv h15 9 v19).bind fun _ =>
          (f_X9_forgetWish N v19 h15).bind fun h20 =>
          (gI h20 6 a2 0).bind fun v21 =>
          some (v21, h20)
def y_X11_takePicture : mM := (yX11_takePicture, cX11_takePicture, 4, (some .int))
def B_X11_takePicture : List (Nat × List mI) := [(17, [(.aload_n 0, 1, [0], []), (.iload_n 1, 1, [1], []), (.invokevirtual 117, 3, [0, 205, 1, 11, 13], []), (.ifCond .ne 10, 3, [32], []), (.aload_n 0, 1, [0], []), (.bipush (-3), 2, [], [-3]), (.invokevirtual 109, 3, [0, 203, 1, 11, 10], []), (.ireturn, 1, [], [])]), (32, [(.aload_n 0, 1, [0], []), (.iconst 0, 1, [], [0]), (.putfield 105, 3, [11, 1, 0, 110], []), (.aload_n 0, 1, [0], []), (.getfield 9, 3, [11, 0, 2, 109], []), (.iload_n 1, 1, [1], []), (.aload_n 0, 1, [0], []), (.getfield 16, 3, [11, 2, 2, 111], []), (.getfield 254, 3, [0, 0, 0, 3], []), (.iload_n 3, 1, [3], []), (.invokestatic 451, 3, [1, 80, 4, 0, 130], []), (.ifCond .ne 10, 3, [63], []), (.aload_n 0, 1, [0], []), (.bipush (-9), 2, [], [-9]), (.invokevirtual 109, 3, [0, 203, 1, 11, 10], []), (.ireturn, 1, [], [])]), (63, [(.aload_n 2, 1, [2], []), (.aload_n 0, 1, [0], []), (.getfield 9, 3, [11, 0, 2, 109], []), (.iload_n 1, 1, [1], []), (.aload_n 0, 1, [0], []), (.getfield 16, 3, [11, 2, 2, 111], []), (.getfield 254, 3, [0, 0, 0, 3], []), (.iload_n 3, 1, [3], []), (.invokevirtual 455, 3, [0, 82, 4, 6, 132], []), (.iload_n 3, 1, [3], []), (.ifCond .eq 13, 3, [94], []), (.aload_n 0, 1, [0], []), (.getfield 52, 3, [11, 8, 2, 117], []), (.invokevirtual 445, 3, [0, 110, 0, 9, 39], []), (.goto 10, 3, [101], [])]), (94, [(.aload_n 0, 1, [0], []), (.getfield 52, 3, [11, 8, 2, 117], []), (.invokevirtual 448, 3, [0, 111, 0, 9, 40], [])]), (101, [(.aload_n 2, 1, [2], []), (.getfield 251, 3, [6, 0, 0, 48], []), (.ireturn, 1, [], [])])]
def S_X11_takePicture_0 : List mI := [(.aload_n 0, 1, [0], []), (.getfield 16, 3, [11, 2, 2, 111], []), (.getfield 254, 3, [0, 0, 0, 3], []), (.ifCond .ne 10, 3, [17], []), (.aload_n 0, 1, [0], []), (.bipush (-5), 2, [], [-5]), (.invokevirtual 109, 3, [0, 203, 1, 11, 10], []), (.ireturn, 1, [], [])]
theorem lb_X11_takePicture : B_X11_takePicture.all (fun b => lst y_X11_takePicture.2.1 11 y_X11_takePicture.2.2.1 false b.1 b.2) = true := by decide +kernel
theorem ls_X11_takePicture_0 : lst y_X11_takePicture.2.1 11 y_X11_takePicture.2.2.1 false 0 S_X11_takePicture_0 = true := by decide +kernel
def C_X11_takePicture (N : Nat) : Nat → List Value → mH → (Option Value → mH → Option (Int32 × mH)) → Option (Int32 × mH) := fun j as g k => kb j 203 (pr1 as fun b0 as => pp1 as fun b1 as => pe as ((f_X11_refuse N b0 b1 g).bind fun p => k (some (.int p.1)) p.2)) (kb j 205 (pr1 as fun b0 as => pp1 as fun b1 as => pe as ((f_X11_onTape N b0 b1 g).bind fun p => k (some (.int p.1)) p.2)) (kb j 80 (pr1 as fun b0 as => pp1 as fun b1 as => pp1 as fun b2 as => pp1 as fun b3 as => pe as ((f_X6_isPicture N b0 b1 b2 b3 g).bind fun p => k (some (.int p.1)) p.2)) (kb j 82 (pr1 as fun b0 as => pr1 as fun b1 as => pp1 as fun b2 as => pp1 as fun b3 as => pp1 as fun b4 as => pe as ((f_X6_take N b0 b1 b2 b3 b4 g).bind fun p => k none p)) (kb j 110 (pr1 as fun b0 as => pe as ((f_X9_forgetWish N b0 g).bind fun p => k none p)) (kb j 111 (pr1 as fun b0 as => pe as ((f_X9_forgetPrint N b0 g).bind fun p => k none p)) (none))))))
theorem co_X11_takePicture (N : Nat) (q : Int32 × mH) : clOK 6 q (C_X11_takePicture N) := by
  intro j as g k e
  rcases kb_s e with ⟨rfl, e⟩ | e
  · obtain ⟨b0, r0, q0, f0⟩ := pr1_s e
    obtain ⟨b1, r1, q1, f1⟩ := pp1_s f0
    obtain ⟨qe, fe⟩ := pe_s f1
    obtain ⟨p, e1, e2⟩ := bnd_s fe
    subst qe
    subst q1
    subst q0
    exact ⟨_, _, _, _, 4, rfl, (by decide), m_X11_refuse N e1, e2⟩
  rcases kb_s e with ⟨rfl, e⟩ | e
  · obtain ⟨b0, r0, q0, f0⟩ := pr1_s e
    obtain ⟨b1, r1, q1, f1⟩ := pp1_s f0
    obtain ⟨qe, fe⟩ := pe_s f1
    obtain ⟨p, e1, e2⟩ := bnd_s fe
    subst qe
    subst q1
    subst q0
    exact ⟨_, _, _, _, 4, rfl, (by decide), m_X11_onTape N e1, e2⟩
  rcases kb_s e with ⟨rfl, e⟩ | e
  · obtain ⟨b0, r0, q0, f0⟩ := pr1_s e
    obtain ⟨b1, r1, q1, f1⟩ := pp1_s f0
    obtain ⟨b2, r2, q2, f2⟩ := pp1_s f1
    obtain ⟨b3, r3, q3, f3⟩ := pp1_s f2
    obtain ⟨qe, fe⟩ := pe_s f3
    obtain ⟨p, e1, e2⟩ := bnd_s fe
    subst qe
    subst q3
    subst q2
    subst q1
    subst q0
    exact ⟨_, _, _, _, 5, rfl, (by decide), m_X6_isPicture N e1, e2⟩
  rcases kb_s e with ⟨rfl, e⟩ | e
  · obtain ⟨b0, r0, q0, f0⟩ := pr1_s e
    obtain ⟨b1, r1, q1, f1⟩ := pr1_s f0
    obtain ⟨b2, r2, q2, f2⟩ := pp1_s f1
    obtain ⟨b3, r3, q3, f3⟩ := pp1_s f2
    obtain ⟨b4, r4, q4, f4⟩ := pp1_s f3
    obtain ⟨qe, fe⟩ := pe_s f4
    obtain ⟨p, e1, e2⟩ := bnd_s fe
    subst qe
    subst q4
    subst q3
    subst q2
    subst q1
    subst q0
    exact ⟨_, _, _, _, 5, rfl, (by decide), m_X6_take N e1, e2⟩
  rcases kb_s e with ⟨rfl, e⟩ | e
  · obtain ⟨b0, r0, q0, f0⟩ := pr1_s e
    obtain ⟨qe, fe⟩ := pe_s f0
    obtain ⟨p, e1, e2⟩ := bnd_s fe
    subst qe
    subst q0
    exact ⟨_, _, _, _, 4, rfl, (by decide), m_X9_forgetWish N e1, e2⟩
  rcases kb_s e with ⟨rfl, e⟩ | e
  · obtain ⟨b0, r0, q0, f0⟩ := pr1_s e
    obtain ⟨qe, fe⟩ := pe_s f0
    obtain ⟨p, e1, e2⟩ := bnd_s fe
    subst qe
    subst q0
    exact ⟨_, _, _, _, 4, rfl, (by decide), m_X9_forgetPrint N e1, e2⟩
  cases e
set_option maxRecDepth 100000 in
theorem m_X11_takePicture (N : Nat) {a0 : Nat} {x1 : Int32} {a2 : Nat} {x3 : Int32} {h : mH} {q : Int32 × mH} (hf : f_X11_takePicture N a0 x1 a2 x3 h = some q) : MM y_X11_takePicture 6 [.ref a0, .int x1, .ref a2, .int x3] h (some (.int q.1)) q.2 := by
  refine MM.of (mFx (j := 208) rfl).2.2.2.1 (Nat.le_of_ble_eq_true rfl) (fun X => ?_)
  refine ev_ok (o := 11) (ini := false) (Cl := C_X11_takePicture N) (Rc := RcI) (B := B_X11_takePicture) (K := fun pc ls st g => none) rfl (fun e => by cases e) (by decide) (rcI_ok rfl) ?_ (co_X11_takePicture N q) lb_X11_takePicture 3000 0 S_X11_takePicture_0 _ _ h ls_X11_takePicture_0 hf
  intro pc ls st g e
  cases e
def f_X11_wish (N : Nat) (a0 : Nat) (x1 : Int32) (h : mH) : Option (Int32 × mH) :=
  (gR h 11 a0 6).bind fun v1 =>
  (rcv h 11 a0).bind fun _ =>
  (f_X11_takePicture N a0 x1 v1 (jI 1) h).bind fun p2 =>
  some (p2.1, p2.2)
def y_X11_wish : mM := (yX11_wish, cX11_wish, 2, (some .int))
def B_X11_wish : List (Nat × List mI) := []
def S_X11_wish_0 : List mI := [(.aload_n 0, 1, [0], []), (.iload_n 1, 1, [1], []), (.aload_n 0, 1, [0], []), (.getfield 42, 3, [11, 6, 2, 115], []), (.iconst 1, 1, [], [1]), (.invokevirtual 247, 3, [0, 208, 3, 11, 129], []), (.ireturn, 1, [], [])]
theorem lb_X11_wish : B_X11_wish.all (fun b => lst y_X11_wish.2.1 11 y_X11_wish.2.2.1 false b.1 b.2) = true := by decide +kernel
theorem ls_X11_wish_0 : lst y_X11_wish.2.1 11 y_X11_wish.2.2.1 false 0 S_X11_wish_0 = true := by decide +kernel
def C_X11_wish (N : Nat) : Nat → List Value → mH → (Option Value → mH → Option (Int32 × mH)) → Option (Int32 × mH) := fun j as g k => kb j 208 (pr1 as fun b0 as => pp1 as fun b1 as => pr1 as fun b2 as => pp1 as fun b3 as => pe as ((f_X11_takePicture N b0 b1 b2 b3 g).bind fun p => k (some (.int p.1)) p.2)) (none)
theorem co_X11_wish (N : Nat) (q : Int32 × mH) : clOK 7 q (C_X11_wish N) := by
  intro j as g k e
  rcases kb_s e with ⟨rfl, e⟩ | e
  · obtain ⟨b0, r0, q0, f0⟩ := pr1_s e
    obtain ⟨b1, r1, q1, f1⟩ := pp1_s f0
    obtain ⟨b2, r2, q2, f2⟩ := pr1_s f1
    obtain ⟨b3, r3, q3, f3⟩ := pp1_s f2
    obtain ⟨qe, fe⟩ := pe_s f3
    obtain ⟨p, e1, e2⟩ := bnd_s fe
    subst qe
    subst q3
    subst q2
    subst q1
    subst q0
    exact ⟨_, _, _, _, 6, rfl, (by decide), m_X11_takePicture N e1, e2⟩
  cases e
set_option maxRecDepth 100000 in
theorem m_X11_wish (N : Nat) {a0 : Nat} {x1 : Int32} {h : mH} {q : Int32 × mH} (hf : f_X11_wish N a0 x1 h = some q) : MM y_X11_wish 7 [.ref a0, .int x1] h (some (.int q.1)) q.2 := by
  refine MM.of (mFx (j := 169) rfl).2.2.2.1 (Nat.le_of_ble_eq_true rfl) (fun X => ?_)
  refine ev_ok (o := 11) (ini := false) (Cl := C_X11_wish N) (Rc := RcI) (B := B_X11_wish) (K := fun pc ls st g => none) rfl (fun e => by cases e) (by decide) (rcI_ok rfl) ?_ (co_X11_wish N q) lb_X11_wish 3000 0 S_X11_wish_0 _ _ h ls_X11_wish_0 hf
  intro pc ls st g e
  cases e
def J_X11_find_65 (N : Nat) (a0 : Nat) (x1 : Int32) (x3 : Int32) (h : mH) : Option (Int32 × mH) :=
  (gR h 11 a0 8).bind fun v1 =>
  (gR h 11 a0 6).bind fun v2 =>
  (gR h 11 a0 2).bind fun v3 =>
  (gI h 0 v3 0).bind fun v4 =>
  (rcv h 9 v1).bind fun _ =>
  (f_X9_makeKnown N v1 v2 v4 h).bind fun h5 =>
  (gR h5 11 a0 8).bind fun v6 =>
  if x3 = 0 then
    (rcv h5 9 v6).bind fun _ =>
    (f_X9_ofMaker N v6 x1 h5).bind fun p7 =>
    some (p7.1, p7.2)
  else
    (rcv h5 9 v6).bind fun _ =>
    (f_X9_ofMaker N v6 (iSub (iAdd (jI 6) x1) (jI 10)) h5).bind fun p8 =>
    some (p8.1, p8.2)
def J_X11_find_31 (N : Nat) (a0 : Nat) (x1 : Int32) (s_0 : Int32) (h : mH) : Option (Int32 × mH) :=
  if x1 < (jI 10) then
    if s_0 = 0 then
      if (jI 0) = 0 then
        (rcv h 11 a0).bind fun _ =>
        (f_X11_refuse N a0 (jI (-2)) h).bind fun p1 =>
        some (p1.1, p1.2)
      else
        J_X11_find_65 N a0 x1 (jI 0) h
    else
      J_X11_find_65 N a0 x1 (jI 0) h
  else
    if x1 < (jI 14) then
      if s_0 = 0 then
        if (jI 1) = 0 then
          (rcv h 11 a0).bind fun _ =>
          (f_X11_refuse N a0 (jI (-2)) h).bind fun p2 =>
          some (p2.1, p2.2)
        else
          J_X11_find_65 N a0 x1 (jI 1) h
      else
        J_X11_find_65 N a0 x1 (jI 1) h
    else
      if s_0 = 0 then
        if (jI 0) = 0 then
          (rcv h 11 a0).bind fun _ =>
          (f_X11_refuse N a0 (jI (-2)) h).bind fun p3 =>
          some (p3.1, p3.2)
        else
          J_X11_find_65 N a0 x1 (jI 0) h
      else
        J_X11_find_65 N a0 x1 (jI 0) h
def f_X11_find (N : Nat) (a0 : Nat) (x1 : Int32) (h : mH) : Option (Int32 × mH) :=
  (gR h 11 a0 6).bind fun v1 =>
  (gI h 6 v1 0).bind fun v2 =>
  if v2 = 0 then
    (rcv h 11 a0).bind fun _ =>
    (f_X11_refuse N a0 (jI (-5)) h).bind fun p3 =>
    some (p3.1, p3.2)
  else
    if x1 < 0 then
      J_X11_find_31 N a0 x1 (jI 0) h
    else
      if (jI 5) < x1 then
        J_X11_find_31 N a0 x1 (jI 0) h
      else
        J_X11_find_31 N a0 x1 (jI 1) h
def y_X11_find : mM := (yX11_find, cX11_find, 4, (some .int))
def B_X11_find : List (Nat × List mI) := [(17, [(.iload_n 1, 1, [1], []), (.ifCond .lt 12, 3, [30], []), (.iload_n 1, 1, [1], []), (.iconst 5, 1, [], [5]), (.if_icmp .gt 7, 3, [30], []), (.iconst 1, 1, [], [1]), (.goto 4, 3, [31], [])]), (30, [(.iconst 0, 1, [], [0])]), (48, [(.iconst 0, 1, [], [0])]), (49, [(.istore_n 3, 1, [3], []), (.iload_n 2, 1, [2], []), (.ifCond .ne 14, 3, [65], []), (.iload_n 3, 1, [3], []), (.ifCond .ne 10, 3, [65], []), (.aload_n 0, 1, [0], []), (.bipush (-2), 2, [], [-2]), (.invokevirtual 109, 3, [0, 203, 1, 11, 10], []), (.ireturn, 1, [], [])]), (101, [(.iload_n 1, 1, [1], [])]), (102, [(.invokevirtual 261, 3, [0, 112, 1, 9, 146], []), (.ireturn, 1, [], [])])]
def S_X11_find_0 : List mI := [(.aload_n 0, 1, [0], []), (.getfield 42, 3, [11, 6, 2, 115], []), (.getfield 251, 3, [6, 0, 0, 48], []), (.ifCond .ne 10, 3, [17], []), (.aload_n 0, 1, [0], []), (.bipush (-5), 2, [], [-5]), (.invokevirtual 109, 3, [0, 203, 1, 11, 10], []), (.ireturn, 1, [], [])]
def S_X11_find_31 : List mI := [(.istore_n 2, 1, [2], []), (.iload_n 1, 1, [1], []), (.bipush 10, 2, [], [10]), (.if_icmp .lt 13, 3, [48], []), (.iload_n 1, 1, [1], []), (.bipush 14, 2, [], [14]), (.if_icmp .ge 7, 3, [48], []), (.iconst 1, 1, [], [1]), (.goto 4, 3, [49], [])]
def S_X11_find_65 : List mI := [(.aload_n 0, 1, [0], []), (.getfield 52, 3, [11, 8, 2, 117], []), (.aload_n 0, 1, [0], []), (.getfield 42, 3, [11, 6, 2, 115], []), (.aload_n 0, 1, [0], []), (.getfield 16, 3, [11, 2, 2, 111], []), (.getfield 254, 3, [0, 0, 0, 3], []), (.invokevirtual 257, 3, [0, 114, 2, 9, 136], []), (.aload_n 0, 1, [0], []), (.getfield 52, 3, [11, 8, 2, 117], []), (.iload_n 3, 1, [3], []), (.ifCond .eq 13, 3, [101], []), (.bipush 6, 2, [], [6]), (.iload_n 1, 1, [1], []), (.iadd, 1, [], []), (.bipush 10, 2, [], [10]), (.isub, 1, [], []), (.goto 4, 3, [102], [])]
theorem lb_X11_find : B_X11_find.all (fun b => lst y_X11_find.2.1 11 y_X11_find.2.2.1 false b.1 b.2) = true := by decide +kernel
theorem ls_X11_find_0 : lst y_X11_find.2.1 11 y_X11_find.2.2.1 false 0 S_X11_find_0 = true := by decide +kernel
theorem ls_X11_find_31 : lst y_X11_find.2.1 11 y_X11_find.2.2.1 false 31 S_X11_find_31 = true := by decide +kernel
theorem ls_X11_find_65 : lst y_X11_find.2.1 11 y_X11_find.2.2.1 false 65 S_X11_find_65 = true := by decide +kernel
def C_X11_find (N : Nat) : Nat → List Value → mH → (Option Value → mH → Option (Int32 × mH)) → Option (Int32 × mH) := fun j as g k => kb j 203 (pr1 as fun b0 as => pp1 as fun b1 as => pe as ((f_X11_refuse N b0 b1 g).bind fun p => k (some (.int p.1)) p.2)) (kb j 114 (pr1 as fun b0 as => pr1 as fun b1 as => pp1 as fun b2 as => pe as ((f_X9_makeKnown N b0 b1 b2 g).bind fun p => k none p)) (kb j 112 (pr1 as fun b0 as => pp1 as fun b1 as => pe as ((f_X9_ofMaker N b0 b1 g).bind fun p => k (some (.int p.1)) p.2)) (none)))
theorem co_X11_find (N : Nat) (q : Int32 × mH) : clOK 9 q (C_X11_find N) := by
  intro j as g k e
  rcases kb_s e with ⟨rfl, e⟩ | e
  · obtain ⟨b0, r0, q0, f0⟩ := pr1_s e
    obtain ⟨b1, r1, q1, f1⟩ := pp1_s f0
    obtain ⟨qe, fe⟩ := pe_s f1
    obtain ⟨p, e1, e2⟩ := bnd_s fe
    subst qe
    subst q1
    subst q0
    exact ⟨_, _, _, _, 4, rfl, (by decide), m_X11_refuse N e1, e2⟩
  rcases kb_s e with ⟨rfl, e⟩ | e
  · obtain ⟨b0, r0, q0, f0⟩ := pr1_s e
    obtain ⟨b1, r1, q1, f1⟩ := pr1_s f0
    obtain ⟨b2, r2, q2, f2⟩ := pp1_s f1
    obtain ⟨qe, fe⟩ := pe_s f2
    obtain ⟨p, e1, e2⟩ := bnd_s fe
    subst qe
    subst q2
    subst q1
    subst q0
    exact ⟨_, _, _, _, 8, rfl, (by decide), m_X9_makeKnown N e1, e2⟩
  rcases kb_s e with ⟨rfl, e⟩ | e
  · obtain ⟨b0, r0, q0, f0⟩ := pr1_s e
    obtain ⟨b1, r1, q1, f1⟩ := pp1_s f0
    obtain ⟨qe, fe⟩ := pe_s f1
    obtain ⟨p, e1, e2⟩ := bnd_s fe
    subst qe
    subst q1
    subst q0
    exact ⟨_, _, _, _, 4, rfl, (by decide), m_X9_ofMaker N e1, e2⟩
  cases e
set_option maxRecDepth 100000 in
theorem t_X11_find_65 {X : Nat × (Nat → Int32)} (N : Nat) {q : Int32 × mH} (a0 : Nat) (x1 : Int32) (x3 : Int32) (h : mH) (hf : J_X11_find_65 N a0 x1 x3 h = some q) : MW X y_X11_find 9 65 [(0, .ref a0), (1, .int x1), (3, .int x3)] [] h (some (.int q.1)) q.2 := by
  refine ev_ok (o := 11) (ini := false) (Cl := C_X11_find N) (Rc := RcI) (B := B_X11_find) (K := fun pc ls st g => none) rfl (fun e => by cases e) (by decide) (rcI_ok rfl) ?_ (co_X11_find N q) lb_X11_find 3000 65 S_X11_find_65 _ _ h ls_X11_find_65 hf
  intro pc ls st g e
  cases e
set_option maxRecDepth 100000 in
theorem t_X11_find_31 {X : Nat × (Nat → Int32)} (N : Nat) {q : Int32 × mH} (a0 : Nat) (x1 : Int32) (s_0 : Int32) (h : mH) (hf : J_X11_find_31 N a0 x1 s_0 h = some q) : MW X y_X11_find 9 31 [(0, .ref a0), (1, .int x1)] [.int s_0] h (some (.int q.1)) q.2 := by
  refine ev_ok (o := 11) (ini := false) (Cl := C_X11_find N) (Rc := RcI) (B := B_X11_find) (K := fun pc ls st g => kb pc 65 (lgr 0 ls fun a0 => lgi 1 ls fun x1 => lgi 3 ls fun x3 => pe st (J_X11_find_65 N a0 x1 x3 g)) (none)) rfl (fun e => by cases e) (by decide) (rcI_ok rfl) ?_ (co_X11_find N q) lb_X11_find 3000 31 S_X11_find_31 _ _ h ls_X11_find_31 hf
  intro pc ls st g e
  rcases kb_s e with ⟨rfl, e⟩ | e
  · obtain ⟨a0, e0, f0⟩ := lgr_s e
    obtain ⟨x1, e1, f1⟩ := lgi_s f0
    obtain ⟨x3, e2, f2⟩ := lgi_s f1
    obtain ⟨qe, fe⟩ := pe_s f2
    subst qe
    exact MW.sub (List.forall_mem_cons.mpr ⟨lg_mem e0, List.forall_mem_cons.mpr ⟨lg_mem e1, List.forall_mem_cons.mpr ⟨lg_mem e2, fun _ h => absurd h List.not_mem_nil⟩⟩⟩) (t_X11_find_65 N a0 x1 x3 g fe)
  cases e
set_option maxRecDepth 100000 in
theorem m_X11_find (N : Nat) {a0 : Nat} {x1 : Int32} {h : mH} {q : Int32 × mH} (hf : f_X11_find N a0 x1 h = some q) : MM y_X11_find 9 [.ref a0, .int x1] h (some (.int q.1)) q.2 := by
  refine MM.of (mFx (j := 170) rfl).2.2.2.1 (Nat.le_of_ble_eq_true rfl) (fun X => ?_)
  refine ev_ok (o := 11) (ini := false) (Cl := C_X11_find N) (Rc := RcI) (B := B_X11_find) (K := fun pc ls st g => kb pc 31 (lgr 0 ls fun a0 => lgi 1 ls fun x1 => pp1 st fun s_0 st => pe st (J_X11_find_31 N a0 x1 s_0 g)) (none)) rfl (fun e => by cases e) (by decide) (rcI_ok rfl) ?_ (co_X11_find N q) lb_X11_find 3000 0 S_X11_find_0 _ _ h ls_X11_find_0 hf
  intro pc ls st g e
  rcases kb_s e with ⟨rfl, e⟩ | e
  · obtain ⟨a0, e0, f0⟩ := lgr_s e
    obtain ⟨x1, e1, f1⟩ := lgi_s f0
    obtain ⟨s_0, r0, q0, g0⟩ := pp1_s f1
    obtain ⟨qe, fe⟩ := pe_s g0
    subst qe
    subst q0
    exact MW.sub (List.forall_mem_cons.mpr ⟨lg_mem e0, List.forall_mem_cons.mpr ⟨lg_mem e1, fun _ h => absurd h List.not_mem_nil⟩⟩) (t_X11_find_31 N a0 x1 s_0 g fe)
  cases e
def f_X11_print (N : Nat) (a0 : Nat) (x1 : Int32) (h : mH) : Option (Int32 × mH) :=
  (gR h 11 a0 7).bind fun v1 =>
  (rcv h 11 a0).bind fun _ =>
  (f_X11_takePicture N a0 x1 v1 (jI 0) h).bind fun p2 =>
  some (p2.1, p2.2)
def y_X11_print : mM := (yX11_print, cX11_print, 2, (some .int))
def B_X11_print : List (Nat × List mI) := []
def S_X11_print_0 : List mI := [(.aload_n 0, 1, [0], []), (.iload_n 1, 1, [1], []), (.aload_n 0, 1, [0], []), (.getfield 46, 3, [11, 7, 2, 116], []), (.iconst 0, 1, [], [0]), (.invokevirtual 247, 3, [0, 208, 3, 11, 129], []), (.ireturn, 1, [], [])]
theorem lb_X11_print : B_X11_print.all (fun b => lst y_X11_print.2.1 11 y_X11_print.2.2.1 false b.1 b.2) = true := by decide +kernel
theorem ls_X11_print_0 : lst y_X11_print.2.1 11 y_X11_print.2.2.1 false 0 S_X11_print_0 = true := by decide +kernel
def C_X11_print (N : Nat) : Nat → List Value → mH → (Option Value → mH → Option (Int32 × mH)) → Option (Int32 × mH) := fun j as g k => kb j 208 (pr1 as fun b0 as => pp1 as fun b1 as => pr1 as fun b2 as => pp1 as fun b3 as => pe as ((f_X11_takePicture N b0 b1 b2 b3 g).bind fun p => k (some (.int p.1)) p.2)) (none)
theorem co_X11_print (N : Nat) (q : Int32 × mH) : clOK 7 q (C_X11_print N) := by
  intro j as g k e
  rcases kb_s e with ⟨rfl, e⟩ | e
  · obtain ⟨b0, r0, q0, f0⟩ := pr1_s e
    obtain ⟨b1, r1, q1, f1⟩ := pp1_s f0
    obtain ⟨b2, r2, q2, f2⟩ := pr1_s f1
    obtain ⟨b3, r3, q3, f3⟩ := pp1_s f2
    obtain ⟨qe, fe⟩ := pe_s f3
    obtain ⟨p, e1, e2⟩ := bnd_s fe
    subst qe
    subst q3
    subst q2
    subst q1
    subst q0
    exact ⟨_, _, _, _, 6, rfl, (by decide), m_X11_takePicture N e1, e2⟩
  cases e
set_option maxRecDepth 100000 in
theorem m_X11_print (N : Nat) {a0 : Nat} {x1 : Int32} {h : mH} {q : Int32 × mH} (hf : f_X11_print N a0 x1 h = some q) : MM y_X11_print 7 [.ref a0, .int x1] h (some (.int q.1)) q.2 := by
  refine MM.of (mFx (j := 171) rfl).2.2.2.1 (Nat.le_of_ble_eq_true rfl) (fun X => ?_)
  refine ev_ok (o := 11) (ini := false) (Cl := C_X11_print N) (Rc := RcI) (B := B_X11_print) (K := fun pc ls st g => none) rfl (fun e => by cases e) (by decide) (rcI_ok rfl) ?_ (co_X11_print N q) lb_X11_print 3000 0 S_X11_print_0 _ _ h ls_X11_print_0 hf
  intro pc ls st g e
  cases e
def f_X11_reads (N : Nat) (a0 : Nat) (x1 : Int32) (x2 : Int32) (h : mH) : Option (Int32 × mH) :=
  (gR h 11 a0 7).bind fun v1 =>
  (gI h 6 v1 0).bind fun v2 =>
  if v2 = 0 then
    (rcv h 11 a0).bind fun _ =>
    (f_X11_refuse N a0 (jI (-5)) h).bind fun p3 =>
    some (p3.1, p3.2)
  else
    if x1 < 0 then
      (rcv h 11 a0).bind fun _ =>
      (f_X11_refuse N a0 (jI (-2)) h).bind fun p4 =>
      some (p4.1, p4.2)
    else
      if (jI 1) < x1 then
        (rcv h 11 a0).bind fun _ =>
        (f_X11_refuse N a0 (jI (-2)) h).bind fun p5 =>
        some (p5.1, p5.2)
      else
        if x2 < 0 then
          (rcv h 11 a0).bind fun _ =>
          (f_X11_refuse N a0 (jI (-2)) h).bind fun p6 =>
          some (p6.1, p6.2)
        else
          if (jI 1) < x2 then
            (rcv h 11 a0).bind fun _ =>
            (f_X11_refuse N a0 (jI (-2)) h).bind fun p7 =>
            some (p7.1, p7.2)
          else
            (gR h 11 a0 8).bind fun v8 =>
            (gR h 11 a0 7).bind fun v9 =>
            (gR h 11 a0 2).bind fun v10 =>
            (gI h 0 v10 0).bind fun v11 =>
            (rcv h 9 v8).bind fun _ =>
            (f_X9_readKnown N v8 v9 v11 h).bind fun h12 =>
            (gR h12 11 a0 8).bind fun v13 =>
            if x2 = 0 then
              (rcv h12 9 v13).bind fun _ =>
              (f_X9_ofReader N v13 x1 (jI 6) h12).bind fun p14 =>
              some (p14.1, p14.2)
            else
              (rcv h12 9 v13).bind fun _ =>
              (f_X9_ofReader N v13 x1 (jI 7) h12).bind fun p15 =>
              some (p15.1, p15.2)
def y_X11_reads : mM := (yX11_reads, cX11_reads, 3, (some .int))
def B_X11_reads : List (Nat × List mI) := [(17, [(.iload_n 1, 1, [1], []), (.ifCond .lt 17, 3, [35], []), (.iload_n 1, 1, [1], []), (.iconst 1, 1, [], [1]), (.if_icmp .gt 12, 3, [35], []), (.iload_n 2, 1, [2], []), (.ifCond .lt 8, 3, [35], []), (.iload_n 2, 1, [2], []), (.iconst 1, 1, [], [1]), (.if_icmp .le 10, 3, [42], [])]), (35, [(.aload_n 0, 1, [0], []), (.bipush (-2), 2, [], [-2]), (.invokevirtual 109, 3, [0, 203, 1, 11, 10], []), (.ireturn, 1, [], [])]), (42, [(.aload_n 0, 1, [0], []), (.getfield 52, 3, [11, 8, 2, 117], []), (.aload_n 0, 1, [0], []), (.getfield 46, 3, [11, 7, 2, 116], []), (.aload_n 0, 1, [0], []), (.getfield 16, 3, [11, 2, 2, 111], []), (.getfield 254, 3, [0, 0, 0, 3], []), (.invokevirtual 264, 3, [0, 118, 2, 9, 149], []), (.aload_n 0, 1, [0], []), (.getfield 52, 3, [11, 8, 2, 117], []), (.iload_n 1, 1, [1], []), (.iload_n 2, 1, [2], []), (.ifCond .ne 8, 3, [74], []), (.bipush 6, 2, [], [6]), (.goto 5, 3, [76], [])]), (74, [(.bipush 7, 2, [], [7])]), (76, [(.invokevirtual 267, 3, [0, 113, 2, 9, 152], []), (.ireturn, 1, [], [])])]
def S_X11_reads_0 : List mI := [(.aload_n 0, 1, [0], []), (.getfield 46, 3, [11, 7, 2, 116], []), (.getfield 251, 3, [6, 0, 0, 48], []), (.ifCond .ne 10, 3, [17], []), (.aload_n 0, 1, [0], []), (.bipush (-5), 2, [], [-5]), (.invokevirtual 109, 3, [0, 203, 1, 11, 10], []), (.ireturn, 1, [], [])]
theorem lb_X11_reads : B_X11_reads.all (fun b => lst y_X11_reads.2.1 11 y_X11_reads.2.2.1 false b.1 b.2) = true := by decide +kernel
theorem ls_X11_reads_0 : lst y_X11_reads.2.1 11 y_X11_reads.2.2.1 false 0 S_X11_reads_0 = true := by decide +kernel
def C_X11_reads (N : Nat) : Nat → List Value → mH → (Option Value → mH → Option (Int32 × mH)) → Option (Int32 × mH) := fun j as g k => kb j 203 (pr1 as fun b0 as => pp1 as fun b1 as => pe as ((f_X11_refuse N b0 b1 g).bind fun p => k (some (.int p.1)) p.2)) (kb j 118 (pr1 as fun b0 as => pr1 as fun b1 as => pp1 as fun b2 as => pe as ((f_X9_readKnown N b0 b1 b2 g).bind fun p => k none p)) (kb j 113 (pr1 as fun b0 as => pp1 as fun b1 as => pp1 as fun b2 as => pe as ((f_X9_ofReader N b0 b1 b2 g).bind fun p => k (some (.int p.1)) p.2)) (none)))
theorem co_X11_reads (N : Nat) (q : Int32 × mH) : clOK 10 q (C_X11_reads N) := by
  intro j as g k e
  rcases kb_s e with ⟨rfl, e⟩ | e
  · obtain ⟨b0, r0, q0, f0⟩ := pr1_s e
    obtain ⟨b1, r1, q1, f1⟩ := pp1_s f0
    obtain ⟨qe, fe⟩ := pe_s f1
    obtain ⟨p, e1, e2⟩ := bnd_s fe
    subst qe
    subst q1
    subst q0
    exact ⟨_, _, _, _, 4, rfl, (by decide), m_X11_refuse N e1, e2⟩
  rcases kb_s e with ⟨rfl, e⟩ | e
  · obtain ⟨b0, r0, q0, f0⟩ := pr1_s e
    obtain ⟨b1, r1, q1, f1⟩ := pr1_s f0
    obtain ⟨b2, r2, q2, f2⟩ := pp1_s f1
    obtain ⟨qe, fe⟩ := pe_s f2
    obtain ⟨p, e1, e2⟩ := bnd_s fe
    subst qe
    subst q2
    subst q1
    subst q0
    exact ⟨_, _, _, _, 9, rfl, (by decide), m_X9_readKnown N e1, e2⟩
  rcases kb_s e with ⟨rfl, e⟩ | e
  · obtain ⟨b0, r0, q0, f0⟩ := pr1_s e
    obtain ⟨b1, r1, q1, f1⟩ := pp1_s f0
    obtain ⟨b2, r2, q2, f2⟩ := pp1_s f1
    obtain ⟨qe, fe⟩ := pe_s f2
    obtain ⟨p, e1, e2⟩ := bnd_s fe
    subst qe
    subst q2
    subst q1
    subst q0
    exact ⟨_, _, _, _, 4, rfl, (by decide), m_X9_ofReader N e1, e2⟩
  cases e
set_option maxRecDepth 100000 in
theorem m_X11_reads (N : Nat) {a0 : Nat} {x1 : Int32} {x2 : Int32} {h : mH} {q : Int32 × mH} (hf : f_X11_reads N a0 x1 x2 h = some q) : MM y_X11_reads 10 [.ref a0, .int x1, .int x2] h (some (.int q.1)) q.2 := by
  refine MM.of (mFx (j := 172) rfl).2.2.2.1 (Nat.le_of_ble_eq_true rfl) (fun X => ?_)
  refine ev_ok (o := 11) (ini := false) (Cl := C_X11_reads N) (Rc := RcI) (B := B_X11_reads) (K := fun pc ls st g => none) rfl (fun e => by cases e) (by decide) (rcI_ok rfl) ?_ (co_X11_reads N q) lb_X11_reads 3000 0 S_X11_reads_0 _ _ h ls_X11_reads_0 hf
  intro pc ls st g e
  cases e
def f_X11_nearest (N : Nat) (a0 : Nat) (x1 : Int32) (x2 : Int32) (h : mH) : Option (Int32 × mH) :=
  (gR h 11 a0 7).bind fun v1 =>
  (gI h 6 v1 0).bind fun v2 =>
  if v2 = 0 then
    (rcv h 11 a0).bind fun _ =>
    (f_X11_refuse N a0 (jI (-5)) h).bind fun p3 =>
    some (p3.1, p3.2)
  else
    if x1 < 0 then
      (rcv h 11 a0).bind fun _ =>
      (f_X11_refuse N a0 (jI (-2)) h).bind fun p4 =>
      some (p4.1, p4.2)
    else
      if (jI 1) < x1 then
        (rcv h 11 a0).bind fun _ =>
        (f_X11_refuse N a0 (jI (-2)) h).bind fun p5 =>
        some (p5.1, p5.2)
      else
        if x2 < 0 then
          (rcv h 11 a0).bind fun _ =>
          (f_X11_refuse N a0 (jI (-2)) h).bind fun p6 =>
          some (p6.1, p6.2)
        else
          if (jI 5) < x2 then
            (rcv h 11 a0).bind fun _ =>
            (f_X11_refuse N a0 (jI (-2)) h).bind fun p7 =>
            some (p7.1, p7.2)
          else
            (gR h 11 a0 8).bind fun v8 =>
            (gR h 11 a0 7).bind fun v9 =>
            (gR h 11 a0 2).bind fun v10 =>
            (gI h 0 v10 0).bind fun v11 =>
            (rcv h 9 v8).bind fun _ =>
            (f_X9_readKnown N v8 v9 v11 h).bind fun h12 =>
            (gR h12 11 a0 8).bind fun v13 =>
            if x2 = 0 then
              (rcv h12 9 v13).bind fun _ =>
              (f_X9_ofReader N v13 x1 (jI 5) h12).bind fun p14 =>
              some (p14.1, p14.2)
            else
              (rcv h12 9 v13).bind fun _ =>
              (f_X9_ofReader N v13 x1 (iSub x2 (jI 1)) h12).bind fun p15 =>
              some (p15.1, p15.2)
def y_X11_nearest : mM := (yX11_nearest, cX11_nearest, 3, (some .int))
def B_X11_nearest : List (Nat × List mI) := [(17, [(.iload_n 1, 1, [1], []), (.ifCond .lt 17, 3, [35], []), (.iload_n 1, 1, [1], []), (.iconst 1, 1, [], [1]), (.if_icmp .gt 12, 3, [35], []), (.iload_n 2, 1, [2], []), (.ifCond .lt 8, 3, [35], []), (.iload_n 2, 1, [2], []), (.iconst 5, 1, [], [5]), (.if_icmp .le 10, 3, [42], [])]), (35, [(.aload_n 0, 1, [0], []), (.bipush (-2), 2, [], [-2]), (.invokevirtual 109, 3, [0, 203, 1, 11, 10], []), (.ireturn, 1, [], [])]), (42, [(.aload_n 0, 1, [0], []), (.getfield 52, 3, [11, 8, 2, 117], []), (.aload_n 0, 1, [0], []), (.getfield 46, 3, [11, 7, 2, 116], []), (.aload_n 0, 1, [0], []), (.getfield 16, 3, [11, 2, 2, 111], []), (.getfield 254, 3, [0, 0, 0, 3], []), (.invokevirtual 264, 3, [0, 118, 2, 9, 149], []), (.aload_n 0, 1, [0], []), (.getfield 52, 3, [11, 8, 2, 117], []), (.iload_n 1, 1, [1], []), (.iload_n 2, 1, [2], []), (.ifCond .ne 7, 3, [73], []), (.iconst 5, 1, [], [5]), (.goto 6, 3, [76], [])]), (73, [(.iload_n 2, 1, [2], []), (.iconst 1, 1, [], [1]), (.isub, 1, [], [])]), (76, [(.invokevirtual 267, 3, [0, 113, 2, 9, 152], []), (.ireturn, 1, [], [])])]
def S_X11_nearest_0 : List mI := [(.aload_n 0, 1, [0], []), (.getfield 46, 3, [11, 7, 2, 116], []), (.getfield 251, 3, [6, 0, 0, 48], []), (.ifCond .ne 10, 3, [17], []), (.aload_n 0, 1, [0], []), (.bipush (-5), 2, [], [-5]), (.invokevirtual 109, 3, [0, 203, 1, 11, 10], []), (.ireturn, 1, [], [])]
theorem lb_X11_nearest : B_X11_nearest.all (fun b => lst y_X11_nearest.2.1 11 y_X11_nearest.2.2.1 false b.1 b.2) = true := by decide +kernel
theorem ls_X11_nearest_0 : lst y_X11_nearest.2.1 11 y_X11_nearest.2.2.1 false 0 S_X11_nearest_0 = true := by decide +kernel
def C_X11_nearest (N : Nat) : Nat → List Value → mH → (Option Value → mH → Option (Int32 × mH)) → Option (Int32 × mH) := fun j as g k => kb j 203 (pr1 as fun b0 as => pp1 as fun b1 as => pe as ((f_X11_refuse N b0 b1 g).bind fun p => k (some (.int p.1)) p.2)) (kb j 118 (pr1 as fun b0 as => pr1 as fun b1 as => pp1 as fun b2 as => pe as ((f_X9_readKnown N b0 b1 b2 g).bind fun p => k none p)) (kb j 113 (pr1 as fun b0 as => pp1 as fun b1 as => pp1 as fun b2 as => pe as ((f_X9_ofReader N b0 b1 b2 g).bind fun p => k (some (.int p.1)) p.2)) (none)))
theorem co_X11_nearest (N : Nat) (q : Int32 × mH) : clOK 10 q (C_X11_nearest N) := by
  intro j as g k e
  rcases kb_s e with ⟨rfl, e⟩ | e
  · obtain ⟨b0, r0, q0, f0⟩ := pr1_s e
    obtain ⟨b1, r1, q1, f1⟩ := pp1_s f0
    obtain ⟨qe, fe⟩ := pe_s f1
    obtain ⟨p, e1, e2⟩ := bnd_s fe
    subst qe
    subst q1
    subst q0
    exact ⟨_, _, _, _, 4, rfl, (by decide), m_X11_refuse N e1, e2⟩
  rcases kb_s e with ⟨rfl, e⟩ | e
  · obtain ⟨b0, r0, q0, f0⟩ := pr1_s e
    obtain ⟨b1, r1, q1, f1⟩ := pr1_s f0
    obtain ⟨b2, r2, q2, f2⟩ := pp1_s f1
    obtain ⟨qe, fe⟩ := pe_s f2
    obtain ⟨p, e1, e2⟩ := bnd_s fe
    subst qe
    subst q2
    subst q1
    subst q0
    exact ⟨_, _, _, _, 9, rfl, (by decide), m_X9_readKnown N e1, e2⟩
  rcases kb_s e with ⟨rfl, e⟩ | e
  · obtain ⟨b0, r0, q0, f0⟩ := pr1_s e
    obtain ⟨b1, r1, q1, f1⟩ := pp1_s f0
    obtain ⟨b2, r2, q2, f2⟩ := pp1_s f1
    obtain ⟨qe, fe⟩ := pe_s f2
    obtain ⟨p, e1, e2⟩ := bnd_s fe
    subst qe
    subst q2
    subst q1
    subst q0
    exact ⟨_, _, _, _, 4, rfl, (by decide), m_X9_ofReader N e1, e2⟩
  cases e
set_option maxRecDepth 100000 in
theorem m_X11_nearest (N : Nat) {a0 : Nat} {x1 : Int32} {x2 : Int32} {h : mH} {q : Int32 × mH} (hf : f_X11_nearest N a0 x1 x2 h = some q) : MM y_X11_nearest 10 [.ref a0, .int x1, .int x2] h (some (.int q.1)) q.2 := by
  refine MM.of (mFx (j := 173) rfl).2.2.2.1 (Nat.le_of_ble_eq_true rfl) (fun X => ?_)
  refine ev_ok (o := 11) (ini := false) (Cl := C_X11_nearest N) (Rc := RcI) (B := B_X11_nearest) (K := fun pc ls st g => none) rfl (fun e => by cases e) (by decide) (rcI_ok rfl) ?_ (co_X11_nearest N q) lb_X11_nearest 3000 0 S_X11_nearest_0 _ _ h ls_X11_nearest_0 hf
  intro pc ls st g e
  cases e
def f_X11_rods (N : Nat) (a0 : Nat) (x1 : Int32) (h : mH) : Option (Int32 × mH) :=
  (gR h 11 a0 2).bind fun v1 =>
  (rcv h 0 v1).bind fun _ =>
  (f_X0_hasKind N v1 x1 h).bind fun p2 =>
  if p2.1 = 0 then
    (rcv p2.2 11 a0).bind fun _ =>
    (f_X11_refuse N a0 (jI (-2)) p2.2).bind fun p3 =>
    some (p3.1, p3.2)
  else
    (gR p2.2 11 a0 2).bind fun v4 =>
    (rcv p2.2 0 v4).bind fun _ =>
    (f_X0_rodsTaken N v4 x1 p2.2).bind fun p5 =>
    some (p5.1, p5.2)
def y_X11_rods : mM := (yX11_rods, cX11_rods, 2, (some .int))
def B_X11_rods : List (Nat × List mI) := [(22, [(.aload_n 0, 1, [0], []), (.bipush (-2), 2, [], [-2]), (.invokevirtual 109, 3, [0, 203, 1, 11, 10], [])]), (28, [(.ireturn, 1, [], [])])]
def S_X11_rods_0 : List mI := [(.aload_n 0, 1, [0], []), (.getfield 16, 3, [11, 2, 2, 111], []), (.iload_n 1, 1, [1], []), (.invokevirtual 143, 3, [0, 3, 1, 0, 43], []), (.ifCond .eq 14, 3, [22], []), (.aload_n 0, 1, [0], []), (.getfield 16, 3, [11, 2, 2, 111], []), (.iload_n 1, 1, [1], []), (.invokevirtual 270, 3, [0, 28, 1, 0, 155], []), (.goto 9, 3, [28], [])]
theorem lb_X11_rods : B_X11_rods.all (fun b => lst y_X11_rods.2.1 11 y_X11_rods.2.2.1 false b.1 b.2) = true := by decide +kernel
theorem ls_X11_rods_0 : lst y_X11_rods.2.1 11 y_X11_rods.2.2.1 false 0 S_X11_rods_0 = true := by decide +kernel
def C_X11_rods (N : Nat) : Nat → List Value → mH → (Option Value → mH → Option (Int32 × mH)) → Option (Int32 × mH) := fun j as g k => kb j 3 (pr1 as fun b0 as => pp1 as fun b1 as => pe as ((f_X0_hasKind N b0 b1 g).bind fun p => k (some (.int p.1)) p.2)) (kb j 28 (pr1 as fun b0 as => pp1 as fun b1 as => pe as ((f_X0_rodsTaken N b0 b1 g).bind fun p => k (some (.int p.1)) p.2)) (kb j 203 (pr1 as fun b0 as => pp1 as fun b1 as => pe as ((f_X11_refuse N b0 b1 g).bind fun p => k (some (.int p.1)) p.2)) (none)))
theorem co_X11_rods (N : Nat) (q : Int32 × mH) : clOK 8 q (C_X11_rods N) := by
  intro j as g k e
  rcases kb_s e with ⟨rfl, e⟩ | e
  · obtain ⟨b0, r0, q0, f0⟩ := pr1_s e
    obtain ⟨b1, r1, q1, f1⟩ := pp1_s f0
    obtain ⟨qe, fe⟩ := pe_s f1
    obtain ⟨p, e1, e2⟩ := bnd_s fe
    subst qe
    subst q1
    subst q0
    exact ⟨_, _, _, _, 4, rfl, (by decide), m_X0_hasKind N e1, e2⟩
  rcases kb_s e with ⟨rfl, e⟩ | e
  · obtain ⟨b0, r0, q0, f0⟩ := pr1_s e
    obtain ⟨b1, r1, q1, f1⟩ := pp1_s f0
    obtain ⟨qe, fe⟩ := pe_s f1
    obtain ⟨p, e1, e2⟩ := bnd_s fe
    subst qe
    subst q1
    subst q0
    exact ⟨_, _, _, _, 7, rfl, (by decide), m_X0_rodsTaken N e1, e2⟩
  rcases kb_s e with ⟨rfl, e⟩ | e
  · obtain ⟨b0, r0, q0, f0⟩ := pr1_s e
    obtain ⟨b1, r1, q1, f1⟩ := pp1_s f0
    obtain ⟨qe, fe⟩ := pe_s f1
    obtain ⟨p, e1, e2⟩ := bnd_s fe
    subst qe
    subst q1
    subst q0
    exact ⟨_, _, _, _, 4, rfl, (by decide), m_X11_refuse N e1, e2⟩
  cases e
set_option maxRecDepth 100000 in
theorem m_X11_rods (N : Nat) {a0 : Nat} {x1 : Int32} {h : mH} {q : Int32 × mH} (hf : f_X11_rods N a0 x1 h = some q) : MM y_X11_rods 8 [.ref a0, .int x1] h (some (.int q.1)) q.2 := by
  refine MM.of (mFx (j := 174) rfl).2.2.2.1 (Nat.le_of_ble_eq_true rfl) (fun X => ?_)
  refine ev_ok (o := 11) (ini := false) (Cl := C_X11_rods N) (Rc := RcI) (B := B_X11_rods) (K := fun pc ls st g => none) rfl (fun e => by cases e) (by decide) (rcI_ok rfl) ?_ (co_X11_rods N q) lb_X11_rods 3000 0 S_X11_rods_0 _ _ h ls_X11_rods_0 hf
  intro pc ls st g e
  cases e
def f_X11_waste (N : Nat) (a0 : Nat) (x1 : Int32) (h : mH) : Option (Int32 × mH) :=
  (gR h 11 a0 2).bind fun v1 =>
  (rcv h 0 v1).bind fun _ =>
  (f_X0_hasKind N v1 x1 h).bind fun p2 =>
  if p2.1 = 0 then
    (rcv p2.2 11 a0).bind fun _ =>
    (f_X11_refuse N a0 (jI (-2)) p2.2).bind fun p3 =>
    some (p3.1, p3.2)
  else
    (gR p2.2 11 a0 2).bind fun v4 =>
    (rcv p2.2 0 v4).bind fun _ =>
    (f_X0_leftOver N v4 x1 p2.2).bind fun p5 =>
    some (p5.1, p5.2)
def y_X11_waste : mM := (yX11_waste, cX11_waste, 2, (some .int))
def B_X11_waste : List (Nat × List mI) := [(22, [(.aload_n 0, 1, [0], []), (.bipush (-2), 2, [], [-2]), (.invokevirtual 109, 3, [0, 203, 1, 11, 10], [])]), (28, [(.ireturn, 1, [], [])])]
def S_X11_waste_0 : List mI := [(.aload_n 0, 1, [0], []), (.getfield 16, 3, [11, 2, 2, 111], []), (.iload_n 1, 1, [1], []), (.invokevirtual 143, 3, [0, 3, 1, 0, 43], []), (.ifCond .eq 14, 3, [22], []), (.aload_n 0, 1, [0], []), (.getfield 16, 3, [11, 2, 2, 111], []), (.iload_n 1, 1, [1], []), (.invokevirtual 273, 3, [0, 29, 1, 0, 158], []), (.goto 9, 3, [28], [])]
theorem lb_X11_waste : B_X11_waste.all (fun b => lst y_X11_waste.2.1 11 y_X11_waste.2.2.1 false b.1 b.2) = true := by decide +kernel
theorem ls_X11_waste_0 : lst y_X11_waste.2.1 11 y_X11_waste.2.2.1 false 0 S_X11_waste_0 = true := by decide +kernel
def C_X11_waste (N : Nat) : Nat → List Value → mH → (Option Value → mH → Option (Int32 × mH)) → Option (Int32 × mH) := fun j as g k => kb j 3 (pr1 as fun b0 as => pp1 as fun b1 as => pe as ((f_X0_hasKind N b0 b1 g).bind fun p => k (some (.int p.1)) p.2)) (kb j 29 (pr1 as fun b0 as => pp1 as fun b1 as => pe as ((f_X0_leftOver N b0 b1 g).bind fun p => k (some (.int p.1)) p.2)) (kb j 203 (pr1 as fun b0 as => pp1 as fun b1 as => pe as ((f_X11_refuse N b0 b1 g).bind fun p => k (some (.int p.1)) p.2)) (none)))
theorem co_X11_waste (N : Nat) (q : Int32 × mH) : clOK 8 q (C_X11_waste N) := by
  intro j as g k e
  rcases kb_s e with ⟨rfl, e⟩ | e
  · obtain ⟨b0, r0, q0, f0⟩ := pr1_s e
    obtain ⟨b1, r1, q1, f1⟩ := pp1_s f0
    obtain ⟨qe, fe⟩ := pe_s f1
    obtain ⟨p, e1, e2⟩ := bnd_s fe
    subst qe
    subst q1
    subst q0
    exact ⟨_, _, _, _, 4, rfl, (by decide), m_X0_hasKind N e1, e2⟩
  rcases kb_s e with ⟨rfl, e⟩ | e
  · obtain ⟨b0, r0, q0, f0⟩ := pr1_s e
    obtain ⟨b1, r1, q1, f1⟩ := pp1_s f0
    obtain ⟨qe, fe⟩ := pe_s f1
    obtain ⟨p, e1, e2⟩ := bnd_s fe
    subst qe
    subst q1
    subst q0
    exact ⟨_, _, _, _, 7, rfl, (by decide), m_X0_leftOver N e1, e2⟩
  rcases kb_s e with ⟨rfl, e⟩ | e
  · obtain ⟨b0, r0, q0, f0⟩ := pr1_s e
    obtain ⟨b1, r1, q1, f1⟩ := pp1_s f0
    obtain ⟨qe, fe⟩ := pe_s f1
    obtain ⟨p, e1, e2⟩ := bnd_s fe
    subst qe
    subst q1
    subst q0
    exact ⟨_, _, _, _, 4, rfl, (by decide), m_X11_refuse N e1, e2⟩
  cases e
set_option maxRecDepth 100000 in
theorem m_X11_waste (N : Nat) {a0 : Nat} {x1 : Int32} {h : mH} {q : Int32 × mH} (hf : f_X11_waste N a0 x1 h = some q) : MM y_X11_waste 8 [.ref a0, .int x1] h (some (.int q.1)) q.2 := by
  refine MM.of (mFx (j := 175) rfl).2.2.2.1 (Nat.le_of_ble_eq_true rfl) (fun X => ?_)
  refine ev_ok (o := 11) (ini := false) (Cl := C_X11_waste N) (Rc := RcI) (B := B_X11_waste) (K := fun pc ls st g => none) rfl (fun e => by cases e) (by decide) (rcI_ok rfl) ?_ (co_X11_waste N q) lb_X11_waste 3000 0 S_X11_waste_0 _ _ h ls_X11_waste_0 hf
  intro pc ls st g e
  cases e
def L_X11_cost_4 (N : Nat) : Nat → Nat → Int32 → Int32 → mH → Option (Int32 × mH)
  | 0, _, _, _, _ => none
  | n + 1, a0, x1, x2, h =>
    (gR h 11 a0 2).bind fun v1 =>
    (gI h 0 v1 1).bind fun v2 =>
    if x2 < v2 then
      (gR h 11 a0 2).bind fun v3 =>
      (rcv h 0 v3).bind fun _ =>
      (f_X0_rodsTaken N v3 x2 h).bind fun p4 =>
      (gR p4.2 11 a0 2).bind fun v5 =>
      (rcv p4.2 0 v5).bind fun _ =>
      (f_X0_ofKind N v5 x2 (jI 3) p4.2).bind fun p6 =>
      let w7 := iAdd x1 (iMul p4.1 p6.1)
      let w8 := iAdd x2 (jI 1)
      L_X11_cost_4 N n a0 w7 w8 p6.2
    else
      some (x1, h)
def f_X11_cost (N : Nat) (a0 : Nat) (h : mH) : Option (Int32 × mH) :=
  L_X11_cost_4 N N a0 (jI 0) (jI 0) h
def y_X11_cost : mM := (yX11_cost, cX11_cost, 3, (some .int))
def B_X11_cost : List (Nat × List mI) := [(42, [(.iload_n 1, 1, [1], []), (.ireturn, 1, [], [])])]
def S_X11_cost_0 : List mI := [(.iconst 0, 1, [], [0]), (.istore_n 1, 1, [1], []), (.iconst 0, 1, [], [0]), (.istore_n 2, 1, [2], [])]
def S_X11_cost_4 : List mI := [(.iload_n 2, 1, [2], []), (.aload_n 0, 1, [0], []), (.getfield 16, 3, [11, 2, 2, 111], []), (.getfield 276, 3, [0, 1, 0, 6], []), (.if_icmp .ge 30, 3, [42], []), (.iload_n 1, 1, [1], []), (.aload_n 0, 1, [0], []), (.getfield 16, 3, [11, 2, 2, 111], []), (.iload_n 2, 1, [2], []), (.invokevirtual 270, 3, [0, 28, 1, 0, 155], []), (.aload_n 0, 1, [0], []), (.getfield 16, 3, [11, 2, 2, 111], []), (.iload_n 2, 1, [2], []), (.iconst 3, 1, [], [3]), (.invokevirtual 146, 3, [0, 8, 2, 0, 44], []), (.imul, 1, [], []), (.iadd, 1, [], []), (.istore_n 1, 1, [1], []), (.iinc 2 1, 3, [2], [1]), (.goto (-35), 3, [4], [])]
theorem lb_X11_cost : B_X11_cost.all (fun b => lst y_X11_cost.2.1 11 y_X11_cost.2.2.1 false b.1 b.2) = true := by decide +kernel
theorem ls_X11_cost_0 : lst y_X11_cost.2.1 11 y_X11_cost.2.2.1 false 0 S_X11_cost_0 = true := by decide +kernel
theorem ls_X11_cost_4 : lst y_X11_cost.2.1 11 y_X11_cost.2.2.1 false 4 S_X11_cost_4 = true := by decide +kernel
def C_X11_cost (N : Nat) : Nat → List Value → mH → (Option Value → mH → Option (Int32 × mH)) → Option (Int32 × mH) := fun j as g k => kb j 28 (pr1 as fun b0 as => pp1 as fun b1 as => pe as ((f_X0_rodsTaken N b0 b1 g).bind fun p => k (some (.int p.1)) p.2)) (kb j 8 (pr1 as fun b0 as => pp1 as fun b1 as => pp1 as fun b2 as => pe as ((f_X0_ofKind N b0 b1 b2 g).bind fun p => k (some (.int p.1)) p.2)) (none))
theorem co_X11_cost (N : Nat) (q : Int32 × mH) : clOK 8 q (C_X11_cost N) := by
  intro j as g k e
  rcases kb_s e with ⟨rfl, e⟩ | e
  · obtain ⟨b0, r0, q0, f0⟩ := pr1_s e
    obtain ⟨b1, r1, q1, f1⟩ := pp1_s f0
    obtain ⟨qe, fe⟩ := pe_s f1
    obtain ⟨p, e1, e2⟩ := bnd_s fe
    subst qe
    subst q1
    subst q0
    exact ⟨_, _, _, _, 7, rfl, (by decide), m_X0_rodsTaken N e1, e2⟩
  rcases kb_s e with ⟨rfl, e⟩ | e
  · obtain ⟨b0, r0, q0, f0⟩ := pr1_s e
    obtain ⟨b1, r1, q1, f1⟩ := pp1_s f0
    obtain ⟨b2, r2, q2, f2⟩ := pp1_s f1
    obtain ⟨qe, fe⟩ := pe_s f2
    obtain ⟨p, e1, e2⟩ := bnd_s fe
    subst qe
    subst q2
    subst q1
    subst q0
    exact ⟨_, _, _, _, 4, rfl, (by decide), m_X0_ofKind N e1, e2⟩
  cases e
set_option maxRecDepth 100000 in
theorem t_X11_cost_4 {X : Nat × (Nat → Int32)} (N : Nat) {q : Int32 × mH} : ∀ (n : Nat) (a0 : Nat) (x1 : Int32) (x2 : Int32) (h : mH), L_X11_cost_4 N n a0 x1 x2 h = some q → MW X y_X11_cost 8 4 [(0, .ref a0), (1, .int x1), (2, .int x2)] [] h (some (.int q.1)) q.2 := by
  intro n
  induction n with
  | zero => intro a0 x1 x2 h hf; cases hf
  | succ n ih =>
    intro a0 x1 x2 h hf
    refine ev_ok (o := 11) (ini := false) (Cl := C_X11_cost N) (Rc := RcI) (B := B_X11_cost) (K := fun pc ls st g => kb pc 4 (lgr 0 ls fun a0 => lgi 1 ls fun x1 => lgi 2 ls fun x2 => pe st (L_X11_cost_4 N n a0 x1 x2 g)) (none)) rfl (fun e => by cases e) (by decide) (rcI_ok rfl) ?_ (co_X11_cost N q) lb_X11_cost 3000 4 S_X11_cost_4 _ _ h ls_X11_cost_4 hf
    intro pc ls st g e
    rcases kb_s e with ⟨rfl, e⟩ | e
    · obtain ⟨a0, e0, f0⟩ := lgr_s e
      obtain ⟨x1, e1, f1⟩ := lgi_s f0
      obtain ⟨x2, e2, f2⟩ := lgi_s f1
      obtain ⟨qe, fe⟩ := pe_s f2
      subst qe
      exact MW.sub (List.forall_mem_cons.mpr ⟨lg_mem e0, List.forall_mem_cons.mpr ⟨lg_mem e1, List.forall_mem_cons.mpr ⟨lg_mem e2, fun _ h => absurd h List.not_mem_nil⟩⟩⟩) (ih a0 x1 x2 g fe)
    cases e
set_option maxRecDepth 100000 in
theorem m_X11_cost (N : Nat) {a0 : Nat} {h : mH} {q : Int32 × mH} (hf : f_X11_cost N a0 h = some q) : MM y_X11_cost 8 [.ref a0] h (some (.int q.1)) q.2 := by
  refine MM.of (mFx (j := 176) rfl).2.2.2.1 (Nat.le_of_ble_eq_true rfl) (fun X => ?_)
  refine ev_ok (o := 11) (ini := false) (Cl := C_X11_cost N) (Rc := RcI) (B := B_X11_cost) (K := fun pc ls st g => kb pc 4 (lgr 0 ls fun a0 => lgi 1 ls fun x1 => lgi 2 ls fun x2 => pe st (L_X11_cost_4 N N a0 x1 x2 g)) (none)) rfl (fun e => by cases e) (by decide) (rcI_ok rfl) ?_ (co_X11_cost N q) lb_X11_cost 3000 0 S_X11_cost_0 _ _ h ls_X11_cost_0 hf
  intro pc ls st g e
  rcases kb_s e with ⟨rfl, e⟩ | e
  · obtain ⟨a0, e0, f0⟩ := lgr_s e
    obtain ⟨x1, e1, f1⟩ := lgi_s f0
    obtain ⟨x2, e2, f2⟩ := lgi_s f1
    obtain ⟨qe, fe⟩ := pe_s f2
    subst qe
    exact MW.sub (List.forall_mem_cons.mpr ⟨lg_mem e0, List.forall_mem_cons.mpr ⟨lg_mem e1, List.forall_mem_cons.mpr ⟨lg_mem e2, fun _ h => absurd h List.not_mem_nil⟩⟩⟩) (t_X11_cost_4 N N a0 x1 x2 g fe)
  cases e
def f_X11_cheaper (N : Nat) (a0 : Nat) (x1 : Int32) (h : mH) : Option (Int32 × mH) :=
  (gR h 11 a0 2).bind fun v1 =>
  (rcv h 0 v1).bind fun _ =>
  (f_X0_hasBand N v1 x1 h).bind fun p2 =>
  if p2.1 = 0 then
    (rcv p2.2 11 a0).bind fun _ =>
    (f_X11_refuse N a0 (jI (-2)) p2.2).bind fun p3 =>
    some (p3.1, p3.2)
  else
    (gR p2.2 11 a0 2).bind fun v4 =>
    (rcv p2.2 0 v4).bind fun _ =>
    (f_X0_cheapestKind N v4 x1 p2.2).bind fun p5 =>
    some (p5.1, p5.2)
def y_X11_cheaper : mM := (yX11_cheaper, cX11_cheaper, 2, (some .int))
def B_X11_cheaper : List (Nat × List mI) := [(22, [(.aload_n 0, 1, [0], []), (.bipush (-2), 2, [], [-2]), (.invokevirtual 109, 3, [0, 203, 1, 11, 10], [])]), (28, [(.ireturn, 1, [], [])])]
def S_X11_cheaper_0 : List mI := [(.aload_n 0, 1, [0], []), (.getfield 16, 3, [11, 2, 2, 111], []), (.iload_n 1, 1, [1], []), (.invokevirtual 150, 3, [0, 4, 1, 0, 46], []), (.ifCond .eq 14, 3, [22], []), (.aload_n 0, 1, [0], []), (.getfield 16, 3, [11, 2, 2, 111], []), (.iload_n 1, 1, [1], []), (.invokevirtual 279, 3, [0, 30, 1, 0, 161], []), (.goto 9, 3, [28], [])]
theorem lb_X11_cheaper : B_X11_cheaper.all (fun b => lst y_X11_cheaper.2.1 11 y_X11_cheaper.2.2.1 false b.1 b.2) = true := by decide +kernel
theorem ls_X11_cheaper_0 : lst y_X11_cheaper.2.1 11 y_X11_cheaper.2.2.1 false 0 S_X11_cheaper_0 = true := by decide +kernel
def C_X11_cheaper (N : Nat) : Nat → List Value → mH → (Option Value → mH → Option (Int32 × mH)) → Option (Int32 × mH) := fun j as g k => kb j 4 (pr1 as fun b0 as => pp1 as fun b1 as => pe as ((f_X0_hasBand N b0 b1 g).bind fun p => k (some (.int p.1)) p.2)) (kb j 30 (pr1 as fun b0 as => pp1 as fun b1 as => pe as ((f_X0_cheapestKind N b0 b1 g).bind fun p => k (some (.int p.1)) p.2)) (kb j 203 (pr1 as fun b0 as => pp1 as fun b1 as => pe as ((f_X11_refuse N b0 b1 g).bind fun p => k (some (.int p.1)) p.2)) (none)))
theorem co_X11_cheaper (N : Nat) (q : Int32 × mH) : clOK 8 q (C_X11_cheaper N) := by
  intro j as g k e
  rcases kb_s e with ⟨rfl, e⟩ | e
  · obtain ⟨b0, r0, q0, f0⟩ := pr1_s e
    obtain ⟨b1, r1, q1, f1⟩ := pp1_s f0
    obtain ⟨qe, fe⟩ := pe_s f1
    obtain ⟨p, e1, e2⟩ := bnd_s fe
    subst qe
    subst q1
    subst q0
    exact ⟨_, _, _, _, 4, rfl, (by decide), m_X0_hasBand N e1, e2⟩
  rcases kb_s e with ⟨rfl, e⟩ | e
  · obtain ⟨b0, r0, q0, f0⟩ := pr1_s e
    obtain ⟨b1, r1, q1, f1⟩ := pp1_s f0
    obtain ⟨qe, fe⟩ := pe_s f1
    obtain ⟨p, e1, e2⟩ := bnd_s fe
    subst qe
    subst q1
    subst q0
    exact ⟨_, _, _, _, 7, rfl, (by decide), m_X0_cheapestKind N e1, e2⟩
  rcases kb_s e with ⟨rfl, e⟩ | e
  · obtain ⟨b0, r0, q0, f0⟩ := pr1_s e
    obtain ⟨b1, r1, q1, f1⟩ := pp1_s f0
    obtain ⟨qe, fe⟩ := pe_s f1
    obtain ⟨p, e1, e2⟩ := bnd_s fe
    subst qe
    subst q1
    subst q0
    exact ⟨_, _, _, _, 4, rfl, (by decide), m_X11_refuse N e1, e2⟩
  cases e
set_option maxRecDepth 100000 in
theorem m_X11_cheaper (N : Nat) {a0 : Nat} {x1 : Int32} {h : mH} {q : Int32 × mH} (hf : f_X11_cheaper N a0 x1 h = some q) : MM y_X11_cheaper 8 [.ref a0, .int x1] h (some (.int q.1)) q.2 := by
  refine MM.of (mFx (j := 177) rfl).2.2.2.1 (Nat.le_of_ble_eq_true rfl) (fun X => ?_)
  refine ev_ok (o := 11) (ini := false) (Cl := C_X11_cheaper N) (Rc := RcI) (B := B_X11_cheaper) (K := fun pc ls st g => none) rfl (fun e => by cases e) (by decide) (rcI_ok rfl) ?_ (co_X11_cheaper N q) lb_X11_cheaper 3000 0 S_X11_cheaper_0 _ _ h ls_X11_cheaper_0 hf
  intro pc ls st g e
  cases e
def f_X11_joins (N : Nat) (a0 : Nat) (x1 : Int32) (x2 : Int32) (h : mH) : Option (Int32 × mH) :=
  (gR h 11 a0 2).bind fun v1 =>
  (rcv h 0 v1).bind fun _ =>
  (f_X0_hasBand N v1 x1 h).bind fun p2 =>
  if p2.1 = 0 then
    (rcv p2.2 11 a0).bind fun _ =>
    (f_X11_refuse N a0 (jI (-2)) p2.2).bind fun p3 =>
    some (p3.1, p3.2)
  else
    (gR p2.2 11 a0 5).bind fun v4 =>
    (gR p2.2 11 a0 2).bind fun v5 =>
    (gI p2.2 0 v5 4).bind fun v6 =>
    (rcv p2.2 10 v4).bind fun _ =>
    (f_X10_joinsOf N v4 x1 v6 x2 p2.2).bind fun p7 =>
    some (p7.1, p7.2)
def y_X11_joins : mM := (yX11_joins, cX11_joins, 3, (some .int))
def B_X11_joins : List (Nat × List mI) := [(18, [(.aload_n 0, 1, [0], []), (.getfield 35, 3, [11, 5, 2, 114], []), (.iload_n 1, 1, [1], []), (.aload_n 0, 1, [0], []), (.getfield 16, 3, [11, 2, 2, 111], []), (.getfield 180, 3, [0, 4, 0, 16], []), (.iload_n 2, 1, [2], []), (.invokevirtual 282, 3, [0, 143, 3, 10, 163], []), (.ireturn, 1, [], [])])]
def S_X11_joins_0 : List mI := [(.aload_n 0, 1, [0], []), (.getfield 16, 3, [11, 2, 2, 111], []), (.iload_n 1, 1, [1], []), (.invokevirtual 150, 3, [0, 4, 1, 0, 46], []), (.ifCond .ne 10, 3, [18], []), (.aload_n 0, 1, [0], []), (.bipush (-2), 2, [], [-2]), (.invokevirtual 109, 3, [0, 203, 1, 11, 10], []), (.ireturn, 1, [], [])]
theorem lb_X11_joins : B_X11_joins.all (fun b => lst y_X11_joins.2.1 11 y_X11_joins.2.2.1 false b.1 b.2) = true := by decide +kernel
theorem ls_X11_joins_0 : lst y_X11_joins.2.1 11 y_X11_joins.2.2.1 false 0 S_X11_joins_0 = true := by decide +kernel
def C_X11_joins (N : Nat) : Nat → List Value → mH → (Option Value → mH → Option (Int32 × mH)) → Option (Int32 × mH) := fun j as g k => kb j 4 (pr1 as fun b0 as => pp1 as fun b1 as => pe as ((f_X0_hasBand N b0 b1 g).bind fun p => k (some (.int p.1)) p.2)) (kb j 203 (pr1 as fun b0 as => pp1 as fun b1 as => pe as ((f_X11_refuse N b0 b1 g).bind fun p => k (some (.int p.1)) p.2)) (kb j 143 (pr1 as fun b0 as => pp1 as fun b1 as => pp1 as fun b2 as => pp1 as fun b3 as => pe as ((f_X10_joinsOf N b0 b1 b2 b3 g).bind fun p => k (some (.int p.1)) p.2)) (none)))
theorem co_X11_joins (N : Nat) (q : Int32 × mH) : clOK 10 q (C_X11_joins N) := by
  intro j as g k e
  rcases kb_s e with ⟨rfl, e⟩ | e
  · obtain ⟨b0, r0, q0, f0⟩ := pr1_s e
    obtain ⟨b1, r1, q1, f1⟩ := pp1_s f0
    obtain ⟨qe, fe⟩ := pe_s f1
    obtain ⟨p, e1, e2⟩ := bnd_s fe
    subst qe
    subst q1
    subst q0
    exact ⟨_, _, _, _, 4, rfl, (by decide), m_X0_hasBand N e1, e2⟩
  rcases kb_s e with ⟨rfl, e⟩ | e
  · obtain ⟨b0, r0, q0, f0⟩ := pr1_s e
    obtain ⟨b1, r1, q1, f1⟩ := pp1_s f0
    obtain ⟨qe, fe⟩ := pe_s f1
    obtain ⟨p, e1, e2⟩ := bnd_s fe
    subst qe
    subst q1
    subst q0
    exact ⟨_, _, _, _, 4, rfl, (by decide), m_X11_refuse N e1, e2⟩
  rcases kb_s e with ⟨rfl, e⟩ | e
  · obtain ⟨b0, r0, q0, f0⟩ := pr1_s e
    obtain ⟨b1, r1, q1, f1⟩ := pp1_s f0
    obtain ⟨b2, r2, q2, f2⟩ := pp1_s f1
    obtain ⟨b3, r3, q3, f3⟩ := pp1_s f2
    obtain ⟨qe, fe⟩ := pe_s f3
    obtain ⟨p, e1, e2⟩ := bnd_s fe
    subst qe
    subst q3
    subst q2
    subst q1
    subst q0
    exact ⟨_, _, _, _, 9, rfl, (by decide), m_X10_joinsOf N e1, e2⟩
  cases e
set_option maxRecDepth 100000 in
theorem m_X11_joins (N : Nat) {a0 : Nat} {x1 : Int32} {x2 : Int32} {h : mH} {q : Int32 × mH} (hf : f_X11_joins N a0 x1 x2 h = some q) : MM y_X11_joins 10 [.ref a0, .int x1, .int x2] h (some (.int q.1)) q.2 := by
  refine MM.of (mFx (j := 178) rfl).2.2.2.1 (Nat.le_of_ble_eq_true rfl) (fun X => ?_)
  refine ev_ok (o := 11) (ini := false) (Cl := C_X11_joins N) (Rc := RcI) (B := B_X11_joins) (K := fun pc ls st g => none) rfl (fun e => by cases e) (by decide) (rcI_ok rfl) ?_ (co_X11_joins N q) lb_X11_joins 3000 0 S_X11_joins_0 _ _ h ls_X11_joins_0 hf
  intro pc ls st g e
  cases e
def L_X11_hide_54 (N : Nat) : Nat → Nat → Int32 → Int32 → Int32 → Int32 → Int32 → Int32 → mH → Option (Int32 × mH)
  | 0, _, _, _, _, _, _, _, _ => none
  | n + 1, a0, x1, x2, x3, x4, x5, x6, h =>
    if (jI 20) < x6 then
      if x2 = 0 then
        some (x3, h)
      else
        some (x4, h)
    else
      if x6 < x5 then
        (gR h 11 a0 5).bind fun v1 =>
        (rcv h 10 v1).bind fun _ =>
        (f_X10_joinsOf N v1 x1 x6 (jI 1) h).bind fun p2 =>
        if p2.1 < x4 then
          let w3 := iAdd x6 (jI 1)
          L_X11_hide_54 N n a0 x1 x2 x6 p2.1 x5 w3 p2.2
        else
          let w4 := iAdd x6 (jI 1)
          L_X11_hide_54 N n a0 x1 x2 x3 x4 x5 w4 p2.2
      else
        if x2 = 0 then
          some (x3, h)
        else
          some (x4, h)
def f_X11_hide (N : Nat) (a0 : Nat) (x1 : Int32) (x2 : Int32) (h : mH) : Option (Int32 × mH) :=
  (gR h 11 a0 2).bind fun v1 =>
  (rcv h 0 v1).bind fun _ =>
  (f_X0_hasBand N v1 x1 h).bind fun p2 =>
  if p2.1 = 0 then
    (rcv p2.2 11 a0).bind fun _ =>
    (f_X11_refuse N a0 (jI (-2)) p2.2).bind fun p3 =>
    some (p3.1, p3.2)
  else
    if x2 < 0 then
      (rcv p2.2 11 a0).bind fun _ =>
      (f_X11_refuse N a0 (jI (-2)) p2.2).bind fun p4 =>
      some (p4.1, p4.2)
    else
      if (jI 1) < x2 then
        (rcv p2.2 11 a0).bind fun _ =>
        (f_X11_refuse N a0 (jI (-2)) p2.2).bind fun p5 =>
        some (p5.1, p5.2)
      else
        (gR p2.2 11 a0 5).bind fun v6 =>
        (rcv p2.2 10 v6).bind fun _ =>
        (f_X10_joinsOf N v6 x1 (jI 0) (jI 1) p2.2).bind fun p7 =>
        (gR p7.2 11 a0 2).bind fun v8 =>
        (rcv p7.2 0 v8).bind fun _ =>
        (f_X0_longestRod N v8 x1 p7.2).bind fun p9 =>
        L_X11_hide_54 N N a0 x1 x2 (jI 0) p7.1 p9.1 (jI 1) p9.2
def y_X11_hide : mM := (yX11_hide, cX11_hide, 8, (some .int))
def B_X11_hide : List (Nat × List mI) := [(20, [(.aload_n 0, 1, [0], []), (.bipush (-2), 2, [], [-2]), (.invokevirtual 109, 3, [0, 203, 1, 11, 10], []), (.ireturn, 1, [], [])]), (27, [(.iconst 0, 1, [], [0]), (.istore_n 3, 1, [3], []), (.aload_n 0, 1, [0], []), (.getfield 35, 3, [11, 5, 2, 114], []), (.iload_n 1, 1, [1], []), (.iconst 0, 1, [], [0]), (.iconst 1, 1, [], [1]), (.invokevirtual 282, 3, [0, 143, 3, 10, 163], []), (.istore 4, 2, [4], []), (.aload_n 0, 1, [0], []), (.getfield 16, 3, [11, 2, 2, 111], []), (.iload_n 1, 1, [1], []), (.invokevirtual 285, 3, [0, 31, 1, 0, 167], []), (.istore 5, 2, [5], []), (.iconst 1, 1, [], [1]), (.istore 6, 2, [6], [])]), (95, [(.iinc 6 1, 3, [6], [1]), (.goto (-44), 3, [54], [])]), (101, [(.iload_n 2, 1, [2], []), (.ifCond .ne 7, 3, [109], []), (.iload_n 3, 1, [3], []), (.goto 5, 3, [111], [])]), (109, [(.iload 4, 2, [4], [])]), (111, [(.ireturn, 1, [], [])])]
def S_X11_hide_0 : List mI := [(.aload_n 0, 1, [0], []), (.getfield 16, 3, [11, 2, 2, 111], []), (.iload_n 1, 1, [1], []), (.invokevirtual 150, 3, [0, 4, 1, 0, 46], []), (.ifCond .eq 12, 3, [20], []), (.iload_n 2, 1, [2], []), (.ifCond .lt 8, 3, [20], []), (.iload_n 2, 1, [2], []), (.iconst 1, 1, [], [1]), (.if_icmp .le 10, 3, [27], [])]
def S_X11_hide_54 : List mI := [(.iload 6, 2, [6], []), (.bipush 20, 2, [], [20]), (.if_icmp .gt 43, 3, [101], []), (.iload 6, 2, [6], []), (.iload 5, 2, [5], []), (.if_icmp .ge 36, 3, [101], []), (.aload_n 0, 1, [0], []), (.getfield 35, 3, [11, 5, 2, 114], []), (.iload_n 1, 1, [1], []), (.iload 6, 2, [6], []), (.iconst 1, 1, [], [1]), (.invokevirtual 282, 3, [0, 143, 3, 10, 163], []), (.istore 7, 2, [7], []), (.iload 7, 2, [7], []), (.iload 4, 2, [4], []), (.if_icmp .ge 10, 3, [95], []), (.iload 7, 2, [7], []), (.istore 4, 2, [4], []), (.iload 6, 2, [6], []), (.istore_n 3, 1, [3], [])]
theorem lb_X11_hide : B_X11_hide.all (fun b => lst y_X11_hide.2.1 11 y_X11_hide.2.2.1 false b.1 b.2) = true := by decide +kernel
theorem ls_X11_hide_0 : lst y_X11_hide.2.1 11 y_X11_hide.2.2.1 false 0 S_X11_hide_0 = true := by decide +kernel
theorem ls_X11_hide_54 : lst y_X11_hide.2.1 11 y_X11_hide.2.2.1 false 54 S_X11_hide_54 = true := by decide +kernel
def C_X11_hide (N : Nat) : Nat → List Value → mH → (Option Value → mH → Option (Int32 × mH)) → Option (Int32 × mH) := fun j as g k => kb j 4 (pr1 as fun b0 as => pp1 as fun b1 as => pe as ((f_X0_hasBand N b0 b1 g).bind fun p => k (some (.int p.1)) p.2)) (kb j 203 (pr1 as fun b0 as => pp1 as fun b1 as => pe as ((f_X11_refuse N b0 b1 g).bind fun p => k (some (.int p.1)) p.2)) (kb j 143 (pr1 as fun b0 as => pp1 as fun b1 as => pp1 as fun b2 as => pp1 as fun b3 as => pe as ((f_X10_joinsOf N b0 b1 b2 b3 g).bind fun p => k (some (.int p.1)) p.2)) (kb j 31 (pr1 as fun b0 as => pp1 as fun b1 as => pe as ((f_X0_longestRod N b0 b1 g).bind fun p => k (some (.int p.1)) p.2)) (none))))
theorem co_X11_hide (N : Nat) (q : Int32 × mH) : clOK 10 q (C_X11_hide N) := by
  intro j as g k e
  rcases kb_s e with ⟨rfl, e⟩ | e
  · obtain ⟨b0, r0, q0, f0⟩ := pr1_s e
    obtain ⟨b1, r1, q1, f1⟩ := pp1_s f0
    obtain ⟨qe, fe⟩ := pe_s f1
    obtain ⟨p, e1, e2⟩ := bnd_s fe
    subst qe
    subst q1
    subst q0
    exact ⟨_, _, _, _, 4, rfl, (by decide), m_X0_hasBand N e1, e2⟩
  rcases kb_s e with ⟨rfl, e⟩ | e
  · obtain ⟨b0, r0, q0, f0⟩ := pr1_s e
    obtain ⟨b1, r1, q1, f1⟩ := pp1_s f0
    obtain ⟨qe, fe⟩ := pe_s f1
    obtain ⟨p, e1, e2⟩ := bnd_s fe
    subst qe
    subst q1
    subst q0
    exact ⟨_, _, _, _, 4, rfl, (by decide), m_X11_refuse N e1, e2⟩
  rcases kb_s e with ⟨rfl, e⟩ | e
  · obtain ⟨b0, r0, q0, f0⟩ := pr1_s e
    obtain ⟨b1, r1, q1, f1⟩ := pp1_s f0
    obtain ⟨b2, r2, q2, f2⟩ := pp1_s f1
    obtain ⟨b3, r3, q3, f3⟩ := pp1_s f2
    obtain ⟨qe, fe⟩ := pe_s f3
    obtain ⟨p, e1, e2⟩ := bnd_s fe
    subst qe
    subst q3
    subst q2
    subst q1
    subst q0
    exact ⟨_, _, _, _, 9, rfl, (by decide), m_X10_joinsOf N e1, e2⟩
  rcases kb_s e with ⟨rfl, e⟩ | e
  · obtain ⟨b0, r0, q0, f0⟩ := pr1_s e
    obtain ⟨b1, r1, q1, f1⟩ := pp1_s f0
    obtain ⟨qe, fe⟩ := pe_s f1
    obtain ⟨p, e1, e2⟩ := bnd_s fe
    subst qe
    subst q1
    subst q0
    exact ⟨_, _, _, _, 6, rfl, (by decide), m_X0_longestRod N e1, e2⟩
  cases e
set_option maxRecDepth 100000 in
theorem t_X11_hide_54 {X : Nat × (Nat → Int32)} (N : Nat) {q : Int32 × mH} : ∀ (n : Nat) (a0 : Nat) (x1 : Int32) (x2 : Int32) (x3 : Int32) (x4 : Int32) (x5 : Int32) (x6 : Int32) (h : mH), L_X11_hide_54 N n a0 x1 x2 x3 x4 x5 x6 h = some q → MW X y_X11_hide 10 54 [(0, .ref a0), (1, .int x1), (2, .int x2), (3, .int x3), (4, .int x4), (5, .int x5), (6, .int x6)] [] h (some (.int q.1)) q.2 := by
  intro n
  induction n with
  | zero => intro a0 x1 x2 x3 x4 x5 x6 h hf; cases hf
  | succ n ih =>
    intro a0 x1 x2 x3 x4 x5 x6 h hf
    refine ev_ok (o := 11) (ini := false) (Cl := C_X11_hide N) (Rc := RcI) (B := B_X11_hide) (K := fun pc ls st g => kb pc 54 (lgr 0 ls fun a0 => lgi 1 ls fun x1 => lgi 2 ls fun x2 => lgi 3 ls fun x3 => lgi 4 ls fun x4 => lgi 5 ls fun x5 => lgi 6 ls fun x6 => pe st (L_X11_hide_54 N n a0 x1 x2 x3 x4 x5 x6 g)) (none)) rfl (fun e => by cases e) (by decide) (rcI_ok rfl) ?_ (co_X11_hide N q) lb_X11_hide 3000 54 S_X11_hide_54 _ _ h ls_X11_hide_54 hf
    intro pc ls st g e
    rcases kb_s e with ⟨rfl, e⟩ | e
    · obtain ⟨a0, e0, f0⟩ := lgr_s e
      obtain ⟨x1, e1, f1⟩ := lgi_s f0
      obtain ⟨x2, e2, f2⟩ := lgi_s f1
      obtain ⟨x3, e3, f3⟩ := lgi_s f2
      obtain ⟨x4, e4, f4⟩ := lgi_s f3
      obtain ⟨x5, e5, f5⟩ := lgi_s f4
      obtain ⟨x6, e6, f6⟩ := lgi_s f5
      obtain ⟨qe, fe⟩ := pe_s f6
      subst qe
      exact MW.sub (List.forall_mem_cons.mpr ⟨lg_mem e0, List.forall_mem_cons.mpr ⟨lg_mem e1, List.forall_mem_cons.mpr ⟨lg_mem e2, List.forall_mem_cons.mpr ⟨lg_mem e3, List.forall_mem_cons.mpr ⟨lg_mem e4, List.forall_mem_cons.mpr ⟨lg_mem e5, List.forall_mem_cons.mpr ⟨lg_mem e6, fun _ h => absurd h List.not_mem_nil⟩⟩⟩⟩⟩⟩⟩) (ih a0 x1 x2 x3 x4 x5 x6 g fe)
    cases e
set_option maxRecDepth 100000 in
theorem m_X11_hide (N : Nat) {a0 : Nat} {x1 : Int32} {x2 : Int32} {h : mH} {q : Int32 × mH} (hf : f_X11_hide N a0 x1 x2 h = some q) : MM y_X11_hide 10 [.ref a0, .int x1, .int x2] h (some (.int q.1)) q.2 := by
  refine MM.of (mFx (j := 179) rfl).2.2.2.1 (Nat.le_of_ble_eq_true rfl) (fun X => ?_)
  refine ev_ok (o := 11) (ini := false) (Cl := C_X11_hide N) (Rc := RcI) (B := B_X11_hide) (K := fun pc ls st g => kb pc 54 (lgr 0 ls fun a0 => lgi 1 ls fun x1 => lgi 2 ls fun x2 => lgi 3 ls fun x3 => lgi 4 ls fun x4 => lgi 5 ls fun x5 => lgi 6 ls fun x6 => pe st (L_X11_hide_54 N N a0 x1 x2 x3 x4 x5 x6 g)) (none)) rfl (fun e => by cases e) (by decide) (rcI_ok rfl) ?_ (co_X11_hide N q) lb_X11_hide 3000 0 S_X11_hide_0 _ _ h ls_X11_hide_0 hf
  intro pc ls st g e
  rcases kb_s e with ⟨rfl, e⟩ | e
  · obtain ⟨a0, e0, f0⟩ := lgr_s e
    obtain ⟨x1, e1, f1⟩ := lgi_s f0
    obtain ⟨x2, e2, f2⟩ := lgi_s f1
    obtain ⟨x3, e3, f3⟩ := lgi_s f2
    obtain ⟨x4, e4, f4⟩ := lgi_s f3
    obtain ⟨x5, e5, f5⟩ := lgi_s f4
    obtain ⟨x6, e6, f6⟩ := lgi_s f5
    obtain ⟨qe, fe⟩ := pe_s f6
    subst qe
    exact MW.sub (List.forall_mem_cons.mpr ⟨lg_mem e0, List.forall_mem_cons.mpr ⟨lg_mem e1, List.forall_mem_cons.mpr ⟨lg_mem e2, List.forall_mem_cons.mpr ⟨lg_mem e3, List.forall_mem_cons.mpr ⟨lg_mem e4, List.forall_mem_cons.mpr ⟨lg_mem e5, List.forall_mem_cons.mpr ⟨lg_mem e6, fun _ h => absurd h List.not_mem_nil⟩⟩⟩⟩⟩⟩⟩) (t_X11_hide_54 N N a0 x1 x2 x3 x4 x5 x6 g fe)
  cases e
def f_X11_isRow (N : Nat) (a0 : Nat) (x1 : Int32) (h : mH) : Option (Int32 × mH) :=
  if x1 < 0 then
    some (jI 0, h)
  else
    (gR h 11 a0 10).bind fun v1 =>
    (lnA h v1).bind fun v2 =>
    if x1 < v2 then
      some (jI 1, h)
    else
      some (jI 0, h)
def y_X11_isRow : mM := (yX11_isRow, cX11_isRow, 2, (some .boolean))
def B_X11_isRow : List (Nat × List mI) := [(17, [(.iconst 0, 1, [], [0])]), (18, [(.ireturn, 1, [], [])])]
def S_X11_isRow_0 : List mI := [(.iload_n 1, 1, [1], []), (.ifCond .lt 16, 3, [17], []), (.iload_n 1, 1, [1], []), (.aload_n 0, 1, [0], []), (.getfield 66, 3, [11, 10, 2, 119], []), (.arraylength, 1, [0], []), (.if_icmp .ge 7, 3, [17], []), (.iconst 1, 1, [], [1]), (.goto 4, 3, [18], [])]
theorem lb_X11_isRow : B_X11_isRow.all (fun b => lst y_X11_isRow.2.1 11 y_X11_isRow.2.2.1 false b.1 b.2) = true := by decide +kernel
theorem ls_X11_isRow_0 : lst y_X11_isRow.2.1 11 y_X11_isRow.2.2.1 false 0 S_X11_isRow_0 = true := by decide +kernel
def C_X11_isRow (N : Nat) : Nat → List Value → mH → (Option Value → mH → Option (Int32 × mH)) → Option (Int32 × mH) := fun j as g k => none
theorem co_X11_isRow (N : Nat) (q : Int32 × mH) : clOK 4 q (C_X11_isRow N) := by
  intro j as g k e
  cases e
set_option maxRecDepth 100000 in
theorem m_X11_isRow (N : Nat) {a0 : Nat} {x1 : Int32} {h : mH} {q : Int32 × mH} (hf : f_X11_isRow N a0 x1 h = some q) : MM y_X11_isRow 4 [.ref a0, .int x1] h (some (.int q.1)) q.2 := by
  refine MM.of (mFx (j := 206) rfl).2.2.2.1 (Nat.le_of_ble_eq_true rfl) (fun X => ?_)
  refine ev_ok (o := 11) (ini := false) (Cl := C_X11_isRow N) (Rc := RcZ) (B := B_X11_isRow) (K := fun pc ls st g => none) rfl (fun e => by cases e) (by decide) (rcZ_ok rfl) ?_ (co_X11_isRow N q) lb_X11_isRow 3000 0 S_X11_isRow_0 _ _ h ls_X11_isRow_0 hf
  intro pc ls st g e
  cases e
