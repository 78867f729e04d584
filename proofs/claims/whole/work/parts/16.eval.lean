/-! THE EVALUATOR: what a piece of bytecode does, as a term; an instruction: itself, its length, numbers that it goes with (a local's place, a target, a link's place ..), whole numbers -/
abbrev mI : Type := Instr × Nat × List Nat × List Int
section
variable {ρ : Type}
def x1 (ex : List Nat) (k : Nat → Option ρ) : Option ρ := match ex with
  | [a] => k a
  | _ => none
def x2 (ex : List Nat) (k : Nat → Nat → Option ρ) : Option ρ := match ex with
  | [a, b] => k a b
  | _ => none
def x3 (ex : List Nat) (k : Nat → Nat → Nat → Option ρ) : Option ρ := match ex with
  | [a, b, c] => k a b c
  | _ => none
def x4 (ex : List Nat) (k : Nat → Nat → Nat → Nat → Option ρ) : Option ρ := match ex with
  | [a, b, c, d] => k a b c d
  | _ => none
def z1 (cs : List Int) (k : Int → Option ρ) : Option ρ := match cs with
  | [a] => k a
  | _ => none
def lgi (j : Nat) (ls : mL) (k : Int32 → Option ρ) : Option ρ := match lg j ls with
  | some (.int x) => k x
  | _ => none
def lgl_ (j : Nat) (ls : mL) (k : Int64 → Option ρ) : Option ρ := match lg j ls with
  | some (.long x) => k x
  | _ => none
def lga (j : Nat) (ls : mL) (k : Value → Option ρ) : Option ρ := match lg j ls with
  | some v => bif rfV v then k v else none
  | _ => none
def prf (st : List Value) (k : Value → List Value → Option ρ) : Option ρ := match st with
  | v :: r => bif rfV v then k v r else none
  | _ => none
def prl (st : List Value) (k : Nat → Int64 → List Value → Option ρ) : Option ρ := match st with
  | .long x :: .ref a :: r => k a x r
  | _ => none
def prr (st : List Value) (k : Nat → Nat → List Value → Option ρ) : Option ρ := match st with
  | .ref x :: .ref a :: r => k a x r
  | _ => none
def pxi (st : List Value) (k : Int32 → List Value → Option ρ) : Option ρ := match st with
  | .int i :: .retAddr 0 :: r => k i r
  | _ => none
def px (st : List Value) (k : List Value → Option ρ) : Option ρ := match st with
  | .retAddr 0 :: r => k r
  | _ => none
def psu (st : List Value) (k : UInt32 → List Value → Option ρ) : Option ρ := match st with
  | .float u :: r => k u r
  | _ => none
def psui (st : List Value) (k : UInt32 → Int32 → List Value → Option ρ) : Option ρ := match st with
  | .int x :: .float u :: r => k u x r
  | _ => none
def rmc (st : List Value) (e : Option ρ) : Option ρ := bif Nat.ble ((st.map fun v => v.category).sum) 8 then e else none
def spl (n : Nat) (st : List Value) (k : List Value → List Value → Option ρ) : Option ρ := bif Nat.ble n st.length then k (st.take n).reverse (st.drop n) else none
def xld (X : Nat × (Nat → Int32)) (i : Int32) : Option Int32 := if ¬ (i < 0 ∨ X.1 ≤ i.toNatClampNeg) then some (X.2 i.toNatClampNeg) else none
def sLn (u : UInt32) : Option Int32 := if u.toNat < 18 then some (sLen u) else none
def sx (X : Nat × (Nat → Int32)) (i : Instr) (ex : List Nat) (cs : List Int) (ls : mL) (st : List Value) (h : mH) (k : mL → List Value → mH → Option ρ) : Option ρ := match i with
  | .iconst _ => z1 cs fun c => k ls (.int (jI c) :: st) h
  | .bipush _ => z1 cs fun c => k ls (.int (jI c) :: st) h
  | .sipush _ => z1 cs fun c => k ls (.int (jI c) :: st) h
  | .lconst _ => z1 cs fun c => k ls (.long (jL c) :: st) h
  | .ldc _ => x2 ex fun t j => match t with
    | 0 => z1 cs fun c => k ls (.int (jI c) :: st) h
    | _ => k ls (.float (UInt32.ofNat j) :: st) h
  | .ldc_w _ => z1 cs fun c => k ls (.int (jI c) :: st) h
  | .ldc2_w _ => z1 cs fun c => k ls (.long (jL c) :: st) h
  | .iload _ => x1 ex fun j => lgi j ls fun x => k ls (.int x :: st) h
  | .iload_n _ => x1 ex fun j => lgi j ls fun x => k ls (.int x :: st) h
  | .lload _ => x1 ex fun j => lgl_ j ls fun x => k ls (.long x :: st) h
  | .lload_n _ => x1 ex fun j => lgl_ j ls fun x => k ls (.long x :: st) h
  | .aload _ => x1 ex fun j => lga j ls fun v => k ls (v :: st) h
  | .aload_n _ => x1 ex fun j => lga j ls fun v => k ls (v :: st) h
  | .istore _ => x1 ex fun j => pp1 st fun x r => k ((j, .int x) :: lF1 j ls) r h
  | .istore_n _ => x1 ex fun j => pp1 st fun x r => k ((j, .int x) :: lF1 j ls) r h
  | .lstore _ => x1 ex fun j => pl1 st fun x r => k ((j, .long x) :: lF2 j ls) r h
  | .lstore_n _ => x1 ex fun j => pl1 st fun x r => k ((j, .long x) :: lF2 j ls) r h
  | .astore _ => x1 ex fun j => prf st fun v r => k ((j, v) :: lF1 j ls) r h
  | .astore_n _ => x1 ex fun j => prf st fun v r => k ((j, v) :: lF1 j ls) r h
  | .iinc _ _ => x1 ex fun j => z1 cs fun c => lgi j ls fun x => k ((j, .int (iAdd x (jI c))) :: lF1 j ls) st h
  | .iadd => pp2 st fun a b r => k ls (.int (iAdd a b) :: r) h
  | .isub => pp2 st fun a b r => k ls (.int (iSub a b) :: r) h
  | .imul => pp2 st fun a b r => k ls (.int (iMul a b) :: r) h
  | .iand => pp2 st fun a b r => k ls (.int (iAnd a b) :: r) h
  | .ior => pp2 st fun a b r => k ls (.int (iOr a b) :: r) h
  | .ixor => pp2 st fun a b r => k ls (.int (iXor a b) :: r) h
  | .ishl => pp2 st fun a b r => k ls (.int (iShl a b) :: r) h
  | .ishr => pp2 st fun a b r => k ls (.int (iShr a b) :: r) h
  | .iushr => pp2 st fun a b r => k ls (.int (iUsr a b) :: r) h
  | .idiv => pp2 st fun a b r => if b = 0 then none else k ls (.int (iDiv a b) :: r) h
  | .irem => pp2 st fun a b r => if b = 0 then none else k ls (.int (iRem a b) :: r) h
  | .ineg => pp1 st fun a r => k ls (.int (iNeg a) :: r) h
  | .ladd => pl2 st fun a b r => k ls (.long (lAdd a b) :: r) h
  | .lsub => pl2 st fun a b r => k ls (.long (lSub a b) :: r) h
  | .lmul => pl2 st fun a b r => k ls (.long (lMul a b) :: r) h
  | .land => pl2 st fun a b r => k ls (.long (lAnd a b) :: r) h
  | .lor => pl2 st fun a b r => k ls (.long (lOr a b) :: r) h
  | .lshl => pli st fun a b r => k ls (.long (lShl a b) :: r) h
  | .lshr => pli st fun a b r => k ls (.long (lShr a b) :: r) h
  | .lushr => pli st fun a b r => k ls (.long (lUsr a b) :: r) h
  | .i2l => pp1 st fun a r => k ls (.long a.toInt64 :: r) h
  | .l2i => pl1 st fun a r => k ls (.int a.toInt32 :: r) h
  | .i2b => pp1 st fun a r => k ls (.int (iByt a) :: r) h
  | .i2s => pp1 st fun a r => k ls (.int (iSho a) :: r) h
  | .dup => pv1 st fun v r => k ls (v :: v :: r) h
  | .pop => pv1 st fun _ r => k ls r h
  | .dup2 => pv2 st fun v u r => k ls (v :: u :: v :: u :: r) h
  | .pop2 => pl1 st fun _ r => k ls r h
  | .getfield _ => x4 ex fun ci kf kd _ => pr1 st fun a r => match kd with
    | 0 => (gI h ci a kf).bind fun x => k ls (.int x :: r) h
    | 1 => (gL h ci a kf).bind fun x => k ls (.long x :: r) h
    | _ => (gR h ci a kf).bind fun x => k ls (.ref x :: r) h
  | .putfield _ => x4 ex fun ci kf kd _ => match kd with
    | 0 => pri st fun a x r => (pV h ci a kf (.int x)).bind fun h1 => k ls r h1
    | 1 => prl st fun a x r => (pV h ci a kf (.long x)).bind fun h1 => k ls r h1
    | 2 => prr st fun a x r => (pV h ci a kf (.ref x)).bind fun h1 => k ls r h1
    | _ => pri st fun a x r => if x &&& 1 = x then (pV h ci a kf (.int x)).bind fun h1 => k ls r h1 else none
  | .arraylength => x1 ex fun t => match t with
    | 0 => pr1 st fun a r => (lnA h a).bind fun x => k ls (.int x :: r) h
    | _ => px st fun r => k ls (.int (Int32.ofNat X.1) :: r) h
  | .iaload => x1 ex fun t => match t with
    | 0 => pri st fun a i r => (ldI 0 h a i).bind fun x => k ls (.int x :: r) h
    | _ => pxi st fun i r => (xld X i).bind fun x => k ls (.int x :: r) h
  | .baload => x1 ex fun t => pri st fun a i r => (ldI t h a i).bind fun x => k ls (.int x :: r) h
  | .laload => pri st fun a i r => (ldL h a i).bind fun x => k ls (.long x :: r) h
  | .aaload => x1 ex fun t => pri st fun a i r => (ldR t h a i).bind fun x => k ls (.ref x :: r) h
  | .iastore => prii st fun a i x r => (stI 0 h a i x).bind fun h1 => k ls r h1
  | .bastore => x1 ex fun t => prii st fun a i x r => (stI t h a i x).bind fun h1 => k ls r h1
  | .lastore => pril st fun a i x r => (stL h a i x).bind fun h1 => k ls r h1
  | .aastore => x2 ex fun t ci => prir st fun a i x r => (stR t ci h a i x).bind fun h1 => k ls r h1
  | .new _ => x2 ex fun ci _ => k ls (.ref h.1 :: st) (nwO h ci)
  | .newarray _ => x1 ex fun t => pp1 st fun n r => (nwA h t n).bind fun h1 => k ls (.ref h.1 :: r) h1
  | .anewarray _ => x3 ex fun t _ _ => pp1 st fun n r => (nwA h t n).bind fun h1 => k ls (.ref h.1 :: r) h1
  | _ => none
/-- calls: 0 virtual, 1 static, 2 a constructor, 3 and 4 those of a nest mate; 5 and on the JDK's own -/
def iv (Cl : Nat → List Value → mH → (Option Value → mH → Option ρ) → Option ρ) (ex : List Nat) (st : List Value) (h : mH) (k : List Value → mH → Option ρ) : Option ρ := match ex with
  | kd :: j :: n :: ci :: _ => match kd with
    | 0 => spl n st fun as r0 => pr1 r0 fun a r => rmc r ((rcv h ci a).bind fun _ => Cl j (.ref a :: as) h fun v h1 => k (vl v r) h1)
    | 1 => spl n st fun as r => rmc r (Cl j as h fun v h1 => k (vl v r) h1)
    | 2 => spl n st fun as r0 => pr1 r0 fun a r => rmc r (Cl j (.ref a :: as) h fun v h1 => match v with
      | none => k r h1
      | some _ => none)
    | 3 => spl n st fun as r => rmc r (Cl j as h fun v h1 => k (vl v r) h1)
    | 4 => spl n st fun as r0 => pr1 r0 fun a r => rmc r (Cl j (.ref a :: as) h fun v h1 => match v with
      | none => k r h1
      | some _ => none)
    | 5 => pr1 st fun _ r => rmc r (k r h)
    | 6 => pp2 st fun a b r => rmc r (k (.int (iMax a b) :: r) h)
    | 7 => pp2 st fun a b r => rmc r (k (.int (iMin a b) :: r) h)
    | 8 => pp1 st fun a r => rmc r (k (.int (iAbs a) :: r) h)
    | 9 => pl2 st fun a b r => rmc r (k (.long (lMin a b) :: r) h)
    | 10 => pcpy st fun a0 sp a dp n r => rmc r ((cpI h a0 sp a dp n).bind fun h1 => k r h1)
    | 11 => psu st fun u r => rmc r ((sLn u).bind fun x => k (.int x :: r) h)
    | 12 => psui st fun u i r => rmc r ((sChr u i).bind fun x => k (.int x :: r) h)
    | _ => none
  | _ => none
def bk (pc : Nat) : List (Nat × List mI) → Option (List mI)
  | [] => none
  | (p, is) :: r => bif Nat.beq p pc then some is else bk pc r
def sws (x : Int32) : List Int → List Nat → Nat → (Nat → Option ρ) → Option ρ
  | c :: cs, t :: ts, d, k => if x = jI c then k t else sws x cs ts d k
  | _, _, d, k => k d
def cmi (cd : ClassFile.Cond) (a b : Int32) (t f : Option ρ) : Option ρ := match cd with
  | .eq => if a = b then t else f
  | .ne => if a = b then f else t
  | .lt => if a < b then t else f
  | .ge => if a < b then f else t
  | .gt => if b < a then t else f
  | .le => if b < a then f else t
def cml (cd : ClassFile.Cond) (a b : Int64) (t f : Option ρ) : Option ρ := match cd with
  | .eq => if a = b then t else f
  | .ne => if a = b then f else t
  | .lt => if a < b then t else f
  | .ge => if a < b then f else t
  | .gt => if b < a then t else f
  | .le => if b < a then f else t
def ev (X : Nat × (Nat → Int32)) (Cl : Nat → List Value → mH → (Option Value → mH → Option ρ) → Option ρ) (Rc : Option Value → mH → Option ρ) (K : Nat → mL → List Value → mH → Option ρ) (B : List (Nat × List mI)) : Nat → Nat → List mI → mL → List Value → mH → Option ρ
  | 0, _, _, _, _, _ => none
  | n + 1, pc, [], ls, st, h => match bk pc B with
    | some is => ev X Cl Rc K B n pc is ls st h
    | none => K pc ls st h
  | n + 1, pc, (i, len, ex, cs) :: is, ls, st, h => match i with
    | .goto _ => x1 ex fun t => ev X Cl Rc K B n t [] ls st h
    | .if_icmp cd _ => x1 ex fun t => pp2 st fun a b r => cmi cd a b (ev X Cl Rc K B n t [] ls r h) (ev X Cl Rc K B n (pc + 3) is ls r h)
    | .ifCond cd _ => x1 ex fun t => pp1 st fun a r => cmi cd a 0 (ev X Cl Rc K B n t [] ls r h) (ev X Cl Rc K B n (pc + 3) is ls r h)
    | .lcmp => match is with
      | (.ifCond cd _, _, ex2, _) :: is2 => x1 ex2 fun t => pl2 st fun a b r => cml cd a b (ev X Cl Rc K B n t [] ls r h) (ev X Cl Rc K B n (pc + 4) is2 ls r h)
      | _ => none
    | .tableswitch _ _ _ _ => match ex with
      | d :: ts => pp1 st fun x r => sws x cs ts d fun t => ev X Cl Rc K B n t [] ls r h
      | _ => none
    | .lookupswitch _ _ => match ex with
      | d :: ts => pp1 st fun x r => sws x cs ts d fun t => ev X Cl Rc K B n t [] ls r h
      | _ => none
    | .ireturn => match st with
      | [.int x] => Rc (some (.int x)) h
      | _ => none
    | .lreturn => match st with
      | [.long x] => Rc (some (.long x)) h
      | _ => none
    | .return_ => match st with
      | [] => Rc none h
      | _ => none
    | .invokevirtual _ => iv Cl ex st h fun st1 h1 => ev X Cl Rc K B n (pc + 3) is ls st1 h1
    | .invokestatic _ => iv Cl ex st h fun st1 h1 => ev X Cl Rc K B n (pc + 3) is ls st1 h1
    | .invokespecial _ => iv Cl ex st h fun st1 h1 => ev X Cl Rc K B n (pc + 3) is ls st1 h1
    | _ => sx X i ex cs ls st h fun ls1 st1 h1 => ev X Cl Rc K B n (pc + len) is ls1 st1 h1
end
