/-! calls: feed, image, restore -/
/-- a byte of an int -/
def un (x : Int32) : Nat := x.toBitVec.toNat
theorem un_lt (x : Int32) : un x < 4294967296 := x.toBitVec.isLt
theorem ib_un (x : Int32) (k : Nat) : ib x k = (un x).testBit k := rfl
def byt (x : Int32) (s : Nat) : Nat := un x / 2 ^ s % 256
theorem byt_lt (x : Int32) (s : Nat) : byt x s < 256 := Nat.mod_lt _ (by omega)
theorem jI_un (x : Int32) : x = jI (un x) := by
  apply ib_ext
  intro k hk
  rw [ib_n, ib_un]
  simp [hk]
theorem ib_shr (x : Int32) {s : Nat} (h1 : s < 32) {k : Nat} (hk : s + k < 32) : ib (iShr x (jI s)) k = ib x (s + k) := by
  unfold ib iShr
  show (x.toBitVec.sshiftRight' ((jI s &&& 31).toBitVec.smod 32)).getLsbD k = _
  rw [(sh5 s h1).1, BitVec.sshiftRight_eq', BitVec.toNat_ofNat, Nat.mod_eq_of_lt (by omega), BitVec.getLsbD_sshiftRight]
  simp [show ¬ 32 ≤ k by omega, hk]
theorem bytM (x : Int32) {s : Nat} (h : s ≤ 24) : iAnd (iShr x (jI s)) (jI 255) = jI (byt x s) := by
  apply ib_ext
  intro k hk
  have e255 : ib (jI 255) k = decide (k < 8) := by
    have := ib_n 255 k
    rw [show ((255 : Nat) : Int) = 255 from rfl] at this
    rw [this, show (255 : Nat) = 2 ^ 8 - 1 from rfl, Nat.testBit_two_pow_sub_one]
    simp [hk]
  rw [ib_and, e255, ib_n]
  unfold byt
  rw [show (256 : Nat) = 2 ^ 8 from rfl, Nat.testBit_mod_two_pow, Nat.testBit_div_two_pow]
  by_cases c : k < 8
  · rw [ib_shr x (by omega) (by omega), ib_un]
    simp [c, hk, Nat.add_comm]
  · simp [c]
theorem iByt_j (n : Nat) : iByt (jI n) = jI (i8 ((n % 256 : Nat) : Int)) := by
  apply Int32.toInt_inj.mp
  unfold iByt
  rw [Int8.toInt_toInt32, Int32.toInt_toInt8]
  have e : (jI (n : Int)).toInt = ((n : Int)).bmod (2 ^ 32) := by unfold jI; rw [Int32.toInt_ofInt]
  rw [e, Int.bmod_bmod_of_dvd (by decide)]
  have r : (n % 256 : Nat) < 256 := Nat.mod_lt _ (by omega)
  have b : (n : Int).bmod (2 ^ 8) = i8 ((n % 256 : Nat) : Int) := by
    unfold i8
    rw [Int.bmod_def]
    simp only [Int.natCast_emod]
    split <;> split <;> omega
  rw [b, jI_toInt]
  · unfold i8; split <;> omega
  · unfold i8; split <;> omega
theorem bytC (x : Int32) {s : Nat} (h : s < 32) : iByt (iUsr x (jI s)) = jI (i8 (byt x s)) := by
  have u := iUsr_n (n := un x) (un_lt x) (s := s) h
  rw [← jI_un] at u
  rw [u, iByt_j]
  rfl
theorem i8_r {v : Int} (h0 : 0 ≤ v) (h1 : v < 256) : -128 ≤ i8 v ∧ i8 v < 128 := by unfold i8; split <;> omega
theorem nar2 {v : Int} (h0 : -128 ≤ v) (h1 : v < 128) : narB 2 (jI v) = jI v := by
  show (jI v).toInt8.toInt32 = jI v
  apply Int32.toInt_inj.mp
  rw [Int8.toInt_toInt32, Int32.toInt_toInt8, jI_toInt (by omega) (by omega), Int.bmod_def]
  split <;> omega
section
variable {K1 K2 : (Int → Int) → (Int → Int) → Prop} {q : Nat × Nat × (Nat → Nat)} {G : Nat → Int → Int} {N : Nat}
/-- where the tape may have grown by four -/
def TG (G G' : Nat → Int → Int) (t : Int) (b : Int → Int) (n : Int) : Prop := (∀ a, a ≠ 0 → a ≠ 1 → G' a = G a) ∧ (∀ i, i ≠ 1 → G' 0 i = G 0 i) ∧ G' 0 1 = t + n ∧ (∀ i, t ≤ i → i < t + n → G' 1 i = b (i - t)) ∧ (∀ i, (i < t ∨ t + n ≤ i) → G' 1 i = G 1 i)
theorem oPutB (hN : 10000 ≤ N) {x : Int32} {t : Int} (ht : G 0 1 = t) (t0 : 0 ≤ t) (t1 : t + 4 ≤ 500) : ∃ G', TG G G' t (fun i => i8 (byt x (24 - 8 * i.toNat))) 4 ∧ f_X11_putBytes N 0 x (hp q G) = some (hp q G') := by
  unfold f_X11_putBytes
  refine loopG (N := N) (fun m (s : Int × (Nat → Int → Int)) => L_X11_putBytes_3 N m 0 x (jI s.1) (hp q s.2)) (fun k s => s.1 = 24 - 8 * (k : Int) ∧ TG G s.2 t (fun i => i8 (byt x (24 - 8 * i.toNat))) k) 4 (by omega) (s := (24, G)) ⟨rfl, fun _ _ _ => rfl, fun _ _ => rfl, by show G 0 1 = t + ((0 : Nat) : Int); rw [ht]; omega, fun i i0 i1 => by omega, fun i i1 => rfl⟩ ?_ ?_
  · rintro m k ⟨z, G1⟩ hk ⟨rfl, g1, g2, g3, g4, g5⟩
    simp only at g1 g2 g3 g4 g5
    have bl := byt_lt x (24 - 8 * k)
    have r8 := i8_r (v := (byt x (24 - 8 * k) : Int)) (by omega) (by omega)
    have sc := bytC x (s := 24 - 8 * k) (by omega)
    rw [show ((24 - 8 * k : Nat) : Int) = 24 - 8 * (k : Int) by omega] at sc
    have st := s1 (q := q) (G := G1) (i := t + k) (v := i8 (byt x (24 - 8 * k))) (nar2 r8.1 r8.2) (by omega) (by omega)
    have w0' := w0 q (up G1 1 (t + k) (i8 (byt x (24 - 8 * k)))) (t + k + 1)
    have z0 : up G1 1 (t + k) (i8 (byt x (24 - 8 * k))) 0 1 = t + k := by rw [up_ne (by decide)]; exact g3
    refine ⟨(24 - 8 * ((k + 1 : Nat) : Int), up (up G1 1 (t + k) (i8 (byt x (24 - 8 * k)))) 0 1 (t + k + 1)), ⟨rfl, ?_, ?_, ?_, ?_, ?_⟩, ?_⟩
    · intro a a0 a1
      (try dsimp only)
      rw [up_ne a0, up_ne a1]
      exact g1 a a0 a1
    · intro i hi
      (try dsimp only)
      rw [up_eq, u1_ne hi, up_ne (by decide)]
      exact g2 i hi
    · dsimp only
      rw [up_eq, u1_eq]
      omega
    · intro i i0 i1
      (try dsimp only)
      rw [up_ne (by decide), up_eq]
      by_cases d : i = t + k
      · rw [d, u1_eq, show t + (k : Int) - t = k by omega, Int.toNat_natCast]
      · rw [u1_ne d]
        exact g4 i i0 (by omega)
    · intro i hi
      (try dsimp only)
      rw [up_ne (by decide), up_eq, u1_ne (by omega)]
      exact g5 i (by omega)
    · show L_X11_putBytes_3 N (m + 1) 0 x (jI (24 - 8 * (k : Int))) (hp q G1) = L_X11_putBytes_3 N m 0 x (jI (24 - 8 * ((k + 1 : Nat) : Int))) (hp q _)
      rw [L_X11_putBytes_3]
      simp (maxSteps := 2000000) (disch := first | assumption | omega) only [jI0, iAdd_j, iSub_j, iMul_j, iNeg_j, Option.bind_some, jlt_t, jlt_f, jlt, jle_t, jle_f, jle, jeq_t, jeq_f, jeq, ↓reduceIte, o0, n1, g3, sc, st, z0, w0']
      congr 2
      omega
  · rintro m ⟨z, G1⟩ ⟨rfl, h⟩
    refine ⟨G1, h, ?_⟩
    show L_X11_putBytes_3 N (m + 1) 0 x (jI (24 - 8 * ((4 : Nat) : Int))) (hp q G1) = _
    rw [L_X11_putBytes_3]
    simp (maxSteps := 2000000) (disch := first | assumption | omega) only [jI0, iAdd_j, iSub_j, iMul_j, iNeg_j, Option.bind_some, jlt_t, jlt_f, jlt, jle_t, jle_f, jle, jeq_t, jeq_f, jeq, ↓reduceIte]
/-- the five ints, one of them -/
def arg5 (a b c d e : Int32) (i : Int) : Int32 := if i < 4 then a else if i < 8 then b else if i < 12 then c else if i < 16 then d else e
def by5 (a b c d e : Int32) (i : Int) : Nat := byt (arg5 a b c d e i) (24 - 8 * (i.toNat % 4))
theorem by5_lt (a b c d e : Int32) (i : Int) : by5 a b c d e i < 256 := byt_lt _ _
theorem op_feed (hN : 10000 ≤ N) (hI : INV K1 K2 q G) (a b c d e : Int32) : OP K1 K2 q G (f_X11_feed N 0 a b c d e) (f_X12_feed N 100 a b c d e) := by
  have hB := hI.1.1; have hV := hB.1; have hT := hI.1.2.1; have g := hV.1
  obtain ⟨e01, t0, t1, tb⟩ := hI.1.2.2.2.2.2.2.2.1
  generalize ht : G 100 6 = t at e01 t0 t1 tb
  by_cases c1 : t + 20 ≤ 500
  · obtain ⟨G1, h1, q1⟩ := oPutB (q := q) (N := N) (G := G) hN (x := a) e01 t0 (by omega)
    obtain ⟨G2, h2, q2⟩ := oPutB (q := q) (N := N) (G := G1) hN (x := b) h1.2.2.1 (by omega) (by omega)
    obtain ⟨G3, h3, q3⟩ := oPutB (q := q) (N := N) (G := G2) hN (x := c) h2.2.2.1 (by omega) (by omega)
    obtain ⟨G4, h4, q4⟩ := oPutB (q := q) (N := N) (G := G3) hN (x := d) h3.2.2.1 (by omega) (by omega)
    obtain ⟨G5, h5, q5⟩ := oPutB (q := q) (N := N) (G := G4) hN (x := e) h4.2.2.1 (by omega) (by omega)
    have A5 : ∀ x, x ≠ 0 → x ≠ 1 → G5 x = G x := fun x x0 x1 => by rw [h5.1 x x0 x1, h4.1 x x0 x1, h3.1 x x0 x1, h2.1 x x0 x1, h1.1 x x0 x1]
    have L5 : G5 0 1 = t + 20 := by rw [h5.2.2.1]; omega
    have B5 : ∀ k : Int, 0 ≤ k → k < 20 → G5 1 (t + k) = i8 (by5 a b c d e k) := by
      intro k k0 k1
      unfold by5 arg5
      by_cases c4 : k < 4
      · rw [h5.2.2.2.2 _ (by omega), h4.2.2.2.2 _ (by omega), h3.2.2.2.2 _ (by omega), h2.2.2.2.2 _ (by omega), h1.2.2.2.1 _ (by omega) (by omega), if_pos c4]
        rw [show t + k - t = k by omega, show k.toNat % 4 = k.toNat by omega]
      · by_cases c8 : k < 8
        · rw [h5.2.2.2.2 _ (by omega), h4.2.2.2.2 _ (by omega), h3.2.2.2.2 _ (by omega), h2.2.2.2.1 _ (by omega) (by omega), if_neg c4, if_pos c8]
          show i8 (byt b (24 - 8 * (t + k - (t + 4)).toNat)) = _
          rw [show (t + k - (t + 4)).toNat = k.toNat % 4 by omega]
        · by_cases c12 : k < 12
          · rw [h5.2.2.2.2 _ (by omega), h4.2.2.2.2 _ (by omega), h3.2.2.2.1 _ (by omega) (by omega), if_neg c4, if_neg c8, if_pos c12]
            show i8 (byt c (24 - 8 * (t + k - (t + 4 + 4)).toNat)) = _
            rw [show (t + k - (t + 4 + 4)).toNat = k.toNat % 4 by omega]
          · by_cases c16 : k < 16
            · rw [h5.2.2.2.2 _ (by omega), h4.2.2.2.1 _ (by omega) (by omega), if_neg c4, if_neg c8, if_neg c12, if_pos c16]
              show i8 (byt d (24 - 8 * (t + k - (t + 4 + 4 + 4)).toNat)) = _
              rw [show (t + k - (t + 4 + 4 + 4)).toNat = k.toNat % 4 by omega]
            · rw [h5.2.2.2.1 _ (by omega) (by omega), if_neg c4, if_neg c8, if_neg c12, if_neg c16]
              show i8 (byt e (24 - 8 * (t + k - (t + 4 + 4 + 4 + 4)).toNat)) = _
              rw [show (t + k - (t + 4 + 4 + 4 + 4)).toNat = k.toNat % 4 by omega]
    have O5 : ∀ k : Int, k < t → G5 1 k = G 1 k := fun k hk => by rw [h5.2.2.2.2 _ (by omega), h4.2.2.2.2 _ (by omega), h3.2.2.2.2 _ (by omega), h2.2.2.2.2 _ (by omega), h1.2.2.2.2 _ (by omega)]
    have M : ∃ G6, ((∀ x, x ≠ 100 → x ≠ 104 → G6 x = G5 x) ∧ (∀ i, i ≠ 6 → G6 100 i = G5 100 i) ∧ G6 100 6 = t + 20 ∧ (∀ k : Int, 0 ≤ k → k < 20 → G6 104 (t + k) = ((by5 a b c d e k : Nat) : Int)) ∧ ∀ k : Int, k < t → G6 104 k = G 104 k) ∧ L_X12_feed_28 N N 100 a b c d e (jI 0) (hp q G5) = some (jI (t + 20), hp q G6) := by
      refine loopG (N := N) (fun m (s : Int × (Nat → Int → Int)) => L_X12_feed_28 N m 100 a b c d e (jI s.1) (hp q s.2)) (fun k s => s.1 = k ∧ (∀ x, x ≠ 100 → x ≠ 104 → s.2 x = G5 x) ∧ (∀ i, i ≠ 6 → s.2 100 i = G5 100 i) ∧ s.2 100 6 = t + k ∧ (∀ i : Int, 0 ≤ i → i < (k : Int) → s.2 104 (t + i) = ((by5 a b c d e i : Nat) : Int)) ∧ ∀ i : Int, i < t → s.2 104 i = G 104 i) 20 (by omega) (s := (0, G5)) ⟨rfl, fun _ _ _ => rfl, fun _ _ => rfl, ?_, fun i i0 i1 => by omega, fun i _ => by show G5 104 i = _; rw [A5 104 (by decide) (by decide)]⟩ ?_ ?_
      · show G5 100 6 = t + ((0 : Nat) : Int)
        rw [A5 100 (by decide) (by decide), ht]
        omega
      · rintro m k ⟨z, G6⟩ hk ⟨rfl, g1, g2, g3, g4, g5⟩
        simp only at g1 g2 g3 g4 g5
        have bm := bytM (arg5 a b c d e k) (s := 24 - 8 * (k % 4)) (by omega)
        rw [show ((24 - 8 * (k % 4) : Nat) : Int) = 24 - 8 * ((k : Int) % 4) by omega] at bm
        have z6 : up G6 104 (t + k) (by5 a b c d e k) 100 6 = t + k := by rw [up_ne (by decide)]; exact g3
        refine ⟨(((k + 1 : Nat) : Int), up (up G6 104 (t + k) (by5 a b c d e k)) 100 6 (t + k + 1)), ⟨rfl, ?_, ?_, ?_, ?_, ?_⟩, ?_⟩
        · intro x x0 x1
          (try dsimp only)
          rw [up_ne x0, up_ne x1]
          exact g1 x x0 x1
        · intro i hi
          (try dsimp only)
          rw [up_eq, u1_ne hi, up_ne (by decide)]
          exact g2 i hi
        · dsimp only
          rw [up_eq, u1_eq]
          omega
        · intro i i0 i1
          (try dsimp only)
          rw [up_ne (by decide), up_eq]
          by_cases y : i = k
          · subst y; rw [u1_eq]
          · rw [u1_ne (by omega)]
            exact g4 i i0 (by omega)
        · intro i hi
          (try dsimp only)
          rw [up_ne (by decide), up_eq, u1_ne (by omega)]
          exact g5 i hi
        · show L_X12_feed_28 N (m + 1) 100 a b c d e (jI (k : Int)) (hp q G6) = L_X12_feed_28 N m 100 a b c d e (jI ((k + 1 : Nat) : Int)) (hp q (up (up G6 104 (t + k) (by5 a b c d e k)) 100 6 (t + k + 1)))
          have b5 : jI ((by5 a b c d e k : Nat) : Int) = jI (byt (arg5 a b c d e k) (24 - 8 * (k % 4))) := by
            unfold by5
            rw [Int.toNat_natCast]
          have J : J_X12_feed_81 N (L_X12_feed_28 N m) 100 a b c d e (jI (k : Int)) (arg5 a b c d e k) (hp q G6) = L_X12_feed_28 N m 100 a b c d e (jI ((k + 1 : Nat) : Int)) (hp q (up (up G6 104 (t + k) (by5 a b c d e k)) 100 6 (t + k + 1))) := by
            unfold J_X12_feed_81
            have w6 := (w100 q (up G6 104 (t + k) (by5 a b c d e k)) (t + k + 1)).2.1
            simp (maxSteps := 2000000) (disch := first | assumption | omega) only [jI0, iAdd_j, iSub_j, iMul_j, iNeg_j, Option.bind_some, jlt_t, jlt_f, jlt, jle_t, jle_f, jle, jeq_t, jeq_f, jeq, ↓reduceIte, o100, g3, iRem_p, bm, ← b5, s104, z6, w6, Int.natCast_succ]
          rw [← J, L_X12_feed_28]
          unfold arg5
          by_cases c4 : (k : Int) < 4
          · rw [if_pos c4]; simp (maxSteps := 2000000) (disch := first | assumption | omega) only [jI0, iAdd_j, iSub_j, iMul_j, iNeg_j, Option.bind_some, jlt_t, jlt_f, jlt, jle_t, jle_f, jle, jeq_t, jeq_f, jeq, ↓reduceIte]
          · by_cases c8 : (k : Int) < 8
            · rw [if_neg c4, if_pos c8]; simp (maxSteps := 2000000) (disch := first | assumption | omega) only [jI0, iAdd_j, iSub_j, iMul_j, iNeg_j, Option.bind_some, jlt_t, jlt_f, jlt, jle_t, jle_f, jle, jeq_t, jeq_f, jeq, ↓reduceIte]
            · by_cases c12 : (k : Int) < 12
              · rw [if_neg c4, if_neg c8, if_pos c12]; simp (maxSteps := 2000000) (disch := first | assumption | omega) only [jI0, iAdd_j, iSub_j, iMul_j, iNeg_j, Option.bind_some, jlt_t, jlt_f, jlt, jle_t, jle_f, jle, jeq_t, jeq_f, jeq, ↓reduceIte]
              · by_cases c16 : (k : Int) < 16
                · rw [if_neg c4, if_neg c8, if_neg c12, if_pos c16]; simp (maxSteps := 2000000) (disch := first | assumption | omega) only [jI0, iAdd_j, iSub_j, iMul_j, iNeg_j, Option.bind_some, jlt_t, jlt_f, jlt, jle_t, jle_f, jle, jeq_t, jeq_f, jeq, ↓reduceIte]
                · rw [if_neg c4, if_neg c8, if_neg c12, if_neg c16]; simp (maxSteps := 2000000) (disch := first | assumption | omega) only [jI0, iAdd_j, iSub_j, iMul_j, iNeg_j, Option.bind_some, jlt_t, jlt_f, jlt, jle_t, jle_f, jle, jeq_t, jeq_f, jeq, ↓reduceIte]
      · rintro m ⟨z, G6⟩ ⟨rfl, g1, g2, g3, g4, g5⟩
        simp only at g1 g2 g3 g4 g5
        rw [show ((20 : Nat) : Int) = 20 from rfl] at g3 g4
        refine ⟨G6, ⟨g1, g2, g3, g4, g5⟩, ?_⟩
        show L_X12_feed_28 N (m + 1) 100 a b c d e (jI ((20 : Nat) : Int)) (hp q G6) = _
        rw [show ((20 : Nat) : Int) = 20 from rfl, L_X12_feed_28]
        simp (maxSteps := 2000000) (disch := first | assumption | omega) only [jI0, iAdd_j, iSub_j, iMul_j, iNeg_j, Option.bind_some, jlt_t, jlt_f, jlt, jle_t, jle_f, jle, jeq_t, jeq_f, jeq, ↓reduceIte, o100, g3]
    obtain ⟨G6, ⟨g1, g2, g3, g4, g5⟩, e6⟩ := M
    have T5 : G5 100 0 = 0 := by rw [A5 100 (by decide) (by decide)]; exact hT
    refine ⟨jI (t + 20), q, G5, G6, ?_, ?_, ?_⟩
    · unfold f_X11_feed
      simp (maxSteps := 2000000) (disch := first | assumption | omega) only [jI0, iAdd_j, iSub_j, iMul_j, iNeg_j, Option.bind_some, jlt_t, jlt_f, jlt, jle_t, jle_f, jle, jeq_t, jeq_f, jeq, ↓reduceIte, o0, e01, q1, q2, q3, q4, q5, L5]
    · unfold f_X12_feed
      have wt := w100t (q := q) T5
      have l5 : G5 100 6 = t := by rw [A5 100 (by decide) (by decide), ht]
      simp (maxSteps := 2000000) (disch := first | assumption | omega) only [jI0, iAdd_j, iSub_j, iMul_j, iNeg_j, Option.bind_some, jlt_t, jlt_f, jlt, jle_t, jle_f, jle, jeq_t, jeq_f, jeq, ↓reduceIte, wt, o100, l5, e6]
    · have E : ∀ x, x ≠ 0 → x ≠ 1 → x ≠ 100 → x ≠ 104 → G6 x = G x := fun x x0 x1 x2 x3 => by rw [g1 x x2 x3, A5 x x0 x1]
      have E100 : ∀ i, i ≠ 6 → G6 100 i = G 100 i := fun i hi => by rw [g2 i hi, A5 100 (by decide) (by decide)]
      obtain ⟨⟨t1', t2, t3, t4, t5, t6, t7, t8, t9, t10⟩, i1⟩ := hI
      have eE : ∀ x, (decide (x ≠ 0) && decide (x ≠ 1) && decide (x ≠ 100) && decide (x ≠ 104)) = true → G6 x = G x := fun x h => by
        simp only [Bool.and_eq_true, decide_eq_true_eq] at h
        exact E x h.1.1.1 h.1.1.2 h.1.2 h.2
      refine ⟨?_, fun k k0 k1 => by rw [E 98 (by decide) (by decide) (by decide) (by decide), E 101 (by decide) (by decide) (by decide) (by decide)]; exact i1 k k0 k1⟩
      unfold INV0 BB BW at *
      rw [eE 2 rfl, eE 3 rfl, eE 4 rfl, eE 5 rfl, eE 10 rfl, eE 12 rfl, eE 13 rfl, eE 17 rfl, eE 18 rfl, eE 20 rfl, eE 21 rfl, eE 22 rfl, eE 23 rfl, eE 25 rfl, eE 31 rfl, eE 32 rfl, eE 34 rfl, eE 37 rfl, eE 38 rfl, eE 39 rfl, eE 40 rfl, eE 41 rfl, eE 42 rfl, eE 43 rfl, eE 44 rfl, eE 46 rfl, eE 47 rfl, eE 48 rfl, eE 49 rfl, eE 50 rfl, eE 51 rfl, eE 52 rfl, eE 54 rfl, eE 55 rfl, eE 56 rfl, eE 57 rfl, eE 60 rfl, eE 62 rfl, eE 63 rfl, eE 64 rfl, eE 65 rfl, eE 66 rfl, eE 67 rfl, eE 68 rfl, eE 70 rfl, eE 71 rfl, eE 72 rfl, eE 73 rfl, eE 76 rfl, eE 82 rfl, eE 102 rfl, eE 103 rfl, eE 117 rfl, eE 118 rfl, eE 119 rfl, E100 0 (by decide), E100 14 (by decide), E100 15 (by decide)]
      refine ⟨t1', t2, t3, t4, t5, t6, t7, ⟨?_, ?_⟩, t9, t10⟩
      · rw [g3, g1 0 (by decide) (by decide), L5]
      · rw [g3, g1 1 (by decide) (by decide)]
        refine ⟨by omega, by omega, fun k k0 k1 => ?_⟩
        by_cases y : k < t
        · rw [g5 k y, O5 k y]
          exact tb k k0 y
        · have bl := by5_lt a b c d e (k - t)
          have x1 := g4 (k - t) (by omega) (by omega)
          have x2 := B5 (k - t) (by omega) (by omega)
          rw [show t + (k - t) = k by omega] at x1 x2
          rw [x1, x2]
          exact ⟨by omega, by omega, rfl⟩
  · refine OP.rf hI (-5) (jI (-5)) ?_ ?_
    · unfold f_X11_feed
      simp (maxSteps := 2000000) (disch := first | assumption | omega) only [jI0, iAdd_j, iSub_j, iMul_j, iNeg_j, Option.bind_some, jlt_t, jlt_f, jlt, jle_t, jle_f, jle, jeq_t, jeq_f, jeq, ↓reduceIte, o0, o2, o12, hBand, hStake, hKind, hCross, hWeaver, oBand, oKindOf, oKind, oCr, oRing, oWv, oPer, oRows, oAhead, oWhen, oAll, oStep, oRods, oRodAt, oStakeAt, oOff, bI_t, bI_f, X11_refuse, e01]
    · intro G1 hM e' eo
      have l1 : G1 100 6 = t := by rw [eo 100 (by decide), ht]
      have wt := w100t (q := q) hM.2
      unfold f_X12_feed
      simp (maxSteps := 2000000) (disch := first | assumption | omega) only [jI0, iAdd_j, iSub_j, iMul_j, iNeg_j, Option.bind_some, jlt_t, jlt_f, jlt, jle_t, jle_f, jle, jeq_t, jeq_f, jeq, ↓reduceIte, wt, o100, l1, X12_no]
end
