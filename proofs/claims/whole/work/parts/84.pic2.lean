/-! texts of pictures: rows taken in, the model's side -/
section
variable {K1 K2 : (Int → Int) → (Int → Int) → Prop} {q : Nat × Nat × (Nat → Nat)} {G : Nat → Int → Int} {N : Nat}
/-- row r of a text whose rows are w long -/
def rowf (T : Int → Int) (w r : Int) : Int → Int := fun s => T (r * w + s)
def PiD (H : Nat → Int → Int) (P : Nat) (ws S w : Int) (T : Int → Int) (r : Int) : Prop := H (P + 1) r = msk (fun j => pOv ws (rowf T w r j)) S.toNat ∧ H (P + 2) r = msk (fun j => pUn ws (rowf T w r j)) S.toNat ∧ H (P + 3) r = pKd ws (rowf T w r) S.toNat
theorem oTake (hN : 10000 ≤ N) {P : Nat} (hP : isPi P) (hP1 : 1 < P) {ws S : Int} {T : Int → Int} {n R : Nat} (hw : ws = 0 ∨ ws = 1) (hS : 3 ≤ S ∧ S ≤ 32) (hn : n ≤ 500) (hR : (n : Int) = R * (S + 1)) (R8 : R ≤ 8) (ht : ∀ r s : Int, 0 ≤ r → r < R → 0 ≤ s → s < S → G 1 (r * (S + 1) + s) = T (r * (S + 1) + s) ∧ 0 ≤ T (r * (S + 1) + s) ∧ T (r * (S + 1) + s) < 128 ∧ (ws = 1 → T (r * (S + 1) + s) = 46 ∨ (48 ≤ T (r * (S + 1) + s) ∧ T (r * (S + 1) + s) ≤ 53))) : ∃ G' : Nat → Int → Int, ((∀ a, a ≠ P → a ≠ P + 1 → a ≠ P + 2 → a ≠ P + 3 → G' a = G a) ∧ G' P 0 = R ∧ ∀ r : Int, 0 ≤ r → r < R → PiD G' P ws S (S + 1) T r) ∧ f_X6_take N P 1 (jI n) (jI S) (jI ws) (hp q G) = some (hp q G') := by
  have hPi := hP
  obtain ⟨l, a0, a1, a2, a3⟩ := hP
  have r7 : ∀ H, gR (hp q H) 6 P 1 = some (P + 1) := fun H => hgR (by omega) a0 rfl
  have r8 : ∀ H, gR (hp q H) 6 P 2 = some (P + 2) := fun H => hgR (by omega) a0 rfl
  have r9 : ∀ H, gR (hp q H) 6 P 3 = some (P + 3) := fun H => hgR (by omega) a0 rfl
  have g0 : ∀ H, gI (hp q H) 6 P 0 = some (jI (H P 0)) := fun H => hgI (by omega) a0 rfl
  have rc : ∀ H, rcv (hp q H) 6 P = some () := fun H => hrc (by omega) a0
  have p0 : ∀ H v, pV (hp q H) 6 P 0 (.int (jI v)) = some (hp q (up H P 0 v)) := fun H v => hpI (by omega) a0 rfl
  have w2 : iMax (jI 1) (jI (S + 1)) = jI (S + 1) := by rw [iMax_j (by omega) (by omega) (by omega) (by omega), Int.max_eq_right (by omega)]
  have z : (jI (S + 1) = jI 0) = False := jeq_f (by omega)
  have dv : (n : Int) / (S + 1) = R := by rw [hR]; exact Int.mul_ediv_cancel _ (by omega)
  have mn : min (8 : Int) (R : Int) = R := Int.min_eq_right (by omega)
  have LL : ∃ G' : Nat → Int → Int, ((∀ a, a ≠ P → a ≠ P + 1 → a ≠ P + 2 → a ≠ P + 3 → G' a = G a) ∧ G' P 0 = R ∧ ∀ r : Int, 0 ≤ r → r < R → PiD G' P ws S (S + 1) T r) ∧ L_X6_take_25 N N P 1 (jI S) (jI ws) (jI (S + 1)) (jI 0) (hp q (up G P 0 R)) = some (hp q G') := by
    refine loopG (N := N) (fun f (t : Int × (Nat → Int → Int)) => L_X6_take_25 N f P 1 (jI S) (jI ws) (jI (S + 1)) (jI t.1) (hp q t.2)) (fun k t => t.1 = k ∧ (∀ a, a ≠ P → a ≠ P + 1 → a ≠ P + 2 → a ≠ P + 3 → t.2 a = G a) ∧ t.2 P 0 = R ∧ ∀ r : Int, 0 ≤ r → r < (k : Int) → PiD t.2 P ws S (S + 1) T r) R (by omega) (s := (0, up G P 0 R)) ⟨rfl, fun a h0 _ _ _ => up_ne h0, by show up G P 0 R P 0 = R; rw [up_eq, u1_eq], fun r r0 r1 => by omega⟩ ?_ ?_
    · rintro f k ⟨i, H⟩ hk ⟨rfl, t1, t2, t3⟩
      simp only at t1 t2 t3
      have kw : (k : Int) * (S + 1) + S < 500 := by
        have m := Int.mul_le_mul_of_nonneg_right (show ((k + 1 : Nat) : Int) ≤ R by omega) (show 0 ≤ S + 1 by omega)
        rw [← hR, Int.natCast_succ, Int.add_mul, Int.one_mul] at m
        omega
      have kw0 : 0 ≤ (k : Int) * (S + 1) := Int.mul_nonneg (by omega) (by omega)
      have st1 : ∀ (H : Nat → Int → Int) (v : Int), stI 0 (hp q H) (P + 1) (jI k) (jI v) = some (hp q (up H (P + 1) k v)) := fun H v => hst (n := 8) (by omega) a1 (.inl rfl) (by omega) (by omega) (by omega) rfl
      have st2 : ∀ (H : Nat → Int → Int) (v : Int), stI 0 (hp q H) (P + 2) (jI k) (jI v) = some (hp q (up H (P + 2) k v)) := fun H v => hst (n := 8) (by omega) a2 (.inl rfl) (by omega) (by omega) (by omega) rfl
      have st3 : ∀ (H : Nat → Int → Int) (v : Int), stI 0 (hp q H) (P + 3) (jI k) (jI v) = some (hp q (up H (P + 3) k v)) := fun H v => hst (n := 8) (by omega) a3 (.inl rfl) (by omega) (by omega) (by omega) rfl
      generalize hf : rowf T (S + 1) k = fr
      have hfr : ∀ s : Int, fr s = T ((k : Int) * (S + 1) + s) := fun s => by rw [← hf]; rfl
      have IN : ∃ H' : Nat → Int → Int, PiR H H' P k (msk (fun j => pOv ws (fr j)) S.toNat) (msk (fun j => pUn ws (fr j)) S.toNat) (pKd ws fr S.toNat) ∧ L_X6_take_61 N (L_X6_take_25 N f) N P 1 (jI S) (jI ws) (jI (S + 1)) (jI k) (jI 0) (hp q (up (up (up H (P + 1) k 0) (P + 2) k 0) (P + 3) k (-1))) = L_X6_take_25 N f P 1 (jI S) (jI ws) (jI (S + 1)) (jI ((k + 1 : Nat) : Int)) (hp q H') := by
        refine loopG (N := N) (fun f2 (t : Int × (Nat → Int → Int)) => L_X6_take_61 N (L_X6_take_25 N f) f2 P 1 (jI S) (jI ws) (jI (S + 1)) (jI k) (jI t.1) (hp q t.2)) (fun s t => t.1 = s ∧ PiR H t.2 P k (msk (fun j => pOv ws (fr j)) s) (msk (fun j => pUn ws (fr j)) s) (pKd ws fr s)) S.toNat (R := fun H' => L_X6_take_25 N f P 1 (jI S) (jI ws) (jI (S + 1)) (jI ((k + 1 : Nat) : Int)) (hp q H')) (by omega) (s := (0, up (up (up H (P + 1) k 0) (P + 2) k 0) (P + 3) k (-1))) ⟨rfl, ?_, ⟨?_, ?_, ?_⟩, ?_⟩ ?_ ?_
        · intro a h1 h2 h3
          show up (up (up H (P + 1) k 0) (P + 2) k 0) (P + 3) k (-1) a = H a
          rw [up_ne h3, up_ne h2, up_ne h1]
        · show up (up (up H (P + 1) k 0) (P + 2) k 0) (P + 3) k (-1) (P + 1) k = 0
          rw [up_ne (by omega), up_ne (by omega), up_eq, u1_eq]
        · show up (up (up H (P + 1) k 0) (P + 2) k 0) (P + 3) k (-1) (P + 2) k = 0
          rw [up_ne (by omega), up_eq, u1_eq]
        · show up (up (up H (P + 1) k 0) (P + 2) k 0) (P + 3) k (-1) (P + 3) k = -1
          rw [up_eq, u1_eq]
        · intro i hi
          show up (up (up H (P + 1) k 0) (P + 2) k 0) (P + 3) k (-1) (P + 1) i = H (P + 1) i ∧ up (up (up H (P + 1) k 0) (P + 2) k 0) (P + 3) k (-1) (P + 2) i = H (P + 2) i ∧ up (up (up H (P + 1) k 0) (P + 2) k 0) (P + 3) k (-1) (P + 3) i = H (P + 3) i
          refine ⟨?_, ?_, ?_⟩
          · rw [up_ne (by omega), up_ne (by omega), up_eq, u1_ne hi]
          · rw [up_ne (by omega), up_eq, u1_ne hi, up_ne (by omega)]
          · rw [up_eq, u1_ne hi, up_ne (by omega), up_ne (by omega)]
        · rintro f2 s ⟨i, H2⟩ hs ⟨rfl, y⟩
          simp only at y
          have tt := ht k s (by omega) (by omega) (by omega) (by omega)
          rw [← hfr] at tt
          have e1 : H2 1 ((k : Int) * (S + 1) + s) = fr s := by rw [y.1 1 (by omega) (by omega) (by omega), t1 1 (by omega) (by omega) (by omega) (by omega)]; exact tt.1
          have lt : ldI 2 (hp q H2) 1 (jI ((k : Int) * (S + 1) + s)) = some (jI (fr s)) := by rw [l1 _ _ (by omega) (by omega), e1]
          have fin : ∃ H3 : Nat → Int → Int, PiR H H3 P k (msk (fun j => pOv ws (fr j)) (s + 1)) (msk (fun j => pUn ws (fr j)) (s + 1)) (pKd ws fr (s + 1)) ∧ L_X6_take_61 N (L_X6_take_25 N f) (f2 + 1) P 1 (jI S) (jI ws) (jI (S + 1)) (jI k) (jI (s : Int)) (hp q H2) = L_X6_take_61 N (L_X6_take_25 N f) f2 P 1 (jI S) (jI ws) (jI (S + 1)) (jI k) (jI ((s + 1 : Nat) : Int)) (hp q H3) := by
            rw [L_X6_take_61]
            rcases hw with rfl | rfl
            · obtain ⟨H3, x1, x2⟩ := oTkP (q := q) (N := N) hPi (H := H2) (G := H) (r := (k : Int)) (s := (s : Int)) (v := fr s) (f := fr) (by omega) (by omega) (n := s) rfl (by omega) rfl (by omega) y
              refine ⟨H3, x1, ?_⟩
              simp (maxSteps := 2000000) (disch := first | assumption | omega) only [jI0, iAdd_j, iSub_j, iMul_j, iNeg_j, Option.bind_some, jlt_t, jlt_f, jlt, jle_t, jle_f, jle, jeq_t, jeq_f, jeq, ↓reduceIte, n1, lt, rc, x2, Int.natCast_succ]
            · obtain ⟨H3, x1, x2⟩ := oTkW (q := q) (N := N) hPi (H := H2) (G := H) (r := (k : Int)) (s := (s : Int)) (v := fr s) (f := fr) (by omega) (by omega) (n := s) rfl (by omega) rfl (tt.2.2.2 rfl) (pKd_r (fun j hj => by have := (ht k j (by omega) (by omega) (by omega) (by omega)).2.2.2 rfl; rw [← hfr] at this; exact this)) y
              refine ⟨H3, x1, ?_⟩
              simp (maxSteps := 2000000) (disch := first | assumption | omega) only [jI0, iAdd_j, iSub_j, iMul_j, iNeg_j, Option.bind_some, jlt_t, jlt_f, jlt, jle_t, jle_f, jle, jeq_t, jeq_f, jeq, ↓reduceIte, n1, lt, rc, x2, Int.natCast_succ]
          obtain ⟨H3, x1, x2⟩ := fin
          exact ⟨(((s + 1 : Nat) : Int), H3), ⟨rfl, x1⟩, x2⟩
        · rintro f2 ⟨i, H2⟩ ⟨rfl, y⟩
          simp only at y
          refine ⟨H2, y, ?_⟩
          show L_X6_take_61 N (L_X6_take_25 N f) (f2 + 1) P 1 (jI S) (jI ws) (jI (S + 1)) (jI k) (jI (S.toNat : Int)) (hp q H2) = _
          rw [L_X6_take_61]
          simp (maxSteps := 2000000) (disch := first | assumption | omega) only [jI0, iAdd_j, iSub_j, iMul_j, iNeg_j, Option.bind_some, jlt_t, jlt_f, jlt, jle_t, jle_f, jle, jeq_t, jeq_f, jeq, ↓reduceIte, Int.natCast_succ]
      obtain ⟨H', y1, y2⟩ := IN
      refine ⟨(((k + 1 : Nat) : Int), H'), ⟨rfl, fun a h0 h1 h2 h3 => ?_, ?_, fun r r0 r1 => ?_⟩, ?_⟩
      · show H' a = G a
        rw [y1.1 a h1 h2 h3]; exact t1 a h0 h1 h2 h3
      · show H' P 0 = R
        rw [y1.1 P (by omega) (by omega) (by omega)]; exact t2
      · by_cases c : r = k
        · subst c
          unfold PiD
          rw [hf]
          exact y1.2.1
        · have o := t3 r r0 (by omega)
          have y := y1.2.2 r c
          unfold PiD at *
          show H' (P + 1) r = _ ∧ H' (P + 2) r = _ ∧ H' (P + 3) r = _
          rw [y.1, y.2.1, y.2.2]
          exact o
      · show L_X6_take_25 N (f + 1) P 1 (jI S) (jI ws) (jI (S + 1)) (jI (k : Int)) (hp q H) = L_X6_take_25 N f P 1 (jI S) (jI ws) (jI (S + 1)) (jI ((k + 1 : Nat) : Int)) (hp q H')
        rw [← y2, L_X6_take_25]
        simp (maxSteps := 2000000) (disch := first | assumption | omega) only [jI0, iAdd_j, iSub_j, iMul_j, iNeg_j, Option.bind_some, jlt_t, jlt_f, jlt, jle_t, jle_f, jle, jeq_t, jeq_f, jeq, ↓reduceIte, g0, t2, r7, r8, r9, st1, st2, st3]
    · rintro f ⟨i, H⟩ ⟨rfl, t1, t2, t3⟩
      simp only at t1 t2 t3
      refine ⟨H, ⟨t1, t2, t3⟩, ?_⟩
      show L_X6_take_25 N (f + 1) P 1 (jI S) (jI ws) (jI (S + 1)) (jI (R : Int)) (hp q H) = _
      rw [L_X6_take_25]
      simp (maxSteps := 2000000) (disch := first | assumption | omega) only [jI0, iAdd_j, iSub_j, iMul_j, iNeg_j, Option.bind_some, jlt_t, jlt_f, jlt, jle_t, jle_f, jle, jeq_t, jeq_f, jeq, ↓reduceIte, g0, t2]
  obtain ⟨G', x1, x2⟩ := LL
  refine ⟨G', x1, ?_⟩
  unfold f_X6_take
  simp (maxSteps := 2000000) (disch := first | assumption | omega) only [jI0, iAdd_j, iSub_j, iMul_j, iNeg_j, Option.bind_some, jlt_t, jlt_f, jlt, jle_t, jle_f, jle, jeq_t, jeq_f, jeq, ↓reduceIte, w2, z, iDiv_j, dv, iMin_j, mn, p0, x2]
/-- the model copies the rows -/
theorem mRows (hN : 10000 ≤ N) {to S : Int} {n R : Nat} (hto : 144 ≤ to ∧ to ≤ 401) (hS : 3 ≤ S ∧ S ≤ 32) (h0 : G 102 0 = S) (hn : n ≤ 500) (hR : (n : Int) = R * (S + 1)) (R8 : R ≤ 8) : ∃ G' : Nat → Int → Int, ((∀ a, a ≠ 102 → G' a = G a) ∧ (∀ j, (j < to ∨ to + 256 ≤ j) → G' 102 j = G 102 j) ∧ ∀ r s : Int, 0 ≤ r → r < R → 0 ≤ s → s < S → G' 102 (to + 32 * r + s) = G 104 (r * (S + 1) + s)) ∧ L_X12_readsPicture_190 N N 100 (jI to) (jI (S + 1)) (jI R) (jI 0) (hp q G) = some (jI R, hp q G') := by
  refine loopG (N := N) (fun f (t : Int × (Nat → Int → Int)) => L_X12_readsPicture_190 N f 100 (jI to) (jI (S + 1)) (jI R) (jI t.1) (hp q t.2)) (fun k t => t.1 = k ∧ (∀ a, a ≠ 102 → t.2 a = G a) ∧ (∀ j, (j < to ∨ to + 256 ≤ j) → t.2 102 j = G 102 j) ∧ ∀ r s : Int, 0 ≤ r → r < (k : Int) → 0 ≤ s → s < S → t.2 102 (to + 32 * r + s) = G 104 (r * (S + 1) + s)) R (by omega) (s := (0, G)) ⟨rfl, fun _ _ => rfl, fun _ _ => rfl, fun r s r0 r1 => by omega⟩ ?_ ?_
  · rintro f k ⟨i, H⟩ hk ⟨rfl, t1, t2, t3⟩
    simp only at t1 t2 t3
    have kw : (k : Int) * (S + 1) + S < 500 := by
      have m := Int.mul_le_mul_of_nonneg_right (show ((k + 1 : Nat) : Int) ≤ R by omega) (show 0 ≤ S + 1 by omega)
      rw [← hR, Int.natCast_succ, Int.add_mul, Int.one_mul] at m
      omega
    have kw0 : 0 ≤ (k : Int) * (S + 1) := Int.mul_nonneg (by omega) (by omega)
    have IN : ∃ H' : Nat → Int → Int, ((∀ a, a ≠ 102 → H' a = G a) ∧ (∀ j, (j < to ∨ to + 256 ≤ j) → H' 102 j = G 102 j) ∧ ∀ r s : Int, 0 ≤ r → r < ((k + 1 : Nat) : Int) → 0 ≤ s → s < S → H' 102 (to + 32 * r + s) = G 104 (r * (S + 1) + s)) ∧ L_X12_readsPicture_200 N (L_X12_readsPicture_190 N f) N 100 (jI to) (jI (S + 1)) (jI R) (jI k) (jI 0) (hp q H) = L_X12_readsPicture_190 N f 100 (jI to) (jI (S + 1)) (jI R) (jI ((k + 1 : Nat) : Int)) (hp q H') := by
      refine loopG (N := N) (fun f2 (t : Int × (Nat → Int → Int)) => L_X12_readsPicture_200 N (L_X12_readsPicture_190 N f) f2 100 (jI to) (jI (S + 1)) (jI R) (jI k) (jI t.1) (hp q t.2)) (fun z t => t.1 = z ∧ (∀ a, a ≠ 102 → t.2 a = G a) ∧ (∀ j, (j < to ∨ to + 256 ≤ j) → t.2 102 j = G 102 j) ∧ (∀ r s : Int, 0 ≤ r → r < (k : Int) → 0 ≤ s → s < S → t.2 102 (to + 32 * r + s) = G 104 (r * (S + 1) + s)) ∧ ∀ s : Int, 0 ≤ s → s < (z : Int) → t.2 102 (to + 32 * (k : Int) + s) = G 104 ((k : Int) * (S + 1) + s)) S.toNat (R := fun H' => L_X12_readsPicture_190 N f 100 (jI to) (jI (S + 1)) (jI R) (jI ((k + 1 : Nat) : Int)) (hp q H')) (by omega) (s := (0, H)) ⟨rfl, t1, t2, t3, fun s s0 s1 => by omega⟩ ?_ ?_
      · rintro f2 z ⟨i, H2⟩ hz ⟨rfl, y1, y2, y3, y4⟩
        simp only at y1 y2 y3 y4
        have e0 : H2 102 0 = S := by rw [y2 0 (by omega)]; exact h0
        have e104 : H2 104 = G 104 := y1 104 (by decide)
        refine ⟨(((z + 1 : Nat) : Int), up H2 102 (to + 32 * (k : Int) + z) (G 104 ((k : Int) * (S + 1) + z))), ⟨rfl, fun a ha => (up_ne ha).trans (y1 a ha), fun j hj => ?_, fun r s r0 r1 s0 s1 => ?_, fun s s0 s1 => ?_⟩, ?_⟩
        · show up H2 102 _ _ 102 j = _
          rw [up_eq, u1_ne (by omega)]; exact y2 j hj
        · show up H2 102 _ _ 102 _ = _
          rw [up_eq, u1_ne (by omega)]; exact y3 r s r0 r1 s0 s1
        · show up H2 102 _ _ 102 _ = _
          rw [up_eq]
          by_cases c : s = z
          · rw [c, u1_eq]
          · rw [u1_ne (by omega)]; exact y4 s s0 (by omega)
        · show L_X12_readsPicture_200 N (L_X12_readsPicture_190 N f) (f2 + 1) 100 (jI to) (jI (S + 1)) (jI R) (jI k) (jI (z : Int)) (hp q H2) = L_X12_readsPicture_200 N (L_X12_readsPicture_190 N f) f2 100 (jI to) (jI (S + 1)) (jI R) (jI k) (jI ((z + 1 : Nat) : Int)) (hp q (up H2 102 (to + 32 * (k : Int) + z) (G 104 ((k : Int) * (S + 1) + z))))
          rw [L_X12_readsPicture_200]
          simp (maxSteps := 2000000) (disch := first | assumption | omega) only [jI0, iAdd_j, iSub_j, iMul_j, iNeg_j, Option.bind_some, jlt_t, jlt_f, jlt, jle_t, jle_f, jle, jeq_t, jeq_f, jeq, ↓reduceIte, o100, l102, e0, l104, e104, s102, Int.natCast_succ]
      · rintro f2 ⟨i, H2⟩ ⟨rfl, y1, y2, y3, y4⟩
        simp only at y1 y2 y3 y4
        have e0 : H2 102 0 = S := by rw [y2 0 (by omega)]; exact h0
        refine ⟨H2, ⟨y1, y2, fun r s r0 r1 s0 s1 => ?_⟩, ?_⟩
        · by_cases c : r = k
          · rw [c]; exact y4 s s0 (by omega)
          · exact y3 r s r0 (by omega) s0 s1
        · show L_X12_readsPicture_200 N (L_X12_readsPicture_190 N f) (f2 + 1) 100 (jI to) (jI (S + 1)) (jI R) (jI k) (jI (S.toNat : Int)) (hp q H2) = _
          rw [L_X12_readsPicture_200]
          simp (maxSteps := 2000000) (disch := first | assumption | omega) only [jI0, iAdd_j, iSub_j, iMul_j, iNeg_j, Option.bind_some, jlt_t, jlt_f, jlt, jle_t, jle_f, jle, jeq_t, jeq_f, jeq, ↓reduceIte, o100, l102, e0, Int.natCast_succ]
    obtain ⟨H', y1, y2⟩ := IN
    refine ⟨(((k + 1 : Nat) : Int), H'), ⟨rfl, y1⟩, ?_⟩
    show L_X12_readsPicture_190 N (f + 1) 100 (jI to) (jI (S + 1)) (jI R) (jI (k : Int)) (hp q H) = L_X12_readsPicture_190 N f 100 (jI to) (jI (S + 1)) (jI R) (jI ((k + 1 : Nat) : Int)) (hp q H')
    rw [← y2, L_X12_readsPicture_190]
    simp (maxSteps := 2000000) (disch := first | assumption | omega) only [jI0, iAdd_j, iSub_j, iMul_j, iNeg_j, Option.bind_some, jlt_t, jlt_f, jlt, jle_t, jle_f, jle, jeq_t, jeq_f, jeq, ↓reduceIte]
  · rintro f ⟨i, H⟩ ⟨rfl, t1, t2, t3⟩
    simp only at t1 t2 t3
    refine ⟨H, ⟨t1, t2, t3⟩, ?_⟩
    show L_X12_readsPicture_190 N (f + 1) 100 (jI to) (jI (S + 1)) (jI R) (jI (R : Int)) (hp q H) = _
    rw [L_X12_readsPicture_190]
    simp (maxSteps := 2000000) (disch := first | assumption | omega) only [jI0, iAdd_j, iSub_j, iMul_j, iNeg_j, Option.bind_some, jlt_t, jlt_f, jlt, jle_t, jle_f, jle, jeq_t, jeq_f, jeq, ↓reduceIte]
theorem mIsPic (hN : 10000 ≤ N) {to ws S : Int} {n : Nat} (hto : 144 ≤ to ∧ to ≤ 401) (hw : ws = 0 ∨ ws = 1) (hS : 3 ≤ S ∧ S ≤ 32) (hn : n ≤ 500) (ht : ∀ k : Int, 0 ≤ k → k < n → 0 ≤ G 104 k ∧ G 104 k ≤ 255) : L_X12_readsPicture_50 N N 100 (jI to) (jI n) (jI ws) (jI (S + 1)) (jI 0) (hp q G) = if piBt ws S (G 104) n = true then L_X12_readsPicture_190 N N 100 (jI to) (jI (S + 1)) (jI ((n : Int) / (S + 1))) (jI 0) (hp q (up G 102 (to - 1) ((n : Int) / (S + 1)))) else some (jI (-9), hp q (up G 101 (rfz (-9)) (G 101 (rfz (-9)) + 1))) := by
  have z : (jI (S + 1) = jI 0) = False := jeq_f (by omega)
  have LL : ∀ (d f k : Nat), k + d = n → d < f → piBt ws S (G 104) k = true → L_X12_readsPicture_50 N f 100 (jI to) (jI n) (jI ws) (jI (S + 1)) (jI k) (hp q G) = if piBt ws S (G 104) n = true then L_X12_readsPicture_190 N N 100 (jI to) (jI (S + 1)) (jI ((n : Int) / (S + 1))) (jI 0) (hp q (up G 102 (to - 1) ((n : Int) / (S + 1)))) else some (jI (-9), hp q (up G 101 (rfz (-9)) (G 101 (rfz (-9)) + 1))) := by
    intro d
    induction d with
    | zero =>
      intro f k hk hf hb
      obtain ⟨f, rfl⟩ : ∃ x, f = x + 1 := ⟨f - 1, by omega⟩
      have kn : k = n := by omega
      subst kn
      rw [if_pos hb, L_X12_readsPicture_50]
      simp (maxSteps := 2000000) (disch := first | assumption | omega) only [jI0, iAdd_j, iSub_j, iMul_j, iNeg_j, Option.bind_some, jlt_t, jlt_f, jlt, jle_t, jle_f, jle, jeq_t, jeq_f, jeq, ↓reduceIte, z, iDiv_j, o100, s102]
    | succ d ih =>
      intro f k hk hf hb
      obtain ⟨f, rfl⟩ : ∃ x, f = x + 1 := ⟨f - 1, by omega⟩
      have m0 : 0 ≤ (k : Int) % (S + 1) := Int.emod_nonneg _ (by omega)
      have m1 : (k : Int) % (S + 1) < S + 1 := Int.emod_lt_of_pos _ (by omega)
      have t := ht k (by omega) (by omega)
      have lt : ldI 0 (hp q G) 104 (jI (k : Int)) = some (jI (G 104 k)) := l104 _ _ (by omega) (by omega)
      have nb : ∀ b : Bool, (if (k : Int) % (S + 1) = S then G 104 k == 59 else sgB ws (G 104 k)) = b → J_X12_readsPicture_151 N (L_X12_readsPicture_50 N f) 100 (jI to) (jI n) (jI ws) (jI (S + 1)) (jI k) (bI (b = true)) (hp q G) = if piBt ws S (G 104) n = true then L_X12_readsPicture_190 N N 100 (jI to) (jI (S + 1)) (jI ((n : Int) / (S + 1))) (jI 0) (hp q (up G 102 (to - 1) ((n : Int) / (S + 1)))) else some (jI (-9), hp q (up G 101 (rfz (-9)) (G 101 (rfz (-9)) + 1))) := by
        intro b e
        have pe : piBt ws S (G 104) (k + 1) = b := by
          show (piBt ws S (G 104) k && _) = b
          rw [hb, e, Bool.true_and]
        unfold J_X12_readsPicture_151
        cases b with
        | false =>
          have := piBt_no pe d
          rw [show k + 1 + d = n by omega] at this
          have nb0 : ¬ piBt ws S (G 104) n = true := by rw [this]; decide
          rw [bI_f (by decide), if_neg nb0]
          simp (maxSteps := 2000000) (disch := first | assumption | omega) only [jI0, iAdd_j, iSub_j, iMul_j, iNeg_j, Option.bind_some, jlt_t, jlt_f, jlt, jle_t, jle_f, jle, jeq_t, jeq_f, jeq, ↓reduceIte, o100, X12_no]
        | true =>
          have nx := ih f (k + 1) (by omega) (by omega) pe
          rw [Int.natCast_succ] at nx
          rw [bI_t rfl, ← nx]
          simp (maxSteps := 2000000) (disch := first | assumption | omega) only [jI0, iAdd_j, iSub_j, iMul_j, iNeg_j, Option.bind_some, jlt_t, jlt_f, jlt, jle_t, jle_f, jle, jeq_t, jeq_f, jeq, ↓reduceIte]
      generalize G 104 k = v at *
      rw [L_X12_readsPicture_50]
      by_cases c : (k : Int) % (S + 1) = S
      · by_cases c2 : v = 59
        · have := nb true (by rw [if_pos c, c2]; rfl)
          rw [bI_t rfl] at this
          rw [← this]
          simp (maxSteps := 2000000) (disch := first | assumption | omega) only [jI0, iAdd_j, iSub_j, iMul_j, iNeg_j, Option.bind_some, jlt_t, jlt_f, jlt, jle_t, jle_f, jle, jeq_t, jeq_f, jeq, ↓reduceIte, o100, lt, z, iRem_p, c, c2]
        · have := nb false (by rw [if_pos c]; simp [c2])
          rw [bI_f (by decide)] at this
          rw [← this]
          simp (maxSteps := 2000000) (disch := first | assumption | omega) only [jI0, iAdd_j, iSub_j, iMul_j, iNeg_j, Option.bind_some, jlt_t, jlt_f, jlt, jle_t, jle_f, jle, jeq_t, jeq_f, jeq, ↓reduceIte, o100, lt, z, iRem_p, c, c2]
      · have := nb (sgB ws v) (by rw [if_neg c])
        rw [← this]
        rcases hw with rfl | rfl
        · by_cases c1 : v = 111
          · rw [bI_t (by rw [c1]; rfl)]
            simp (maxSteps := 2000000) (disch := first | assumption | omega) only [jI0, iAdd_j, iSub_j, iMul_j, iNeg_j, Option.bind_some, jlt_t, jlt_f, jlt, jle_t, jle_f, jle, jeq_t, jeq_f, jeq, ↓reduceIte, o100, lt, z, iRem_p, c, c1]
          · by_cases c2 : v = 117
            · rw [bI_t (by rw [c2]; rfl)]
              simp (maxSteps := 2000000) (disch := first | assumption | omega) only [jI0, iAdd_j, iSub_j, iMul_j, iNeg_j, Option.bind_some, jlt_t, jlt_f, jlt, jle_t, jle_f, jle, jeq_t, jeq_f, jeq, ↓reduceIte, o100, lt, z, iRem_p, c, c2]
            · by_cases c3 : v = 63
              · rw [bI_t (by rw [c3]; rfl)]
                simp (maxSteps := 2000000) (disch := first | assumption | omega) only [jI0, iAdd_j, iSub_j, iMul_j, iNeg_j, Option.bind_some, jlt_t, jlt_f, jlt, jle_t, jle_f, jle, jeq_t, jeq_f, jeq, ↓reduceIte, o100, lt, z, iRem_p, c, c3]
              · rw [bI_f (by unfold sgB; simp [c1, c2, c3])]
                simp (maxSteps := 2000000) (disch := first | assumption | omega) only [jI0, iAdd_j, iSub_j, iMul_j, iNeg_j, Option.bind_some, jlt_t, jlt_f, jlt, jle_t, jle_f, jle, jeq_t, jeq_f, jeq, ↓reduceIte, o100, lt, z, iRem_p, c]
        · by_cases c1 : v = 46
          · rw [bI_t (by rw [c1]; rfl)]
            simp (maxSteps := 2000000) (disch := first | assumption | omega) only [jI0, iAdd_j, iSub_j, iMul_j, iNeg_j, Option.bind_some, jlt_t, jlt_f, jlt, jle_t, jle_f, jle, jeq_t, jeq_f, jeq, ↓reduceIte, o100, lt, z, iRem_p, c, c1]
          · by_cases c2 : v < 48
            · rw [bI_f (by unfold sgB; simp [c1]; omega)]
              simp (maxSteps := 2000000) (disch := first | assumption | omega) only [jI0, iAdd_j, iSub_j, iMul_j, iNeg_j, Option.bind_some, jlt_t, jlt_f, jlt, jle_t, jle_f, jle, jeq_t, jeq_f, jeq, ↓reduceIte, o100, lt, z, iRem_p, c]
            · by_cases c3 : 53 < v
              · rw [bI_f (by unfold sgB; simp [c1]; omega)]
                simp (maxSteps := 2000000) (disch := first | assumption | omega) only [jI0, iAdd_j, iSub_j, iMul_j, iNeg_j, Option.bind_some, jlt_t, jlt_f, jlt, jle_t, jle_f, jle, jeq_t, jeq_f, jeq, ↓reduceIte, o100, lt, z, iRem_p, c]
              · rw [bI_t (by unfold sgB; simp [c1]; omega)]
                simp (maxSteps := 2000000) (disch := first | assumption | omega) only [jI0, iAdd_j, iSub_j, iMul_j, iNeg_j, Option.bind_some, jlt_t, jlt_f, jlt, jle_t, jle_f, jle, jeq_t, jeq_f, jeq, ↓reduceIte, o100, lt, z, iRem_p, c]
  exact LL n N 0 (by omega) (by omega) rfl
end
