/-! basket: the model's next token -/
section
variable {q : Nat × Nat × (Nat → Nat)} {G : Nat → Int → Int} {N : Nat}
theorem mAdv (hN : 10000 ≤ N) {n kv : Int} {T : Int → Int} (h : TkM G n T) (p0 : 0 ≤ G 100 8) (p1 : G 100 8 ≤ n) (hk : ∀ H : Nat → Int → Int, (∀ a, a ≠ 100 → H a = G a) → H 100 7 = skT T n (G 100 8) → H 100 8 = leT T n (skT T n (G 100 8)) → TkM H n T → f_X12_keyAt N 100 (hp q H) = some (jI kv, hp q H)) : ∃ G' : Nat → Int → Int, ((∀ a, a ≠ 100 → G' a = G a) ∧ (∀ i : Int, i ≠ 7 → i ≠ 8 → i ≠ 10 → i ≠ 11 → G' 100 i = G 100 i) ∧ AdM T n (skT T n (G 100 8)) kv G') ∧ f_X12_next N 100 (hp q G) = some (hp q G') := by
  have t3 := h.2.1
  have s0 := ru_ge (spB T) n 600 (G 100 8)
  have s1 := ru_le (spB T) n 600 (G 100 8) p1
  have se := ru_end (spB T) n 600 (G 100 8) (by omega)
  obtain ⟨f', sk⟩ := mSkip (N := N) (q := q) (T := T) 600 N (G 100 8) (up G 100 7 (G 100 8)) (by omega) (by omega) p0 p1 (by rw [up_eq, u1_eq]) (h.up (by omega))
  rw [up_up] at sk
  have es : skT T n (G 100 8) = ru (spB T) n 600 (G 100 8) := rfl
  rw [← es] at sk s0 s1 se
  generalize skT T n (G 100 8) = s at *
  have A : ∀ G' : Nat → Int → Int, L_X12_next_8 N (f' + 1) 100 (hp q (up G 100 7 s)) = some (hp q G') → f_X12_next N 100 (hp q G) = some (hp q G') := by
    intro G' hG
    rw [hG] at sk
    unfold f_X12_next
    simp (maxSteps := 2000000) (disch := first | assumption | omega) only [jI0, iAdd_j, iSub_j, iMul_j, iNeg_j, Option.bind_some, jlt_t, jlt_f, jlt, jle_t, jle_f, jle, jeq_t, jeq_f, jeq, ↓reduceIte, o100, w100, sk]
  have hK : TkM (up G 100 7 s) n T := h.up (by omega)
  have k7 : up G 100 7 s 100 7 = s := by rw [up_eq, u1_eq]
  have ob := mSee (N := N) (q := q) (p := s) hK (by omega) (by omega)
  have w8 := (w100 q (up G 100 7 s) s).2.2.2.1
  have hH : TkM (up (up G 100 7 s) 100 8 s) n T := hK.up (by omega)
  have H7 : up (up G 100 7 s) 100 8 s 100 7 = s := by rw [up_eq, u1_ne (by decide)]; exact k7
  have H8 : up (up G 100 7 s) 100 8 s 100 8 = s := by rw [up_eq, u1_eq]
  have Ho : ∀ a, a ≠ 100 → up (up G 100 7 s) 100 8 s a = G a := fun a ha => by rw [up_ne ha, up_ne ha]
  have Hi : ∀ i : Int, i ≠ 7 → i ≠ 8 → up (up G 100 7 s) 100 8 s 100 i = G 100 i := fun i h7 h8 => by rw [up_eq, u1_ne h8, up_eq, u1_ne h7]
  have ob2 := mSee (N := N) (q := q) (p := s) hH (by omega) (by omega)
  have H9 := hH.1
  generalize hHH : up (up G 100 7 s) 100 8 s = H at *
  by_cases c : s < n
  · rw [if_pos c] at ob ob2
    have tb := (hH.2.2 s (by omega) c).1
    have ns : T s ≠ 32 ∧ T s ≠ 10 := by
      have : ¬ spB T s = true := fun hh => se ⟨c, hh⟩
      unfold spB at this
      simpa using this
    have ol := mSmall (N := N) (c := T s) (by omega) (g := hp q H)
    have od := mDigit (N := N) (c := T s) (by omega) (g := hp q H)
    by_cases c1 : smB T s = true
    · have d1 : 97 ≤ T s ∧ T s ≤ 122 := of_decide_eq_true c1
      rw [bI_t d1] at ol
      have ow := mWord (N := N) (q := q) (T := T) 600 N s H (by omega) (by omega) (by omega) (by omega) H8 hH
      have ky := hk (up H 100 8 (ru (smB T) n 600 s)) (fun a ha => by rw [up_ne ha]; exact Ho a ha) (by rw [up_eq, u1_ne (by decide)]; exact H7) (by rw [up_eq, u1_eq]; rfl) (hH.up (by omega))
      have w10' := (w100 q (up H 100 8 (ru (smB T) n 600 s)) kv).2.2.2.2.2.1
      rw [ky, Option.bind_some] at ow
      refine ⟨up (up H 100 8 (leT T n s)) 100 10 kv, ⟨fun a ha => by rw [up_ne ha, up_ne ha]; exact Ho a ha, fun i h7 h8 h10 h11 => by rw [up_eq, u1_ne h10, up_eq, u1_ne h8]; exact Hi i h7 h8, ⟨by rw [up_eq, u1_ne (by decide), up_eq, u1_ne (by decide)]; exact H7, .inr (.inl ⟨c, c1, by rw [up_eq, u1_eq], by rw [up_eq, u1_ne (by decide), up_eq, u1_eq]⟩)⟩⟩, A _ ?_⟩
      rw [L_X12_next_8]
      unfold leT
      simp (maxSteps := 2000000) (disch := first | assumption | omega) only [jI0, iAdd_j, iSub_j, iMul_j, iNeg_j, Option.bind_some, jlt_t, jlt_f, jlt, jle_t, jle_f, jle, jeq_t, jeq_f, jeq, ↓reduceIte, o100, k7, ob, w8, H7, H9, ob2, ol, ow, w100]
    · have d1 : ¬ (97 ≤ T s ∧ T s ≤ 122) := fun h => c1 (decide_eq_true h)
      rw [bI_f d1] at ol
      by_cases c2 : dgB T s = true
      · have e1 : 48 ≤ T s ∧ T s ≤ 57 := of_decide_eq_true c2
        rw [bI_t e1] at od
        obtain ⟨G2, ⟨x1, x2, x3, x4, x6⟩, x5⟩ := mNum (N := N) (q := q) (T := T) (n := n) (s := s) 600 N s (up H 100 11 0) (by omega) (by omega) (by omega) (by omega) (by omega) (fun i i0 i1 => by omega) (by rw [up_eq, u1_ne (by decide)]; exact H7) (by rw [up_eq, u1_ne (by decide)]; exact H8) (by rw [up_eq, u1_eq, Int.sub_self]; rfl) (hH.up (by omega))
        refine ⟨G2, ⟨fun a ha => by rw [x1 a ha, up_ne ha]; exact Ho a ha, fun i h7 h8 h10 h11 => by rw [x2 i h8 h10 h11, up_eq, u1_ne h11]; exact Hi i h7 h8, ⟨by rw [x2 7 (by decide) (by decide) (by decide), up_eq, u1_ne (by decide)]; exact H7, .inr (.inr (.inl ⟨c, c2, x3, x4, fun hh => ?_, fun hh => ?_⟩))⟩⟩, A _ ?_⟩
        · unfold deT at hh
          have nn : ¬ 4 < ru (dgB T) n 600 s - s := by omega
          rw [x6, if_neg nn]
        · unfold deT at hh
          rw [x6, if_pos hh]
        · rw [L_X12_next_8]
          simp (maxSteps := 2000000) (disch := first | assumption | omega) only [jI0, iAdd_j, iSub_j, iMul_j, iNeg_j, Option.bind_some, jlt_t, jlt_f, jlt, jle_t, jle_f, jle, jeq_t, jeq_f, jeq, ↓reduceIte, o100, k7, ob, w8, H7, H9, ob2, ol, od, w100, x5]
      · have e1 : ¬ (48 ≤ T s ∧ T s ≤ 57) := fun h => c2 (decide_eq_true h)
        rw [bI_f e1] at od
        have w9 := (w100 q H (s + 1)).2.2.2.1
        have u7 : up H 100 8 (s + 1) 100 7 = s := by rw [up_eq, u1_ne (by decide)]; exact H7
        have ob3 := mSee (N := N) (q := q) (p := s) (hH.up (v := s + 1) (i := 8) (by omega)) (by omega) (by omega)
        rw [if_pos c] at ob3
        by_cases c3 : T s = 59
        · refine ⟨up (up H 100 8 (s + 1)) 100 10 19, ⟨fun a ha => by rw [up_ne ha, up_ne ha]; exact Ho a ha, fun i h7 h8 h10 h11 => by rw [up_eq, u1_ne h10, up_eq, u1_ne h8]; exact Hi i h7 h8, ⟨by rw [up_eq, u1_ne (by decide)]; exact u7, .inr (.inr (.inr (.inl ⟨c, c3, by rw [up_eq, u1_eq], by rw [up_eq, u1_ne (by decide), up_eq, u1_eq]⟩)))⟩⟩, A _ ?_⟩
          rw [c3] at ob ob2 ob3 ol od
          rw [L_X12_next_8]
          simp (maxSteps := 2000000) (disch := first | assumption | omega) only [jI0, iAdd_j, iSub_j, iMul_j, iNeg_j, Option.bind_some, jlt_t, jlt_f, jlt, jle_t, jle_f, jle, jeq_t, jeq_f, jeq, ↓reduceIte, o100, k7, ob, w8, H7, H8, H9, ob2, ol, od, w9, u7, ob3, w100]
        · refine ⟨up (up H 100 8 (s + 1)) 100 10 21, ⟨fun a ha => by rw [up_ne ha, up_ne ha]; exact Ho a ha, fun i h7 h8 h10 h11 => by rw [up_eq, u1_ne h10, up_eq, u1_ne h8]; exact Hi i h7 h8, ⟨by rw [up_eq, u1_ne (by decide)]; exact u7, .inr (.inr (.inr (.inr ⟨c, by simpa using c1, by simpa using c2, c3, by rw [up_eq, u1_eq], by rw [up_eq, u1_ne (by decide), up_eq, u1_eq]⟩)))⟩⟩, A _ ?_⟩
          rw [L_X12_next_8]
          simp (maxSteps := 2000000) (disch := first | assumption | omega) only [jI0, iAdd_j, iSub_j, iMul_j, iNeg_j, Option.bind_some, jlt_t, jlt_f, jlt, jle_t, jle_f, jle, jeq_t, jeq_f, jeq, ↓reduceIte, o100, k7, ob, w8, H7, H8, H9, ob2, ol, od, w9, u7, ob3, w100]
  · rw [if_neg c] at ob ob2
    refine ⟨up H 100 10 20, ⟨fun a ha => by rw [up_ne ha]; exact Ho a ha, fun i h7 h8 h10 h11 => by rw [up_eq, u1_ne h10]; exact Hi i h7 h8, ⟨by rw [up_eq, u1_ne (by decide)]; exact H7, .inl ⟨by omega, by rw [up_eq, u1_eq], by rw [up_eq, u1_ne (by decide)]; exact H8⟩⟩⟩, A _ ?_⟩
    rw [L_X12_next_8]
    simp (maxSteps := 2000000) (disch := first | assumption | omega) only [jI0, iAdd_j, iSub_j, iMul_j, iNeg_j, Option.bind_some, jlt_t, jlt_f, jlt, jle_t, jle_f, jle, jeq_t, jeq_f, jeq, ↓reduceIte, o100, k7, ob, w8, H7, H9, w100]
end
