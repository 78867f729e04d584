/-! CONSTRUCTORS: the relation holds behind them -/
theorem INV_0 : INV K1w K2w q0 G0 := by
  have a0 : G0 102 0 = 0 := rfl
  have a1 : G0 102 1 = 0 := rfl
  have a26 : G0 102 26 = 0 := rfl
  have a115 : G0 102 115 = 0 := rfl
  have a140 : G0 102 140 = 2 := rfl
  have a141 : G0 102 141 = 100 := rfl
  have a142 : G0 102 142 = 0 := rfl
  have b6 : G0 100 6 = 0 := rfl
  have b46 : G0 46 0 = 0 := rfl
  have b62 : G0 62 0 = 0 := rfl
  have c7 : G0 25 7 = 0 := rfl
  have c8 : G0 25 8 = 0 := rfl
  have c5 : G0 12 5 = 0 := rfl
  have hV : BV (G0 102) := ⟨by omega, fun k k0 k1 => absurd k1 (by omega), fun k k0 k1 => absurd k1 (by omega), fun k j k0 k1 => absurd k1 (by omega), fun k k0 k1 => absurd k1 (by omega)⟩
  have hR : BR (G0 2) (G0 3) (G0 4) (G0 5) (G0 102) := ⟨⟨rfl, rfl, rfl, rfl, rfl, rfl, rfl⟩, fun k w k0 k1 => absurd k1 (by omega), fun b w b0 b1 => absurd b1 (by omega), fun b j b0 b1 => absurd b1 (by omega), fun s s0 s1 => absurd s1 (by omega)⟩
  have hH : HS (G0 34) (G0 102) := fun k k0 k1 => by
    have e1 : G0 34 k = -1 := by
      show (if k < 8 then (-1 : Int) else 0) = -1
      rw [if_pos k1]
    have e2 : G0 102 (657 + k) = -1 := by
      show (if 657 ≤ 657 + k ∧ 657 + k < 665 then (-1 : Int) else if 657 + k = 400 then -1 else if 657 + k = 143 then -1 else if 657 + k < 143 then (if 657 + k = 140 then 2 else if 657 + k = 141 then 100 else 0) else 0) = -1
      rw [if_pos ⟨by omega, by omega⟩]
    rw [e1, e2]
    omega
  refine ⟨⟨⟨hV, hR⟩, rfl, .inl ⟨rfl, rfl⟩, .inl ⟨rfl, rfl⟩, hH, ⟨rfl, by omega, by omega, fun h => absurd h (by omega)⟩, ⟨rfl, by omega, by omega, fun h => absurd h (by omega)⟩, ⟨rfl, by omega, by omega, fun k k0 k1 => absurd k1 (by omega)⟩, ⟨rfl, rfl⟩, ⟨.inl ⟨rfl, rfl⟩, .inl ⟨rfl, rfl⟩, .inl ⟨rfl, rfl⟩, .inl ⟨rfl, rfl⟩⟩, ⟨by omega, by omega, fun b b0 b1 => absurd b1 (by omega)⟩, ⟨.inl c7, fun h => absurd h (by omega)⟩, ⟨.inl c8, fun h => absurd h (by omega)⟩, ?_⟩, fun k k0 k1 => rfl⟩
  exact ⟨0, 93, 94, rfl, rfl, by decide, by decide, by decide, rfl, rfl, by decide, by decide, by decide, .inl rfl, .inr (.inl rfl)⟩
