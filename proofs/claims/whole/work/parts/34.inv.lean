/-! THE RELATION between component and model, by the model's numbers A (its row 'all') -/
/-- THE BASKET's numbers are such as the text's rules allow -/
def BV (A : Int → Int) : Prop :=
  ((A 0 = 0 ∨ 3 ≤ A 0) ∧ A 0 ≤ 32 ∧ 0 ≤ A 1 ∧ A 1 ≤ 6 ∧ 0 ≤ A 26 ∧ A 26 ≤ 8 ∧ (0 < A 26 → 3 ≤ A 0) ∧ 0 ≤ A 115 ∧ A 115 ≤ 8 ∧ 0 ≤ A 140 ∧ A 140 ≤ 20 ∧ 1 ≤ A 141 ∧ A 141 ≤ 999 ∧ 0 ≤ A 142 ∧ A 142 ≤ 500) ∧
  (∀ k, 0 ≤ k → k < A 1 → 2 ≤ A (2 + k) ∧ A (2 + k) ≤ 99 ∧ 1 ≤ A (8 + k) ∧ A (8 + k) ≤ 9 ∧ 0 ≤ A (14 + k) ∧ A (14 + k) ≤ 50 ∧ 0 ≤ A (20 + k) ∧ A (20 + k) ≤ 99) ∧
  (∀ b, 0 ≤ b → b < A 26 → 1 ≤ A (27 + b) ∧ A (27 + b) ≤ 4 ∧ 1 ≤ A (35 + b) ∧ A (35 + b) ≤ 4 ∧ 1 ≤ A (43 + b) ∧ A (43 + b) ≤ 4 ∧ 1 ≤ A (51 + b) ∧ A (51 + b) ≤ 40 ∧ 0 ≤ A (59 + b) ∧ A (59 + b) < A 0 ∧ 0 ≤ A (67 + b) ∧ A (67 + b) ≤ 1 ∧ -9 ≤ A (75 + b) ∧ A (75 + b) ≤ 9) ∧
  (∀ b j, 0 ≤ b → b < A 26 → 0 ≤ j → j < A (27 + b) → 0 ≤ A (83 + 4 * b + j) ∧ A (83 + 4 * b + j) < A 1) ∧
  (∀ s, 0 ≤ s → s < A 115 → 0 ≤ A (116 + s) ∧ A (116 + s) < A 26 ∧ 0 ≤ A (124 + s) ∧ A (124 + s) < 4 ∧ 0 ≤ A (132 + s) ∧ A (132 + s) < 1280)
/-- the component's BASKET (object, its three tables) holds the same -/
def BR (g kt bt st A : Int → Int) : Prop :=
  (g 0 = A 0 ∧ g 1 = A 1 ∧ g 2 = A 26 ∧ g 3 = A 115 ∧ g 4 = A 140 ∧ g 5 = A 141 ∧ g 6 = A 142) ∧
  (∀ k w, 0 ≤ k → k < A 1 → 0 ≤ w → w < 4 → kt (k * 4 + w) = A (2 + 6 * w + k)) ∧
  (∀ b w, 0 ≤ b → b < A 26 → 0 ≤ w → w < 7 → bt (b * 11 + w) = A (27 + 8 * w + b)) ∧
  (∀ b j, 0 ≤ b → b < A 26 → 0 ≤ j → j < A (27 + b) → bt (b * 11 + (7 + j)) = A (83 + 4 * b + j)) ∧
  (∀ s, 0 ≤ s → s < A 115 → st (3 * s) = A (116 + s) ∧ st (3 * s + 1) = A (124 + s) ∧ st (3 * s + 2) = A (132 + s))
/-- bits: those of the first n places where f holds -/
def msk (f : Int → Bool) : Nat → Nat
  | 0 => 0
  | n + 1 => msk f n + (if f n then 2 ^ n else 0)
/-- a WISH: object, its rows of bits and of kinds -/
def WS (g ov rk A : Int → Int) : Prop :=
  (g 0 = 0 ∧ A 143 = -1) ∨ (1 ≤ g 0 ∧ g 0 ≤ 8 ∧ A 143 = g 0 ∧ 3 ≤ A 0 ∧ ∀ r, 0 ≤ r → r < g 0 →
    (∀ s, 0 ≤ s → s < A 0 → A (144 + 32 * r + s) = 46 ∨ (48 ≤ A (144 + 32 * r + s) ∧ A (144 + 32 * r + s) ≤ 53)) ∧
    ov r = msk (fun s => !(A (144 + 32 * r + s) == 46)) (A 0).toNat ∧
    ((rk r = -1 ∧ ∀ s, 0 ≤ s → s < A 0 → A (144 + 32 * r + s) = 46) ∨
     (0 ≤ rk r ∧ rk r ≤ 5 ∧ (∃ s, 0 ≤ s ∧ s < A 0 ∧ A (144 + 32 * r + s) = 48 + rk r) ∧ ∀ s, 0 ≤ s → s < A 0 → A (144 + 32 * r + s) = 46 ∨ A (144 + 32 * r + s) = 48 + rk r) ∨
     (rk r = -2 ∧ ∃ s t, 0 ≤ s ∧ s < A 0 ∧ 0 ≤ t ∧ t < A 0 ∧ A (144 + 32 * r + s) ≠ 46 ∧ A (144 + 32 * r + t) ≠ 46 ∧ A (144 + 32 * r + s) ≠ A (144 + 32 * r + t))))
/-- a PRINT: object, its rows of bits for o and for u -/
def PS (g ov un A : Int → Int) : Prop :=
  (g 0 = 0 ∧ A 400 = -1) ∨ (1 ≤ g 0 ∧ g 0 ≤ 8 ∧ A 400 = g 0 ∧ 3 ≤ A 0 ∧ ∀ r, 0 ≤ r → r < g 0 →
    (∀ s, 0 ≤ s → s < A 0 → A (401 + 32 * r + s) = 111 ∨ A (401 + 32 * r + s) = 117 ∨ A (401 + 32 * r + s) = 63) ∧
    ov r = msk (fun s => A (401 + 32 * r + s) == 111) (A 0).toNat ∧
    un r = msk (fun s => A (401 + 32 * r + s) == 117) (A 0).toNat)
def HS (w A : Int → Int) : Prop := ∀ k, 0 ≤ k → k < 8 → w k = A (657 + k) ∧ -1 ≤ A (657 + k) ∧ A (657 + k) ≤ 255
def i8 (v : Int) : Int := if v < 128 then v else v - 256
def TP (n : Int) (t T : Int → Int) : Prop := 0 ≤ n ∧ n ≤ 500 ∧ ∀ k, 0 ≤ k → k < n → 0 ≤ T k ∧ T k ≤ 255 ∧ t k = i8 (T k)
/-- a ROW OF NUMBERS -/
def NR (r : Int) (g v so ma nu : Int → Int) : Prop :=
  (g 0 = -1 ∧ so r = -1) ∨ (0 ≤ g 0 ∧ g 0 ≤ 40 ∧ ma r = g 0 ∧ so r = g 1 ∧ 0 ≤ g 1 ∧ g 1 ≤ 3 ∧ ∀ k, 0 ≤ k → k < g 0 → v k = nu (40 * r + k) ∧ -9223372036854775808 ≤ v k ∧ v k < 9223372036854775808)
/-- an image -/
def IM (md im : Int) (b kt bt st wo wv wk po pv pu w A : Int → Int) : Prop :=
  md = im ∧ 0 ≤ md ∧ md ≤ 1 ∧ (md = 1 → BV A ∧ BR b kt bt st A ∧ WS wo wv wk A ∧ PS po pv pu A ∧ HS w A)
/-! what a crossing is -/
/-- how far a weaver is in its stroke, slips counted -/
def sPl (A : Int → Int) (b j i : Int) : Int := i + sm (fun s => if A (116 + s) = b ∧ A (124 + s) = j ∧ A (132 + s) ≤ i then 1 else 0) (A 115).toNat
def sOv (A : Int → Int) (b j i : Int) : Bool := decide (sPl A b j i % (A (35 + b) + A (43 + b)) < A (35 + b))
/-- the rows that the component keeps -/
def WV (w : Int) (rows A : Int → Int) : Prop := 0 ≤ w ∧ w < 256 ∧ ∀ b : Int, 0 ≤ b → b < A 26 → w.toNat.testBit b.toNat = true → ∀ r j, 0 ≤ r → r < A (51 + b) → 0 ≤ j → j < A (27 + b) → rows (b * 160 + (r * A (27 + b) + j)) = msk (fun k => sOv A b j (r * A 0 + k)) (A 0).toNat
