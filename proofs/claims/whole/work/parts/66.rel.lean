/-! THE RELATION between the yard's state g and the reference's h, theme by theme (woods and tape: parts 70, 72). R rings, H heights; the cell (ρ, η) lies at ρ * H + η there and at η * 8 + ρ here. -/
def rDim (R H : Nat) (g h : z_G) : Prop := (1 ≤ R ∧ R ≤ 8 ∧ 1 ≤ H ∧ H ≤ 8) ∧ g 1 0 = nI R ∧ g 1 1 = nI H ∧ g 1 4 = nI (R * H) ∧ h 0 1 = nI R ∧ h 0 2 = nI H
/-- what a new clamp sets: shares, and which cells are outside -/
def rFix (R H : Nat) (g : z_G) : Prop := ∀ ρ η, ρ < R → η < H → g 8 (ρ * H + η) = nI (2 * ρ + 1) ∧ g 9 (ρ * H + η) = (if ρ + 1 = R ∨ η + 1 = H then 1 else 0)
def rEq (R H a b : Nat) (g h : z_G) : Prop := ∀ ρ η, ρ < R → η < H → g a (ρ * H + η) = h b (η * 8 + ρ)
/-- wood, coal, wet, heat, fire, cover, air, full, kind, breached -/
def rCells (R H : Nat) (g h : z_G) : Prop := rEq R H 10 1 g h ∧ rEq R H 11 2 g h ∧ rEq R H 12 3 g h ∧ rEq R H 13 4 g h ∧ rEq R H 14 5 g h ∧ rEq R H 15 8 g h ∧ rEq R H 16 9 g h ∧ rEq R H 17 7 g h ∧ rEq R H 18 6 g h ∧ rEq R H 19 10 g h
/-- the reference's cells outside the clamp hold nothing -/
def rZero (R H b : Nat) (h : z_G) : Prop := ∀ c, c < 64 → ¬ (c % 8 < R ∧ c / 8 < H) → h b c = 0
def rZeros (R H : Nat) (h : z_G) : Prop := rZero R H 1 h ∧ rZero R H 2 h ∧ rZero R H 5 h ∧ rZero R H 7 h
/-- the numbers' bounds, cell by cell -/
def rVal (R H : Nat) (g : z_G) : Prop := ∀ ρ η, ρ < R → η < H → (∃ k : Nat, k < 4 ∧ g 18 (ρ * H + η) = nI k) ∧ (g 14 (ρ * H + η) = 0 ∨ g 14 (ρ * H + η) = 1) ∧ (∃ k : Nat, k ≤ 9 ∧ g 15 (ρ * H + η) = nI k) ∧ (∃ w c : Nat, w + c ≤ 1500 ∧ g 10 (ρ * H + η) = nI w ∧ g 11 (ρ * H + η) = nI c) ∧ (∃ k : Nat, k ≤ 1000 ∧ g 13 (ρ * H + η) = nI k ∧ (g 14 (ρ * H + η) = 1 → 0 < k)) ∧ (g 17 (ρ * H + η) = 0 ∨ g 17 (ρ * H + η) = nI (100 * (2 * ρ + 1))) ∧ (g 19 (ρ * H + η) = -1 ∨ ∃ k : Nat, k ≤ 300 ∧ g 19 (ρ * H + η) = nI k)
/-- smoke, ash, lit, watched, baskets -/
def rScal (g h : z_G) : Prop := g 1 2 = h 0 22 ∧ g 1 3 = h 0 23 ∧ g 0 7 = h 0 20 ∧ g 0 8 = h 0 24 ∧ g 0 9 = h 0 25 ∧ (g 0 7 = 0 ∨ g 0 7 = 1)
def rHoles (R H : Nat) (g h : z_G) : Prop := ∃ n : Nat, n ≤ 12 ∧ g 2 0 = nI n ∧ h 0 13 = nI n ∧ ∀ k, k < n → g 23 k = h 12 k ∧ (g 23 k = 0 ∨ g 23 k = 1) ∧ ∃ ρ η : Nat, ρ < R ∧ η < H ∧ (ρ + 1 = R ∨ η + 1 = H) ∧ g 22 k = nI (ρ * H + η) ∧ h 11 k = nI (η * 8 + ρ)
/-- hours: rain, wind, smoke, acted, fires, bare -/
def rHours (g h : z_G) : Prop := ∃ t : Nat, t ≤ 300 ∧ g 3 0 = nI t ∧ h 0 21 = nI t ∧ ∀ k, k < t → g 25 k = h 20 k ∧ g 26 k = h 21 k ∧ g 27 k = h 22 k ∧ g 28 k = h 23 k ∧ g 29 k = h 24 k ∧ g 30 k = h 25 k ∧ (∃ a : Nat, a ≤ 9 ∧ g 25 k = nI a) ∧ ∃ a : Nat, a ≤ 3 ∧ g 26 k = nI a
/-- what was done by hand since the lighting -/
def rActs (R H : Nat) (g h : z_G) : Prop := ∃ m : Nat, m ≤ 100 ∧ g 3 7 = nI m ∧ h 0 26 = nI m ∧ ∀ k, k < m → g 31 k = h 19 k ∧ g 34 k = h 18 k ∧ ((g 32 k = 0 ∧ g 33 k = h 17 k ∧ (∃ j : Nat, j < 12 ∧ g 33 k = nI j ∧ nI j < g 2 0) ∧ (g 34 k = 0 ∨ g 34 k = 1)) ∨ (g 32 k = 1 ∧ (∃ ρ η : Nat, ρ < R ∧ η < H ∧ (ρ + 1 = R ∨ η + 1 = H) ∧ g 33 k = nI (ρ * H + η) ∧ h 17 k = nI (12 + (η * 8 + ρ))) ∧ ∃ a : Nat, a ≤ 9 ∧ g 34 k = nI a))
def kDampOf (g : z_G) (i : Nat) : Int32 := if 0 < g 17 i then kDAMP (g 18 i).toNatClampNeg * g 8 i else 0
/-- before the lighting: what is there is what was laid -/
def rCold (R H : Nat) (g : z_G) : Prop := g 0 7 = 0 → g 3 0 = 0 ∧ g 3 7 = 0 ∧ g 1 2 = 0 ∧ g 1 3 = 0 ∧ ∀ ρ η, ρ < R → η < H → g 10 (ρ * H + η) = g 17 (ρ * H + η) ∧ g 11 (ρ * H + η) = 0 ∧ g 12 (ρ * H + η) = kDampOf g (ρ * H + η) ∧ g 13 (ρ * H + η) = 0 ∧ g 14 (ρ * H + η) = 0 ∧ g 16 (ρ * H + η) = 0 ∧ g 19 (ρ * H + η) = -1
/-- since the lighting: what the reference keeps of it is what full, kind and share tell; covers and holes as they were -/
def rLit (R H : Nat) (g h : z_G) : Prop := g 0 7 = 1 → (∀ ρ η, ρ < R → η < H → h 13 (η * 8 + ρ) = g 17 (ρ * H + η) ∧ h 14 (η * 8 + ρ) = kDampOf g (ρ * H + η) ∧ g 20 (ρ * H + η) = h 15 (η * 8 + ρ) ∧ ∃ k : Nat, k ≤ 9 ∧ g 20 (ρ * H + η) = nI k) ∧ rZero R H 13 h ∧ 0 < g 17 0 ∧ ∀ k : Nat, k < 12 → nI k < g 2 0 → g 24 k = h 16 k ∧ (g 24 k = 0 ∨ g 24 k = 1)
/-- the rules: since, act, target; their asks: letter, relation, number -/
def rRules (g h : z_G) : Prop := ∃ n : Nat, n ≤ 8 ∧ g 5 0 = nI n ∧ h 0 42 = nI n ∧ ∀ r, r < n → g 39 r = h 31 r ∧ g 36 r = h 32 r ∧ (g 36 r = 43 ∨ g 36 r = 45 ∨ g 36 r = 94 ∨ g 36 r = 126) ∧ (g 36 r = 43 ∨ g 36 r = 45 → g 37 r = h 33 r ∧ ∃ j : Nat, j < 100000 ∧ g 37 r = nI j) ∧ ∃ a : Nat, 1 ≤ a ∧ a ≤ 10 ∧ g 38 r = nI a ∧ h 34 r = nI a ∧ ∀ i, i < a → (∃ l : Nat, l < 7 ∧ g 40 (10 * r + i) = nI l ∧ h 35 (21 * r + i) = kLETTERS l) ∧ g 41 (10 * r + i) = h 36 (21 * r + i) ∧ g 42 (10 * r + i) = h 37 (21 * r + i)
