theorem rDim_fr {R H : Nat} {g g' h h' : z_G} {tg : Nat → Nat → Bool} {th : Nat → Nat → Bool} (hr : rDim R H g h) (ag : z_ag tg g g') (h1 : ∀ a j, z_tch [] [(1, 0), (1, 1), (1, 4)] a j = true → tg a j = false) (ah : z_ag th h h') (h2 : ∀ a j, z_tch [] [(0, 1), (0, 2)] a j = true → th a j = false) : rDim R H g' h' := by
  have y1_0 : g' 1 0 = g 1 0 := ag 1 0 (h1 1 0 rfl)
  have y1_1 : g' 1 1 = g 1 1 := ag 1 1 (h1 1 1 rfl)
  have y1_4 : g' 1 4 = g 1 4 := ag 1 4 (h1 1 4 rfl)
  have m0_1 : h' 0 1 = h 0 1 := ah 0 1 (h2 0 1 rfl)
  have m0_2 : h' 0 2 = h 0 2 := ah 0 2 (h2 0 2 rfl)
  unfold rDim at hr ⊢
  simp only [y1_0, y1_1, y1_4, m0_1, m0_2]
  exact hr
theorem rFix_fr {R H : Nat} {g g' : z_G} {tg : Nat → Nat → Bool} (hr : rFix R H g) (ag : z_ag tg g g') (h1 : ∀ a j, z_tch [8, 9] [] a j = true → tg a j = false) : rFix R H g' := by
  have y8 : g' 8 = g 8 := funext fun j => ag 8 j (h1 8 j (z_tch_row rfl j))
  have y9 : g' 9 = g 9 := funext fun j => ag 9 j (h1 9 j (z_tch_row rfl j))
  unfold rFix at hr ⊢
  simp only [y8, y9]
  exact hr
theorem rCells_fr {R H : Nat} {g g' h h' : z_G} {tg : Nat → Nat → Bool} {th : Nat → Nat → Bool} (hr : rCells R H g h) (ag : z_ag tg g g') (h1 : ∀ a j, z_tch [10, 11, 12, 13, 14, 15, 16, 17, 18, 19] [] a j = true → tg a j = false) (ah : z_ag th h h') (h2 : ∀ a j, z_tch [1, 2, 3, 4, 5, 6, 7, 8, 9, 10] [] a j = true → th a j = false) : rCells R H g' h' := by
  have y10 : g' 10 = g 10 := funext fun j => ag 10 j (h1 10 j (z_tch_row rfl j))
  have y11 : g' 11 = g 11 := funext fun j => ag 11 j (h1 11 j (z_tch_row rfl j))
  have y12 : g' 12 = g 12 := funext fun j => ag 12 j (h1 12 j (z_tch_row rfl j))
  have y13 : g' 13 = g 13 := funext fun j => ag 13 j (h1 13 j (z_tch_row rfl j))
  have y14 : g' 14 = g 14 := funext fun j => ag 14 j (h1 14 j (z_tch_row rfl j))
  have y15 : g' 15 = g 15 := funext fun j => ag 15 j (h1 15 j (z_tch_row rfl j))
  have y16 : g' 16 = g 16 := funext fun j => ag 16 j (h1 16 j (z_tch_row rfl j))
  have y17 : g' 17 = g 17 := funext fun j => ag 17 j (h1 17 j (z_tch_row rfl j))
  have y18 : g' 18 = g 18 := funext fun j => ag 18 j (h1 18 j (z_tch_row rfl j))
  have y19 : g' 19 = g 19 := funext fun j => ag 19 j (h1 19 j (z_tch_row rfl j))
  have m1 : h' 1 = h 1 := funext fun j => ah 1 j (h2 1 j (z_tch_row rfl j))
  have m2 : h' 2 = h 2 := funext fun j => ah 2 j (h2 2 j (z_tch_row rfl j))
  have m3 : h' 3 = h 3 := funext fun j => ah 3 j (h2 3 j (z_tch_row rfl j))
  have m4 : h' 4 = h 4 := funext fun j => ah 4 j (h2 4 j (z_tch_row rfl j))
  have m5 : h' 5 = h 5 := funext fun j => ah 5 j (h2 5 j (z_tch_row rfl j))
  have m6 : h' 6 = h 6 := funext fun j => ah 6 j (h2 6 j (z_tch_row rfl j))
  have m7 : h' 7 = h 7 := funext fun j => ah 7 j (h2 7 j (z_tch_row rfl j))
  have m8 : h' 8 = h 8 := funext fun j => ah 8 j (h2 8 j (z_tch_row rfl j))
  have m9 : h' 9 = h 9 := funext fun j => ah 9 j (h2 9 j (z_tch_row rfl j))
  have m10 : h' 10 = h 10 := funext fun j => ah 10 j (h2 10 j (z_tch_row rfl j))
  unfold rCells rEq at hr ⊢
  simp only [y10, y11, y12, y13, y14, y15, y16, y17, y18, y19, m1, m2, m3, m4, m5, m6, m7, m8, m9, m10]
  exact hr
theorem rZeros_fr {R H : Nat} {h h' : z_G} {th : Nat → Nat → Bool} (hr : rZeros R H h) (ah : z_ag th h h') (h2 : ∀ a j, z_tch [1, 2, 5, 7] [] a j = true → th a j = false) : rZeros R H h' := by
  have m1 : h' 1 = h 1 := funext fun j => ah 1 j (h2 1 j (z_tch_row rfl j))
  have m2 : h' 2 = h 2 := funext fun j => ah 2 j (h2 2 j (z_tch_row rfl j))
  have m5 : h' 5 = h 5 := funext fun j => ah 5 j (h2 5 j (z_tch_row rfl j))
  have m7 : h' 7 = h 7 := funext fun j => ah 7 j (h2 7 j (z_tch_row rfl j))
  unfold rZeros rZero at hr ⊢
  simp only [m1, m2, m5, m7]
  exact hr
theorem rVal_fr {R H : Nat} {g g' : z_G} {tg : Nat → Nat → Bool} (hr : rVal R H g) (ag : z_ag tg g g') (h1 : ∀ a j, z_tch [18, 14, 15, 10, 11, 13, 17, 19] [] a j = true → tg a j = false) : rVal R H g' := by
  have y18 : g' 18 = g 18 := funext fun j => ag 18 j (h1 18 j (z_tch_row rfl j))
  have y14 : g' 14 = g 14 := funext fun j => ag 14 j (h1 14 j (z_tch_row rfl j))
  have y15 : g' 15 = g 15 := funext fun j => ag 15 j (h1 15 j (z_tch_row rfl j))
  have y10 : g' 10 = g 10 := funext fun j => ag 10 j (h1 10 j (z_tch_row rfl j))
  have y11 : g' 11 = g 11 := funext fun j => ag 11 j (h1 11 j (z_tch_row rfl j))
  have y13 : g' 13 = g 13 := funext fun j => ag 13 j (h1 13 j (z_tch_row rfl j))
  have y17 : g' 17 = g 17 := funext fun j => ag 17 j (h1 17 j (z_tch_row rfl j))
  have y19 : g' 19 = g 19 := funext fun j => ag 19 j (h1 19 j (z_tch_row rfl j))
  unfold rVal at hr ⊢
  simp only [y18, y14, y15, y10, y11, y13, y17, y19]
  exact hr
theorem rScal_fr {g g' h h' : z_G} {tg : Nat → Nat → Bool} {th : Nat → Nat → Bool} (hr : rScal g h) (ag : z_ag tg g g') (h1 : ∀ a j, z_tch [] [(1, 2), (1, 3), (0, 7), (0, 8), (0, 9)] a j = true → tg a j = false) (ah : z_ag th h h') (h2 : ∀ a j, z_tch [] [(0, 22), (0, 23), (0, 20), (0, 24), (0, 25)] a j = true → th a j = false) : rScal g' h' := by
  have y1_2 : g' 1 2 = g 1 2 := ag 1 2 (h1 1 2 rfl)
  have y1_3 : g' 1 3 = g 1 3 := ag 1 3 (h1 1 3 rfl)
  have y0_7 : g' 0 7 = g 0 7 := ag 0 7 (h1 0 7 rfl)
  have y0_8 : g' 0 8 = g 0 8 := ag 0 8 (h1 0 8 rfl)
  have y0_9 : g' 0 9 = g 0 9 := ag 0 9 (h1 0 9 rfl)
  have m0_22 : h' 0 22 = h 0 22 := ah 0 22 (h2 0 22 rfl)
  have m0_23 : h' 0 23 = h 0 23 := ah 0 23 (h2 0 23 rfl)
  have m0_20 : h' 0 20 = h 0 20 := ah 0 20 (h2 0 20 rfl)
  have m0_24 : h' 0 24 = h 0 24 := ah 0 24 (h2 0 24 rfl)
  have m0_25 : h' 0 25 = h 0 25 := ah 0 25 (h2 0 25 rfl)
  unfold rScal at hr ⊢
  simp only [y1_2, y1_3, y0_7, y0_8, y0_9, m0_22, m0_23, m0_20, m0_24, m0_25]
  exact hr
theorem rHoles_fr {R H : Nat} {g g' h h' : z_G} {tg : Nat → Nat → Bool} {th : Nat → Nat → Bool} (hr : rHoles R H g h) (ag : z_ag tg g g') (h1 : ∀ a j, z_tch [22, 23] [(2, 0)] a j = true → tg a j = false) (ah : z_ag th h h') (h2 : ∀ a j, z_tch [11, 12] [(0, 13)] a j = true → th a j = false) : rHoles R H g' h' := by
  have y22 : g' 22 = g 22 := funext fun j => ag 22 j (h1 22 j (z_tch_row rfl j))
  have y23 : g' 23 = g 23 := funext fun j => ag 23 j (h1 23 j (z_tch_row rfl j))
  have y2_0 : g' 2 0 = g 2 0 := ag 2 0 (h1 2 0 rfl)
  have m11 : h' 11 = h 11 := funext fun j => ah 11 j (h2 11 j (z_tch_row rfl j))
  have m12 : h' 12 = h 12 := funext fun j => ah 12 j (h2 12 j (z_tch_row rfl j))
  have m0_13 : h' 0 13 = h 0 13 := ah 0 13 (h2 0 13 rfl)
  unfold rHoles at hr ⊢
  simp only [y22, y23, y2_0, m11, m12, m0_13]
  exact hr
theorem rHours_fr {g g' h h' : z_G} {tg : Nat → Nat → Bool} {th : Nat → Nat → Bool} (hr : rHours g h) (ag : z_ag tg g g') (h1 : ∀ a j, z_tch [25, 26, 27, 28, 29, 30] [(3, 0)] a j = true → tg a j = false) (ah : z_ag th h h') (h2 : ∀ a j, z_tch [20, 21, 22, 23, 24, 25] [(0, 21)] a j = true → th a j = false) : rHours g' h' := by
  have y25 : g' 25 = g 25 := funext fun j => ag 25 j (h1 25 j (z_tch_row rfl j))
  have y26 : g' 26 = g 26 := funext fun j => ag 26 j (h1 26 j (z_tch_row rfl j))
  have y27 : g' 27 = g 27 := funext fun j => ag 27 j (h1 27 j (z_tch_row rfl j))
  have y28 : g' 28 = g 28 := funext fun j => ag 28 j (h1 28 j (z_tch_row rfl j))
  have y29 : g' 29 = g 29 := funext fun j => ag 29 j (h1 29 j (z_tch_row rfl j))
  have y30 : g' 30 = g 30 := funext fun j => ag 30 j (h1 30 j (z_tch_row rfl j))
  have y3_0 : g' 3 0 = g 3 0 := ag 3 0 (h1 3 0 rfl)
  have m20 : h' 20 = h 20 := funext fun j => ah 20 j (h2 20 j (z_tch_row rfl j))
  have m21 : h' 21 = h 21 := funext fun j => ah 21 j (h2 21 j (z_tch_row rfl j))
  have m22 : h' 22 = h 22 := funext fun j => ah 22 j (h2 22 j (z_tch_row rfl j))
  have m23 : h' 23 = h 23 := funext fun j => ah 23 j (h2 23 j (z_tch_row rfl j))
  have m24 : h' 24 = h 24 := funext fun j => ah 24 j (h2 24 j (z_tch_row rfl j))
  have m25 : h' 25 = h 25 := funext fun j => ah 25 j (h2 25 j (z_tch_row rfl j))
  have m0_21 : h' 0 21 = h 0 21 := ah 0 21 (h2 0 21 rfl)
  unfold rHours at hr ⊢
  simp only [y25, y26, y27, y28, y29, y30, y3_0, m20, m21, m22, m23, m24, m25, m0_21]
  exact hr
theorem rActs_fr {R H : Nat} {g g' h h' : z_G} {tg : Nat → Nat → Bool} {th : Nat → Nat → Bool} (hr : rActs R H g h) (ag : z_ag tg g g') (h1 : ∀ a j, z_tch [31, 32, 33, 34] [(3, 7), (2, 0)] a j = true → tg a j = false) (ah : z_ag th h h') (h2 : ∀ a j, z_tch [17, 18, 19] [(0, 26)] a j = true → th a j = false) : rActs R H g' h' := by
  have y31 : g' 31 = g 31 := funext fun j => ag 31 j (h1 31 j (z_tch_row rfl j))
  have y32 : g' 32 = g 32 := funext fun j => ag 32 j (h1 32 j (z_tch_row rfl j))
  have y33 : g' 33 = g 33 := funext fun j => ag 33 j (h1 33 j (z_tch_row rfl j))
  have y34 : g' 34 = g 34 := funext fun j => ag 34 j (h1 34 j (z_tch_row rfl j))
  have y3_7 : g' 3 7 = g 3 7 := ag 3 7 (h1 3 7 rfl)
  have y2_0 : g' 2 0 = g 2 0 := ag 2 0 (h1 2 0 rfl)
  have m17 : h' 17 = h 17 := funext fun j => ah 17 j (h2 17 j (z_tch_row rfl j))
  have m18 : h' 18 = h 18 := funext fun j => ah 18 j (h2 18 j (z_tch_row rfl j))
  have m19 : h' 19 = h 19 := funext fun j => ah 19 j (h2 19 j (z_tch_row rfl j))
  have m0_26 : h' 0 26 = h 0 26 := ah 0 26 (h2 0 26 rfl)
  unfold rActs at hr ⊢
  simp only [y31, y32, y33, y34, y3_7, y2_0, m17, m18, m19, m0_26]
  exact hr
theorem rCold_fr {R H : Nat} {g g' : z_G} {tg : Nat → Nat → Bool} (hr : rCold R H g) (ag : z_ag tg g g') (h1 : ∀ a j, z_tch [8, 10, 11, 12, 13, 14, 16, 17, 18, 19] [(0, 7), (3, 0), (3, 7), (1, 2), (1, 3)] a j = true → tg a j = false) : rCold R H g' := by
  have y8 : g' 8 = g 8 := funext fun j => ag 8 j (h1 8 j (z_tch_row rfl j))
  have y10 : g' 10 = g 10 := funext fun j => ag 10 j (h1 10 j (z_tch_row rfl j))
  have y11 : g' 11 = g 11 := funext fun j => ag 11 j (h1 11 j (z_tch_row rfl j))
  have y12 : g' 12 = g 12 := funext fun j => ag 12 j (h1 12 j (z_tch_row rfl j))
  have y13 : g' 13 = g 13 := funext fun j => ag 13 j (h1 13 j (z_tch_row rfl j))
  have y14 : g' 14 = g 14 := funext fun j => ag 14 j (h1 14 j (z_tch_row rfl j))
  have y16 : g' 16 = g 16 := funext fun j => ag 16 j (h1 16 j (z_tch_row rfl j))
  have y17 : g' 17 = g 17 := funext fun j => ag 17 j (h1 17 j (z_tch_row rfl j))
  have y18 : g' 18 = g 18 := funext fun j => ag 18 j (h1 18 j (z_tch_row rfl j))
  have y19 : g' 19 = g 19 := funext fun j => ag 19 j (h1 19 j (z_tch_row rfl j))
  have y0_7 : g' 0 7 = g 0 7 := ag 0 7 (h1 0 7 rfl)
  have y3_0 : g' 3 0 = g 3 0 := ag 3 0 (h1 3 0 rfl)
  have y3_7 : g' 3 7 = g 3 7 := ag 3 7 (h1 3 7 rfl)
  have y1_2 : g' 1 2 = g 1 2 := ag 1 2 (h1 1 2 rfl)
  have y1_3 : g' 1 3 = g 1 3 := ag 1 3 (h1 1 3 rfl)
  unfold rCold kDampOf at hr ⊢
  simp only [y8, y10, y11, y12, y13, y14, y16, y17, y18, y19, y0_7, y3_0, y3_7, y1_2, y1_3]
  exact hr
theorem rLit_fr {R H : Nat} {g g' h h' : z_G} {tg : Nat → Nat → Bool} {th : Nat → Nat → Bool} (hr : rLit R H g h) (ag : z_ag tg g g') (h1 : ∀ a j, z_tch [8, 17, 18, 20, 24] [(0, 7), (2, 0)] a j = true → tg a j = false) (ah : z_ag th h h') (h2 : ∀ a j, z_tch [13, 14, 15, 16] [] a j = true → th a j = false) : rLit R H g' h' := by
  have y8 : g' 8 = g 8 := funext fun j => ag 8 j (h1 8 j (z_tch_row rfl j))
  have y17 : g' 17 = g 17 := funext fun j => ag 17 j (h1 17 j (z_tch_row rfl j))
  have y18 : g' 18 = g 18 := funext fun j => ag 18 j (h1 18 j (z_tch_row rfl j))
  have y20 : g' 20 = g 20 := funext fun j => ag 20 j (h1 20 j (z_tch_row rfl j))
  have y24 : g' 24 = g 24 := funext fun j => ag 24 j (h1 24 j (z_tch_row rfl j))
  have y0_7 : g' 0 7 = g 0 7 := ag 0 7 (h1 0 7 rfl)
  have y2_0 : g' 2 0 = g 2 0 := ag 2 0 (h1 2 0 rfl)
  have m13 : h' 13 = h 13 := funext fun j => ah 13 j (h2 13 j (z_tch_row rfl j))
  have m14 : h' 14 = h 14 := funext fun j => ah 14 j (h2 14 j (z_tch_row rfl j))
  have m15 : h' 15 = h 15 := funext fun j => ah 15 j (h2 15 j (z_tch_row rfl j))
  have m16 : h' 16 = h 16 := funext fun j => ah 16 j (h2 16 j (z_tch_row rfl j))
  unfold rLit kDampOf rZero at hr ⊢
  simp only [y8, y17, y18, y20, y24, y0_7, y2_0, m13, m14, m15, m16]
  exact hr
theorem rRules_fr {g g' h h' : z_G} {tg : Nat → Nat → Bool} {th : Nat → Nat → Bool} (hr : rRules g h) (ag : z_ag tg g g') (h1 : ∀ a j, z_tch [36, 37, 38, 39, 40, 41, 42] [(5, 0)] a j = true → tg a j = false) (ah : z_ag th h h') (h2 : ∀ a j, z_tch [31, 32, 33, 34, 35, 36, 37] [(0, 42)] a j = true → th a j = false) : rRules g' h' := by
  have y36 : g' 36 = g 36 := funext fun j => ag 36 j (h1 36 j (z_tch_row rfl j))
  have y37 : g' 37 = g 37 := funext fun j => ag 37 j (h1 37 j (z_tch_row rfl j))
  have y38 : g' 38 = g 38 := funext fun j => ag 38 j (h1 38 j (z_tch_row rfl j))
  have y39 : g' 39 = g 39 := funext fun j => ag 39 j (h1 39 j (z_tch_row rfl j))
  have y40 : g' 40 = g 40 := funext fun j => ag 40 j (h1 40 j (z_tch_row rfl j))
  have y41 : g' 41 = g 41 := funext fun j => ag 41 j (h1 41 j (z_tch_row rfl j))
  have y42 : g' 42 = g 42 := funext fun j => ag 42 j (h1 42 j (z_tch_row rfl j))
  have y5_0 : g' 5 0 = g 5 0 := ag 5 0 (h1 5 0 rfl)
  have m31 : h' 31 = h 31 := funext fun j => ah 31 j (h2 31 j (z_tch_row rfl j))
  have m32 : h' 32 = h 32 := funext fun j => ah 32 j (h2 32 j (z_tch_row rfl j))
  have m33 : h' 33 = h 33 := funext fun j => ah 33 j (h2 33 j (z_tch_row rfl j))
  have m34 : h' 34 = h 34 := funext fun j => ah 34 j (h2 34 j (z_tch_row rfl j))
  have m35 : h' 35 = h 35 := funext fun j => ah 35 j (h2 35 j (z_tch_row rfl j))
  have m36 : h' 36 = h 36 := funext fun j => ah 36 j (h2 36 j (z_tch_row rfl j))
  have m37 : h' 37 = h 37 := funext fun j => ah 37 j (h2 37 j (z_tch_row rfl j))
  have m0_42 : h' 0 42 = h 0 42 := ah 0 42 (h2 0 42 rfl)
  unfold rRules at hr ⊢
  simp only [y36, y37, y38, y39, y40, y41, y42, y5_0, m31, m32, m33, m34, m35, m36, m37, m0_42]
  exact hr
theorem rWood_fr {g g' h h' : z_G} {tg : Nat → Nat → Bool} {th : Nat → Nat → Bool} (hr : rWood g h) (ag : z_ag tg g g') (h1 : ∀ a j, z_tch [44, 45, 46] [(7, 0)] a j = true → tg a j = false) (ah : z_ag th h h') (h2 : ∀ a j, z_tch [38, 39, 40] [(0, 52)] a j = true → th a j = false) : rWood g' h' := by
  have y44 : g' 44 = g 44 := funext fun j => ag 44 j (h1 44 j (z_tch_row rfl j))
  have y45 : g' 45 = g 45 := funext fun j => ag 45 j (h1 45 j (z_tch_row rfl j))
  have y46 : g' 46 = g 46 := funext fun j => ag 46 j (h1 46 j (z_tch_row rfl j))
  have y7_0 : g' 7 0 = g 7 0 := ag 7 0 (h1 7 0 rfl)
  have m38 : h' 38 = h 38 := funext fun j => ah 38 j (h2 38 j (z_tch_row rfl j))
  have m39 : h' 39 = h 39 := funext fun j => ah 39 j (h2 39 j (z_tch_row rfl j))
  have m40 : h' 40 = h 40 := funext fun j => ah 40 j (h2 40 j (z_tch_row rfl j))
  have m0_52 : h' 0 52 = h 0 52 := ah 0 52 (h2 0 52 rfl)
  unfold rWood at hr ⊢
  simp only [y44, y45, y46, y7_0, m38, m39, m40, m0_52]
  exact hr
theorem rTape_fr {g g' h h' : z_G} {tg : Nat → Nat → Bool} {th : Nat → Nat → Bool} (hr : rTape g h) (ag : z_ag tg g g') (h1 : ∀ a j, z_tch [35] [(4, 0)] a j = true → tg a j = false) (ah : z_ag th h h') (h2 : ∀ a j, z_tch [30] [(0, 41)] a j = true → th a j = false) : rTape g' h' := by
  have y35 : g' 35 = g 35 := funext fun j => ag 35 j (h1 35 j (z_tch_row rfl j))
  have y4_0 : g' 4 0 = g 4 0 := ag 4 0 (h1 4 0 rfl)
  have m30 : h' 30 = h 30 := funext fun j => ah 30 j (h2 30 j (z_tch_row rfl j))
  have m0_41 : h' 0 41 = h 0 41 := ah 0 41 (h2 0 41 rfl)
  unfold rTape at hr ⊢
  simp only [y35, y4_0, m30, m0_41]
  exact hr
def rAll (R H : Nat) (g h : z_G) : Prop := rDim R H g h ∧ rFix R H g ∧ rCells R H g h ∧ rZeros R H h ∧ rVal R H g ∧ rScal g h ∧ rHoles R H g h ∧ rHours g h ∧ rActs R H g h ∧ rCold R H g ∧ rLit R H g h ∧ rRules g h
def rel (g h : z_G) : Prop := (∃ R H : Nat, rAll R H g h) ∧ rWood g h ∧ rTape g h
/-- places apart: what the first list touches the second doesn't -/
theorem z_apart {rows rows1 : List Nat} {els els1 : List (Nat × Nat)} (h : (rows1.all (fun a => !rows.contains a && els.all (fun e => e.1 != a)) && els1.all (fun e => !rows.contains e.1 && !els.contains e)) = true) : ∀ a j, z_tch rows1 els1 a j = true → z_tch rows els a j = false := by
  intro a j ht
  simp only [z_tch, Bool.or_eq_true] at ht
  simp only [Bool.and_eq_true, List.all_eq_true, Bool.not_eq_true', bne_iff_ne] at h
  simp only [z_tch, Bool.or_eq_false_iff]
  rcases ht with ht | ht
  · obtain ⟨q1, q2⟩ := h.1 a (List.contains_iff_mem.mp ht)
    refine ⟨q1, ?_⟩
    cases hc : els.contains (a, j) with
    | false => rfl
    | true => exact absurd rfl (q2 (a, j) (List.contains_iff_mem.mp hc))
  · exact h.2 (a, j) (List.contains_iff_mem.mp ht)
theorem z_less {rows rows1 : List Nat} {els els1 : List (Nat × Nat)} {t : Nat → Nat → Bool} (h : ∀ a j, z_tch rows els a j = true → t a j = false) (hs : (rows1.all (fun a => rows.contains a) && els1.all (fun e => rows.contains e.1 || els.contains e)) = true) : ∀ a j, z_tch rows1 els1 a j = true → t a j = false := by
  intro a j ht
  refine h a j ?_
  cases hc : z_tch rows els a j with
  | true => rfl
  | false => rw [z_tch_sub hs a j hc] at ht; cases ht
theorem rAll_fr {R H : Nat} {g g' h h' : z_G} {tg th : Nat → Nat → Bool} (hr : rAll R H g h) (ag : z_ag tg g g') (ah : z_ag th h h') (h1 : ∀ a j, z_tch [8, 9, 10, 11, 12, 13, 14, 15, 16, 17, 18, 19, 20, 22, 23, 24, 25, 26, 27, 28, 29, 30, 31, 32, 33, 34, 36, 37, 38, 39, 40, 41, 42] [(0, 7), (0, 8), (0, 9), (1, 0), (1, 1), (1, 2), (1, 3), (1, 4), (2, 0), (3, 0), (3, 7), (5, 0)] a j = true → tg a j = false) (h2 : ∀ a j, z_tch [1, 2, 3, 4, 5, 6, 7, 8, 9, 10, 11, 12, 13, 14, 15, 16, 17, 18, 19, 20, 21, 22, 23, 24, 25, 31, 32, 33, 34, 35, 36, 37] [(0, 1), (0, 2), (0, 13), (0, 20), (0, 21), (0, 22), (0, 23), (0, 24), (0, 25), (0, 26), (0, 42)] a j = true → th a j = false) : rAll R H g' h' := by
  obtain ⟨q1, q2, q3, q4, q5, q6, q7, q8, q9, q10, q11, q12⟩ := hr
  exact ⟨rDim_fr q1 ag (z_less h1 rfl) ah (z_less h2 rfl), rFix_fr q2 ag (z_less h1 rfl), rCells_fr q3 ag (z_less h1 rfl) ah (z_less h2 rfl), rZeros_fr q4 ah (z_less h2 rfl), rVal_fr q5 ag (z_less h1 rfl), rScal_fr q6 ag (z_less h1 rfl) ah (z_less h2 rfl), rHoles_fr q7 ag (z_less h1 rfl) ah (z_less h2 rfl), rHours_fr q8 ag (z_less h1 rfl) ah (z_less h2 rfl), rActs_fr q9 ag (z_less h1 rfl) ah (z_less h2 rfl), rCold_fr q10 ag (z_less h1 rfl), rLit_fr q11 ag (z_less h1 rfl) ah (z_less h2 rfl), rRules_fr q12 ag (z_less h1 rfl) ah (z_less h2 rfl)⟩
theorem sim_wood : z_sim3 rel fY_X7_wood fM_X8_wood := by
  intro a0 a1 a2 g h hr
  obtain ⟨r, g', h', e1, e2, hw⟩ := w_wood (a0 := a0) (a1 := a1) (a2 := a2) hr.2.1
  exact ⟨r, g', h', e1, e2, ⟨(let ⟨R, H, hA⟩ := hr.1; ⟨R, H, rAll_fr hA (frY_X7_wood a0 a1 a2 g r g' e1) (frM_X8_wood a0 a1 a2 h r h' e2) (z_apart (by decide)) (z_apart (by decide))⟩), hw, rTape_fr hr.2.2 (frY_X7_wood a0 a1 a2 g r g' e1) (z_apart (by decide)) (frM_X8_wood a0 a1 a2 h r h' e2) (z_apart (by decide))⟩⟩
theorem sim_years : z_sim1 rel fY_X7_years fM_X8_years := by
  intro a0 g h hr
  obtain ⟨r, g', h', e1, e2, hw⟩ := w_years (a0 := a0) hr.2.1
  exact ⟨r, g', h', e1, e2, ⟨(let ⟨R, H, hA⟩ := hr.1; ⟨R, H, rAll_fr hA (frY_X7_years a0 g r g' e1) (frM_X8_years a0 h r h' e2) (z_apart (by decide)) (z_apart (by decide))⟩), hw, rTape_fr hr.2.2 (frY_X7_years a0 g r g' e1) (z_apart (by decide)) (frM_X8_years a0 h r h' e2) (z_apart (by decide))⟩⟩
theorem sim_cut : z_sim1 rel fY_X7_cut fM_X8_cut := by
  intro a0 g h hr
  obtain ⟨r, g', h', e1, e2, hw⟩ := w_cut (a0 := a0) hr.2.1
  exact ⟨r, g', h', e1, e2, ⟨(let ⟨R, H, hA⟩ := hr.1; ⟨R, H, rAll_fr hA (frY_X7_cut a0 g r g' e1) (frM_X8_cut a0 h r h' e2) (z_apart (by decide)) (z_apart (by decide))⟩), hw, rTape_fr hr.2.2 (frY_X7_cut a0 g r g' e1) (z_apart (by decide)) (frM_X8_cut a0 h r h' e2) (z_apart (by decide))⟩⟩
theorem sim_stand : z_simT2 rel fY_X7_stand fY_X7_standT fM_X8_stand := by
  intro a0 a1 g h hr
  obtain ⟨r, r2, g', h', e2, hw, q | q⟩ := w_stand (a0 := a0) (a1 := a1) hr.2.1
  · exact ⟨r, r2, g', h', e2, ⟨(let ⟨R, H, hA⟩ := hr.1; ⟨R, H, rAll_fr hA (frY_X7_stand a0 a1 g r g' q.1) (frM_X8_stand a0 a1 h r2 h' e2) (z_apart (by decide)) (z_apart (by decide))⟩), hw, rTape_fr hr.2.2 (frY_X7_stand a0 a1 g r g' q.1) (z_apart (by decide)) (frM_X8_stand a0 a1 h r2 h' e2) (z_apart (by decide))⟩, Or.inl q⟩
  · exact ⟨r, r2, g', h', e2, ⟨(let ⟨R, H, hA⟩ := hr.1; ⟨R, H, rAll_fr hA (frY_X7_standT a0 a1 g r g' q.1) (frM_X8_stand a0 a1 h r2 h' e2) (z_apart (by decide)) (z_apart (by decide))⟩), hw, rTape_fr hr.2.2 (frY_X7_standT a0 a1 g r g' q.1) (z_apart (by decide)) (frM_X8_stand a0 a1 h r2 h' e2) (z_apart (by decide))⟩, Or.inr q⟩
theorem sim_sign : z_sim1 rel fY_X7_sign fM_X8_sign := by
  intro a0 g h hr
  obtain ⟨r, g', h', e1, e2, hw⟩ := t_sign (a0 := a0) hr.2.2
  exact ⟨r, g', h', e1, e2, ⟨(let ⟨R, H, hA⟩ := hr.1; ⟨R, H, rAll_fr hA (frY_X7_sign a0 g r g' e1) (frM_X8_sign a0 h r h' e2) (z_apart (by decide)) (z_apart (by decide))⟩), rWood_fr hr.2.1 (frY_X7_sign a0 g r g' e1) (z_apart (by decide)) (frM_X8_sign a0 h r h' e2) (z_apart (by decide)), hw⟩⟩
theorem sim_end : z_sim1 rel fY_X7_end fM_X8_end := by
  intro a0 g h hr
  obtain ⟨r, g', h', e1, e2, hw⟩ := t_end (a0 := a0) hr.2.2
  exact ⟨r, g', h', e1, e2, ⟨(let ⟨R, H, hA⟩ := hr.1; ⟨R, H, rAll_fr hA (frY_X7_end a0 g r g' e1) (frM_X8_end a0 h r h' e2) (z_apart (by decide)) (z_apart (by decide))⟩), rWood_fr hr.2.1 (frY_X7_end a0 g r g' e1) (z_apart (by decide)) (frM_X8_end a0 h r h' e2) (z_apart (by decide)), hw⟩⟩
