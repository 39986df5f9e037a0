/-! looks: told, breach, cell; and watch, repeal -/
theorem rel_thrown {g h : z_G} (hr : rel g h) (x : Int32) : rel g (z_up h 0 0 x) := by
  have ah : z_ag (z_tch [] [(0, 0)]) h (z_up h 0 0 x) := fr_up fr_rf rfl
  have ag : z_ag (z_tch [] []) g g := fr_rf
  obtain ⟨⟨R, H, hA⟩, hW, hT⟩ := hr
  exact ⟨⟨R, H, rAll_fr hA ag ah (z_apart (by decide)) (z_apart (by decide))⟩, rWood_fr hW ag (z_apart (by decide)) ah (z_apart (by decide)), rTape_fr hT ag (z_apart (by decide)) ah (z_apart (by decide))⟩
theorem y_hasD (a : Int32) (g : z_G) : fY_X0_has a g = some (if a < 0 ∨ g 3 0 ≤ a then 0 else 1, g) := by
  unfold fY_X0_has fY_X0_has_16 fY_X0_has_17
  by_cases c1 : a < 0
  · simp [c1, z_bo_0]
  · by_cases c2 : g 3 0 ≤ a <;> simp [c1, c2, z_bo_0, z_bo_1]
theorem sim_told : z_sim2 rel fY_X7_told fM_X8_told := by
  intro a0 a1 g h hr
  have hr0 := rel_thrown hr 0
  obtain ⟨R, H, hA⟩ := hr0.1
  obtain ⟨t, ht, e1, e2, hj⟩ := hA.2.2.2.2.2.2.2.1
  unfold fY_X7_told fM_X8_told
  simp only [z_let_eq, m_in_0, z_bind_some, y_hasD, e1, e2, zn_pred (show t < 2 ^ 30 by omega)]
  by_cases c : a0 < 0 ∨ nI t ≤ a0
  · exact ⟨-1, g, _, by simp [c], by simp [c], hr0⟩
  obtain ⟨j, hjn, e⟩ := zn_place (by omega) c
  obtain ⟨q1, q2, q3, q4, q5, q6, -⟩ := hj j hjn
  have d3 : vp_in a0 300 := by rw [e]; exact vp_in_nI (by omega) (by omega)
  have d4 : a0.toNatClampNeg = j := by rw [e]; exact nI_clamp (by omega)
  by_cases b0 : a1 = 0
  · exact ⟨g 25 j, g, _, by simp [c, b0, d3, d4, z_ck_in], by simp [c, b0, d3, d4, z_ck_in, q1], hr0⟩
  by_cases b1 : a1 = 1
  · exact ⟨g 26 j, g, _, by simp [c, b1, d3, d4, z_ck_in], by simp [c, b1, d3, d4, z_ck_in, q2], hr0⟩
  by_cases b2 : a1 = 2
  · exact ⟨g 27 j, g, _, by simp [c, b2, d3, d4, z_ck_in], by simp [c, b2, d3, d4, z_ck_in, q3], hr0⟩
  by_cases b3 : a1 = 3
  · exact ⟨g 28 j, g, _, by simp [c, b3, d3, d4, z_ck_in], by simp [c, b3, d3, d4, z_ck_in, q4], hr0⟩
  by_cases b4 : a1 = 4
  · exact ⟨g 29 j, g, _, by simp [c, b4, d3, d4, z_ck_in], by simp [c, b4, d3, d4, z_ck_in, q5], hr0⟩
  by_cases b5 : a1 = 5
  · exact ⟨g 30 j, g, _, by simp [c, b5, d3, d4, z_ck_in], by simp [c, b5, d3, d4, z_ck_in, q6], hr0⟩
  exact ⟨-1, g, _, by simp [c, b0, b1, b2, b3, b4, b5], by simp [c, b0, b1, b2, b3, b4, b5], hr0⟩
/-- cells -/
def kNoCell (R H : Nat) (a0 a1 : Int32) : Prop := a0 < 0 ∨ nI R ≤ a0 ∨ a1 < 0 ∨ nI H ≤ a1
theorem y_holds {R H : Nat} {g : z_G} (e1 : g 1 0 = nI R) (e2 : g 1 1 = nI H) (a0 a1 : Int32) : (kNoCell R H a0 a1 ∧ fY_X2_holds a0 a1 g = some (0, g)) ∨ (¬ kNoCell R H a0 a1 ∧ fY_X2_holds a0 a1 g = some (1, g)) := by
  unfold fY_X2_holds fY_X2_holds_28 fY_X2_holds_29 kNoCell
  rw [e1, e2]
  by_cases c1 : a0 < 0
  · exact Or.inl ⟨Or.inl c1, by simp [c1, z_bo_0]⟩
  by_cases c2 : nI R ≤ a0
  · exact Or.inl ⟨Or.inr (Or.inl c2), by simp [c1, c2, z_bo_0]⟩
  by_cases c3 : a1 < 0
  · exact Or.inl ⟨Or.inr (Or.inr (Or.inl c3)), by simp [c1, c2, c3, z_bo_0]⟩
  by_cases c4 : nI H ≤ a1
  · exact Or.inl ⟨Or.inr (Or.inr (Or.inr c4)), by simp [c1, c2, c3, c4, z_bo_0]⟩
  · exact Or.inr ⟨by simp [c1, c2, c3, c4], by simp [c1, c2, c3, c4, z_bo_1]⟩
theorem m_isCell {R H : Nat} {h : z_G} (hR : R ≤ 8) (hH : H ≤ 8) (e1 : h 0 1 = nI R) (e2 : h 0 2 = nI H) (a0 a1 : Int32) : (kNoCell R H a0 a1 ∧ fM_X8_isCell a0 a1 h = some (0, h)) ∨ (¬ kNoCell R H a0 a1 ∧ fM_X8_isCell a0 a1 h = some (1, h)) := by
  unfold fM_X8_isCell fM_X8_isCell_36 fM_X8_isCell_37 kNoCell
  simp only [m_in_0, z_bind_some, e1, e2, zn_pred (show R < 2 ^ 30 by omega), zn_pred (show H < 2 ^ 30 by omega)]
  by_cases c1 : a0 < 0
  · exact Or.inl ⟨Or.inl c1, by simp [c1, z_bo_0]⟩
  by_cases c2 : nI R ≤ a0
  · exact Or.inl ⟨Or.inr (Or.inl c2), by simp [c1, c2, z_bo_0]⟩
  by_cases c3 : a1 < 0
  · exact Or.inl ⟨Or.inr (Or.inr (Or.inl c3)), by simp [c1, c2, c3, z_bo_0]⟩
  by_cases c4 : nI H ≤ a1
  · exact Or.inl ⟨Or.inr (Or.inr (Or.inr c4)), by simp [c1, c2, c3, c4, z_bo_0]⟩
  · exact Or.inr ⟨by simp [c1, c2, c3, c4], by simp [c1, c2, c3, c4, z_bo_1]⟩
theorem zn_cell {R H : Nat} (hR : R ≤ 8) (hH : H ≤ 8) {a0 a1 : Int32} (c : ¬ kNoCell R H a0 a1) : ∃ ρ η : Nat, ρ < R ∧ η < H ∧ a0 = nI ρ ∧ a1 = nI η ∧ a0 * nI H + a1 = nI (ρ * H + η) ∧ a1 * 8 + a0 = nI (η * 8 + ρ) ∧ ρ * H + η < 64 ∧ η * 8 + ρ < 64 := by
  obtain ⟨ρ, h1, e1⟩ := zn_place (n := R) (by omega) (a := a0) (fun q => c (q.elim Or.inl (fun q => Or.inr (Or.inl q))))
  obtain ⟨η, h2, e2⟩ := zn_place (n := H) (by omega) (a := a1) (fun q => c (q.elim (fun q => Or.inr (Or.inr (Or.inl q))) (fun q => Or.inr (Or.inr (Or.inr q)))))
  have hm : ρ * H ≤ 7 * H := Nat.mul_le_mul_right H (by omega)
  refine ⟨ρ, η, h1, h2, e1, e2, ?_, ?_, by omega, by omega⟩
  · rw [e1, e2, pk_mul, nI_add]
  · rw [e1, e2, show (8 : Int32) = nI 8 from rfl, pk_mul, nI_add]
theorem sim_breach : z_sim2 rel fY_X7_breach fM_X8_breach := by
  intro a0 a1 g h hr
  have hr0 := rel_thrown hr 0
  obtain ⟨R, H, hA⟩ := hr0.1
  obtain ⟨⟨-, hR, -, hH⟩, e1, e2, -, e4, e5⟩ := hA.1
  have hb : rEq R H 19 10 g (z_up h 0 0 0) := hA.2.2.1.2.2.2.2.2.2.2.2.2
  unfold fY_X7_breach fY_X7_breach_33 fM_X8_breach fM_X8_breach_29 fY_X2_at
  simp only [z_let_eq]
  rcases y_holds e1 e2 a0 a1 with ⟨c, y1⟩ | ⟨c, y1⟩
  · rcases m_isCell hR hH e4 e5 a0 a1 with ⟨-, m1⟩ | ⟨c2, -⟩
    · exact ⟨-1, g, _, by simp [y1, z_bind_some], by simp [m1, z_bind_some], hr0⟩
    · exact absurd c c2
  · rcases m_isCell hR hH e4 e5 a0 a1 with ⟨c2, -⟩ | ⟨-, m1⟩
    · exact absurd c2 c
    · obtain ⟨ρ, η, h1, h2, -, -, i1, i2, l1, l2⟩ := zn_cell hR hH c
      have d1 : vp_in (nI (ρ * H + η)) 64 := vp_in_nI l1 (by decide)
      have d2 : (nI (ρ * H + η)).toNatClampNeg = ρ * H + η := nI_clamp (by omega)
      have d3 : vp_in (nI (η * 8 + ρ)) 64 := vp_in_nI l2 (by decide)
      have d4 : (nI (η * 8 + ρ)).toNatClampNeg = η * 8 + ρ := nI_clamp (by omega)
      refine ⟨g 19 (ρ * H + η), g, z_up h 0 0 0, ?_, ?_, hr0⟩
      · simp [y1, z_bind_some, e2, i1, d1, d2, z_ck_in]
      · simp [m1, z_bind_some, i2, d3, d4, z_ck_in, hb ρ η h1 h2]
theorem sim_watch : z_sim1 rel fY_X7_watch fM_X8_watch := by
  intro a0 g h hr
  have hr0 := rel_thrown hr 0
  obtain ⟨R, H, q1, q2, q3, q4, q5, q6, q7, q8, q9, q10, q11, q12⟩ := hr0.1
  obtain ⟨s1, s2, s3, s4, s5, s6⟩ := id q6
  by_cases c : g 0 7 = 0
  · have c2 : z_up h 0 0 0 0 20 = 0 := by rw [← s3]; exact c
    have e1 : fY_X7_watch a0 g = some (1, z_up g 0 8 (a0 &&& 16777215)) := by simp [fY_X7_watch, c, z_let_eq, z_bo_1]
    have e2 : fM_X8_watch a0 h = some (1, z_up (z_up h 0 0 0) 0 24 (a0 &&& 16777215)) := by simp [fM_X8_watch, c2, z_let_eq, z_bo_1]
    have ag : z_ag (z_tch [] [(0, 8)]) g (z_up g 0 8 (a0 &&& 16777215)) := fr_up fr_rf rfl
    have ah : z_ag (z_tch [] [(0, 24)]) (z_up h 0 0 0) (z_up (z_up h 0 0 0) 0 24 (a0 &&& 16777215)) := fr_up fr_rf rfl
    refine ⟨1, _, _, e1, e2, ⟨R, H, rDim_fr q1 ag (z_apart (by decide)) ah (z_apart (by decide)), rFix_fr q2 ag (z_apart (by decide)), rCells_fr q3 ag (z_apart (by decide)) ah (z_apart (by decide)), rZeros_fr q4 ah (z_apart (by decide)), rVal_fr q5 ag (z_apart (by decide)), ?_, rHoles_fr q7 ag (z_apart (by decide)) ah (z_apart (by decide)), rHours_fr q8 ag (z_apart (by decide)) ah (z_apart (by decide)), rActs_fr q9 ag (z_apart (by decide)) ah (z_apart (by decide)), rCold_fr q10 ag (z_apart (by decide)), rLit_fr q11 ag (z_apart (by decide)) ah (z_apart (by decide)), rRules_fr q12 ag (z_apart (by decide)) ah (z_apart (by decide))⟩, rWood_fr hr0.2.1 ag (z_apart (by decide)) ah (z_apart (by decide)), rTape_fr hr0.2.2 ag (z_apart (by decide)) ah (z_apart (by decide))⟩
    unfold rScal
    rw [ag 1 2 rfl, ag 1 3 rfl, ag 0 7 rfl, ag 0 9 rfl, ah 0 22 rfl, ah 0 23 rfl, ah 0 20 rfl, ah 0 25 rfl, z_up_same, z_up_same]
    exact ⟨s1, s2, s3, rfl, s5, s6⟩
  · have c2 : ¬ z_up h 0 0 0 0 20 = 0 := by rw [← s3]; exact c
    exact ⟨0, g, z_up h 0 0 0, by simp [fY_X7_watch, c, z_bo_0], by simp [fM_X8_watch, c2, z_let_eq, z_bo_0], hr0⟩
theorem sim_repeal : z_sim0 rel fY_X7_repeal fM_X8_repeal := by
  intro g h hr
  have hr0 := rel_thrown hr 0
  obtain ⟨R, H, q1, q2, q3, q4, q5, q6, q7, q8, q9, q10, q11, q12⟩ := hr0.1
  obtain ⟨n, hn, n1, n2, -⟩ := id q12
  have s3 : g 0 7 = z_up h 0 0 0 0 20 := q6.2.2.1
  by_cases c : g 0 7 = 0
  · have c2 : z_up h 0 0 0 0 20 = 0 := by rw [← s3]; exact c
    have e1 : fY_X7_repeal g = some (g 5 0, z_up g 5 0 0) := by simp [fY_X7_repeal, c, z_let_eq]
    have e2 : fM_X8_repeal h = some (g 5 0, z_up (z_up h 0 0 0) 0 42 0) := by
      rw [n1, ← n2]; simp [fM_X8_repeal, c2, z_let_eq]
    have ag : z_ag (z_tch [] [(5, 0)]) g (z_up g 5 0 0) := fr_up fr_rf rfl
    have ah : z_ag (z_tch [] [(0, 42)]) (z_up h 0 0 0) (z_up (z_up h 0 0 0) 0 42 0) := fr_up fr_rf rfl
    refine ⟨_, _, _, e1, e2, ⟨R, H, rDim_fr q1 ag (z_apart (by decide)) ah (z_apart (by decide)), rFix_fr q2 ag (z_apart (by decide)), rCells_fr q3 ag (z_apart (by decide)) ah (z_apart (by decide)), rZeros_fr q4 ah (z_apart (by decide)), rVal_fr q5 ag (z_apart (by decide)), rScal_fr q6 ag (z_apart (by decide)) ah (z_apart (by decide)), rHoles_fr q7 ag (z_apart (by decide)) ah (z_apart (by decide)), rHours_fr q8 ag (z_apart (by decide)) ah (z_apart (by decide)), rActs_fr q9 ag (z_apart (by decide)) ah (z_apart (by decide)), rCold_fr q10 ag (z_apart (by decide)), rLit_fr q11 ag (z_apart (by decide)) ah (z_apart (by decide)), ?_⟩, rWood_fr hr0.2.1 ag (z_apart (by decide)) ah (z_apart (by decide)), rTape_fr hr0.2.2 ag (z_apart (by decide)) ah (z_apart (by decide))⟩
    exact ⟨0, by omega, by rw [z_up_same]; rfl, by rw [z_up_same]; rfl, fun r hr9 => absurd hr9 (Nat.not_lt_zero r)⟩
  · have c2 : ¬ z_up h 0 0 0 0 20 = 0 := by rw [← s3]; exact c
    exact ⟨-1, g, z_up h 0 0 0, by simp [fY_X7_repeal, c], by simp [fM_X8_repeal, c2, z_let_eq], hr0⟩
