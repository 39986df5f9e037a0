theorem zn_pred {n : Nat} (hn : n < 2 ^ 30) (a : Int32) : nI n - 1 < a ↔ nI n ≤ a := by
  rw [Int32.lt_iff_toInt_lt, Int32.le_iff_toInt_le, show (1 : Int32) = nI 1 from rfl, pk_sub_toInt hn (by omega), nI_toInt (by omega)]
  omega
theorem y_hasW (a : Int32) (g : z_G) : fY_X6_has a g = some (if a < 0 ∨ g 7 0 ≤ a then 0 else 1, g) := by
  unfold fY_X6_has fY_X6_has_16 fY_X6_has_17
  by_cases c1 : a < 0
  · simp [c1, z_bo_0]
  · by_cases c2 : g 7 0 ≤ a <;> simp [c1, c2, z_bo_0, z_bo_1]
/-- a place that is asked for is one of n, or isn't -/
theorem zn_place {n : Nat} (hn : n < 2 ^ 31) {a : Int32} (h : ¬ (a < 0 ∨ nI n ≤ a)) : ∃ j, j < n ∧ a = nI j := by
  obtain ⟨j, hj, e⟩ := nI_of (x := a) (fun c => h (Or.inl c))
  refine ⟨j, ?_, e⟩
  have h2 : ¬ nI n ≤ nI j := fun c => h (Or.inr (by rw [e]; exact c))
  rw [nI_leI hn hj] at h2
  omega
theorem zn_subs {x y : Int32} (h1 : 0 ≤ x.toInt) (h2 : x.toInt ≤ 100000) (h3 : 0 ≤ y.toInt) (h4 : y.toInt ≤ 100000) : (0 : Int32) < x - y ↔ ¬ x ≤ y := by
  rw [Int32.lt_iff_toInt_lt, Int32.le_iff_toInt_le, fb_subI (by omega) (by omega), show (0 : Int32).toInt = 0 from by decide]
  omega
theorem w_cut {a0 : Int32} {g h : z_G} (hr : rWood g h) : ∃ (r : Int32) (g' h' : z_G), fY_X7_cut a0 g = some (r, g') ∧ fM_X8_cut a0 h = some (r, h') ∧ rWood g' h' := by
  have hr0 : rWood g (z_up h 0 0 0) := rWood_cg hr rfl rfl rfl rfl (by simp [z_up_at]) (by simp [z_up_row]) (by simp [z_up_row]) (by simp [z_up_row])
  obtain ⟨n, hn, e1, e2, hj⟩ := id hr
  have f2 : z_up h 0 0 0 0 52 = nI n := by rw [z_up_at]; simp [e2]
  unfold fY_X7_cut fY_X7_cut_22 fM_X8_cut fM_X8_cut_36
  simp only [z_let_eq, m_in_0, z_bind_some, y_hasW, e1, f2, zn_pred (show n < 2 ^ 30 by omega)]
  by_cases c : a0 < 0 ∨ nI n ≤ a0
  · exact ⟨-1, g, _, by simp [c], by simp [c], hr0⟩
  obtain ⟨j, hjn, e⟩ := zn_place (by omega) c
  obtain ⟨q1, q2, q3, q4, q5, q6, q7, q8, q9⟩ := hj j hjn
  have d3 : vp_in a0 12 := by rw [e]; exact vp_in_nI (by omega) (by omega)
  have d4 : a0.toNatClampNeg = j := by rw [e]; exact nI_clamp (by omega)
  have k1 : z_up h 0 0 0 38 = h 38 := z_up_row _ _ _ _ (by decide)
  have k2 : z_up h 0 0 0 39 = h 39 := z_up_row _ _ _ _ (by decide)
  have k3 : z_up h 0 0 0 40 = h 40 := z_up_row _ _ _ _ (by decide)
  have kk := zn_subs (x := g 45 j) (y := g 44 j) (by omega) (by omega) (by omega) (by omega)
  by_cases c2 : g 45 j ≤ g 44 j
  · have c3 : ¬ (0 : Int32) < g 45 j - g 44 j := fun c9 => (kk.mp c9) c2
    refine ⟨g 46 j, z_up g 44 j 0, z_up (z_up h 0 0 0) 38 j 0, ?_, ?_, ?_⟩
    · simp [c, fY_X6_yearsLeft, d3, d4, z_ck_in, z_let_eq, z_bind_some, c3, z_up_at]
    · rw [q1, q2] at c2
      simp [c, d3, d4, z_ck_in, k1, k2, c2, z_up_at, q3]
    · refine ⟨n, hn, by rw [z_up_row _ _ _ _ (by decide), e1], by rw [z_up_row _ _ _ _ (by decide), f2], fun i hi => ?_⟩
      have := hj i hi
      rw [z_up_row g 44 j 0 (show 45 ≠ 44 by decide), z_up_row g 44 j 0 (show 46 ≠ 44 by decide), z_up_row _ 38 j 0 (show 39 ≠ 38 by decide), z_up_row _ 38 j 0 (show 40 ≠ 38 by decide), k2, k3, z_up_at, z_up_at, k1]
      by_cases hij : i = j
      · subst hij
        simp
        exact ⟨q2, q3, q6, q7, q8, q9⟩
      · simp [hij]; exact this
  · have c3 : (0 : Int32) < g 45 j - g 44 j := kk.mpr c2
    have c4 : ¬ g 45 j - g 44 j ≤ 0 := zn_nle.mpr c3
    refine ⟨-1, g, z_up h 0 0 0, ?_, ?_, hr0⟩
    · simp [c, fY_X6_yearsLeft, d3, d4, z_ck_in, z_let_eq, z_bind_some, c3, c4]
    · rw [q1, q2] at c2
      simp [c, d3, d4, z_ck_in, k1, k2, c2]
theorem w_stand {a0 a1 : Int32} {g h : z_G} (hr : rWood g h) : ∃ (r r2 : Int32) (g' h' : z_G), fM_X8_stand a0 a1 h = some (r2, h') ∧ rWood g' h' ∧ ((fY_X7_stand a0 a1 g = some (r, g') ∧ h' 0 0 = 0 ∧ r2 = r) ∨ (fY_X7_standT a0 a1 g = some (r, g') ∧ h' 0 0 = 1)) := by
  have hr0 : rWood g (z_up h 0 0 0) := rWood_cg hr rfl rfl rfl rfl (by simp [z_up_at]) (by simp [z_up_row]) (by simp [z_up_row]) (by simp [z_up_row])
  have hr1 : rWood g (z_up (z_up h 0 0 0) 0 0 1) := rWood_cg hr0 rfl rfl rfl rfl (by simp [z_up_at]) (by simp [z_up_row]) (by simp [z_up_row]) (by simp [z_up_row])
  obtain ⟨n, hn, e1, e2, hj⟩ := id hr
  have f2 : z_up h 0 0 0 0 52 = nI n := by rw [z_up_at]; simp [e2]
  unfold fY_X7_stand fY_X7_stand_20 fY_X7_standT fY_X7_standT_20 fM_X8_stand fM_X8_stand_33 fM_X8_stand_96 fM_X8_refuse
  simp only [z_let_eq, m_in_0, m_in_0_3, z_bind_some, y_hasW, e1, f2, zn_pred (show n < 2 ^ 30 by omega)]
  by_cases c : a0 < 0 ∨ nI n ≤ a0
  · exact ⟨0, 0, g, z_up (z_up h 0 0 0) 0 0 1, by simp [c], hr1, Or.inr ⟨by simp [c], by simp [z_up_at]⟩⟩
  by_cases c1 : a1 < 0 ∨ 3 < a1
  · refine ⟨0, 0, g, z_up (z_up h 0 0 0) 0 0 1, by simp [c, c1], hr1, Or.inr ⟨?_, by simp [z_up_at]⟩⟩
    rcases c1 with c1 | c1
    · simp [c, c1]
    · have c2 : ¬ a1 ≤ 3 := zn_nle.mpr c1
      by_cases c3 : a1 < 0 <;> simp [c, c2, c3]
  have c2 : ¬ a1 < 0 := fun q => c1 (Or.inl q)
  have c3 : a1 ≤ 3 := zn_nlt.mp (fun q => c1 (Or.inr q))
  obtain ⟨j, hjn, e⟩ := zn_place (by omega) c
  obtain ⟨q1, q2, q3, q4, q5, q6, q7, q8, q9⟩ := hj j hjn
  have d3 : vp_in a0 12 := by rw [e]; exact vp_in_nI (by omega) (by omega)
  have d4 : a0.toNatClampNeg = j := by rw [e]; exact nI_clamp (by omega)
  have k1 : z_up h 0 0 0 38 = h 38 := z_up_row _ _ _ _ (by decide)
  have k2 : z_up h 0 0 0 39 = h 39 := z_up_row _ _ _ _ (by decide)
  have k3 : z_up h 0 0 0 40 = h 40 := z_up_row _ _ _ _ (by decide)
  by_cases b0 : a1 = 0
  · exact ⟨g 44 j, g 44 j, g, z_up h 0 0 0, by simp [c, c1, b0, d3, d4, z_ck_in, k1, q1], hr0, Or.inl ⟨by simp [c, c2, c3, b0, d3, d4, z_ck_in], by simp [z_up_at], rfl⟩⟩
  by_cases b1 : a1 = 1
  · exact ⟨g 45 j, g 45 j, g, z_up h 0 0 0, by simp [c, c1, b1, d3, d4, z_ck_in, k2, q2], hr0, Or.inl ⟨by simp [c, c2, c3, b1, d3, d4, z_ck_in], by simp [z_up_at], rfl⟩⟩
  by_cases b2 : a1 = 2
  · exact ⟨g 46 j, g 46 j, g, z_up h 0 0 0, by simp [c, c1, b2, d3, d4, z_ck_in, k3, q3], hr0, Or.inl ⟨by simp [c, c2, c3, b2, d3, d4, z_ck_in], by simp [z_up_at], rfl⟩⟩
  refine ⟨if 0 < g 45 j - g 44 j then g 45 j - g 44 j else 0, if 0 < g 45 j - g 44 j then g 45 j - g 44 j else 0, g, z_up h 0 0 0, ?_, hr0, Or.inl ⟨?_, by simp [z_up_at], rfl⟩⟩
  · simp [c, c1, b0, b1, b2, d3, d4, z_ck_in, k1, k2, q1, q2]
  · simp [c, c2, c3, b0, b1, b2, d3, d4, z_ck_in, fY_X6_yearsLeft, z_let_eq, z_bind_some]
