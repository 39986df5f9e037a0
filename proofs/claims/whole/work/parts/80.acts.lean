/-! holes, the lighting, what is done by hand -/
theorem z_reset {h : z_G} : z_up (z_up h 0 0 0) 0 0 0 = z_up h 0 0 0 := by
  funext a j
  rw [z_up_at]
  by_cases e : a = 0 ∧ j = 0
  · obtain ⟨rfl, rfl⟩ := e
    simp [z_up_at]
  · rw [if_neg e]
theorem y_hasH (a : Int32) (g : z_G) : fY_X1_has a g = some (if a < 0 ∨ g 2 0 ≤ a then 0 else 1, g) := by
  unfold fY_X1_has fY_X1_has_16 fY_X1_has_17
  by_cases c1 : a < 0
  · simp [c1, z_bo_0]
  · by_cases c2 : g 2 0 ≤ a <;> simp [c1, c2, z_bo_0, z_bo_1]
theorem y_isOutsideAt {R H : Nat} {g : z_G} (b : 1 ≤ R ∧ R ≤ 8 ∧ 1 ≤ H ∧ H ≤ 8) (e1 : g 1 0 = nI R) (e2 : g 1 1 = nI H) (q2 : rFix R H g) (a0 a1 : Int32) : (kNoCell R H a0 a1 ∧ fY_X2_isOutsideAt a0 a1 g = some (0, g)) ∨ (¬ kNoCell R H a0 a1 ∧ ∃ ρ η : Nat, ρ < R ∧ η < H ∧ a0 = nI ρ ∧ a1 = nI η ∧ a0 * nI H + a1 = nI (ρ * H + η) ∧ a1 * 8 + a0 = nI (η * 8 + ρ) ∧ ρ * H + η < 64 ∧ η * 8 + ρ < 64 ∧ fY_X2_isOutsideAt a0 a1 g = some (if ρ + 1 = R ∨ η + 1 = H then 1 else 0, g)) := by
  unfold fY_X2_isOutsideAt fY_X2_isOutsideAt_27 fY_X2_isOutsideAt_28 fY_X2_at
  rcases y_holds e1 e2 a0 a1 with ⟨c, y1⟩ | ⟨c, y1⟩
  · exact Or.inl ⟨c, by simp [y1, z_bind_some, z_bo_0]⟩
  · obtain ⟨ρ, η, h1, h2, k1, k2, i1, i2, l1, l2⟩ := zn_cell b.2.1 b.2.2.2 c
    refine Or.inr ⟨c, ρ, η, h1, h2, k1, k2, i1, i2, l1, l2, ?_⟩
    have d1 : vp_in (nI (ρ * H + η)) 64 := vp_in_nI l1 (by decide)
    have d2 : (nI (ρ * H + η)).toNatClampNeg = ρ * H + η := nI_clamp (by omega)
    by_cases o : ρ + 1 = R ∨ η + 1 = H
    · simp [y1, z_bind_some, e2, i1, d1, d2, z_ck_in, (q2 ρ η h1 h2).2, o, z_bo_1]
    · simp [y1, z_bind_some, e2, i1, d1, d2, z_ck_in, (q2 ρ η h1 h2).2, o, z_bo_0]
theorem sim_hole : z_sim2 rel fY_X7_hole fM_X8_hole := by
  intro a0 a1 g h hr
  have hr0 := rel_thrown hr 0
  have e0 : fM_X8_hole a0 a1 h = fM_X8_hole a0 a1 (z_up h 0 0 0) := by unfold fM_X8_hole; simp only [z_let_eq, z_reset]
  rw [e0]
  have z0 := z_reset (h := h)
  revert hr0 z0
  generalize z_up h 0 0 0 = h0
  intro hr0 z0
  obtain ⟨R, H, hA⟩ := hr0.1
  obtain ⟨q1, q2, q3, q4, q5, q6, q7, q8, q9, q10, q11, q12⟩ := id hA
  obtain ⟨b, e1, e2, -, e4, e5⟩ := id q1
  have s3 : g 0 7 = h0 0 20 := q6.2.2.1
  have key : ∀ (r : Int32) (g' h' : z_G), fY_X7_hole a0 a1 g = some (r, g') → fM_X8_hole a0 a1 h0 = some (r, h') → rAll R H g' h' → ∃ (r : Int32) (g' h' : z_G), fY_X7_hole a0 a1 g = some (r, g') ∧ fM_X8_hole a0 a1 h0 = some (r, h') ∧ rel g' h' := fun r g' h' u v w => ⟨r, g', h', u, v, ⟨R, H, w⟩, rWood_fr hr0.2.1 (frY_X7_hole _ _ _ _ _ u) (z_apart (by decide)) (frM_X8_hole _ _ _ _ _ v) (z_apart (by decide)), rTape_fr hr0.2.2 (frY_X7_hole _ _ _ _ _ u) (z_apart (by decide)) (frM_X8_hole _ _ _ _ _ v) (z_apart (by decide))⟩
  obtain ⟨n, hn, n1, n2, hj⟩ := id q7
  by_cases c : g 0 7 = 0
  · have c2 : h0 0 20 = 0 := by rw [← s3]; exact c
    rcases y_isOutsideAt b e1 e2 q2 a0 a1 with ⟨k, y1⟩ | ⟨k, ρ, η, h1, h2, k1, k2, i1, i2, l1, l2, y1⟩
    · rcases m_isCell b.2.1 b.2.2.2 e4 e5 a0 a1 with ⟨-, m1⟩ | ⟨k9, -⟩
      · refine key (-1) g h0 ?_ ?_ hA
        · simp [fY_X7_hole, fY_X7_hole_19, c, y1, z_bind_some]
        · simp [fM_X8_hole, fM_X8_hole_43, z_let_eq, z0, m1, z_bind_some]
      · exact absurd k k9
    · rcases m_isCell b.2.1 b.2.2.2 e4 e5 a0 a1 with ⟨k9, -⟩ | ⟨-, m1⟩
      · exact absurd k9 k
      have m2 := m_isOutsideC b e4 e5 h1 h2
      by_cases o : ρ + 1 = R ∨ η + 1 = H
      · rw [if_pos o] at y1 m2
        by_cases n12 : n = 12
        · have d1 : ¬ g 2 0 < 12 := by rw [n1, n12]; decide
          have d2 : h0 0 13 = 12 := by rw [n2, n12]; rfl
          refine key (-1) g h0 ?_ ?_ hA
          · simp [fY_X7_hole, c, y1, z_bind_some, fY_X2_at, fY_X1_bore, d1]
          · simp [fM_X8_hole, fM_X8_hole_43, z_let_eq, z0, m1, z_bind_some, i2, m2, d2]
        · have hn12 : n < 12 := by omega
          have d1 : nI n < 12 := nI_lt (a := n) (b := 12) hn12 (by decide)
          have d2 : ¬ nI n = 12 := by
            intro h9
            have := (nI_eq (a := n) (b := 12) (by omega) (by omega)).mp h9
            omega
          have d3 : vp_in (nI n) 12 := vp_in_nI hn12 (by omega)
          have d4 : (nI n).toNatClampNeg = n := nI_clamp (by omega)
          have d5 : nI n + 1 - 1 = nI n := by rw [nI_1, nI_pred]
          have u : fY_X7_hole a0 a1 g = some (nI n, z_up (z_up (z_up g 22 n (nI (ρ * H + η))) 23 n 0) 2 0 (nI n + 1)) := by
            simp [fY_X7_hole, c, y1, z_bind_some, fY_X2_at, e2, i1, fY_X1_bore, n1, d1, d3, d4, d5, z_let_eq, z_ck_in, z_up_at, nar0]
          have v : fM_X8_hole a0 a1 h0 = some (nI n, z_up (z_up (z_up h0 11 n (nI (η * 8 + ρ))) 12 n 0) 0 13 (nI n + 1)) := by
            simp [fM_X8_hole, z_let_eq, z0, m1, z_bind_some, i2, m2, n2, c2, d2, d3, d4, d5, z_ck_in, z_up_at, nar0]
          have ag := frY_X7_hole _ _ _ _ _ u
          have ah := frM_X8_hole _ _ _ _ _ v
          refine key _ _ _ u v ⟨rDim_fr q1 ag (z_apart (by decide)) ah (z_apart (by decide)), rFix_fr q2 ag (z_apart (by decide)), rCells_fr q3 ag (z_apart (by decide)) ah (z_apart (by decide)), rZeros_fr q4 ah (z_apart (by decide)), rVal_fr q5 ag (z_apart (by decide)), rScal_fr q6 ag (z_apart (by decide)) ah (z_apart (by decide)), ?_, rHours_fr q8 ag (z_apart (by decide)) ah (z_apart (by decide)), ?_, rCold_fr q10 ag (z_apart (by decide)), ?_, rRules_fr q12 ag (z_apart (by decide)) ah (z_apart (by decide))⟩
          · refine ⟨n + 1, by omega, by rw [z_up_same, nI_1], by rw [z_up_same, nI_1], fun k hk => ?_⟩
            by_cases e : k = n
            · subst e
              refine ⟨by simp [z_up_at], Or.inl (by simp [z_up_at]), ρ, η, h1, h2, o, by simp [z_up_at], by simp [z_up_at]⟩
            · have := hj k (by omega)
              simpa [e, z_up_at] using this
          · obtain ⟨m, hm, m1, m2, -⟩ := id q9
            have t2 : g 3 7 = 0 := (q10 c).2.1
            refine ⟨0, by omega, by rw [ag 3 7 rfl, t2]; rfl, by rw [ah 0 26 rfl, m2, ← m1, t2]; rfl, fun k hk => absurd hk (Nat.not_lt_zero k)⟩
          · intro hl
            rw [ag 0 7 rfl, c] at hl
            exact absurd hl (by decide)
      · rw [if_neg o] at y1 m2
        refine key (-1) g h0 ?_ ?_ hA
        · simp [fY_X7_hole, fY_X7_hole_19, c, y1, z_bind_some]
        · simp [fM_X8_hole, fM_X8_hole_43, z_let_eq, z0, m1, z_bind_some, i2, m2]
  · have c2 : ¬ h0 0 20 = 0 := by rw [← s3]; exact c
    refine key (-1) g h0 ?_ ?_ hA
    · simp [fY_X7_hole, fY_X7_hole_19, c]
    · rcases m_isCell b.2.1 b.2.2.2 e4 e5 a0 a1 with ⟨k, m1⟩ | ⟨k, m1⟩
      · simp [fM_X8_hole, fM_X8_hole_43, z_let_eq, z0, m1, z_bind_some]
      · obtain ⟨ρ, η, h1, h2, k1, k2, i1, i2, l1, l2⟩ := zn_cell b.2.1 b.2.2.2 k
        have m2 := m_isOutsideC b e4 e5 h1 h2
        by_cases o : ρ + 1 = R ∨ η + 1 = H
        · rw [if_pos o] at m2
          by_cases d2 : h0 0 13 = 12
          · simp [fM_X8_hole, fM_X8_hole_43, z_let_eq, z0, m1, z_bind_some, i2, m2, d2]
          · simp [fM_X8_hole, fM_X8_hole_43, z_let_eq, z0, m1, z_bind_some, i2, m2, d2, c2]
        · rw [if_neg o] at m2
          simp [fM_X8_hole, fM_X8_hole_43, z_let_eq, z0, m1, z_bind_some, i2, m2]
/-! the lighting -/
theorem nar01 {x : Int32} (h : x = 0 ∨ x = 1) : vp_nar .boolean x = x := by
  rcases h with h | h <;> rw [h] <;> rfl
theorem y_keepOpen {g : z_G} {n : Nat} (hn : n ≤ 12) (e : g 2 0 = nI n) (hb : ∀ k, k < n → g 23 k = 0 ∨ g 23 k = 1) : ∃ g', fY_X1_keepOpen g = some (0, g') ∧ ∀ k, k < n → g' 24 k = g 23 k := by
  unfold fY_X1_keepOpen fY_X1_keepOpen_2_go
  have key := z_pfor (step := fun k (w : Int32 × z_G) => fY_X1_keepOpen_2 k w.1 w.2) (fun j g => (nI j, g)) (fun g => some (0, g)) n (z_fuel_big (by omega)) (fun j s => (∀ i, i < j → s 24 i = g 23 i) ∧ s 2 0 = nI n ∧ s 23 = g 23) (fun k j s hj hp => ⟨z_up s 24 j (g 23 j), ?_, ?_⟩) (fun k s hp => ?_) g ⟨fun i hi => absurd hi (Nat.not_lt_zero i), e, rfl⟩
  · obtain ⟨s', h1, h2⟩ := key
    exact ⟨s', h1, h2.1⟩
  · have d3 : vp_in (nI j) 12 := vp_in_nI (by omega) (by omega)
    have d4 : (nI j).toNatClampNeg = j := nI_clamp (by omega)
    simp [fY_X1_keepOpen_2, hp.2.1, zn_stop (show n < 2 ^ 31 by omega) hj, z_ck_in, d3, d4, z_let_eq, nI_1, hp.2.2, nar01 (hb j hj)]
  · refine ⟨fun i hi => ?_, by simp [z_up_at, hp.2.1], by simp [z_up_row, hp.2.2]⟩
    by_cases e : i = j
    · simp [e, z_up_at]
    · simp [e, z_up_at, hp.1 i (by omega)]
  · simp [fY_X1_keepOpen_2, hp.2.1]
theorem y_fill39 (x : Int32) (g : z_G) : ∃ g', fY_J7_fill_53178_r39 x g = some (0, g') ∧ ∀ i, i < 8 → g' 39 i = x := by
  unfold fY_J7_fill_53178_r39 fY_J7_fill_53178_r39_5_go
  refine z_pfor (step := fun k (w : Int32 × Int32 × Int32 × z_G) => fY_J7_fill_53178_r39_5 k w.1 w.2.1 w.2.2.1 w.2.2.2) (fun j g => (x, nI j, 8, g)) (fun g => some (0, g)) 8 (z_fuel_big (by omega)) (fun j g => ∀ i, i < j → g 39 i = x) (fun k j s hj hp => ⟨z_up s 39 j x, ?_, ?_⟩) (fun k s hp => ?_) g (fun i hi => absurd hi (Nat.not_lt_zero i))
  · have d0 : ¬ (8 : Int32) ≤ nI j := nI_ge (a := j) (b := 8) hj (by decide)
    simp [fY_J7_fill_53178_r39_5, d0, z_ck_in _ (vp_in_nI (n := j) (N := 8) (by omega) (by omega)), nI_clamp (show j < 2 ^ 31 by omega), z_let_eq, nI_1]
  · intro i hi
    by_cases e : i = j
    · simp [e, z_up_at]
    · simp [e, z_up_at, hp i (by omega)]
  · simp [fY_J7_fill_53178_r39_5, show (8 : Int32) ≤ nI 8 from by decide]
theorem m_light25 (h : z_G) : ∃ h', fM_X8_light_25_go 0 h = fM_X8_light_75_go 0 h' ∧ (∀ c, c < 64 → h' 13 c = h 1 c ∧ h' 14 c = h 3 c ∧ h' 15 c = h 8 c) ∧ z_ag (z_tch [13, 14, 15] []) h h' := by
  unfold fM_X8_light_25_go
  refine z_pfor (step := fun k (w : Int32 × z_G) => fM_X8_light_25 k w.1 w.2) (fun j g => (nI j, g)) (fun g => fM_X8_light_75_go 0 g) 64 (z_fuel_big (by omega)) (fun j s => (∀ c, c < j → s 13 c = h 1 c ∧ s 14 c = h 3 c ∧ s 15 c = h 8 c) ∧ z_ag (z_tch [13, 14, 15] []) h s) (fun k j s hj hp => ⟨z_up (z_up (z_up s 13 j (h 1 j)) 14 j (h 3 j)) 15 j (h 8 j), ?_, ?_⟩) (fun k s hp => ?_) h ⟨fun i hi => absurd hi (Nat.not_lt_zero i), fr_rf⟩
  · have d3 : vp_in (nI j) 64 := vp_in_nI (by omega) (by omega)
    have d4 : (nI j).toNatClampNeg = j := nI_clamp (by omega)
    have w1 : s 1 j = h 1 j := hp.2 1 j rfl
    have w3 : s 3 j = h 3 j := hp.2 3 j rfl
    have w8 : s 8 j = h 8 j := hp.2 8 j rfl
    simp [fM_X8_light_25, zn_64 hj, z_ck_in, d3, d4, z_let_eq, nI_1, z_up_at, w1, w3, w8]
  · refine ⟨fun i hi => ?_, fr_up (fr_up (fr_up hp.2 rfl) rfl) rfl⟩
    by_cases e : i = j
    · simp [e, z_up_at]
    · simp [e, z_up_at, hp.1 i (by omega)]
  · show fM_X8_light_25 k (nI 64) s = _
    unfold fM_X8_light_25
    rw [if_pos (show (64 : Int32) ≤ nI 64 from by decide)]
theorem m_light75 {h : z_G} {n : Nat} (hn : n ≤ 12) (e : h 0 13 = nI n) (hb : ∀ k, k < n → h 12 k = 0 ∨ h 12 k = 1) : ∃ h', fM_X8_light_75_go 0 h = fM_X8_light_108_go 0 (z_up h' 0 26 0) ∧ (∀ k, k < n → h' 16 k = h 12 k) ∧ z_ag (z_tch [16] []) h h' := by
  unfold fM_X8_light_75_go
  refine z_pfor (step := fun k (w : Int32 × z_G) => fM_X8_light_75 k w.1 w.2) (fun j g => (nI j, g)) (fun g => fM_X8_light_108_go 0 (z_up g 0 26 0)) n (z_fuel_big (by omega)) (fun j s => (∀ c, c < j → s 16 c = h 12 c) ∧ z_ag (z_tch [16] []) h s) (fun k j s hj hp => ⟨z_up s 16 j (h 12 j), ?_, ?_⟩) (fun k s hp => ?_) h ⟨fun i hi => absurd hi (Nat.not_lt_zero i), fr_rf⟩
  · have d3 : vp_in (nI j) 12 := vp_in_nI (by omega) (by omega)
    have d4 : (nI j).toNatClampNeg = j := nI_clamp (by omega)
    have w1 : s 12 j = h 12 j := hp.2 12 j rfl
    have w2 : s 0 13 = nI n := (hp.2 0 13 rfl).trans e
    simp [fM_X8_light_75, w2, zn_stop (show n < 2 ^ 31 by omega) hj, z_ck_in, d3, d4, z_let_eq, nI_1, w1, nar01 (hb j hj)]
  · refine ⟨fun i hi => ?_, fr_up hp.2 rfl⟩
    by_cases e : i = j
    · simp [e, z_up_at]
    · simp [e, z_up_at, hp.1 i (by omega)]
  · have w2 : s 0 13 = nI n := (hp.2 0 13 rfl).trans e
    show fM_X8_light_75 k (nI n) s = _
    unfold fM_X8_light_75
    rw [w2, if_pos (nI_le (Nat.le_refl n) (by omega)), z_let_eq]
theorem m_light108 {h : z_G} {n : Nat} (hn : n ≤ 8) (e : h 0 42 = nI n) : ∃ h', fM_X8_light_108_go 0 h = z_bind (fM_X8_lights h') (fun r2 g3 => z_bo 1 (some (1, g3))) ∧ (∀ k, k < n → h' 31 k = 0) ∧ z_ag (z_tch [31] []) h h' := by
  unfold fM_X8_light_108_go
  refine z_pfor (step := fun k (w : Int32 × z_G) => fM_X8_light_108 k w.1 w.2) (fun j g => (nI j, g)) (fun g => z_bind (fM_X8_lights g) (fun r2 g3 => z_bo 1 (some (1, g3)))) n (z_fuel_big (by omega)) (fun j s => (∀ c, c < j → s 31 c = 0) ∧ z_ag (z_tch [31] []) h s) (fun k j s hj hp => ⟨z_up s 31 j 0, ?_, ?_⟩) (fun k s hp => ?_) h ⟨fun i hi => absurd hi (Nat.not_lt_zero i), fr_rf⟩
  · have d3 : vp_in (nI j) 8 := vp_in_nI (by omega) (by omega)
    have d4 : (nI j).toNatClampNeg = j := nI_clamp (by omega)
    have w2 : s 0 42 = nI n := (hp.2 0 42 rfl).trans e
    simp [fM_X8_light_108, w2, zn_stop (show n < 2 ^ 31 by omega) hj, z_ck_in, d3, d4, z_let_eq, nI_1]
  · refine ⟨fun i hi => ?_, fr_up hp.2 rfl⟩
    by_cases e : i = j
    · simp [e, z_up_at]
    · simp [e, z_up_at, hp.1 i (by omega)]
  · have w2 : s 0 42 = nI n := (hp.2 0 42 rfl).trans e
    show fM_X8_light_108 k (nI n) s = _
    unfold fM_X8_light_108
    rw [w2, if_pos (nI_le (Nat.le_refl n) (by omega))]
theorem y_setAlight (g : z_G) : fY_X2_setAlight g = some (0, z_up (z_up g 14 0 1) 13 0 500) := by
  unfold fY_X2_setAlight
  have d3 : vp_in (0 : Int32) 64 := vp_in_nI (n := 0) (by omega) (by omega)
  have d4 : (0 : Int32).toNatClampNeg = 0 := rfl
  simp [z_ck_in, d3, d4, z_let_eq]
theorem m_lights (h : z_G) : fM_X8_lights h = some (0, z_up (z_up (z_up (z_up (z_up (z_up h 0 20 1) 0 21 0) 0 22 0) 0 23 0) 5 0 1) 4 0 500) := by
  unfold fM_X8_lights
  have d3 : vp_in (0 : Int32) 64 := vp_in_nI (n := 0) (by omega) (by omega)
  have d4 : (0 : Int32).toNatClampNeg = 0 := rfl
  simp [z_ck_in, d3, d4, z_let_eq, nar1]
theorem zc_zero {H ρ η : Nat} (hH : 1 ≤ H) (h : ρ * H + η = 0) : ρ = 0 ∧ η = 0 := by
  have e1 : ρ * H = 0 := by omega
  rcases Nat.mul_eq_zero.mp e1 with e | e <;> omega
theorem zc_z2 {H ρ η : Nat} (e : ¬ ρ * H + η = 0) : ¬ η * 8 + ρ = 0 := by
  intro e9
  have e1 : ρ = 0 := by omega
  have e2 : η = 0 := by omega
  rw [e1, e2, Nat.zero_mul] at e
  exact e rfl
theorem z_ag_trans {t t1 t2 : Nat → Nat → Bool} {g g1 g2 : z_G} (h1 : z_ag t1 g g1) (h2 : z_ag t2 g1 g2) (s1 : ∀ a j, t a j = false → t1 a j = false) (s2 : ∀ a j, t a j = false → t2 a j = false) : z_ag t g g2 := fun a j ht => (h2 a j (s2 a j ht)).trans (h1 a j (s1 a j ht))
theorem rEq_cg {R H a b : Nat} {g h g' h' : z_G} (q : rEq R H a b g h) (e1 : g' a = g a) (e2 : h' b = h b) : rEq R H a b g' h' := fun ρ η k1 k2 => by rw [e1, e2]; exact q ρ η k1 k2
theorem zc_dif {R H ρ η ρ2 η2 : Nat} (hR : R ≤ 8) (h1 : ρ < R) (h2 : η < H) (k1 : ρ2 < R) (k2 : η2 < H) (ne : ¬ (ρ2 = ρ ∧ η2 = η)) : ρ2 * H + η2 ≠ ρ * H + η ∧ η2 * 8 + ρ2 ≠ η * 8 + ρ := ⟨fun e => ne (zc_inj k2 h2 e), fun e => ne (by omega)⟩
theorem rEq_up {R H a b : Nat} {g h : z_G} (hR : R ≤ 8) (q : rEq R H a b g h) {ρ η : Nat} (h1 : ρ < R) (h2 : η < H) (x : Int32) : rEq R H a b (z_up g a (ρ * H + η) x) (z_up h b (η * 8 + ρ) x) := by
  intro ρ2 η2 k1 k2
  rw [z_up_at, z_up_at]
  by_cases e : ρ2 = ρ ∧ η2 = η
  · obtain ⟨rfl, rfl⟩ := e
    simp
  · have n := zc_dif hR h1 h2 k1 k2 e
    simp [n.1, n.2]
    exact q ρ2 η2 k1 k2
theorem sim_light : z_sim0 rel fY_X7_light fM_X8_light := by
  intro g h hr
  have hr0 := rel_thrown hr 0
  have e0 : fM_X8_light h = fM_X8_light (z_up h 0 0 0) := by unfold fM_X8_light; rw [z_let_eq, z_let_eq, z_reset]
  rw [e0]
  have z0 := z_reset (h := h)
  revert hr0 z0
  generalize z_up h 0 0 0 = h0
  intro hr0 z0
  obtain ⟨R, H, hA⟩ := hr0.1
  obtain ⟨q1, q2, q3, q4, q5, q6, q7, q8, q9, q10, q11, q12⟩ := id hA
  obtain ⟨b, e1, e2, -, e4, e5⟩ := id q1
  have s3 : g 0 7 = h0 0 20 := q6.2.2.1
  have key : ∀ (r : Int32) (g' h' : z_G), fY_X7_light g = some (r, g') → fM_X8_light h0 = some (r, h') → rAll R H g' h' → ∃ (r : Int32) (g' h' : z_G), fY_X7_light g = some (r, g') ∧ fM_X8_light h0 = some (r, h') ∧ rel g' h' := fun r g' h' u v w => ⟨r, g', h', u, v, ⟨R, H, w⟩, rWood_fr hr0.2.1 (frY_X7_light _ _ _ u) (z_apart (by decide)) (frM_X8_light _ _ _ v) (z_apart (by decide)), rTape_fr hr0.2.2 (frY_X7_light _ _ _ u) (z_apart (by decide)) (frM_X8_light _ _ _ v) (z_apart (by decide))⟩
  have d3 : vp_in (0 : Int32) 64 := vp_in_nI (n := 0) (by omega) (by omega)
  have d4 : (0 : Int32).toNatClampNeg = 0 := rfl
  by_cases c : g 0 7 = 0
  · have c2 : h0 0 20 = 0 := by rw [← s3]; exact c
    have w0 : g 10 0 = h0 1 0 := by have := q3.1 0 0 b.1 b.2.2.1; simpa using this
    by_cases cw : g 10 0 = 0
    · refine key 0 g h0 ?_ ?_ hA
      · unfold fY_X7_light fY_X7_light_19
        rw [if_pos c, z_ck_in _ d3, d4, if_pos cw, z_bo_0]
      · unfold fM_X8_light fM_X8_light_21
        rw [z_let_eq, z0, if_pos c2, z_ck_in _ d3, d4, if_pos (w0 ▸ cw), z_bo_0]
    · obtain ⟨n, hn, n1, n2, hj⟩ := id q7
      obtain ⟨nr, hnr, r1, r2, hrr⟩ := id q12
      obtain ⟨t1, t2, t3, t4, t5⟩ := q10 c
      have k1 : fY_X2_keepCover (z_up g 0 7 1) = some (0, z_row (z_up g 0 7 1) 20 (va_cpy (g 15) (g 20) 0 0 64)) := by
        unfold fY_X2_keepCover
        rw [z_let_eq, z_up_row _ _ _ _ (show 15 ≠ 0 by decide), z_up_row _ _ _ _ (show 20 ≠ 0 by decide)]
      have a1 : z_ag (z_tch [20] [(0, 7)]) g (z_row (z_up g 0 7 1) 20 (va_cpy (g 15) (g 20) 0 0 64)) := fr_row (fr_up fr_rf rfl) (fun j => rfl)
      have f20 : ∀ i, i < 64 → z_row (z_up g 0 7 1) 20 (va_cpy (g 15) (g 20) 0 0 64) 20 i = g 15 i := by
        intro i hi
        rw [z_row_at, if_pos rfl, pk_cpy_in (Nat.zero_le i) (by omega)]
        simp
      have f07 : z_row (z_up g 0 7 1) 20 (va_cpy (g 15) (g 20) 0 0 64) 0 7 = 1 := by
        rw [z_row_at, if_neg (by decide), z_up_same]
      revert k1 a1 f20 f07
      generalize z_row (z_up g 0 7 1) 20 (va_cpy (g 15) (g 20) 0 0 64) = g1
      intro k1 a1 f20 f07
      obtain ⟨g2, y1, y2⟩ := y_keepOpen (g := g1) hn ((a1 2 0 rfl).trans n1) (fun k hk => by rw [a1 23 k rfl]; exact (hj k hk).2.1)
      have a2 := frY_X1_keepOpen _ _ _ y1
      obtain ⟨g3, y3, y4⟩ := y_fill39 0 g2
      have a3 := frY_J7_fill_53178_r39 _ _ _ _ y3
      have k3 : fY_X4_actFromFirstHour g2 = some (0, g3) := by unfold fY_X4_actFromFirstHour; rw [y3, z_bind_nd]
      have u : fY_X7_light g = some (1, z_up (z_up g3 14 0 1) 13 0 500) := by
        unfold fY_X7_light
        rw [if_pos c, z_ck_in _ d3, d4, if_neg cw, z_let_eq, k1, z_bind_nd, y1, z_bind_nd, k3, z_bind_nd, y_setAlight, z_bind_nd, z_bo_1]
      have aY : z_ag (z_tch [20, 24, 39] [(0, 7)]) g g3 := z_ag_trans (z_ag_trans (t := z_tch [20, 24] [(0, 7)]) a1 a2 (z_tch_sub rfl) (z_tch_sub rfl)) a3 (z_tch_sub rfl) (z_tch_sub rfl)
      obtain ⟨h1, m1, m2, m3⟩ := m_light25 h0
      obtain ⟨h2, m4, m5, m6⟩ := m_light75 (h := h1) hn ((m3 0 13 rfl).trans n2) (fun k hk => by rw [m3 12 k rfl, ← (hj k hk).1]; exact (hj k hk).2.1)
      have a6 : z_ag (z_tch [13, 14, 15, 16] [(0, 26)]) h0 (z_up h2 0 26 0) := fr_up (z_ag_trans m3 m6 (z_tch_sub rfl) (z_tch_sub rfl)) rfl
      obtain ⟨h3, m7, m8, m9⟩ := m_light108 (h := z_up h2 0 26 0) hnr ((a6 0 42 rfl).trans r2)
      have aM : z_ag (z_tch [13, 14, 15, 16, 31] [(0, 26)]) h0 h3 := z_ag_trans a6 m9 (z_tch_sub rfl) (z_tch_sub rfl)
      have v : fM_X8_light h0 = some (1, z_up (z_up (z_up (z_up (z_up (z_up h3 0 20 1) 0 21 0) 0 22 0) 0 23 0) 5 0 1) 4 0 500) := by
        unfold fM_X8_light
        rw [z_let_eq, z0, if_pos c2, z_ck_in _ d3, d4, if_neg (fun e => cw (w0.trans e)), m1, m4, m7, m_lights, z_bind_nd, z_bo_1]
      have ag := frY_X7_light _ _ _ u
      have ah := frM_X8_light _ _ _ v
      have x13 : ∀ i, z_up (z_up g3 14 0 1) 13 0 500 13 i = if i = 0 then 500 else g 13 i := by
        intro i
        rw [z_up_at, z_up_row _ _ _ _ (show 13 ≠ 14 by decide), aY 13 i rfl]
        by_cases e : i = 0 <;> simp [e]
      have x14 : ∀ i, z_up (z_up g3 14 0 1) 13 0 500 14 i = if i = 0 then 1 else g 14 i := by
        intro i
        rw [z_up_row _ _ _ _ (show 14 ≠ 13 by decide), z_up_at, aY 14 i rfl]
        by_cases e : i = 0 <;> simp [e]
      have x24 : ∀ k, k < n → z_up (z_up g3 14 0 1) 13 0 500 24 k = g 23 k := by
        intro k hk
        rw [z_up_row _ _ _ _ (show 24 ≠ 13 by decide), z_up_row _ _ _ _ (show 24 ≠ 14 by decide), a3 24 k rfl, y2 k hk, a1 23 k rfl]
      have x20 : ∀ i, i < 64 → z_up (z_up g3 14 0 1) 13 0 500 20 i = g 15 i := by
        intro i hi
        rw [z_up_row _ _ _ _ (show 20 ≠ 13 by decide), z_up_row _ _ _ _ (show 20 ≠ 14 by decide), a3 20 i rfl, a2 20 i rfl, f20 i hi]
      have x39 : ∀ i, i < 8 → z_up (z_up g3 14 0 1) 13 0 500 39 i = 0 := by
        intro i hi
        rw [z_up_row _ _ _ _ (show 39 ≠ 13 by decide), z_up_row _ _ _ _ (show 39 ≠ 14 by decide), y4 i hi]
      have xl : z_up (z_up g3 14 0 1) 13 0 500 0 7 = 1 := by
        rw [z_up_row _ _ _ _ (show 0 ≠ 13 by decide), z_up_row _ _ _ _ (show 0 ≠ 14 by decide), a3 0 7 rfl, a2 0 7 rfl]
        exact f07
      generalize z_up (z_up g3 14 0 1) 13 0 500 = g4 at u ag x13 x14 x24 x20 x39 xl
      have w4 : ∀ i, z_up (z_up (z_up (z_up (z_up (z_up h3 0 20 1) 0 21 0) 0 22 0) 0 23 0) 5 0 1) 4 0 500 4 i = if i = 0 then 500 else h0 4 i := by
        intro i
        by_cases e : i = 0
        · simp [z_up_at, e]
        · simp [z_up_at, e]; exact aM 4 i rfl
      have w5 : ∀ i, z_up (z_up (z_up (z_up (z_up (z_up h3 0 20 1) 0 21 0) 0 22 0) 0 23 0) 5 0 1) 4 0 500 5 i = if i = 0 then 1 else h0 5 i := by
        intro i
        by_cases e : i = 0
        · simp [z_up_at, e]
        · simp [z_up_at, e]; exact aM 5 i rfl
      have wr : ∀ a i, a ≠ 0 → a ≠ 4 → a ≠ 5 → z_up (z_up (z_up (z_up (z_up (z_up h3 0 20 1) 0 21 0) 0 22 0) 0 23 0) 5 0 1) 4 0 500 a i = h3 a i := by
        intro a i n0 n4 n5
        simp [z_up_at, n0, n4, n5]
      have ws : z_up (z_up (z_up (z_up (z_up (z_up h3 0 20 1) 0 21 0) 0 22 0) 0 23 0) 5 0 1) 4 0 500 0 20 = 1 ∧ z_up (z_up (z_up (z_up (z_up (z_up h3 0 20 1) 0 21 0) 0 22 0) 0 23 0) 5 0 1) 4 0 500 0 21 = 0 ∧ z_up (z_up (z_up (z_up (z_up (z_up h3 0 20 1) 0 21 0) 0 22 0) 0 23 0) 5 0 1) 4 0 500 0 22 = 0 ∧ z_up (z_up (z_up (z_up (z_up (z_up h3 0 20 1) 0 21 0) 0 22 0) 0 23 0) 5 0 1) 4 0 500 0 23 = 0 ∧ z_up (z_up (z_up (z_up (z_up (z_up h3 0 20 1) 0 21 0) 0 22 0) 0 23 0) 5 0 1) 4 0 500 0 26 = 0 := by
        refine ⟨by simp [z_up_at], by simp [z_up_at], by simp [z_up_at], by simp [z_up_at], ?_⟩
        simp [z_up_at]
        rw [m9 0 26 rfl, z_up_same]
      generalize z_up (z_up (z_up (z_up (z_up (z_up h3 0 20 1) 0 21 0) 0 22 0) 0 23 0) 5 0 1) 4 0 500 = h4 at v ah w4 w5 wr ws
      have l13 : ∀ i, i < 64 → h4 13 i = h0 1 i := fun i hi => by rw [wr 13 i (by decide) (by decide) (by decide), m9 13 i rfl, z_up_row _ _ _ _ (by decide), m6 13 i rfl, (m2 i hi).1]
      have l14 : ∀ i, i < 64 → h4 14 i = h0 3 i := fun i hi => by rw [wr 14 i (by decide) (by decide) (by decide), m9 14 i rfl, z_up_row _ _ _ _ (by decide), m6 14 i rfl, (m2 i hi).2.1]
      have l15 : ∀ i, i < 64 → h4 15 i = h0 8 i := fun i hi => by rw [wr 15 i (by decide) (by decide) (by decide), m9 15 i rfl, z_up_row _ _ _ _ (by decide), m6 15 i rfl, (m2 i hi).2.2]
      have l16 : ∀ k, k < n → h4 16 k = h0 12 k := fun k hk => by rw [wr 16 k (by decide) (by decide) (by decide), m9 16 k rfl, z_up_row _ _ _ _ (by decide), m5 k hk, m3 12 k rfl]
      have l31 : ∀ k, k < nr → h4 31 k = 0 := fun k hk => by rw [wr 31 k (by decide) (by decide) (by decide), m8 k hk]
      obtain ⟨p10, p11, p12, p13, p14, p15, p16, p17, p18, p19⟩ := id q3
      have li : ∀ ρ η, ρ < R → η < H → ρ * H + η < 64 ∧ η * 8 + ρ < 64 := fun ρ η k1 k2 => ⟨Nat.lt_of_lt_of_le (zc_lt k1 k2) (zc_64 b.2.1 b.2.2.2), by have := b.2.1; have := b.2.2.2; omega⟩
      refine key _ _ _ u v ⟨rDim_fr q1 ag (z_apart (by decide)) ah (z_apart (by decide)), rFix_fr q2 ag (z_apart (by decide)), ?_, ?_, ?_, ?_, rHoles_fr q7 ag (z_apart (by decide)) ah (z_apart (by decide)), ?_, ?_, ?_, ?_, ?_⟩
      · refine ⟨rEq_cg p10 (funext fun j => ag 10 j rfl) (funext fun j => ah 1 j rfl), rEq_cg p11 (funext fun j => ag 11 j rfl) (funext fun j => ah 2 j rfl), rEq_cg p12 (funext fun j => ag 12 j rfl) (funext fun j => ah 3 j rfl), ?_, ?_, rEq_cg p15 (funext fun j => ag 15 j rfl) (funext fun j => ah 8 j rfl), rEq_cg p16 (funext fun j => ag 16 j rfl) (funext fun j => ah 9 j rfl), rEq_cg p17 (funext fun j => ag 17 j rfl) (funext fun j => ah 7 j rfl), rEq_cg p18 (funext fun j => ag 18 j rfl) (funext fun j => ah 6 j rfl), rEq_cg p19 (funext fun j => ag 19 j rfl) (funext fun j => ah 10 j rfl)⟩
        · intro ρ η k1 k2
          rw [x13, w4, p13 ρ η k1 k2]
          by_cases e : ρ * H + η = 0
          · obtain ⟨rfl, rfl⟩ := zc_zero b.2.2.1 e
            simp
          · have e9 : ¬ (η * 8 + ρ = 0) := zc_z2 e
            rw [if_neg e, if_neg e9]
        · intro ρ η k1 k2
          rw [x14, w5, p14 ρ η k1 k2]
          by_cases e : ρ * H + η = 0
          · obtain ⟨rfl, rfl⟩ := zc_zero b.2.2.1 e
            simp
          · have e9 : ¬ (η * 8 + ρ = 0) := zc_z2 e
            rw [if_neg e, if_neg e9]
      · obtain ⟨z1, z2, z5, z7⟩ := q4
        refine ⟨fun c k1 k2 => (ah 1 c rfl).trans (z1 c k1 k2), fun c k1 k2 => (ah 2 c rfl).trans (z2 c k1 k2), fun c k1 k2 => ?_, fun c k1 k2 => (ah 7 c rfl).trans (z7 c k1 k2)⟩
        have c0 : ¬ c = 0 := fun e => k2 (by subst e; exact ⟨by have := b.1; omega, by have := b.2.2.1; omega⟩)
        rw [w5, if_neg c0]
        exact z5 c k1 k2
      · intro ρ η k1 k2
        obtain ⟨v1, v2, v3, v4, v5, v6, v7⟩ := q5 ρ η k1 k2
        rw [ag 18 (ρ * H + η) rfl, ag 15 (ρ * H + η) rfl, ag 10 (ρ * H + η) rfl, ag 11 (ρ * H + η) rfl, ag 17 (ρ * H + η) rfl, ag 19 (ρ * H + η) rfl, x13, x14]
        by_cases e : ρ * H + η = 0
        · rw [if_pos e, if_pos e]
          exact ⟨v1, Or.inr rfl, v3, v4, ⟨500, by omega, rfl, fun _ => by omega⟩, v6, v7⟩
        · rw [if_neg e, if_neg e]
          exact ⟨v1, v2, v3, v4, v5, v6, v7⟩
      · obtain ⟨y1, y2, y3, y4, y5, y6⟩ := q6
        exact ⟨by rw [ag 1 2 rfl, t3, ws.2.2.1], by rw [ag 1 3 rfl, t4, ws.2.2.2.1], by rw [xl, ws.1], by rw [ag 0 8 rfl, ah 0 24 rfl, y4], by rw [ag 0 9 rfl, ah 0 25 rfl, y5], Or.inr xl⟩
      · exact ⟨0, by omega, by rw [ag 3 0 rfl, t1]; rfl, by rw [ws.2.1]; rfl, fun k hk => absurd hk (Nat.not_lt_zero k)⟩
      · exact ⟨0, by omega, by rw [ag 3 7 rfl, t2]; rfl, by rw [ws.2.2.2.2]; rfl, fun k hk => absurd hk (Nat.not_lt_zero k)⟩
      · intro hl
        rw [xl] at hl
        exact absurd hl (by decide)
      · intro hl
        have dk : ∀ i, kDampOf g4 i = kDampOf g i := fun i => by unfold kDampOf; rw [ag 17 i rfl, ag 18 i rfl, ag 8 i rfl]
        refine ⟨fun ρ η k1 k2 => ?_, fun c k1 k2 => ?_, ?_, fun k k1 k2 => ?_⟩
        · obtain ⟨l1, l2⟩ := li ρ η k1 k2
          obtain ⟨f1, f2, f3, -⟩ := t5 ρ η k1 k2
          rw [l13 _ l2, l14 _ l2, l15 _ l2, x20 _ l1, dk, ag 17 (ρ * H + η) rfl, ← p10 ρ η k1 k2, ← p12 ρ η k1 k2]
          exact ⟨f1, f3, p15 ρ η k1 k2, (q5 ρ η k1 k2).2.2.1⟩
        · rw [l13 c k1]
          exact q4.1 c k1 k2
        · rw [ag 17 0 rfl]
          have f1 := (t5 0 0 b.1 b.2.2.1).1
          have v6 := (q5 0 0 b.1 b.2.2.1).2.2.2.2.2.1
          simp only [Nat.zero_mul, Nat.add_zero] at f1 v6
          rcases v6 with v6 | v6
          · exact absurd (f1.trans v6) cw
          · rw [v6]; decide
        · rw [ag 2 0 rfl, n1] at k2
          have hk : k < n := (nI_ltI (by omega) (by omega)).mp k2
          rw [x24 k hk, l16 k hk]
          exact ⟨(hj k hk).1, (hj k hk).2.1⟩
      · refine ⟨nr, hnr, by rw [ag 5 0 rfl, r1], by rw [ah 0 42 rfl, r2], fun r hr9 => ?_⟩
        obtain ⟨u1, u2, u3, u4, a9, u5, u6, u7, u8, u9⟩ := hrr r hr9
        rw [x39 r (by omega), l31 r hr9, ag 36 r rfl, ag 37 r rfl, ag 38 r rfl, ah 32 r rfl, ah 33 r rfl, ah 34 r rfl]
        refine ⟨rfl, u2, u3, u4, a9, u5, u6, u7, u8, fun i hi => ?_⟩
        rw [ag 40 (10 * r + i) rfl, ag 41 (10 * r + i) rfl, ag 42 (10 * r + i) rfl, ah 35 (21 * r + i) rfl, ah 36 (21 * r + i) rfl, ah 37 (21 * r + i) rfl]
        exact u9 i hi
  · have c2 : ¬ h0 0 20 = 0 := by rw [← s3]; exact c
    refine key 0 g h0 ?_ ?_ hA
    · unfold fY_X7_light fY_X7_light_19
      rw [if_neg c, z_bo_0]
    · unfold fM_X8_light fM_X8_light_21
      rw [z_let_eq, z0, if_neg c2, z_bo_0]
