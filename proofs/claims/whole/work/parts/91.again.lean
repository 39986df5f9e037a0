/-! hour; again -/
theorem y_isWeather (a0 a1 : Int32) (g : z_G) : fY_X7_isWeather a0 a1 g = some (if (a0 < 0 ∨ 9 < a0) ∨ (a1 < 0 ∨ 3 < a1) then 0 else 1, g) := by
  unfold fY_X7_isWeather fY_X7_isWeather_23 fY_X7_isWeather_24
  by_cases c1 : a0 < 0
  · rw [if_pos c1, if_pos (Or.inl (Or.inl c1)), z_bo_0]
  · by_cases c2 : 9 < a0
    · rw [if_neg c1, if_pos c2, if_pos (Or.inl (Or.inr c2)), z_bo_0]
    · by_cases c3 : a1 < 0
      · rw [if_neg c1, if_neg c2, if_pos c3, if_pos (Or.inr (Or.inl c3)), z_bo_0]
      · by_cases c4 : 3 < a1
        · rw [if_neg c1, if_neg c2, if_neg c3, if_pos c4, if_pos (Or.inr (Or.inr c4)), z_bo_0]
        · rw [if_neg c1, if_neg c2, if_neg c3, if_neg c4, if_neg (fun q => q.elim (fun q => q.elim c1 c2) (fun q => q.elim c3 c4)), z_bo_1]
theorem sim_hour : z_sim2 rel fY_X7_hour fM_X8_hour := by
  intro a0 a1 g h hr
  have hr0 := rel_thrown hr 0
  have e0 : fM_X8_hour a0 a1 h = fM_X8_hour a0 a1 (z_up h 0 0 0) := by unfold fM_X8_hour; rw [z_let_eq, z_let_eq, z_reset]
  rw [e0]
  have z0 := z_reset (h := h)
  revert hr0 z0
  generalize z_up h 0 0 0 = h0
  intro hr0 z0
  obtain ⟨R, H, hA⟩ := hr0.1
  obtain ⟨q1, q2, q3, q4, q5, q6, q7, q8, q9, q10, q11, q12⟩ := id hA
  have s3 : g 0 7 = h0 0 20 := q6.2.2.1
  have key : ∀ (r : Int32) (g' h' : z_G), fY_X7_hour a0 a1 g = some (r, g') → fM_X8_hour a0 a1 h0 = some (r, h') → rAll R H g' h' → ∃ (r : Int32) (g' h' : z_G), fY_X7_hour a0 a1 g = some (r, g') ∧ fM_X8_hour a0 a1 h0 = some (r, h') ∧ rel g' h' := fun r g' h' u v w => ⟨r, g', h', u, v, ⟨R, H, w⟩, rWood_fr hr0.2.1 (frY_X7_hour _ _ _ _ _ u) (z_apart (by decide)) (frM_X8_hour _ _ _ _ _ v) (z_apart (by decide)), rTape_fr hr0.2.2 (frY_X7_hour _ _ _ _ _ u) (z_apart (by decide)) (frM_X8_hour _ _ _ _ _ v) (z_apart (by decide))⟩
  have bad : (a0 < 0 ∨ 9 < a0) ∨ (a1 < 0 ∨ 3 < a1) → fM_X8_hour a0 a1 h0 = some (-1, h0) := by
    intro c
    unfold fM_X8_hour fM_X8_hour_46
    rw [z_let_eq, z0, m_in_0_9, z_bind_nd]
    by_cases c1 : a0 < 0 ∨ 9 < a0
    · rw [if_pos c1, if_pos rfl]
    · rw [if_neg c1, if_neg (by decide), m_in_0_3, z_bind_nd, if_pos (c.resolve_left c1), if_pos rfl]
  have good : ¬ ((a0 < 0 ∨ 9 < a0) ∨ (a1 < 0 ∨ 3 < a1)) → fM_X8_hour a0 a1 h0 = if h0 0 20 = 0 then some (-1, h0) else if h0 0 21 = 300 then some (-1, h0) else z_bind (fM_X8_works a0 a1 h0) (fun r12 g13 => some (r12, g13)) := by
    intro c
    unfold fM_X8_hour fM_X8_hour_46
    rw [z_let_eq, z0, m_in_0_9, z_bind_nd, if_neg (fun q => c (Or.inl q)), if_neg (by decide), m_in_0_3, z_bind_nd, if_neg (fun q => c (Or.inr q)), if_neg (by decide)]
  rcases q6.2.2.2.2.2 with c | c
  · have c2 : h0 0 20 = 0 := by rw [← s3]; exact c
    refine key (-1) g h0 ?_ ?_ hA
    · unfold fY_X7_hour fY_X7_hour_25
      rw [if_pos c]
    · by_cases cw : (a0 < 0 ∨ 9 < a0) ∨ (a1 < 0 ∨ 3 < a1)
      · exact bad cw
      · rw [good cw, if_pos c2]
  · have c1 : ¬ g 0 7 = 0 := by rw [c]; decide
    have c2 : ¬ h0 0 20 = 0 := by rw [← s3]; exact c1
    by_cases cw : (a0 < 0 ∨ 9 < a0) ∨ (a1 < 0 ∨ 3 < a1)
    · refine key (-1) g h0 ?_ (bad cw) hA
      unfold fY_X7_hour fY_X7_hour_25
      rw [if_neg c1, y_isWeather, z_bind_nd, if_pos cw, if_pos rfl]
    · obtain ⟨t, ht, t1, t2, -⟩ := id q8
      have yy : fY_X7_hour a0 a1 g = z_bind (fY_X0_isFull g) (fun r6 g7 => (if r6 = 0 then z_bind (fY_X7_workHour a0 a1 g7) (fun r10 g11 => some (r10, g11)) else fY_X7_hour_25 g7)) := by
        unfold fY_X7_hour
        rw [if_neg c1, y_isWeather, z_bind_nd, if_neg cw, if_neg (by decide)]
      by_cases e : t = 300
      · refine key (-1) g h0 ?_ ?_ hA
        · rw [yy]
          unfold fY_X0_isFull fY_X0_isFull_15 fY_X7_hour_25
          rw [t1, e, if_neg (by decide), z_bo_1, z_bind_nd, if_neg (by decide)]
        · rw [good cw, if_neg c2, t2, e, if_pos (by decide)]
      · obtain ⟨ra, hra, era⟩ := nI_of2 (M := 9) (n := 9) (x := a0) (by decide) (fun q => cw (Or.inl (Or.inl q))) (zn_nlt.mp (fun q => cw (Or.inl (Or.inr q))))
        obtain ⟨wi, hwi, ewi⟩ := nI_of2 (M := 3) (n := 3) (x := a1) (by decide) (fun q => cw (Or.inr (Or.inl q))) (zn_nlt.mp (fun q => cw (Or.inr (Or.inr q))))
        obtain ⟨x, g', h', u, v, w, -⟩ := r_hour hA (show t < 300 by omega) t1 hra hwi c
        refine key x g' h' ?_ ?_ w
        · rw [yy]
          unfold fY_X0_isFull fY_X0_isFull_15
          rw [t1, if_pos (show nI t < 300 from nI_lt (a := t) (b := 300) (by omega) (by omega)), z_bo_0, z_bind_nd, if_pos rfl, era, ewi, u, z_bind_nd]
        · have n3 : ¬ h0 0 21 = 300 := by
            rw [t2]
            intro q
            exact e ((nI_eq (a := t) (b := 300) (by omega) (by omega)).mp q)
          rw [good cw, if_neg c2, if_neg n3, era, ewi, v, z_bind_nd]
/-! weather told anew: back to the lighting -/
theorem y_backHoles {g : z_G} {n : Nat} (hn : n ≤ 12) (e : g 2 0 = nI n) (hb : ∀ k, k < n → g 24 k = 0 ∨ g 24 k = 1) : ∃ g', fY_X1_backToLight g = some (0, g') ∧ ∀ k, k < n → g' 23 k = g 24 k := by
  unfold fY_X1_backToLight fY_X1_backToLight_2_go
  have key := z_pfor (step := fun k (w : Int32 × z_G) => fY_X1_backToLight_2 k w.1 w.2) (fun j g => (nI j, g)) (fun g => some (0, g)) n (z_fuel_big (by omega)) (fun j s => (∀ i, i < j → s 23 i = g 24 i) ∧ z_ag (z_tch [23] []) g s) (fun k j s hj hp => ⟨z_up s 23 j (g 24 j), ?_, ?_⟩) (fun k s hp => ?_) g ⟨fun i hi => absurd hi (Nat.not_lt_zero i), fr_rf⟩
  · obtain ⟨s', h1, h2⟩ := key
    exact ⟨s', h1, h2.1⟩
  · have d3 : vp_in (nI j) 12 := vp_in_nI (by omega) (by omega)
    have d4 : (nI j).toNatClampNeg = j := nI_clamp (by omega)
    show fY_X1_backToLight_2 k (nI j) s = _
    unfold fY_X1_backToLight_2
    rw [hp.2 2 0 rfl, e, if_neg (zn_stop (show n < 2 ^ 31 by omega) hj), z_ck_in _ d3, z_ck_in _ d3, d4, z_let_eq, z_let_eq, nI_1, hp.2 24 j rfl, nar01 (hb j hj)]
  · refine ⟨fun i hi => ?_, fr_up hp.2 rfl⟩
    by_cases e : i = j
    · rw [e, z_up_same]
    · rw [z_up_at, if_neg (fun q => e q.2)]
      exact hp.1 i (by omega)
  · show fY_X1_backToLight_2 k (nI n) s = _
    unfold fY_X1_backToLight_2
    rw [hp.2 2 0 rfl, e, if_pos (nI_le (Nat.le_refl n) (by omega))]
theorem m_again63 {h : z_G} {j0 m : Nat} (hm : m ≤ 300) (hj0 : j0 < m) (a1 a2 : Int32) : ∃ h' : z_G, fM_X8_again_63_go (nI j0) a1 a2 (nI m) 0 h = fM_X8_again_127_go (nI m) 0 h' ∧ z_ag (z_tch [28, 29] []) h h' ∧ ∀ k, k < m → h' 28 k = (if k = j0 then a1 else h 20 k) ∧ h' 29 k = (if k = j0 then a2 else h 21 k) := by
  unfold fM_X8_again_63_go
  refine z_pfor (step := fun k (w : Int32 × Int32 × Int32 × Int32 × Int32 × z_G) => fM_X8_again_63 k w.1 w.2.1 w.2.2.1 w.2.2.2.1 w.2.2.2.2.1 w.2.2.2.2.2) (fun j s => (nI j0, a1, a2, nI m, nI j, s)) (fun s => fM_X8_again_127_go (nI m) 0 s) m (z_fuel_big (by omega)) (fun j s => z_ag (z_tch [28, 29] []) h s ∧ ∀ k, k < j → s 28 k = (if k = j0 then a1 else h 20 k) ∧ s 29 k = (if k = j0 then a2 else h 21 k)) (fun k j s hj hp => ⟨z_up (z_up s 28 j (if j = j0 then a1 else h 20 j)) 29 j (if j = j0 then a2 else h 21 j), ?_, ?_⟩) (fun k s hp => ?_) h ⟨fr_rf, fun i hi => absurd hi (Nat.not_lt_zero i)⟩
  · have d3 : vp_in (nI j) 300 := vp_in_nI (by omega) (by omega)
    have d4 : (nI j).toNatClampNeg = j := nI_clamp (by omega)
    show fM_X8_again_63 k (nI j0) a1 a2 (nI m) (nI j) s = _
    unfold fM_X8_again_63 fM_X8_again_93 fM_X8_again_117
    rw [if_neg (nI_ge hj (by omega))]
    by_cases c : j = j0
    · rw [if_pos (by rw [c]), z_ck_in _ d3, d4, z_let_eq, if_pos (by rw [c]), z_ck_in _ d3, z_let_eq, z_let_eq, nI_1, if_pos c, if_pos c]
    · have c2 : ¬ nI j = nI j0 := fun q => c ((nI_eq (by omega) (by omega)).mp q)
      rw [if_neg c2, z_ck_in _ d3, z_ck_in _ d3, d4, z_let_eq, if_neg c2, z_ck_in _ d3, z_ck_in _ d3, z_let_eq, z_let_eq, nI_1, if_neg c, if_neg c, hp.1 20 j rfl, z_up_row _ _ _ _ (show 21 ≠ 28 by decide), hp.1 21 j rfl]
  · refine ⟨fr_up (fr_up hp.1 rfl) rfl, fun i hi => ?_⟩
    by_cases e : i = j
    · subst e
      exact ⟨by rw [z_up_row _ _ _ _ (show 28 ≠ 29 by decide), z_up_same], by rw [z_up_same]⟩
    · rw [z_up_row _ _ _ _ (show 28 ≠ 29 by decide), z_up_at, if_neg (show ¬ (28 = 28 ∧ i = j) from fun q => e q.2), z_up_at, if_neg (show ¬ (29 = 29 ∧ i = j) from fun q => e q.2), z_up_row _ _ _ _ (show 29 ≠ 28 by decide)]
      exact hp.2 i (by omega)
  · show fM_X8_again_63 k (nI j0) a1 a2 (nI m) (nI m) s = _
    unfold fM_X8_again_63
    rw [if_pos (nI_le (Nat.le_refl m) (by omega))]
theorem m_again127 (h : z_G) (x : Int32) : ∃ h' : z_G, fM_X8_again_127_go x 0 h = fM_X8_again_225_go x 0 h' ∧ z_ag (z_tch [1, 2, 3, 4, 5, 8, 9, 10] []) h h' ∧ ∀ c, c < 64 → h' 1 c = h 13 c ∧ h' 2 c = 0 ∧ h' 3 c = h 14 c ∧ h' 4 c = 0 ∧ h' 5 c = 0 ∧ h' 8 c = h 15 c ∧ h' 9 c = 0 ∧ h' 10 c = -1 := by
  unfold fM_X8_again_127_go
  refine z_pfor (step := fun k (w : Int32 × Int32 × z_G) => fM_X8_again_127 k w.1 w.2.1 w.2.2) (fun j s => (x, nI j, s)) (fun s => fM_X8_again_225_go x 0 s) 64 (z_fuel_big (by omega)) (fun j s => z_ag (z_tch [1, 2, 3, 4, 5, 8, 9, 10] []) h s ∧ ∀ c, c < j → s 1 c = h 13 c ∧ s 2 c = 0 ∧ s 3 c = h 14 c ∧ s 4 c = 0 ∧ s 5 c = 0 ∧ s 8 c = h 15 c ∧ s 9 c = 0 ∧ s 10 c = -1) (fun k j s hj hp => ⟨z_up (z_up (z_up (z_up (z_up (z_up (z_up (z_up s 1 j (h 13 j)) 3 j (h 14 j)) 8 j (h 15 j)) 2 j 0) 4 j 0) 5 j 0) 9 j 0) 10 j (-1), ?_, ?_⟩) (fun k s hp => ?_) h ⟨fr_rf, fun i hi => absurd hi (Nat.not_lt_zero i)⟩
  · have d3 : vp_in (nI j) 64 := vp_in_nI (by omega) (by omega)
    have d4 : (nI j).toNatClampNeg = j := nI_clamp (by omega)
    show fM_X8_again_127 k x (nI j) s = _
    unfold fM_X8_again_127
    rw [if_neg (zn_64 hj)]
    simp only [z_ck_in _ d3, d4, z_let_eq, nI_1, nar0]
    rw [hp.1 13 j rfl, z_up_row _ _ _ _ (show 14 ≠ 1 by decide), hp.1 14 j rfl, z_up_row _ _ _ _ (show 15 ≠ 3 by decide), z_up_row _ _ _ _ (show 15 ≠ 1 by decide), hp.1 15 j rfl]
  · refine ⟨fr_up (fr_up (fr_up (fr_up (fr_up (fr_up (fr_up (fr_up hp.1 rfl) rfl) rfl) rfl) rfl) rfl) rfl) rfl, fun i hi => ?_⟩
    by_cases e : i = j
    · subst e
      simp [z_up_at]
    · have := hp.2 i (by omega)
      simpa [z_up_at, e] using this
  · show fM_X8_again_127 k x (nI 64) s = _
    unfold fM_X8_again_127
    rw [if_pos (show (64 : Int32) ≤ nI 64 from by decide)]
theorem m_again225 {h : z_G} {n : Nat} (hn : n ≤ 12) (e : h 0 13 = nI n) (hb : ∀ k, k < n → h 16 k = 0 ∨ h 16 k = 1) (x : Int32) : ∃ h' : z_G, fM_X8_again_225_go x 0 h = z_bind (fM_X8_lights h') (fun r29 g30 => fM_X8_again_264_go x 0 0 g30) ∧ z_ag (z_tch [12] []) h h' ∧ ∀ k, k < n → h' 12 k = h 16 k := by
  unfold fM_X8_again_225_go
  refine z_pfor (step := fun k (w : Int32 × Int32 × z_G) => fM_X8_again_225 k w.1 w.2.1 w.2.2) (fun j s => (x, nI j, s)) (fun s => z_bind (fM_X8_lights s) (fun r29 g30 => fM_X8_again_264_go x 0 0 g30)) n (z_fuel_big (by omega)) (fun j s => z_ag (z_tch [12] []) h s ∧ ∀ k, k < j → s 12 k = h 16 k) (fun k j s hj hp => ⟨z_up s 12 j (h 16 j), ?_, ?_⟩) (fun k s hp => ?_) h ⟨fr_rf, fun i hi => absurd hi (Nat.not_lt_zero i)⟩
  · have d3 : vp_in (nI j) 12 := vp_in_nI (by omega) (by omega)
    have d4 : (nI j).toNatClampNeg = j := nI_clamp (by omega)
    show fM_X8_again_225 k x (nI j) s = _
    unfold fM_X8_again_225
    rw [hp.1 0 13 rfl, e, if_neg (zn_stop (show n < 2 ^ 31 by omega) hj), z_ck_in _ d3, z_ck_in _ d3, d4, z_let_eq, z_let_eq, nI_1, hp.1 16 j rfl, nar01 (hb j hj)]
  · refine ⟨fr_up hp.1 rfl, fun i hi => ?_⟩
    by_cases e : i = j
    · rw [e, z_up_same]
    · rw [z_up_at, if_neg (fun q => e q.2)]
      exact hp.2 i (by omega)
  · show fM_X8_again_225 k x (nI n) s = _
    unfold fM_X8_again_225
    rw [hp.1 0 13 rfl, e, if_pos (nI_le (Nat.le_refl n) (by omega))]
/-- what was done by hand in one hour -/
theorem r_acts {R H : Nat} {j m : Nat} (hm : m ≤ 100) (x4 : Int32) (k264 : Int32 × Int32 × Int32 × z_G → Option (Int32 × z_G)) : ∀ (d k fu1 fu2 : Nat) (g h : z_G), k + d = m → d < fu1 → d < fu2 → rAll R H g h → g 3 7 = nI m → ∃ (k' : Nat) (g' h' : z_G), k' ≤ m ∧ z_loop (fun k (w : Int32 × Int32 × z_G) => fY_X7_handleAllOf_2 k w.1 w.2.1 w.2.2) fu1 (nI j, nI k, g) = some (nI k', g') ∧ z_loop (fun k (w : Int32 × Int32 × Int32 × z_G) => fM_X8_again_271 k264 k w.1 w.2.1 w.2.2.1 w.2.2.2) fu2 (x4, nI k, nI j, h) = fM_X8_again_316 k264 x4 (nI k') (nI j) h' ∧ rAll R H g' h' ∧ z_ag (z_tch [15, 23] []) g g' ∧ z_ag (z_tch [8, 12] []) h h'
  | _, _, 0, _, _, _, _, hf, _, _, _ => absurd hf (Nat.not_lt_zero _)
  | _, _, _ + 1, 0, _, _, _, _, hf, _, _ => absurd hf (Nat.not_lt_zero _)
  | d, k, f1 + 1, f2 + 1, g, h, e, hf1, hf2, hA, m1 => by
    obtain ⟨m9, hm9, a1, a2, a3⟩ := id hA.2.2.2.2.2.2.2.2.1
    have e9 : m9 = m := (nI_eq (by omega) (by omega)).mp (a1.symm.trans m1)
    subst e9
    show ∃ (k' : Nat) (g' h' : z_G), k' ≤ m9 ∧ fY_X7_handleAllOf_2 (z_loop (fun k (w : Int32 × Int32 × z_G) => fY_X7_handleAllOf_2 k w.1 w.2.1 w.2.2) f1) (nI j) (nI k) g = some (nI k', g') ∧ fM_X8_again_271 k264 (z_loop (fun k (w : Int32 × Int32 × Int32 × z_G) => fM_X8_again_271 k264 k w.1 w.2.1 w.2.2.1 w.2.2.2) f2) x4 (nI k) (nI j) h = fM_X8_again_316 k264 x4 (nI k') (nI j) h' ∧ rAll R H g' h' ∧ z_ag (z_tch [15, 23] []) g g' ∧ z_ag (z_tch [8, 12] []) h h'
    cases d with
    | zero =>
      refine ⟨k, g, h, by omega, ?_, ?_, hA, fr_rf, fr_rf⟩
      · unfold fY_X7_handleAllOf_2 fY_X7_handleAllOf_63
        rw [a1, if_pos (nI_le (by omega) (by omega))]
      · unfold fM_X8_again_271
        rw [a2, if_pos (nI_le (by omega) (by omega))]
    | succ d =>
      have hk : k < m9 := by omega
      have d3 : vp_in (nI k) 100 := vp_in_nI (by omega) (by omega)
      have d4 : (nI k).toNatClampNeg = k := nI_clamp (by omega)
      obtain ⟨b1, b2, b3⟩ := a3 k hk
      by_cases c : g 31 k = nI j
      · obtain ⟨g1, h1, u, v, w⟩ := r_handle hA (ky := g 32 k) (pl := g 33 k) (v := g 34 k) (wh := h 17 k) b3
        have ag := frY_X7_handle _ _ _ _ _ _ u
        have ah := frM_X8_does _ _ _ _ _ v
        obtain ⟨k', g', h', w1, w2, w3, w4, w5, w6⟩ := r_acts (j := j) hm x4 k264 d (k + 1) f1 f2 g1 h1 (by omega) (by omega) (by omega) w ((ag 3 7 rfl).trans m1)
        refine ⟨k', g', h', w1, ?_, ?_, w4, z_ag_trans ag w5 (fun _ _ h => h) (fun _ _ h => h), z_ag_trans ah w6 (fun _ _ h => h) (fun _ _ h => h)⟩
        · unfold fY_X7_handleAllOf_2
          rw [a1, if_neg (nI_ge hk (by omega)), z_ck_in _ d3, d4, if_pos c, z_ck_in _ d3, z_ck_in _ d3, z_ck_in _ d3, u, z_bind_nd, z_let_eq, nI_1]
          exact w2
        · unfold fM_X8_again_271
          rw [a2, if_neg (nI_ge hk (by omega)), z_ck_in _ d3, d4, ← b1, if_pos c, z_ck_in _ d3, z_ck_in _ d3, ← b2, v, z_bind_nd, z_let_eq, nI_1]
          exact w3
      · refine ⟨k, g, h, by omega, ?_, ?_, hA, fr_rf, fr_rf⟩
        · unfold fY_X7_handleAllOf_2 fY_X7_handleAllOf_63
          rw [a1, if_neg (nI_ge hk (by omega)), z_ck_in _ d3, d4, if_neg c]
        · unfold fM_X8_again_271
          rw [a2, if_neg (nI_ge hk (by omega)), z_ck_in _ d3, d4, ← b1, if_neg c]
/-- the hours worked again -/
theorem r_hours {R H : Nat} {many m : Nat} (hmany : many ≤ 300) (hm : m ≤ 100) : ∀ (d j fu1 fu2 k : Nat) (g h : z_G), j + d = many → d < fu1 → d + 1 < fu2 → rAll R H g h → g 3 0 = nI j → g 0 7 = 1 → g 3 7 = nI m → k ≤ m → (∀ i, j ≤ i → i < many → ∃ ra wi : Nat, ra ≤ 9 ∧ wi ≤ 3 ∧ g 25 i = nI ra ∧ g 26 i = nI wi ∧ h 28 i = nI ra ∧ h 29 i = nI wi) → ∃ g' h' : z_G, z_loop (fun k (w : Int32 × Int32 × Int32 × z_G) => fY_X7_workAgain_34 k w.1 w.2.1 w.2.2.1 w.2.2.2) fu1 (nI many, nI k, nI j, g) = some (0, g') ∧ z_loop (fun k (w : Int32 × Int32 × Int32 × z_G) => fM_X8_again_264 k w.1 w.2.1 w.2.2.1 w.2.2.2) fu2 (nI many, nI k, nI j, h) = z_bind (fM_X8_sum_r2 h') (fun r25 g26 => some (r25, g26)) ∧ rAll R H g' h'
  | _, _, 0, _, _, _, _, _, hf, _, _, _, _, _, _, _ => absurd hf (Nat.not_lt_zero _)
  | _, _, _ + 1, 0, _, _, _, _, _, hf, _, _, _, _, _, _ => absurd hf (Nat.not_lt_zero _)
  | 0, j, f1 + 1, f2 + 1, k, g, h, e, hf1, hf2, hA, t1, lit, m1, hk, _ => by
    have ej : j = many := by omega
    subst ej
    obtain ⟨k', g', h', w1, w2, w3, w4, w5, w6⟩ := r_acts (j := j) hm (nI j) (z_loop (fun k (w : Int32 × Int32 × Int32 × z_G) => fM_X8_again_264 k w.1 w.2.1 w.2.2.1 w.2.2.2) f2) (m - k) k z_fuel z_fuel g h (by omega) (z_fuel_big (by omega)) (z_fuel_big (by omega)) hA m1
    obtain ⟨f3, rfl⟩ : ∃ f3, f2 = f3 + 1 := ⟨f2 - 1, by omega⟩
    refine ⟨g', h', ?_, ?_, w4⟩
    · show fY_X7_workAgain_34 (z_loop (fun k (w : Int32 × Int32 × Int32 × z_G) => fY_X7_workAgain_34 k w.1 w.2.1 w.2.2.1 w.2.2.2) f1) (nI j) (nI k) (nI j) g = _
      have w2' : fY_X7_handleAllOf (nI j) (nI k) g = some (nI k', g') := w2
      unfold fY_X7_workAgain_34
      rw [if_pos (nI_le (Nat.le_refl j) (by omega)), w2', z_bind_nd]
    · show fM_X8_again_264 (z_loop (fun k (w : Int32 × Int32 × Int32 × z_G) => fM_X8_again_264 k w.1 w.2.1 w.2.2.1 w.2.2.2) (f3 + 1)) (nI j) (nI k) (nI j) h = _
      have w3' : fM_X8_again_271_go (z_loop (fun k (w : Int32 × Int32 × Int32 × z_G) => fM_X8_again_264 k w.1 w.2.1 w.2.2.1 w.2.2.2) (f3 + 1)) (nI j) (nI k) (nI j) h = fM_X8_again_316 (z_loop (fun k (w : Int32 × Int32 × Int32 × z_G) => fM_X8_again_264 k w.1 w.2.1 w.2.2.1 w.2.2.2) (f3 + 1)) (nI j) (nI k') (nI j) h' := w3
      have s1 : ∀ kk : Int32 × Int32 × Int32 × z_G → Option (Int32 × z_G), fM_X8_again_264 kk (nI j) (nI k) (nI j) h = fM_X8_again_271_go kk (nI j) (nI k) (nI j) h := by
        intro kk
        unfold fM_X8_again_264
        rw [if_neg (nI_nlt (Nat.le_refl j) (by omega))]
      have s2 : ∀ kk : Int32 × Int32 × Int32 × z_G → Option (Int32 × z_G), fM_X8_again_316 kk (nI j) (nI k') (nI j) h' = kk (nI j, nI k', nI (j + 1), h') := by
        intro kk
        unfold fM_X8_again_316 fM_X8_again_343
        rw [if_pos (nI_le (Nat.le_refl j) (by omega)), z_let_eq, nI_1]
      rw [s1, w3', s2]
      show fM_X8_again_264 (z_loop (fun k (w : Int32 × Int32 × Int32 × z_G) => fM_X8_again_264 k w.1 w.2.1 w.2.2.1 w.2.2.2) f3) (nI j) (nI k') (nI (j + 1)) h' = _
      unfold fM_X8_again_264
      rw [if_pos (nI_lt (by omega) (by omega))]
  | d + 1, j, f1 + 1, f2 + 1, k, g, h, e, hf1, hf2, hA, t1, lit, m1, hk, hw => by
    obtain ⟨k', g1, h1, w1, w2, w3, w4, w5, w6⟩ := r_acts (j := j) hm (nI many) (z_loop (fun k (w : Int32 × Int32 × Int32 × z_G) => fM_X8_again_264 k w.1 w.2.1 w.2.2.1 w.2.2.2) f2) (m - k) k z_fuel z_fuel g h (by omega) (z_fuel_big (by omega)) (z_fuel_big (by omega)) hA m1
    obtain ⟨ra, wi, c1, c2, c3, c4, c5, c6⟩ := hw j (Nat.le_refl j) (by omega)
    obtain ⟨x, g2, h2, u, v, hA2, t2, same⟩ := r_hour w4 (show j < 300 by omega) ((w5 3 0 rfl).trans t1) c1 c2 ((w5 0 7 rfl).trans lit)
    have ag2 := frY_X7_workHour _ _ _ _ _ u
    have ah2 := frM_X8_works _ _ _ _ _ v
    obtain ⟨g', h', y1, y2, y3⟩ := r_hours hmany hm d (j + 1) f1 f2 k' g2 h2 (by omega) (by omega) (by omega) hA2 t2 ((ag2 0 7 rfl).trans ((w5 0 7 rfl).trans lit)) ((ag2 3 7 rfl).trans ((w5 3 7 rfl).trans m1)) w1 (fun i i1 i2 => by
      obtain ⟨ra, wi, c1, c2, c3, c4, c5, c6⟩ := hw i (by omega) i2
      refine ⟨ra, wi, c1, c2, ?_, ?_, ?_, ?_⟩
      · rw [(same i (by omega)).1, w5 25 i rfl, c3]
      · rw [(same i (by omega)).2, w5 26 i rfl, c4]
      · rw [ah2 28 i rfl, w6 28 i rfl, c5]
      · rw [ah2 29 i rfl, w6 29 i rfl, c6])
    have d3 : vp_in (nI j) 300 := vp_in_nI (by omega) (by omega)
    have d4 : (nI j).toNatClampNeg = j := nI_clamp (by omega)
    refine ⟨g', h', ?_, ?_, y3⟩
    · show fY_X7_workAgain_34 (z_loop (fun k (w : Int32 × Int32 × Int32 × z_G) => fY_X7_workAgain_34 k w.1 w.2.1 w.2.2.1 w.2.2.2) f1) (nI many) (nI k) (nI j) g = _
      have w2' : fY_X7_handleAllOf (nI j) (nI k) g = some (nI k', g1) := w2
      unfold fY_X7_workAgain_34
      rw [if_neg (nI_ge (by omega) (by omega)), w2', z_bind_nd, z_ck_in _ d3, z_ck_in _ d3, d4, w5 25 j rfl, w5 26 j rfl, c3, c4, u, z_bind_nd, z_let_eq, nI_1]
      exact y1
    · show fM_X8_again_264 (z_loop (fun k (w : Int32 × Int32 × Int32 × z_G) => fM_X8_again_264 k w.1 w.2.1 w.2.2.1 w.2.2.2) f2) (nI many) (nI k) (nI j) h = _
      have w3' : fM_X8_again_271_go (z_loop (fun k (w : Int32 × Int32 × Int32 × z_G) => fM_X8_again_264 k w.1 w.2.1 w.2.2.1 w.2.2.2) f2) (nI many) (nI k) (nI j) h = fM_X8_again_316 (z_loop (fun k (w : Int32 × Int32 × Int32 × z_G) => fM_X8_again_264 k w.1 w.2.1 w.2.2.1 w.2.2.2) f2) (nI many) (nI k') (nI j) h1 := w3
      have s1 : ∀ kk : Int32 × Int32 × Int32 × z_G → Option (Int32 × z_G), fM_X8_again_264 kk (nI many) (nI k) (nI j) h = fM_X8_again_271_go kk (nI many) (nI k) (nI j) h := by
        intro kk
        unfold fM_X8_again_264
        rw [if_neg (nI_nlt (by omega) (by omega))]
      have s2 : ∀ kk : Int32 × Int32 × Int32 × z_G → Option (Int32 × z_G), fM_X8_again_316 kk (nI many) (nI k') (nI j) h1 = kk (nI many, nI k', nI (j + 1), h2) := by
        intro kk
        unfold fM_X8_again_316 fM_X8_again_343
        rw [if_neg (nI_ge (by omega) (by omega)), z_ck_in _ d3, z_ck_in _ d3, d4, w6 28 j rfl, w6 29 j rfl, c5, c6, v, z_bind_nd, z_let_eq, nI_1]
      rw [s1, w3', s2]
      exact y2
