/-! a new object on both sides -/
theorem z_loop_s {S α : Type} (step : (S → Option α) → S → Option α) (f : Nat) (w : S) : z_loop step (f + 1) w = step (z_loop step f) w := rfl
theorem p_fill10 (x : Int32) (g : z_G) : ∃ g', fP_J7_fill_53178_r10 x g = some (0, g') ∧ (∀ i, i < 64 → g' 10 i = x) ∧ z_ag (z_tch [10] []) g g' := by
  unfold fP_J7_fill_53178_r10 fP_J7_fill_53178_r10_5_go
  refine z_pfor (step := fun k (w : Int32 × Int32 × Int32 × z_G) => fP_J7_fill_53178_r10_5 k w.1 w.2.1 w.2.2.1 w.2.2.2) (fun j g => (x, nI j, 64, g)) (fun g => some (0, g)) 64 (z_fuel_big (by omega)) (fun j s => (∀ i, i < j → s 10 i = x) ∧ z_ag (z_tch [10] []) g s) (fun k j s hj hp => ⟨z_up s 10 j x, ?_, ?_⟩) (fun k s hp => ?_) g ⟨fun i hi => absurd hi (Nat.not_lt_zero i), fr_rf⟩
  · show fP_J7_fill_53178_r10_5 k x (nI j) 64 s = _
    unfold fP_J7_fill_53178_r10_5
    rw [if_neg (zn_64 hj), z_ck_in _ (vp_in_nI (by omega) (by omega)), nI_clamp (by omega), z_let_eq, z_let_eq, nI_1]
  · refine ⟨fun i hi => ?_, fr_up hp.2 rfl⟩
    by_cases e : i = j
    · simp [e, z_up_at]
    · simp [e, z_up_at, hp.1 i (by omega)]
  · show fP_J7_fill_53178_r10_5 k x (nI 64) 64 s = _
    unfold fP_J7_fill_53178_r10_5
    rw [if_pos (show (64 : Int32) ≤ nI 64 from by decide)]
theorem p_fill11 (x : Int32) (g : z_G) : ∃ g', fP_J7_fill_53178_r11 x g = some (0, g') ∧ (∀ i, i < 64 → g' 11 i = x) ∧ z_ag (z_tch [11] []) g g' := by
  unfold fP_J7_fill_53178_r11 fP_J7_fill_53178_r11_5_go
  refine z_pfor (step := fun k (w : Int32 × Int32 × Int32 × z_G) => fP_J7_fill_53178_r11_5 k w.1 w.2.1 w.2.2.1 w.2.2.2) (fun j g => (x, nI j, 64, g)) (fun g => some (0, g)) 64 (z_fuel_big (by omega)) (fun j s => (∀ i, i < j → s 11 i = x) ∧ z_ag (z_tch [11] []) g s) (fun k j s hj hp => ⟨z_up s 11 j x, ?_, ?_⟩) (fun k s hp => ?_) g ⟨fun i hi => absurd hi (Nat.not_lt_zero i), fr_rf⟩
  · show fP_J7_fill_53178_r11_5 k x (nI j) 64 s = _
    unfold fP_J7_fill_53178_r11_5
    rw [if_neg (zn_64 hj), z_ck_in _ (vp_in_nI (by omega) (by omega)), nI_clamp (by omega), z_let_eq, z_let_eq, nI_1]
  · refine ⟨fun i hi => ?_, fr_up hp.2 rfl⟩
    by_cases e : i = j
    · simp [e, z_up_at]
    · simp [e, z_up_at, hp.1 i (by omega)]
  · show fP_J7_fill_53178_r11_5 k x (nI 64) 64 s = _
    unfold fP_J7_fill_53178_r11_5
    rw [if_pos (show (64 : Int32) ≤ nI 64 from by decide)]
theorem p_fill13 (x : Int32) (g : z_G) : ∃ g', fP_J7_fill_53178_r13 x g = some (0, g') ∧ (∀ i, i < 64 → g' 13 i = x) ∧ z_ag (z_tch [13] []) g g' := by
  unfold fP_J7_fill_53178_r13 fP_J7_fill_53178_r13_5_go
  refine z_pfor (step := fun k (w : Int32 × Int32 × Int32 × z_G) => fP_J7_fill_53178_r13_5 k w.1 w.2.1 w.2.2.1 w.2.2.2) (fun j g => (x, nI j, 64, g)) (fun g => some (0, g)) 64 (z_fuel_big (by omega)) (fun j s => (∀ i, i < j → s 13 i = x) ∧ z_ag (z_tch [13] []) g s) (fun k j s hj hp => ⟨z_up s 13 j x, ?_, ?_⟩) (fun k s hp => ?_) g ⟨fun i hi => absurd hi (Nat.not_lt_zero i), fr_rf⟩
  · show fP_J7_fill_53178_r13_5 k x (nI j) 64 s = _
    unfold fP_J7_fill_53178_r13_5
    rw [if_neg (zn_64 hj), z_ck_in _ (vp_in_nI (by omega) (by omega)), nI_clamp (by omega), z_let_eq, z_let_eq, nI_1]
  · refine ⟨fun i hi => ?_, fr_up hp.2 rfl⟩
    by_cases e : i = j
    · simp [e, z_up_at]
    · simp [e, z_up_at, hp.1 i (by omega)]
  · show fP_J7_fill_53178_r13_5 k x (nI 64) 64 s = _
    unfold fP_J7_fill_53178_r13_5
    rw [if_pos (show (64 : Int32) ≤ nI 64 from by decide)]
theorem p_laid {g : z_G} (e4 : g 0 4 = 1) (e10 : g 10 0 = 0) (e13 : g 13 0 = 5) : fP_X2_backToLaid g = some (0, z_up (z_up (z_up (z_up (z_up (z_up (z_up (z_up (z_up (z_up g 0 2 0) 0 3 0) 3 0 0) 4 0 0) 5 0 0) 6 0 0) 7 0 0) 8 0 5) 9 0 0) 12 0 (-1)) := by
  have d3 : vp_in (0 : Int32) 64 := vp_in_nI (n := 0) (by omega) (by omega)
  have d4 : (0 : Int32).toNatClampNeg = 0 := rfl
  have st1 : ∀ kk, fP_X2_backToLaid_12 kk 0 (z_up (z_up g 0 2 0) 0 3 0) = kk (1, z_up (z_up (z_up (z_up (z_up (z_up (z_up (z_up (z_up (z_up g 0 2 0) 0 3 0) 3 0 0) 4 0 0) 5 0 0) 6 0 0) 7 0 0) 8 0 5) 9 0 0) 12 0 (-1)) := by
    intro kk
    have x4 : z_up (z_up g 0 2 0) 0 3 0 0 4 = 1 := by simp [z_up_at, e4]
    have x10 : z_up (z_up g 0 2 0) 0 3 0 10 0 = 0 := by simp [z_up_at, e10]
    have y10 : z_up (z_up (z_up (z_up g 0 2 0) 0 3 0) 3 0 0) 4 0 0 10 0 = 0 := by simp [z_up_at, e10]
    have dm : fP_X2_dampOf 0 (z_up (z_up (z_up (z_up g 0 2 0) 0 3 0) 3 0 0) 4 0 0) = some (0, z_up (z_up (z_up (z_up g 0 2 0) 0 3 0) 3 0 0) 4 0 0) := by
      unfold fP_X2_dampOf fP_X2_dampOf_30
      rw [z_ck_in _ d3, d4, y10, if_pos (by decide)]
    have y13 : z_up (z_up (z_up (z_up (z_up (z_up (z_up g 0 2 0) 0 3 0) 3 0 0) 4 0 0) 5 0 0) 6 0 0) 7 0 0 13 0 = 5 := by simp [z_up_at, e13]
    unfold fP_X2_backToLaid_12
    rw [x4, if_neg (by decide), z_ck_in _ d3, z_ck_in _ d3, d4, x10, z_let_eq, z_ck_in _ d3, z_let_eq, dm, z_bind_nd, z_ck_in _ d3, z_let_eq, z_ck_in _ d3, z_let_eq, z_ck_in _ d3, z_let_eq, z_ck_in _ d3, z_ck_in _ d3, z_let_eq, y13, z_ck_in _ d3, z_let_eq, z_ck_in _ d3, z_let_eq, z_let_eq]
    rfl
  have st2 : ∀ (kk : Int32 × z_G → Option (Int32 × z_G)) (s : z_G), s 0 4 = 1 → fP_X2_backToLaid_12 kk 1 s = some (0, s) := by
    intro kk s es
    unfold fP_X2_backToLaid_12
    rw [es, if_pos (by decide)]
  unfold fP_X2_backToLaid fP_X2_backToLaid_12_go
  rw [z_let_eq, z_let_eq]
  refine (z_loop_s _ 4999 _).trans ((st1 _).trans ((z_loop_s _ 4998 _).trans (st2 _ _ ?_)))
  simp [z_up_at, e4]
theorem p_build : ∃ g1 : z_G, fP_X2_build 1 1 (fun _ _ => 0) = some (0, g1) ∧ g1 0 0 = 1 ∧ g1 0 1 = 1 ∧ g1 0 4 = 1 ∧ g1 0 2 = 0 ∧ g1 0 3 = 0 ∧ g1 1 0 = 1 ∧ g1 2 0 = 1 ∧ g1 3 0 = 0 ∧ g1 4 0 = 0 ∧ g1 5 0 = 0 ∧ g1 6 0 = 0 ∧ g1 7 0 = 0 ∧ g1 8 0 = 5 ∧ g1 9 0 = 0 ∧ g1 10 0 = 0 ∧ g1 11 0 = 0 ∧ g1 12 0 = -1 := by
  have d3 : vp_in (0 : Int32) 64 := vp_in_nI (n := 0) (by omega) (by omega)
  have d4 : (0 : Int32).toNatClampNeg = 0 := rfl
  obtain ⟨ga, u1, u2, u3⟩ := p_fill10 0 (z_up (z_up (z_up (fun _ _ => 0) 0 0 1) 0 1 1) 0 4 (1 * 1))
  obtain ⟨gb, v1, v2, v3⟩ := p_fill11 0 ga
  obtain ⟨gc, w1, w2, w3⟩ := p_fill13 5 gb
  have c0 : gc 0 0 = 1 := by rw [w3 0 0 rfl, v3 0 0 rfl, u3 0 0 rfl]; simp [z_up_at]
  have c1 : gc 0 1 = 1 := by rw [w3 0 1 rfl, v3 0 1 rfl, u3 0 1 rfl]; simp [z_up_at]
  have c4 : gc 0 4 = 1 := by
    rw [w3 0 4 rfl, v3 0 4 rfl, u3 0 4 rfl, z_up_same]
    rfl
  have c10 : gc 10 0 = 0 := by rw [w3 10 0 rfl, v3 10 0 rfl, u2 0 (by omega)]
  have c11 : gc 11 0 = 0 := by rw [w3 11 0 rfl, v2 0 (by omega)]
  have c13 : gc 13 0 = 5 := w2 0 (by omega)
  have st1 : ∀ kk, fP_X2_build_43 kk 0 gc = fP_X2_build_54_go kk 0 0 gc := by
    intro kk
    unfold fP_X2_build_43
    rw [c0, if_neg (by decide)]
  have st2 : ∀ k43 k54, fP_X2_build_54 k43 k54 0 0 gc = k54 (0, 1, z_up (z_up gc 1 0 1) 2 0 1) := by
    intro k43 k54
    unfold fP_X2_build_54 fP_X2_build_111 fP_X2_build_116 fP_X2_at
    rw [c1, if_neg (by decide), z_bind_nd, show (0 : Int32) * 1 + 0 = 0 from by decide, z_ck_in _ d3, d4, z_let_eq, show (2 : Int32) * 0 + 1 = 1 from by decide, z_up_row _ _ _ _ (show 0 ≠ 1 by decide), c0, if_pos (by decide), z_ck_in _ d3, z_let_eq, z_let_eq, nar1]
    rfl
  have st3 : ∀ (k43 : Int32 × z_G → Option (Int32 × z_G)) (k54 : Int32 × Int32 × z_G → Option (Int32 × z_G)) (s : z_G), s 0 1 = 1 → fP_X2_build_54 k43 k54 0 1 s = k43 (1, s) := by
    intro k43 k54 s es
    unfold fP_X2_build_54
    rw [es, if_pos (by decide), z_let_eq]
    rfl
  have st4 : ∀ (kk : Int32 × z_G → Option (Int32 × z_G)) (s : z_G), s 0 0 = 1 → fP_X2_build_43 kk 1 s = z_bind (fP_X2_backToLaid s) (fun r14 g15 => some (0, g15)) := by
    intro kk s es
    unfold fP_X2_build_43
    rw [es, if_pos (by decide)]
  have b0 : z_up (z_up gc 1 0 1) 2 0 1 0 0 = 1 := by simp [z_up_at, c0]
  have b1 : z_up (z_up gc 1 0 1) 2 0 1 0 1 = 1 := by simp [z_up_at, c1]
  have lp : fP_X2_build_43_go 0 gc = z_bind (fP_X2_backToLaid (z_up (z_up gc 1 0 1) 2 0 1)) (fun r14 g15 => some (0, g15)) := by
    unfold fP_X2_build_43_go
    refine (z_loop_s _ 4999 _).trans ((st1 _).trans ?_)
    unfold fP_X2_build_54_go
    exact (z_loop_s _ 4999 _).trans ((st2 _ _).trans ((z_loop_s _ 4998 _).trans ((st3 _ _ _ b1).trans ((z_loop_s _ 4998 _).trans (st4 _ _ b0)))))
  have ld := p_laid (g := z_up (z_up gc 1 0 1) 2 0 1) (by simp [z_up_at, c4]) (by simp [z_up_at, c10]) (by simp [z_up_at, c13])
  have ex : fP_X2_build 1 1 (fun _ _ => 0) = some (0, z_up (z_up (z_up (z_up (z_up (z_up (z_up (z_up (z_up (z_up (z_up (z_up gc 1 0 1) 2 0 1) 0 2 0) 0 3 0) 3 0 0) 4 0 0) 5 0 0) 6 0 0) 7 0 0) 8 0 5) 9 0 0) 12 0 (-1)) := by
    unfold fP_X2_build
    rw [z_let_eq, z_let_eq, z_let_eq, u1, z_bind_nd, v1, z_bind_nd, w1, z_bind_nd, lp, ld, z_bind_nd]
  refine ⟨_, ex, ?_⟩
  simp [z_up_at, c0, c1, c4, c10, c11]
theorem rel_start : ∃ (r1 r2 : Int32) (g1 h1 : z_G), fP_X2_build 1 1 (fun _ _ => 0) = some (r1, g1) ∧ fM_X8_empties hM0 = some (r2, h1) ∧ rel (gY0 g1) h1 := by
  obtain ⟨g1, u, a1, a2, a3, a4, a5, a6, a7, a8, a9, a10, a11, a12, a13, a14, a15, a16, a17⟩ := p_build
  obtain ⟨h1, v, v2, v3⟩ := m_empties hM0
  have ah := frM_X8_empties _ _ _ v
  have y1 : ∀ j, gY0 g1 1 j = g1 0 j := fun j => rfl
  have yr : ∀ r j, 8 ≤ r → r < 22 → gY0 g1 r j = g1 (r - 7) j := fun r j h1 h2 => by
    unfold gY0
    rw [if_neg (by omega), if_neg (by omega), if_neg (by omega), if_pos h2]
  have hz : ∀ a j, a ≠ 0 → hM0 a j = 0 := fun a j ha => by unfold hM0; rw [if_neg ha]
  refine ⟨0, 0, g1, h1, u, v, ⟨1, 1, r_new (by omega) ⟨a1, a2, a3⟩ ?_ ?_ ⟨a4, a5⟩ ⟨rfl, rfl, rfl⟩ ⟨?_, ?_⟩ v2 v3 ?_ ?_ ?_ ?_⟩, ?_, ?_⟩
  · intro ρ η k1 k2
    have e1 : ρ = 0 := by omega
    have e2 : η = 0 := by omega
    subst e1 e2
    exact ⟨a6, a7⟩
  · intro i hi
    have e1 : i = 0 := by omega
    subst e1
    exact ⟨a8, a9, a10, a11, a12, a13, a14, a15, a16, a17⟩
  · rw [ah 0 1 rfl]; rfl
  · rw [ah 0 2 rfl]; rfl
  · rw [ah 0 24 rfl]; rfl
  · rw [ah 0 25 rfl]; rfl
  · exact ⟨0, by omega, rfl, by rw [ah 0 13 rfl]; rfl, fun k hk => absurd hk (Nat.not_lt_zero k)⟩
  · exact ⟨0, by omega, rfl, by rw [ah 0 42 rfl]; rfl, fun k hk => absurd hk (Nat.not_lt_zero k)⟩
  · exact ⟨0, by omega, rfl, by rw [ah 0 52 rfl]; rfl, fun k hk => absurd hk (Nat.not_lt_zero k)⟩
  · exact ⟨0, by omega, rfl, by rw [ah 0 41 rfl]; rfl, fun k hk => absurd hk (Nat.not_lt_zero k)⟩
theorem all_sims : z_sims rel := ⟨sim_clamp, sim_lay, sim_layRow, sim_hole, sim_light, sim_open, sim_cover, sim_watch, sim_hour, sim_again, sim_rake, sim_count, sim_cell, sim_all, sim_told, sim_breach, sim_sign, sim_end, sim_rule, sim_repeal, sim_wood, sim_years, sim_cut, sim_plan, sim_stand⟩
