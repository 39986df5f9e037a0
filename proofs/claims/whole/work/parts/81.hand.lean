/-! what is done by hand: one act, as it is kept and as it is worked again -/
def kAct (R H : Nat) (n2 ky pl v wh : Int32) : Prop := (ky = 0 ∧ pl = wh ∧ (∃ j : Nat, j < 12 ∧ pl = nI j ∧ nI j < n2) ∧ (v = 0 ∨ v = 1)) ∨ (ky = 1 ∧ (∃ ρ η : Nat, ρ < R ∧ η < H ∧ (ρ + 1 = R ∨ η + 1 = H) ∧ pl = nI (ρ * H + η) ∧ wh = nI (12 + (η * 8 + ρ))) ∧ ∃ a : Nat, a ≤ 9 ∧ v = nI a)
theorem r_turn {R H : Nat} {g h : z_G} (hA : rAll R H g h) {j : Nat} (hj : j < 12) (hn : nI j < g 2 0) {v : Int32} (hv : v = 0 ∨ v = 1) : fY_X1_turn (nI j) v g = some (0, z_up g 23 j v) ∧ rAll R H (z_up g 23 j v) (z_up h 12 j v) := by
  obtain ⟨q1, q2, q3, q4, q5, q6, q7, q8, q9, q10, q11, q12⟩ := id hA
  have d3 : vp_in (nI j) 12 := vp_in_nI (by omega) (by omega)
  have d4 : (nI j).toNatClampNeg = j := nI_clamp (by omega)
  have d5 : ¬ (nI j < 0 ∨ g 2 0 ≤ nI j) := by
    rintro (e | e)
    · exact nI_pos (by omega) e
    · exact zn_nle.mpr hn e
  have ag : z_ag (z_tch [23] []) g (z_up g 23 j v) := fr_up fr_rf rfl
  have ah : z_ag (z_tch [12] []) h (z_up h 12 j v) := fr_up fr_rf rfl
  refine ⟨?_, ⟨rDim_fr q1 ag (z_apart (by decide)) ah (z_apart (by decide)), rFix_fr q2 ag (z_apart (by decide)), rCells_fr q3 ag (z_apart (by decide)) ah (z_apart (by decide)), rZeros_fr q4 ah (z_apart (by decide)), rVal_fr q5 ag (z_apart (by decide)), rScal_fr q6 ag (z_apart (by decide)) ah (z_apart (by decide)), ?_, rHours_fr q8 ag (z_apart (by decide)) ah (z_apart (by decide)), rActs_fr q9 ag (z_apart (by decide)) ah (z_apart (by decide)), rCold_fr q10 ag (z_apart (by decide)), rLit_fr q11 ag (z_apart (by decide)) ah (z_apart (by decide)), rRules_fr q12 ag (z_apart (by decide)) ah (z_apart (by decide))⟩⟩
  · unfold fY_X1_turn fY_X1_turn_15
    rw [y_hasH, z_bind_nd, if_neg d5, if_neg (by decide), z_ck_in _ d3, d4, z_let_eq, nar01 hv]
  · obtain ⟨n, hn9, n1, n2, hk⟩ := q7
    refine ⟨n, hn9, by rw [ag 2 0 rfl, n1], by rw [ah 0 13 rfl, n2], fun k hk9 => ?_⟩
    obtain ⟨k1, k2, k3⟩ := hk k hk9
    rw [ag 22 k rfl, ah 11 k rfl]
    by_cases e : k = j
    · subst e
      rw [z_up_same, z_up_same]
      exact ⟨rfl, hv, k3⟩
    · rw [z_up_at, z_up_at, if_neg (fun q => e q.2), if_neg (fun q => e q.2)]
      exact ⟨k1, k2, k3⟩
theorem r_cov {R H : Nat} {g h : z_G} (hA : rAll R H g h) {ρ η : Nat} (h1 : ρ < R) (h2 : η < H) {a : Nat} (ha : a ≤ 9) : rAll R H (z_up g 15 (ρ * H + η) (nI a)) (z_up h 8 (η * 8 + ρ) (nI a)) := by
  obtain ⟨q1, q2, q3, q4, q5, q6, q7, q8, q9, q10, q11, q12⟩ := id hA
  obtain ⟨b, -⟩ := id q1
  have ag : z_ag (z_tch [15] []) g (z_up g 15 (ρ * H + η) (nI a)) := fr_up fr_rf rfl
  have ah : z_ag (z_tch [8] []) h (z_up h 8 (η * 8 + ρ) (nI a)) := fr_up fr_rf rfl
  refine ⟨rDim_fr q1 ag (z_apart (by decide)) ah (z_apart (by decide)), rFix_fr q2 ag (z_apart (by decide)), ?_, rZeros_fr q4 ah (z_apart (by decide)), ?_, rScal_fr q6 ag (z_apart (by decide)) ah (z_apart (by decide)), rHoles_fr q7 ag (z_apart (by decide)) ah (z_apart (by decide)), rHours_fr q8 ag (z_apart (by decide)) ah (z_apart (by decide)), rActs_fr q9 ag (z_apart (by decide)) ah (z_apart (by decide)), rCold_fr q10 ag (z_apart (by decide)), rLit_fr q11 ag (z_apart (by decide)) ah (z_apart (by decide)), rRules_fr q12 ag (z_apart (by decide)) ah (z_apart (by decide))⟩
  · obtain ⟨p10, p11, p12, p13, p14, p15, p16, p17, p18, p19⟩ := id q3
    exact ⟨rEq_cg p10 (funext fun j => ag 10 j rfl) (funext fun j => ah 1 j rfl), rEq_cg p11 (funext fun j => ag 11 j rfl) (funext fun j => ah 2 j rfl), rEq_cg p12 (funext fun j => ag 12 j rfl) (funext fun j => ah 3 j rfl), rEq_cg p13 (funext fun j => ag 13 j rfl) (funext fun j => ah 4 j rfl), rEq_cg p14 (funext fun j => ag 14 j rfl) (funext fun j => ah 5 j rfl), rEq_up b.2.1 p15 h1 h2 (nI a), rEq_cg p16 (funext fun j => ag 16 j rfl) (funext fun j => ah 9 j rfl), rEq_cg p17 (funext fun j => ag 17 j rfl) (funext fun j => ah 7 j rfl), rEq_cg p18 (funext fun j => ag 18 j rfl) (funext fun j => ah 6 j rfl), rEq_cg p19 (funext fun j => ag 19 j rfl) (funext fun j => ah 10 j rfl)⟩
  · intro ρ2 η2 k1 k2
    obtain ⟨v1, v2, v3, v4, v5, v6, v7⟩ := q5 ρ2 η2 k1 k2
    rw [ag 18 (ρ2 * H + η2) rfl, ag 14 (ρ2 * H + η2) rfl, ag 10 (ρ2 * H + η2) rfl, ag 11 (ρ2 * H + η2) rfl, ag 13 (ρ2 * H + η2) rfl, ag 17 (ρ2 * H + η2) rfl, ag 19 (ρ2 * H + η2) rfl]
    refine ⟨v1, v2, ?_, v4, v5, v6, v7⟩
    rw [z_up_at]
    by_cases e : ρ2 * H + η2 = ρ * H + η
    · rw [if_pos ⟨rfl, e⟩]
      exact ⟨a, ha, rfl⟩
    · rw [if_neg (fun q => e q.2)]
      exact v3
theorem r_handle {R H : Nat} {g h : z_G} (hA : rAll R H g h) {ky pl v wh : Int32} (hk : kAct R H (g 2 0) ky pl v wh) : ∃ g' h' : z_G, fY_X7_handle ky pl v g = some (0, g') ∧ fM_X8_does wh v h = some (0, h') ∧ rAll R H g' h' := by
  obtain ⟨b, -⟩ := id hA.1
  rcases hk with ⟨rfl, rfl, ⟨j, hj, rfl, hn⟩, hv⟩ | ⟨rfl, ⟨ρ, η, h1, h2, o, rfl, rfl⟩, a, ha, rfl⟩
  · obtain ⟨u, w⟩ := r_turn hA hj hn hv
    have d3 : vp_in (nI j) 12 := vp_in_nI (by omega) (by omega)
    have d4 : (nI j).toNatClampNeg = j := nI_clamp (by omega)
    have d6 : ¬ (12 : Int32) ≤ nI j := nI_ge (a := j) (b := 12) hj (by decide)
    refine ⟨_, _, ?_, ?_, w⟩
    · unfold fY_X7_handle fY_X7_handle_19 fY_X7_handle_35
      rcases hv with rfl | rfl
      · rw [if_pos rfl, if_neg (by decide), u, z_bind_nd]
      · rw [if_pos rfl, if_pos rfl, u, z_bind_nd]
    · unfold fM_X8_does fM_X8_does_21 fM_X8_does_35
      rcases hv with rfl | rfl
      · rw [if_neg d6, if_neg (by decide), z_ck_in _ d3, d4, z_let_eq, nar0]
      · rw [if_neg d6, if_pos rfl, z_ck_in _ d3, d4, z_let_eq, nar1]
  · have w := r_cov hA h1 h2 ha
    have l1 : ρ * H + η < 64 := Nat.lt_of_lt_of_le (zc_lt h1 h2) (zc_64 b.2.1 b.2.2.2)
    have l2 : η * 8 + ρ < 64 := by have := b.2.1; have := b.2.2.2; omega
    refine ⟨_, _, ?_, ?_, w⟩
    · unfold fY_X7_handle fY_X7_handle_35
      rw [if_neg (by decide), z_ck_in _ (vp_in_nI l1 (by decide)), nI_clamp (by omega), z_let_eq]
    · have d6 : (12 : Int32) ≤ nI (12 + (η * 8 + ρ)) := nI_le (a := 12) (by omega) (by omega)
      have d7 : nI (12 + (η * 8 + ρ)) - 12 = nI (η * 8 + ρ) := by
        have := pk_sub (a := 12 + (η * 8 + ρ)) (b := 12) (by omega)
        rw [show 12 + (η * 8 + ρ) - 12 = η * 8 + ρ by omega] at this
        exact this
      unfold fM_X8_does fM_X8_does_35
      rw [if_pos d6, d7, z_ck_in _ (vp_in_nI l2 (by decide)), nI_clamp (by omega), z_let_eq]
theorem r_keep {R H : Nat} {g h : z_G} (hA : rAll R H g h) (hl : g 0 7 = 1) {ky pl v wh : Int32} (hk : kAct R H (g 2 0) ky pl v wh) {m : Nat} (hm : m < 100) (m1 : g 3 7 = nI m) (m2 : h 0 26 = nI m) : ∃ g' : z_G, fY_X0_keepAct ky pl v g = some (1, g') ∧ g' 2 0 = g 2 0 ∧ rAll R H g' (z_up (z_up (z_up (z_up h 17 m wh) 18 m v) 19 m (h 0 21)) 0 26 (nI m + 1)) := by
  obtain ⟨q1, q2, q3, q4, q5, q6, q7, q8, q9, q10, q11, q12⟩ := id hA
  have d1 : nI m < 100 := nI_lt (a := m) (b := 100) hm (by decide)
  have d3 : vp_in (nI m) 100 := vp_in_nI (by omega) (by omega)
  have d4 : (nI m).toNatClampNeg = m := nI_clamp (by omega)
  have u : fY_X0_keepAct ky pl v g = some (1, z_up (z_up (z_up (z_up (z_up g 31 m (g 3 0)) 32 m ky) 33 m pl) 34 m v) 3 7 (nI m + 1)) := by
    simp [fY_X0_keepAct, m1, d1, d3, d4, z_ck_in, z_let_eq, z_up_at, z_bo_1]
  have ag := frY_X0_keepAct _ _ _ _ _ _ u
  have ah : z_ag (z_tch [17, 18, 19] [(0, 26)]) h (z_up (z_up (z_up (z_up h 17 m wh) 18 m v) 19 m (h 0 21)) 0 26 (nI m + 1)) := fr_up (fr_up (fr_up (fr_up fr_rf rfl) rfl) rfl) rfl
  refine ⟨_, u, ag 2 0 rfl, ⟨rDim_fr q1 ag (z_apart (by decide)) ah (z_apart (by decide)), rFix_fr q2 ag (z_apart (by decide)), rCells_fr q3 ag (z_apart (by decide)) ah (z_apart (by decide)), rZeros_fr q4 ah (z_apart (by decide)), rVal_fr q5 ag (z_apart (by decide)), rScal_fr q6 ag (z_apart (by decide)) ah (z_apart (by decide)), rHoles_fr q7 ag (z_apart (by decide)) ah (z_apart (by decide)), rHours_fr q8 ag (z_apart (by decide)) ah (z_apart (by decide)), ?_, ?_, rLit_fr q11 ag (z_apart (by decide)) ah (z_apart (by decide)), rRules_fr q12 ag (z_apart (by decide)) ah (z_apart (by decide))⟩⟩
  · obtain ⟨m9, hm90, e1, e2, hm9⟩ := q9
    have em : m9 = m := (nI_eq (by omega) (by omega)).mp (e1.symm.trans m1)
    subst em
    refine ⟨m9 + 1, by omega, by rw [z_up_same, nI_1], by rw [z_up_same, nI_1], fun k hk9 => ?_⟩
    rw [ag 2 0 rfl]
    obtain ⟨t, -, t1, t2, -⟩ := q8
    by_cases e : k = m9
    · subst e
      have r31 : z_up (z_up (z_up (z_up (z_up g 31 k (g 3 0)) 32 k ky) 33 k pl) 34 k v) 3 7 (nI k + 1) 31 k = g 3 0 := by simp [z_up_at]
      have r32 : z_up (z_up (z_up (z_up (z_up g 31 k (g 3 0)) 32 k ky) 33 k pl) 34 k v) 3 7 (nI k + 1) 32 k = ky := by simp [z_up_at]
      have r33 : z_up (z_up (z_up (z_up (z_up g 31 k (g 3 0)) 32 k ky) 33 k pl) 34 k v) 3 7 (nI k + 1) 33 k = pl := by simp [z_up_at]
      have r34 : z_up (z_up (z_up (z_up (z_up g 31 k (g 3 0)) 32 k ky) 33 k pl) 34 k v) 3 7 (nI k + 1) 34 k = v := by simp [z_up_at]
      have s17 : z_up (z_up (z_up (z_up h 17 k wh) 18 k v) 19 k (h 0 21)) 0 26 (nI k + 1) 17 k = wh := by simp [z_up_at]
      have s18 : z_up (z_up (z_up (z_up h 17 k wh) 18 k v) 19 k (h 0 21)) 0 26 (nI k + 1) 18 k = v := by simp [z_up_at]
      have s19 : z_up (z_up (z_up (z_up h 17 k wh) 18 k v) 19 k (h 0 21)) 0 26 (nI k + 1) 19 k = h 0 21 := by simp [z_up_at]
      rw [r31, r32, r33, r34, s17, s18, s19]
      exact ⟨t1.trans t2.symm, rfl, hk⟩
    · have := hm9 k (by omega)
      simpa [e, z_up_at] using this
  · intro hl2
    rw [ag 0 7 rfl, hl] at hl2
    exact absurd hl2 (by decide)
theorem r_byHand {R H : Nat} {g h : z_G} (hA : rAll R H g h) {ky pl v wh : Int32} (hk : kAct R H (g 2 0) ky pl v wh) : ∃ (r : Int32) (g' h' : z_G), fY_X7_workByHand ky pl v g = some (r, g') ∧ fM_X8_byHand wh v h = some (r, h') ∧ (r = 0 ∨ r = 1) ∧ rAll R H g' h' := by
  obtain ⟨q1, q2, q3, q4, q5, q6, q7, q8, q9, q10, q11, q12⟩ := id hA
  have s3 : g 0 7 = h 0 20 := q6.2.2.1
  rcases q6.2.2.2.2.2 with c | c
  · have c2 : h 0 20 = 0 := by rw [← s3]; exact c
    obtain ⟨g', h', u, w, hA'⟩ := r_handle hA hk
    refine ⟨1, g', h', ?_, ?_, Or.inr rfl, hA'⟩
    · unfold fY_X7_workByHand fY_X7_workByHand_22
      rw [if_pos c, u, z_bind_nd, z_bo_1]
    · unfold fM_X8_byHand fM_X8_byHand_18 fM_X8_byHand_68
      rw [if_pos c2, if_pos c2, w, z_bind_nd, z_bo_1]
  · have c2 : h 0 20 = 1 := by rw [← s3]; exact c
    have c3 : ¬ g 0 7 = 0 := by rw [c]; decide
    have c4 : ¬ h 0 20 = 0 := by rw [c2]; decide
    obtain ⟨m, hm, m1, m2, -⟩ := id q9
    by_cases e : m = 100
    · have d1 : ¬ g 3 7 < 100 := by rw [m1, e]; decide
      have d2 : h 0 26 = 100 := by rw [m2, e]; rfl
      refine ⟨0, g, h, ?_, ?_, Or.inl rfl, hA⟩
      · unfold fY_X7_workByHand fY_X0_keepAct
        rw [if_neg c3, if_neg d1, z_bo_0, z_bind_nd, if_pos rfl, z_bo_0]
      · unfold fM_X8_byHand
        rw [if_neg c4, if_pos d2, z_bo_0]
    · have hm9 : m < 100 := by omega
      have d2 : ¬ h 0 26 = 100 := by
        rw [m2]
        intro h9
        exact e ((nI_eq (a := m) (b := 100) (by omega) (by omega)).mp h9)
      obtain ⟨g1, u1, u2, u3⟩ := r_keep hA c hk hm9 m1 m2
      have d3 : vp_in (nI m) 100 := vp_in_nI (by omega) (by omega)
      have d4 : (nI m).toNatClampNeg = m := nI_clamp (by omega)
      obtain ⟨g', h', u, w, hA'⟩ := r_handle u3 (by rw [u2]; exact hk)
      refine ⟨1, g', h', ?_, ?_, Or.inr rfl, hA'⟩
      · unfold fY_X7_workByHand fY_X7_workByHand_22
        rw [if_neg c3, u1, z_bind_nd, if_neg (by decide), u, z_bind_nd, z_bo_1]
      · have x : fM_X8_byHand wh v h = fM_X8_byHand_68 wh v (z_up (z_up (z_up (z_up h 17 m wh) 18 m v) 19 m (h 0 21)) 0 26 (nI m + 1)) := by
          simp [fM_X8_byHand, fM_X8_byHand_18, c4, m2, d3, d4, z_ck_in, z_let_eq, z_up_at]
          intro h9
          exact absurd (m2.trans h9) d2
        rw [x]
        unfold fM_X8_byHand_68
        rw [w, z_bind_nd, z_bo_1]
theorem z_bo_01 {α : Type} {x : Int32} (h : x = 0 ∨ x = 1) (k : Option α) : z_bo x k = k := by
  rcases h with h | h <;> rw [h]
  · exact z_bo_0 k
  · exact z_bo_1 k
theorem sim_open : z_simO rel fY_X7_open fM_X8_open := by
  intro a0 a1 g h ha hr
  have hr0 := rel_thrown hr 0
  have e0 : fM_X8_open a0 a1 h = fM_X8_open a0 a1 (z_up h 0 0 0) := by unfold fM_X8_open; simp only [z_let_eq, z_reset]
  rw [e0]
  have z0 := z_reset (h := h)
  revert hr0 z0
  generalize z_up h 0 0 0 = h0
  intro hr0 z0
  obtain ⟨R, H, hA⟩ := hr0.1
  obtain ⟨q1, q2, q3, q4, q5, q6, q7, q8, q9, q10, q11, q12⟩ := id hA
  have key : ∀ (r : Int32) (g' h' : z_G), fY_X7_open a0 a1 g = some (r, g') → fM_X8_open a0 a1 h0 = some (r, h') → rAll R H g' h' → ∃ (r : Int32) (g' h' : z_G), fY_X7_open a0 a1 g = some (r, g') ∧ fM_X8_open a0 a1 h0 = some (r, h') ∧ rel g' h' := fun r g' h' u v w => ⟨r, g', h', u, v, ⟨R, H, w⟩, rWood_fr hr0.2.1 (frY_X7_open _ _ _ _ _ u) (z_apart (by decide)) (frM_X8_open _ _ _ _ _ v) (z_apart (by decide)), rTape_fr hr0.2.2 (frY_X7_open _ _ _ _ _ u) (z_apart (by decide)) (frM_X8_open _ _ _ _ _ v) (z_apart (by decide))⟩
  obtain ⟨n, hn, n1, n2, hj⟩ := id q7
  have mi : fM_X8_in a0.toInt64 0 ((h0 0 13 - 1 : Int32).toInt64) h0 = some (if a0 < 0 ∨ nI n ≤ a0 then 0 else 1, h0) := by
    rw [m_in_0, n2]
    simp only [zn_pred (show n < 2 ^ 30 by omega)]
  by_cases c : a0 < 0 ∨ nI n ≤ a0
  · rw [if_pos c] at mi
    refine key 0 g h0 ?_ ?_ hA
    · unfold fY_X7_open fY_X7_open_33 fY_X7_open_34
      rw [y_hasH, n1, if_pos c, z_bind_nd, if_pos rfl, z_bo_0]
    · unfold fM_X8_open fM_X8_open_42 fM_X8_open_43
      rw [z_let_eq, z0, mi, z_bind_nd, if_pos rfl, z_bo_0]
  · rw [if_neg c] at mi
    obtain ⟨j, hjn, ej⟩ := zn_place (by omega) c
    have kk : ∀ v : Int32, (v = 0 ∨ v = 1) → kAct R H (g 2 0) 0 a0 v a0 := fun v hv => Or.inl ⟨rfl, rfl, ⟨j, by omega, ej, by rw [n1]; exact nI_lt hjn (by omega)⟩, hv⟩
    have fin : ∀ v : Int32, (v = 0 ∨ v = 1) → fY_X7_open a0 a1 g = fY_X7_open_23 v a0 0 g → fM_X8_open a0 a1 h0 = fM_X8_open_32 v a0 h0 → ∃ (r : Int32) (g' h' : z_G), fY_X7_open a0 a1 g = some (r, g') ∧ fM_X8_open a0 a1 h0 = some (r, h') ∧ rel g' h' := by
      intro v hv x1 x2
      obtain ⟨r, g', h', u, w, hr9, hA'⟩ := r_byHand hA (kk v hv)
      refine key r g' h' ?_ ?_ hA'
      · rw [x1]
        unfold fY_X7_open_23 fY_X7_open_33 fY_X7_open_34
        rw [u, z_bind_nd]
        rcases hr9 with rfl | rfl
        · rw [if_pos rfl, z_bo_0]
        · rw [if_neg (by decide), z_bo_1]
      · rw [x2]
        unfold fM_X8_open_32 fM_X8_open_42 fM_X8_open_43
        rw [w, z_bind_nd]
        rcases hr9 with rfl | rfl
        · rw [if_pos rfl, z_bo_0]
        · rw [if_neg (by decide), z_bo_1]
    rcases ha with rfl | rfl
    · refine fin 0 (Or.inl rfl) ?_ ?_
      · unfold fY_X7_open
        rw [y_hasH, n1, if_neg c, z_bind_nd, if_neg (by decide), if_pos rfl]
      · unfold fM_X8_open
        rw [z_let_eq, z0, mi, z_bind_nd, if_neg (by decide), if_pos rfl]
    · refine fin 1 (Or.inr rfl) ?_ ?_
      · unfold fY_X7_open
        rw [y_hasH, n1, if_neg c, z_bind_nd, if_neg (by decide), if_neg (by decide)]
      · unfold fM_X8_open
        rw [z_let_eq, z0, mi, z_bind_nd, if_neg (by decide), if_neg (by decide)]
theorem sim_cover : z_sim3 rel fY_X7_cover fM_X8_cover := by
  intro a0 a1 a2 g h hr
  have hr0 := rel_thrown hr 0
  have e0 : fM_X8_cover a0 a1 a2 h = fM_X8_cover a0 a1 a2 (z_up h 0 0 0) := by unfold fM_X8_cover; simp only [z_let_eq, z_reset]
  rw [e0]
  have z0 := z_reset (h := h)
  revert hr0 z0
  generalize z_up h 0 0 0 = h0
  intro hr0 z0
  obtain ⟨R, H, hA⟩ := hr0.1
  obtain ⟨q1, q2, q3, q4, q5, q6, q7, q8, q9, q10, q11, q12⟩ := id hA
  obtain ⟨b, e1, e2, -, e4, e5⟩ := id q1
  have key : ∀ (r : Int32) (g' h' : z_G), fY_X7_cover a0 a1 a2 g = some (r, g') → fM_X8_cover a0 a1 a2 h0 = some (r, h') → rAll R H g' h' → ∃ (r : Int32) (g' h' : z_G), fY_X7_cover a0 a1 a2 g = some (r, g') ∧ fM_X8_cover a0 a1 a2 h0 = some (r, h') ∧ rel g' h' := fun r g' h' u v w => ⟨r, g', h', u, v, ⟨R, H, w⟩, rWood_fr hr0.2.1 (frY_X7_cover _ _ _ _ _ _ u) (z_apart (by decide)) (frM_X8_cover _ _ _ _ _ _ v) (z_apart (by decide)), rTape_fr hr0.2.2 (frY_X7_cover _ _ _ _ _ _ u) (z_apart (by decide)) (frM_X8_cover _ _ _ _ _ _ v) (z_apart (by decide))⟩
  by_cases cv : a2 < 0 ∨ 9 < a2
  · refine key 0 g h0 ?_ ?_ hA
    · unfold fY_X7_cover fY_X7_cover_22
      by_cases c1 : a2 < 0
      · rw [if_pos c1, z_bo_0]
      · rw [if_neg c1, if_pos (cv.resolve_left c1), z_bo_0]
    · unfold fM_X8_cover fM_X8_cover_60 fM_X8_cover_61
      rw [z_let_eq, z0]
      rcases m_isCell b.2.1 b.2.2.2 e4 e5 a0 a1 with ⟨k, m1⟩ | ⟨k, m1⟩
      · rw [m1, z_bind_nd, if_pos rfl, z_bo_0]
      · obtain ⟨ρ, η, h1, h2, k1, k2, i1, i2, l1, l2⟩ := zn_cell b.2.1 b.2.2.2 k
        have m2 := m_isOutsideC b e4 e5 h1 h2
        rw [m1, z_bind_nd, if_neg (by decide), i2, m2, z_bind_nd]
        by_cases o : ρ + 1 = R ∨ η + 1 = H
        · rw [if_pos o, if_neg (by decide), m_in_0_9, z_bind_nd, if_pos cv, if_pos rfl, z_bo_0]
        · rw [if_neg o, if_pos rfl, z_bo_0]
  · have c1 : ¬ a2 < 0 := fun e => cv (Or.inl e)
    have c2 : ¬ 9 < a2 := fun e => cv (Or.inr e)
    rcases y_isOutsideAt b e1 e2 q2 a0 a1 with ⟨k, y1⟩ | ⟨k, ρ, η, h1, h2, k1, k2, i1, i2, l1, l2, y1⟩
    · rcases m_isCell b.2.1 b.2.2.2 e4 e5 a0 a1 with ⟨-, m1⟩ | ⟨k9, -⟩
      · refine key 0 g h0 ?_ ?_ hA
        · unfold fY_X7_cover fY_X7_cover_22
          rw [if_neg c1, if_neg c2, y1, z_bind_nd, if_pos rfl, z_bo_0]
        · unfold fM_X8_cover fM_X8_cover_60 fM_X8_cover_61
          rw [z_let_eq, z0, m1, z_bind_nd, if_pos rfl, z_bo_0]
      · exact absurd k k9
    · rcases m_isCell b.2.1 b.2.2.2 e4 e5 a0 a1 with ⟨k9, -⟩ | ⟨-, m1⟩
      · exact absurd k9 k
      have m2 := m_isOutsideC b e4 e5 h1 h2
      by_cases o : ρ + 1 = R ∨ η + 1 = H
      · rw [if_pos o] at y1 m2
        obtain ⟨a, ha9, ea⟩ := nI_of2 (M := 9) (n := 9) (by decide) c1 (zn_nlt.mp c2)
        have i3 : (12 : Int32) + a1 * 8 + a0 = nI (12 + (η * 8 + ρ)) := by
          rw [Int32.add_assoc, i2, show (12 : Int32) = nI 12 from rfl, nI_add]
        obtain ⟨r, g', h', u, w, hr9, hA'⟩ := r_byHand hA (ky := 1) (pl := nI (ρ * H + η)) (v := a2) (wh := nI (12 + (η * 8 + ρ))) (Or.inr ⟨rfl, ⟨ρ, η, h1, h2, o, rfl, rfl⟩, a, ha9, ea⟩)
        refine key r g' h' ?_ ?_ hA'
        · unfold fY_X7_cover fY_X2_at
          rw [if_neg c1, if_neg c2, y1, z_bind_nd, if_neg (by decide), z_bind_nd, e2, i1, u, z_bind_nd, z_bo_01 hr9]
        · unfold fM_X8_cover fM_X8_cover_60 fM_X8_cover_61
          rw [z_let_eq, z0, m1, z_bind_nd, if_neg (by decide), i2, m2, z_bind_nd, if_neg (by decide), m_in_0_9, z_bind_nd, if_neg cv, if_neg (by decide), i3, w, z_bind_nd]
          rcases hr9 with rfl | rfl
          · rw [if_pos rfl, z_bo_0]
          · rw [if_neg (by decide), z_bo_1]
      · rw [if_neg o] at y1 m2
        refine key 0 g h0 ?_ ?_ hA
        · unfold fY_X7_cover fY_X7_cover_22
          rw [if_neg c1, if_neg c2, y1, z_bind_nd, if_pos rfl, z_bo_0]
        · unfold fM_X8_cover fM_X8_cover_60 fM_X8_cover_61
          rw [z_let_eq, z0, m1, z_bind_nd, if_neg (by decide), i2, m2, z_bind_nd, if_pos rfl, z_bo_0]
