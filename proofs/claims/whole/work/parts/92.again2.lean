/-! again -/
theorem kDampOf_cg {g g' : z_G} {i : Nat} (e1 : g' 17 i = g 17 i) (e2 : g' 18 i = g 18 i) (e3 : g' 8 i = g 8 i) : kDampOf g' i = kDampOf g i := by
  unfold kDampOf
  rw [e1, e2, e3]
theorem y_backLight {g : z_G} {N : Nat} (hN : N ≤ 64) (e : g 1 4 = nI N) (hk : ∀ i, i < N → vp_in (g 18 i) 4) : ∃ g', fY_X2_backToLight g = some (0, g') ∧ (∀ i, i < N → g' 10 i = g 17 i ∧ g' 11 i = 0 ∧ g' 12 i = kDampOf g i ∧ g' 13 i = (if i = 0 then 500 else 0) ∧ g' 14 i = (if i = 0 then 1 else 0) ∧ g' 15 i = g 20 i ∧ g' 16 i = 0 ∧ g' 19 i = -1) ∧ g' 1 2 = 0 ∧ g' 1 3 = 0 := by
  obtain ⟨g1, u1, u2, u3, u4⟩ := y_laid hN e hk
  refine ⟨z_up (z_up g1 14 0 1) 13 0 500, ?_, fun i hi => ?_, ?_, ?_⟩
  · unfold fY_X2_backToLight
    rw [u1, z_bind_nd, y_setAlight, z_bind_nd]
  · obtain ⟨v1, v2, v3, v4, v5, v6, v7, v8⟩ := u2 i hi
    by_cases c : i = 0
    · subst c
      simp [z_up_at, v1, v2, v3, v6, v7, v8]
    · simp [z_up_at, c, v1, v2, v3, v4, v5, v6, v7, v8]
  · simp [z_up_at, u3]
  · simp [z_up_at, u4]
theorem r_relight {R H : Nat} {g h g' h' : z_G} (hA : rAll R H g h) (lit : g 0 7 = 1) (ag : z_ag (z_tch [10, 11, 12, 13, 14, 15, 16, 19, 23, 25, 26] [(1, 2), (1, 3), (3, 0)]) g g') (ah : z_ag (z_tch [1, 2, 3, 4, 5, 8, 9, 10, 12, 28, 29] [(0, 20), (0, 21), (0, 22), (0, 23)]) h h') (y : ∀ i, i < R * H → g' 10 i = g 17 i ∧ g' 11 i = 0 ∧ g' 12 i = kDampOf g i ∧ g' 13 i = (if i = 0 then 500 else 0) ∧ g' 14 i = (if i = 0 then 1 else 0) ∧ g' 15 i = g 20 i ∧ g' 16 i = 0 ∧ g' 19 i = -1) (y2 : g' 1 2 = 0 ∧ g' 1 3 = 0 ∧ g' 3 0 = 0) (y3 : ∀ k : Nat, k < 12 → nI k < g 2 0 → g' 23 k = g 24 k) (m : ∀ c, c < 64 → h' 1 c = h 13 c ∧ h' 2 c = 0 ∧ h' 3 c = h 14 c ∧ h' 4 c = (if c = 0 then 500 else 0) ∧ h' 5 c = (if c = 0 then 1 else 0) ∧ h' 8 c = h 15 c ∧ h' 9 c = 0 ∧ h' 10 c = -1) (m2 : h' 0 20 = 1 ∧ h' 0 21 = 0 ∧ h' 0 22 = 0 ∧ h' 0 23 = 0) (m3 : ∀ k : Nat, k < 12 → nI k < g 2 0 → h' 12 k = h 16 k) : rAll R H g' h' := by
  obtain ⟨q1, q2, q3, q4, q5, q6, q7, q8, q9, q10, q11, q12⟩ := id hA
  obtain ⟨b, -⟩ := id q1
  obtain ⟨w1, w2, w3, w4⟩ := q11 lit
  have lh : ∀ ρ η, ρ < R → η < H → η * 8 + ρ < 64 := fun ρ η k1 k2 => by have := b.2.1; have := b.2.2.2; omega
  have z9 : ∀ ρ η, ρ < R → η < H → (ρ * H + η = 0 ↔ η * 8 + ρ = 0) := fun ρ η k1 k2 => ⟨fun e => by
    obtain ⟨r1, r2⟩ := zc_zero b.2.2.1 e
    rw [r1, r2], fun e => by
    have r1 : ρ = 0 := by omega
    have r2 : η = 0 := by omega
    rw [r1, r2, Nat.zero_mul]⟩
  refine ⟨rDim_fr q1 ag (z_apart (by decide)) ah (z_apart (by decide)), rFix_fr q2 ag (z_apart (by decide)), ?_, ?_, ?_, ?_, ?_, ?_, rActs_fr q9 ag (z_apart (by decide)) ah (z_apart (by decide)), ?_, rLit_fr q11 ag (z_apart (by decide)) ah (z_apart (by decide)), rRules_fr q12 ag (z_apart (by decide)) ah (z_apart (by decide))⟩
  · obtain ⟨-, -, -, -, -, -, -, p17, p18, -⟩ := id q3
    refine ⟨fun ρ η k1 k2 => ?_, fun ρ η k1 k2 => ?_, fun ρ η k1 k2 => ?_, fun ρ η k1 k2 => ?_, fun ρ η k1 k2 => ?_, fun ρ η k1 k2 => ?_, fun ρ η k1 k2 => ?_, rEq_cg p17 (funext fun j => ag 17 j rfl) (funext fun j => ah 7 j rfl), rEq_cg p18 (funext fun j => ag 18 j rfl) (funext fun j => ah 6 j rfl), fun ρ η k1 k2 => ?_⟩
    · rw [(y _ (zc_lt k1 k2)).1, (m _ (lh ρ η k1 k2)).1, (w1 ρ η k1 k2).1]
    · rw [(y _ (zc_lt k1 k2)).2.1, (m _ (lh ρ η k1 k2)).2.1]
    · rw [(y _ (zc_lt k1 k2)).2.2.1, (m _ (lh ρ η k1 k2)).2.2.1, (w1 ρ η k1 k2).2.1]
    · rw [(y _ (zc_lt k1 k2)).2.2.2.1, (m _ (lh ρ η k1 k2)).2.2.2.1]
      simp only [z9 ρ η k1 k2]
    · rw [(y _ (zc_lt k1 k2)).2.2.2.2.1, (m _ (lh ρ η k1 k2)).2.2.2.2.1]
      simp only [z9 ρ η k1 k2]
    · rw [(y _ (zc_lt k1 k2)).2.2.2.2.2.1, (m _ (lh ρ η k1 k2)).2.2.2.2.2.1, (w1 ρ η k1 k2).2.2.1]
    · rw [(y _ (zc_lt k1 k2)).2.2.2.2.2.2.1, (m _ (lh ρ η k1 k2)).2.2.2.2.2.2.1]
    · rw [(y _ (zc_lt k1 k2)).2.2.2.2.2.2.2, (m _ (lh ρ η k1 k2)).2.2.2.2.2.2.2]
  · refine ⟨fun c k1 k2 => ?_, fun c k1 k2 => (m c k1).2.1, fun c k1 k2 => ?_, fun c k1 k2 => (ah 7 c rfl).trans (q4.2.2.2 c k1 k2)⟩
    · rw [(m c k1).1]
      exact w2 c k1 k2
    · have c0 : ¬ c = 0 := fun e => k2 (by subst e; exact ⟨by have := b.1; omega, by have := b.2.2.1; omega⟩)
      rw [(m c k1).2.2.2.2.1, if_neg c0]
  · intro ρ η k1 k2
    obtain ⟨a1, -, -, -, -, a6, -⟩ := q5 ρ η k1 k2
    obtain ⟨x1, x2, x3, x4, x5, x6, x7, x8⟩ := y _ (zc_lt k1 k2)
    rw [ag 18 (ρ * H + η) rfl, ag 17 (ρ * H + η) rfl, x1, x2, x4, x5, x6, x8]
    refine ⟨a1, ?_, (w1 ρ η k1 k2).2.2.2, ?_, ?_, a6, Or.inl rfl⟩
    · by_cases c : ρ * H + η = 0
      · exact Or.inr (if_pos c)
      · exact Or.inl (if_neg c)
    · rcases a6 with a6 | a6
      · exact ⟨0, 0, by omega, by rw [a6, nI_0], by rw [nI_0]⟩
      · exact ⟨100 * (2 * ρ + 1), 0, by have := b.2.1; omega, a6, by rw [nI_0]⟩
    · by_cases c : ρ * H + η = 0
      · rw [if_pos c, if_pos c]
        exact ⟨500, by omega, rfl, fun _ => by omega⟩
      · rw [if_neg c, if_neg c]
        exact ⟨0, by omega, by rw [nI_0], fun e => absurd e (by decide)⟩
  · obtain ⟨-, -, -, y4, y5, -⟩ := q6
    exact ⟨by rw [y2.1, m2.2.2.1], by rw [y2.2.1, m2.2.2.2], by rw [ag 0 7 rfl, lit, m2.1], by rw [ag 0 8 rfl, ah 0 24 rfl, y4], by rw [ag 0 9 rfl, ah 0 25 rfl, y5], Or.inr ((ag 0 7 rfl).trans lit)⟩
  · obtain ⟨n, hn, n1, n2, hk⟩ := q7
    refine ⟨n, hn, (ag 2 0 rfl).trans n1, (ah 0 13 rfl).trans n2, fun k hkn => ?_⟩
    have kn : nI k < g 2 0 := by rw [n1]; exact nI_lt hkn (by omega)
    obtain ⟨o1, o2⟩ := w4 k (by omega) kn
    rw [y3 k (by omega) kn, m3 k (by omega) kn, ag 22 k rfl, ah 11 k rfl]
    exact ⟨o1, o2, (hk k hkn).2.2⟩
  · exact ⟨0, by omega, by rw [y2.2.2, nI_0], by rw [m2.2.1, nI_0], fun k hk => absurd hk (Nat.not_lt_zero k)⟩
  · intro hl
    rw [ag 0 7 rfl, lit] at hl
    exact absurd hl (by decide)
theorem sim_again : z_sim3 rel fY_X7_again fM_X8_again := by
  intro a0 a1 a2 g h hr
  have hr0 := rel_thrown hr 0
  have e0 : fM_X8_again a0 a1 a2 h = fM_X8_again a0 a1 a2 (z_up h 0 0 0) := by unfold fM_X8_again; rw [z_let_eq, z_let_eq, z_reset]
  rw [e0]
  have z0 := z_reset (h := h)
  revert hr0 z0
  generalize z_up h 0 0 0 = h0
  intro hr0 z0
  obtain ⟨R, H, hA⟩ := hr0.1
  obtain ⟨q1, q2, q3, q4, q5, q6, q7, q8, q9, q10, q11, q12⟩ := id hA
  obtain ⟨b, e1, e2, e3, e4, e5⟩ := id q1
  have s3 : g 0 7 = h0 0 20 := q6.2.2.1
  have key : ∀ (r : Int32) (g' h' : z_G), fY_X7_again a0 a1 a2 g = some (r, g') → fM_X8_again a0 a1 a2 h0 = some (r, h') → rAll R H g' h' → ∃ (r : Int32) (g' h' : z_G), fY_X7_again a0 a1 a2 g = some (r, g') ∧ fM_X8_again a0 a1 a2 h0 = some (r, h') ∧ rel g' h' := fun r g' h' u v w => ⟨r, g', h', u, v, ⟨R, H, w⟩, rWood_fr hr0.2.1 (frY_X7_again _ _ _ _ _ _ u) (z_apart (by decide)) (frM_X8_again _ _ _ _ _ _ v) (z_apart (by decide)), rTape_fr hr0.2.2 (frY_X7_again _ _ _ _ _ _ u) (z_apart (by decide)) (frM_X8_again _ _ _ _ _ _ v) (z_apart (by decide))⟩
  obtain ⟨t, ht, t1, t2, hh⟩ := id q8
  have nohas : (a0 < 0 ∨ nI t ≤ a0) → fY_X7_again a0 a1 a2 g = some (-1, g) := by
    intro c
    unfold fY_X7_again fY_X7_again_19
    rw [y_hasD, t1, if_pos c, z_bind_nd, if_pos rfl]
  rcases q6.2.2.2.2.2 with c | c
  · have c2 : h0 0 20 = 0 := by rw [← s3]; exact c
    refine key (-1) g h0 (nohas ?_) ?_ hA
    · have tz : nI t = 0 := t1.symm.trans (q10 c).1
      rw [tz]
      by_cases n : a0 < 0
      · exact Or.inl n
      · exact Or.inr (zn_nlt.mp n)
    · unfold fM_X8_again fM_X8_again_52
      rw [z_let_eq, z0, if_pos c2]
  · have c1 : ¬ g 0 7 = 0 := by rw [c]; decide
    have c2 : ¬ h0 0 20 = 0 := by rw [← s3]; exact c1
    have mi : fM_X8_in a0.toInt64 0 ((h0 0 21 - 1 : Int32).toInt64) h0 = some (if a0 < 0 ∨ nI t ≤ a0 then 0 else 1, h0) := by
      rw [m_in_0, t2]
      simp only [zn_pred (show t < 2 ^ 30 by omega)]
    by_cases ch : a0 < 0 ∨ nI t ≤ a0
    · refine key (-1) g h0 (nohas ch) ?_ hA
      unfold fM_X8_again fM_X8_again_52
      rw [z_let_eq, z0, if_neg c2, mi, z_bind_nd, if_pos ch, if_pos rfl]
    obtain ⟨j0, hj0, ej0⟩ := zn_place (by omega) ch
    by_cases cw : (a1 < 0 ∨ 9 < a1) ∨ (a2 < 0 ∨ 3 < a2)
    · refine key (-1) g h0 ?_ ?_ hA
      · unfold fY_X7_again fY_X7_again_19
        rw [y_hasD, t1, if_neg ch, z_bind_nd, if_neg (by decide), y_isWeather, z_bind_nd, if_pos cw, if_pos rfl]
      · unfold fM_X8_again fM_X8_again_52
        rw [z_let_eq, z0, if_neg c2, mi, z_bind_nd, if_neg ch, if_neg (by decide), m_in_0_9, z_bind_nd]
        by_cases c9 : a1 < 0 ∨ 9 < a1
        · rw [if_pos c9, if_pos rfl]
        · rw [if_neg c9, if_neg (by decide), m_in_0_3, z_bind_nd, if_pos (cw.resolve_left c9), if_pos rfl]
    obtain ⟨ra, hra, era⟩ := nI_of2 (M := 9) (n := 9) (x := a1) (by decide) (fun q => cw (Or.inl (Or.inl q))) (zn_nlt.mp (fun q => cw (Or.inl (Or.inr q))))
    obtain ⟨wi, hwi, ewi⟩ := nI_of2 (M := 3) (n := 3) (x := a2) (by decide) (fun q => cw (Or.inr (Or.inl q))) (zn_nlt.mp (fun q => cw (Or.inr (Or.inr q))))
    have d3 : vp_in (nI j0) 300 := vp_in_nI (by omega) (by omega)
    have d4 : (nI j0).toNatClampNeg = j0 := nI_clamp (by omega)
    -- the yard goes back
    have ag1 : z_ag (z_tch [25, 26] []) g (z_up (z_up g 25 j0 a1) 26 j0 a2) := fr_up (fr_up fr_rf rfl) rfl
    have r25 : ∀ k, z_up (z_up g 25 j0 a1) 26 j0 a2 25 k = (if k = j0 then a1 else g 25 k) ∧ z_up (z_up g 25 j0 a1) 26 j0 a2 26 k = (if k = j0 then a2 else g 26 k) := by
      intro k
      by_cases e : k = j0 <;> simp [z_up_at, e]
    have yy : fY_X7_again a0 a1 a2 g = z_bind (fY_X7_workAgain (z_up (z_up g 25 j0 a1) 26 j0 a2)) (fun r13 g14 => z_bind (fY_X2_sum_r11 g14) (fun r16 g17 => some (r16, g17))) := by
      unfold fY_X7_again
      rw [y_hasD, t1, if_neg ch, z_bind_nd, if_neg (by decide), y_isWeather, z_bind_nd, if_neg cw, if_neg (by decide), ej0, z_ck_in _ d3, d4, z_let_eq, z_ck_in _ d3, z_let_eq]
    revert ag1 r25 yy
    generalize z_up (z_up g 25 j0 a1) 26 j0 a2 = g1
    intro ag1 r25 yy
    obtain ⟨nh, hnh, n1, n2, -⟩ := id q7
    obtain ⟨w1, w2, w3, w4⟩ := q11 c
    obtain ⟨g2, u1, u2, u3, u4⟩ := y_backLight (g := g1) (zc_64 b.2.1 b.2.2.2) ((ag1 1 4 rfl).trans e3) (fun i hi => by
      obtain ⟨ρ, η, k1, k2, rfl⟩ := zc_of hi
      obtain ⟨k, k4, ek⟩ := (q5 ρ η k1 k2).1
      rw [ag1 18 (ρ * H + η) rfl, ek]
      exact vp_in_nI k4 (by omega))
    have ag2 := frY_X2_backToLight _ _ _ u1
    obtain ⟨g3, x1, x2⟩ := y_backHoles (g := g2) hnh ((ag2 2 0 rfl).trans ((ag1 2 0 rfl).trans n1)) (fun k hk => by
      rw [ag2 24 k rfl, ag1 24 k rfl]
      exact (w4 k (by omega) (by rw [n1]; exact nI_lt hk (by omega))).2)
    have ag3 := frY_X1_backToLight _ _ _ x1
    have ag4 : z_ag (z_tch [10, 11, 12, 13, 14, 15, 16, 19, 23, 25, 26] [(1, 2), (1, 3), (3, 0)]) g (z_up g3 3 0 0) := fr_up (z_ag_trans (z_ag_trans (t := z_tch [10, 11, 12, 13, 14, 15, 16, 19, 23, 25, 26] [(1, 2), (1, 3), (3, 0)]) ag1 ag2 (z_tch_sub rfl) (z_tch_sub rfl)) ag3 (fun _ _ h => h) (z_tch_sub rfl)) rfl
    -- the reference goes back
    obtain ⟨h1, v1, v2, v3⟩ := m_again63 (h := h0) ht hj0 a1 a2
    obtain ⟨h2, v4, v5, v6⟩ := m_again127 h1 (nI t)
    obtain ⟨h3, v7, v8, v9⟩ := m_again225 (h := h2) hnh ((v5 0 13 rfl).trans ((v2 0 13 rfl).trans n2)) (fun k hk => by
      rw [v5 16 k rfl, v2 16 k rfl]
      obtain ⟨o1, o2⟩ := w4 k (by omega) (by rw [n1]; exact nI_lt hk (by omega))
      rw [← o1]
      exact o2) (nI t)
    have ah4 : z_ag (z_tch [1, 2, 3, 4, 5, 8, 9, 10, 12, 28, 29] [(0, 20), (0, 21), (0, 22), (0, 23)]) h0 (z_up (z_up (z_up (z_up (z_up (z_up h3 0 20 1) 0 21 0) 0 22 0) 0 23 0) 5 0 1) 4 0 500) := fr_up (fr_up (fr_up (fr_up (fr_up (fr_up (z_ag_trans (z_ag_trans (t := z_tch [1, 2, 3, 4, 5, 8, 9, 10, 12, 28, 29] [(0, 20), (0, 21), (0, 22), (0, 23)]) v2 v5 (z_tch_sub rfl) (z_tch_sub rfl)) v8 (fun _ _ h => h) (z_tch_sub rfl)) rfl) rfl) rfl) rfl) rfl) rfl
    have hA1 : rAll R H (z_up g3 3 0 0) (z_up (z_up (z_up (z_up (z_up (z_up h3 0 20 1) 0 21 0) 0 22 0) 0 23 0) 5 0 1) 4 0 500) := by
      refine r_relight hA c ag4 ah4 (fun i hi => ?_) ⟨?_, ?_, ?_⟩ (fun k k1 k2 => ?_) (fun i hi => ?_) ⟨?_, ?_, ?_, ?_⟩ (fun k k1 k2 => ?_)
      · obtain ⟨y1, y2, y3, y4, y5, y6, y7, y8⟩ := u2 i hi
        rw [ag1 17 i rfl] at y1
        rw [ag1 20 i rfl] at y6
        rw [kDampOf_cg (ag1 17 i rfl) (ag1 18 i rfl) (ag1 8 i rfl)] at y3
        have nn : ∀ a, a ≠ 3 → a ≠ 23 → z_up g3 3 0 0 a i = g2 a i := fun a n3 n23 => by
          rw [z_up_row _ _ _ _ n3]
          refine ag3 a i ?_
          simp [z_tch, n23]
        rw [nn 10 (by decide) (by decide), nn 11 (by decide) (by decide), nn 12 (by decide) (by decide), nn 13 (by decide) (by decide), nn 14 (by decide) (by decide), nn 15 (by decide) (by decide), nn 16 (by decide) (by decide), nn 19 (by decide) (by decide)]
        exact ⟨y1, y2, y3, y4, y5, y6, y7, y8⟩
      · rw [z_up_row _ _ _ _ (by decide), ag3 1 2 rfl, u3]
      · rw [z_up_row _ _ _ _ (by decide), ag3 1 3 rfl, u4]
      · rw [z_up_same]
      · rw [n1] at k2
        have hk : k < nh := (nI_ltI (by omega) (by omega)).mp k2
        rw [z_up_row _ _ _ _ (by decide), x2 k hk, ag2 24 k rfl, ag1 24 k rfl]
      · obtain ⟨y1, y2, y3, y4, y5, y6, y7, y8⟩ := v6 i hi
        rw [v2 13 i rfl] at y1
        rw [v2 14 i rfl] at y3
        rw [v2 15 i rfl] at y6
        have nn : ∀ a, a ≠ 0 → a ≠ 4 → a ≠ 5 → a ≠ 12 → z_up (z_up (z_up (z_up (z_up (z_up h3 0 20 1) 0 21 0) 0 22 0) 0 23 0) 5 0 1) 4 0 500 a i = h2 a i := fun a n0 n4 n5 n12 => by
          rw [z_up_row _ _ _ _ n4, z_up_row _ _ _ _ n5, z_up_row _ _ _ _ n0, z_up_row _ _ _ _ n0, z_up_row _ _ _ _ n0, z_up_row _ _ _ _ n0]
          refine v8 a i ?_
          simp [z_tch, n12]
        have n4 : z_up (z_up (z_up (z_up (z_up (z_up h3 0 20 1) 0 21 0) 0 22 0) 0 23 0) 5 0 1) 4 0 500 4 i = if i = 0 then 500 else 0 := by
          by_cases e : i = 0
          · simp [z_up_at, e]
          · simp [z_up_at, e]
            rw [v8 4 i rfl, y4]
        have n5 : z_up (z_up (z_up (z_up (z_up (z_up h3 0 20 1) 0 21 0) 0 22 0) 0 23 0) 5 0 1) 4 0 500 5 i = if i = 0 then 1 else 0 := by
          by_cases e : i = 0
          · simp [z_up_at, e]
          · simp [z_up_at, e]
            rw [v8 5 i rfl, y5]
        rw [nn 1 (by decide) (by decide) (by decide) (by decide), nn 2 (by decide) (by decide) (by decide) (by decide), nn 3 (by decide) (by decide) (by decide) (by decide), nn 8 (by decide) (by decide) (by decide) (by decide), nn 9 (by decide) (by decide) (by decide) (by decide), nn 10 (by decide) (by decide) (by decide) (by decide), n4, n5]
        exact ⟨y1, y2, y3, rfl, rfl, y6, y7, y8⟩
      · simp [z_up_at]
      · simp [z_up_at]
      · simp [z_up_at]
      · simp [z_up_at]
      · rw [n1] at k2
        have hk : k < nh := (nI_ltI (by omega) (by omega)).mp k2
        have : z_up (z_up (z_up (z_up (z_up (z_up h3 0 20 1) 0 21 0) 0 22 0) 0 23 0) 5 0 1) 4 0 500 12 k = h3 12 k := by simp [z_up_at]
        rw [this, v9 k hk, v5 16 k rfl, v2 16 k rfl]
    obtain ⟨m, hm, m1, m2, -⟩ := id q9
    have w25 : ∀ i, 0 ≤ i → i < t → ∃ ra wi : Nat, ra ≤ 9 ∧ wi ≤ 3 ∧ z_up g3 3 0 0 25 i = nI ra ∧ z_up g3 3 0 0 26 i = nI wi ∧ z_up (z_up (z_up (z_up (z_up (z_up h3 0 20 1) 0 21 0) 0 22 0) 0 23 0) 5 0 1) 4 0 500 28 i = nI ra ∧ z_up (z_up (z_up (z_up (z_up (z_up h3 0 20 1) 0 21 0) 0 22 0) 0 23 0) 5 0 1) 4 0 500 29 i = nI wi := by
      intro i _ hi
      obtain ⟨b1, b2, -, -, -, -, ⟨ra9, c1, c3⟩, wi9, c4, c5⟩ := hh i hi
      have y25 : z_up g3 3 0 0 25 i = if i = j0 then a1 else g 25 i := by rw [z_up_row _ _ _ _ (by decide), ag3 25 i rfl, ag2 25 i rfl, (r25 i).1]
      have y26 : z_up g3 3 0 0 26 i = if i = j0 then a2 else g 26 i := by rw [z_up_row _ _ _ _ (by decide), ag3 26 i rfl, ag2 26 i rfl, (r25 i).2]
      have y28 : z_up (z_up (z_up (z_up (z_up (z_up h3 0 20 1) 0 21 0) 0 22 0) 0 23 0) 5 0 1) 4 0 500 28 i = if i = j0 then a1 else h0 20 i := by
        rw [← (v3 i hi).1, ← v5 28 i rfl, ← v8 28 i rfl]
        simp [z_up_at]
      have y29 : z_up (z_up (z_up (z_up (z_up (z_up h3 0 20 1) 0 21 0) 0 22 0) 0 23 0) 5 0 1) 4 0 500 29 i = if i = j0 then a2 else h0 21 i := by
        rw [← (v3 i hi).2, ← v5 29 i rfl, ← v8 29 i rfl]
        simp [z_up_at]
      by_cases e : i = j0
      · rw [y25, y26, y28, y29, if_pos e, if_pos e, if_pos e, if_pos e]
        exact ⟨ra, wi, hra, hwi, era, ewi, era, ewi⟩
      · rw [y25, y26, y28, y29, if_neg e, if_neg e, if_neg e, if_neg e, ← b1, ← b2]
        exact ⟨ra9, wi9, c1, c4, c3, c5, c3, c5⟩
    obtain ⟨g9, h9, f1, f2, f3⟩ := r_hours ht hm t 0 z_fuel z_fuel 0 (z_up g3 3 0 0) (z_up (z_up (z_up (z_up (z_up (z_up h3 0 20 1) 0 21 0) 0 22 0) 0 23 0) 5 0 1) 4 0 500) (by omega) (z_fuel_big (by omega)) (z_fuel_big (by omega)) hA1 (by rw [z_up_same, nI_0]) ((ag4 0 7 rfl).trans c) ((ag4 3 7 rfl).trans m1) (by omega) w25
    obtain ⟨x, o1, o2⟩ := r_sum11 f3.1 f3.2.2.1.2.1 f3.2.2.2.1.2.1
    refine key x g9 h9 ?_ ?_ f3
    · have f1' : fY_X7_workAgain_34_go (nI t) 0 0 (z_up g3 3 0 0) = some (0, g9) := f1
      rw [yy]
      unfold fY_X7_workAgain
      rw [z_let_eq, ag1 3 0 rfl, t1, u1, z_bind_nd, x1, z_bind_nd, z_let_eq, f1', z_bind_nd, o1, z_bind_nd]
    · have f2' : fM_X8_again_264_go (nI t) 0 0 (z_up (z_up (z_up (z_up (z_up (z_up h3 0 20 1) 0 21 0) 0 22 0) 0 23 0) 5 0 1) 4 0 500) = z_bind (fM_X8_sum_r2 h9) (fun r25 g26 => some (r25, g26)) := f2
      unfold fM_X8_again
      rw [z_let_eq, z0, if_neg c2, mi, z_bind_nd, if_neg ch, if_neg (by decide), m_in_0_9, z_bind_nd, if_neg (fun q => cw (Or.inl q)), if_neg (by decide), m_in_0_3, z_bind_nd, if_neg (fun q => cw (Or.inr q)), if_neg (by decide), z_let_eq, t2, ej0, v1, v4, v7, m_lights, z_bind_nd, f2', o2, z_bind_nd]
