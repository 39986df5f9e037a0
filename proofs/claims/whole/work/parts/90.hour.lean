/-! an hour -/
theorem y_see {l : Nat} (hl : l < 7) {a : Int32} (ea : a = nI l) (v : Int32) (g : z_G) : fY_X4_see a v g = some (0, z_up g 43 l v) := by
  unfold fY_X4_see
  rw [ea, z_ck_in _ (vp_in_nI hl (by omega)), nI_clamp (by omega), z_let_eq]
theorem r_look {R H : Nat} {g h : z_G} (hA : rAll R H g h) {t : Nat} (t1 : g 3 0 = nI t) (x ba a0 a1 : Int32) (hb : fM_X8_bareCells h = some (ba, h)) : ∃ (s k c : Int32) (g' : z_G), fY_X7_look x ba g = some (0, g') ∧ (g' 43 0 = s ∧ g' 43 1 = k ∧ g' 43 2 = c ∧ g' 43 3 = h 0 21) ∧ fM_X8_watchers x a0 a1 h = fM_X8_watchers_81_go a0 a1 s k c 0 0 h := by
  obtain ⟨q1, q2, q3, q4, q5, q6, q7, q8, q9, q10, q11, q12⟩ := id hA
  obtain ⟨b, e1, e2, e3, e4, e5⟩ := id q1
  obtain ⟨t9, ht9, t19, t29, -⟩ := id q8
  have t2 : h 0 21 = g 3 0 := by rw [t29, t19]
  have w2 : h 0 24 = g 0 8 := q6.2.2.2.1.symm
  unfold fM_X8_watchers
  rw [t2, w2]
  by_cases c : ((g 0 8) >>> ((g 3 0 - g 3 0 / 24 * 24) &&& 31)) &&& 1 = 1
  · obtain ⟨ρ, η, k1, k2, y1, y2⟩ := r_least (g := z_up (z_up g 43 0 x) 43 1 ba) (h := h) b (by rw [z_up_row _ _ _ _ (by decide), z_up_row _ _ _ _ (by decide)]; exact e3) e4 e5 (by intro ρ η k1 k2; rw [z_up_row _ _ _ _ (by decide), z_up_row _ _ _ _ (by decide), z_up_row _ _ _ _ (by decide), z_up_row _ _ _ _ (by decide)]; exact q2 ρ η k1 k2) (rEq_cg q3.2.2.2.2.2.1 (by rw [z_up_row _ _ _ _ (by decide), z_up_row _ _ _ _ (by decide)]) rfl)
    have l1 : ρ * H + η < 64 := Nat.lt_of_lt_of_le (zc_lt k1 k2) (zc_64 b.2.1 b.2.2.2)
    have l2 : η * 8 + ρ < 64 := by have := b.2.1; have := b.2.2.2; omega
    have y15 : z_up (z_up g 43 0 x) 43 1 ba 15 (ρ * H + η) = h 8 (η * 8 + ρ) := by
      rw [z_up_row _ _ _ _ (by decide), z_up_row _ _ _ _ (by decide)]
      exact q3.2.2.2.2.2.1 ρ η k1 k2
    refine ⟨x, ba, h 8 (η * 8 + ρ), z_up (z_up (z_up (z_up g 43 0 x) 43 1 ba) 43 2 (h 8 (η * 8 + ρ))) 43 3 (g 3 0), ?_, ⟨by simp [z_up_at], by simp [z_up_at], by simp [z_up_at], by simp [z_up_at, t2]⟩, ?_⟩
    · unfold fY_X7_look fY_X7_look_28 fY_X7_look_47 fY_X7_look_66 fY_X7_look_98
      rw [z_let_eq, if_pos c, if_neg (by decide), y_see (l := 0) (a := 0) (by omega) rfl, z_bind_nd, if_neg (by decide), y_see (l := 1) (a := 1) (by omega) rfl, z_bind_nd, if_neg (by decide), y1, z_bind_nd, z_ck_in _ (vp_in_nI l1 (by omega)), nI_clamp (show ρ * H + η < 2 ^ 31 by omega), y15, y_see (l := 2) (a := 2) (by omega) rfl, z_bind_nd, y_see (l := 3) (a := 3) (by omega) rfl, z_bind_nd]
    · unfold fM_X8_watchers_23 fM_X8_watchers_37 fM_X8_watchers_53 fM_X8_watchers_73
      rw [if_pos c, if_neg (by decide), if_neg (by decide), hb, z_bind_nd, if_neg (by decide), y2, z_bind_nd, z_ck_in _ (vp_in_nI l2 (by omega)), nI_clamp (show η * 8 + ρ < 2 ^ 31 by omega)]
  · refine ⟨9999, 99, 0, z_up (z_up (z_up (z_up g 43 0 9999) 43 1 99) 43 2 0) 43 3 (g 3 0), ?_, ⟨by simp [z_up_at], by simp [z_up_at], by simp [z_up_at], by simp [z_up_at, t2]⟩, ?_⟩
    · unfold fY_X7_look fY_X7_look_28 fY_X7_look_47 fY_X7_look_66 fY_X7_look_98
      rw [z_let_eq, if_neg c, if_pos rfl, y_see (l := 0) (a := 0) (by omega) rfl, z_bind_nd, if_pos rfl, y_see (l := 1) (a := 1) (by omega) rfl, z_bind_nd, if_pos rfl, y_see (l := 2) (a := 2) (by omega) rfl, z_bind_nd, y_see (l := 3) (a := 3) (by omega) rfl, z_bind_nd]
    · unfold fM_X8_watchers_23 fM_X8_watchers_37 fM_X8_watchers_53 fM_X8_watchers_73
      rw [if_neg c, if_pos rfl, if_pos rfl, if_pos rfl]
theorem m_tail {h h7 : z_G} {t : Nat} (ht : t < 300) (t1 : h 0 21 = nI t) {a0 a1 x ba ac fi : Int32} (hb : fM_X8_bareCells (z_up (z_up (z_up h 20 t a0) 21 t a1) 22 t x) = some (ba, z_up (z_up (z_up h 20 t a0) 21 t a1) 22 t x)) (hw : fM_X8_watchers x a0 a1 (z_up (z_up (z_up (z_up h 20 t a0) 21 t a1) 22 t x) 25 t ba) = some (ac, h7)) (t7 : h7 0 21 = nI t) (hf : fM_X8_burning (z_up h7 23 t ac) = some (fi, z_up h7 23 t ac)) : mTail a0 a1 x h = some (x, z_up (z_up (z_up h7 23 t ac) 24 t fi) 0 21 (nI t + 1)) := by
  have d3 : vp_in (nI t) 300 := vp_in_nI ht (by omega)
  have d4 : (nI t).toNatClampNeg = t := nI_clamp (by omega)
  unfold mTail
  rw [t1, z_ck_in _ d3, d4, z_let_eq, z_up_row _ _ _ _ (show 0 ≠ 20 by decide), t1, z_ck_in _ d3, d4, z_let_eq, z_up_row _ _ _ _ (show 0 ≠ 21 by decide), z_up_row _ _ _ _ (show 0 ≠ 20 by decide), t1, z_ck_in _ d3, d4, z_let_eq, hb, z_bind_nd, z_up_row _ _ _ _ (show 0 ≠ 22 by decide), z_up_row _ _ _ _ (show 0 ≠ 21 by decide), z_up_row _ _ _ _ (show 0 ≠ 20 by decide), t1, z_ck_in _ d3, d4, z_let_eq, hw, z_bind_nd, z_up_row _ _ _ _ (show 0 ≠ 25 by decide), z_up_row _ _ _ _ (show 0 ≠ 22 by decide), z_up_row _ _ _ _ (show 0 ≠ 21 by decide), z_up_row _ _ _ _ (show 0 ≠ 20 by decide), t1, z_ck_in _ d3, d4, z_let_eq, hf, z_bind_nd, z_up_row _ _ _ _ (show 0 ≠ 23 by decide), t7, z_ck_in _ d3, d4, z_let_eq, z_let_eq, z_up_row _ _ _ _ (show 0 ≠ 24 by decide), z_up_row _ _ _ _ (show 0 ≠ 23 by decide), t7]
theorem y_note {g : z_G} {t : Nat} (ht : t < 300) (t1 : g 3 0 = nI t) (a0 a1 a2 a3 a4 a5 : Int32) : fY_X0_note a0 a1 a2 a3 a4 a5 g = some (0, z_up (z_up (z_up (z_up (z_up (z_up (z_up g 25 t a0) 26 t a1) 27 t a2) 28 t a3) 29 t a4) 30 t a5) 3 0 (nI t + 1)) := by
  have d3 : vp_in (nI t) 300 := vp_in_nI ht (by omega)
  have d4 : (nI t).toNatClampNeg = t := nI_clamp (by omega)
  have fu : fY_X0_isFull g = some (0, g) := by
    unfold fY_X0_isFull fY_X0_isFull_15
    rw [t1, if_pos (show nI t < 300 from nI_lt (a := t) (b := 300) ht (by omega)), z_bo_0]
  unfold fY_X0_note
  rw [fu, z_bind_nd, if_pos rfl, t1, z_ck_in _ d3, d4, z_let_eq]
  simp only [z_up_row _ 25 _ _ (show 3 ≠ 25 by decide), z_up_row _ 26 _ _ (show 3 ≠ 26 by decide), z_up_row _ 27 _ _ (show 3 ≠ 27 by decide), z_up_row _ 28 _ _ (show 3 ≠ 28 by decide), z_up_row _ 29 _ _ (show 3 ≠ 29 by decide), z_up_row _ 30 _ _ (show 3 ≠ 30 by decide), t1, z_ck_in _ d3, d4, z_let_eq]
theorem r_hour {R H : Nat} {g h : z_G} (hA : rAll R H g h) {t ra wi : Nat} (ht : t < 300) (t1 : g 3 0 = nI t) (hra : ra ≤ 9) (hwi : wi ≤ 3) (lit : g 0 7 = 1) : ∃ (x : Int32) (g' h' : z_G), fY_X7_workHour (nI ra) (nI wi) g = some (x, g') ∧ fM_X8_works (nI ra) (nI wi) h = some (x, h') ∧ rAll R H g' h' ∧ g' 3 0 = nI (t + 1) ∧ ∀ k, k ≠ t → g' 25 k = g 25 k ∧ g' 26 k = g 26 k := by
  obtain ⟨q1, q2, q3, q4, q5, q6, q7, q8, q9, q10, q11, q12⟩ := id hA
  obtain ⟨b, e1, e2, e3, e4, e5⟩ := id q1
  obtain ⟨p10, p11, p12, p13, p14, p15, p16, p17, p18, p19⟩ := id q3
  obtain ⟨z1, z2, z5, z7⟩ := id q4
  obtain ⟨t9, ht9, t19, t29, -⟩ := id q8
  have et : t9 = t := (nI_eq (by omega) (by omega)).mp (t19.symm.trans t1)
  subst et
  have lh : ∀ ρ η, ρ < R → η < H → η * 8 + ρ < 64 := fun ρ η k1 k2 => by have := b.2.1; have := b.2.2.2; omega
  have hf : ∀ c, c < 64 → h 5 c = 0 ∨ h 5 c = 1 := fun c hc => by
    by_cases ci : c % 8 < R ∧ c / 8 < H
    · have := p14 (c % 8) (c / 8) ci.1 ci.2
      rw [show c / 8 * 8 + c % 8 = c by omega] at this
      rw [← this]
      exact (q5 (c % 8) (c / 8) ci.1 ci.2).2.1
    · exact Or.inl (z5 c hc ci)
  -- air
  obtain ⟨g1, h1, u1, v1, ag1, ah1, f1, f2⟩ := r_air q1 q2 p15 q7 hwi (nI ra) hf
  have hot1 : rHot R H g1 := fun ρ η k1 k2 => by
    rw [ag1 14 (ρ * H + η) rfl, ag1 10 (ρ * H + η) rfl, ag1 11 (ρ * H + η) rfl, ag1 13 (ρ * H + η) rfl]
    obtain ⟨-, a2, -, a4, a5, -⟩ := q5 ρ η k1 k2
    exact ⟨a2, a4, a5⟩
  -- burning
  obtain ⟨x, l, g2, h2, u2, v2, ah2, s1, s2, s3, r10, r11, r12, r13, r14, hot2, out2, gl2⟩ := r_burn (g := g1) (h := h1) b ((ag1 1 4 rfl).trans e3) (rFix_fr q2 ag1 (z_apart (by decide))) (fun ρ η k1 k2 => by rw [ag1 18 (ρ * H + η) rfl]; exact (q5 ρ η k1 k2).1) hot1 (rEq_cg p10 (funext fun j => ag1 10 j rfl) (funext fun j => ah1 1 j rfl)) (rEq_cg p11 (funext fun j => ag1 11 j rfl) (funext fun j => ah1 2 j rfl)) (rEq_cg p12 (funext fun j => ag1 12 j rfl) (funext fun j => ah1 3 j rfl)) (rEq_cg p13 (funext fun j => ag1 13 j rfl) (funext fun j => ah1 4 j rfl)) (rEq_cg p14 (funext fun j => ag1 14 j rfl) (funext fun j => ah1 5 j rfl)) f1 (rEq_cg p18 (funext fun j => ag1 18 j rfl) (funext fun j => ah1 6 j rfl)) (fun c k1 k2 => (ah1 5 c rfl).trans (z5 c k1 k2)) (fun c hc => by rw [(f2 c hc).2, ah1 5 c rfl]) (nI ra) (nI wi)
  have ag2 := frY_X2_burn _ _ _ u2
  -- warming
  obtain ⟨g3, h3, u3, v3, ah3, w13, w14, hot3, out3⟩ := r_warm (g := g2) (h := h2) b ((ag2 1 0 rfl).trans ((ag1 1 0 rfl).trans e1)) ((ag2 1 1 rfl).trans ((ag1 1 1 rfl).trans e2)) ((ah2 0 1 rfl).trans ((ah1 0 1 rfl).trans e4)) ((ah2 0 2 rfl).trans ((ah1 0 2 rfl).trans e5)) hot2 r10 r11 r13 r14 (fun ρ η k1 k2 => by
    have l2 := lh ρ η k1 k2
    obtain ⟨-, a2, -, -, ⟨k, a5, a6, a7⟩, -⟩ := q5 ρ η k1 k2
    rw [gl2 ρ η k1 k2, ah2 27 (η * 8 + ρ) rfl, (f2 _ l2).2, ah2 26 (η * 8 + ρ) rfl, (f2 _ l2).1, ah1 5 (η * 8 + ρ) rfl, ah1 4 (η * 8 + ρ) rfl, ← p14 ρ η k1 k2, ← p13 ρ η k1 k2]
    rcases a2 with a2 | a2
    · exact ⟨0, by omega, by rw [if_pos a2, nI_0], Or.inl ⟨a2, rfl⟩⟩
    · have n2 : ¬ g 14 (ρ * H + η) = 0 := by rw [a2]; decide
      exact ⟨k, a5, by rw [if_neg n2, a6], Or.inr ⟨n2, a7 a2, a6⟩⟩) (nI ra) (nI wi) x
  have ag3 := frY_X2_warm _ _ _ u3
  -- the smoke of all hours
  have ah4 : z_ag (z_tch [] [(0, 22)]) h3 (z_up h3 0 22 (h3 0 22 + x)) := fr_up fr_rf rfl
  have aY3 : z_ag (z_tch [10, 11, 12, 13, 14, 16, 21] [(1, 2), (1, 3)]) g g3 := z_ag_trans (z_ag_trans (t := z_tch [10, 11, 12, 13, 14, 16, 21] [(1, 2), (1, 3)]) ag1 ag2 (z_tch_sub rfl) (z_tch_sub rfl)) ag3 (fun _ _ h => h) (z_tch_sub rfl)
  have aM4 : z_ag (z_tch [1, 2, 3, 4, 5, 9, 26, 27] [(0, 22), (0, 23)]) h (z_up h3 0 22 (h3 0 22 + x)) := z_ag_trans (z_ag_trans (t := z_tch [1, 2, 3, 4, 5, 9, 26, 27] [(0, 22), (0, 23)]) (z_ag_trans (t := z_tch [1, 2, 3, 4, 5, 9, 26, 27] [(0, 22), (0, 23)]) ah1 ah2 (z_tch_sub rfl) (z_tch_sub rfl)) ah3 (fun _ _ h => h) (z_tch_sub rfl)) ah4 (fun _ _ h => h) (z_tch_sub rfl)
  have e22 : z_up h3 0 22 (h3 0 22 + x) 0 22 = h 0 22 + x := by
    rw [z_up_same, ah3 0 22 rfl, ah2 0 22 rfl, ah1 0 22 rfl]
  revert v3 ah4 aM4 e22
  generalize z_up h3 0 22 (h3 0 22 + x) = h4
  intro v3 ah4 aM4 e22
  -- sinking
  obtain ⟨g4, h5, u4, v4, c15, c19, cov4⟩ := r_sink (g := g3) (h := h4) b ((aY3 1 4 rfl).trans e3) ((aM4 0 1 rfl).trans e4) ((aM4 0 2 rfl).trans e5) (rFix_fr q2 aY3 (z_apart (by decide))) hot3 (fun ρ η k1 k2 => by
    rw [aY3 15 (ρ * H + η) rfl, aY3 19 (ρ * H + η) rfl]
    obtain ⟨-, -, a3, -, -, -, a7⟩ := q5 ρ η k1 k2
    exact ⟨a3, a7⟩) (rEq_cg r10 (funext fun j => ag3 10 j rfl) (funext fun j => (ah4 1 j rfl).trans (ah3 1 j rfl))) (rEq_cg r11 (funext fun j => ag3 11 j rfl) (funext fun j => (ah4 2 j rfl).trans (ah3 2 j rfl))) (rEq_cg p15 (funext fun j => aY3 15 j rfl) (funext fun j => aM4 8 j rfl)) (rEq_cg p17 (funext fun j => aY3 17 j rfl) (funext fun j => aM4 7 j rfl)) (rEq_cg p19 (funext fun j => aY3 19 j rfl) (funext fun j => aM4 10 j rfl)) ht9 ((aM4 0 21 rfl).trans t29)
  have ag4 := frY_X2_sink _ _ _ _ u4
  have ah5 := frM_X8_sinks _ _ _ v4
  have aY4 : z_ag (z_tch [10, 11, 12, 13, 14, 15, 16, 19, 21] [(1, 2), (1, 3)]) g g4 := z_ag_trans aY3 ag4 (z_tch_sub rfl) (z_tch_sub rfl)
  have aM5 : z_ag (z_tch [1, 2, 3, 4, 5, 8, 9, 10, 26, 27] [(0, 22), (0, 23)]) h h5 := z_ag_trans aM4 ah5 (z_tch_sub rfl) (z_tch_sub rfl)
  -- rain
  obtain ⟨g5, h6, u5, v5, ah6, c12⟩ := r_soak (g := g4) (h := h5) b ((aY4 1 0 rfl).trans e1) ((aY4 1 1 rfl).trans e2) ((aM5 0 1 rfl).trans e4) ((aM5 0 2 rfl).trans e5) (rFix_fr q2 aY4 (z_apart (by decide))) (rEq_cg r12 (funext fun j => (ag4 12 j rfl).trans (ag3 12 j rfl)) (funext fun j => (ah5 3 j rfl).trans ((ah4 3 j rfl).trans (ah3 3 j rfl)))) (nI ra) (nI wi) x
  have ag5 := frY_X2_soak _ _ _ _ u5
  have aY : z_ag (z_tch [10, 11, 12, 13, 14, 15, 16, 19, 21] [(1, 2), (1, 3)]) g g5 := z_ag_trans aY4 ag5 (fun _ _ h => h) (z_tch_sub rfl)
  have aM : z_ag (z_tch [1, 2, 3, 4, 5, 8, 9, 10, 26, 27] [(0, 22), (0, 23)]) h h6 := z_ag_trans aM5 ah6 (fun _ _ h => h) (z_tch_sub rfl)
  -- all themes behind the rain
  have hA6 : rAll R H g5 h6 := by
    refine ⟨rDim_fr q1 aY (z_apart (by decide)) aM (z_apart (by decide)), rFix_fr q2 aY (z_apart (by decide)), ?_, ?_, ?_, ?_, rHoles_fr q7 aY (z_apart (by decide)) aM (z_apart (by decide)), rHours_fr q8 aY (z_apart (by decide)) aM (z_apart (by decide)), rActs_fr q9 aY (z_apart (by decide)) aM (z_apart (by decide)), ?_, rLit_fr q11 aY (z_apart (by decide)) aM (z_apart (by decide)), rRules_fr q12 aY (z_apart (by decide)) aM (z_apart (by decide))⟩
    · refine ⟨rEq_cg r10 (funext fun j => (ag5 10 j rfl).trans ((ag4 10 j rfl).trans (ag3 10 j rfl))) (funext fun j => (ah6 1 j rfl).trans ((ah5 1 j rfl).trans ((ah4 1 j rfl).trans (ah3 1 j rfl)))), rEq_cg r11 (funext fun j => (ag5 11 j rfl).trans ((ag4 11 j rfl).trans (ag3 11 j rfl))) (funext fun j => (ah6 2 j rfl).trans ((ah5 2 j rfl).trans ((ah4 2 j rfl).trans (ah3 2 j rfl)))), c12, rEq_cg w13 (funext fun j => (ag5 13 j rfl).trans (ag4 13 j rfl)) (funext fun j => (ah6 4 j rfl).trans ((ah5 4 j rfl).trans (ah4 4 j rfl))), rEq_cg w14 (funext fun j => (ag5 14 j rfl).trans (ag4 14 j rfl)) (funext fun j => (ah6 5 j rfl).trans ((ah5 5 j rfl).trans (ah4 5 j rfl))), rEq_cg c15 (funext fun j => ag5 15 j rfl) (funext fun j => ah6 8 j rfl), ?_, rEq_cg p17 (funext fun j => aY 17 j rfl) (funext fun j => aM 7 j rfl), rEq_cg p18 (funext fun j => aY 18 j rfl) (funext fun j => aM 6 j rfl), rEq_cg c19 (funext fun j => ag5 19 j rfl) (funext fun j => ah6 10 j rfl)⟩
      intro ρ η k1 k2
      obtain ⟨a, -, ea, eb⟩ := f1 ρ η k1 k2
      rw [ag5 16 (ρ * H + η) rfl, ag4 16 (ρ * H + η) rfl, ag3 16 (ρ * H + η) rfl, ag2 16 (ρ * H + η) rfl, ea, ah6 9 (η * 8 + ρ) rfl, ah5 9 (η * 8 + ρ) rfl, ah4 9 (η * 8 + ρ) rfl, ah3 9 (η * 8 + ρ) rfl, ah2 9 (η * 8 + ρ) rfl, eb]
    · refine ⟨fun c k1 k2 => ?_, fun c k1 k2 => ?_, fun c k1 k2 => ?_, fun c k1 k2 => (aM 7 c rfl).trans (z7 c k1 k2)⟩
      · rw [ah6 1 c rfl, ah5 1 c rfl, ah4 1 c rfl, ah3 1 c rfl, (out2 c k1 k2).1, ah1 1 c rfl]
        exact z1 c k1 k2
      · rw [ah6 2 c rfl, ah5 2 c rfl, ah4 2 c rfl, ah3 2 c rfl, (out2 c k1 k2).2.1, ah1 2 c rfl]
        exact z2 c k1 k2
      · rw [ah6 5 c rfl, ah5 5 c rfl, ah4 5 c rfl, out3 c k1 k2, (out2 c k1 k2).2.2, ah1 5 c rfl]
        exact z5 c k1 k2
    · intro ρ η k1 k2
      obtain ⟨a1, -, -, -, -, a6, -⟩ := q5 ρ η k1 k2
      obtain ⟨c1, c2⟩ := cov4 ρ η k1 k2
      obtain ⟨o1, o2, o3⟩ := hot3 ρ η k1 k2
      rw [aY 18 (ρ * H + η) rfl, aY 17 (ρ * H + η) rfl, ag5 14 (ρ * H + η) rfl, ag4 14 (ρ * H + η) rfl, ag5 15 (ρ * H + η) rfl, ag5 10 (ρ * H + η) rfl, ag4 10 (ρ * H + η) rfl, ag5 11 (ρ * H + η) rfl, ag4 11 (ρ * H + η) rfl, ag5 13 (ρ * H + η) rfl, ag4 13 (ρ * H + η) rfl, ag5 19 (ρ * H + η) rfl]
      exact ⟨a1, o1, c1, o2, o3, a6, c2⟩
    · obtain ⟨y1, y2, y3, y4, y5, y6⟩ := q6
      refine ⟨?_, ?_, by rw [aY 0 7 rfl, aM 0 20 rfl, y3], by rw [aY 0 8 rfl, aM 0 24 rfl, y4], by rw [aY 0 9 rfl, aM 0 25 rfl, y5], by rw [aY 0 7 rfl]; exact y6⟩
      · rw [ag5 1 2 rfl, ag4 1 2 rfl, ag3 1 2 rfl, s1, ag1 1 2 rfl, y1, ah6 0 22 rfl, ah5 0 22 rfl, e22]
      · rw [ag5 1 3 rfl, ag4 1 3 rfl, ag3 1 3 rfl, s2, ag1 1 3 rfl, y2, ah6 0 23 rfl, ah5 0 23 rfl, ah4 0 23 rfl, ah3 0 23 rfl, s3, ah1 0 23 rfl]
    · intro hl
      rw [aY 0 7 rfl, lit] at hl
      exact absurd hl (by decide)
  have t5 : g5 3 0 = nI t9 := (aY 3 0 rfl).trans t1
  have t6 : h6 0 21 = nI t9 := (aM 0 21 rfl).trans t29
  -- the hour's row
  have aR : z_ag (z_tch [20, 21, 22] []) h6 (z_up (z_up (z_up h6 20 t9 (nI ra)) 21 t9 (nI wi)) 22 t9 x) := fr_up (fr_up (fr_up fr_rf rfl) rfl) rfl
  obtain ⟨ba, b1, b2⟩ := r_bare (g := g5) (h := z_up (z_up (z_up h6 20 t9 (nI ra)) 21 t9 (nI wi)) 22 t9 x) b hA6.1.2.2.2.1 ((aR 0 1 rfl).trans hA6.1.2.2.2.2.1) ((aR 0 2 rfl).trans hA6.1.2.2.2.2.2) hA6.2.1 (rEq_cg hA6.2.2.1.2.2.2.2.2.1 rfl (funext fun j => aR 8 j rfl))
  have aR2 : z_ag (z_tch [20, 21, 22, 25] []) h6 (z_up (z_up (z_up (z_up h6 20 t9 (nI ra)) 21 t9 (nI wi)) 22 t9 x) 25 t9 ba) := fr_up (z_ag_trans aR fr_rf (z_tch_sub rfl) (z_tch_sub (rows1 := []) (els1 := []) rfl)) rfl
  have rR : ∀ k, z_up (z_up (z_up (z_up h6 20 t9 (nI ra)) 21 t9 (nI wi)) 22 t9 x) 25 t9 ba 20 k = (if k = t9 then nI ra else h6 20 k) ∧ z_up (z_up (z_up (z_up h6 20 t9 (nI ra)) 21 t9 (nI wi)) 22 t9 x) 25 t9 ba 21 k = (if k = t9 then nI wi else h6 21 k) ∧ z_up (z_up (z_up (z_up h6 20 t9 (nI ra)) 21 t9 (nI wi)) 22 t9 x) 25 t9 ba 22 k = (if k = t9 then x else h6 22 k) ∧ z_up (z_up (z_up (z_up h6 20 t9 (nI ra)) 21 t9 (nI wi)) 22 t9 x) 25 t9 ba 25 k = (if k = t9 then ba else h6 25 k) := by
    intro k
    by_cases e : k = t9 <;> simp [z_up_at, e]
  have b3 : fM_X8_bareCells (z_up (z_up (z_up (z_up h6 20 t9 (nI ra)) 21 t9 (nI wi)) 22 t9 x) 25 t9 ba) = some (ba, z_up (z_up (z_up (z_up h6 20 t9 (nI ra)) 21 t9 (nI wi)) 22 t9 x) 25 t9 ba) := by
    obtain ⟨ba2, c1, c2⟩ := r_bare (g := g5) (h := z_up (z_up (z_up (z_up h6 20 t9 (nI ra)) 21 t9 (nI wi)) 22 t9 x) 25 t9 ba) b hA6.1.2.2.2.1 ((aR2 0 1 rfl).trans hA6.1.2.2.2.2.1) ((aR2 0 2 rfl).trans hA6.1.2.2.2.2.2) hA6.2.1 (rEq_cg hA6.2.2.1.2.2.2.2.2.1 rfl (funext fun j => aR2 8 j rfl))
    rw [b1] at c1
    injection c1 with c1
    injection c1 with c1 _
    rw [c2, ← c1]
  have tl := fun (h7 : z_G) (ac fi : Int32) => m_tail (h := h6) (h7 := h7) ht t6 (a0 := nI ra) (a1 := nI wi) (x := x) (ba := ba) (ac := ac) (fi := fi) b2
  revert tl aR2 rR b3
  generalize z_up (z_up (z_up (z_up h6 20 t9 (nI ra)) 21 t9 (nI wi)) 22 t9 x) 25 t9 ba = h6b
  intro aR2 rR b3 tl
  have hA7 : rAll R H g5 h6b := by
    obtain ⟨q1, q2, q3, q4, q5, q6, q7, q8, q9, q10, q11, q12⟩ := id hA6
    have ag0 : z_ag (z_tch [] []) g5 g5 := fr_rf
    refine ⟨rDim_fr q1 ag0 (z_apart (by decide)) aR2 (z_apart (by decide)), rFix_fr q2 ag0 (z_apart (by decide)), rCells_fr q3 ag0 (z_apart (by decide)) aR2 (z_apart (by decide)), rZeros_fr q4 aR2 (z_apart (by decide)), rVal_fr q5 ag0 (z_apart (by decide)), rScal_fr q6 ag0 (z_apart (by decide)) aR2 (z_apart (by decide)), rHoles_fr q7 ag0 (z_apart (by decide)) aR2 (z_apart (by decide)), ?_, rActs_fr q9 ag0 (z_apart (by decide)) aR2 (z_apart (by decide)), rCold_fr q10 ag0 (z_apart (by decide)), rLit_fr q11 ag0 (z_apart (by decide)) aR2 (z_apart (by decide)), rRules_fr q12 ag0 (z_apart (by decide)) aR2 (z_apart (by decide))⟩
    obtain ⟨t8, ht8, a1, a2, a3⟩ := q8
    have e8 : t8 = t9 := (nI_eq (by omega) (by omega)).mp (a1.symm.trans t5)
    subst e8
    refine ⟨t8, ht8, a1, (aR2 0 21 rfl).trans a2, fun k hk => ?_⟩
    have ne : ¬ k = t8 := by omega
    obtain ⟨b1, b2, b3, b4⟩ := rR k
    rw [b1, b2, b3, b4, if_neg ne, if_neg ne, if_neg ne, if_neg ne, aR2 23 k rfl, aR2 24 k rfl]
    exact a3 k hk
  -- the watchers
  obtain ⟨s, kk, c, g6, l1, ⟨l2, l3, l4, l5⟩, l6⟩ := r_look hA7 t5 x ba (nI ra) (nI wi) b3
  have ag6 := frY_X7_look _ _ _ _ _ l1
  have aS : z_ag (z_tch [43] []) g5 (z_up (z_up g6 43 5 (nI ra)) 43 6 (nI wi)) := fr_up (fr_up ag6 rfl) rfl
  have hA8 : rAll R H (z_up (z_up g6 43 5 (nI ra)) 43 6 (nI wi)) h6b := by
    obtain ⟨q1, q2, q3, q4, q5, q6, q7, q8, q9, q10, q11, q12⟩ := id hA7
    have ah0 : z_ag (z_tch [43] []) h6b h6b := fr_rf
    exact ⟨rDim_fr q1 aS (z_apart (by decide)) ah0 (z_apart (by decide)), rFix_fr q2 aS (z_apart (by decide)), rCells_fr q3 aS (z_apart (by decide)) ah0 (z_apart (by decide)), rZeros_fr q4 ah0 (z_apart (by decide)), rVal_fr q5 aS (z_apart (by decide)), rScal_fr q6 aS (z_apart (by decide)) ah0 (z_apart (by decide)), rHoles_fr q7 aS (z_apart (by decide)) ah0 (z_apart (by decide)), rHours_fr q8 aS (z_apart (by decide)) ah0 (z_apart (by decide)), rActs_fr q9 aS (z_apart (by decide)) ah0 (z_apart (by decide)), rCold_fr q10 aS (z_apart (by decide)), rLit_fr q11 aS (z_apart (by decide)) ah0 (z_apart (by decide)), rRules_fr q12 aS (z_apart (by decide)) ah0 (z_apart (by decide))⟩
  obtain ⟨nr, hnr, n1, n2, -⟩ := hA8.2.2.2.2.2.2.2.2.2.2.2
  obtain ⟨ac, g8, h7, w1, w2, w3⟩ := r_rules hnr s kk c (nI ra) (nI wi) nr 0 z_fuel z_fuel 0 (z_up (z_up g6 43 5 (nI ra)) 43 6 (nI wi)) h6b (by omega) (z_fuel_big (by omega)) (z_fuel_big (by omega)) hA8 n1 ⟨by simp [z_up_at, l2], by simp [z_up_at, l3], by simp [z_up_at, l4], by simp [z_up_at, l5], by simp [z_up_at], by simp [z_up_at]⟩
  have u8 : fY_X7_actByRules (z_up (z_up g6 43 5 (nI ra)) 43 6 (nI wi)) = some (ac, g8) := w1
  have v8 : fM_X8_watchers x (nI ra) (nI wi) h6b = some (ac, h7) := l6.trans w2
  have ag8 := frY_X7_actByRules _ _ _ u8
  have ah8 := frM_X8_watchers _ _ _ _ _ _ v8
  have t8 : g8 3 0 = nI t9 := (ag8 3 0 rfl).trans ((aS 3 0 rfl).trans t5)
  have t7 : h7 0 21 = nI t9 := (ah8 0 21 rfl).trans ((aR2 0 21 rfl).trans t6)
  -- fires
  have aF : z_ag (z_tch [23] []) h7 (z_up h7 23 t9 ac) := fr_up fr_rf rfl
  obtain ⟨fi, i1, i2⟩ := r_burning (g := g8) (h := z_up h7 23 t9 ac) (rDim_fr w3.1 (tg := z_tch [] []) fr_rf (z_apart (by decide)) aF (z_apart (by decide))) (rEq_cg w3.2.2.1.2.2.2.2.1 rfl (funext fun j => aF 5 j rfl)) (fun c k1 k2 => (aF 5 c rfl).trans (w3.2.2.2.1.2.2.1 c k1 k2)) (fun ρ η k1 k2 => (w3.2.2.2.2.1 ρ η k1 k2).2.1)
  have fin := tl h7 ac fi v8 t7 i2
  refine ⟨x, z_up (z_up (z_up (z_up (z_up (z_up (z_up g8 25 t9 (nI ra)) 26 t9 (nI wi)) 27 t9 x) 28 t9 ac) 29 t9 fi) 30 t9 ba) 3 0 (nI t9 + 1), z_up (z_up (z_up h7 23 t9 ac) 24 t9 fi) 0 21 (nI t9 + 1), ?_, ?_, ?_, ?_, ?_⟩
  · have x3 : g3 3 0 = nI t9 := (aY3 3 0 rfl).trans t1
    unfold fY_X7_workHour
    rw [u1, z_bind_nd, u2, z_bind_nd, u3, z_bind_nd, x3, u4, z_bind_nd, u5, z_bind_nd, b1, z_bind_nd, l1, z_bind_nd, y_see (l := 5) (a := 5) (by omega) rfl, z_bind_nd, y_see (l := 6) (a := 6) (by omega) rfl, z_bind_nd, u8, z_bind_nd, i1, z_bind_nd, y_note ht t8, z_bind_nd]
  · unfold fM_X8_works
    rw [v1, v2, v3, v4, z_bind_nd, v5, fin]
  · obtain ⟨q1, q2, q3, q4, q5, q6, q7, q8, q9, q10, q11, q12⟩ := id w3
    have agN : z_ag (z_tch [25, 26, 27, 28, 29, 30] [(3, 0)]) g8 (z_up (z_up (z_up (z_up (z_up (z_up (z_up g8 25 t9 (nI ra)) 26 t9 (nI wi)) 27 t9 x) 28 t9 ac) 29 t9 fi) 30 t9 ba) 3 0 (nI t9 + 1)) := fr_up (fr_up (fr_up (fr_up (fr_up (fr_up (fr_up fr_rf rfl) rfl) rfl) rfl) rfl) rfl) rfl
    have ahN : z_ag (z_tch [23, 24] [(0, 21)]) h7 (z_up (z_up (z_up h7 23 t9 ac) 24 t9 fi) 0 21 (nI t9 + 1)) := fr_up (fr_up (fr_up fr_rf rfl) rfl) rfl
    refine ⟨rDim_fr q1 agN (z_apart (by decide)) ahN (z_apart (by decide)), rFix_fr q2 agN (z_apart (by decide)), rCells_fr q3 agN (z_apart (by decide)) ahN (z_apart (by decide)), rZeros_fr q4 ahN (z_apart (by decide)), rVal_fr q5 agN (z_apart (by decide)), rScal_fr q6 agN (z_apart (by decide)) ahN (z_apart (by decide)), rHoles_fr q7 agN (z_apart (by decide)) ahN (z_apart (by decide)), ?_, rActs_fr q9 agN (z_apart (by decide)) ahN (z_apart (by decide)), ?_, rLit_fr q11 agN (z_apart (by decide)) ahN (z_apart (by decide)), rRules_fr q12 agN (z_apart (by decide)) ahN (z_apart (by decide))⟩
    · obtain ⟨t10, ht10, a1, a2, a3⟩ := q8
      have e8 : t10 = t9 := (nI_eq (by omega) (by omega)).mp (a1.symm.trans t8)
      subst e8
      refine ⟨t10 + 1, by omega, by rw [z_up_same, nI_1], by rw [z_up_same, nI_1], fun k hk => ?_⟩
      by_cases e : k = t10
      · subst e
        obtain ⟨b1, b2, b3, b4⟩ := rR k
        rw [if_pos rfl] at b1 b2 b3 b4
        have r20 : h7 20 k = nI ra := (ah8 20 k rfl).trans b1
        have r21 : h7 21 k = nI wi := (ah8 21 k rfl).trans b2
        have r22 : h7 22 k = x := (ah8 22 k rfl).trans b3
        have r25 : h7 25 k = ba := (ah8 25 k rfl).trans b4
        simp [z_up_at, r20, r21, r22, r25]
        exact ⟨⟨ra, hra, rfl⟩, wi, hwi, rfl⟩
      · have := a3 k (by omega)
        simpa [z_up_at, e] using this
    · intro hl
      rw [agN 0 7 rfl, ag8 0 7 rfl, aS 0 7 rfl, aY 0 7 rfl, lit] at hl
      exact absurd hl (by decide)
  · rw [z_up_same, nI_1]
  · intro k hk
    have n1 : z_up (z_up (z_up (z_up (z_up (z_up (z_up g8 25 t9 (nI ra)) 26 t9 (nI wi)) 27 t9 x) 28 t9 ac) 29 t9 fi) 30 t9 ba) 3 0 (nI t9 + 1) 25 k = g8 25 k := by simp [z_up_at, hk]
    have n2 : z_up (z_up (z_up (z_up (z_up (z_up (z_up g8 25 t9 (nI ra)) 26 t9 (nI wi)) 27 t9 x) 28 t9 ac) 29 t9 fi) 30 t9 ba) 3 0 (nI t9 + 1) 26 k = g8 26 k := by simp [z_up_at, hk]
    rw [n1, n2, ag8 25 k rfl, ag8 26 k rfl, aS 25 k rfl, aS 26 k rfl, aY 25 k rfl, aY 26 k rfl]
    exact ⟨rfl, rfl⟩
