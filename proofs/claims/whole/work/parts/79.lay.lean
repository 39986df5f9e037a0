/-! rake, lay, layRow -/
theorem y_shutAll {g : z_G} {n : Nat} (hn : n ≤ 12) (e : g 2 0 = nI n) : ∃ g', fY_X1_shutAll g = some (0, g') ∧ ∀ k, k < n → g' 23 k = 0 := by
  unfold fY_X1_shutAll fY_X1_shutAll_2_go
  rw [← nI_0]
  have key := z_pfor (step := fun k (w : Int32 × z_G) => fY_X1_shutAll_2 k w.1 w.2) (fun j g => (nI j, g)) (fun g => some (nI 0, g)) n (z_fuel_big (by omega)) (fun j s => (∀ i, i < j → s 23 i = nI 0) ∧ s 2 0 = nI n) (fun k j s hj hp => ?_) (fun k s hp => ?_) g ⟨fun i hi => absurd hi (Nat.not_lt_zero i), e⟩
  · obtain ⟨s', h1, h2, -⟩ := key
    exact ⟨s', h1, h2⟩
  · have d3 : vp_in (nI j) 12 := vp_in_nI (by omega) (by omega)
    have d4 : (nI j).toNatClampNeg = j := nI_clamp (by omega)
    refine ⟨z_up s 23 j 0, ?_, fun i hi => ?_, by rw [z_up_row _ _ _ _ (by decide)]; exact hp.2⟩
    · show fY_X1_shutAll_2 k (nI j) s = k (nI (j + 1), _)
      unfold fY_X1_shutAll_2
      rw [hp.2, if_neg (zn_stop (by omega) hj), z_ck_in _ d3, d4, z_let_eq, z_let_eq, nar0, nI_1]
    · by_cases c : i = j
      · simp [c, z_up_at, nI_0]
      · simp [c, z_up_at, hp.1 i (by omega)]
  · show fY_X1_shutAll_2 k (nI n) s = _
    unfold fY_X1_shutAll_2
    rw [hp.2, if_pos (nI_le (Nat.le_refl n) (by omega)), nI_0]
theorem m_rakeloop (x : Int32) {h : z_G} {n : Nat} (hn : n ≤ 12) (e : h 0 13 = nI n) : ∃ h', fM_X8_rake_41_go x 0 h = some (x, h') ∧ z_ag (z_tch [12] []) h h' ∧ ∀ k, k < n → h' 12 k = 0 := by
  unfold fM_X8_rake_41_go
  rw [← nI_0]
  have key := z_pfor (step := fun k (w : Int32 × Int32 × z_G) => fM_X8_rake_41 k w.1 w.2.1 w.2.2) (fun j g => (x, nI j, g)) (fun g => some (x, g)) n (z_fuel_big (by omega)) (fun j s => (∀ i, i < j → s 12 i = nI 0) ∧ s 0 13 = nI n ∧ z_ag (z_tch [12] []) h s) (fun k j s hj hp => ?_) (fun k s hp => ?_) h ⟨fun i hi => absurd hi (Nat.not_lt_zero i), e, fr_rf⟩
  · obtain ⟨s', h1, h2, -, h3⟩ := key
    exact ⟨s', h1, h3, h2⟩
  · have d3 : vp_in (nI j) 12 := vp_in_nI (by omega) (by omega)
    have d4 : (nI j).toNatClampNeg = j := nI_clamp (by omega)
    refine ⟨z_up s 12 j 0, ?_, fun i hi => ?_, by rw [z_up_row _ _ _ _ (by decide)]; exact hp.2.1, fr_up hp.2.2 (z_tch_row rfl j)⟩
    · show fM_X8_rake_41 k x (nI j) s = k (x, nI (j + 1), _)
      unfold fM_X8_rake_41
      rw [hp.2.1, if_neg (zn_stop (by omega) hj), z_ck_in _ d3, d4, z_let_eq, z_let_eq, nar0, nI_1]
    · by_cases c : i = j
      · simp [c, z_up_at, nI_0]
      · simp [c, z_up_at, hp.1 i (by omega)]
  · show fM_X8_rake_41 k x (nI n) s = _
    unfold fM_X8_rake_41
    rw [hp.2.1, if_pos (nI_le (Nat.le_refl n) (by omega))]
theorem sim_rake : z_sim0 rel fY_X7_rake fM_X8_rake := by
  intro g h hr
  have hr0 := rel_thrown hr 0
  obtain ⟨R, H, q1, q2, q3, q4, q5, q6, q7, q8, q9, q10, q11, q12⟩ := hr0.1
  obtain ⟨b, d1, d2, d3, d4, d5⟩ := id q1
  obtain ⟨s1, s2, s3, s4, s5, s6⟩ := id q6
  by_cases c : g 0 7 = 0
  · have c2 : z_up h 0 0 0 0 20 = 0 := by rw [← s3]; exact c
    exact ⟨-1, g, z_up h 0 0 0, by unfold fY_X7_rake; rw [if_pos c], by unfold fM_X8_rake; rw [z_let_eq, if_pos c2], hr0⟩
  have c2 : ¬ z_up h 0 0 0 0 20 = 0 := by rw [← s3]; exact c
  obtain ⟨x, x1, x2⟩ := r_sum11 q1 q3.2.1 q4.2.1
  obtain ⟨n, hn, n1, n2, hk⟩ := id q7
  obtain ⟨g1, u1, u2, u3, u4, u5, u6⟩ := y_build b (z_up g 0 9 (g 0 9 + x / 25))
  have ag1 := frY_X2_build _ _ _ _ _ u1
  have w1 : z_up g 0 9 (g 0 9 + x / 25) 1 0 = nI R := by rw [z_up_row _ _ _ _ (by decide), d1]
  have w2 : z_up g 0 9 (g 0 9 + x / 25) 1 1 = nI H := by rw [z_up_row _ _ _ _ (by decide), d2]
  obtain ⟨g2, v1, v2⟩ := y_shutAll (g := g1) hn (by rw [ag1 2 0 rfl, z_up_row _ _ _ _ (by decide), n1])
  have ag2 := frY_X1_shutAll _ _ _ v1
  obtain ⟨h1, p1, p2, p3⟩ := m_empties (z_up (z_up h 0 0 0) 0 25 (z_up h 0 0 0 0 25 + x / 25))
  have ah1 := frM_X8_empties _ _ _ p1
  obtain ⟨h2, o1, o2, o3⟩ := m_rakeloop (x / 25) (h := h1) hn (by rw [ah1 0 13 rfl]; simpa [z_up_at] using n2)
  have e1 : fY_X7_rake g = some (x / 25, z_up (z_up (z_up g2 3 0 0) 3 7 0) 0 7 0) := by
    unfold fY_X7_rake fY_X0_forget
    rw [if_neg c, x1, z_bind_nd, z_let_eq, z_let_eq, w1, w2, u1, z_bind_nd, v1, z_bind_nd, z_let_eq, z_let_eq, z_bind_nd, z_let_eq]
  have e2 : fM_X8_rake h = some (x / 25, h2) := by
    unfold fM_X8_rake
    rw [z_let_eq, if_neg c2, x2, z_bind_nd, z_let_eq, z_let_eq, p1, z_bind_nd, o1]
  have ag := frY_X7_rake _ _ _ e1
  have ah := frM_X8_rake _ _ _ e2
  refine ⟨x / 25, _, h2, e1, e2, ⟨R, H, r_new b ?_ ?_ ?_ ?_ ?_ ?_ ?_ ?_ ?_ ?_ ?_ ?_⟩, rWood_fr hr.2.1 ag (z_apart (by decide)) ah (z_apart (by decide)), rTape_fr hr.2.2 ag (z_apart (by decide)) ah (z_apart (by decide))⟩
  · have a := ag2 1 0 rfl; have a' := ag2 1 1 rfl; have a'' := ag2 1 4 rfl
    simp [z_up_at, a, a', a'', u2]
  · have u3' : rFix R H g2 := rFix_fr u3 ag2 (z_apart (by decide))
    exact rFix_fr (tg := z_tch [] [(3, 0), (3, 7), (0, 7)]) u3' (fr_up (fr_up (fr_up fr_rf rfl) rfl) rfl) (z_apart (by decide))
  · intro i hi
    have := u4 i hi
    rw [← ag2 10 i rfl, ← ag2 11 i rfl, ← ag2 12 i rfl, ← ag2 13 i rfl, ← ag2 14 i rfl, ← ag2 15 i rfl, ← ag2 16 i rfl, ← ag2 17 i rfl, ← ag2 18 i rfl, ← ag2 19 i rfl] at this
    simpa [z_up_at] using this
  · have a := ag2 1 2 rfl; have a' := ag2 1 3 rfl
    simp [z_up_at, a, a', u5, u6]
  · simp [z_up_at]
  · rw [o2 0 1 rfl, o2 0 2 rfl, ah1 0 1 rfl, ah1 0 2 rfl]
    simpa [z_up_at] using And.intro d4 d5
  · intro i hi
    have := p2 i hi
    rw [← o2 1 i rfl, ← o2 2 i rfl, ← o2 3 i rfl, ← o2 4 i rfl, ← o2 5 i rfl, ← o2 6 i rfl, ← o2 7 i rfl, ← o2 8 i rfl, ← o2 9 i rfl, ← o2 10 i rfl] at this
    exact this
  · rw [o2 0 20 rfl, o2 0 21 rfl, o2 0 22 rfl, o2 0 23 rfl, o2 0 26 rfl]
    exact p3
  · rw [ag 0 8 rfl, ah 0 24 rfl]
    simpa [z_up_at] using s4
  · rw [o2 0 25 rfl, ah1 0 25 rfl, z_up_same]
    have a := ag2 0 9 rfl; have a' := ag1 0 9 rfl
    simp [z_up_at] at s5 a a' ⊢
    rw [a, a', s5]
  · refine ⟨n, hn, ?_, ?_, fun k hk9 => ?_⟩
    · rw [ag 2 0 rfl, n1]
    · rw [ah 0 13 rfl]; simpa [z_up_at] using n2
    · obtain ⟨k1, k2, ρ, η, k3, k4, k5, k6, k7⟩ := hk k hk9
      have y : z_up (z_up (z_up g2 3 0 0) 3 7 0) 0 7 0 23 k = 0 := by simp [z_up_at, v2 k hk9]
      rw [y, o3 k hk9, ag 22 k rfl, ah 11 k rfl]
      refine ⟨rfl, Or.inl rfl, ρ, η, k3, k4, k5, k6, ?_⟩
      simpa [z_up_at] using k7
  · obtain ⟨R9, H9, hA⟩ := hr.1
    exact rRules_fr hA.2.2.2.2.2.2.2.2.2.2.2 ag (z_apart (by decide)) ah (z_apart (by decide))
/-- one cell laid -/
def gLay (g : z_G) (i k ρ : Nat) : z_G := z_up (z_up (z_up (z_up (z_up (z_up g 18 i (nI k)) 17 i (nI (100 * (2 * ρ + 1)))) 10 i (nI (100 * (2 * ρ + 1)))) 12 i (kDAMP k * nI (2 * ρ + 1))) 11 i 0) 13 i 0
def hLay (h : z_G) (c k ρ : Nat) : z_G := z_up (z_up (z_up (z_up (z_up (z_up h 6 c (nI k)) 7 c (nI (100 * (2 * ρ + 1)))) 1 c (nI (100 * (2 * ρ + 1)))) 3 c (kDAMP k * nI (2 * ρ + 1))) 2 c 0) 4 c 0
theorem y_layone {g : z_G} {i k ρ : Nat} (hi : i < 64) (hk : k < 4) (hρ : ρ < 8) (e : g 8 i = nI (2 * ρ + 1)) : fY_X2_fill (nI i) (nI k) g = some (nI (100 * (2 * ρ + 1)), gLay g i k ρ) := by
  have d3 : vp_in (nI i) 64 := vp_in_nI hi (by omega)
  have d4 : (nI i).toNatClampNeg = i := nI_clamp (by omega)
  have w : (100 : Int32) * nI (2 * ρ + 1) = nI (100 * (2 * ρ + 1)) := by rw [show (100 : Int32) = nI 100 from rfl, pk_mul]
  have dd : fY_X2_dampOf (nI i) (z_up (z_up (z_up g 18 i (nI k)) 17 i (nI (100 * (2 * ρ + 1)))) 10 i (nI (100 * (2 * ρ + 1)))) = some (kDAMP k * nI (2 * ρ + 1), z_up (z_up (z_up g 18 i (nI k)) 17 i (nI (100 * (2 * ρ + 1)))) 10 i (nI (100 * (2 * ρ + 1)))) := by
    rw [y_dampOf hi (by simp [z_up_at]; exact vp_in_nI hk (by omega))]
    unfold kDampOf
    have p : (0 : Int32) < nI (100 * (2 * ρ + 1)) := nI_lt (a := 0) (by omega) (by omega)
    simp [z_up_at, p, e, nI_clamp (show k < 2 ^ 31 by omega)]
  unfold fY_X2_fill
  simp only [z_ck_in _ d3, d4, z_let_eq]
  simp only [z_up_row _ 18 _ _ (show 8 ≠ 18 by decide), e, w, z_up_same, dd, z_bind_some]
  simp [gLay, z_up_at]
theorem m_damp {k : Nat} (hk : k < 4) (h : z_G) : fM_X8_damp (nI k) h = some (kDAMP k, h) := by
  unfold fM_X8_damp fM_X8_damp_12
  match k, hk with
  | 0, _ => rw [if_neg (by decide)]; rfl
  | 1, _ => rw [if_neg (by decide)]; rfl
  | 2, _ => rw [if_pos (by decide)]; rfl
  | 3, _ => rw [if_pos (by decide)]; rfl
  | k + 4, hk => exact absurd hk (by omega)
theorem m_share {c : Nat} (hc : c < 64) (h : z_G) : fM_X8_share (nI c) h = some (nI (2 * (c % 8) + 1), h) := by
  unfold fM_X8_share
  rw [m_ring hc, show (2 : Int32) = nI 2 from rfl, pk_mul, nI_1]
theorem m_layone {h : z_G} {c k ρ : Nat} (hc : c < 64) (hk : k < 4) (hρ : ρ < 8) (e : c % 8 = ρ) : fM_X8_lays (nI c) (nI k) h = some (nI (100 * (2 * ρ + 1)), hLay h c k ρ) := by
  have d3 : vp_in (nI c) 64 := vp_in_nI hc (by omega)
  have d4 : (nI c).toNatClampNeg = c := nI_clamp (by omega)
  have w : (100 : Int32) * nI (2 * ρ + 1) = nI (100 * (2 * ρ + 1)) := by rw [show (100 : Int32) = nI 100 from rfl, pk_mul]
  unfold fM_X8_lays
  simp only [z_ck_in _ d3, d4, z_let_eq, m_share hc, m_damp hk, z_bind_some, e, w]
  simp [hLay, z_up_at]
theorem r_lay {R H : Nat} {g h : z_G} (hA : rAll R H g h) (hl : g 0 7 = 0) {ρ η k : Nat} (hρ : ρ < R) (hη : η < H) (hk : k < 4) : ∃ x : Int32, fY_X2_fill (nI (ρ * H + η)) (nI k) g = some (x, gLay g (ρ * H + η) k ρ) ∧ fM_X8_lays (nI (η * 8 + ρ)) (nI k) h = some (x, hLay h (η * 8 + ρ) k ρ) ∧ rAll R H (gLay g (ρ * H + η) k ρ) (hLay h (η * 8 + ρ) k ρ) := by
  obtain ⟨q1, q2, q3, q4, q5, q6, q7, q8, q9, q10, q11, q12⟩ := hA
  obtain ⟨⟨b1, b2, b3, b4⟩, d1, d2, d3, d4, d5⟩ := id q1
  have hi : ρ * H + η < 64 := Nat.lt_of_lt_of_le (zc_lt hρ hη) (zc_64 b2 b4)
  have hc : η * 8 + ρ < 64 := by omega
  refine ⟨nI (100 * (2 * ρ + 1)), y_layone hi hk (by omega) (q2 ρ η hρ hη).1, m_layone hc hk (by omega) (zc_mod (by omega)), ?_⟩
  have ag : z_ag (z_tch [18, 17, 10, 12, 11, 13] []) g (gLay g (ρ * H + η) k ρ) := fr_up (fr_up (fr_up (fr_up (fr_up (fr_up fr_rf (z_tch_row rfl _)) (z_tch_row rfl _)) (z_tch_row rfl _)) (z_tch_row rfl _)) (z_tch_row rfl _)) (z_tch_row rfl _)
  have ah : z_ag (z_tch [6, 7, 1, 3, 2, 4] []) h (hLay h (η * 8 + ρ) k ρ) := fr_up (fr_up (fr_up (fr_up (fr_up (fr_up fr_rf (z_tch_row rfl _)) (z_tch_row rfl _)) (z_tch_row rfl _)) (z_tch_row rfl _)) (z_tch_row rfl _)) (z_tch_row rfl _)
  have dif : ∀ ρ2 η2, ρ2 < R → η2 < H → ¬ (ρ2 = ρ ∧ η2 = η) → ρ2 * H + η2 ≠ ρ * H + η ∧ η2 * 8 + ρ2 ≠ η * 8 + ρ := by
    intro ρ2 η2 k1 k2 k3
    refine ⟨fun e => k3 (zc_inj k2 hη e), fun e => k3 ?_⟩
    have := zc_inj (H := 8) (show ρ2 < 8 by omega) (show ρ < 8 by omega) e
    exact ⟨this.2, this.1⟩
  refine ⟨rDim_fr q1 ag (z_apart (by decide)) ah (z_apart (by decide)), rFix_fr q2 ag (z_apart (by decide)), ?_, ?_, ?_, rScal_fr q6 ag (z_apart (by decide)) ah (z_apart (by decide)), rHoles_fr q7 ag (z_apart (by decide)) ah (z_apart (by decide)), rHours_fr q8 ag (z_apart (by decide)) ah (z_apart (by decide)), rActs_fr q9 ag (z_apart (by decide)) ah (z_apart (by decide)), ?_, ?_, rRules_fr q12 ag (z_apart (by decide)) ah (z_apart (by decide))⟩
  · obtain ⟨p10, p11, p12, p13, p14, p15, p16, p17, p18, p19⟩ := q3
    refine ⟨?_, ?_, ?_, ?_, ?_, ?_, ?_, ?_, ?_, ?_⟩ <;> (intro ρ2 η2 k1 k2; by_cases e : ρ2 = ρ ∧ η2 = η)
    all_goals try (obtain ⟨rfl, rfl⟩ := e; simp [gLay, hLay, z_up_at]; done)
    · have n := dif _ _ k1 k2 e; simp [gLay, hLay, z_up_at, n.1, n.2, p10 _ _ k1 k2]
    · have n := dif _ _ k1 k2 e; simp [gLay, hLay, z_up_at, n.1, n.2, p11 _ _ k1 k2]
    · have n := dif _ _ k1 k2 e; simp [gLay, hLay, z_up_at, n.1, n.2, p12 _ _ k1 k2]
    · have n := dif _ _ k1 k2 e; simp [gLay, hLay, z_up_at, n.1, n.2, p13 _ _ k1 k2]
    · obtain ⟨rfl, rfl⟩ := e; simp [gLay, hLay, z_up_at, p14 _ _ k1 k2]
    · have n := dif _ _ k1 k2 e; simp [gLay, hLay, z_up_at, n.1, n.2, p14 _ _ k1 k2]
    · obtain ⟨rfl, rfl⟩ := e; simp [gLay, hLay, z_up_at, p15 _ _ k1 k2]
    · have n := dif _ _ k1 k2 e; simp [gLay, hLay, z_up_at, n.1, n.2, p15 _ _ k1 k2]
    · obtain ⟨rfl, rfl⟩ := e; simp [gLay, hLay, z_up_at, p16 _ _ k1 k2]
    · have n := dif _ _ k1 k2 e; simp [gLay, hLay, z_up_at, n.1, n.2, p16 _ _ k1 k2]
    · have n := dif _ _ k1 k2 e; simp [gLay, hLay, z_up_at, n.1, n.2, p17 _ _ k1 k2]
    · have n := dif _ _ k1 k2 e; simp [gLay, hLay, z_up_at, n.1, n.2, p18 _ _ k1 k2]
    · obtain ⟨rfl, rfl⟩ := e; simp [gLay, hLay, z_up_at, p19 _ _ k1 k2]
    · have n := dif _ _ k1 k2 e; simp [gLay, hLay, z_up_at, n.1, n.2, p19 _ _ k1 k2]
  · have out : ∀ c, ¬ (c % 8 < R ∧ c / 8 < H) → c ≠ η * 8 + ρ := by
      intro c k1 e
      subst e
      rw [zc_mod (by omega), zc_div (by omega)] at k1
      exact k1 ⟨hρ, hη⟩
    obtain ⟨z1, z2, z5, z7⟩ := q4
    refine ⟨?_, ?_, ?_, ?_⟩ <;> intro c k1 k2 <;> have n := out c k2
    · simp [hLay, z_up_at, n, z1 c k1 k2]
    · simp [hLay, z_up_at, n, z2 c k1 k2]
    · simp [hLay, z_up_at, n, z5 c k1 k2]
    · simp [hLay, z_up_at, n, z7 c k1 k2]
  · intro ρ2 η2 k1 k2
    by_cases e : ρ2 = ρ ∧ η2 = η
    · obtain ⟨rfl, rfl⟩ := e
      obtain ⟨v1, v2, v3, v4, v5, v6, v7⟩ := q5 ρ2 η2 k1 k2
      have hf := (q10 hl).2.2.2.2 ρ2 η2 k1 k2
      have hf14 : g 14 (ρ2 * H + η2) = 0 := hf.2.2.2.2.1
      have e14 : gLay g (ρ2 * H + η2) k ρ2 14 (ρ2 * H + η2) = 0 := by simp [gLay, z_up_at, hf14]
      have e15 : gLay g (ρ2 * H + η2) k ρ2 15 (ρ2 * H + η2) = g 15 (ρ2 * H + η2) := by simp [gLay, z_up_at]
      have e19 : gLay g (ρ2 * H + η2) k ρ2 19 (ρ2 * H + η2) = g 19 (ρ2 * H + η2) := by simp [gLay, z_up_at]
      rw [e14, e15, e19]
      refine ⟨⟨k, hk, by simp [gLay, z_up_at]⟩, Or.inl rfl, v3, ⟨100 * (2 * ρ2 + 1), 0, by omega, by simp [gLay, z_up_at], by simp [gLay, z_up_at]; rfl⟩, ⟨0, by omega, by simp [gLay, z_up_at]; rfl, fun h => absurd h (by decide)⟩, Or.inr (by simp [gLay, z_up_at]), v7⟩
    · have n := dif _ _ k1 k2 e
      have := q5 ρ2 η2 k1 k2
      simpa [gLay, z_up_at, n.1] using this
  · intro hl2
    obtain ⟨t1, t2, t3, t4, t5⟩ := q10 hl
    refine ⟨by rw [ag 3 0 rfl, t1], by rw [ag 3 7 rfl, t2], by rw [ag 1 2 rfl, t3], by rw [ag 1 3 rfl, t4], fun ρ2 η2 k1 k2 => ?_⟩
    by_cases e : ρ2 = ρ ∧ η2 = η
    · obtain ⟨rfl, rfl⟩ := e
      obtain ⟨v1, v2, v3, v4, v5, v6, v7⟩ := t5 ρ2 η2 k1 k2
      have p : (0 : Int32) < nI (100 * (2 * ρ2 + 1)) := nI_lt (a := 0) (by omega) (by omega)
      simp [gLay, kDampOf, z_up_at, v5, v6, v7, p, (q2 ρ2 η2 k1 k2).1, nI_clamp (show k < 2 ^ 31 by omega)]
    · have n := dif _ _ k1 k2 e
      have := t5 ρ2 η2 k1 k2
      simpa [gLay, kDampOf, z_up_at, n.1] using this
  · intro hl2
    rw [ag 0 7 rfl, hl] at hl2
    exact absurd hl2 (by decide)
theorem zn_kind {a : Int32} : (a < 0 ∨ 3 < a) ↔ ¬ ∃ k : Nat, k < 4 ∧ a = nI k := by
  constructor
  · rintro (h | h) ⟨k, hk, rfl⟩
    · exact nI_pos (by omega) h
    · have := (nI_ltI (a := 3) (b := k) (by omega) (by omega)).mp h
      omega
  · intro h
    by_cases c : a < 0
    · exact Or.inl c
    · obtain ⟨k, hk, e⟩ := nI_of c
      refine Or.inr ?_
      rw [e]
      exact nI_lt (a := 3) (b := k) (by
        rcases Nat.lt_or_ge k 4 with h4 | h4
        · exact absurd ⟨k, h4, e⟩ h
        · omega) hk
theorem y_isKind (a : Int32) (g : z_G) : fY_X2_isKind a g = some (if a < 0 ∨ 3 < a then 0 else 1, g) := by
  unfold fY_X2_isKind fY_X2_isKind_16 fY_X2_isKind_17
  by_cases c1 : a < 0
  · simp [c1, z_bo_0]
  · have c3 : (4 : Int32) ≤ a ↔ 3 < a := by
      rw [fa_le, fa_lt, show (4 : Int32).toInt = 4 from by decide, show (3 : Int32).toInt = 3 from by decide]; omega
    by_cases c2 : 3 < a
    · have c4 := c3.mpr c2
      simp [c1, c2, c4, z_bo_0]
    · have c4 := mt c3.mp c2
      simp [c1, c2, c4, z_bo_1]
theorem sim_lay : z_sim3 rel fY_X7_lay fM_X8_lay := by
  intro a0 a1 a2 g h hr
  have hr0 := rel_thrown hr 0
  obtain ⟨R, H, hA⟩ := hr0.1
  obtain ⟨⟨-, hR, -, hH⟩, e1, e2, -, e4, e5⟩ := id hA.1
  have s3 : g 0 7 = z_up h 0 0 0 0 20 := hA.2.2.2.2.2.1.2.2.1
  have key : ∀ (r : Int32) (g' h' : z_G), fY_X7_lay a0 a1 a2 g = some (r, g') → fM_X8_lay a0 a1 a2 h = some (r, h') → rAll R H g' h' → ∃ (r : Int32) (g' h' : z_G), fY_X7_lay a0 a1 a2 g = some (r, g') ∧ fM_X8_lay a0 a1 a2 h = some (r, h') ∧ rel g' h' := fun r g' h' u v w => ⟨r, g', h', u, v, ⟨R, H, w⟩, rWood_fr hr.2.1 (frY_X7_lay _ _ _ _ _ _ u) (z_apart (by decide)) (frM_X8_lay _ _ _ _ _ _ v) (z_apart (by decide)), rTape_fr hr.2.2 (frY_X7_lay _ _ _ _ _ _ u) (z_apart (by decide)) (frM_X8_lay _ _ _ _ _ _ v) (z_apart (by decide))⟩
  by_cases c : g 0 7 = 0
  · have c2 : z_up h 0 0 0 0 20 = 0 := by rw [← s3]; exact c
    rcases y_holds e1 e2 a0 a1 with ⟨n, y1⟩ | ⟨n, y1⟩
    · rcases m_isCell hR hH e4 e5 a0 a1 with ⟨-, m1⟩ | ⟨n2, -⟩
      · refine key (-1) g _ ?_ ?_ hA
        · simp [fY_X7_lay, fY_X7_lay_26, c, y1, z_bind_some]
        · simp [fM_X8_lay, fM_X8_lay_33, z_let_eq, m1, z_bind_some]
      · exact absurd n n2
    · rcases m_isCell hR hH e4 e5 a0 a1 with ⟨n2, -⟩ | ⟨-, m1⟩
      · exact absurd n2 n
      · obtain ⟨ρ, η, h1, h2, -, -, i1, i2, l1, l2⟩ := zn_cell hR hH n
        by_cases k : a2 < 0 ∨ 3 < a2
        · refine key (-1) g _ ?_ ?_ hA
          · simp [fY_X7_lay, fY_X7_lay_26, c, y1, z_bind_some, y_isKind, k]
          · simp [fM_X8_lay, fM_X8_lay_33, z_let_eq, m1, z_bind_some, m_in_0_3, k]
        · obtain ⟨k9, hk9, ek⟩ := Classical.not_not.mp (mt zn_kind.mpr k)
          obtain ⟨x, u, v, w⟩ := r_lay hA c h1 h2 hk9
          refine key x _ _ ?_ ?_ w
          · simp [fY_X7_lay, fY_X7_lay_26, c, y1, z_bind_some, y_isKind, k, fY_X2_at, e2, i1]
            simp [ek, u, z_bind_some]
          · simp [fM_X8_lay, fM_X8_lay_33, z_let_eq, m1, z_bind_some, m_in_0_3, k, c2, i2]
            simp [ek, v, z_bind_some]
  · have c2 : ¬ z_up h 0 0 0 0 20 = 0 := by rw [← s3]; exact c
    refine key (-1) g (z_up h 0 0 0) ?_ ?_ hA
    · simp [fY_X7_lay, fY_X7_lay_26, c]
    · rcases m_isCell hR hH e4 e5 a0 a1 with ⟨-, m1⟩ | ⟨-, m1⟩
      · simp [fM_X8_lay, fM_X8_lay_33, z_let_eq, m1, z_bind_some]
      · by_cases k : a2 < 0 ∨ 3 < a2
        · simp [fM_X8_lay, fM_X8_lay_33, z_let_eq, m1, z_bind_some, m_in_0_3, k]
        · simp [fM_X8_lay, fM_X8_lay_33, z_let_eq, m1, z_bind_some, m_in_0_3, k, c2]
/-- a row of entries -/
def kNar (x kind : Int32) : Int32 := if kind = 0 then x.toInt8.toInt32 else if kind = 1 then x.toInt16.toInt32 else x
theorem y_narrowed (x kind : Int32) (g : z_G) : fY_X7_narrowed x kind g = some (kNar x kind, g) := by
  unfold fY_X7_narrowed fY_X7_narrowed_18 kNar
  by_cases c1 : kind = 0
  · simp [c1]
  · by_cases c2 : kind = 1 <;> simp [c1, c2]
theorem r_layRow_step {R H : Nat} {η : Nat} (hη : η < H) (kind n f st : Int32) (k1 k2 : Int32 × Int32 × Int32 × Int32 × Int32 × Int32 × z_G → Option (Int32 × z_G)) (j : Nat) (g h : z_G) (hA : rAll R H g h) (hl : g 0 7 = 0) (hj9 : j ≤ R) : (fY_X7_layRow_57 k1 (nI η) kind n st (nI j) (f + nI j * st) g = some (nI j, g) ∧ fM_X8_layRow_65 k2 (nI η) kind n f st (nI j) h = some (nI j, h)) ∨ (j < R ∧ ∃ g1 h1 : z_G, fY_X7_layRow_57 k1 (nI η) kind n st (nI j) (f + nI j * st) g = k1 (nI η, kind, n, st, nI (j + 1), f + nI (j + 1) * st, g1) ∧ fM_X8_layRow_65 k2 (nI η) kind n f st (nI j) h = k2 (nI η, kind, n, f, st, nI (j + 1), h1) ∧ rAll R H g1 h1 ∧ g1 0 7 = 0) := by
  obtain ⟨⟨-, hR, -, hH⟩, e1, e2, -, e4, e5⟩ := id hA.1
  unfold fY_X7_layRow_57 fY_X7_layRow_124 fM_X8_layRow_65 fM_X8_layRow_152 fM_X8_layRow_113
  rw [e1, e4]
  by_cases c1 : n ≤ nI j
  · exact Or.inl ⟨by rw [if_pos c1], by rw [if_pos c1]⟩
  rw [if_neg c1, if_neg c1]
  by_cases c2 : nI R ≤ nI j
  · exact Or.inl ⟨by rw [if_pos c2], by rw [if_pos c2]⟩
  rw [if_neg c2, if_neg c2]
  have hj : j < R := by
    rcases Nat.lt_or_ge j R with h9 | h9
    · exact h9
    · exact absurd (nI_le h9 (by omega)) c2
  simp only [z_let_eq, y_narrowed, z_bind_some, y_isKind, m_in_0_3]
  have hm : ∀ (A B C : Option (Int32 × z_G)) (P : Int32 → Option (Int32 × z_G)), A = P (f + nI j * st).toInt8.toInt32 → B = P (f + nI j * st).toInt16.toInt32 → C = P (f + nI j * st) → (if kind = 0 then A else if kind = 1 then B else C) = P (kNar (f + nI j * st) kind) := by
    intro A B C P hA hB hC
    unfold kNar
    by_cases k0 : kind = 0
    · rw [if_pos k0, if_pos k0, hA]
    · by_cases k1 : kind = 1
      · rw [if_neg k0, if_neg k0, if_pos k1, if_pos k1, hB]
      · rw [if_neg k0, if_neg k0, if_neg k1, if_neg k1, hC]
  rw [hm _ _ _ (fun s0 => if (if s0 < 0 ∨ 3 < s0 then (0 : Int32) else 1) = 0 then some (nI j, h) else z_bind (fM_X8_lays (nI η * 8 + nI j) s0 h) fun r5 g6 => k2 (nI η, kind, n, f, st, nI j + 1, g6)) rfl rfl rfl]
  generalize kNar (f + nI j * st) kind = v
  by_cases k : v < 0 ∨ 3 < v
  · exact Or.inl ⟨by simp [k], by simp [k]⟩
  · obtain ⟨k9, hk9, ek⟩ := Classical.not_not.mp (mt zn_kind.mpr k)
    obtain ⟨x, u, v1, w⟩ := r_lay hA hl hj hη hk9
    have i1 : nI j * nI H + nI η = nI (j * H + η) := by rw [pk_mul, nI_add]
    have i2 : nI η * 8 + nI j = nI (η * 8 + j) := by rw [show (8 : Int32) = nI 8 from rfl, pk_mul, nI_add]
    have i3 : f + nI j * st + st = f + nI (j + 1) * st := by
      rw [← nI_1, Int32.add_mul, Int32.one_mul, Int32.add_assoc]
    refine Or.inr ⟨hj, _, _, ?_, ?_, w, by simp [gLay, z_up_at, hl]⟩
    · simp only [k, if_false, fY_X2_at, e2, z_bind_some, i1]
      rw [if_neg (by decide), ek, u, z_bind_some, nI_1, i3]
    · simp only [k, if_false, i2]
      rw [if_neg (by decide), ek, v1, z_bind_some, nI_1]
theorem r_layRow {R H : Nat} {η : Nat} (hη : η < H) (kind n f st : Int32) : ∀ (d j fu1 fu2 : Nat) (g h : z_G), j + d = R → d < fu1 → d < fu2 → rAll R H g h → g 0 7 = 0 → ∃ (r : Int32) (g' h' : z_G), z_loop (fun k (w : Int32 × Int32 × Int32 × Int32 × Int32 × Int32 × z_G) => fY_X7_layRow_57 k w.1 w.2.1 w.2.2.1 w.2.2.2.1 w.2.2.2.2.1 w.2.2.2.2.2.1 w.2.2.2.2.2.2) fu1 (nI η, kind, n, st, nI j, f + nI j * st, g) = some (r, g') ∧ z_loop (fun k (w : Int32 × Int32 × Int32 × Int32 × Int32 × Int32 × z_G) => fM_X8_layRow_65 k w.1 w.2.1 w.2.2.1 w.2.2.2.1 w.2.2.2.2.1 w.2.2.2.2.2.1 w.2.2.2.2.2.2) fu2 (nI η, kind, n, f, st, nI j, h) = some (r, h') ∧ rAll R H g' h'
  | _, _, 0, _, _, _, _, hf, _, _, _ => absurd hf (Nat.not_lt_zero _)
  | _, _, _, 0, _, _, _, _, hf, _, _ => absurd hf (Nat.not_lt_zero _)
  | d, j, f1 + 1, f2 + 1, g, h, hd, hf1, hf2, hA, hl => by
    rcases r_layRow_step hη kind n f st (z_loop (fun k (w : Int32 × Int32 × Int32 × Int32 × Int32 × Int32 × z_G) => fY_X7_layRow_57 k w.1 w.2.1 w.2.2.1 w.2.2.2.1 w.2.2.2.2.1 w.2.2.2.2.2.1 w.2.2.2.2.2.2) f1) (z_loop (fun k (w : Int32 × Int32 × Int32 × Int32 × Int32 × Int32 × z_G) => fM_X8_layRow_65 k w.1 w.2.1 w.2.2.1 w.2.2.2.1 w.2.2.2.2.1 w.2.2.2.2.2.1 w.2.2.2.2.2.2) f2) j g h hA hl (by omega) with ⟨u, v⟩ | ⟨hj, g1, h1, u, v, w, w0⟩
    · exact ⟨nI j, g, h, u, v, hA⟩
    · obtain ⟨r, g', h', t1, t2, t3⟩ := r_layRow hη kind n f st (d - 1) (j + 1) f1 f2 g1 h1 (by omega) (by omega) (by omega) w w0
      exact ⟨r, g', h', u.trans t1, v.trans t2, t3⟩
theorem sim_layRow : z_sim5 rel fY_X7_layRow fM_X8_layRow := by
  intro a0 a1 a2 a3 a4 g h hr
  have hr0 := rel_thrown hr 0
  obtain ⟨R, H, hA⟩ := hr0.1
  obtain ⟨⟨hR0, hR, -, hH⟩, e1, e2, -, e4, e5⟩ := id hA.1
  have s3 : g 0 7 = z_up h 0 0 0 0 20 := hA.2.2.2.2.2.1.2.2.1
  have key : ∀ (r : Int32) (g' h' : z_G), fY_X7_layRow a0 a1 a2 a3 a4 g = some (r, g') → fM_X8_layRow a0 a1 a2 a3 a4 h = some (r, h') → rAll R H g' h' → ∃ (r : Int32) (g' h' : z_G), fY_X7_layRow a0 a1 a2 a3 a4 g = some (r, g') ∧ fM_X8_layRow a0 a1 a2 a3 a4 h = some (r, h') ∧ rel g' h' := fun r g' h' u v w => ⟨r, g', h', u, v, ⟨R, H, w⟩, rWood_fr hr.2.1 (frY_X7_layRow _ _ _ _ _ _ _ _ u) (z_apart (by decide)) (frM_X8_layRow _ _ _ _ _ _ _ _ v) (z_apart (by decide)), rTape_fr hr.2.2 (frY_X7_layRow _ _ _ _ _ _ _ _ u) (z_apart (by decide)) (frM_X8_layRow _ _ _ _ _ _ _ _ v) (z_apart (by decide))⟩
  have hm : ∀ x : Int32, (if x < 0 ∨ nI H - 1 < x then (0 : Int32) else 1) = if x < 0 ∨ nI H ≤ x then 0 else 1 := fun x => by simp only [zn_pred (show H < 2 ^ 30 by omega)]
  have hY : fY_X2_holds 0 a0 g = some (if a0 < 0 ∨ nI H ≤ a0 then 0 else 1, g) := by
    have r0 : ¬ nI R ≤ 0 := nI_nle (by omega) (by omega)
    rcases y_holds e1 e2 0 a0 with ⟨n, y1⟩ | ⟨n, y1⟩
    · rw [y1]
      rcases n with n | n | n | n
      · exact absurd n (by decide)
      · exact absurd n r0
      · rw [if_pos (Or.inl n)]
      · rw [if_pos (Or.inr n)]
    · rw [y1, if_neg (fun q => n (q.elim (fun q => Or.inr (Or.inr (Or.inl q))) (fun q => Or.inr (Or.inr (Or.inr q)))))]
  by_cases c : g 0 7 = 0
  · have c2 : z_up h 0 0 0 0 20 = 0 := by rw [← s3]; exact c
    by_cases n : a0 < 0 ∨ nI H ≤ a0
    · refine key (-1) g _ ?_ ?_ hA
      · simp [fY_X7_layRow, fY_X7_layRow_34, c, hY, z_bind_some, n]
      · simp only [fM_X8_layRow, fM_X8_layRow_46, z_let_eq, m_in_0, z_bind_some, e5, hm]
        simp [n]
    obtain ⟨η, hη, eη⟩ := zn_place (by omega) n
    by_cases k : a1 < 0 ∨ 3 < a1
    · refine key (-1) g _ ?_ ?_ hA
      · rcases k with k | k
        · simp [fY_X7_layRow, fY_X7_layRow_34, c, hY, z_bind_some, n, k]
        · by_cases k2 : a1 < 0 <;> simp [fY_X7_layRow, fY_X7_layRow_34, c, hY, z_bind_some, n, k, k2]
      · simp only [fM_X8_layRow, fM_X8_layRow_46, z_let_eq, m_in_0, m_in_0_3, z_bind_some, e5, hm]
        simp [n, k]
    have k1 : ¬ a1 < 0 := fun q => k (Or.inl q)
    have k2 : ¬ 3 < a1 := fun q => k (Or.inr q)
    by_cases c3 : a2 ≤ 20
    · have c4 : ¬ 20 < a2 := zn_nlt.mpr c3
      by_cases c5 : a1 = 3
      · refine key 0 g _ ?_ ?_ hA
        · have k1' : ¬ (3 : Int32) < 0 := by decide
          have k2' : ¬ (3 : Int32) < 3 := by decide
          simp [fY_X7_layRow, fY_X7_layRow_34, c, hY, z_bind_some, n, c3, c5, k1', k2']
        · have k3' : ¬ ((3 : Int32) < 0 ∨ (3 : Int32) < 3) := by decide
          simp only [fM_X8_layRow, fM_X8_layRow_46, z_let_eq, m_in_0, m_in_0_3, z_bind_some, e5, hm, c5]
          simp [n, c4, c2, k3']
      by_cases c6 : 0 ≤ a2
      · obtain ⟨r, g', h', t1, t2, t3⟩ := r_layRow hη a1 a2 a3 a4 R 0 z_fuel z_fuel g (z_up h 0 0 0) (by omega) (z_fuel_big (by omega)) (z_fuel_big (by omega)) hA c
        have i0 : a3 + nI 0 * a4 = a3 := by rw [nI_0, Int32.zero_mul, Int32.add_zero]
        rw [i0] at t1
        refine key r g' h' ?_ ?_ t3
        · unfold fY_X7_layRow
          rw [if_pos c, hY, z_bind_some, if_neg n, if_neg (by decide), if_neg k1, if_neg k2, if_pos c3, if_neg c5, if_pos c6, eη, ← nI_0]
          exact t1
        · unfold fM_X8_layRow
          rw [z_let_eq, e5, m_in_0, z_bind_some, hm, if_neg n, if_neg (by decide), m_in_0_3, z_bind_some, if_neg k, if_neg (by decide), if_neg c4, if_pos c2, if_neg c5, if_pos c6, eη, ← nI_0]
          exact t2
      · refine key (-2) g _ ?_ ?_ hA
        · simp [fY_X7_layRow, fY_X7_layRow_34, c, hY, z_bind_some, n, k1, k2, c3, c5, c6]
        · simp only [fM_X8_layRow, fM_X8_layRow_46, z_let_eq, m_in_0, m_in_0_3, z_bind_some, e5, hm]
          simp [n, k, c4, c2, c5, c6]
    · have c4 : 20 < a2 := zn_nle.mp c3
      refine key (-1) g _ ?_ ?_ hA
      · simp [fY_X7_layRow, fY_X7_layRow_34, c, hY, z_bind_some, n, k1, k2, c3]
      · simp only [fM_X8_layRow, fM_X8_layRow_46, z_let_eq, m_in_0, m_in_0_3, z_bind_some, e5, hm]
        simp [n, k, c4]
  · have c2 : ¬ z_up h 0 0 0 0 20 = 0 := by rw [← s3]; exact c
    refine key (-1) g (z_up h 0 0 0) ?_ ?_ hA
    · simp [fY_X7_layRow, fY_X7_layRow_34, c]
    · simp only [fM_X8_layRow, fM_X8_layRow_46, z_let_eq, m_in_0, m_in_0_3, z_bind_some, e5, hm]
      by_cases n : a0 < 0 ∨ nI H ≤ a0
      · simp [n]
      · by_cases k : a1 < 0 ∨ 3 < a1
        · simp [n, k]
        · by_cases c4 : 20 < a2 <;> simp [n, k, c4, c2]
