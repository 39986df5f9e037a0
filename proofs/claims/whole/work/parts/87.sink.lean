/-! sinking, rain, bare cells, the thinnest cover -/
def kSk (g : z_G) (i : Nat) : Prop := ¬ g 9 i = 0 ∧ ¬ g 15 i ≤ 0 ∧ ¬ g 17 i ≤ 2 * (g 10 i + 2 * g 11 i)
theorem y_sink {g : z_G} {N : Nat} (hN : N ≤ 64) (e3 : g 1 4 = nI N) (hr : Int32) : ∃ g' : z_G, fY_X2_sink hr g = some (0, g') ∧ ∀ i, i < N → (kSk g i → g' 15 i = g 15 i - 1 ∧ g' 19 i = if g 15 i - 1 = 0 ∧ g 19 i = -1 then hr else g 19 i) ∧ (¬ kSk g i → g' 15 i = g 15 i ∧ g' 19 i = g 19 i) := by
  unfold fY_X2_sink fY_X2_sink_2_go
  have key := z_pfor (step := fun k (w : Int32 × Int32 × z_G) => fY_X2_sink_2 k w.1 w.2.1 w.2.2) (fun j s => (hr, nI j, s)) (fun s => some (0, s)) N (z_fuel_big (by omega)) (fun j s => z_ag (z_tch [15, 19] []) g s ∧ (∀ i, j ≤ i → s 15 i = g 15 i ∧ s 19 i = g 19 i) ∧ ∀ i, i < j → (kSk g i → s 15 i = g 15 i - 1 ∧ s 19 i = if g 15 i - 1 = 0 ∧ g 19 i = -1 then hr else g 19 i) ∧ (¬ kSk g i → s 15 i = g 15 i ∧ s 19 i = g 19 i)) (fun k j s hj hp => ?_) (fun k s hp => ?_) g ⟨fr_rf, fun i _ => ⟨rfl, rfl⟩, fun i hi => absurd hi (Nat.not_lt_zero i)⟩
  · obtain ⟨s', u1, u2, u3, u4⟩ := key
    exact ⟨s', u1, u4⟩
  · obtain ⟨p1, p2, p3⟩ := hp
    have d3 : vp_in (nI j) 64 := vp_in_nI (by omega) (by omega)
    have d4 : (nI j).toNatClampNeg = j := nI_clamp (by omega)
    obtain ⟨y15, y19⟩ := p2 j (Nat.le_refl j)
    have skip : ∀ t : z_G, fY_X2_sink_90 k hr (nI j) t = k (hr, nI (j + 1), t) := by
      intro t
      unfold fY_X2_sink_90
      rw [z_let_eq, nI_1]
    have keep : ¬ kSk g j → ∃ s' : z_G, fY_X2_sink_2 k hr (nI j) s = k (hr, nI (j + 1), s') ∧ z_ag (z_tch [15, 19] []) g s' ∧ (∀ i, j + 1 ≤ i → s' 15 i = g 15 i ∧ s' 19 i = g 19 i) ∧ ∀ i, i < j + 1 → (kSk g i → s' 15 i = g 15 i - 1 ∧ s' 19 i = if g 15 i - 1 = 0 ∧ g 19 i = -1 then hr else g 19 i) ∧ (¬ kSk g i → s' 15 i = g 15 i ∧ s' 19 i = g 19 i) := by
      intro nc
      refine ⟨s, ?_, p1, fun i hi => p2 i (by omega), fun i hi => ?_⟩
      · unfold fY_X2_sink_2
        rw [p1 1 4 rfl, e3, if_neg (zn_stop (show N < 2 ^ 31 by omega) hj), z_ck_in _ d3, d4, p1 9 j rfl]
        by_cases c1 : g 9 j = 0
        · rw [if_pos c1, skip]
        · rw [if_neg c1, z_ck_in _ d3, y15]
          by_cases c2 : g 15 j ≤ 0
          · rw [if_pos c2, skip]
          · rw [if_neg c2, z_ck_in _ d3, z_ck_in _ d3, z_ck_in _ d3, p1 17 j rfl, p1 10 j rfl, p1 11 j rfl]
            by_cases c3 : g 17 j ≤ 2 * (g 10 j + 2 * g 11 j)
            · rw [if_pos c3, skip]
            · exact absurd ⟨c1, c2, c3⟩ nc
      · by_cases e : i = j
        · subst e
          exact ⟨fun q => absurd q nc, fun _ => ⟨y15, y19⟩⟩
        · exact p3 i (by omega)
    by_cases c : kSk g j
    · obtain ⟨c1, c2, c3⟩ := id c
      have st : fY_X2_sink_2 k hr (nI j) s = k (hr, nI (j + 1), z_up (z_up s 15 j (g 15 j - 1)) 19 j (if g 15 j - 1 = 0 ∧ g 19 j = -1 then hr else g 19 j)) := by
        unfold fY_X2_sink_2
        rw [p1 1 4 rfl, e3, if_neg (zn_stop (show N < 2 ^ 31 by omega) hj), z_ck_in _ d3, d4, p1 9 j rfl, if_neg c1, z_ck_in _ d3, y15, if_neg c2, z_ck_in _ d3, z_ck_in _ d3, z_ck_in _ d3, p1 17 j rfl, p1 10 j rfl, p1 11 j rfl, if_neg c3, z_ck_in _ d3, z_ck_in _ d3, z_let_eq, z_ck_in _ d3, z_up_same, z_ck_in _ d3, z_up_row _ _ _ _ (show 19 ≠ 15 by decide), y19, z_ck_in _ d3, z_let_eq, skip, skip]
        by_cases c4 : g 15 j - 1 = 0
        · rw [if_pos c4]
          by_cases c5 : g 19 j = -1
          · rw [if_pos c5, if_pos ⟨c4, c5⟩]
          · rw [if_neg c5, if_neg (fun q => c5 q.2), z_up_id (s := z_up s 15 j (g 15 j - 1)) (r := 19) (i := j) (x := g 19 j) (by rw [z_up_row _ _ _ _ (show 19 ≠ 15 by decide)]; exact y19)]
        · rw [if_neg c4, if_neg (fun q => c4 q.1), z_up_id (s := z_up s 15 j (g 15 j - 1)) (r := 19) (i := j) (x := g 19 j) (by rw [z_up_row _ _ _ _ (show 19 ≠ 15 by decide)]; exact y19)]
      refine ⟨_, st, fr_up (fr_up p1 rfl) rfl, fun i hi => ?_, fun i hi => ?_⟩
      · have e : i ≠ j := by omega
        rw [z_up_row _ _ _ _ (show 15 ≠ 19 by decide), z_up_at, if_neg (fun q => e q.2), z_up_at, if_neg (fun q => e q.2), z_up_row _ _ _ _ (show 19 ≠ 15 by decide)]
        exact p2 i (by omega)
      · by_cases e : i = j
        · subst e
          exact ⟨fun _ => ⟨by rw [z_up_row _ _ _ _ (show 15 ≠ 19 by decide), z_up_same], by rw [z_up_same]⟩, fun q => absurd c q⟩
        · rw [z_up_row _ _ _ _ (show 15 ≠ 19 by decide), z_up_at, if_neg (fun q => e q.2), z_up_at, if_neg (fun q => e q.2), z_up_row _ _ _ _ (show 19 ≠ 15 by decide)]
          exact p3 i (by omega)
    · exact keep c
  · show fY_X2_sink_2 k hr (nI N) s = _
    unfold fY_X2_sink_2
    rw [hp.1 1 4 rfl, e3, if_pos (nI_le (Nat.le_refl N) (by omega))]
def mSk (R H : Nat) (h : z_G) (c : Nat) : Prop := (c % 8 < R ∧ c / 8 < H) ∧ (c % 8 + 1 = R ∨ c / 8 + 1 = H) ∧ ¬ h 7 c ≤ 0 ∧ ¬ h 7 c ≤ 2 * (h 1 c + 2 * h 2 c) ∧ ¬ h 8 c ≤ 0
theorem m_sink {R H : Nat} (b : 1 ≤ R ∧ R ≤ 8 ∧ 1 ≤ H ∧ H ≤ 8) {h : z_G} (e4 : h 0 1 = nI R) (e5 : h 0 2 = nI H) : ∃ h' : z_G, fM_X8_sinks h = some (0, h') ∧ ∀ c, c < 64 → (mSk R H h c → h' 8 c = h 8 c - 1 ∧ h' 10 c = if h 8 c - 1 = 0 ∧ ¬ 0 ≤ h 10 c then h 0 21 else h 10 c) ∧ (¬ mSk R H h c → h' 8 c = h 8 c ∧ h' 10 c = h 10 c) := by
  unfold fM_X8_sinks fM_X8_sinks_2_go
  have key := z_pfor (step := fun k (w : Int32 × z_G) => fM_X8_sinks_2 k w.1 w.2) (fun j s => (nI j, s)) (fun s => some (0, s)) 64 (z_fuel_big (by omega)) (fun j s => z_ag (z_tch [8, 10] []) h s ∧ (∀ i, j ≤ i → s 8 i = h 8 i ∧ s 10 i = h 10 i) ∧ ∀ c, c < j → (mSk R H h c → s 8 c = h 8 c - 1 ∧ s 10 c = if h 8 c - 1 = 0 ∧ ¬ 0 ≤ h 10 c then h 0 21 else h 10 c) ∧ (¬ mSk R H h c → s 8 c = h 8 c ∧ s 10 c = h 10 c)) (fun k j s hj hp => ?_) (fun k s hp => ?_) h ⟨fr_rf, fun i _ => ⟨rfl, rfl⟩, fun i hi => absurd hi (Nat.not_lt_zero i)⟩
  · obtain ⟨s', u1, u2, u3, u4⟩ := key
    exact ⟨s', u1, u4⟩
  · obtain ⟨p1, p2, p3⟩ := hp
    have d3 : vp_in (nI j) 64 := vp_in_nI (by omega) (by omega)
    have d4 : (nI j).toNatClampNeg = j := nI_clamp (by omega)
    have x4 := (p1 0 1 rfl).trans e4
    have x5 := (p1 0 2 rfl).trans e5
    obtain ⟨y8, y10⟩ := p2 j (Nat.le_refl j)
    have skip : ∀ t : z_G, fM_X8_sinks_115 k (nI j) t = k (nI (j + 1), t) := by
      intro t
      unfold fM_X8_sinks_115
      rw [z_let_eq, nI_1]
    by_cases c : mSk R H h j
    · obtain ⟨c1, c2, c3, c4, c5⟩ := id c
      have st : fM_X8_sinks_2 k (nI j) s = k (nI (j + 1), z_up (z_up s 8 j (h 8 j - 1)) 10 j (if h 8 j - 1 = 0 ∧ ¬ 0 ≤ h 10 j then h 0 21 else h 10 j)) := by
        unfold fM_X8_sinks_2 fM_X8_sinks_108 fM_X8_sinks_114
        rw [if_neg (zn_64 hj), m_isInside b x4 x5 hj, z_bind_nd, if_pos c1, if_neg (by decide), m_isOutside b x4 x5 hj, z_bind_nd, if_pos c2, if_neg (by decide), z_ck_in _ d3, d4, p1 7 j rfl, if_neg c3, z_ck_in _ d3, z_ck_in _ d3, z_ck_in _ d3, p1 1 j rfl, p1 2 j rfl, if_neg c4, z_ck_in _ d3, y8, if_neg c5, z_ck_in _ d3, z_ck_in _ d3, z_let_eq, z_ck_in _ d3, z_up_same, z_ck_in _ d3, z_up_row _ _ _ _ (show 10 ≠ 8 by decide), y10, z_up_row _ _ _ _ (show 0 ≠ 8 by decide), p1 0 21 rfl, z_ck_in _ d3, z_ck_in _ d3, z_let_eq, z_ck_in _ d3, z_let_eq, skip, skip]
        by_cases c6 : h 8 j - 1 = 0
        · rw [if_pos c6]
          by_cases c7 : 0 ≤ h 10 j
          · rw [if_pos c7, if_neg (fun q => q.2 c7)]
          · rw [if_neg c7, if_pos ⟨c6, c7⟩]
        · rw [if_neg c6, if_neg (fun q => c6 q.1)]
      refine ⟨_, st, fr_up (fr_up p1 rfl) rfl, fun i hi => ?_, fun i hi => ?_⟩
      · have e : i ≠ j := by omega
        rw [z_up_row _ _ _ _ (show 8 ≠ 10 by decide), z_up_at, if_neg (fun q => e q.2), z_up_at, if_neg (fun q => e q.2), z_up_row _ _ _ _ (show 10 ≠ 8 by decide)]
        exact p2 i (by omega)
      · by_cases e : i = j
        · subst e
          exact ⟨fun _ => ⟨by rw [z_up_row _ _ _ _ (show 8 ≠ 10 by decide), z_up_same], by rw [z_up_same]⟩, fun q => absurd c q⟩
        · rw [z_up_row _ _ _ _ (show 8 ≠ 10 by decide), z_up_at, if_neg (fun q => e q.2), z_up_at, if_neg (fun q => e q.2), z_up_row _ _ _ _ (show 10 ≠ 8 by decide)]
          exact p3 i (by omega)
    · refine ⟨s, ?_, p1, fun i hi => p2 i (by omega), fun i hi => ?_⟩
      · show fM_X8_sinks_2 k (nI j) s = k (nI (j + 1), s)
        unfold fM_X8_sinks_2
        rw [if_neg (zn_64 hj), m_isInside b x4 x5 hj, z_bind_nd]
        by_cases c1 : j % 8 < R ∧ j / 8 < H
        · rw [if_pos c1, if_neg (by decide), m_isOutside b x4 x5 hj, z_bind_nd]
          by_cases c2 : j % 8 + 1 = R ∨ j / 8 + 1 = H
          · rw [if_pos c2, if_neg (by decide), z_ck_in _ d3, d4, p1 7 j rfl]
            by_cases c3 : h 7 j ≤ 0
            · rw [if_pos c3, skip]
            · rw [if_neg c3, z_ck_in _ d3, z_ck_in _ d3, z_ck_in _ d3, p1 1 j rfl, p1 2 j rfl]
              by_cases c4 : h 7 j ≤ 2 * (h 1 j + 2 * h 2 j)
              · rw [if_pos c4, skip]
              · rw [if_neg c4, z_ck_in _ d3, y8]
                by_cases c5 : h 8 j ≤ 0
                · rw [if_pos c5, skip]
                · exact absurd ⟨c1, c2, c3, c4, c5⟩ c
          · rw [if_neg c2, if_pos rfl, skip]
        · rw [if_neg c1, if_pos rfl, skip]
      · by_cases e : i = j
        · subst e
          exact ⟨fun q => absurd q c, fun _ => ⟨y8, y10⟩⟩
        · exact p3 i (by omega)
  · show fM_X8_sinks_2 k (nI 64) s = _
    unfold fM_X8_sinks_2
    rw [if_pos (show (64 : Int32) ≤ nI 64 from by decide)]
/-- covers and breaches, bounded -/
def rCov (R H : Nat) (g : z_G) : Prop := ∀ ρ η, ρ < R → η < H → (∃ k : Nat, k ≤ 9 ∧ g 15 (ρ * H + η) = nI k) ∧ (g 19 (ρ * H + η) = -1 ∨ ∃ k : Nat, k ≤ 300 ∧ g 19 (ρ * H + η) = nI k)
theorem r_sink {R H : Nat} {g h : z_G} (b : 1 ≤ R ∧ R ≤ 8 ∧ 1 ≤ H ∧ H ≤ 8) (e3 : g 1 4 = nI (R * H)) (e4 : h 0 1 = nI R) (e5 : h 0 2 = nI H) (q2 : rFix R H g) (q5 : rHot R H g) (qc : rCov R H g) (p10 : rEq R H 10 1 g h) (p11 : rEq R H 11 2 g h) (p15 : rEq R H 15 8 g h) (p17 : rEq R H 17 7 g h) (p19 : rEq R H 19 10 g h) {t : Nat} (ht : t ≤ 300) (h21 : h 0 21 = nI t) : ∃ g' h' : z_G, fY_X2_sink (nI t) g = some (0, g') ∧ fM_X8_sinks h = some (0, h') ∧ rEq R H 15 8 g' h' ∧ rEq R H 19 10 g' h' ∧ rCov R H g' := by
  obtain ⟨g', u1, u2⟩ := y_sink (zc_64 b.2.1 b.2.2.2) e3 (nI t)
  obtain ⟨h', v1, v2⟩ := m_sink b e4 e5
  have lh : ∀ ρ η, ρ < R → η < H → η * 8 + ρ < 64 ∧ (η * 8 + ρ) % 8 = ρ ∧ (η * 8 + ρ) / 8 = η := fun ρ η k1 k2 => by have := b.2.1; have := b.2.2.2; omega
  have sk : ∀ ρ η, ρ < R → η < H → (kSk g (ρ * H + η) ↔ mSk R H h (η * 8 + ρ)) := fun ρ η k1 k2 => by
    obtain ⟨l1, l2, l3⟩ := lh ρ η k1 k2
    unfold kSk mSk
    rw [l2, l3, ← p15 ρ η k1 k2, ← p17 ρ η k1 k2, ← p10 ρ η k1 k2, ← p11 ρ η k1 k2, (q2 ρ η k1 k2).2]
    obtain ⟨-, ⟨w, c, wc, ew, ec⟩, -⟩ := q5 ρ η k1 k2
    have e2 : (2 : Int32) * (g 10 (ρ * H + η) + 2 * g 11 (ρ * H + η)) = nI (2 * (w + 2 * c)) := by
      rw [ew, ec, show (2 : Int32) = nI 2 from rfl, pk_mul, nI_add, pk_mul]
    constructor
    · rintro ⟨c1, c2, c3⟩
      refine ⟨⟨k1, k2⟩, ?_, ?_, c3, c2⟩
      · by_cases o : ρ + 1 = R ∨ η + 1 = H
        · exact o
        · rw [if_neg o] at c1
          exact absurd rfl c1
      · intro c4
        refine c3 ?_
        rw [e2, fa_le, nI_toInt (by omega)]
        rw [fa_le, show (0 : Int32).toInt = 0 from by decide] at c4
        omega
    · rintro ⟨-, o, c3, c4, c5⟩
      refine ⟨?_, c5, c4⟩
      rw [if_pos o]
      decide
  have br : ∀ ρ η, ρ < R → η < H → (g 19 (ρ * H + η) = -1 ↔ ¬ 0 ≤ h 10 (η * 8 + ρ)) := fun ρ η k1 k2 => by
    rw [← p19 ρ η k1 k2]
    rcases (qc ρ η k1 k2).2 with e | ⟨k, k9, e⟩
    · rw [e]; decide
    · rw [e]
      constructor
      · intro q
        have : (nI k).toInt = (-1 : Int32).toInt := by rw [q]
        rw [nI_toInt (by omega), show (-1 : Int32).toInt = -1 from by decide] at this
        omega
      · intro q
        exact absurd (nI_pos' (by omega)) q
  have val : ∀ ρ η, ρ < R → η < H → g' 15 (ρ * H + η) = h' 8 (η * 8 + ρ) ∧ g' 19 (ρ * H + η) = h' 10 (η * 8 + ρ) := fun ρ η k1 k2 => by
    obtain ⟨l1, l2, l3⟩ := lh ρ η k1 k2
    by_cases c : kSk g (ρ * H + η)
    · obtain ⟨x1, x2⟩ := (u2 _ (zc_lt k1 k2)).1 c
      obtain ⟨y1, y2⟩ := (v2 _ l1).1 ((sk ρ η k1 k2).mp c)
      rw [x1, x2, y1, y2, h21, ← p15 ρ η k1 k2]
      refine ⟨rfl, ?_⟩
      by_cases d : g 15 (ρ * H + η) - 1 = 0 ∧ g 19 (ρ * H + η) = -1
      · rw [if_pos d, if_pos ⟨d.1, (br ρ η k1 k2).mp d.2⟩]
      · rw [if_neg d, if_neg (fun q => d ⟨q.1, (br ρ η k1 k2).mpr q.2⟩), p19 ρ η k1 k2]
    · obtain ⟨x1, x2⟩ := (u2 _ (zc_lt k1 k2)).2 c
      obtain ⟨y1, y2⟩ := (v2 _ l1).2 (fun q => c ((sk ρ η k1 k2).mpr q))
      rw [x1, x2, y1, y2, p15 ρ η k1 k2, p19 ρ η k1 k2]
      exact ⟨rfl, rfl⟩
  refine ⟨g', h', u1, v1, fun ρ η k1 k2 => (val ρ η k1 k2).1, fun ρ η k1 k2 => (val ρ η k1 k2).2, fun ρ η k1 k2 => ?_⟩
  obtain ⟨⟨k, k9, ek⟩, q9⟩ := qc ρ η k1 k2
  by_cases c : kSk g (ρ * H + η)
  · obtain ⟨x1, x2⟩ := (u2 _ (zc_lt k1 k2)).1 c
    rw [x1, x2]
    have kp : 0 < k := by
      rcases Nat.eq_zero_or_pos k with z | z
      · exact absurd (by rw [ek, z]; decide) c.2.1
      · exact z
    refine ⟨⟨k - 1, by omega, by rw [ek]; exact pk_sub (a := k) (b := 1) (by omega)⟩, ?_⟩
    by_cases d : g 15 (ρ * H + η) - 1 = 0 ∧ g 19 (ρ * H + η) = -1
    · rw [if_pos d]
      exact Or.inr ⟨t, ht, rfl⟩
    · rw [if_neg d]
      exact q9
  · obtain ⟨x1, x2⟩ := (u2 _ (zc_lt k1 k2)).2 c
    rw [x1, x2]
    exact ⟨⟨k, k9, ek⟩, q9⟩
def kSo (w sh r : Int32) : Int32 := if w + r * sh < 100 * sh then w + r * sh else 100 * sh
theorem y_soak {R H : Nat} (b : 1 ≤ R ∧ R ≤ 8 ∧ 1 ≤ H ∧ H ≤ 8) {g : z_G} (e1 : g 1 0 = nI R) (e2 : g 1 1 = nI H) (r : Int32) : ∃ g' : z_G, fY_X2_soak r g = some (0, g') ∧ ∀ ρ η, ρ < R → η < H → g' 12 (ρ * H + η) = if η + 1 = H then kSo (g 12 (ρ * H + η)) (g 8 (ρ * H + η)) r else g 12 (ρ * H + η) := by
  obtain ⟨b1, b2, b3, b4⟩ := id b
  unfold fY_X2_soak fY_X2_soak_2_go
  have key := z_pfor (step := fun k (w : Int32 × Int32 × z_G) => fY_X2_soak_2 k w.1 w.2.1 w.2.2) (fun j s => (r, nI j, s)) (fun s => some (0, s)) R (z_fuel_big (by omega)) (fun j s => z_ag (z_tch [12] []) g s ∧ ∀ ρ η, ρ < R → η < H → s 12 (ρ * H + η) = if ρ < j ∧ η + 1 = H then kSo (g 12 (ρ * H + η)) (g 8 (ρ * H + η)) r else g 12 (ρ * H + η)) (fun k j s hj hp => ?_) (fun k s hp => ?_) g ⟨fr_rf, fun ρ η _ _ => by rw [if_neg (fun q => absurd q.1 (Nat.not_lt_zero ρ))]⟩
  · obtain ⟨s', u1, u2, u3⟩ := key
    refine ⟨s', u1, fun ρ η k1 k2 => ?_⟩
    rw [u3 ρ η k1 k2]
    by_cases c : η + 1 = H
    · rw [if_pos ⟨k1, c⟩, if_pos c]
    · rw [if_neg (fun q => c q.2), if_neg c]
  · obtain ⟨p1, p2⟩ := hp
    obtain ⟨η, eη⟩ : ∃ η, H = η + 1 := ⟨H - 1, by omega⟩
    have x : nI H - 1 = nI η := by rw [eη, nI_pred]
    have hlt : j * H + η < 64 := Nat.lt_of_lt_of_le (zc_lt hj (show η < H by omega)) (zc_64 b2 b4)
    have d3 : vp_in (nI (j * H + η)) 64 := vp_in_nI (by omega) (by omega)
    have d4 : (nI (j * H + η)).toNatClampNeg = j * H + η := nI_clamp (by omega)
    have y12 := p2 j η hj (by omega)
    rw [if_neg (fun q => absurd q.1 (Nat.lt_irrefl j))] at y12
    refine ⟨z_up s 12 (j * H + η) (kSo (g 12 (j * H + η)) (g 8 (j * H + η)) r), ?_, fr_up p1 rfl, fun ρ2 η2 k1 k2 => ?_⟩
    · show fY_X2_soak_2 k r (nI j) s = k (r, nI (j + 1), _)
      unfold fY_X2_soak_2 fY_X2_at
      rw [p1 1 0 rfl, e1, if_neg (zn_stop (show R < 2 ^ 31 by omega) hj), z_bind_nd, p1 1 1 rfl, e2, x, pk_mul, nI_add, z_ck_in _ d3, z_ck_in _ d3, z_ck_in _ d3, d4, z_let_eq, z_ck_in _ d3, z_let_eq, z_let_eq, nI_1, y12, p1 8 (j * H + η) rfl]
      rfl
    · rw [z_up_at]
      by_cases e : ρ2 * H + η2 = j * H + η
      · obtain ⟨rfl, rfl⟩ := zc_inj k2 (show η < H by omega) e
        rw [if_pos ⟨rfl, rfl⟩, if_pos ⟨by omega, eη.symm⟩]
      · rw [if_neg (fun q => e q.2), p2 ρ2 η2 k1 k2]
        by_cases c : ρ2 < j ∧ η2 + 1 = H
        · rw [if_pos c, if_pos ⟨by omega, c.2⟩]
        · have c2 : ¬ (ρ2 < j + 1 ∧ η2 + 1 = H) := by
            rintro ⟨q1, q2⟩
            have e9 : ρ2 = j := by omega
            have e8 : η2 = η := by omega
            exact e (by rw [e9, e8])
          rw [if_neg c, if_neg c2]
  · show fY_X2_soak_2 k r (nI R) s = _
    unfold fY_X2_soak_2
    rw [hp.1 1 0 rfl, e1, if_pos (nI_le (Nat.le_refl R) (by omega))]
/-- what the reference does behind the rain -/
def mTail (a0 a1 x : Int32) (g : z_G) : Option (Int32 × z_G) := z_ck (g 0 21) 300 (z_let (z_up g 20 (Int32.toNatClampNeg (g 0 21)) a0) (fun g17 => z_ck (g17 0 21) 300 (z_let (z_up g17 21 (Int32.toNatClampNeg (g17 0 21)) a1) (fun g19 => z_ck (g19 0 21) 300 (z_let (z_up g19 22 (Int32.toNatClampNeg (g19 0 21)) x) (fun g21 => z_bind (fM_X8_bareCells g21) (fun r22 g23 => z_ck (g21 0 21) 300 (z_let (z_up g23 25 (Int32.toNatClampNeg (g21 0 21)) r22) (fun g26 => z_bind (fM_X8_watchers x a0 a1 g26) (fun r27 g28 => z_ck (g26 0 21) 300 (z_let (z_up g28 23 (Int32.toNatClampNeg (g26 0 21)) r27) (fun g31 => z_bind (fM_X8_burning g31) (fun r32 g33 => z_ck (g31 0 21) 300 (z_let (z_up g33 24 (Int32.toNatClampNeg (g31 0 21)) r32) (fun g36 => z_let (z_up g36 0 21 ((g36 0 21) + 1)) (fun g37 => some (x, g37)))))))))))))))))
theorem m_soak {R H : Nat} (b : 1 ≤ R ∧ R ≤ 8 ∧ 1 ≤ H ∧ H ≤ 8) {h : z_G} (e4 : h 0 1 = nI R) (e5 : h 0 2 = nI H) (a0 a1 x : Int32) : ∃ h' : z_G, fM_X8_works_186_go a0 a1 x 0 h = mTail a0 a1 x h' ∧ z_ag (z_tch [3] []) h h' ∧ ∀ ρ η, ρ < R → η < H → h' 3 (η * 8 + ρ) = if η + 1 = H then kSo (h 3 (η * 8 + ρ)) (nI (2 * ρ + 1)) a0 else h 3 (η * 8 + ρ) := by
  obtain ⟨b1, b2, b3, b4⟩ := id b
  unfold fM_X8_works_186_go
  have key := z_pfor (step := fun k (w : Int32 × Int32 × Int32 × Int32 × z_G) => fM_X8_works_186 k w.1 w.2.1 w.2.2.1 w.2.2.2.1 w.2.2.2.2) (fun j s => (a0, a1, x, nI j, s)) (fun s => mTail a0 a1 x s) R (z_fuel_big (by omega)) (fun j s => z_ag (z_tch [3] []) h s ∧ ∀ ρ η, ρ < R → η < H → s 3 (η * 8 + ρ) = if ρ < j ∧ η + 1 = H then kSo (h 3 (η * 8 + ρ)) (nI (2 * ρ + 1)) a0 else h 3 (η * 8 + ρ)) (fun k j s hj hp => ?_) (fun k s hp => ?_) h ⟨fr_rf, fun ρ η _ _ => by rw [if_neg (fun q => absurd q.1 (Nat.not_lt_zero ρ))]⟩
  · obtain ⟨s', u1, u2, u3⟩ := key
    refine ⟨s', u1, u2, fun ρ η k1 k2 => ?_⟩
    rw [u3 ρ η k1 k2]
    by_cases c : η + 1 = H
    · rw [if_pos ⟨k1, c⟩, if_pos c]
    · rw [if_neg (fun q => c q.2), if_neg c]
  · obtain ⟨p1, p2⟩ := hp
    obtain ⟨η, eη⟩ : ∃ η, H = η + 1 := ⟨H - 1, by omega⟩
    have x9 : nI H - 1 = nI η := by rw [eη, nI_pred]
    have hlt : η * 8 + j < 64 := by omega
    have d3 : vp_in (nI (η * 8 + j)) 64 := vp_in_nI (by omega) (by omega)
    have d4 : (nI (η * 8 + j)).toNatClampNeg = η * 8 + j := nI_clamp (by omega)
    have y3 := p2 j η hj (by omega)
    rw [if_neg (fun q => absurd q.1 (Nat.lt_irrefl j))] at y3
    have sh : fM_X8_share (nI (η * 8 + j)) s = some (nI (2 * j + 1), s) := by
      rw [m_share hlt, zc_mod (by omega)]
    refine ⟨z_up s 3 (η * 8 + j) (kSo (h 3 (η * 8 + j)) (nI (2 * j + 1)) a0), ?_, fr_up p1 rfl, fun ρ2 η2 k1 k2 => ?_⟩
    · show fM_X8_works_186 k a0 a1 x (nI j) s = k (a0, a1, x, nI (j + 1), _)
      unfold fM_X8_works_186
      rw [p1 0 1 rfl, e4, if_neg (zn_stop (show R < 2 ^ 31 by omega) hj), p1 0 2 rfl, e5, x9, show (8 : Int32) = nI 8 from rfl, pk_mul, nI_add, z_let_eq, sh, z_bind_nd, z_ck_in _ d3, sh, z_bind_nd, d4, z_let_eq, z_ck_in _ d3, z_let_eq, z_let_eq, nI_1, y3]
      rfl
    · rw [z_up_at]
      by_cases e : η2 * 8 + ρ2 = η * 8 + j
      · have e9 : ρ2 = j := by omega
        have e8 : η2 = η := by omega
        subst e9 e8
        rw [if_pos ⟨rfl, rfl⟩, if_pos ⟨by omega, eη.symm⟩]
      · rw [if_neg (fun q => e q.2), p2 ρ2 η2 k1 k2]
        by_cases c : ρ2 < j ∧ η2 + 1 = H
        · rw [if_pos c, if_pos ⟨by omega, c.2⟩]
        · rw [if_neg c, if_neg (by omega)]
  · show fM_X8_works_186 k a0 a1 x (nI R) s = _
    unfold fM_X8_works_186
    rw [hp.1 0 1 rfl, e4, if_pos (nI_le (Nat.le_refl R) (by omega))]
    rfl
theorem r_soak {R H : Nat} {g h : z_G} (b : 1 ≤ R ∧ R ≤ 8 ∧ 1 ≤ H ∧ H ≤ 8) (e1 : g 1 0 = nI R) (e2 : g 1 1 = nI H) (e4 : h 0 1 = nI R) (e5 : h 0 2 = nI H) (q2 : rFix R H g) (p12 : rEq R H 12 3 g h) (a0 a1 x : Int32) : ∃ g' h' : z_G, fY_X2_soak a0 g = some (0, g') ∧ fM_X8_works_186_go a0 a1 x 0 h = mTail a0 a1 x h' ∧ z_ag (z_tch [3] []) h h' ∧ rEq R H 12 3 g' h' := by
  obtain ⟨g', u1, u2⟩ := y_soak b e1 e2 a0
  obtain ⟨h', v1, v2, v3⟩ := m_soak b e4 e5 a0 a1 x
  refine ⟨g', h', u1, v1, v2, fun ρ η k1 k2 => ?_⟩
  rw [u2 ρ η k1 k2, v3 ρ η k1 k2, p12 ρ η k1 k2, (q2 ρ η k1 k2).1]
/-! bare cells -/
theorem y_bare {g : z_G} {N : Nat} (hN : N ≤ 64) (e3 : g 1 4 = nI N) : fY_X2_countBare g = some (z_sum (fun i => if ¬ g 9 i = 0 ∧ g 15 i = 0 then 1 else 0) N, g) := by
  unfold fY_X2_countBare fY_X2_countBare_4_go
  have key := z_sumfor (step := fun k (w : Int32 × Int32 × z_G) => fY_X2_countBare_4 k w.1 w.2.1 w.2.2) (fun j x => (x, nI j, g)) (fun i => if ¬ g 9 i = 0 ∧ g 15 i = 0 then 1 else 0) (fun x => some (x, g)) N (z_fuel_big (by omega)) (fun k j x hj => ?_) (fun k x => ?_) 0
  · rw [Int32.zero_add] at key
    exact key
  · show fY_X2_countBare_4 k x (nI j) g = k (_, nI (j + 1), g)
    unfold fY_X2_countBare_4 fY_X2_countBare_23
    rw [e3, if_neg (zn_stop (show N < 2 ^ 31 by omega) hj), y_isBare (by omega), z_bind_nd]
    by_cases c : ¬ g 9 j = 0 ∧ g 15 j = 0
    · rw [if_pos c, if_neg (by decide), z_let_eq, z_let_eq, nI_1]
    · rw [if_neg c, if_pos rfl, z_let_eq, nI_1, Int32.add_zero]
  · show fY_X2_countBare_4 k x (nI N) g = _
    unfold fY_X2_countBare_4
    rw [e3, if_pos (nI_le (Nat.le_refl N) (by omega))]
theorem m_bare {R H : Nat} (b : 1 ≤ R ∧ R ≤ 8 ∧ 1 ≤ H ∧ H ≤ 8) {h : z_G} (e4 : h 0 1 = nI R) (e5 : h 0 2 = nI H) : fM_X8_bareCells h = some (z_sum (fun c => if (c % 8 < R ∧ c / 8 < H) ∧ (c % 8 + 1 = R ∨ c / 8 + 1 = H) ∧ h 8 c = 0 then 1 else 0) 64, h) := by
  unfold fM_X8_bareCells fM_X8_bareCells_4_go
  have key := z_sumfor (step := fun k (w : Int32 × Int32 × z_G) => fM_X8_bareCells_4 k w.1 w.2.1 w.2.2) (fun j x => (x, nI j, h)) (fun c => if (c % 8 < R ∧ c / 8 < H) ∧ (c % 8 + 1 = R ∨ c / 8 + 1 = H) ∧ h 8 c = 0 then 1 else 0) (fun x => some (x, h)) 64 (z_fuel_big (by omega)) (fun k j x hj => ?_) (fun k x => ?_) 0
  · rw [Int32.zero_add] at key
    exact key
  · have d3 : vp_in (nI j) 64 := vp_in_nI (by omega) (by omega)
    have d4 : (nI j).toNatClampNeg = j := nI_clamp (by omega)
    show fM_X8_bareCells_4 k x (nI j) h = k (_, nI (j + 1), h)
    unfold fM_X8_bareCells_4 fM_X8_bareCells_40 fM_X8_bareCells_41
    rw [if_neg (zn_64 hj), m_isInside b e4 e5 hj, z_bind_nd]
    by_cases c1 : j % 8 < R ∧ j / 8 < H
    · rw [if_pos c1, if_neg (by decide), m_isOutside b e4 e5 hj, z_bind_nd]
      by_cases c2 : j % 8 + 1 = R ∨ j / 8 + 1 = H
      · rw [if_pos c2, if_neg (by decide), z_ck_in _ d3, d4]
        by_cases c3 : h 8 j = 0
        · rw [if_pos c3, if_pos ⟨c1, c2, c3⟩, z_let_eq, z_let_eq, nI_1]
        · rw [if_neg c3, if_neg (fun q => c3 q.2.2), z_let_eq, z_let_eq, nI_1]
      · rw [if_neg c2, if_pos rfl, if_neg (fun q => c2 q.2.1), z_let_eq, z_let_eq, nI_1]
    · rw [if_neg c1, if_pos rfl, if_neg (fun q => c1 q.1), z_let_eq, z_let_eq, nI_1]
  · show fM_X8_bareCells_4 k x (nI 64) h = _
    unfold fM_X8_bareCells_4
    rw [if_pos (show (64 : Int32) ≤ nI 64 from by decide)]
theorem r_bare {R H : Nat} {g h : z_G} (b : 1 ≤ R ∧ R ≤ 8 ∧ 1 ≤ H ∧ H ≤ 8) (e3 : g 1 4 = nI (R * H)) (e4 : h 0 1 = nI R) (e5 : h 0 2 = nI H) (q2 : rFix R H g) (p15 : rEq R H 15 8 g h) : ∃ x : Int32, fY_X2_countBare g = some (x, g) ∧ fM_X8_bareCells h = some (x, h) := by
  refine ⟨_, y_bare (zc_64 b.2.1 b.2.2.2) e3, ?_⟩
  rw [m_bare b e4 e5]
  have := z_sum_cells (A := fun i => if ¬ g 9 i = 0 ∧ g 15 i = 0 then (1 : Int32) else 0) (B := fun c => if (c % 8 < R ∧ c / 8 < H) ∧ (c % 8 + 1 = R ∨ c / 8 + 1 = H) ∧ h 8 c = 0 then 1 else 0) b.2.1 b.2.2.2 (fun ρ η k1 k2 => ?_) (fun c hc ci => ?_)
  · rw [this]
  · have l : (η * 8 + ρ) % 8 = ρ ∧ (η * 8 + ρ) / 8 = η := by have := b.2.1; omega
    rw [l.1, l.2, (q2 ρ η k1 k2).2, p15 ρ η k1 k2]
    by_cases o : ρ + 1 = R ∨ η + 1 = H
    · by_cases c : h 8 (η * 8 + ρ) = 0
      · rw [if_pos ⟨by rw [if_pos o]; decide, c⟩, if_pos ⟨⟨k1, k2⟩, o, c⟩]
      · rw [if_neg (fun q => c q.2), if_neg (fun q => c q.2.2)]
    · rw [if_neg (fun q => q.1 (if_neg o)), if_neg (fun q => o q.2.1)]
  · rw [if_neg (fun q => ci q.1)]
