/-! the reference's air -/
theorem zk_absF : ∀ a b : Fin 8, (if (0 : Int32) ≤ nI a.val - nI b.val then nI a.val - nI b.val else 0 - (nI a.val - nI b.val)) = nI ((a.val - b.val) + (b.val - a.val)) := by decide +kernel
theorem zk_abs {a b : Nat} (ha : a < 8) (hb : b < 8) : (if (0 : Int32) ≤ nI a - nI b then nI a - nI b else 0 - (nI a - nI b)) = nI ((a - b) + (b - a)) := zk_absF ⟨a, ha⟩ ⟨b, hb⟩
theorem m_away {ρ η ρ2 η2 : Nat} (h1 : ρ < 8) (h2 : η < 8) (h3 : ρ2 < 8) (h4 : η2 < 8) (h : z_G) : fM_X8_away (nI (η * 8 + ρ)) (nI (η2 * 8 + ρ2)) h = some (nI (kDist ρ η ρ2 η2), h) := by
  unfold fM_X8_away
  have r1 : nI (η * 8 + ρ) - nI (η * 8 + ρ) / 8 * 8 = nI ρ := by rw [m_ring (by omega), zc_mod h1]
  have r2 : nI (η2 * 8 + ρ2) - nI (η2 * 8 + ρ2) / 8 * 8 = nI ρ2 := by rw [m_ring (by omega), zc_mod h3]
  have r3 : nI (η * 8 + ρ) / 8 = nI η := by rw [m_height (by omega), zc_div h1]
  have r4 : nI (η2 * 8 + ρ2) / 8 = nI η2 := by rw [m_height (by omega), zc_div h3]
  rw [r1, r2, r3, r4, z_let_eq, z_let_eq, zk_abs h1 h3, zk_abs h2 h4, nI_add]
  rfl
theorem m_isInside {R H : Nat} {h : z_G} (b : 1 ≤ R ∧ R ≤ 8 ∧ 1 ≤ H ∧ H ≤ 8) (e1 : h 0 1 = nI R) (e2 : h 0 2 = nI H) {c : Nat} (hc : c < 64) : fM_X8_isInside (nI c) h = some (if c % 8 < R ∧ c / 8 < H then 1 else 0, h) := by
  obtain ⟨b1, b2, b3, b4⟩ := b
  unfold fM_X8_isInside fM_X8_isInside_28 fM_X8_isInside_29 fM_X8_ringOf fM_X8_heightOf
  rw [z_bind_nd, m_ring hc, e1]
  by_cases c1 : R ≤ c % 8
  · rw [if_pos (nI_le c1 (by omega)), if_neg (by omega), z_bo_0]
  · rw [if_neg (nI_ge (by omega) (by omega)), z_bind_nd, m_height hc, e2]
    by_cases c2 : H ≤ c / 8
    · rw [if_pos (nI_le c2 (by omega)), if_neg (by omega), z_bo_0]
    · rw [if_neg (nI_ge (by omega) (by omega)), if_pos (by omega), z_bo_1]
theorem zk_air {m wd d : Nat} (hm : m ≤ 7) (hw : wd ≤ 3) (hd : d ≤ 14) : (if nI m < (4 + nI wd) - nI d then (4 + nI wd) - nI d else nI m) = nI (max m (4 + wd - d)) := by
  rw [show (4 : Int32) = nI 4 from rfl, nI_add]
  by_cases c : d ≤ 4 + wd
  · rw [pk_sub c]
    by_cases c2 : m < 4 + wd - d
    · rw [if_pos (nI_lt c2 (by omega)), show max m (4 + wd - d) = 4 + wd - d by omega]
    · rw [if_neg (nI_nlt (by omega) (by omega)), show max m (4 + wd - d) = m by omega]
  · have n : nI (4 + wd) - nI d < 0 := pk_sneg (by omega) (by omega)
    have n2 : ¬ nI m < nI (4 + wd) - nI d := by
      rw [fa_lt] at n ⊢
      rw [nI_toInt (by omega)]
      rw [show (0 : Int32).toInt = 0 from by decide] at n
      omega
    rw [if_neg n2, show max m (4 + wd - d) = m by omega]
theorem kUp_max {src : Nat → Nat → Prop} {wd ρ η m ρ2 η2 : Nat} (u : kUp src (4 + wd) ρ η m) (s : src ρ2 η2) : kUp src (4 + wd) ρ η (max m (4 + wd - kDist ρ η ρ2 η2)) := by
  rcases (show max m (4 + wd - kDist ρ η ρ2 η2) = m ∨ max m (4 + wd - kDist ρ η ρ2 η2) = 4 + wd - kDist ρ η ρ2 η2 by omega) with e | e <;> rw [e]
  · exact u
  · by_cases c : kDist ρ η ρ2 η2 ≤ 4 + wd
    · exact Or.inr ⟨ρ2, η2, s, by omega⟩
    · exact Or.inl (by omega)
theorem kDist_le {ρ η ρ2 η2 : Nat} (h1 : ρ < 8) (h2 : η < 8) (h3 : ρ2 < 8) (h4 : η2 < 8) : kDist ρ η ρ2 η2 ≤ 14 := by unfold kDist; omega
theorem m_airOf {R H n : Nat} (b : 1 ≤ R ∧ R ≤ 8 ∧ 1 ≤ H ∧ H ≤ 8) {g h : z_G} (e4 : h 0 1 = nI R) (e5 : h 0 2 = nI H) (hn : n ≤ 12) (n2 : h 0 13 = nI n) (hj : ∀ k, k < n → g 23 k = h 12 k ∧ ∃ ρ η : Nat, ρ < R ∧ η < H ∧ g 22 k = nI (ρ * H + η) ∧ h 11 k = nI (η * 8 + ρ)) (p15 : rEq R H 15 8 g h) {wd : Nat} (hw : wd ≤ 3) {ρ η : Nat} (h1 : ρ < R) (h2 : η < H) : ∃ a : Nat, a ≤ 7 ∧ fM_X8_airOf (nI (η * 8 + ρ)) (nI wd) h = some (nI a, h) ∧ kAir (kSrc R H n g) (4 + wd) ρ η a := by
  obtain ⟨b1, b2, b3, b4⟩ := id b
  have L1 : ∃ m : Nat, fM_X8_airOf (nI (η * 8 + ρ)) (nI wd) h = fM_X8_airOf_53_go (nI (η * 8 + ρ)) (nI wd) (nI m) 0 h ∧ m ≤ 7 ∧ kUp (kSrc R H n g) (4 + wd) ρ η m ∧ ∀ ρ2 η2, ρ2 < R → η2 < H → (∃ k, k < n ∧ ¬ g 23 k = 0 ∧ g 22 k = nI (ρ2 * H + η2)) → 4 + wd ≤ m + kDist ρ η ρ2 η2 := by
    unfold fM_X8_airOf fM_X8_airOf_5_go
    refine z_pfor (σ := Nat) (step := fun k (w : Int32 × Int32 × Int32 × Int32 × z_G) => fM_X8_airOf_5 k w.1 w.2.1 w.2.2.1 w.2.2.2.1 w.2.2.2.2) (fun j m => (nI (η * 8 + ρ), nI wd, nI m, nI j, h)) (fun m => fM_X8_airOf_53_go (nI (η * 8 + ρ)) (nI wd) (nI m) 0 h) n (z_fuel_big (by omega)) (fun j m => m ≤ 7 ∧ kUp (kSrc R H n g) (4 + wd) ρ η m ∧ ∀ ρ2 η2, ρ2 < R → η2 < H → (∃ k, k < j ∧ ¬ g 23 k = 0 ∧ g 22 k = nI (ρ2 * H + η2)) → 4 + wd ≤ m + kDist ρ η ρ2 η2) (fun k j m hjn hp => ?_) (fun k m hp => ?_) 0 ⟨by omega, Or.inl rfl, fun _ _ _ _ ⟨k, hk, _⟩ => absurd hk (Nat.not_lt_zero k)⟩
    · obtain ⟨p1, p2, p3⟩ := hp
      have d3 : vp_in (nI j) 12 := vp_in_nI (by omega) (by omega)
      have d4 : (nI j).toNatClampNeg = j := nI_clamp (by omega)
      obtain ⟨w1, ρ0, η0, k1, k2, w2, w3⟩ := hj j hjn
      by_cases c : h 12 j = 0
      · refine ⟨m, ?_, p1, p2, fun ρ2 η2 t1 t2 ⟨k9, t3, t4, t5⟩ => ?_⟩
        · show fM_X8_airOf_5 k (nI (η * 8 + ρ)) (nI wd) (nI m) (nI j) h = _
          unfold fM_X8_airOf_5 fM_X8_airOf_44
          rw [n2, if_neg (zn_stop (show n < 2 ^ 31 by omega) hjn), z_ck_in _ d3, d4, if_pos c, z_let_eq, nI_1]
        · refine p3 ρ2 η2 t1 t2 ⟨k9, ?_, t4, t5⟩
          rcases Nat.lt_or_ge k9 j with h9 | h9
          · exact h9
          · have e9 : k9 = j := by omega
            subst e9
            exact absurd (w1.trans c) t4
      · have sr : kSrc R H n g ρ0 η0 := ⟨k1, k2, Or.inr ⟨j, hjn, fun e => c (w1.symm.trans e), w2⟩⟩
        have dd := kDist_le (show ρ < 8 by omega) (show η < 8 by omega) (show ρ0 < 8 by omega) (show η0 < 8 by omega)
        refine ⟨max m (4 + wd - kDist ρ η ρ0 η0), ?_, by omega, kUp_max p2 sr, fun ρ2 η2 t1 t2 ⟨k9, t3, t4, t5⟩ => ?_⟩
        · show fM_X8_airOf_5 k (nI (η * 8 + ρ)) (nI wd) (nI m) (nI j) h = _
          unfold fM_X8_airOf_5 fM_X8_airOf_44
          rw [n2, if_neg (zn_stop (show n < 2 ^ 31 by omega) hjn), z_ck_in _ d3, d4, if_neg c, z_ck_in _ d3, w3, m_away (by omega) (by omega) (by omega) (by omega), z_bind_nd, z_let_eq, zk_air p1 hw dd, z_let_eq, nI_1]
        · rcases Nat.lt_or_ge k9 j with h9 | h9
          · have := p3 ρ2 η2 t1 t2 ⟨k9, h9, t4, t5⟩
            omega
          · have e9 : k9 = j := by omega
            subst e9
            have l1 : ρ2 * H + η2 < 64 := Nat.lt_of_lt_of_le (zc_lt t1 t2) (zc_64 b2 b4)
            have l2 : ρ0 * H + η0 < 64 := Nat.lt_of_lt_of_le (zc_lt k1 k2) (zc_64 b2 b4)
            obtain ⟨rfl, rfl⟩ := zc_inj t2 k2 ((nI_eq (by omega) (by omega)).mp (t5.symm.trans w2))
            omega
    · show fM_X8_airOf_5 k (nI (η * 8 + ρ)) (nI wd) (nI m) (nI n) h = _
      unfold fM_X8_airOf_5
      rw [n2, if_pos (nI_le (Nat.le_refl n) (by omega))]
  obtain ⟨m0, u1, m7, m2, m3⟩ := L1
  have L2 : ∃ m : Nat, fM_X8_airOf_53_go (nI (η * 8 + ρ)) (nI wd) (nI m0) 0 h = some (nI m, h) ∧ m ≤ 7 ∧ m0 ≤ m ∧ kUp (kSrc R H n g) (4 + wd) ρ η m ∧ ∀ ρ2 η2, ρ2 < R → η2 < H → η2 * 8 + ρ2 < 64 → (ρ2 + 1 = R ∨ η2 + 1 = H) → g 15 (ρ2 * H + η2) = 0 → 4 + wd ≤ m + kDist ρ η ρ2 η2 := by
    unfold fM_X8_airOf_53_go
    refine z_pfor (σ := Nat) (step := fun k (w : Int32 × Int32 × Int32 × Int32 × z_G) => fM_X8_airOf_53 k w.1 w.2.1 w.2.2.1 w.2.2.2.1 w.2.2.2.2) (fun j m => (nI (η * 8 + ρ), nI wd, nI m, nI j, h)) (fun m => some (nI m, h)) 64 (z_fuel_big (by omega)) (fun j m => m ≤ 7 ∧ m0 ≤ m ∧ kUp (kSrc R H n g) (4 + wd) ρ η m ∧ ∀ ρ2 η2, ρ2 < R → η2 < H → η2 * 8 + ρ2 < j → (ρ2 + 1 = R ∨ η2 + 1 = H) → g 15 (ρ2 * H + η2) = 0 → 4 + wd ≤ m + kDist ρ η ρ2 η2) (fun k j m hjn hp => ?_) (fun k m hp => ?_) m0 ⟨m7, Nat.le_refl _, m2, fun _ _ _ _ h9 => absurd h9 (Nat.not_lt_zero _)⟩
    · obtain ⟨p1, p0, p2, p3⟩ := hp
      obtain ⟨ρ0, η0, k1, k2, ej⟩ : ∃ ρ0 η0, ρ0 < 8 ∧ η0 < 8 ∧ j = η0 * 8 + ρ0 := ⟨j % 8, j / 8, by omega, by omega, by omega⟩
      have ec : j % 8 = ρ0 := by omega
      have ed : j / 8 = η0 := by omega
      have d3 : vp_in (nI j) 64 := vp_in_nI (by omega) (by omega)
      have d4 : (nI j).toNatClampNeg = j := nI_clamp (by omega)
      have same : (∀ t1 : ρ0 < R, ∀ t2 : η0 < H, (ρ0 + 1 = R ∨ η0 + 1 = H) → g 15 (ρ0 * H + η0) = 0 → 4 + wd ≤ m + kDist ρ η ρ0 η0) → ∀ ρ2 η2, ρ2 < R → η2 < H → η2 * 8 + ρ2 < j + 1 → (ρ2 + 1 = R ∨ η2 + 1 = H) → g 15 (ρ2 * H + η2) = 0 → 4 + wd ≤ m + kDist ρ η ρ2 η2 := by
        intro h0 ρ2 η2 t1 t2 t3 t4 t5
        by_cases e : η2 * 8 + ρ2 = j
        · have e1 : ρ2 = ρ0 := by omega
          have e2 : η2 = η0 := by omega
          subst e1 e2
          exact h0 t1 t2 t4 t5
        · exact p3 ρ2 η2 t1 t2 (by omega) t4 t5
      by_cases ci : ρ0 < R ∧ η0 < H
      · by_cases co : ρ0 + 1 = R ∨ η0 + 1 = H
        · by_cases cz : h 8 j = 0
          · have gz : g 15 (ρ0 * H + η0) = 0 := by rw [p15 ρ0 η0 ci.1 ci.2, ← ej]; exact cz
            have sr : kSrc R H n g ρ0 η0 := ⟨ci.1, ci.2, Or.inl ⟨co, gz⟩⟩
            have dd := kDist_le (show ρ < 8 by omega) (show η < 8 by omega) (show ρ0 < 8 by omega) (show η0 < 8 by omega)
            refine ⟨max m (4 + wd - kDist ρ η ρ0 η0), ?_, by omega, by omega, kUp_max p2 sr, fun ρ2 η2 t1 t2 t3 t4 t5 => ?_⟩
            · show fM_X8_airOf_53 k (nI (η * 8 + ρ)) (nI wd) (nI m) (nI j) h = _
              unfold fM_X8_airOf_53 fM_X8_airOf_103
              rw [if_neg (zn_64 hjn), m_isInside b e4 e5 hjn, z_bind_nd, ec, ed, if_pos ci, if_neg (by decide), m_isOutside b e4 e5 hjn, z_bind_nd, ec, ed, if_pos co, if_neg (by decide), z_ck_in _ d3, d4, if_pos cz, ej, m_away (by omega) (by omega) k1 k2, z_bind_nd, z_let_eq, zk_air p1 hw dd, z_let_eq, nI_1]
            · by_cases e : η2 * 8 + ρ2 = j
              · have e1 : ρ2 = ρ0 := by omega
                have e2 : η2 = η0 := by omega
                subst e1 e2
                omega
              · have := p3 ρ2 η2 t1 t2 (by omega) t4 t5
                omega
          · refine ⟨m, ?_, p1, p0, p2, same (fun t1 t2 _ t5 => absurd (by rw [ej, ← p15 ρ0 η0 t1 t2]; exact t5) cz)⟩
            show fM_X8_airOf_53 k (nI (η * 8 + ρ)) (nI wd) (nI m) (nI j) h = _
            unfold fM_X8_airOf_53 fM_X8_airOf_103
            rw [if_neg (zn_64 hjn), m_isInside b e4 e5 hjn, z_bind_nd, ec, ed, if_pos ci, if_neg (by decide), m_isOutside b e4 e5 hjn, z_bind_nd, ec, ed, if_pos co, if_neg (by decide), z_ck_in _ d3, d4, if_neg cz, z_let_eq, nI_1]
        · refine ⟨m, ?_, p1, p0, p2, same (fun t1 t2 t4 _ => absurd t4 co)⟩
          show fM_X8_airOf_53 k (nI (η * 8 + ρ)) (nI wd) (nI m) (nI j) h = _
          unfold fM_X8_airOf_53 fM_X8_airOf_103
          rw [if_neg (zn_64 hjn), m_isInside b e4 e5 hjn, z_bind_nd, ec, ed, if_pos ci, if_neg (by decide), m_isOutside b e4 e5 hjn, z_bind_nd, ec, ed, if_neg co, if_pos rfl, z_let_eq, nI_1]
      · refine ⟨m, ?_, p1, p0, p2, same (fun t1 t2 _ _ => absurd ⟨t1, t2⟩ ci)⟩
        show fM_X8_airOf_53 k (nI (η * 8 + ρ)) (nI wd) (nI m) (nI j) h = _
        unfold fM_X8_airOf_53 fM_X8_airOf_103
        rw [if_neg (zn_64 hjn), m_isInside b e4 e5 hjn, z_bind_nd, ec, ed, if_neg ci, if_pos rfl, z_let_eq, nI_1]
    · show fM_X8_airOf_53 k (nI (η * 8 + ρ)) (nI wd) (nI m) (nI 64) h = _
      unfold fM_X8_airOf_53
      rw [if_pos (show (64 : Int32) ≤ nI 64 from by decide)]
  obtain ⟨m, u2, x7, x0, x2, x3⟩ := L2
  refine ⟨m, x7, u1.trans u2, x2, fun ρ2 η2 s => ?_⟩
  rcases s.2.2 with ⟨o, c⟩ | ⟨k, t1, t2, t3⟩
  · exact x3 ρ2 η2 s.1 s.2.1 (by have := s.1; have := s.2.1; omega) o c
  · have := m3 ρ2 η2 s.1 s.2.1 ⟨k, t1, t2, t3⟩
    omega
/-- air on both sides -/
theorem r_air {R H : Nat} {g h : z_G} (q1 : rDim R H g h) (q2 : rFix R H g) (p15 : rEq R H 15 8 g h) (q7 : rHoles R H g h) {wd : Nat} (hw : wd ≤ 3) (a0 : Int32) (hf : ∀ c, c < 64 → h 5 c = 0 ∨ h 5 c = 1) : ∃ g1 h1 : z_G, fY_X2_breathe_r2 (4 + nI wd) g = some (0, g1) ∧ fM_X8_works_5_go a0 (nI wd) 0 0 h = fM_X8_works_76_go a0 (nI wd) 0 0 h1 ∧ z_ag (z_tch [16] []) g g1 ∧ z_ag (z_tch [9, 26, 27] []) h h1 ∧ (∀ ρ η, ρ < R → η < H → ∃ a : Nat, a ≤ 7 ∧ g1 16 (ρ * H + η) = nI a ∧ h1 9 (η * 8 + ρ) = nI a) ∧ ∀ c, c < 64 → h1 26 c = h 4 c ∧ h1 27 c = h 5 c := by
  obtain ⟨b, e1, e2, e3, e4, e5⟩ := id q1
  obtain ⟨n, hn, n1, n2, hj⟩ := id q7
  obtain ⟨b1, b2, b3, b4⟩ := id b
  obtain ⟨g1, u1, f1⟩ := y_breathe (S := 4 + wd) b e1 e2 e3 (by omega) hn n1 (fun k hk => by obtain ⟨-, -, ρ, η, k1, k2, -, k3, -⟩ := hj k hk; exact ⟨ρ, η, k1, k2, k3⟩) q2
  have e0 : (4 : Int32) + nI wd = nI (4 + wd) := by rw [show (4 : Int32) = nI 4 from rfl, nI_add]
  have L : ∃ h1 : z_G, fM_X8_works_5_go a0 (nI wd) 0 0 h = fM_X8_works_76_go a0 (nI wd) 0 0 h1 ∧ z_ag (z_tch [9, 26, 27] []) h h1 ∧ ∀ c, c < 64 → h1 26 c = h 4 c ∧ h1 27 c = h 5 c ∧ ∀ ρ η, ρ < R → η < H → c = η * 8 + ρ → ∃ a : Nat, a ≤ 7 ∧ h1 9 c = nI a ∧ kAir (kSrc R H n g) (4 + wd) ρ η a := by
    unfold fM_X8_works_5_go
    refine z_pfor (step := fun k (w : Int32 × Int32 × Int32 × Int32 × z_G) => fM_X8_works_5 k w.1 w.2.1 w.2.2.1 w.2.2.2.1 w.2.2.2.2) (fun j s => (a0, nI wd, 0, nI j, s)) (fun s => fM_X8_works_76_go a0 (nI wd) 0 0 s) 64 (z_fuel_big (by omega)) (fun j s => z_ag (z_tch [9, 26, 27] []) h s ∧ ∀ c, c < j → s 26 c = h 4 c ∧ s 27 c = h 5 c ∧ ∀ ρ η, ρ < R → η < H → c = η * 8 + ρ → ∃ a : Nat, a ≤ 7 ∧ s 9 c = nI a ∧ kAir (kSrc R H n g) (4 + wd) ρ η a) (fun k j s hjn hp => ?_) (fun k s hp => ?_) h ⟨fr_rf, fun c hc => absurd hc (Nat.not_lt_zero c)⟩
    · obtain ⟨gs, hp⟩ := hp
      obtain ⟨ρ0, η0, k1, k2, ej⟩ : ∃ ρ0 η0, ρ0 < 8 ∧ η0 < 8 ∧ j = η0 * 8 + ρ0 := ⟨j % 8, j / 8, by omega, by omega, by omega⟩
      have ec : j % 8 = ρ0 := by omega
      have ed : j / 8 = η0 := by omega
      have d3 : vp_in (nI j) 64 := vp_in_nI (by omega) (by omega)
      have d4 : (nI j).toNatClampNeg = j := nI_clamp (by omega)
      have x4 := (gs 0 1 rfl).trans e4
      have x5 := (gs 0 2 rfl).trans e5
      have w38 : ∀ x : Int32, fM_X8_works_38 k x (nI j) a0 (nI wd) 0 (nI j) s = k (a0, nI wd, 0, nI (j + 1), z_up (z_up (z_up s 9 j x) 26 j (h 4 j)) 27 j (h 5 j)) := by
        intro x
        have y4 : z_up s 9 j x 4 j = h 4 j := by rw [z_up_row _ _ _ _ (by decide)]; exact gs 4 j rfl
        have y5 : z_up (z_up s 9 j x) 26 j (h 4 j) 5 j = h 5 j := by rw [z_up_row _ _ _ _ (by decide), z_up_row _ _ _ _ (by decide)]; exact gs 5 j rfl
        unfold fM_X8_works_38
        rw [z_ck_in _ d3, d4, z_let_eq, z_ck_in _ d3, z_ck_in _ d3, z_let_eq, y4, z_ck_in _ d3, z_ck_in _ d3, z_let_eq, y5, z_let_eq, nI_1, nar01 (hf j hjn)]
      have post : ∀ x : Int32, (∀ t1 : ρ0 < R, ∀ t2 : η0 < H, ∃ a : Nat, a ≤ 7 ∧ x = nI a ∧ kAir (kSrc R H n g) (4 + wd) ρ0 η0 a) → z_ag (z_tch [9, 26, 27] []) h (z_up (z_up (z_up s 9 j x) 26 j (h 4 j)) 27 j (h 5 j)) ∧ ∀ c, c < j + 1 → z_up (z_up (z_up s 9 j x) 26 j (h 4 j)) 27 j (h 5 j) 26 c = h 4 c ∧ z_up (z_up (z_up s 9 j x) 26 j (h 4 j)) 27 j (h 5 j) 27 c = h 5 c ∧ ∀ ρ η, ρ < R → η < H → c = η * 8 + ρ → ∃ a : Nat, a ≤ 7 ∧ z_up (z_up (z_up s 9 j x) 26 j (h 4 j)) 27 j (h 5 j) 9 c = nI a ∧ kAir (kSrc R H n g) (4 + wd) ρ η a := by
        intro x hx
        refine ⟨fr_up (fr_up (fr_up gs rfl) rfl) rfl, fun c hc => ?_⟩
        by_cases e : c = j
        · subst e
          refine ⟨by simp [z_up_at], by simp [z_up_at], fun ρ η t1 t2 t3 => ?_⟩
          have e1 : ρ = ρ0 := by omega
          have e2 : η = η0 := by omega
          subst e1 e2
          obtain ⟨a, a7, ea, ka⟩ := hx t1 t2
          exact ⟨a, a7, by simp [z_up_at, ea], ka⟩
        · obtain ⟨v1, v2, v3⟩ := hp c (by omega)
          refine ⟨by simp [z_up_at, e, v1], by simp [z_up_at, e, v2], fun ρ η t1 t2 t3 => ?_⟩
          obtain ⟨a, a7, ea, ka⟩ := v3 ρ η t1 t2 t3
          exact ⟨a, a7, by simp [z_up_at, e, ea], ka⟩
      by_cases ci : ρ0 < R ∧ η0 < H
      · obtain ⟨a, a7, u, ka⟩ := m_airOf (g := g) (h := s) b x4 x5 hn ((gs 0 13 rfl).trans n2) (fun k9 hk9 => by obtain ⟨t1, -, ρ, η, k1, k2, -, k3, k4⟩ := hj k9 hk9; exact ⟨by rw [t1, gs 12 k9 rfl], ρ, η, k1, k2, k3, by rw [gs 11 k9 rfl, k4]⟩) (rEq_cg p15 rfl (funext fun j => gs 8 j rfl)) hw ci.1 ci.2
        rw [← ej] at u
        refine ⟨_, ?_, post (nI a) (fun _ _ => ⟨a, a7, rfl, ka⟩)⟩
        show fM_X8_works_5 k a0 (nI wd) 0 (nI j) s = _
        unfold fM_X8_works_5
        rw [if_neg (zn_64 hjn), m_isInside b x4 x5 hjn, z_bind_nd, ec, ed, if_pos ci, if_neg (by decide), u, z_bind_nd, w38]
      · refine ⟨_, ?_, post 0 (fun t1 t2 => absurd ⟨t1, t2⟩ ci)⟩
        show fM_X8_works_5 k a0 (nI wd) 0 (nI j) s = _
        unfold fM_X8_works_5
        rw [if_neg (zn_64 hjn), m_isInside b x4 x5 hjn, z_bind_nd, ec, ed, if_neg ci, if_pos rfl, w38]
    · show fM_X8_works_5 k a0 (nI wd) 0 (nI 64) s = _
      unfold fM_X8_works_5
      rw [if_pos (show (64 : Int32) ≤ nI 64 from by decide)]
  obtain ⟨h1, u2, f2, f3⟩ := L
  refine ⟨g1, h1, by rw [e0]; exact u1, u2, frY_X2_breathe_r2 _ _ _ _ u1, f2, fun ρ η k1 k2 => ?_, fun c hc => ⟨(f3 c hc).1, (f3 c hc).2.1⟩⟩
  obtain ⟨a, a7, ea, ka⟩ := f1 ρ η k1 k2
  obtain ⟨a2, -, ea2, ka2⟩ := (f3 (η * 8 + ρ) (by omega)).2.2 ρ η k1 k2 rfl
  exact ⟨a, a7, ea, by rw [ea2, kAir_one ka ka2]⟩
