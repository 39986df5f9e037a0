/-! loops by an invariant; a clamp built anew: clamp, rake -/
theorem z_pfor_at {S α σ : Type} {step : (S → Option α) → S → Option α} (mk : Nat → σ → S) (E : σ → Option α) (n : Nat) (P : Nat → σ → Prop) (hs : ∀ (k : S → Option α) (j : Nat) (s : σ), j < n → P j s → ∃ s' : σ, step k (mk j s) = k (mk (j + 1) s') ∧ P (j + 1) s') (he : ∀ (k : S → Option α) (s : σ), P n s → step k (mk n s) = E s) : ∀ (d fuel j : Nat) (s : σ), j + d = n → d < fuel → P j s → ∃ s' : σ, z_loop step fuel (mk j s) = E s' ∧ P n s'
  | _, 0, _, _, _, hf, _ => absurd hf (Nat.not_lt_zero _)
  | 0, f + 1, j, s, e, _, hp => by
    have e : j = n := by omega
    subst e
    exact ⟨s, he _ s hp, hp⟩
  | d + 1, f + 1, j, s, e, hf, hp => by
    obtain ⟨s', h1, h2⟩ := hs (z_loop step f) j s (by omega) hp
    obtain ⟨s2, h3, h4⟩ := z_pfor_at mk E n P hs he d f (j + 1) s' (by omega) (by omega) h2
    exact ⟨s2, h1.trans h3, h4⟩
theorem z_pfor {S α σ : Type} {step : (S → Option α) → S → Option α} (mk : Nat → σ → S) (E : σ → Option α) (n : Nat) (hn : n < z_fuel) (P : Nat → σ → Prop) (hs : ∀ (k : S → Option α) (j : Nat) (s : σ), j < n → P j s → ∃ s' : σ, step k (mk j s) = k (mk (j + 1) s') ∧ P (j + 1) s') (he : ∀ (k : S → Option α) (s : σ), P n s → step k (mk n s) = E s) (s : σ) (h0 : P 0 s) : ∃ s' : σ, z_loop step z_fuel (mk 0 s) = E s' ∧ P n s' :=
  z_pfor_at mk E n P hs he n z_fuel 0 s (by omega) hn h0
/-- a loop in a loop -/
theorem z_pfor2 {S1 S2 α σ : Type} {st1 : (S1 → Option α) → S1 → Option α} {st2 : (S1 → Option α) → (S2 → Option α) → S2 → Option α} (mk1 : Nat → σ → S1) (mk2 : Nat → Nat → σ → S2) (E : σ → Option α) (R H : Nat) (hR : R < z_fuel) (hH : H < z_fuel) (P : Nat → σ → Prop) (h1 : ∀ (k : S1 → Option α) (ρ : Nat) (s : σ), ρ < R → P (ρ * H) s → st1 k (mk1 ρ s) = z_loop (st2 k) z_fuel (mk2 ρ 0 s)) (h2 : ∀ (k : S1 → Option α) (k2 : S2 → Option α) (ρ η : Nat) (s : σ), ρ < R → η < H → P (ρ * H + η) s → ∃ s' : σ, st2 k k2 (mk2 ρ η s) = k2 (mk2 ρ (η + 1) s') ∧ P (ρ * H + η + 1) s') (h3 : ∀ (k : S1 → Option α) (k2 : S2 → Option α) (ρ : Nat) (s : σ), ρ < R → P ((ρ + 1) * H) s → st2 k k2 (mk2 ρ H s) = k (mk1 (ρ + 1) s)) (he : ∀ (k : S1 → Option α) (s : σ), P (R * H) s → st1 k (mk1 R s) = E s) (s : σ) (h0 : P 0 s) : ∃ s' : σ, z_loop st1 z_fuel (mk1 0 s) = E s' ∧ P (R * H) s' := by
  refine z_pfor mk1 E R hR (fun ρ s => P (ρ * H) s) (fun k ρ s hρ hp => ?_) he s (by rw [Nat.zero_mul]; exact h0)
  obtain ⟨s', e, hp'⟩ := z_pfor (step := st2 k) (mk2 ρ) (fun s => k (mk1 (ρ + 1) s)) H hH (fun η s => P (ρ * H + η) s) (fun k2 η s hη hp => h2 k k2 ρ η s hρ hη hp) (fun k2 s hp => h3 k k2 ρ s hρ (by rw [Nat.succ_mul]; exact hp)) s hp
  exact ⟨s', (h1 k ρ s hρ hp).trans e, by rw [Nat.succ_mul]; exact hp'⟩
theorem nar0 : vp_nar .boolean 0 = 0 := rfl
theorem nar1 : vp_nar .boolean 1 = 1 := rfl
theorem zn_stop {n : Nat} (hn : n < 2 ^ 31) {j : Nat} (hj : j < n) : ¬ nI n ≤ nI j := nI_ge hj hn
/-- rows filled -/
theorem y_fill17 (x : Int32) (g : z_G) : ∃ g', fY_J7_fill_53178_r17 x g = some (0, g') ∧ ∀ i, i < 64 → g' 17 i = x := by
  unfold fY_J7_fill_53178_r17 fY_J7_fill_53178_r17_5_go
  refine z_pfor (step := fun k (w : Int32 × Int32 × Int32 × z_G) => fY_J7_fill_53178_r17_5 k w.1 w.2.1 w.2.2.1 w.2.2.2) (fun j g => (x, nI j, 64, g)) (fun g => some (0, g)) 64 (z_fuel_big (by omega)) (fun j g => ∀ i, i < j → g 17 i = x) (fun k j s hj hp => ⟨z_up s 17 j x, ?_, ?_⟩) (fun k s hp => ?_) g (fun i hi => absurd hi (Nat.not_lt_zero i))
  · simp [fY_J7_fill_53178_r17_5, zn_64 hj, z_ck_in _ (vp_in_nI (n := j) (N := 64) (by omega) (by omega)), nI_clamp (show j < 2 ^ 31 by omega), z_let_eq, nI_1]
  · intro i hi
    by_cases e : i = j
    · simp [e, z_up_at]
    · simp [e, z_up_at, hp i (by omega)]
  · simp [fY_J7_fill_53178_r17_5, show (64 : Int32) ≤ nI 64 from by decide]
theorem y_fill18 (x : Int32) (g : z_G) : ∃ g', fY_J7_fill_53178_r18 x g = some (0, g') ∧ ∀ i, i < 64 → g' 18 i = x := by
  unfold fY_J7_fill_53178_r18 fY_J7_fill_53178_r18_5_go
  refine z_pfor (step := fun k (w : Int32 × Int32 × Int32 × z_G) => fY_J7_fill_53178_r18_5 k w.1 w.2.1 w.2.2.1 w.2.2.2) (fun j g => (x, nI j, 64, g)) (fun g => some (0, g)) 64 (z_fuel_big (by omega)) (fun j g => ∀ i, i < j → g 18 i = x) (fun k j s hj hp => ⟨z_up s 18 j x, ?_, ?_⟩) (fun k s hp => ?_) g (fun i hi => absurd hi (Nat.not_lt_zero i))
  · simp [fY_J7_fill_53178_r18_5, zn_64 hj, z_ck_in _ (vp_in_nI (n := j) (N := 64) (by omega) (by omega)), nI_clamp (show j < 2 ^ 31 by omega), z_let_eq, nI_1]
  · intro i hi
    by_cases e : i = j
    · simp [e, z_up_at]
    · simp [e, z_up_at, hp i (by omega)]
  · simp [fY_J7_fill_53178_r18_5, show (64 : Int32) ≤ nI 64 from by decide]
theorem y_fill20 (x : Int32) (g : z_G) : ∃ g', fY_J7_fill_53178_r20 x g = some (0, g') ∧ ∀ i, i < 64 → g' 20 i = x := by
  unfold fY_J7_fill_53178_r20 fY_J7_fill_53178_r20_5_go
  refine z_pfor (step := fun k (w : Int32 × Int32 × Int32 × z_G) => fY_J7_fill_53178_r20_5 k w.1 w.2.1 w.2.2.1 w.2.2.2) (fun j g => (x, nI j, 64, g)) (fun g => some (0, g)) 64 (z_fuel_big (by omega)) (fun j g => ∀ i, i < j → g 20 i = x) (fun k j s hj hp => ⟨z_up s 20 j x, ?_, ?_⟩) (fun k s hp => ?_) g (fun i hi => absurd hi (Nat.not_lt_zero i))
  · simp [fY_J7_fill_53178_r20_5, zn_64 hj, z_ck_in _ (vp_in_nI (n := j) (N := 64) (by omega) (by omega)), nI_clamp (show j < 2 ^ 31 by omega), z_let_eq, nI_1]
  · intro i hi
    by_cases e : i = j
    · simp [e, z_up_at]
    · simp [e, z_up_at, hp i (by omega)]
  · simp [fY_J7_fill_53178_r20_5, show (64 : Int32) ≤ nI 64 from by decide]
theorem y_dampOf {g : z_G} {i : Nat} (hi : i < 64) (hk : vp_in (g 18 i) 4) : fY_X2_dampOf (nI i) g = some (kDampOf g i, g) := by
  unfold fY_X2_dampOf fY_X2_dampOf_30 kDampOf
  have d3 : vp_in (nI i) 64 := vp_in_nI hi (by omega)
  have d4 : (nI i).toNatClampNeg = i := nI_clamp (by omega)
  by_cases c : g 17 i ≤ 0
  · have c2 : ¬ 0 < g 17 i := fun h => zn_nle.mpr h c
    simp [d3, d4, z_ck_in, c, c2]
  · have c2 : 0 < g 17 i := zn_nle.mp c
    simp [d3, d4, z_ck_in, c, c2, hk]
/-- back to what was laid -/
theorem y_laid {g : z_G} {n : Nat} (hn : n ≤ 64) (e : g 1 4 = nI n) (hk : ∀ i, i < n → vp_in (g 18 i) 4) : ∃ g', fY_X2_backToLaid g = some (0, g') ∧ (∀ i, i < n → g' 10 i = g 17 i ∧ g' 11 i = 0 ∧ g' 12 i = kDampOf g i ∧ g' 13 i = 0 ∧ g' 14 i = 0 ∧ g' 15 i = g 20 i ∧ g' 16 i = 0 ∧ g' 19 i = -1) ∧ g' 1 2 = 0 ∧ g' 1 3 = 0 := by
  unfold fY_X2_backToLaid fY_X2_backToLaid_12_go
  simp only [z_let_eq]
  have key := z_pfor (step := fun k (w : Int32 × z_G) => fY_X2_backToLaid_12 k w.1 w.2) (fun j g => (nI j, g)) (fun g => some (0, g)) n (z_fuel_big (by omega)) (fun j s => (∀ i, i < j → s 10 i = g 17 i ∧ s 11 i = 0 ∧ s 12 i = kDampOf g i ∧ s 13 i = 0 ∧ s 14 i = 0 ∧ s 15 i = g 20 i ∧ s 16 i = 0 ∧ s 19 i = -1) ∧ (s 1 2 = 0 ∧ s 1 3 = 0) ∧ s 1 4 = nI n ∧ s 17 = g 17 ∧ s 18 = g 18 ∧ s 8 = g 8 ∧ s 20 = g 20) (fun k j s hj hp => ?_) (fun k s hp => ?_) (z_up (z_up g 1 2 0) 1 3 0) ⟨fun i hi => absurd hi (Nat.not_lt_zero i), ⟨by simp [z_up_at], by simp [z_up_at]⟩, by simp [z_up_at, e], by simp [z_up_row], by simp [z_up_row], by simp [z_up_row], by simp [z_up_row]⟩
  · obtain ⟨s', h1, h2, h3, h4⟩ := key
    exact ⟨s', h1, h2, h3.1, h3.2⟩
  · obtain ⟨p1, ⟨p2, p3⟩, p4, p5, p6, p7, p8⟩ := hp
    have d3 : vp_in (nI j) 64 := vp_in_nI (by omega) (by omega)
    have d4 : (nI j).toNatClampNeg = j := nI_clamp (by omega)
    have dd : ∀ s2 : z_G, s2 17 = g 17 → s2 18 = g 18 → s2 8 = g 8 → fY_X2_dampOf (nI j) s2 = some (kDampOf g j, s2) := by
      intro s2 t1 t2 t3
      rw [y_dampOf (by omega) (by rw [t2]; exact hk j hj)]
      unfold kDampOf
      rw [t1, t2, t3]
    refine ⟨z_up (z_up (z_up (z_up (z_up (z_up (z_up (z_up s 10 j (g 17 j)) 11 j 0) 12 j (kDampOf g j)) 13 j 0) 14 j 0) 15 j (g 20 j)) 16 j 0) 19 j (-1), ?_, ?_⟩
    · have t := dd (z_up (z_up s 10 j (g 17 j)) 11 j 0) (by rw [z_up_row _ _ _ _ (by decide), z_up_row _ _ _ _ (by decide), p5]) (by rw [z_up_row _ _ _ _ (by decide), z_up_row _ _ _ _ (by decide), p6]) (by rw [z_up_row _ _ _ _ (by decide), z_up_row _ _ _ _ (by decide), p7])
      unfold fY_X2_backToLaid_12
      simp only [z_let_eq, p4, if_neg (zn_stop (show n < 2 ^ 31 by omega) hj), z_ck_in _ d3, d4, p5, t, z_bind_some]
      simp [z_up_at, p8, nI_1]
    · refine ⟨fun i hi => ?_, ⟨by simp [z_up_at, p2], by simp [z_up_at, p3]⟩, by simp [z_up_at, p4], by simp [z_up_row, p5], by simp [z_up_row, p6], by simp [z_up_row, p7], by simp [z_up_row, p8]⟩
      by_cases c : i = j
      · simp [c, z_up_at]
      · have := p1 i (by omega)
        simpa [c, z_up_at] using this
  · simp [fY_X2_backToLaid_12, hp.2.2.1]
theorem zn_eqpI {a R : Nat} (h0 : 1 ≤ R) (hR : R ≤ 8) (ha : a < 64) : (nI a = nI R - 1) = (a + 1 = R) := propext (zn_eqp h0 hR ha)
/-- a clamp built: its loop -/
theorem y_bloop {R H : Nat} (b : 1 ≤ R ∧ R ≤ 8 ∧ 1 ≤ H ∧ H ≤ 8) {g3 : z_G} (t1 : g3 1 0 = nI R) (t2 : g3 1 1 = nI H) : ∃ s', fY_X2_build_43_go 0 g3 = z_bind (fY_X2_backToLaid s') (fun r14 g15 => some (0, g15)) ∧ (∀ ρ η, ρ < R → η < H → ρ * H + η < R * H → s' 8 (ρ * H + η) = nI (2 * ρ + 1) ∧ s' 9 (ρ * H + η) = (if ρ + 1 = R ∨ η + 1 = H then 1 else 0)) ∧ s' 1 = g3 1 ∧ s' 17 = g3 17 ∧ s' 18 = g3 18 ∧ s' 20 = g3 20 := by
  obtain ⟨b1, b2, b3, b4⟩ := id b
  have hn : R * H ≤ 64 := zc_64 b2 b4
  unfold fY_X2_build_43_go
  rw [← nI_0]
  refine z_pfor2 (st1 := fun k (w : Int32 × z_G) => fY_X2_build_43 k w.1 w.2) (st2 := fun k43 k (w : Int32 × Int32 × z_G) => fY_X2_build_54 k43 k w.1 w.2.1 w.2.2) (fun ρ g => (nI ρ, g)) (fun ρ η g => (nI ρ, nI η, g)) (fun g => z_bind (fY_X2_backToLaid g) (fun r14 g15 => some (nI 0, g15))) R H (z_fuel_big (by omega)) (z_fuel_big (by omega)) (fun n s => (∀ ρ η, ρ < R → η < H → ρ * H + η < n → s 8 (ρ * H + η) = nI (2 * ρ + 1) ∧ s 9 (ρ * H + η) = (if ρ + 1 = R ∨ η + 1 = H then 1 else nI 0)) ∧ s 1 = g3 1 ∧ s 17 = g3 17 ∧ s 18 = g3 18 ∧ s 20 = g3 20) (fun k ρ s hρ hp => ?_) (fun k k2 ρ η s hρ hη hp => ?_) (fun k k2 ρ s hρ hp => ?_) (fun k s hp => ?_) g3 ⟨fun ρ η _ _ h => absurd h (Nat.not_lt_zero _), rfl, rfl, rfl, rfl⟩
  · obtain ⟨p1, p2, p3, p4, p5⟩ := hp
    show fY_X2_build_43 k (nI ρ) s = fY_X2_build_54_go k (nI ρ) (nI 0) s
    unfold fY_X2_build_43
    rw [p2, t1, if_neg (zn_stop (show R < 2 ^ 31 by omega) hρ), nI_0]
  · obtain ⟨p1, p2, p3, p4, p5⟩ := hp
    have hlt : ρ * H + η < 64 := Nat.lt_of_lt_of_le (zc_lt hρ hη) hn
    have d3 : vp_in (nI (ρ * H + η)) 64 := vp_in_nI hlt (by omega)
    have d4 : (nI (ρ * H + η)).toNatClampNeg = ρ * H + η := nI_clamp (by omega)
    have w : (2 : Int32) * nI ρ + 1 = nI (2 * ρ + 1) := by rw [show (2 : Int32) = nI 2 from rfl, pk_mul, nI_1]
    refine ⟨z_up (z_up s 8 (ρ * H + η) (nI (2 * ρ + 1))) 9 (ρ * H + η) (if ρ + 1 = R ∨ η + 1 = H then 1 else 0), ?_, ?_⟩
    · show fY_X2_build_54 k k2 (nI ρ) (nI η) s = k2 (nI ρ, nI (η + 1), _)
      unfold fY_X2_build_54 fY_X2_build_111 fY_X2_build_116 fY_X2_at
      simp only [p2, t2, if_neg (zn_stop (show H < 2 ^ 31 by omega) hη), z_bind_some, pk_mul, nI_add, z_ck_in _ d3, d4, z_let_eq, w, nI_1, nar0, nar1, z_up_row _ 8 _ _ (show 1 ≠ 8 by decide), t1, zn_eqpI b1 b2 (show ρ < 64 by omega), zn_eqpI b3 b4 (show η < 64 by omega)]
      by_cases c1 : ρ + 1 = R
      · simp [c1]
      · by_cases c2 : η + 1 = H
        · simp [c1, c2]
        · simp [c1, c2]
    · refine ⟨fun ρ2 η2 k1 k2 k3 => ?_, by rw [z_up_row _ _ _ _ (by decide), z_up_row _ _ _ _ (by decide), p2], by rw [z_up_row _ _ _ _ (by decide), z_up_row _ _ _ _ (by decide), p3], by rw [z_up_row _ _ _ _ (by decide), z_up_row _ _ _ _ (by decide), p4], by rw [z_up_row _ _ _ _ (by decide), z_up_row _ _ _ _ (by decide), p5]⟩
      by_cases c : ρ2 * H + η2 = ρ * H + η
      · obtain ⟨rfl, rfl⟩ := zc_inj k2 hη c
        simp [z_up_at, nI_0]
      · have := p1 ρ2 η2 k1 k2 (by omega)
        simpa [c, z_up_at] using this
  · obtain ⟨p1, p2, p3, p4, p5⟩ := hp
    show fY_X2_build_54 k k2 (nI ρ) (nI H) s = k (nI (ρ + 1), s)
    unfold fY_X2_build_54
    rw [p2, t2, if_pos (nI_le (Nat.le_refl H) (by omega)), nI_1]
    rfl
  · obtain ⟨p1, p2, p3, p4, p5⟩ := hp
    show fY_X2_build_43 k (nI R) s = _
    unfold fY_X2_build_43
    rw [p2, t1, if_pos (nI_le (Nat.le_refl R) (by omega)), nI_0]
theorem z_bind_nd {α : Type} (r : Int32) (g : z_G) (k : Int32 → z_G → Option α) : z_bind (some (r, g)) k = k r g := by rw [z_bind_some]
/-- a clamp built -/
theorem y_build {R H : Nat} (b : 1 ≤ R ∧ R ≤ 8 ∧ 1 ≤ H ∧ H ≤ 8) (g : z_G) : ∃ g', fY_X2_build (nI R) (nI H) g = some (0, g') ∧ (g' 1 0 = nI R ∧ g' 1 1 = nI H ∧ g' 1 4 = nI (R * H)) ∧ rFix R H g' ∧ (∀ i, i < R * H → g' 10 i = 0 ∧ g' 11 i = 0 ∧ g' 12 i = 0 ∧ g' 13 i = 0 ∧ g' 14 i = 0 ∧ g' 15 i = 5 ∧ g' 16 i = 0 ∧ g' 17 i = 0 ∧ g' 18 i = 0 ∧ g' 19 i = -1) ∧ g' 1 2 = 0 ∧ g' 1 3 = 0 := by
  obtain ⟨b1, b2, b3, b4⟩ := id b
  have hn : R * H ≤ 64 := zc_64 b2 b4
  unfold fY_X2_build
  rw [z_let_eq, z_let_eq, z_let_eq, pk_mul]
  obtain ⟨g1, e1, f1⟩ := y_fill17 0 (z_up (z_up (z_up g 1 0 (nI R)) 1 1 (nI H)) 1 4 (nI (R * H)))
  have a1 : z_ag (z_tch [17] []) _ g1 := frY_J7_fill_53178_r17 0 _ 0 g1 e1
  obtain ⟨g2, e2, f2⟩ := y_fill18 0 g1
  have a2 : z_ag (z_tch [18] []) _ g2 := frY_J7_fill_53178_r18 0 _ 0 g2 e2
  obtain ⟨g3, e3, f3⟩ := y_fill20 5 g2
  have a3 : z_ag (z_tch [20] []) _ g3 := frY_J7_fill_53178_r20 5 _ 0 g3 e3
  rw [e1, z_bind_nd, e2, z_bind_nd, e3, z_bind_nd]
  have t1 : g3 1 0 = nI R := by rw [a3 1 0 rfl, a2 1 0 rfl, a1 1 0 rfl]; simp [z_up_at]
  have t2 : g3 1 1 = nI H := by rw [a3 1 1 rfl, a2 1 1 rfl, a1 1 1 rfl]; simp [z_up_at]
  have t3 : g3 1 4 = nI (R * H) := by rw [a3 1 4 rfl, a2 1 4 rfl, a1 1 4 rfl]; simp [z_up_at]
  have t4 : ∀ i, i < 64 → g3 17 i = 0 := fun i hi => by rw [a3 17 i rfl, a2 17 i rfl, f1 i hi]
  have t5 : ∀ i, i < 64 → g3 18 i = 0 := fun i hi => by rw [a3 18 i rfl, f2 i hi]
  obtain ⟨s', h1, h2, h3, h4, h5⟩ := y_bloop b t1 t2
  have q14 : s' 1 4 = nI (R * H) := by rw [h3]; exact t3
  obtain ⟨g4, e4, f4, f5, f6⟩ := y_laid hn q14 (fun i hi => by rw [h5.1, t5 i (by omega)]; exact vp_in_nI (n := 0) (N := 4) (by omega) (by omega))
  have a4 : z_ag (z_tch [10, 11, 12, 13, 14, 15, 16, 19] [(1, 2), (1, 3)]) _ g4 := frY_X2_backToLaid _ 0 g4 e4
  refine ⟨g4, by rw [h1, e4, z_bind_nd], ⟨?_, ?_, ?_⟩, ?_, ?_, f5, f6⟩
  · rw [a4 1 0 rfl, h3, t1]
  · rw [a4 1 1 rfl, h3, t2]
  · rw [a4 1 4 rfl, h3, t3]
  · intro ρ η hρ hη
    rw [a4 8 (ρ * H + η) rfl, a4 9 (ρ * H + η) rfl]
    exact h2 ρ η hρ hη (zc_lt hρ hη)
  · intro i hi
    obtain ⟨u1, u2, u3, u4, u5, u6, u7, u8⟩ := f4 i hi
    have z17 : s' 17 i = 0 := by rw [h4]; exact t4 i (by omega)
    refine ⟨by rw [u1, z17], u2, ?_, u4, u5, by rw [u6, h5.2, f3 i (by omega)], u7, by rw [a4 17 i rfl, z17], by rw [a4 18 i rfl, h5.1, t5 i (by omega)], u8⟩
    rw [u3]
    unfold kDampOf
    rw [z17]; rfl
/-- the reference's new clamp -/
theorem m_empties (h : z_G) : ∃ h', fM_X8_empties h = some (0, h') ∧ (∀ c, c < 64 → h' 1 c = 0 ∧ h' 2 c = 0 ∧ h' 3 c = 0 ∧ h' 4 c = 0 ∧ h' 5 c = 0 ∧ h' 6 c = 0 ∧ h' 7 c = 0 ∧ h' 8 c = 5 ∧ h' 9 c = 0 ∧ h' 10 c = -1) ∧ h' 0 20 = 0 ∧ h' 0 21 = 0 ∧ h' 0 22 = 0 ∧ h' 0 23 = 0 ∧ h' 0 26 = 0 := by
  unfold fM_X8_empties fM_X8_empties_2_go
  have key := z_pfor (step := fun k (w : Int32 × z_G) => fM_X8_empties_2 k w.1 w.2) (fun j g => (nI j, g)) (fun g => some (0, z_up (z_up (z_up (z_up (z_up g 0 20 0) 0 21 0) 0 22 0) 0 23 0) 0 26 0)) 64 (z_fuel_big (by omega)) (fun j s => ∀ c, c < j → s 1 c = 0 ∧ s 2 c = 0 ∧ s 3 c = 0 ∧ s 4 c = 0 ∧ s 5 c = 0 ∧ s 6 c = 0 ∧ s 7 c = 0 ∧ s 8 c = 5 ∧ s 9 c = 0 ∧ s 10 c = -1) (fun k j s hj hp => ?_) (fun k s hp => ?_) h (fun i hi => absurd hi (Nat.not_lt_zero i))
  · obtain ⟨s', h1, h2⟩ := key
    refine ⟨_, h1, ?_, ?_⟩
    · intro c hc
      have := h2 c hc
      simpa [z_up_at] using this
    · simp [z_up_at]
  · have d3 : vp_in (nI j) 64 := vp_in_nI (by omega) (by omega)
    have d4 : (nI j).toNatClampNeg = j := nI_clamp (by omega)
    refine ⟨z_up (z_up (z_up (z_up (z_up (z_up (z_up (z_up (z_up (z_up s 1 j 0) 2 j 0) 3 j 0) 4 j 0) 5 j 0) 6 j 0) 7 j 0) 8 j 5) 9 j 0) 10 j (-1), ?_, ?_⟩
    · unfold fM_X8_empties_2
      simp only [if_neg (zn_64 hj), z_ck_in _ d3, d4, z_let_eq, nar0, nI_1]
    · intro c hc
      by_cases e : c = j
      · simp [e, z_up_at]
      · have := hp c (by omega)
        simpa [e, z_up_at] using this
  · unfold fM_X8_empties_2
    rw [if_pos (show (64 : Int32) ≤ nI 64 from by decide)]
    rfl
/-- both new: what holds then of the clamp -/
theorem r_new {R H : Nat} (b : 1 ≤ R ∧ R ≤ 8 ∧ 1 ≤ H ∧ H ≤ 8) {g h : z_G} (y1 : g 1 0 = nI R ∧ g 1 1 = nI H ∧ g 1 4 = nI (R * H)) (y2 : rFix R H g) (y3 : ∀ i, i < R * H → g 10 i = 0 ∧ g 11 i = 0 ∧ g 12 i = 0 ∧ g 13 i = 0 ∧ g 14 i = 0 ∧ g 15 i = 5 ∧ g 16 i = 0 ∧ g 17 i = 0 ∧ g 18 i = 0 ∧ g 19 i = -1) (y4 : g 1 2 = 0 ∧ g 1 3 = 0) (y5 : g 0 7 = 0 ∧ g 3 0 = 0 ∧ g 3 7 = 0) (m1 : h 0 1 = nI R ∧ h 0 2 = nI H) (m2 : ∀ c, c < 64 → h 1 c = 0 ∧ h 2 c = 0 ∧ h 3 c = 0 ∧ h 4 c = 0 ∧ h 5 c = 0 ∧ h 6 c = 0 ∧ h 7 c = 0 ∧ h 8 c = 5 ∧ h 9 c = 0 ∧ h 10 c = -1) (m3 : h 0 20 = 0 ∧ h 0 21 = 0 ∧ h 0 22 = 0 ∧ h 0 23 = 0 ∧ h 0 26 = 0) (e8 : g 0 8 = h 0 24) (e9 : g 0 9 = h 0 25) (q7 : rHoles R H g h) (q12 : rRules g h) : rAll R H g h := by
  obtain ⟨b1, b2, b3, b4⟩ := id b
  have hc : ∀ ρ η, ρ < R → η < H → η * 8 + ρ < 64 := fun ρ η h1 h2 => by omega
  have hw : ∀ i, i < R * H → kDampOf g i = 0 := fun i hi => by unfold kDampOf; rw [(y3 i hi).2.2.2.2.2.2.2.1]; rfl
  refine ⟨⟨b, y1.1, y1.2.1, y1.2.2, m1.1, m1.2⟩, y2, ?_, ?_, ?_, ?_, q7, ?_, ?_, ?_, ?_, q12⟩
  · refine ⟨?_, ?_, ?_, ?_, ?_, ?_, ?_, ?_, ?_, ?_⟩ <;> (intro ρ η h1 h2; obtain ⟨u1, u2, u3, u4, u5, u6, u7, u8, u9, u10⟩ := y3 _ (zc_lt h1 h2); obtain ⟨v1, v2, v3, v4, v5, v6, v7, v8, v9, v10⟩ := m2 _ (hc ρ η h1 h2))
    · rw [u1, v1]
    · rw [u2, v2]
    · rw [u3, v3]
    · rw [u4, v4]
    · rw [u5, v5]
    · rw [u6, v8]
    · rw [u7, v9]
    · rw [u8, v7]
    · rw [u9, v6]
    · rw [u10, v10]
  · exact ⟨fun c h1 _ => (m2 c h1).1, fun c h1 _ => (m2 c h1).2.1, fun c h1 _ => (m2 c h1).2.2.2.2.1, fun c h1 _ => (m2 c h1).2.2.2.2.2.2.1⟩
  · intro ρ η h1 h2
    obtain ⟨u1, u2, u3, u4, u5, u6, u7, u8, u9, u10⟩ := y3 _ (zc_lt h1 h2)
    rw [u1, u2, u4, u5, u6, u8, u9, u10]
    exact ⟨⟨0, by omega, rfl⟩, Or.inl rfl, ⟨5, by omega, rfl⟩, ⟨0, 0, by omega, rfl, rfl⟩, ⟨0, by omega, rfl, fun h => absurd h (by decide)⟩, Or.inl rfl, Or.inl rfl⟩
  · exact ⟨by rw [y4.1, m3.2.2.1], by rw [y4.2, m3.2.2.2.1], by rw [y5.1, m3.1], e8, e9, Or.inl y5.1⟩
  · exact ⟨0, by omega, y5.2.1, m3.2.1, fun k hk => absurd hk (Nat.not_lt_zero k)⟩
  · exact ⟨0, by omega, y5.2.2, m3.2.2.2.2, fun k hk => absurd hk (Nat.not_lt_zero k)⟩
  · intro _
    refine ⟨y5.2.1, y5.2.2, y4.1, y4.2, fun ρ η h1 h2 => ?_⟩
    obtain ⟨u1, u2, u3, u4, u5, u6, u7, u8, u9, u10⟩ := y3 _ (zc_lt h1 h2)
    exact ⟨by rw [u1, u8], u2, by rw [u3, hw _ (zc_lt h1 h2)], u4, u5, u7, u10⟩
  · intro hl
    rw [y5.1] at hl
    exact absurd hl (by decide)
theorem sim_clamp : z_sim2 rel fY_X7_clamp fM_X8_clamp := by
  intro a0 a1 g h hr
  have hr0 := rel_thrown hr 0
  obtain ⟨R0, H0, q1, q2, q3, q4, q5, q6, q7, q8, q9, q10, q11, q12⟩ := hr0.1
  unfold fY_X7_clamp fY_X7_clamp_22 fM_X8_clamp fM_X8_clamp_29
  simp only [z_let_eq, m_in_1_8, z_bind_some]
  by_cases c1 : a0 < 1
  · exact ⟨0, g, _, by simp [c1, z_bo_0], by simp [c1, z_bo_0], hr0⟩
  by_cases c2 : 8 < a0
  · exact ⟨0, g, _, by simp [c1, c2, z_bo_0], by simp [c2, z_bo_0], hr0⟩
  by_cases c3 : a1 < 1
  · exact ⟨0, g, _, by simp [c1, c2, c3, z_bo_0], by simp [c1, c2, c3, z_bo_0], hr0⟩
  by_cases c4 : 8 < a1
  · have c5 : ¬ a1 ≤ 8 := zn_nle.mpr c4
    exact ⟨0, g, _, by simp [c1, c2, c3, c5, z_bo_0], by simp [c1, c2, c4, z_bo_0], hr0⟩
  have c5 : a1 ≤ 8 := zn_nlt.mp c4
  obtain ⟨R, e1, b1, b2⟩ : ∃ R : Nat, a0 = nI R ∧ 1 ≤ R ∧ R ≤ 8 := by
    obtain ⟨R, hR, e⟩ := nI_of (x := a0) (fun h => c1 (by rw [fa_lt] at h ⊢; have w0 : (0 : Int32).toInt = 0 := by decide
                                                          have w1 : (1 : Int32).toInt = 1 := by decide
                                                          omega))
    rw [e] at c1 c2
    exact ⟨R, e, by have := mt (nI_ltI hR (show 1 < 2 ^ 31 by omega)).mpr c1; omega, by have := mt (nI_ltI (show 8 < 2 ^ 31 by omega) hR).mpr c2; omega⟩
  obtain ⟨H, e2, b3, b4⟩ : ∃ H : Nat, a1 = nI H ∧ 1 ≤ H ∧ H ≤ 8 := by
    obtain ⟨H, hH, e⟩ := nI_of (x := a1) (fun h => c3 (by rw [fa_lt] at h ⊢; have w0 : (0 : Int32).toInt = 0 := by decide
                                                          have w1 : (1 : Int32).toInt = 1 := by decide
                                                          omega))
    rw [e] at c3 c4
    exact ⟨H, e, by have := mt (nI_ltI hH (show 1 < 2 ^ 31 by omega)).mpr c3; omega, by have := mt (nI_ltI (show 8 < 2 ^ 31 by omega) hH).mpr c4; omega⟩
  have b : 1 ≤ R ∧ R ≤ 8 ∧ 1 ≤ H ∧ H ≤ 8 := ⟨b1, b2, b3, b4⟩
  obtain ⟨g1, u1, u2, u3, u4, u5, u6⟩ := y_build b g
  obtain ⟨h1, v1, v2, v3⟩ := m_empties (z_up (z_up (z_up (z_up h 0 0 0) 0 1 a0) 0 2 a1) 0 13 0)
  have ag1 := frY_X2_build _ _ _ _ _ u1
  have ah1 := frM_X8_empties _ _ _ v1
  have e1y : fY_X7_clamp a0 a1 g = some (1, z_up (z_up (z_up (z_up g1 2 0 0) 3 0 0) 3 7 0) 0 7 0) := by
    unfold fY_X7_clamp fY_X7_clamp_22
    rw [← e1, ← e2] at u1
    simp [c1, c2, c3, c5, u1, z_bind_some, fY_X1_forget, fY_X0_forget, z_let_eq, z_bo_1]
  have e2y : fM_X8_clamp a0 a1 h = some (1, h1) := by
    unfold fM_X8_clamp fM_X8_clamp_29
    simp [z_let_eq, m_in_1_8, z_bind_some, c1, c2, c3, c4, v1, z_bo_1]
  refine ⟨1, z_up (z_up (z_up (z_up g1 2 0 0) 3 0 0) 3 7 0) 0 7 0, h1, ?_, ?_, ?_⟩
  · rw [← e1, ← e2] at u1
    simp [c1, c2, c3, c5, u1, z_bind_some, fY_X1_forget, fY_X0_forget, z_let_eq, z_bo_1]
  · simp [c1, c2, c3, c4, v1, z_bind_some, z_bo_1]
  · have ag := frY_X7_clamp _ _ _ _ _ e1y
    have ah := frM_X8_clamp _ _ _ _ _ e2y
    refine ⟨⟨R, H, r_new b ?_ ?_ ?_ ?_ ?_ ?_ v2 v3 ?_ ?_ ?_ ?_⟩, rWood_fr hr.2.1 ag (z_apart (by decide)) ah (z_apart (by decide)), rTape_fr hr.2.2 ag (z_apart (by decide)) ah (z_apart (by decide))⟩
    · simpa [z_up_at] using u2
    · exact rFix_fr (tg := z_tch [] [(2, 0), (3, 0), (3, 7), (0, 7)]) u3 (fr_up (fr_up (fr_up (fr_up fr_rf rfl) rfl) rfl) rfl) (z_apart (by decide))
    · intro i hi
      have := u4 i hi
      simpa [z_up_at] using this
    · simp [z_up_at, u5, u6]
    · simp [z_up_at]
    · rw [ah1 0 1 rfl, ah1 0 2 rfl, e1, e2]
      simp [z_up_at]
    · rw [ag 0 8 rfl, ah 0 24 rfl]
      have := q6.2.2.2.1
      simpa [z_up_at] using this
    · rw [ag 0 9 rfl, ah 0 25 rfl]
      have := q6.2.2.2.2.1
      simpa [z_up_at] using this
    · refine ⟨0, by omega, by simp [z_up_at]; rfl, ?_, fun k hk => absurd hk (Nat.not_lt_zero k)⟩
      rw [ah1 0 13 rfl]
      simp [z_up_at]; rfl
    · have q12h : rRules g h := by
        obtain ⟨R9, H9, hA⟩ := hr.1
        exact hA.2.2.2.2.2.2.2.2.2.2.2
      exact rRules_fr q12h ag (z_apart (by decide)) ah (z_apart (by decide))
