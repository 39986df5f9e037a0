/-! the thinnest cover: first least, ring by ring -/
def kLst (g : z_G) (N b : Nat) : Prop := b < N ∧ ¬ g 9 b = 0 ∧ ∀ j, j < N → ¬ g 9 j = 0 → (g 15 b).toInt ≤ (g 15 j).toInt ∧ (j < b → (g 15 b).toInt < (g 15 j).toInt)
theorem kLst_one {g : z_G} {N b b2 : Nat} (h1 : kLst g N b) (h2 : kLst g N b2) : b = b2 := by
  obtain ⟨x1, x2, x3⟩ := h1
  obtain ⟨y1, y2, y3⟩ := h2
  have a := x3 b2 y1 y2
  have c := y3 b x1 x2
  rcases Nat.lt_trichotomy b b2 with l | l | l
  · have := c.2 l
    omega
  · exact l
  · have := a.2 l
    omega
theorem y_least {g : z_G} {N : Nat} (h0 : 0 < N) (hN : N ≤ 64) (e3 : g 1 4 = nI N) (hl : ¬ g 9 (N - 1) = 0) : ∃ b : Nat, fY_X2_thinnest g = some (nI b, g) ∧ kLst g N b := by
  unfold fY_X2_thinnest fY_X2_thinnest_14_go
  rw [z_let_eq, z_let_eq, e3]
  have e0 : nI N - 1 = nI (N - 1) := pk_sub (a := N) (b := 1) (by omega)
  have key := z_pfor (σ := Nat) (step := fun k (w : Int32 × Int32 × z_G) => fY_X2_thinnest_14 k w.1 w.2.1 w.2.2) (fun n b => (nI b, nI (N - n) - 1, g)) (fun b => some (nI b, g)) N (z_fuel_big (by omega)) (fun n b => b < N ∧ ¬ g 9 b = 0 ∧ ∀ j, j < N → N ≤ j + n → ¬ g 9 j = 0 → (g 15 b).toInt ≤ (g 15 j).toInt ∧ (j < b → (g 15 b).toInt < (g 15 j).toInt)) (fun k n b hn hp => ?_) (fun k b hp => ?_) (N - 1) ⟨by omega, hl, fun j h1 h2 => absurd h1 (by omega)⟩
  · obtain ⟨b, u1, u2, u3, u4⟩ := key
    refine ⟨b, ?_, u2, u3, fun j h1 h2 => u4 j h1 (by omega) h2⟩
    rw [← e0] at u1
    exact u1
  · obtain ⟨p1, p2, p3⟩ := hp
    obtain ⟨i, ei⟩ : ∃ i, N - n = i + 1 := ⟨N - n - 1, by omega⟩
    have d3 : vp_in (nI i) 64 := vp_in_nI (by omega) (by omega)
    have d4 : (nI i).toNatClampNeg = i := nI_clamp (by omega)
    have d5 : vp_in (nI b) 64 := vp_in_nI (by omega) (by omega)
    have d6 : (nI b).toNatClampNeg = b := nI_clamp (by omega)
    have st : fY_X2_thinnest_14 k (nI b) (nI (N - n) - 1) g = if g 9 i = 0 then k (nI b, nI (N - (n + 1)) - 1, g) else if g 15 b < g 15 i then k (nI b, nI (N - (n + 1)) - 1, g) else k (nI i, nI (N - (n + 1)) - 1, g) := by
      unfold fY_X2_thinnest_14 fY_X2_thinnest_44
      rw [show N - (n + 1) = i by omega, ei, nI_pred, if_neg (nI_pos (by omega)), z_ck_in _ d3, d4, z_ck_in _ d3, z_ck_in _ d5, d6, z_let_eq, z_let_eq, zk_dec]
    by_cases c1 : g 9 i = 0
    · refine ⟨b, ?_, p1, p2, fun j h1 h2 h3 => ?_⟩
      · show fY_X2_thinnest_14 k (nI b) (nI (N - n) - 1) g = k (nI b, nI (N - (n + 1)) - 1, g)
        rw [st, if_pos c1]
      · by_cases e : j = i
        · subst e
          exact absurd c1 h3
        · exact p3 j h1 (by omega) h3
    · by_cases c2 : g 15 b < g 15 i
      · refine ⟨b, ?_, p1, p2, fun j h1 h2 h3 => ?_⟩
        · show fY_X2_thinnest_14 k (nI b) (nI (N - n) - 1) g = k (nI b, nI (N - (n + 1)) - 1, g)
          rw [st, if_neg c1, if_pos c2]
        · by_cases e : j = i
          · subst e
            rw [fa_lt] at c2
            exact ⟨by omega, fun _ => c2⟩
          · exact p3 j h1 (by omega) h3
      · refine ⟨i, ?_, by omega, c1, fun j h1 h2 h3 => ?_⟩
        · show fY_X2_thinnest_14 k (nI b) (nI (N - n) - 1) g = k (nI i, nI (N - (n + 1)) - 1, g)
          rw [st, if_neg c1, if_neg c2]
        · rw [fa_lt] at c2
          by_cases e : j = i
          · subst e
            exact ⟨by omega, fun q => absurd q (by omega)⟩
          · have := (p3 j h1 (by omega) h3).1
            exact ⟨by omega, fun q => absurd q (by omega)⟩
  · show fY_X2_thinnest_14 k (nI b) (nI (N - N) - 1) g = _
    unfold fY_X2_thinnest_14
    rw [Nat.sub_self, if_pos zk_neg]
theorem m_least {R H : Nat} {g h : z_G} (b : 1 ≤ R ∧ R ≤ 8 ∧ 1 ≤ H ∧ H ≤ 8) (e4 : h 0 1 = nI R) (e5 : h 0 2 = nI H) (q2 : rFix R H g) (p15 : rEq R H 15 8 g h) : ∃ ρ η : Nat, ρ < R ∧ η < H ∧ fM_X8_leastCovered h = some (nI (η * 8 + ρ), h) ∧ kLst g (R * H) (ρ * H + η) := by
  obtain ⟨b1, b2, b3, b4⟩ := id b
  have hn : R * H ≤ 64 := zc_64 b2 b4
  have ou : ∀ ρ η, ρ < R → η < H → ((ρ + 1 = R ∨ η + 1 = H) ↔ ¬ g 9 (ρ * H + η) = 0) := fun ρ η k1 k2 => by
    rw [(q2 ρ η k1 k2).2]
    by_cases o : ρ + 1 = R ∨ η + 1 = H
    · rw [if_pos o]
      exact ⟨fun _ => by decide, fun _ => o⟩
    · rw [if_neg o]
      exact ⟨fun q => absurd q o, fun q => absurd rfl q⟩
  unfold fM_X8_leastCovered fM_X8_leastCovered_4_go
  rw [← nI_0]
  have key := z_pfor2 (σ := Int32) (st1 := fun k (w : Int32 × Int32 × z_G) => fM_X8_leastCovered_4 k w.1 w.2.1 w.2.2) (st2 := fun k43 k (w : Int32 × Int32 × Int32 × z_G) => fM_X8_leastCovered_14 k43 k w.1 w.2.1 w.2.2.1 w.2.2.2) (fun ρ x => (x, nI ρ, h)) (fun ρ η x => (x, nI ρ, nI η, h)) (fun x => some (x, h)) R H (z_fuel_big (by omega)) (z_fuel_big (by omega)) (fun n x => (x = -1 ∧ ∀ j, j < n → g 9 j = 0) ∨ ∃ ρ η : Nat, ρ < R ∧ η < H ∧ x = nI (η * 8 + ρ) ∧ ρ * H + η < n ∧ ¬ g 9 (ρ * H + η) = 0 ∧ ∀ j, j < n → ¬ g 9 j = 0 → (g 15 (ρ * H + η)).toInt ≤ (g 15 j).toInt ∧ (j < ρ * H + η → (g 15 (ρ * H + η)).toInt < (g 15 j).toInt)) (fun k ρ x hρ hp => ?_) (fun k k2 ρ η x hρ hη hp => ?_) (fun k k2 ρ x hρ hp => ?_) (fun k x hp => ?_) (-1) (Or.inl ⟨rfl, fun j hj => absurd hj (Nat.not_lt_zero j)⟩)
  · obtain ⟨x, u1, u2⟩ := key
    have hlast : ¬ g 9 (R * H - 1) = 0 := by
      have h9 : (R - 1) * H + (H - 1) = R * H - 1 := by
        obtain ⟨R9, rfl⟩ : ∃ R9, R = R9 + 1 := ⟨R - 1, by omega⟩
        rw [Nat.succ_mul, show R9 + 1 - 1 = R9 by omega]
        omega
      rw [← h9]
      exact (ou (R - 1) (H - 1) (by omega) (by omega)).mp (Or.inl (by omega))
    have hpos : 0 < R * H := Nat.mul_pos (by omega) (by omega)
    rcases u2 with ⟨-, u2⟩ | ⟨ρ, η, k1, k2, ex, k3, k4, k5⟩
    · exact absurd (u2 (R * H - 1) (by omega)) hlast
    · exact ⟨ρ, η, k1, k2, by rw [u1, ex], k3, k4, k5⟩
  · show fM_X8_leastCovered_4 k x (nI ρ) h = fM_X8_leastCovered_14_go k x (nI ρ) (nI 0) h
    unfold fM_X8_leastCovered_4
    rw [e4, if_neg (zn_stop (show R < 2 ^ 31 by omega) hρ), nI_0]
  · have l2 : η * 8 + ρ < 64 := by omega
    have d3 : vp_in (nI (η * 8 + ρ)) 64 := vp_in_nI l2 (by omega)
    have d4 : (nI (η * 8 + ρ)).toNatClampNeg = η * 8 + ρ := nI_clamp (by omega)
    have hlt : ρ * H + η < R * H := zc_lt hρ hη
    have st : fM_X8_leastCovered_14 k k2 x (nI ρ) (nI η) h = if ρ + 1 = R ∨ η + 1 = H then (if x < 0 then k2 (nI (η * 8 + ρ), nI ρ, nI (η + 1), h) else z_ck x 64 (if h 8 x.toNatClampNeg ≤ h 8 (η * 8 + ρ) then k2 (x, nI ρ, nI (η + 1), h) else k2 (nI (η * 8 + ρ), nI ρ, nI (η + 1), h))) else k2 (x, nI ρ, nI (η + 1), h) := by
      unfold fM_X8_leastCovered_14 fM_X8_leastCovered_59 fM_X8_leastCovered_62
      rw [e5, if_neg (zn_stop (show H < 2 ^ 31 by omega) hη), show (8 : Int32) = nI 8 from rfl, pk_mul, nI_add, z_let_eq, m_isOutsideC b e4 e5 hρ hη, z_bind_nd, z_ck_in _ d3, d4, z_let_eq, z_let_eq, nI_1]
      by_cases o : ρ + 1 = R ∨ η + 1 = H
      · rw [if_pos o, if_pos o, if_neg (by decide)]
      · rw [if_neg o, if_neg o, if_pos rfl]
    by_cases o : ρ + 1 = R ∨ η + 1 = H
    · have o9 := (ou ρ η hρ hη).mp o
      rcases hp with ⟨ex, hp⟩ | ⟨ρb, ηb, k1, k2', ex, k3, k4, k5⟩
      · refine ⟨nI (η * 8 + ρ), ?_, Or.inr ⟨ρ, η, hρ, hη, rfl, by omega, o9, fun j h1 h2 => ?_⟩⟩
        · show fM_X8_leastCovered_14 k k2 x (nI ρ) (nI η) h = k2 (nI (η * 8 + ρ), nI ρ, nI (η + 1), h)
          rw [st, if_pos o, ex, if_pos (by decide)]
        · by_cases e : j = ρ * H + η
          · subst e
            exact ⟨by omega, fun q => absurd q (by omega)⟩
          · exact absurd (hp j (by omega)) h2
      · have lb : ηb * 8 + ρb < 64 := by omega
        have d5 : vp_in (nI (ηb * 8 + ρb)) 64 := vp_in_nI lb (by omega)
        have d6 : (nI (ηb * 8 + ρb)).toNatClampNeg = ηb * 8 + ρb := nI_clamp (by omega)
        rw [ex, if_pos o, if_neg (nI_pos (by omega)), z_ck_in _ d5, d6, ← p15 ρb ηb k1 k2', ← p15 ρ η hρ hη] at st
        by_cases c : g 15 (ρb * H + ηb) ≤ g 15 (ρ * H + η)
        · refine ⟨nI (ηb * 8 + ρb), ?_, Or.inr ⟨ρb, ηb, k1, k2', rfl, by omega, k4, fun j h1 h2 => ?_⟩⟩
          · show fM_X8_leastCovered_14 k k2 x (nI ρ) (nI η) h = k2 (nI (ηb * 8 + ρb), nI ρ, nI (η + 1), h)
            rw [ex, st, if_pos c]
          · by_cases e : j = ρ * H + η
            · subst e
              rw [fa_le] at c
              exact ⟨c, fun q => absurd q (by omega)⟩
            · exact k5 j (by omega) h2
        · refine ⟨nI (η * 8 + ρ), ?_, Or.inr ⟨ρ, η, hρ, hη, rfl, by omega, o9, fun j h1 h2 => ?_⟩⟩
          · show fM_X8_leastCovered_14 k k2 x (nI ρ) (nI η) h = k2 (nI (η * 8 + ρ), nI ρ, nI (η + 1), h)
            rw [ex, st, if_neg c]
          · by_cases e : j = ρ * H + η
            · subst e
              exact ⟨by omega, fun q => absurd q (by omega)⟩
            · have := (k5 j (by omega) h2).1
              rw [fa_le] at c
              exact ⟨by omega, fun _ => by omega⟩
    · refine ⟨x, ?_, ?_⟩
      · show fM_X8_leastCovered_14 k k2 x (nI ρ) (nI η) h = k2 (x, nI ρ, nI (η + 1), h)
        rw [st, if_neg o]
      · have o9 : g 9 (ρ * H + η) = 0 := Classical.not_not.mp (fun q => o ((ou ρ η hρ hη).mpr q))
        rcases hp with ⟨ex, hp⟩ | ⟨ρb, ηb, k1, k2', ex, k3, k4, k5⟩
        · refine Or.inl ⟨ex, fun j hj => ?_⟩
          by_cases e : j = ρ * H + η
          · rw [e]; exact o9
          · exact hp j (by omega)
        · refine Or.inr ⟨ρb, ηb, k1, k2', ex, by omega, k4, fun j h1 h2 => ?_⟩
          by_cases e : j = ρ * H + η
          · rw [e] at h2
            exact absurd o9 h2
          · exact k5 j (by omega) h2
  · show fM_X8_leastCovered_14 k k2 x (nI ρ) (nI H) h = k (x, nI (ρ + 1), h)
    unfold fM_X8_leastCovered_14
    rw [e5, if_pos (nI_le (Nat.le_refl H) (by omega)), z_let_eq, nI_1]
  · show fM_X8_leastCovered_4 k x (nI R) h = _
    unfold fM_X8_leastCovered_4
    rw [e4, if_pos (nI_le (Nat.le_refl R) (by omega))]
theorem r_least {R H : Nat} {g h : z_G} (b : 1 ≤ R ∧ R ≤ 8 ∧ 1 ≤ H ∧ H ≤ 8) (e3 : g 1 4 = nI (R * H)) (e4 : h 0 1 = nI R) (e5 : h 0 2 = nI H) (q2 : rFix R H g) (p15 : rEq R H 15 8 g h) : ∃ ρ η : Nat, ρ < R ∧ η < H ∧ fY_X2_thinnest g = some (nI (ρ * H + η), g) ∧ fM_X8_leastCovered h = some (nI (η * 8 + ρ), h) := by
  obtain ⟨ρ, η, k1, k2, u, l⟩ := m_least b e4 e5 q2 p15
  have hpos : 0 < R * H := Nat.mul_pos (by have := b.1; omega) (by have := b.2.2.1; omega)
  have hlast : ¬ g 9 (R * H - 1) = 0 := by
    have h9 : (R - 1) * H + (H - 1) = R * H - 1 := by
      obtain ⟨R9, rfl⟩ : ∃ R9, R = R9 + 1 := ⟨R - 1, by have := b.1; omega⟩
      rw [Nat.succ_mul, show R9 + 1 - 1 = R9 by omega]
      have := b.2.2.1
      omega
    rw [← h9, (q2 (R - 1) (H - 1) (by have := b.1; omega) (by have := b.2.2.1; omega)).2, if_pos (Or.inl (by have := b.1; omega))]
    decide
  obtain ⟨b9, v, l2⟩ := y_least hpos (zc_64 b.2.1 b.2.2.2) e3 hlast
  exact ⟨ρ, η, k1, k2, by rw [v, kLst_one l2 l], u⟩
