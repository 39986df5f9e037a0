/-! warming: what comes from the four neighbours -/
theorem nb_below {H ρ η : Nat} (hi : ρ * H + η < 64) (row : Nat → Int32) (F : Int32 → Option (Int32 × z_G)) : (if nI η ≤ 0 then F 0 else z_ck (nI (ρ * H + η) - 1) 64 (F (row (nI (ρ * H + η) - 1).toNatClampNeg))) = F (if 0 < η then row (ρ * H + (η - 1)) else 0) := by
  cases η with
  | zero => rw [if_pos (by decide), if_neg (by omega)]
  | succ η9 => rw [if_neg (nI_nle (by omega) (by omega)), if_pos (by omega), show ρ * H + (η9 + 1) = ρ * H + η9 + 1 from rfl, nI_pred, z_ck_in _ (vp_in_nI (by omega) (by omega)), nI_clamp (by omega), show η9 + 1 - 1 = η9 by omega]
theorem nb_above {H ρ η : Nat} (hH : 1 ≤ H) (hH8 : H ≤ 8) (hη : η < H) (hi : η + 1 < H → ρ * H + (η + 1) < 64) (row : Nat → Int32) (F : Int32 → Option (Int32 × z_G)) : (if nI H - 1 ≤ nI η then F 0 else z_ck (nI (ρ * H + η) + 1) 64 (F (row (nI (ρ * H + η) + 1).toNatClampNeg))) = F (if η + 1 < H then row (ρ * H + (η + 1)) else 0) := by
  obtain ⟨H9, eH⟩ : ∃ H9, H = H9 + 1 := ⟨H - 1, by omega⟩
  have x : nI H - 1 = nI H9 := by rw [eH, nI_pred]
  by_cases c : η + 1 < H
  · have := hi c
    rw [x, if_neg (nI_ge (by omega) (by omega)), if_pos c, nI_1, show ρ * H + η + 1 = ρ * H + (η + 1) from rfl, z_ck_in _ (vp_in_nI (by omega) (by omega)), nI_clamp (by omega)]
  · rw [x, if_pos (nI_le (by omega) (by omega)), if_neg c]
theorem nb_inner {H ρ η : Nat} (hρ : ρ < 8) (hH8 : H ≤ 8) (hi : ρ * H + η < 64) (row : Nat → Int32) (F : Int32 → Option (Int32 × z_G)) : (if nI ρ ≤ 0 then F 0 else z_ck (nI (ρ * H + η) - nI H) 64 (F (row (nI (ρ * H + η) - nI H).toNatClampNeg))) = F (if 0 < ρ then row ((ρ - 1) * H + η) else 0) := by
  cases ρ with
  | zero => rw [if_pos (by decide), if_neg (by omega)]
  | succ ρ9 =>
    have ee : (ρ9 + 1) * H + η - H = ρ9 * H + η := by rw [Nat.succ_mul]; omega
    have e9 : (ρ9 + 1) * H = ρ9 * H + H := Nat.succ_mul ρ9 H
    rw [if_neg (nI_nle (by omega) (by omega)), if_pos (by omega), pk_sub (by omega), ee, z_ck_in _ (vp_in_nI (by omega) (by omega)), nI_clamp (by omega), show ρ9 + 1 - 1 = ρ9 by omega]
theorem nb_outer {R H ρ η : Nat} (hR : 1 ≤ R) (hR8 : R ≤ 8) (hρ : ρ < R) (hi : ρ + 1 < R → (ρ + 1) * H + η < 64) (row : Nat → Int32) (F : Int32 → Option (Int32 × z_G)) : (if nI R - 1 ≤ nI ρ then F 0 else z_ck (nI (ρ * H + η) + nI H) 64 (F (row (nI (ρ * H + η) + nI H).toNatClampNeg))) = F (if ρ + 1 < R then row ((ρ + 1) * H + η) else 0) := by
  obtain ⟨R9, eR9⟩ : ∃ R9, R = R9 + 1 := ⟨R - 1, by omega⟩
  have x : nI R - 1 = nI R9 := by rw [eR9, nI_pred]
  by_cases c : ρ + 1 < R
  · have := hi c
    have ee : ρ * H + η + H = (ρ + 1) * H + η := by rw [Nat.succ_mul]; omega
    rw [x, if_neg (nI_ge (by omega) (by omega)), if_pos c, nI_add, ee, z_ck_in _ (vp_in_nI (by omega) (by omega)), nI_clamp (by omega)]
  · rw [x, if_pos (nI_le (by omega) (by omega)), if_neg c]
def kNb (R H : Nat) (G : Nat → Int32) (ρ η : Nat) : Int32 := (if 0 < η then G (ρ * H + (η - 1)) else 0) + (if η + 1 < H then G (ρ * H + (η + 1)) else 0) + (if 0 < ρ then G ((ρ - 1) * H + η) else 0) + (if ρ + 1 < R then G ((ρ + 1) * H + η) else 0)
theorem y_glow {R H : Nat} (b : 1 ≤ R ∧ R ≤ 8 ∧ 1 ≤ H ∧ H ≤ 8) {s : z_G} (e1 : s 1 0 = nI R) (e2 : s 1 1 = nI H) {ρ η : Nat} (k1 : ρ < R) (k2 : η < H) : fY_X2_glowAround (nI ρ) (nI η) s = some (kNb R H (s 21) ρ η, s) := by
  obtain ⟨b1, b2, b3, b4⟩ := b
  have hN := zc_64 b2 b4
  have hi : ρ * H + η < 64 := Nat.lt_of_lt_of_le (zc_lt k1 k2) hN
  have w47 : ∀ x1 x2 : Int32, fY_X2_glowAround_47 x2 (nI ρ) (nI (ρ * H + η)) x1 s = some (x1 + x2 + (if 0 < ρ then s 21 ((ρ - 1) * H + η) else 0) + (if ρ + 1 < R then s 21 ((ρ + 1) * H + η) else 0), s) := by
    intro x1 x2
    have w68 : ∀ x3 : Int32, fY_X2_glowAround_68 x3 (nI ρ) (nI (ρ * H + η)) x1 x2 s = some (x1 + x2 + x3 + (if ρ + 1 < R then s 21 ((ρ + 1) * H + η) else 0), s) := by
      intro x3
      unfold fY_X2_glowAround_68
      rw [e1, e2]
      exact nb_outer b1 b2 k1 (fun q => Nat.lt_of_lt_of_le (zc_lt q k2) hN) (s 21) (fun x => fY_X2_glowAround_95 x x1 x2 x3 s)
    unfold fY_X2_glowAround_47
    rw [e2]
    exact (nb_inner (by omega) b4 hi (s 21) (fun x => fY_X2_glowAround_68 x (nI ρ) (nI (ρ * H + η)) x1 x2 s)).trans (w68 _)
  have w23 : ∀ x1 : Int32, fY_X2_glowAround_23 x1 (nI ρ) (nI η) (nI (ρ * H + η)) s = some (x1 + (if η + 1 < H then s 21 (ρ * H + (η + 1)) else 0) + (if 0 < ρ then s 21 ((ρ - 1) * H + η) else 0) + (if ρ + 1 < R then s 21 ((ρ + 1) * H + η) else 0), s) := by
    intro x1
    unfold fY_X2_glowAround_23
    rw [e2]
    exact (nb_above b3 b4 k2 (fun q => Nat.lt_of_lt_of_le (zc_lt k1 q) hN) (s 21) (fun x => fY_X2_glowAround_47 x (nI ρ) (nI (ρ * H + η)) x1 s)).trans (w47 _ _)
  unfold fY_X2_glowAround fY_X2_at
  rw [z_bind_nd, e2, pk_mul, nI_add]
  exact (nb_below hi (s 21) (fun x => fY_X2_glowAround_23 x (nI ρ) (nI η) (nI (ρ * H + η)) s)).trans (w23 _)
theorem z_sum_pt (G : Nat → Int32) (p : Prop) [Decidable p] (k : Nat) : ∀ n, z_sum (fun i => if p ∧ i = k then G i else 0) n = if p ∧ k < n then G k else 0
  | 0 => by rw [if_neg (by omega)]; rfl
  | n + 1 => by
    rw [z_sum_s, z_sum_pt G p k n]
    by_cases c : p
    · by_cases e : n = k
      · subst e
        rw [if_neg (by omega), if_pos ⟨c, rfl⟩, if_pos ⟨c, by omega⟩, Int32.zero_add]
      · by_cases l : k < n
        · rw [if_pos ⟨c, l⟩, if_neg (fun q => e q.2), if_pos ⟨c, by omega⟩, Int32.add_zero]
        · rw [if_neg (fun q => l q.2), if_neg (fun q => e q.2), if_neg (by omega), Int32.add_zero]
    · rw [if_neg (fun q => c q.1), if_neg (fun q => c q.1), if_neg (fun q => c q.1), Int32.add_zero]
theorem z_sum_nb {R H : Nat} (G : Nat → Int32) {ρ η : Nat} (k1 : ρ < R) (k2 : η < H) : z_sum (fun i => if kDist ρ η (i / H) (i % H) = 1 then G i else 0) (R * H) = kNb R H G ρ η := by
  have e : ∀ i, i < R * H → (if kDist ρ η (i / H) (i % H) = 1 then G i else 0) = (if 0 < η ∧ i = ρ * H + (η - 1) then G i else 0) + (if η + 1 < H ∧ i = ρ * H + (η + 1) then G i else 0) + (if 0 < ρ ∧ i = (ρ - 1) * H + η then G i else 0) + (if ρ + 1 < R ∧ i = (ρ + 1) * H + η then G i else 0) := by
    intro i hi
    obtain ⟨ρ2, η2, t1, t2, rfl⟩ := zc_of hi
    rw [zc_mod t2, zc_div t2]
    have i1 : (0 < η ∧ ρ2 * H + η2 = ρ * H + (η - 1)) ↔ (ρ2 = ρ ∧ η2 + 1 = η) := ⟨fun ⟨a, e⟩ => by have := zc_inj t2 (show η - 1 < H by omega) e; omega, fun ⟨a, e⟩ => by subst a; exact ⟨by omega, by rw [show η - 1 = η2 by omega]⟩⟩
    have i2 : (η + 1 < H ∧ ρ2 * H + η2 = ρ * H + (η + 1)) ↔ (ρ2 = ρ ∧ η2 = η + 1) := ⟨fun ⟨a, e⟩ => zc_inj t2 a e, fun ⟨a, e⟩ => by subst a e; exact ⟨t2, rfl⟩⟩
    have i3 : (0 < ρ ∧ ρ2 * H + η2 = (ρ - 1) * H + η) ↔ (ρ2 + 1 = ρ ∧ η2 = η) := ⟨fun ⟨a, e⟩ => by have := zc_inj t2 k2 e; omega, fun ⟨a, e⟩ => by subst e; exact ⟨by omega, by rw [show ρ - 1 = ρ2 by omega]⟩⟩
    have i4 : (ρ + 1 < R ∧ ρ2 * H + η2 = (ρ + 1) * H + η) ↔ (ρ2 = ρ + 1 ∧ η2 = η) := ⟨fun ⟨a, e⟩ => zc_inj t2 k2 e, fun ⟨a, e⟩ => by subst a e; exact ⟨t1, rfl⟩⟩
    have hd : kDist ρ η ρ2 η2 = 1 ↔ (ρ2 = ρ ∧ η2 + 1 = η) ∨ (ρ2 = ρ ∧ η2 = η + 1) ∨ (ρ2 + 1 = ρ ∧ η2 = η) ∨ (ρ2 = ρ + 1 ∧ η2 = η) := by unfold kDist; omega
    simp only [i1, i2, i3, i4, hd]
    by_cases c1 : ρ2 = ρ ∧ η2 + 1 = η
    · rw [if_pos (Or.inl c1), if_pos c1, if_neg (by omega), if_neg (by omega), if_neg (by omega), Int32.add_zero, Int32.add_zero, Int32.add_zero]
    · by_cases c2 : ρ2 = ρ ∧ η2 = η + 1
      · rw [if_pos (Or.inr (Or.inl c2)), if_neg c1, if_pos c2, if_neg (by omega), if_neg (by omega), Int32.zero_add, Int32.add_zero, Int32.add_zero]
      · by_cases c3 : ρ2 + 1 = ρ ∧ η2 = η
        · rw [if_pos (Or.inr (Or.inr (Or.inl c3))), if_neg c1, if_neg c2, if_pos c3, if_neg (by omega), Int32.zero_add, Int32.zero_add, Int32.add_zero]
        · by_cases c4 : ρ2 = ρ + 1 ∧ η2 = η
          · rw [if_pos (Or.inr (Or.inr (Or.inr c4))), if_neg c1, if_neg c2, if_neg c3, if_pos c4, Int32.zero_add, Int32.zero_add, Int32.zero_add]
          · rw [if_neg (by omega), if_neg c1, if_neg c2, if_neg c3, if_neg c4, Int32.zero_add, Int32.zero_add, Int32.zero_add]
  rw [z_sum_cong e, z_sum_add, z_sum_add, z_sum_add, z_sum_pt, z_sum_pt, z_sum_pt, z_sum_pt]
  unfold kNb
  have j1 : (0 < η ∧ ρ * H + (η - 1) < R * H) ↔ 0 < η := ⟨fun q => q.1, fun q => ⟨q, zc_lt k1 (by omega)⟩⟩
  have j2 : (η + 1 < H ∧ ρ * H + (η + 1) < R * H) ↔ η + 1 < H := ⟨fun q => q.1, fun q => ⟨q, zc_lt k1 q⟩⟩
  have j3 : (0 < ρ ∧ (ρ - 1) * H + η < R * H) ↔ 0 < ρ := ⟨fun q => q.1, fun q => ⟨q, zc_lt (by omega) k2⟩⟩
  have j4 : (ρ + 1 < R ∧ (ρ + 1) * H + η < R * H) ↔ ρ + 1 < R := ⟨fun q => q.1, fun q => ⟨q, zc_lt q k2⟩⟩
  simp only [j1, j2, j3, j4]
def kWh (x n : Int32) : Int32 := if x + n / 20 < 1000 then x + n / 20 else 1000
def kWf (x : Int32) : Int32 := if x < 300 then 0 else 1
abbrev kCold (gl w c : Int32) : Prop := gl = 0 ∧ (0 < w ∨ ¬ c ≤ 0)
theorem y_warm {R H : Nat} (b : 1 ≤ R ∧ R ≤ 8 ∧ 1 ≤ H ∧ H ≤ 8) {g : z_G} (e1 : g 1 0 = nI R) (e2 : g 1 1 = nI H) : ∃ g' : z_G, fY_X2_warm g = some (0, g') ∧ ∀ ρ η, ρ < R → η < H → (kCold (g 21 (ρ * H + η)) (g 10 (ρ * H + η)) (g 11 (ρ * H + η)) → g' 13 (ρ * H + η) = kWh (g 13 (ρ * H + η)) (kNb R H (g 21) ρ η) ∧ g' 14 (ρ * H + η) = kWf (kWh (g 13 (ρ * H + η)) (kNb R H (g 21) ρ η))) ∧ (¬ kCold (g 21 (ρ * H + η)) (g 10 (ρ * H + η)) (g 11 (ρ * H + η)) → g' 13 (ρ * H + η) = g 13 (ρ * H + η) ∧ g' 14 (ρ * H + η) = g 14 (ρ * H + η)) := by
  obtain ⟨b1, b2, b3, b4⟩ := id b
  have hn : R * H ≤ 64 := zc_64 b2 b4
  unfold fY_X2_warm fY_X2_warm_2_go
  rw [← nI_0]
  have key := z_pfor2 (st1 := fun k (w : Int32 × z_G) => fY_X2_warm_2 k w.1 w.2) (st2 := fun k43 k (w : Int32 × Int32 × z_G) => fY_X2_warm_12 k43 k w.1 w.2.1 w.2.2) (fun ρ g => (nI ρ, g)) (fun ρ η g => (nI ρ, nI η, g)) (fun g => some (nI 0, g)) R H (z_fuel_big (by omega)) (z_fuel_big (by omega)) (fun n s => z_ag (z_tch [13, 14] []) g s ∧ (∀ i, n ≤ i → s 13 i = g 13 i ∧ s 14 i = g 14 i) ∧ ∀ ρ η, ρ < R → η < H → ρ * H + η < n → (kCold (g 21 (ρ * H + η)) (g 10 (ρ * H + η)) (g 11 (ρ * H + η)) → s 13 (ρ * H + η) = kWh (g 13 (ρ * H + η)) (kNb R H (g 21) ρ η) ∧ s 14 (ρ * H + η) = kWf (kWh (g 13 (ρ * H + η)) (kNb R H (g 21) ρ η))) ∧ (¬ kCold (g 21 (ρ * H + η)) (g 10 (ρ * H + η)) (g 11 (ρ * H + η)) → s 13 (ρ * H + η) = g 13 (ρ * H + η) ∧ s 14 (ρ * H + η) = g 14 (ρ * H + η))) (fun k ρ s hρ hp => ?_) (fun k k2 ρ η s hρ hη hp => ?_) (fun k k2 ρ s hρ hp => ?_) (fun k s hp => ?_) g ⟨fr_rf, fun i _ => ⟨rfl, rfl⟩, fun _ _ _ _ h => absurd h (Nat.not_lt_zero _)⟩
  · obtain ⟨s', u1, u2, u3, u4⟩ := key
    exact ⟨s', u1, fun ρ η k1 k2 => u4 ρ η k1 k2 (zc_lt k1 k2)⟩
  · show fY_X2_warm_2 k (nI ρ) s = fY_X2_warm_12_go k (nI ρ) (nI 0) s
    unfold fY_X2_warm_2
    rw [hp.1 1 0 rfl, e1, if_neg (zn_stop (show R < 2 ^ 31 by omega) hρ), nI_0]
  · obtain ⟨p1, p2, p3⟩ := hp
    have hlt : ρ * H + η < R * H := zc_lt hρ hη
    have d3 : vp_in (nI (ρ * H + η)) 64 := vp_in_nI (by omega) (by omega)
    have d4 : (nI (ρ * H + η)).toNatClampNeg = ρ * H + η := nI_clamp (by omega)
    have x21 : s 21 = g 21 := funext fun j => p1 21 j rfl
    have st : fY_X2_warm_12 k k2 (nI ρ) (nI η) s = if g 21 (ρ * H + η) = 0 then (if 0 < g 10 (ρ * H + η) then fY_X2_warm_54 k2 (nI ρ) (nI η) (nI (ρ * H + η)) s else if g 11 (ρ * H + η) ≤ 0 then fY_X2_warm_105 k2 (nI ρ) (nI η) s else fY_X2_warm_54 k2 (nI ρ) (nI η) (nI (ρ * H + η)) s) else fY_X2_warm_105 k2 (nI ρ) (nI η) s := by
      unfold fY_X2_warm_12 fY_X2_at
      rw [p1 1 1 rfl, e2, if_neg (zn_stop (show H < 2 ^ 31 by omega) hη), z_bind_nd, pk_mul, nI_add, z_ck_in _ d3, d4, z_ck_in _ d3, z_ck_in _ d3, p1 21 (ρ * H + η) rfl, p1 10 (ρ * H + η) rfl, p1 11 (ρ * H + η) rfl]
    have skip : fY_X2_warm_105 k2 (nI ρ) (nI η) s = k2 (nI ρ, nI (η + 1), s) := by
      unfold fY_X2_warm_105
      rw [z_let_eq, nI_1]
    have work : fY_X2_warm_54 k2 (nI ρ) (nI η) (nI (ρ * H + η)) s = k2 (nI ρ, nI (η + 1), z_up (z_up s 13 (ρ * H + η) (kWh (g 13 (ρ * H + η)) (kNb R H (g 21) ρ η))) 14 (ρ * H + η) (kWf (kWh (g 13 (ρ * H + η)) (kNb R H (g 21) ρ η)))) := by
      unfold fY_X2_warm_54 fY_X2_warm_104 fY_X2_warm_105
      rw [z_ck_in _ d3, d4, y_glow b ((p1 1 0 rfl).trans e1) ((p1 1 1 rfl).trans e2) hρ hη, z_bind_nd, z_let_eq, z_ck_in _ d3, z_let_eq, z_ck_in _ d3, (p2 _ (Nat.le_refl _)).1, x21, z_up_same]
      show (if kWh (g 13 (ρ * H + η)) (kNb R H (g 21) ρ η) < 300 then _ else _) = _
      by_cases c : kWh (g 13 (ρ * H + η)) (kNb R H (g 21) ρ η) < 300
      · rw [if_pos c, z_ck_in _ d3, z_let_eq, z_let_eq, nI_1]
        unfold kWf
        rw [if_pos c]
        rfl
      · rw [if_neg c, z_ck_in _ d3, z_let_eq, z_let_eq, nI_1]
        unfold kWf
        rw [if_neg c]
        rfl
    by_cases c : kCold (g 21 (ρ * H + η)) (g 10 (ρ * H + η)) (g 11 (ρ * H + η))
    · refine ⟨z_up (z_up s 13 (ρ * H + η) (kWh (g 13 (ρ * H + η)) (kNb R H (g 21) ρ η))) 14 (ρ * H + η) (kWf (kWh (g 13 (ρ * H + η)) (kNb R H (g 21) ρ η))), ?_, ?_⟩
      · show fY_X2_warm_12 k k2 (nI ρ) (nI η) s = k2 (nI ρ, nI (η + 1), _)
        rw [st, if_pos c.1, ← work]
        rcases c.2 with c2 | c2
        · rw [if_pos c2]
        · by_cases c3 : 0 < g 10 (ρ * H + η)
          · rw [if_pos c3]
          · rw [if_neg c3, if_neg c2]
      · refine ⟨fr_up (fr_up p1 rfl) rfl, fun i hi => ?_, fun ρ2 η2 k1 k2 k3 => ?_⟩
        · have e : i ≠ ρ * H + η := by omega
          rw [z_up_row _ _ _ _ (show 13 ≠ 14 by decide), z_up_at, if_neg (fun q => e q.2), z_up_at, if_neg (fun q => e q.2), z_up_row _ _ _ _ (show 14 ≠ 13 by decide)]
          exact p2 i (by omega)
        · by_cases e : ρ2 * H + η2 = ρ * H + η
          · obtain ⟨rfl, rfl⟩ := zc_inj k2 hη e
            refine ⟨fun _ => ⟨by rw [z_up_row _ _ _ _ (show 13 ≠ 14 by decide), z_up_same], by rw [z_up_same]⟩, fun q => absurd c q⟩
          · rw [z_up_row _ _ _ _ (show 13 ≠ 14 by decide), z_up_at, if_neg (fun q => e q.2), z_up_at, if_neg (fun q => e q.2), z_up_row _ _ _ _ (show 14 ≠ 13 by decide)]
            exact p3 ρ2 η2 k1 k2 (by omega)
    · refine ⟨s, ?_, p1, fun i hi => p2 i (by omega), fun ρ2 η2 k1 k2 k3 => ?_⟩
      · show fY_X2_warm_12 k k2 (nI ρ) (nI η) s = k2 (nI ρ, nI (η + 1), s)
        rw [st, ← skip]
        by_cases c1 : g 21 (ρ * H + η) = 0
        · have c2 : ¬ 0 < g 10 (ρ * H + η) := fun q => c ⟨c1, Or.inl q⟩
          by_cases c3 : g 11 (ρ * H + η) ≤ 0
          · rw [if_pos c1, if_neg c2, if_pos c3]
          · exact absurd ⟨c1, Or.inr c3⟩ c
        · rw [if_neg c1]
      · by_cases e : ρ2 * H + η2 = ρ * H + η
        · obtain ⟨rfl, rfl⟩ := zc_inj k2 hη e
          exact ⟨fun q => absurd q c, fun _ => p2 _ (Nat.le_refl _)⟩
        · exact p3 ρ2 η2 k1 k2 (by omega)
  · show fY_X2_warm_12 k k2 (nI ρ) (nI H) s = k (nI (ρ + 1), s)
    unfold fY_X2_warm_12
    rw [hp.1 1 1 rfl, e2, if_pos (nI_le (Nat.le_refl H) (by omega)), z_let_eq, nI_1]
  · show fY_X2_warm_2 k (nI R) s = _
    unfold fY_X2_warm_2
    rw [hp.1 1 0 rfl, e1, if_pos (nI_le (Nat.le_refl R) (by omega)), nI_0]
/-- the reference's neighbours -/
def mNb (R H : Nat) (h : z_G) (ρ η o : Nat) : Int32 := if (o % 8 < R ∧ o / 8 < H) ∧ kDist ρ η (o % 8) (o / 8) = 1 ∧ ¬ h 27 o = 0 then h 26 o else 0
theorem m_warms {R H : Nat} (b : 1 ≤ R ∧ R ≤ 8 ∧ 1 ≤ H ∧ H ≤ 8) {s : z_G} (e1 : s 0 1 = nI R) (e2 : s 0 2 = nI H) {ρ η : Nat} (k1 : ρ < R) (k2 : η < H) : fM_X8_warms (nI (η * 8 + ρ)) s = some (0, z_up (z_up s 4 (η * 8 + ρ) (kWh (s 4 (η * 8 + ρ)) (z_sum (mNb R H s ρ η) 64))) 5 (η * 8 + ρ) (kWf (kWh (s 4 (η * 8 + ρ)) (z_sum (mNb R H s ρ η) 64)))) := by
  obtain ⟨b1, b2, b3, b4⟩ := id b
  have d3 : vp_in (nI (η * 8 + ρ)) 64 := vp_in_nI (by omega) (by omega)
  have d4 : (nI (η * 8 + ρ)).toNatClampNeg = η * 8 + ρ := nI_clamp (by omega)
  unfold fM_X8_warms fM_X8_warms_4_go
  have key := z_sumfor (step := fun k (w : Int32 × Int32 × Int32 × z_G) => fM_X8_warms_4 k w.1 w.2.1 w.2.2.1 w.2.2.2) (fun j x => (nI (η * 8 + ρ), x, nI j, s)) (mNb R H s ρ η) (fun x => some (0, z_up (z_up s 4 (η * 8 + ρ) (kWh (s 4 (η * 8 + ρ)) x)) 5 (η * 8 + ρ) (kWf (kWh (s 4 (η * 8 + ρ)) x)))) 64 (z_fuel_big (by omega)) (fun k j x hj => ?_) (fun k x => ?_) 0
  · rw [Int32.zero_add] at key
    exact key
  · have ej : j = j / 8 * 8 + j % 8 := by omega
    have d5 : vp_in (nI j) 64 := vp_in_nI (by omega) (by omega)
    have d6 : (nI j).toNatClampNeg = j := nI_clamp (by omega)
    have aw : fM_X8_away (nI (η * 8 + ρ)) (nI j) s = some (nI (kDist ρ η (j % 8) (j / 8)), s) := by
      have := m_away (ρ := ρ) (η := η) (ρ2 := j % 8) (η2 := j / 8) (by omega) (by omega) (by omega) (by omega) s
      rw [← ej] at this
      exact this
    have dd := kDist_le (show ρ < 8 by omega) (show η < 8 by omega) (show j % 8 < 8 by omega) (show j / 8 < 8 by omega)
    show fM_X8_warms_4 k (nI (η * 8 + ρ)) x (nI j) s = k (nI (η * 8 + ρ), x + mNb R H s ρ η j, nI (j + 1), s)
    unfold fM_X8_warms_4 fM_X8_warms_46 fM_X8_warms_47 mNb
    rw [if_neg (zn_64 hj), m_isInside b e1 e2 hj, z_bind_nd]
    by_cases ci : j % 8 < R ∧ j / 8 < H
    · rw [if_pos ci, if_neg (by decide), aw, z_bind_nd]
      have e9 : nI (kDist ρ η (j % 8) (j / 8)) = 1 ↔ kDist ρ η (j % 8) (j / 8) = 1 := nI_eq (b := 1) (by omega) (by omega)
      by_cases cd : kDist ρ η (j % 8) (j / 8) = 1
      · rw [if_pos (e9.mpr cd), z_ck_in _ d5, d6]
        by_cases cz : s 27 j = 0
        · rw [if_pos cz, if_neg (fun q => q.2.2 cz), z_let_eq, z_let_eq, nI_1]
        · rw [if_neg cz, if_pos ⟨ci, cd, cz⟩, z_ck_in _ d5, z_let_eq, z_let_eq, nI_1]
      · rw [if_neg (fun q => cd (e9.mp q)), if_neg (fun q => cd q.2.1), z_let_eq, z_let_eq, nI_1]
    · rw [if_neg ci, if_pos rfl, if_neg (fun q => ci q.1), z_let_eq, z_let_eq, nI_1]
  · show fM_X8_warms_4 k (nI (η * 8 + ρ)) x (nI 64) s = _
    unfold fM_X8_warms_4 fM_X8_warms_100
    rw [if_pos (show (64 : Int32) ≤ nI 64 from by decide), z_ck_in _ d3, d4, z_let_eq, z_ck_in _ d3, z_let_eq, z_ck_in _ d3, z_up_same]
    show (if kWh (s 4 (η * 8 + ρ)) x < 300 then _ else _) = _
    by_cases c : kWh (s 4 (η * 8 + ρ)) x < 300
    · rw [if_pos c, z_ck_in _ d3, z_let_eq, nar0]
      unfold kWf
      rw [if_pos c]
      rfl
    · rw [if_neg c, z_ck_in _ d3, z_let_eq, nar1]
      unfold kWf
      rw [if_neg c]
      rfl
theorem m_warm {R H : Nat} (b : 1 ≤ R ∧ R ≤ 8 ∧ 1 ≤ H ∧ H ≤ 8) {h : z_G} (e4 : h 0 1 = nI R) (e5 : h 0 2 = nI H) (a0 a1 x : Int32) : ∃ h' : z_G, fM_X8_works_111_go a0 a1 x 0 h = z_bind (fM_X8_sinks (z_up h' 0 22 (h' 0 22 + x))) (fun r52 g53 => fM_X8_works_186_go a0 a1 x 0 g53) ∧ z_ag (z_tch [4, 5] []) h h' ∧ ∀ c, c < 64 → (¬ (c % 8 < R ∧ c / 8 < H) → h' 4 c = h 4 c ∧ h' 5 c = h 5 c) ∧ ∀ ρ η, ρ < R → η < H → c = η * 8 + ρ → (kCold (h 27 c) (h 1 c) (h 2 c) → h' 4 c = kWh (h 4 c) (z_sum (mNb R H h ρ η) 64) ∧ h' 5 c = kWf (kWh (h 4 c) (z_sum (mNb R H h ρ η) 64))) ∧ (¬ kCold (h 27 c) (h 1 c) (h 2 c) → h' 4 c = h 4 c ∧ h' 5 c = h 5 c) := by
  obtain ⟨b1, b2, b3, b4⟩ := id b
  unfold fM_X8_works_111_go
  have key := z_pfor (step := fun k (w : Int32 × Int32 × Int32 × Int32 × z_G) => fM_X8_works_111 k w.1 w.2.1 w.2.2.1 w.2.2.2.1 w.2.2.2.2) (fun j s => (a0, a1, x, nI j, s)) (fun s => z_bind (fM_X8_sinks (z_up s 0 22 (s 0 22 + x))) (fun r52 g53 => fM_X8_works_186_go a0 a1 x 0 g53)) 64 (z_fuel_big (by omega)) (fun j s => z_ag (z_tch [4, 5] []) h s ∧ (∀ i, j ≤ i → s 4 i = h 4 i ∧ s 5 i = h 5 i) ∧ ∀ c, c < j → (¬ (c % 8 < R ∧ c / 8 < H) → s 4 c = h 4 c ∧ s 5 c = h 5 c) ∧ ∀ ρ η, ρ < R → η < H → c = η * 8 + ρ → (kCold (h 27 c) (h 1 c) (h 2 c) → s 4 c = kWh (h 4 c) (z_sum (mNb R H h ρ η) 64) ∧ s 5 c = kWf (kWh (h 4 c) (z_sum (mNb R H h ρ η) 64))) ∧ (¬ kCold (h 27 c) (h 1 c) (h 2 c) → s 4 c = h 4 c ∧ s 5 c = h 5 c)) (fun k j s hj hp => ?_) (fun k s hp => ?_) h ⟨fr_rf, fun i _ => ⟨rfl, rfl⟩, fun c hc => absurd hc (Nat.not_lt_zero c)⟩
  · obtain ⟨s', u1, u2, u3, u4⟩ := key
    exact ⟨s', u1, u2, u4⟩
  · obtain ⟨p1, p2, p3⟩ := hp
    obtain ⟨ρ0, η0, k1, k2, ej⟩ : ∃ ρ0 η0, ρ0 < 8 ∧ η0 < 8 ∧ j = η0 * 8 + ρ0 := ⟨j % 8, j / 8, by omega, by omega, by omega⟩
    have ec : j % 8 = ρ0 := by omega
    have ed : j / 8 = η0 := by omega
    have d3 : vp_in (nI j) 64 := vp_in_nI (by omega) (by omega)
    have d4 : (nI j).toNatClampNeg = j := nI_clamp (by omega)
    have x4 := (p1 0 1 rfl).trans e4
    have x5 := (p1 0 2 rfl).trans e5
    obtain ⟨y4, y5⟩ := p2 j (Nat.le_refl j)
    have skip : fM_X8_works_163 k a0 a1 x (nI j) s = k (a0, a1, x, nI (j + 1), s) := by
      unfold fM_X8_works_163
      rw [z_let_eq, nI_1]
    have st : fM_X8_works_111 k a0 a1 x (nI j) s = if (ρ0 < R ∧ η0 < H) ∧ kCold (h 27 j) (h 1 j) (h 2 j) then z_bind (fM_X8_warms (nI j) s) (fun r12 g13 => fM_X8_works_163 k a0 a1 x (nI j) g13) else fM_X8_works_163 k a0 a1 x (nI j) s := by
      unfold fM_X8_works_111 fM_X8_works_157 kCold
      rw [if_neg (zn_64 hj), m_isInside b x4 x5 hj, z_bind_nd, ec, ed]
      by_cases ci : ρ0 < R ∧ η0 < H
      · rw [if_pos ci, if_neg (by decide), z_ck_in _ d3, d4, p1 27 j rfl]
        by_cases c1 : h 27 j = 0
        · rw [if_pos c1, z_ck_in _ d3, p1 1 j rfl]
          by_cases c2 : 0 < h 1 j
          · rw [if_pos c2, if_pos ⟨ci, c1, Or.inl c2⟩]
          · rw [if_neg c2, z_ck_in _ d3, p1 2 j rfl]
            by_cases c3 : h 2 j ≤ 0
            · rw [if_pos c3, if_neg (fun q => q.2.2.elim c2 (fun w => w c3))]
            · rw [if_neg c3, if_pos ⟨ci, c1, Or.inr c3⟩]
        · rw [if_neg c1, if_neg (fun q => c1 q.2.1)]
      · rw [if_neg ci, if_pos rfl, if_neg (fun q => ci q.1)]
    by_cases cc : (ρ0 < R ∧ η0 < H) ∧ kCold (h 27 j) (h 1 j) (h 2 j)
    · obtain ⟨ci, cw⟩ := cc
      have nb : z_sum (mNb R H s ρ0 η0) 64 = z_sum (mNb R H h ρ0 η0) 64 := z_sum_cong (fun i hi => by unfold mNb; rw [p1 27 i rfl, p1 26 i rfl])
      have wm := m_warms b x4 x5 ci.1 ci.2
      rw [← ej, nb, y4] at wm
      refine ⟨z_up (z_up s 4 j (kWh (h 4 j) (z_sum (mNb R H h ρ0 η0) 64))) 5 j (kWf (kWh (h 4 j) (z_sum (mNb R H h ρ0 η0) 64))), ?_, fr_up (fr_up p1 rfl) rfl, fun i hi => ?_, fun c hc => ?_⟩
      · show fM_X8_works_111 k a0 a1 x (nI j) s = k (a0, a1, x, nI (j + 1), _)
        rw [st, if_pos ⟨ci, cw⟩, wm, z_bind_nd]
        unfold fM_X8_works_163
        rw [z_let_eq, nI_1]
      · have e : i ≠ j := by omega
        rw [z_up_row _ _ _ _ (show 4 ≠ 5 by decide), z_up_at, if_neg (fun q => e q.2), z_up_at, if_neg (fun q => e q.2), z_up_row _ _ _ _ (show 5 ≠ 4 by decide)]
        exact p2 i (by omega)
      · by_cases e : c = j
        · subst e
          refine ⟨fun q => absurd (by rw [ec, ed]; exact ci) q, fun ρ η t1 t2 t3 => ?_⟩
          have e1 : ρ = ρ0 := by omega
          have e2 : η = η0 := by omega
          subst e1 e2
          exact ⟨fun _ => ⟨by rw [z_up_row _ _ _ _ (show 4 ≠ 5 by decide), z_up_same], by rw [z_up_same]⟩, fun q => absurd cw q⟩
        · rw [z_up_row _ _ _ _ (show 4 ≠ 5 by decide), z_up_at, if_neg (fun q => e q.2), z_up_at, if_neg (fun q => e q.2), z_up_row _ _ _ _ (show 5 ≠ 4 by decide)]
          exact p3 c (by omega)
    · refine ⟨s, ?_, p1, fun i hi => p2 i (by omega), fun c hc => ?_⟩
      · show fM_X8_works_111 k a0 a1 x (nI j) s = k (a0, a1, x, nI (j + 1), s)
        rw [st, if_neg cc, skip]
      · by_cases e : c = j
        · subst e
          refine ⟨fun _ => ⟨y4, y5⟩, fun ρ η t1 t2 t3 => ?_⟩
          have e1 : ρ = ρ0 := by omega
          have e2 : η = η0 := by omega
          subst e1 e2
          exact ⟨fun q => absurd ⟨⟨t1, t2⟩, q⟩ cc, fun _ => ⟨y4, y5⟩⟩
        · exact p3 c (by omega)
  · show fM_X8_works_111 k a0 a1 x (nI 64) s = _
    unfold fM_X8_works_111
    rw [if_pos (show (64 : Int32) ≤ nI 64 from by decide), z_let_eq]
theorem kNb_n {R H : Nat} {G : Nat → Int32} (hG : ∀ ρ η, ρ < R → η < H → ∃ k : Nat, k ≤ 1000 ∧ G (ρ * H + η) = nI k) {ρ η : Nat} (k1 : ρ < R) (k2 : η < H) : ∃ n : Nat, n ≤ 4000 ∧ kNb R H G ρ η = nI n := by
  have one : ∀ (p : Prop) [Decidable p] (i : Nat), (p → ∃ k : Nat, k ≤ 1000 ∧ G i = nI k) → ∃ k : Nat, k ≤ 1000 ∧ (if p then G i else 0) = nI k := by
    intro p _ i hp
    by_cases c : p
    · obtain ⟨k, h1, h2⟩ := hp c
      exact ⟨k, h1, by rw [if_pos c, h2]⟩
    · exact ⟨0, by omega, by rw [if_neg c, nI_0]⟩
  obtain ⟨n1, h1, e1⟩ := one (0 < η) (ρ * H + (η - 1)) (fun c => hG ρ (η - 1) k1 (by omega))
  obtain ⟨n2, h2, e2⟩ := one (η + 1 < H) (ρ * H + (η + 1)) (fun c => hG ρ (η + 1) k1 c)
  obtain ⟨n3, h3, e3⟩ := one (0 < ρ) ((ρ - 1) * H + η) (fun c => hG (ρ - 1) η (by omega) k2)
  obtain ⟨n4, h4, e4⟩ := one (ρ + 1 < R) ((ρ + 1) * H + η) (fun c => hG (ρ + 1) η c k2)
  refine ⟨n1 + n2 + n3 + n4, by omega, ?_⟩
  unfold kNb
  rw [e1, e2, e3, e4, nI_add, nI_add, nI_add]
theorem kWh_n {x n : Nat} (hx : x ≤ 1000) (hn : n ≤ 4000) : ∃ k : Nat, k ≤ 1000 ∧ kWh (nI x) (nI n) = nI k ∧ (kWf (kWh (nI x) (nI n)) = 0 ∨ kWf (kWh (nI x) (nI n)) = 1) ∧ (kWf (kWh (nI x) (nI n)) = 1 → 0 < k) := by
  have e : kWh (nI x) (nI n) = nI (min (x + n / 20) 1000) := by
    unfold kWh
    rw [show (20 : Int32) = nI 20 from rfl, pk_div (by omega) (by omega) (by omega), nI_add, show (1000 : Int32) = nI 1000 from rfl, nI_min (by omega) (by omega)]
  refine ⟨_, by omega, e, ?_, fun q => ?_⟩
  · unfold kWf
    by_cases c : kWh (nI x) (nI n) < 300
    · exact Or.inl (if_pos c)
    · exact Or.inr (if_neg c)
  · rcases Nat.eq_zero_or_pos (min (x + n / 20) 1000) with z | z
    · rw [e, z] at q
      exact absurd q (by decide)
    · exact z
theorem r_warm {R H : Nat} {g h : z_G} (b : 1 ≤ R ∧ R ≤ 8 ∧ 1 ≤ H ∧ H ≤ 8) (e1 : g 1 0 = nI R) (e2 : g 1 1 = nI H) (e4 : h 0 1 = nI R) (e5 : h 0 2 = nI H) (q5 : rHot R H g) (p10 : rEq R H 10 1 g h) (p11 : rEq R H 11 2 g h) (p13 : rEq R H 13 4 g h) (p14 : rEq R H 14 5 g h) (hg : ∀ ρ η, ρ < R → η < H → ∃ k : Nat, k ≤ 1000 ∧ g 21 (ρ * H + η) = nI k ∧ ((h 27 (η * 8 + ρ) = 0 ∧ k = 0) ∨ (¬ h 27 (η * 8 + ρ) = 0 ∧ 0 < k ∧ h 26 (η * 8 + ρ) = nI k))) (a0 a1 x : Int32) : ∃ g' h' : z_G, fY_X2_warm g = some (0, g') ∧ fM_X8_works_111_go a0 a1 x 0 h = z_bind (fM_X8_sinks (z_up h' 0 22 (h' 0 22 + x))) (fun r52 g53 => fM_X8_works_186_go a0 a1 x 0 g53) ∧ z_ag (z_tch [4, 5] []) h h' ∧ rEq R H 13 4 g' h' ∧ rEq R H 14 5 g' h' ∧ rHot R H g' ∧ ∀ c, c < 64 → ¬ (c % 8 < R ∧ c / 8 < H) → h' 5 c = h 5 c := by
  obtain ⟨g', u1, u2⟩ := y_warm b e1 e2
  have ag := frY_X2_warm _ _ _ u1
  obtain ⟨h', v1, v2, v3⟩ := m_warm b e4 e5 a0 a1 x
  have lh : ∀ ρ η, ρ < R → η < H → η * 8 + ρ < 64 := fun ρ η k1 k2 => by have := b.2.1; have := b.2.2.2; omega
  have gl : ∀ ρ η, ρ < R → η < H → (g 21 (ρ * H + η) = 0 ↔ h 27 (η * 8 + ρ) = 0) := fun ρ η k1 k2 => by
    obtain ⟨k, k9, ek, w | w⟩ := hg ρ η k1 k2
    · exact ⟨fun _ => w.1, fun _ => by rw [ek, w.2, nI_0]⟩
    · exact ⟨fun q => absurd (ek.symm.trans q) (nI_ne0 w.2.1 (by omega)), fun q => absurd q w.1⟩
  have cold : ∀ ρ η, ρ < R → η < H → (kCold (g 21 (ρ * H + η)) (g 10 (ρ * H + η)) (g 11 (ρ * H + η)) ↔ kCold (h 27 (η * 8 + ρ)) (h 1 (η * 8 + ρ)) (h 2 (η * 8 + ρ))) := fun ρ η k1 k2 => by
    unfold kCold
    rw [gl ρ η k1 k2, p10 ρ η k1 k2, p11 ρ η k1 k2]
  have nb : ∀ ρ η, ρ < R → η < H → kNb R H (g 21) ρ η = z_sum (mNb R H h ρ η) 64 := fun ρ η k1 k2 => by
    rw [← z_sum_nb (g 21) k1 k2]
    refine z_sum_cells b.2.1 b.2.2.2 (fun ρ2 η2 t1 t2 => ?_) (fun c hc ci => ?_)
    · rw [zc_mod t2, zc_div t2]
      unfold mNb
      rw [zc_mod (by have := b.2.1; omega), zc_div (by have := b.2.1; omega)]
      by_cases cd : kDist ρ η ρ2 η2 = 1
      · rw [if_pos cd]
        obtain ⟨k, k9, ek, w | w⟩ := hg ρ2 η2 t1 t2
        · rw [if_neg (fun q => q.2.2 w.1), ek, w.2, nI_0]
        · rw [if_pos ⟨⟨t1, t2⟩, cd, w.1⟩, ek, w.2.2]
      · rw [if_neg cd, if_neg (fun q => cd q.2.1)]
    · unfold mNb
      rw [if_neg (fun q => ci q.1)]
  refine ⟨g', h', u1, v1, v2, fun ρ η k1 k2 => ?_, fun ρ η k1 k2 => ?_, fun ρ η k1 k2 => ?_, fun c hc ci => ((v3 c hc).1 ci).2⟩
  · have w := (v3 _ (lh ρ η k1 k2)).2 ρ η k1 k2 rfl
    by_cases c : kCold (g 21 (ρ * H + η)) (g 10 (ρ * H + η)) (g 11 (ρ * H + η))
    · rw [((u2 ρ η k1 k2).1 c).1, (w.1 ((cold ρ η k1 k2).mp c)).1, nb ρ η k1 k2, p13 ρ η k1 k2]
    · rw [((u2 ρ η k1 k2).2 c).1, (w.2 (fun q => c ((cold ρ η k1 k2).mpr q))).1, p13 ρ η k1 k2]
  · have w := (v3 _ (lh ρ η k1 k2)).2 ρ η k1 k2 rfl
    by_cases c : kCold (g 21 (ρ * H + η)) (g 10 (ρ * H + η)) (g 11 (ρ * H + η))
    · rw [((u2 ρ η k1 k2).1 c).2, (w.1 ((cold ρ η k1 k2).mp c)).2, nb ρ η k1 k2, p13 ρ η k1 k2]
    · rw [((u2 ρ η k1 k2).2 c).2, (w.2 (fun q => c ((cold ρ η k1 k2).mpr q))).2, p14 ρ η k1 k2]
  · obtain ⟨t1, t2, hh, hh9, eh, t3⟩ := q5 ρ η k1 k2
    rw [ag 10 (ρ * H + η) rfl, ag 11 (ρ * H + η) rfl]
    by_cases c : kCold (g 21 (ρ * H + η)) (g 10 (ρ * H + η)) (g 11 (ρ * H + η))
    · rw [((u2 ρ η k1 k2).1 c).1, ((u2 ρ η k1 k2).1 c).2, eh]
      obtain ⟨n, n4, en⟩ := kNb_n (G := g 21) (fun ρ η k1 k2 => by obtain ⟨k, k9, ek, -⟩ := hg ρ η k1 k2; exact ⟨k, k9, ek⟩) k1 k2
      rw [en]
      obtain ⟨k, r1, r2, r3, r4⟩ := kWh_n hh9 n4
      exact ⟨r3, t2, k, r1, r2, r4⟩
    · rw [((u2 ρ η k1 k2).2 c).1, ((u2 ρ η k1 k2).2 c).2]
      exact ⟨t1, t2, hh, hh9, eh, t3⟩
