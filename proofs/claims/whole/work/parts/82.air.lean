/-! air: two sweeps there, every source for every cell here -/
def kDist (ρ η ρ2 η2 : Nat) : Nat := (ρ - ρ2) + (ρ2 - ρ) + ((η - η2) + (η2 - η))
def kSrc (R H n : Nat) (g : z_G) (ρ η : Nat) : Prop := ρ < R ∧ η < H ∧ (((ρ + 1 = R ∨ η + 1 = H) ∧ g 15 (ρ * H + η) = 0) ∨ ∃ k, k < n ∧ ¬ g 23 k = 0 ∧ g 22 k = nI (ρ * H + η))
def kUp (src : Nat → Nat → Prop) (S ρ η a : Nat) : Prop := a = 0 ∨ ∃ ρ2 η2, src ρ2 η2 ∧ a + kDist ρ η ρ2 η2 ≤ S
def kAir (src : Nat → Nat → Prop) (S ρ η a : Nat) : Prop := kUp src S ρ η a ∧ ∀ ρ2 η2, src ρ2 η2 → S ≤ a + kDist ρ η ρ2 η2
theorem kAir_le {src : Nat → Nat → Prop} {S ρ η a a2 : Nat} (h1 : kAir src S ρ η a) (h2 : kAir src S ρ η a2) : a ≤ a2 := by
  obtain ⟨x, -⟩ := h1
  obtain ⟨-, y⟩ := h2
  rcases x with rfl | ⟨ρ2, η2, s, e⟩
  · omega
  · have := y ρ2 η2 s
    omega
theorem kAir_one {src : Nat → Nat → Prop} {S ρ η a a2 : Nat} (h1 : kAir src S ρ η a) (h2 : kAir src S ρ η a2) : a = a2 := Nat.le_antisymm (kAir_le h1 h2) (kAir_le h2 h1)
theorem z_chain {B : Nat → Nat → Nat} {R H : Nat} (h1 : ∀ ρ η, ρ < R → η + 1 < H → B ρ η ≤ B ρ (η + 1) + 1) (h2 : ∀ ρ η, ρ + 1 < R → η < H → B ρ η ≤ B (ρ + 1) η + 1) : ∀ d1 d2 ρ η : Nat, ρ + d1 < R → η + d2 < H → B ρ η ≤ B (ρ + d1) (η + d2) + d1 + d2
  | 0, 0, _, _, _, _ => Nat.le_refl _
  | 0, d2 + 1, ρ, η, k1, k2 => by
    have i := z_chain h1 h2 0 d2 ρ η k1 (by omega)
    have s := h1 ρ (η + d2) (by omega) (by omega)
    simp only [Nat.add_zero] at i ⊢
    rw [Nat.add_assoc η d2 1] at s
    omega
  | d1 + 1, d2, ρ, η, k1, k2 => by
    have i := z_chain h1 h2 d1 d2 ρ η (by omega) k2
    have s := h2 (ρ + d1) (η + d2) (by omega) (by omega)
    rw [Nat.add_assoc ρ d1 1] at s
    omega
theorem z_chainI {B : Nat → Nat → Nat} {R H : Nat} (h1 : ∀ ρ η, ρ < R → η + 1 < H → B ρ (η + 1) ≤ B ρ η + 1) (h2 : ∀ ρ η, ρ + 1 < R → η < H → B (ρ + 1) η ≤ B ρ η + 1) : ∀ d1 d2 ρ η : Nat, ρ + d1 < R → η + d2 < H → B (ρ + d1) (η + d2) ≤ B ρ η + d1 + d2
  | 0, 0, _, _, _, _ => Nat.le_refl _
  | 0, d2 + 1, ρ, η, k1, k2 => by
    have i := z_chainI h1 h2 0 d2 ρ η k1 (by omega)
    have s := h1 ρ (η + d2) (by omega) (by omega)
    simp only [Nat.add_zero] at i ⊢
    rw [Nat.add_assoc η d2 1] at s
    omega
  | d1 + 1, d2, ρ, η, k1, k2 => by
    have i := z_chainI h1 h2 d1 d2 ρ η (by omega) k2
    have s := h2 (ρ + d1) (η + d2) (by omega) (by omega)
    rw [Nat.add_assoc ρ d1 1] at s
    omega
theorem zk_max {x y : Nat} (hx : x ≤ 7) (hy : y ≤ 7) : (if nI x < nI y then nI y else nI x) = nI (max x y) := by
  by_cases c : x < y
  · rw [if_pos (nI_lt c (by omega)), show max x y = y by omega]
  · rw [if_neg (nI_nlt (by omega) (by omega)), show max x y = x by omega]
theorem zk_pm {a y : Nat} (ha : a ≤ 7) (hy : y ≤ 7) : (if nI a < nI y - 1 then nI y - 1 else nI a) = nI (max a (y - 1)) := by
  cases y with
  | zero =>
    have d : ¬ nI a < nI 0 - 1 := by
      rw [fa_lt, nI_toInt (by omega), show (nI 0 - 1).toInt = -1 from by decide]
      omega
    rw [if_neg d, show max a (0 - 1) = a by omega]
  | succ y =>
    rw [nI_pred]
    by_cases c : a < y
    · rw [if_pos (nI_lt c (by omega)), show max a (y + 1 - 1) = y by omega]
    · rw [if_neg (nI_nlt (by omega) (by omega)), show max a (y + 1 - 1) = a by omega]
theorem y_isBare {i : Nat} (hi : i < 64) (s : z_G) : fY_X2_isBare (nI i) s = some (if ¬ s 9 i = 0 ∧ s 15 i = 0 then 1 else 0, s) := by
  unfold fY_X2_isBare fY_X2_isBare_22 fY_X2_isBare_23
  have d3 : vp_in (nI i) 64 := vp_in_nI hi (by omega)
  have d4 : (nI i).toNatClampNeg = i := nI_clamp (by omega)
  by_cases c1 : s 9 i = 0
  · simp [z_ck_in, d3, d4, c1, z_bo_0]
  · by_cases c2 : s 15 i = 0
    · simp [z_ck_in, d3, d4, c1, c2, z_bo_1]
    · simp [z_ck_in, d3, d4, c1, c2, z_bo_0]
theorem y_air1 {g : z_G} {N S : Nat} (hN : N ≤ 64) (e3 : g 1 4 = nI N) : ∃ g1, fY_X2_breathe_r2 (nI S) g = fY_X2_breathe_r2_37_go (nI S) 0 g1 ∧ (∀ i, i < N → g1 16 i = nI (if ¬ g 9 i = 0 ∧ g 15 i = 0 then S else 0)) ∧ z_ag (z_tch [16] []) g g1 := by
  unfold fY_X2_breathe_r2 fY_X2_breathe_r2_2_go
  refine z_pfor (step := fun k (w : Int32 × Int32 × z_G) => fY_X2_breathe_r2_2 k w.1 w.2.1 w.2.2) (fun j s => (nI S, nI j, s)) (fun s => fY_X2_breathe_r2_37_go (nI S) 0 s) N (z_fuel_big (by omega)) (fun j s => (∀ i, i < j → s 16 i = nI (if ¬ g 9 i = 0 ∧ g 15 i = 0 then S else 0)) ∧ z_ag (z_tch [16] []) g s) (fun k j s hj hp => ⟨z_up s 16 j (nI (if ¬ g 9 j = 0 ∧ g 15 j = 0 then S else 0)), ?_, ?_⟩) (fun k s hp => ?_) g ⟨fun i hi => absurd hi (Nat.not_lt_zero i), fr_rf⟩
  · have d3 : vp_in (nI j) 64 := vp_in_nI (by omega) (by omega)
    have d4 : (nI j).toNatClampNeg = j := nI_clamp (by omega)
    show fY_X2_breathe_r2_2 k (nI S) (nI j) s = _
    unfold fY_X2_breathe_r2_2 fY_X2_breathe_r2_28
    rw [hp.2 1 4 rfl, e3, if_neg (zn_stop (show N < 2 ^ 31 by omega) hj), y_isBare (by omega), z_bind_nd, hp.2 9 j rfl, hp.2 15 j rfl]
    by_cases c : ¬ g 9 j = 0 ∧ g 15 j = 0
    · rw [if_pos c, if_pos c, if_neg (by decide), z_ck_in _ d3, d4, z_let_eq, z_let_eq, nI_1]
    · rw [if_neg c, if_neg c, if_pos rfl, z_ck_in _ d3, d4, z_let_eq, z_let_eq, nI_1, nI_0]
  · refine ⟨fun i hi => ?_, fr_up hp.2 rfl⟩
    by_cases e : i = j
    · rw [e, z_up_same]
    · rw [z_up_at, if_neg (fun q => e q.2)]
      exact hp.1 i (by omega)
  · show fY_X2_breathe_r2_2 k (nI S) (nI N) s = _
    unfold fY_X2_breathe_r2_2
    rw [hp.2 1 4 rfl, e3, if_pos (nI_le (Nat.le_refl N) (by omega))]
/-- the sources, before the sweeps -/
theorem y_air2 {R H n S : Nat} (b : 1 ≤ R ∧ R ≤ 8 ∧ 1 ≤ H ∧ H ≤ 8) {g g1 : z_G} (hn : n ≤ 12) (n1 : g 2 0 = nI n) (hp : ∀ k, k < n → ∃ ρ η : Nat, ρ < R ∧ η < H ∧ g 22 k = nI (ρ * H + η)) (q2 : rFix R H g) (a1 : ∀ i, i < R * H → g1 16 i = nI (if ¬ g 9 i = 0 ∧ g 15 i = 0 then S else 0)) (ag : z_ag (z_tch [16] []) g g1) : ∃ g2, fY_X2_breathe_r2_37_go (nI S) 0 g1 = z_bind (fY_X2_spreadOutwards g2) (fun r6 g7 => z_bind (fY_X2_spreadInwards g7) (fun r9 g10 => some (0, g10))) ∧ z_ag (z_tch [16] []) g g2 ∧ ∃ A : Nat → Nat, (∀ i, i < R * H → g2 16 i = nI (A i)) ∧ ∀ ρ η, ρ < R → η < H → (kSrc R H n g ρ η → A (ρ * H + η) = S) ∧ (A (ρ * H + η) = 0 ∨ (A (ρ * H + η) = S ∧ kSrc R H n g ρ η)) := by
  unfold fY_X2_breathe_r2_37_go
  refine z_pfor (step := fun k (w : Int32 × Int32 × z_G) => fY_X2_breathe_r2_37 k w.1 w.2.1 w.2.2) (fun j s => (nI S, nI j, s)) (fun s => z_bind (fY_X2_spreadOutwards s) (fun r6 g7 => z_bind (fY_X2_spreadInwards g7) (fun r9 g10 => some (0, g10)))) n (z_fuel_big (by omega)) (fun j s => z_ag (z_tch [16] []) g s ∧ ∃ A : Nat → Nat, (∀ i, i < R * H → s 16 i = nI (A i)) ∧ ∀ ρ η, ρ < R → η < H → (kSrc R H j g ρ η → A (ρ * H + η) = S) ∧ (A (ρ * H + η) = 0 ∨ (A (ρ * H + η) = S ∧ kSrc R H n g ρ η))) (fun k j s hj hq => ?_) (fun k s hq => ?_) g1 ⟨ag, fun i => if ¬ g 9 i = 0 ∧ g 15 i = 0 then S else 0, a1, fun ρ η k1 k2 => ?_⟩
  · obtain ⟨gs, A, hA, hB⟩ := hq
    have d3 : vp_in (nI j) 12 := vp_in_nI (by omega) (by omega)
    have d4 : (nI j).toNatClampNeg = j := nI_clamp (by omega)
    obtain ⟨ρ0, η0, h1, h2, e0⟩ := hp j hj
    have l1 : ρ0 * H + η0 < 64 := Nat.lt_of_lt_of_le (zc_lt h1 h2) (zc_64 b.2.1 b.2.2.2)
    by_cases c : g 23 j = 0
    · refine ⟨s, ?_, gs, A, hA, fun ρ η k1 k2 => ⟨fun q => ?_, (hB ρ η k1 k2).2⟩⟩
      · show fY_X2_breathe_r2_37 k (nI S) (nI j) s = _
        unfold fY_X2_breathe_r2_37 fY_X2_breathe_r2_66
        rw [gs 2 0 rfl, n1, if_neg (zn_stop (show n < 2 ^ 31 by omega) hj), z_ck_in _ d3, d4, gs 23 j rfl, if_pos c, z_let_eq, nI_1]
      · refine (hB ρ η k1 k2).1 ⟨q.1, q.2.1, ?_⟩
        rcases q.2.2 with q | ⟨k9, t1, t2, t3⟩
        · exact Or.inl q
        · refine Or.inr ⟨k9, ?_, t2, t3⟩
          rcases Nat.lt_or_ge k9 j with h9 | h9
          · exact h9
          · have e9 : k9 = j := by omega
            subst e9
            exact absurd c t2
    · refine ⟨z_up s 16 (ρ0 * H + η0) (nI S), ?_, fr_up gs rfl, fun i => if i = ρ0 * H + η0 then S else A i, fun i hi => ?_, fun ρ η k1 k2 => ?_⟩
      · show fY_X2_breathe_r2_37 k (nI S) (nI j) s = _
        unfold fY_X2_breathe_r2_37 fY_X2_breathe_r2_66
        rw [gs 2 0 rfl, n1, if_neg (zn_stop (show n < 2 ^ 31 by omega) hj), z_ck_in _ d3, d4, gs 23 j rfl, if_neg c, z_ck_in _ d3, gs 22 j rfl, e0, z_ck_in _ (vp_in_nI l1 (by omega)), nI_clamp (show ρ0 * H + η0 < 2 ^ 31 by omega), z_let_eq, z_let_eq, nI_1]
      · simp only
        rw [z_up_at]
        by_cases e : i = ρ0 * H + η0
        · rw [if_pos ⟨rfl, e⟩, if_pos e]
        · rw [if_neg (fun q => e q.2), if_neg e]
          exact hA i hi
      · by_cases e : ρ * H + η = ρ0 * H + η0
        · refine ⟨fun _ => if_pos e, Or.inr ⟨if_pos e, k1, k2, Or.inr ⟨j, hj, c, ?_⟩⟩⟩
          rw [e0, e]
        · refine ⟨fun q => ?_, ?_⟩
          · simp only
            rw [if_neg e]
            refine (hB ρ η k1 k2).1 ⟨k1, k2, ?_⟩
            rcases q.2.2 with q | ⟨k9, t1, t2, t3⟩
            · exact Or.inl q
            · refine Or.inr ⟨k9, ?_, t2, t3⟩
              rcases Nat.lt_or_ge k9 j with h9 | h9
              · exact h9
              · have e9 : k9 = j := by omega
                subst e9
                have l2 : ρ * H + η < 64 := Nat.lt_of_lt_of_le (zc_lt k1 k2) (zc_64 b.2.1 b.2.2.2)
                exact absurd ((nI_eq (by omega) (by omega)).mp (t3.symm.trans e0)) e
          · simp only [if_neg e]
            exact (hB ρ η k1 k2).2
  · show fY_X2_breathe_r2_37 k (nI S) (nI n) s = _
    unfold fY_X2_breathe_r2_37
    rw [hq.1 2 0 rfl, n1, if_pos (nI_le (Nat.le_refl n) (by omega))]
  · have o := (q2 ρ η k1 k2).2
    refine ⟨fun q => ?_, ?_⟩
    · rcases q.2.2 with ⟨o2, c⟩ | ⟨k9, t1, -⟩
      · have o3 : ¬ g 9 (ρ * H + η) = 0 := by rw [o, if_pos o2]; decide
        exact if_pos ⟨o3, c⟩
      · exact absurd t1 (Nat.not_lt_zero k9)
    · by_cases c : ¬ g 9 (ρ * H + η) = 0 ∧ g 15 (ρ * H + η) = 0
      · refine Or.inr ⟨if_pos c, k1, k2, Or.inl ⟨?_, c.2⟩⟩
        by_cases o2 : ρ + 1 = R ∨ η + 1 = H
        · exact o2
        · rw [o, if_neg o2] at c
          exact absurd rfl c.1
      · exact Or.inl (if_neg c)
/-- one cell in a sweep: what comes from two neighbours -/
theorem kUp_own {src : Nat → Nat → Prop} {S ρ η a be inn : Nat} (u : kUp src S ρ η a) (u1 : be = 0 ∨ ∃ η9, (η9 = η + 1 ∨ η9 + 1 = η) ∧ kUp src S ρ η9 be) (u2 : inn = 0 ∨ ∃ ρ9, (ρ9 = ρ + 1 ∨ ρ9 + 1 = ρ) ∧ kUp src S ρ9 η inn) : kUp src S ρ η (max a (max be inn - 1)) := by
  have v1 : kUp src S ρ η (be - 1) := by
    rcases u1 with rfl | ⟨η9, e, rfl | ⟨ρ2, η2, s, d⟩⟩
    · exact Or.inl rfl
    · exact Or.inl rfl
    · rcases Nat.eq_zero_or_pos be with z | z
      · exact Or.inl (by omega)
      · exact Or.inr ⟨ρ2, η2, s, by unfold kDist at d ⊢; omega⟩
  have v2 : kUp src S ρ η (inn - 1) := by
    rcases u2 with rfl | ⟨ρ9, e, rfl | ⟨ρ2, η2, s, d⟩⟩
    · exact Or.inl rfl
    · exact Or.inl rfl
    · rcases Nat.eq_zero_or_pos inn with z | z
      · exact Or.inl (by omega)
      · exact Or.inr ⟨ρ2, η2, s, by unfold kDist at d ⊢; omega⟩
  rcases (show max a (max be inn - 1) = a ∨ max a (max be inn - 1) = be - 1 ∨ max a (max be inn - 1) = inn - 1 by omega) with e | e | e <;> rw [e]
  · exact u
  · exact v1
  · exact v2
theorem y_out {R H : Nat} (b : 1 ≤ R ∧ R ≤ 8 ∧ 1 ≤ H ∧ H ≤ 8) {g : z_G} (e1 : g 1 0 = nI R) (e2 : g 1 1 = nI H) {A0 : Nat → Nat} (a0 : ∀ i, i < R * H → g 16 i = nI (A0 i)) (a7 : ∀ i, i < R * H → A0 i ≤ 7) {src : Nat → Nat → Prop} {S : Nat} (up : ∀ ρ η, ρ < R → η < H → kUp src S ρ η (A0 (ρ * H + η))) : ∃ g', fY_X2_spreadOutwards g = some (0, g') ∧ g' 1 = g 1 ∧ ∃ A : Nat → Nat, (∀ i, i < R * H → g' 16 i = nI (A i)) ∧ (∀ i, i < R * H → A i ≤ 7 ∧ A0 i ≤ A i) ∧ (∀ ρ η, ρ < R → η + 1 < H → ρ * H + (η + 1) < R * H → A (ρ * H + η) ≤ A (ρ * H + (η + 1)) + 1) ∧ (∀ ρ η, ρ + 1 < R → η < H → (ρ + 1) * H + η < R * H → A (ρ * H + η) ≤ A ((ρ + 1) * H + η) + 1) ∧ ∀ ρ η, ρ < R → η < H → kUp src S ρ η (A (ρ * H + η)) := by
  obtain ⟨b1, b2, b3, b4⟩ := id b
  have hn : R * H ≤ 64 := zc_64 b2 b4
  unfold fY_X2_spreadOutwards fY_X2_spreadOutwards_2_go
  rw [← nI_0]
  refine z_pfor2 (st1 := fun k (w : Int32 × z_G) => fY_X2_spreadOutwards_2 k w.1 w.2) (st2 := fun k43 k (w : Int32 × Int32 × z_G) => fY_X2_spreadOutwards_12 k43 k w.1 w.2.1 w.2.2) (fun ρ g => (nI ρ, g)) (fun ρ η g => (nI ρ, nI η, g)) (fun g => some (nI 0, g)) R H (z_fuel_big (by omega)) (z_fuel_big (by omega)) (fun n s => s 1 = g 1 ∧ ∃ A : Nat → Nat, (∀ i, i < R * H → s 16 i = nI (A i)) ∧ (∀ i, i < R * H → A i ≤ 7 ∧ A0 i ≤ A i) ∧ (∀ ρ η, ρ < R → η + 1 < H → ρ * H + (η + 1) < n → A (ρ * H + η) ≤ A (ρ * H + (η + 1)) + 1) ∧ (∀ ρ η, ρ + 1 < R → η < H → (ρ + 1) * H + η < n → A (ρ * H + η) ≤ A ((ρ + 1) * H + η) + 1) ∧ ∀ ρ η, ρ < R → η < H → kUp src S ρ η (A (ρ * H + η))) (fun k ρ s hρ hp => ?_) (fun k k2 ρ η s hρ hη hp => ?_) (fun k k2 ρ s hρ hp => ?_) (fun k s hp => ?_) g ⟨rfl, A0, a0, fun i hi => ⟨a7 i hi, Nat.le_refl _⟩, fun _ _ _ _ h => absurd h (Nat.not_lt_zero _), fun _ _ _ _ h => absurd h (Nat.not_lt_zero _), up⟩
  · show fY_X2_spreadOutwards_2 k (nI ρ) s = fY_X2_spreadOutwards_12_go k (nI ρ) (nI 0) s
    unfold fY_X2_spreadOutwards_2
    rw [hp.1, e1, if_neg (zn_stop (show R < 2 ^ 31 by omega) hρ), nI_0]
  · obtain ⟨p1, A, p2, p3, p4, p5, p6⟩ := hp
    have hlt : ρ * H + η < R * H := zc_lt hρ hη
    have d3 : vp_in (nI (ρ * H + η)) 64 := vp_in_nI (by omega) (by omega)
    have d4 : (nI (ρ * H + η)).toNatClampNeg = ρ * H + η := nI_clamp (by omega)
    have hbe : ∃ be : Nat, be ≤ 7 ∧ ((η = 0 ∧ be = 0) ∨ ∃ η9, η = η9 + 1 ∧ be = A (ρ * H + η9)) ∧ ∀ F : Int32 → Option (Int32 × z_G), (if nI η ≤ 0 then F 0 else z_ck (nI (ρ * H + η) - 1) 64 (F (s 16 (nI (ρ * H + η) - 1).toNatClampNeg))) = F (nI be) := by
      cases η with
      | zero => exact ⟨0, by omega, Or.inl ⟨rfl, rfl⟩, fun F => by rw [if_pos (by decide), nI_0]⟩
      | succ η9 =>
        refine ⟨A (ρ * H + η9), (p3 _ (by omega)).1, Or.inr ⟨η9, rfl, rfl⟩, fun F => ?_⟩
        rw [if_neg (nI_nle (by omega) (by omega)), show ρ * H + (η9 + 1) = ρ * H + η9 + 1 from rfl, nI_pred, z_ck_in _ (vp_in_nI (by omega) (by omega)), nI_clamp (by omega), p2 _ (by omega)]
    have hinn : ∃ inn : Nat, inn ≤ 7 ∧ ((ρ = 0 ∧ inn = 0) ∨ ∃ ρ9, ρ = ρ9 + 1 ∧ inn = A (ρ9 * H + η)) ∧ ∀ F : Int32 → Option (Int32 × z_G), (if nI ρ ≤ 0 then F 0 else z_ck (nI (ρ * H + η) - nI H) 64 (F (s 16 (nI (ρ * H + η) - nI H).toNatClampNeg))) = F (nI inn) := by
      cases ρ with
      | zero => exact ⟨0, by omega, Or.inl ⟨rfl, rfl⟩, fun F => by rw [if_pos (by decide), nI_0]⟩
      | succ ρ9 =>
        have ee : (ρ9 + 1) * H + η - H = ρ9 * H + η := by rw [Nat.succ_mul]; omega
        have e9 : (ρ9 + 1) * H = ρ9 * H + H := Nat.succ_mul ρ9 H
        refine ⟨A (ρ9 * H + η), (p3 _ (by omega)).1, Or.inr ⟨ρ9, rfl, rfl⟩, fun F => ?_⟩
        rw [if_neg (nI_nle (by omega) (by omega)), pk_sub (by omega), ee, z_ck_in _ (vp_in_nI (by omega) (by omega)), nI_clamp (by omega), p2 _ (by omega)]
    obtain ⟨be, be7, hbe1, hbe2⟩ := hbe
    obtain ⟨inn, inn7, hin1, hin2⟩ := hinn
    have a7i := (p3 _ hlt).1
    refine ⟨z_up s 16 (ρ * H + η) (nI (max (A (ρ * H + η)) (max be inn - 1))), ?_, ?_⟩
    · show fY_X2_spreadOutwards_12 k k2 (nI ρ) (nI η) s = k2 (nI ρ, nI (η + 1), _)
      unfold fY_X2_spreadOutwards_12 fY_X2_at
      rw [p1, e2, if_neg (zn_stop (show H < 2 ^ 31 by omega) hη), z_bind_nd, pk_mul, nI_add, hbe2 (fun x => fY_X2_spreadOutwards_43 k2 x (nI ρ) (nI η) (nI (ρ * H + η)) s)]
      show fY_X2_spreadOutwards_43 k2 (nI be) (nI ρ) (nI η) (nI (ρ * H + η)) s = _
      unfold fY_X2_spreadOutwards_43
      rw [p1, e2, hin2 (fun x => fY_X2_spreadOutwards_64 k2 x (nI ρ) (nI η) (nI (ρ * H + η)) (nI be) s)]
      show fY_X2_spreadOutwards_64 k2 (nI inn) (nI ρ) (nI η) (nI (ρ * H + η)) (nI be) s = _
      unfold fY_X2_spreadOutwards_64
      rw [z_ck_in _ d3, d4, z_let_eq, zk_max be7 inn7, z_let_eq, p2 _ hlt, zk_pm a7i (by omega), z_ck_in _ d3, z_let_eq, z_let_eq, nI_1]
    · refine ⟨by rw [z_up_row _ _ _ _ (by decide), p1], fun i => if i = ρ * H + η then max (A (ρ * H + η)) (max be inn - 1) else A i, fun i hi => ?_, fun i hi => ?_, fun ρ2 η2 k1 k2 k3 => ?_, fun ρ2 η2 k1 k2 k3 => ?_, fun ρ2 η2 k1 k2 => ?_⟩
      · simp only
        rw [z_up_at]
        by_cases e : i = ρ * H + η
        · rw [if_pos ⟨rfl, e⟩, if_pos e]
        · rw [if_neg (fun q => e q.2), if_neg e]
          exact p2 i hi
      · simp only
        by_cases e : i = ρ * H + η
        · rw [if_pos e]
          have := p3 i hi
          rw [← e]
          omega
        · rw [if_neg e]
          exact p3 i hi
      · simp only
        rw [if_neg (show ¬ ρ2 * H + η2 = ρ * H + η by omega)]
        by_cases e : ρ2 * H + (η2 + 1) = ρ * H + η
        · rw [if_pos e]
          obtain ⟨rfl, rfl⟩ := zc_inj k2 hη e
          rcases hbe1 with ⟨w, -⟩ | ⟨η9, w1, w2⟩
          · omega
          · have : η9 = η2 := by omega
            subst this
            omega
        · rw [if_neg e]
          exact p4 ρ2 η2 k1 k2 (by omega)
      · have e9 : (ρ2 + 1) * H = ρ2 * H + H := Nat.succ_mul ρ2 H
        simp only
        rw [if_neg (show ¬ ρ2 * H + η2 = ρ * H + η by omega)]
        by_cases e : (ρ2 + 1) * H + η2 = ρ * H + η
        · rw [if_pos e]
          obtain ⟨rfl, rfl⟩ := zc_inj k2 hη e
          rcases hin1 with ⟨w, -⟩ | ⟨ρ9, w1, w2⟩
          · omega
          · have : ρ9 = ρ2 := by omega
            subst this
            omega
        · rw [if_neg e]
          exact p5 ρ2 η2 k1 k2 (by omega)
      · simp only
        by_cases e : ρ2 * H + η2 = ρ * H + η
        · rw [if_pos e]
          obtain ⟨rfl, rfl⟩ := zc_inj k2 hη e
          refine kUp_own (p6 ρ2 η2 k1 k2) ?_ ?_
          · rcases hbe1 with ⟨-, w⟩ | ⟨η9, w1, w2⟩
            · exact Or.inl w
            · exact Or.inr ⟨η9, Or.inr (by omega), by rw [w2]; exact p6 ρ2 η9 k1 (by omega)⟩
          · rcases hin1 with ⟨-, w⟩ | ⟨ρ9, w1, w2⟩
            · exact Or.inl w
            · exact Or.inr ⟨ρ9, Or.inr (by omega), by rw [w2]; exact p6 ρ9 η2 (by omega) k2⟩
        · rw [if_neg e]
          exact p6 ρ2 η2 k1 k2
  · show fY_X2_spreadOutwards_12 k k2 (nI ρ) (nI H) s = k (nI (ρ + 1), s)
    unfold fY_X2_spreadOutwards_12
    rw [hp.1, e2, if_pos (nI_le (Nat.le_refl H) (by omega)), nI_1]
    rfl
  · show fY_X2_spreadOutwards_2 k (nI R) s = _
    unfold fY_X2_spreadOutwards_2
    rw [hp.1, e1, if_pos (nI_le (Nat.le_refl R) (by omega)), nI_0]
theorem zk_dec (x : Int32) : x + (-1) = x - 1 := (Int32.sub_eq_add_neg x 1).symm
theorem zk_neg : nI 0 - 1 < 0 := by decide
theorem y_in {R H : Nat} (b : 1 ≤ R ∧ R ≤ 8 ∧ 1 ≤ H ∧ H ≤ 8) {g : z_G} (e1 : g 1 0 = nI R) (e2 : g 1 1 = nI H) {A0 : Nat → Nat} (a0 : ∀ i, i < R * H → g 16 i = nI (A0 i)) (a7 : ∀ i, i < R * H → A0 i ≤ 7) {src : Nat → Nat → Prop} {S : Nat} (up : ∀ ρ η, ρ < R → η < H → kUp src S ρ η (A0 (ρ * H + η))) : ∃ g', fY_X2_spreadInwards g = some (0, g') ∧ g' 1 = g 1 ∧ ∃ A : Nat → Nat, (∀ i, i < R * H → g' 16 i = nI (A i)) ∧ (∀ i, i < R * H → A i ≤ 7 ∧ A0 i ≤ A i) ∧ (∀ ρ η, ρ < R → η + 1 < H → R * H ≤ ρ * H + η + R * H → A (ρ * H + (η + 1)) ≤ A (ρ * H + η) + 1) ∧ (∀ ρ η, ρ + 1 < R → η < H → R * H ≤ ρ * H + η + R * H → A ((ρ + 1) * H + η) ≤ A (ρ * H + η) + 1) ∧ ∀ ρ η, ρ < R → η < H → kUp src S ρ η (A (ρ * H + η)) := by
  obtain ⟨b1, b2, b3, b4⟩ := id b
  have hn : R * H ≤ 64 := zc_64 b2 b4
  unfold fY_X2_spreadInwards fY_X2_spreadInwards_7_go
  rw [z_let_eq, e1]
  refine z_pfor2 (st1 := fun k (w : Int32 × z_G) => fY_X2_spreadInwards_7 k w.1 w.2) (st2 := fun k43 k (w : Int32 × Int32 × z_G) => fY_X2_spreadInwards_18 k43 k w.1 w.2.1 w.2.2) (fun j g => (nI (R - j) - 1, g)) (fun j l g => (nI (R - j) - 1, nI (H - l) - 1, g)) (fun g => some (0, g)) R H (z_fuel_big (by omega)) (z_fuel_big (by omega)) (fun n s => s 1 = g 1 ∧ ∃ A : Nat → Nat, (∀ i, i < R * H → s 16 i = nI (A i)) ∧ (∀ i, i < R * H → A i ≤ 7 ∧ A0 i ≤ A i) ∧ (∀ ρ η, ρ < R → η + 1 < H → R * H ≤ ρ * H + η + n → A (ρ * H + (η + 1)) ≤ A (ρ * H + η) + 1) ∧ (∀ ρ η, ρ + 1 < R → η < H → R * H ≤ ρ * H + η + n → A ((ρ + 1) * H + η) ≤ A (ρ * H + η) + 1) ∧ ∀ ρ η, ρ < R → η < H → kUp src S ρ η (A (ρ * H + η))) (fun k j s hj hp => ?_) (fun k k2 j l s hj hl hp => ?_) (fun k k2 j s hj hp => ?_) (fun k s hp => ?_) g ⟨rfl, A0, a0, fun i hi => ⟨a7 i hi, Nat.le_refl _⟩, fun ρ η k1 k2 h => absurd (zc_lt k1 (show η < H by omega)) (by omega), fun ρ η k1 k2 h => absurd (zc_lt (show ρ < R by omega) k2) (by omega), up⟩
  · obtain ⟨ρ, eρ⟩ : ∃ ρ, R - j = ρ + 1 := ⟨R - j - 1, by omega⟩
    show fY_X2_spreadInwards_7 k (nI (R - j) - 1) s = fY_X2_spreadInwards_18_go k (nI (R - j) - 1) (nI (H - 0) - 1) s
    unfold fY_X2_spreadInwards_7
    rw [eρ, nI_pred, if_neg (nI_pos (by omega)), z_let_eq, hp.1, e2, Nat.sub_zero]
  · obtain ⟨p1, A, p2, p3, p4, p5, p6⟩ := hp
    obtain ⟨ρ, eρ⟩ : ∃ ρ, R - j = ρ + 1 := ⟨R - j - 1, by omega⟩
    obtain ⟨η, eη⟩ : ∃ η, H - l = η + 1 := ⟨H - l - 1, by omega⟩
    have hρ : ρ < R := by omega
    have hη : η < H := by omega
    have hlt : ρ * H + η < R * H := zc_lt hρ hη
    have eR : R * H = ρ * H + η + (j * H + l) + 1 := by
      have : R = ρ + 1 + j := by omega
      rw [this, Nat.add_mul, Nat.succ_mul]
      omega
    have d3 : vp_in (nI (ρ * H + η)) 64 := vp_in_nI (by omega) (by omega)
    have d4 : (nI (ρ * H + η)).toNatClampNeg = ρ * H + η := nI_clamp (by omega)
    have hbe : ∃ be : Nat, be ≤ 7 ∧ ((η + 1 = H ∧ be = 0) ∨ (η + 1 < H ∧ be = A (ρ * H + (η + 1)))) ∧ ∀ F : Int32 → Option (Int32 × z_G), (if nI H - 1 ≤ nI η then F 0 else z_ck (nI (ρ * H + η) + 1) 64 (F (s 16 (nI (ρ * H + η) + 1).toNatClampNeg))) = F (nI be) := by
      obtain ⟨H9, eH⟩ : ∃ H9, H = H9 + 1 := ⟨H - 1, by omega⟩
      have x : nI H - 1 = nI H9 := by rw [eH, nI_pred]
      by_cases c : η + 1 = H
      · exact ⟨0, by omega, Or.inl ⟨c, rfl⟩, fun F => by rw [x, if_pos (nI_le (by omega) (by omega)), nI_0]⟩
      · have hlt2 : ρ * H + (η + 1) < R * H := zc_lt hρ (by omega)
        refine ⟨A (ρ * H + (η + 1)), (p3 _ hlt2).1, Or.inr ⟨by omega, rfl⟩, fun F => ?_⟩
        rw [x, if_neg (nI_ge (by omega) (by omega)), nI_1, show ρ * H + η + 1 = ρ * H + (η + 1) from rfl, z_ck_in _ (vp_in_nI (by omega) (by omega)), nI_clamp (by omega), p2 _ hlt2]
    have hinn : ∃ inn : Nat, inn ≤ 7 ∧ ((ρ + 1 = R ∧ inn = 0) ∨ (ρ + 1 < R ∧ inn = A ((ρ + 1) * H + η))) ∧ ∀ F : Int32 → Option (Int32 × z_G), (if nI R - 1 ≤ nI ρ then F 0 else z_ck (nI (ρ * H + η) + nI H) 64 (F (s 16 (nI (ρ * H + η) + nI H).toNatClampNeg))) = F (nI inn) := by
      obtain ⟨R9, eR9⟩ : ∃ R9, R = R9 + 1 := ⟨R - 1, by omega⟩
      have x : nI R - 1 = nI R9 := by rw [eR9, nI_pred]
      by_cases c : ρ + 1 = R
      · exact ⟨0, by omega, Or.inl ⟨c, rfl⟩, fun F => by rw [x, if_pos (nI_le (by omega) (by omega)), nI_0]⟩
      · have hlt2 : (ρ + 1) * H + η < R * H := zc_lt (by omega) hη
        have ee : ρ * H + η + H = (ρ + 1) * H + η := by rw [Nat.succ_mul]; omega
        refine ⟨A ((ρ + 1) * H + η), (p3 _ hlt2).1, Or.inr ⟨by omega, rfl⟩, fun F => ?_⟩
        rw [x, if_neg (nI_ge (by omega) (by omega)), nI_add, ee, z_ck_in _ (vp_in_nI (by omega) (by omega)), nI_clamp (by omega), p2 _ hlt2]
    obtain ⟨be, be7, hbe1, hbe2⟩ := hbe
    obtain ⟨inn, inn7, hin1, hin2⟩ := hinn
    have a7i := (p3 _ hlt).1
    refine ⟨z_up s 16 (ρ * H + η) (nI (max (A (ρ * H + η)) (max be inn - 1))), ?_, ?_⟩
    · show fY_X2_spreadInwards_18 k k2 (nI (R - j) - 1) (nI (H - l) - 1) s = k2 (nI (R - j) - 1, nI (H - (l + 1)) - 1, _)
      rw [show H - (l + 1) = η by omega, eρ, eη, nI_pred, nI_pred]
      unfold fY_X2_spreadInwards_18 fY_X2_at
      rw [if_neg (nI_pos (by omega)), z_bind_nd, p1, e2, pk_mul, nI_add, hbe2 (fun x => fY_X2_spreadInwards_51 k2 x (nI ρ) (nI η) (nI (ρ * H + η)) s)]
      show fY_X2_spreadInwards_51 k2 (nI be) (nI ρ) (nI η) (nI (ρ * H + η)) s = _
      unfold fY_X2_spreadInwards_51
      rw [p1, e1, e2, hin2 (fun x => fY_X2_spreadInwards_78 k2 x (nI ρ) (nI η) (nI (ρ * H + η)) (nI be) s)]
      show fY_X2_spreadInwards_78 k2 (nI inn) (nI ρ) (nI η) (nI (ρ * H + η)) (nI be) s = _
      unfold fY_X2_spreadInwards_78
      rw [z_ck_in _ d3, d4, z_let_eq, zk_max be7 inn7, z_let_eq, p2 _ hlt, zk_pm a7i (by omega), z_ck_in _ d3, z_let_eq, z_let_eq, zk_dec]
    · refine ⟨by rw [z_up_row _ _ _ _ (by decide), p1], fun i => if i = ρ * H + η then max (A (ρ * H + η)) (max be inn - 1) else A i, fun i hi => ?_, fun i hi => ?_, fun ρ2 η2 k1 k2 k3 => ?_, fun ρ2 η2 k1 k2 k3 => ?_, fun ρ2 η2 k1 k2 => ?_⟩
      · simp only
        rw [z_up_at]
        by_cases e : i = ρ * H + η
        · rw [if_pos ⟨rfl, e⟩, if_pos e]
        · rw [if_neg (fun q => e q.2), if_neg e]
          exact p2 i hi
      · simp only
        by_cases e : i = ρ * H + η
        · rw [if_pos e]
          have := p3 i hi
          rw [← e]
          omega
        · rw [if_neg e]
          exact p3 i hi
      · simp only
        rw [if_neg (show ¬ ρ2 * H + (η2 + 1) = ρ * H + η by omega)]
        by_cases e : ρ2 * H + η2 = ρ * H + η
        · rw [if_pos e]
          obtain ⟨rfl, rfl⟩ := zc_inj (show η2 < H by omega) hη e
          rcases hbe1 with ⟨w, -⟩ | ⟨w1, w2⟩
          · omega
          · omega
        · rw [if_neg e]
          exact p4 ρ2 η2 k1 k2 (by omega)
      · have e9 : (ρ2 + 1) * H = ρ2 * H + H := Nat.succ_mul ρ2 H
        simp only
        rw [if_neg (show ¬ (ρ2 + 1) * H + η2 = ρ * H + η by omega)]
        by_cases e : ρ2 * H + η2 = ρ * H + η
        · rw [if_pos e]
          obtain ⟨rfl, rfl⟩ := zc_inj k2 hη e
          rcases hin1 with ⟨w, -⟩ | ⟨w1, w2⟩
          · omega
          · omega
        · rw [if_neg e]
          exact p5 ρ2 η2 k1 k2 (by omega)
      · simp only
        by_cases e : ρ2 * H + η2 = ρ * H + η
        · rw [if_pos e]
          obtain ⟨rfl, rfl⟩ := zc_inj k2 hη e
          refine kUp_own (p6 ρ2 η2 k1 k2) ?_ ?_
          · rcases hbe1 with ⟨-, w⟩ | ⟨w1, w2⟩
            · exact Or.inl w
            · exact Or.inr ⟨η2 + 1, Or.inl rfl, by rw [w2]; exact p6 ρ2 (η2 + 1) k1 w1⟩
          · rcases hin1 with ⟨-, w⟩ | ⟨w1, w2⟩
            · exact Or.inl w
            · exact Or.inr ⟨ρ2 + 1, Or.inl rfl, by rw [w2]; exact p6 (ρ2 + 1) η2 w1 k2⟩
        · rw [if_neg e]
          exact p6 ρ2 η2 k1 k2
  · obtain ⟨ρ, eρ⟩ : ∃ ρ, R - j = ρ + 1 := ⟨R - j - 1, by omega⟩
    show fY_X2_spreadInwards_18 k k2 (nI (R - j) - 1) (nI (H - H) - 1) s = k (nI (R - (j + 1)) - 1, s)
    rw [Nat.sub_self, show R - (j + 1) = ρ by omega, eρ, nI_pred]
    unfold fY_X2_spreadInwards_18
    rw [if_pos zk_neg, zk_dec]
    rfl
  · show fY_X2_spreadInwards_7 k (nI (R - R) - 1) s = _
    unfold fY_X2_spreadInwards_7
    rw [Nat.sub_self, if_pos zk_neg]
/-- the yard's air -/
theorem y_breathe {R H n S : Nat} (b : 1 ≤ R ∧ R ≤ 8 ∧ 1 ≤ H ∧ H ≤ 8) {g : z_G} (e1 : g 1 0 = nI R) (e2 : g 1 1 = nI H) (e3 : g 1 4 = nI (R * H)) (hS : S ≤ 7) (hn : n ≤ 12) (n1 : g 2 0 = nI n) (hp : ∀ k, k < n → ∃ ρ η : Nat, ρ < R ∧ η < H ∧ g 22 k = nI (ρ * H + η)) (q2 : rFix R H g) : ∃ g', fY_X2_breathe_r2 (nI S) g = some (0, g') ∧ ∀ ρ η, ρ < R → η < H → ∃ a : Nat, a ≤ 7 ∧ g' 16 (ρ * H + η) = nI a ∧ kAir (kSrc R H n g) S ρ η a := by
  obtain ⟨g1, u1, f1, a1⟩ := y_air1 (S := S) (zc_64 b.2.1 b.2.2.2) e3
  obtain ⟨g2, u2, a2, A0, f2, f3⟩ := y_air2 b hn n1 hp q2 f1 a1
  have up0 : ∀ ρ η, ρ < R → η < H → kUp (kSrc R H n g) S ρ η (A0 (ρ * H + η)) := fun ρ η k1 k2 => by
    rcases (f3 ρ η k1 k2).2 with e | ⟨e, s⟩
    · exact Or.inl e
    · exact Or.inr ⟨ρ, η, s, by unfold kDist; omega⟩
  have a07 : ∀ i, i < R * H → A0 i ≤ 7 := fun i hi => by
    obtain ⟨ρ, η, k1, k2, rfl⟩ := zc_of hi
    rcases (f3 ρ η k1 k2).2 with e | ⟨e, s⟩ <;> omega
  obtain ⟨g3, u3, a3, A1, v1, v2, v3, v4, v5⟩ := y_out b ((a2 1 0 rfl).trans e1) ((a2 1 1 rfl).trans e2) f2 a07 up0
  obtain ⟨g4, u4, a4, A2, w1, w2, w3, w4, w5⟩ := y_in b ((congrFun a3 0).trans ((a2 1 0 rfl).trans e1)) ((congrFun a3 1).trans ((a2 1 1 rfl).trans e2)) v1 (fun i hi => (v2 i hi).1) v5
  refine ⟨g4, by rw [u1, u2, u3, z_bind_nd, u4, z_bind_nd], fun ρ η k1 k2 => ⟨A2 (ρ * H + η), (w2 _ (zc_lt k1 k2)).1, w1 _ (zc_lt k1 k2), w5 ρ η k1 k2, fun ρ2 η2 s => ?_⟩⟩
  have m1 : ρ2 + (ρ - ρ2) < R := by have := s.1; omega
  have m2 : η2 + (η - η2) < H := by have := s.2.1; omega
  have t0 := (f3 ρ2 η2 s.1 s.2.1).1 s
  have t1 := (v2 _ (zc_lt s.1 s.2.1)).2
  have t2 := z_chain (B := fun ρ η => A1 (ρ * H + η)) (R := R) (H := H) (fun ρ η k1 k2 => v3 ρ η k1 k2 (zc_lt k1 k2)) (fun ρ η k1 k2 => v4 ρ η k1 k2 (zc_lt k1 k2)) (ρ - ρ2) (η - η2) ρ2 η2 m1 m2
  have t3 := (w2 _ (zc_lt m1 m2)).2
  have t4 := z_chainI (B := fun ρ η => A2 (ρ * H + η)) (R := R) (H := H) (fun ρ η k1 k2 => w3 ρ η k1 k2 (by omega)) (fun ρ η k1 k2 => w4 ρ η k1 k2 (by omega)) (ρ2 - ρ) (η2 - η) ρ η (by have := s.1; omega) (by have := s.2.1; omega)
  rw [show ρ + (ρ2 - ρ) = ρ2 + (ρ - ρ2) by omega, show η + (η2 - η) = η2 + (η - η2) by omega] at t4
  unfold kDist
  omega
