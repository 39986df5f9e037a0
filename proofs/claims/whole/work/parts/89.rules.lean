/-! the watchers' rules: what they ask, what they do -/
def kIs (v rl lim : Int32) : Int32 := if rl = 60 then (if lim ≤ v then 0 else 1) else if rl = 62 then (if v ≤ lim then 0 else 1) else if v = lim then 1 else 0
theorem kIs_01 (v rl lim : Int32) : kIs v rl lim = 0 ∨ kIs v rl lim = 1 := by
  unfold kIs
  by_cases c1 : rl = 60
  · rw [if_pos c1]
    by_cases c : lim ≤ v
    · exact Or.inl (if_pos c)
    · exact Or.inr (if_neg c)
  · rw [if_neg c1]
    by_cases c2 : rl = 62
    · rw [if_pos c2]
      by_cases c : v ≤ lim
      · exact Or.inl (if_pos c)
      · exact Or.inr (if_neg c)
    · rw [if_neg c2]
      by_cases c : v = lim
      · exact Or.inr (if_pos c)
      · exact Or.inl (if_neg c)
theorem y_isSo (v rl lim : Int32) (g : z_G) : fY_X4_isSo v rl lim g = some (kIs v rl lim, g) := by
  unfold fY_X4_isSo fY_X4_isSo_16 fY_X4_isSo_46 kIs
  by_cases c1 : rl = 60
  · rw [if_pos c1, if_pos c1]
    by_cases c : lim ≤ v
    · rw [if_pos c, if_pos c, z_bo_0]
    · rw [if_neg c, if_neg c, z_bo_1]
  · rw [if_neg c1, if_neg c1]
    by_cases c2 : rl = 62
    · rw [if_pos c2, if_pos c2]
      by_cases c : v ≤ lim
      · rw [if_pos c, if_pos c, z_bo_0]
      · rw [if_neg c, if_neg c, z_bo_1]
    · rw [if_neg c2, if_neg c2]
      by_cases c : v = lim
      · rw [if_pos c, if_pos c, z_bo_1]
      · rw [if_neg c, if_neg c, z_bo_0]
def kAllOf (f : Nat → Int32) : Nat → Int32
  | 0 => 1
  | n + 1 => if kAllOf f n = 0 then 0 else f n
theorem kAllOf_s (f : Nat → Int32) (n : Nat) : kAllOf f (n + 1) = if kAllOf f n = 0 then 0 else f n := rfl
theorem kAllOf_0 {f : Nat → Int32} {i : Nat} (h : kAllOf f i = 0) : ∀ d, kAllOf f (i + d) = 0
  | 0 => h
  | d + 1 => by rw [← Nat.add_assoc, kAllOf_s, if_pos (kAllOf_0 h d)]
theorem kAllOf_01 {f : Nat → Int32} (hf : ∀ i, f i = 0 ∨ f i = 1) : ∀ n, kAllOf f n = 0 ∨ kAllOf f n = 1
  | 0 => Or.inr rfl
  | n + 1 => by
    rw [kAllOf_s]
    by_cases c : kAllOf f n = 0
    · rw [if_pos c]; exact Or.inl rfl
    · rw [if_neg c]; exact hf n
/-- the yard's ask i of rule r -/
def yAsk (g : z_G) (r i : Nat) : Int32 := kIs (g 43 (g 40 (10 * r + i)).toNatClampNeg) (g 41 (10 * r + i)) (g 42 (10 * r + i))
theorem y_asks {g : z_G} {r a : Nat} (hr : r < 8) (ha : a ≤ 10) (e38 : g 38 r = nI a) (hl : ∀ i, i < a → ∃ l : Nat, l < 7 ∧ g 40 (10 * r + i) = nI l) : ∀ (d i fu : Nat), i + d = a → d < fu → kAllOf (yAsk g r) i = 1 → z_loop (fun k (w : Int32 × Int32 × z_G) => fY_X4_holdsAt_17 k w.1 w.2.1 w.2.2) fu (nI r, nI (10 * r + i), g) = some (kAllOf (yAsk g r) a, g)
  | _, _, 0, _, hf, _ => absurd hf (Nat.not_lt_zero _)
  | d, i, f + 1, e, hf, h1 => by
    have d3 : vp_in (nI r) 8 := vp_in_nI hr (by omega)
    have d4 : (nI r).toNatClampNeg = r := nI_clamp (by omega)
    have e0 : nI r * 10 + nI a = nI (10 * r + a) := by rw [show (10 : Int32) = nI 10 from rfl, pk_mul, nI_add, Nat.mul_comm]
    show fY_X4_holdsAt_17 (z_loop (fun k (w : Int32 × Int32 × z_G) => fY_X4_holdsAt_17 k w.1 w.2.1 w.2.2) f) (nI r) (nI (10 * r + i)) g = _
    unfold fY_X4_holdsAt_17
    rw [z_ck_in _ d3, d4, e38, e0]
    cases d with
    | zero =>
      have e9 : i = a := by omega
      subst e9
      rw [if_pos (nI_le (Nat.le_refl _) (by omega)), z_bo_1, h1]
    | succ d =>
      have d5 : vp_in (nI (10 * r + i)) 80 := vp_in_nI (by omega) (by omega)
      have d6 : (nI (10 * r + i)).toNatClampNeg = 10 * r + i := nI_clamp (by omega)
      obtain ⟨l, l7, el⟩ := hl i (by omega)
      rw [if_neg (nI_ge (by omega) (by omega)), z_ck_in _ d5, d6, el, z_ck_in _ (vp_in_nI l7 (by omega)), z_ck_in _ d5, z_ck_in _ d5, y_isSo, z_bind_nd]
      have ey : kIs (g 43 (nI l).toNatClampNeg) (g 41 (10 * r + i)) (g 42 (10 * r + i)) = yAsk g r i := by unfold yAsk; rw [el]
      rw [ey]
      by_cases c : yAsk g r i = 0
      · rw [if_pos c, z_bo_0]
        have z : kAllOf (yAsk g r) (i + 1) = 0 := by rw [kAllOf_s, h1, if_neg (by decide), c]
        have := kAllOf_0 z d
        rw [show i + 1 + d = a by omega] at this
        rw [this]
      · rw [if_neg c, z_let_eq, nI_1]
        have c1 : yAsk g r i = 1 := (kIs_01 _ _ _).resolve_left c
        exact y_asks hr ha e38 hl d (i + 1) f (by omega) (by omega) (by rw [kAllOf_s, h1, if_neg (by decide), c1])
/-- the value behind a letter, in the reference -/
def mVal (l : Nat) (s k c hr op ra wi : Int32) : Int32 := if l = 0 then s else if l = 1 then k else if l = 2 then c else if l = 3 then hr else if l = 4 then op else if l = 5 then ra else wi
theorem m_110 (k9 : Int32 × Int32 × Int32 × Int32 × Int32 × Int32 × Int32 × Int32 × z_G → Option (Int32 × z_G)) (v x1 x2 x3 x4 x5 x6 x7 : Int32) {q : Nat} (hq : q < 168) (h : z_G) : fM_X8_holds_110 k9 v x1 x2 x3 x4 x5 x6 x7 (nI q) h = k9 (x1, x2, x3, x4, x5, x6, if x7 = 0 then 0 else kIs v (h 36 q) (h 37 q), nI (q + 1), h) := by
  have d5 : vp_in (nI q) 168 := vp_in_nI hq (by omega)
  have d6 : (nI q).toNatClampNeg = q := nI_clamp (by omega)
  unfold fM_X8_holds_110 fM_X8_holds_187 fM_X8_holds_183 fM_X8_holds_188 kIs
  by_cases c0 : x7 = 0
  · rw [if_pos c0, if_pos c0, z_let_eq, nI_1]
  · rw [if_neg c0, if_neg c0, z_ck_in _ d5, d6]
    by_cases c1 : h 36 q = 60
    · rw [if_pos c1, if_pos c1, z_ck_in _ d5]
      by_cases c : h 37 q ≤ v
      · rw [if_pos c, if_pos c, z_let_eq, nI_1]
      · rw [if_neg c, if_neg c, z_let_eq, nI_1]
    · rw [if_neg c1, if_neg c1, z_ck_in _ d5]
      by_cases c2 : h 36 q = 62
      · rw [if_pos c2, if_pos c2, z_ck_in _ d5]
        by_cases c : v ≤ h 37 q
        · rw [if_pos c, if_pos c, z_let_eq, nI_1]
        · rw [if_neg c, if_neg c, z_let_eq, nI_1]
      · rw [if_neg c2, if_neg c2, z_ck_in _ d5]
        by_cases c : v = h 37 q
        · rw [if_pos c, if_pos c, z_let_eq, nI_1]
        · rw [if_neg c, if_neg c, z_let_eq, nI_1]
theorem m_asks {h : z_G} {r a : Nat} (hr : r < 8) (ha : a ≤ 10) (e34 : h 34 r = nI a) {s k c op ra wi : Int32} (ho : fM_X8_opened h = some (op, h)) {L : Nat → Nat} (hl : ∀ i, i < a → L i < 7 ∧ h 35 (21 * r + i) = kLETTERS (L i)) {f : Nat → Int32} (hf : ∀ i, i < a → f i = kIs (mVal (L i) s k c (h 0 21) op ra wi) (h 36 (21 * r + i)) (h 37 (21 * r + i))) (h01 : kAllOf f a = 0 ∨ kAllOf f a = 1) : fM_X8_holds (nI r) s k c ra wi h = some (kAllOf f a, h) := by
  have d3 : vp_in (nI r) 8 := vp_in_nI hr (by omega)
  have d4 : (nI r).toNatClampNeg = r := nI_clamp (by omega)
  have e0 : (21 : Int32) * nI r + nI a = nI (21 * r + a) := by rw [show (21 : Int32) = nI 21 from rfl, pk_mul, nI_add]
  unfold fM_X8_holds fM_X8_holds_9_go
  rw [z_let_eq, show (21 : Int32) * nI r = nI (21 * r + 0) from by rw [show (21 : Int32) = nI 21 from rfl, pk_mul, Nat.add_zero]]
  have key := z_pfor (σ := Int32) (step := fun k (w : Int32 × Int32 × Int32 × Int32 × Int32 × Int32 × Int32 × Int32 × z_G) => fM_X8_holds_9 k w.1 w.2.1 w.2.2.1 w.2.2.2.1 w.2.2.2.2.1 w.2.2.2.2.2.1 w.2.2.2.2.2.2.1 w.2.2.2.2.2.2.2.1 w.2.2.2.2.2.2.2.2) (fun i x => (nI r, s, k, c, ra, wi, x, nI (21 * r + i), h)) (fun x => some (kAllOf f a, h)) a (z_fuel_big (by omega)) (fun i x => x = kAllOf f i) (fun k9 i x hi hp => ⟨kAllOf f (i + 1), ?_, rfl⟩) (fun k9 x hp => ?_) 1 rfl
  · obtain ⟨x, u, -⟩ := key
    exact u
  · have d5 : vp_in (nI (21 * r + i)) 168 := vp_in_nI (by omega) (by omega)
    have d6 : (nI (21 * r + i)).toNatClampNeg = 21 * r + i := nI_clamp (by omega)
    obtain ⟨l7, el⟩ := hl i hi
    show fM_X8_holds_9 k9 (nI r) s k c ra wi x (nI (21 * r + i)) h = k9 (nI r, s, k, c, ra, wi, kAllOf f (i + 1), nI (21 * r + (i + 1)), h)
    unfold fM_X8_holds_9
    rw [z_ck_in _ d3, d4, e34, e0, if_neg (nI_ge (by omega) (by omega)), z_ck_in _ d5, d6, z_let_eq, el, ho, z_bind_nd, kAllOf_s, hf i hi, ← hp]
    simp only [m_110 _ _ _ _ _ _ _ _ _ (show 21 * r + i < 168 by omega)]
    revert l7
    generalize L i = l
    intro l7
    rcases (show l = 0 ∨ l = 1 ∨ l = 2 ∨ l = 3 ∨ l = 4 ∨ l = 5 ∨ l = 6 by omega) with rfl | rfl | rfl | rfl | rfl | rfl | rfl <;> rfl
  · show fM_X8_holds_9 k9 (nI r) s k c ra wi x (nI (21 * r + a)) h = _
    unfold fM_X8_holds_9
    rw [z_ck_in _ d3, d4, e34, e0, if_pos (nI_le (Nat.le_refl _) (by omega)), hp, z_bo_01 h01]
theorem r_holds {g h : z_G} {n r : Nat} (hn : n ≤ 8) (n1 : g 5 0 = nI n) (q12 : rRules g h) (hr : r < n) {s k c op ra wi : Int32} (ho : fM_X8_opened h = some (op, h)) (v0 : g 43 0 = s) (v1 : g 43 1 = k) (v2 : g 43 2 = c) (v3 : g 43 3 = h 0 21) (v4 : g 43 4 = op) (v5 : g 43 5 = ra) (v6 : g 43 6 = wi) (t : Int32) : ∃ x : Int32, fY_X4_holdsAt (nI r) t g = some (if g 39 r ≤ t then x else 0, g) ∧ fM_X8_holds (nI r) s k c ra wi h = some (x, h) ∧ (x = 0 ∨ x = 1) := by
  obtain ⟨n9, hn9, m1, m2, hA⟩ := q12
  have e9 : n9 = n := (nI_eq (by omega) (by omega)).mp (m1.symm.trans n1)
  subst e9
  obtain ⟨u1, u2, u3, u4, a, a1, a10, e38, e34, u5⟩ := hA r hr
  have h01 : ∀ i, yAsk g r i = 0 ∨ yAsk g r i = 1 := fun i => kIs_01 _ _ _
  have d3 : vp_in (nI r) 8 := vp_in_nI (by omega) (by omega)
  have d4 : (nI r).toNatClampNeg = r := nI_clamp (by omega)
  refine ⟨kAllOf (yAsk g r) a, ?_, ?_, kAllOf_01 h01 a⟩
  · unfold fY_X4_holdsAt fY_X4_holdsAt_17_go
    rw [z_ck_in _ d3, d4]
    by_cases c9 : g 39 r ≤ t
    · rw [if_pos c9, if_pos c9, z_let_eq, show nI r * 10 = nI (10 * r + 0) from by rw [show (10 : Int32) = nI 10 from rfl, pk_mul, Nat.mul_comm, Nat.add_zero]]
      exact y_asks (by omega) a10 e38 (fun i hi => by obtain ⟨⟨l, l7, el, -⟩, -⟩ := u5 i hi; exact ⟨l, l7, el⟩) a 0 z_fuel (by omega) (z_fuel_big (by omega)) rfl
    · rw [if_neg c9, if_neg c9, z_bo_0]
  · refine m_asks (L := fun i => (g 40 (10 * r + i)).toNatClampNeg) (by omega) a10 e34 ho (fun i hi => ?_) (fun i hi => ?_) (kAllOf_01 h01 a)
    · obtain ⟨⟨l, l7, el, el2⟩, -⟩ := u5 i hi
      rw [el, nI_clamp (by omega)]
      exact ⟨l7, el2⟩
    · obtain ⟨⟨l, l7, el, el2⟩, w1, w2⟩ := u5 i hi
      unfold yAsk
      rw [el, nI_clamp (by omega), w1, w2]
      congr 1
      rcases (show l = 0 ∨ l = 1 ∨ l = 2 ∨ l = 3 ∨ l = 4 ∨ l = 5 ∨ l = 6 by omega) with rfl | rfl | rfl | rfl | rfl | rfl | rfl
      · exact v0
      · exact v1
      · exact v2
      · exact v3
      · exact v4
      · exact v5
      · exact v6
/-! what a rule does -/
theorem m_shut {h : z_G} {n : Nat} (hn : n ≤ 12) (e : h 0 13 = nI n) : ∃ h', fM_X8_goes_48_go 0 h = some (0, h') ∧ z_ag (z_tch [12] []) h h' ∧ ∀ k, k < n → h' 12 k = 0 := by
  unfold fM_X8_goes_48_go
  rw [← nI_0]
  have key := z_pfor (step := fun k (w : Int32 × z_G) => fM_X8_goes_48 k w.1 w.2) (fun j g => (nI j, g)) (fun g => some (nI 0, g)) n (z_fuel_big (by omega)) (fun j s => (∀ i, i < j → s 12 i = nI 0) ∧ z_ag (z_tch [12] []) h s) (fun k j s hj hp => ?_) (fun k s hp => ?_) h ⟨fun i hi => absurd hi (Nat.not_lt_zero i), fr_rf⟩
  · obtain ⟨s', h1, h2, h3⟩ := key
    exact ⟨s', h1, h3, h2⟩
  · have d3 : vp_in (nI j) 12 := vp_in_nI (by omega) (by omega)
    have d4 : (nI j).toNatClampNeg = j := nI_clamp (by omega)
    refine ⟨z_up s 12 j 0, ?_, fun i hi => ?_, fr_up hp.2 rfl⟩
    · show fM_X8_goes_48 k (nI j) s = k (nI (j + 1), _)
      unfold fM_X8_goes_48
      rw [hp.2 0 13 rfl, e, if_neg (zn_stop (by omega) hj), z_ck_in _ d3, d4, z_let_eq, z_let_eq, nar0, nI_1]
    · by_cases c : i = j
      · simp [c, z_up_at, nI_0]
      · simp [c, z_up_at, hp.1 i (by omega)]
  · show fM_X8_goes_48 k (nI n) s = _
    unfold fM_X8_goes_48 fM_X8_goes_107
    rw [hp.2 0 13 rfl, e, if_pos (nI_le (Nat.le_refl n) (by omega)), nI_0]
theorem r_goes {R H : Nat} {g h : z_G} (hA : rAll R H g h) {n r : Nat} (hn : n ≤ 8) (n1 : g 5 0 = nI n) (hr : r < n) : ∃ g' h' : z_G, fY_X7_actBy (nI r) g = some (0, g') ∧ fM_X8_goes (nI r) h = some (0, h') ∧ rAll R H g' h' := by
  obtain ⟨q1, q2, q3, q4, q5, q6, q7, q8, q9, q10, q11, q12⟩ := id hA
  obtain ⟨b, e1, e2, e3, e4, e5⟩ := id q1
  obtain ⟨n9, hn9, m1, m2, hR⟩ := id q12
  have e9 : n9 = n := (nI_eq (by omega) (by omega)).mp (m1.symm.trans n1)
  subst e9
  obtain ⟨u1, u2, u3, u4, -⟩ := hR r hr
  obtain ⟨nh, hnh, h1, h2, hk⟩ := id q7
  have d3 : vp_in (nI r) 8 := vp_in_nI (by omega) (by omega)
  have d4 : (nI r).toNatClampNeg = r := nI_clamp (by omega)
  have turn : ∀ v : Int32, (v = 0 ∨ v = 1) → (g 36 r = 43 ∨ g 36 r = 45) → ∃ g' h' : z_G, fY_X1_turn (g 37 r) v g = some (0, g') ∧ (if h 0 13 ≤ h 33 r then some (0, h) else z_ck (h 33 r) 12 (some ((0 : Int32), z_up h 12 (h 33 r).toNatClampNeg v))) = some (0, h') ∧ rAll R H g' h' := by
    intro v hv ha
    obtain ⟨x1, j, hj, x2⟩ := u4 ha
    rw [← x1, x2]
    by_cases c : j < nh
    · obtain ⟨w1, w2⟩ := r_turn hA (show j < 12 by omega) (by rw [h1]; exact nI_lt c (by omega)) hv
      refine ⟨_, _, w1, ?_, w2⟩
      rw [h2, if_neg (nI_ge c (by omega)), z_ck_in _ (vp_in_nI (by omega) (by omega)), nI_clamp (by omega)]
    · refine ⟨g, h, ?_, ?_, hA⟩
      · unfold fY_X1_turn fY_X1_turn_15
        rw [y_hasH, h1, if_pos (Or.inr (nI_le (by omega) (by omega))), z_bind_nd, if_pos rfl]
      · rw [h2, if_pos (nI_le (by omega) (by omega))]
  rcases u3 with c | c | c | c
  · obtain ⟨g', h', w1, w2, w3⟩ := turn 1 (Or.inr rfl) (Or.inl c)
    refine ⟨g', h', ?_, ?_, w3⟩
    · unfold fY_X7_actBy fY_X7_actBy_101
      rw [z_ck_in _ d3, d4, if_pos c, z_ck_in _ d3, w1, z_bind_nd]
    · unfold fM_X8_goes fM_X8_goes_106 fM_X8_goes_107
      rw [z_ck_in _ d3, d4, z_let_eq, ← u2, c, if_neg (by decide), if_neg (by decide), z_ck_in _ d3, z_ck_in _ d3, if_pos rfl, ← w2, nar1]
      rfl
  · obtain ⟨g', h', w1, w2, w3⟩ := turn 0 (Or.inl rfl) (Or.inr c)
    refine ⟨g', h', ?_, ?_, w3⟩
    · unfold fY_X7_actBy fY_X7_actBy_101
      rw [z_ck_in _ d3, d4, c, if_neg (by decide), if_pos rfl, z_ck_in _ d3, w1, z_bind_nd]
    · unfold fM_X8_goes fM_X8_goes_106 fM_X8_goes_107
      rw [z_ck_in _ d3, d4, z_let_eq, ← u2, c, if_neg (by decide), if_neg (by decide), z_ck_in _ d3, z_ck_in _ d3, if_neg (show ¬ (45 : Int32) = 43 by decide), ← w2, nar0]
      rfl
  · obtain ⟨ρ, η, k1, k2, w1, w2⟩ := r_least b e3 e4 e5 q2 q3.2.2.2.2.2.1
    obtain ⟨k, k9, ek⟩ := (q5 ρ η k1 k2).2.2.1
    have l1 : ρ * H + η < 64 := Nat.lt_of_lt_of_le (zc_lt k1 k2) (zc_64 b.2.1 b.2.2.2)
    have l2 : η * 8 + ρ < 64 := by have := b.2.1; have := b.2.2.2; omega
    have ec : (if nI k + 3 < 9 then nI k + 3 else 9) = nI (min (k + 3) 9) := by
      rw [show (3 : Int32) = nI 3 from rfl, nI_add, show (9 : Int32) = nI 9 from rfl, nI_min (by omega) (by omega)]
    refine ⟨_, _, ?_, ?_, r_cov hA k1 k2 (a := min (k + 3) 9) (by omega)⟩
    · unfold fY_X7_actBy fY_X7_actBy_101 fY_X2_mend
      rw [z_ck_in _ d3, d4, c, if_neg (by decide), if_neg (by decide), if_pos rfl, w1, z_bind_nd, z_ck_in _ (vp_in_nI l1 (by omega)), nI_clamp (show ρ * H + η < 2 ^ 31 by omega), z_let_eq, ek, ec, z_ck_in _ (vp_in_nI l1 (by omega)), z_let_eq, z_bind_nd]
    · unfold fM_X8_goes fM_X8_goes_107
      rw [z_ck_in _ d3, d4, z_let_eq, ← u2, c, if_pos rfl, w2, z_bind_nd, z_ck_in _ (vp_in_nI l2 (by omega)), nI_clamp (show η * 8 + ρ < 2 ^ 31 by omega), z_let_eq, ← q3.2.2.2.2.2.1 ρ η k1 k2, ek, ec, z_ck_in _ (vp_in_nI l2 (by omega)), z_let_eq]
  · obtain ⟨g', w1, w2⟩ := y_shutAll hnh h1
    have ag := frY_X1_shutAll _ _ _ w1
    obtain ⟨h', v1, ah, v2⟩ := m_shut hnh h2
    refine ⟨g', h', ?_, ?_, ⟨rDim_fr q1 ag (z_apart (by decide)) ah (z_apart (by decide)), rFix_fr q2 ag (z_apart (by decide)), rCells_fr q3 ag (z_apart (by decide)) ah (z_apart (by decide)), rZeros_fr q4 ah (z_apart (by decide)), rVal_fr q5 ag (z_apart (by decide)), rScal_fr q6 ag (z_apart (by decide)) ah (z_apart (by decide)), ?_, rHours_fr q8 ag (z_apart (by decide)) ah (z_apart (by decide)), rActs_fr q9 ag (z_apart (by decide)) ah (z_apart (by decide)), rCold_fr q10 ag (z_apart (by decide)), rLit_fr q11 ag (z_apart (by decide)) ah (z_apart (by decide)), rRules_fr q12 ag (z_apart (by decide)) ah (z_apart (by decide))⟩⟩
    · unfold fY_X7_actBy fY_X7_actBy_101
      rw [z_ck_in _ d3, d4, c, if_neg (by decide), if_neg (by decide), if_neg (by decide), w1, z_bind_nd]
    · unfold fM_X8_goes
      rw [z_ck_in _ d3, d4, z_let_eq, ← u2, c, if_neg (by decide), if_pos rfl, v1]
    · refine ⟨nh, hnh, by rw [ag 2 0 rfl, h1], by rw [ah 0 13 rfl, h2], fun k hk9 => ?_⟩
      rw [w2 k hk9, v2 k hk9, ag 22 k rfl, ah 11 k rfl]
      exact ⟨rfl, Or.inl rfl, (hk k hk9).2.2⟩
/-- all rules, one after another -/
theorem r_rules {R H n : Nat} (hn : n ≤ 8) (s k c ra wi : Int32) : ∀ (d r fu1 fu2 : Nat) (x : Int32) (g h : z_G), r + d = n → d < fu1 → d < fu2 → rAll R H g h → g 5 0 = nI n → g 43 0 = s ∧ g 43 1 = k ∧ g 43 2 = c ∧ g 43 3 = h 0 21 ∧ g 43 5 = ra ∧ g 43 6 = wi → ∃ (x' : Int32) (g' h' : z_G), z_loop (fun k (w : Int32 × Int32 × z_G) => fY_X7_actByRules_4 k w.1 w.2.1 w.2.2) fu1 (x, nI r, g) = some (x', g') ∧ z_loop (fun k (w : Int32 × Int32 × Int32 × Int32 × Int32 × Int32 × Int32 × z_G) => fM_X8_watchers_81 k w.1 w.2.1 w.2.2.1 w.2.2.2.1 w.2.2.2.2.1 w.2.2.2.2.2.1 w.2.2.2.2.2.2.1 w.2.2.2.2.2.2.2) fu2 (ra, wi, s, k, c, x, nI r, h) = some (x', h') ∧ rAll R H g' h'
  | _, _, 0, _, _, _, _, _, hf, _, _, _, _ => absurd hf (Nat.not_lt_zero _)
  | _, _, _ + 1, 0, _, _, _, _, _, hf, _, _, _ => absurd hf (Nat.not_lt_zero _)
  | 0, r, f1 + 1, f2 + 1, x, g, h, e, _, _, hA, n1, _ => by
    obtain ⟨n9, hn9, m1, m2, -⟩ := hA.2.2.2.2.2.2.2.2.2.2.2
    have e9 : n9 = n := (nI_eq (by omega) (by omega)).mp (m1.symm.trans n1)
    subst e9
    refine ⟨x, g, h, ?_, ?_, hA⟩
    · show fY_X7_actByRules_4 _ x (nI r) g = _
      unfold fY_X7_actByRules_4
      rw [n1, if_pos (nI_le (by omega) (by omega))]
    · show fM_X8_watchers_81 _ ra wi s k c x (nI r) h = _
      unfold fM_X8_watchers_81
      rw [m2, if_pos (nI_le (by omega) (by omega))]
  | d + 1, r, f1 + 1, f2 + 1, x, g, h, e, hf1, hf2, hA, n1, hv => by
    obtain ⟨q1, q2, q3, q4, q5, q6, q7, q8, q9, q10, q11, q12⟩ := id hA
    obtain ⟨n9, hn9, m1, m2, hR⟩ := id q12
    have e9 : n9 = n := (nI_eq (by omega) (by omega)).mp (m1.symm.trans n1)
    subst e9
    obtain ⟨t, ht, t1, t2, -⟩ := id q8
    obtain ⟨v0, v1, v2, v3, v5, v6⟩ := hv
    have d3 : vp_in (nI r) 8 := vp_in_nI (by omega) (by omega)
    have d4 : (nI r).toNatClampNeg = r := nI_clamp (by omega)
    obtain ⟨op, o1, o2⟩ := r_opened q7
    have see : fY_X4_see 4 op g = some (0, z_up g 43 4 op) := by
      have d7 : vp_in (4 : Int32) 7 := vp_in_nI (n := 4) (N := 7) (by omega) (by omega)
      unfold fY_X4_see
      rw [z_ck_in _ d7, z_let_eq]
      rfl
    have ag : z_ag (z_tch [43] []) g (z_up g 43 4 op) := fr_up fr_rf rfl
    have ah : z_ag (z_tch [43] []) h h := fr_rf
    have hA1 : rAll R H (z_up g 43 4 op) h := ⟨rDim_fr q1 ag (z_apart (by decide)) ah (z_apart (by decide)), rFix_fr q2 ag (z_apart (by decide)), rCells_fr q3 ag (z_apart (by decide)) ah (z_apart (by decide)), rZeros_fr q4 ah (z_apart (by decide)), rVal_fr q5 ag (z_apart (by decide)), rScal_fr q6 ag (z_apart (by decide)) ah (z_apart (by decide)), rHoles_fr q7 ag (z_apart (by decide)) ah (z_apart (by decide)), rHours_fr q8 ag (z_apart (by decide)) ah (z_apart (by decide)), rActs_fr q9 ag (z_apart (by decide)) ah (z_apart (by decide)), rCold_fr q10 ag (z_apart (by decide)), rLit_fr q11 ag (z_apart (by decide)) ah (z_apart (by decide)), rRules_fr q12 ag (z_apart (by decide)) ah (z_apart (by decide))⟩
    have ne : ∀ l, l ≠ 4 → z_up g 43 4 op 43 l = g 43 l := fun l hl => by rw [z_up_at, if_neg (fun q => hl q.2)]
    have w0 := (ne 0 (by decide)).trans v0
    have w1 := (ne 1 (by decide)).trans v1
    have w2 := (ne 2 (by decide)).trans v2
    have w3 := (ne 3 (by decide)).trans v3
    have w4 : z_up g 43 4 op 43 4 = op := z_up_same _ _ _ _
    have w5 := (ne 5 (by decide)).trans v5
    have w6 := (ne 6 (by decide)).trans v6
    have n1' : z_up g 43 4 op 5 0 = nI n9 := (ag 5 0 rfl).trans n1
    have t1' : z_up g 43 4 op 3 0 = nI t := (ag 3 0 rfl).trans t1
    have c39 : z_up g 43 4 op 39 r = h 31 r := (ag 39 r rfl).trans (hR r (by omega)).1
    revert see ag hA1 w0 w1 w2 w3 w4 w5 w6 n1' t1' c39
    generalize z_up g 43 4 op = g1
    intro see ag hA1 w0 w1 w2 w3 w4 w5 w6 n1' t1' c39
    obtain ⟨xh, y1, y2, y3⟩ := r_holds hn n1' hA1.2.2.2.2.2.2.2.2.2.2.2 (show r < n9 by omega) o2 w0 w1 w2 w3 w4 w5 w6 (nI t)
    rw [c39] at y1
    have stY : fY_X7_actByRules_4 (z_loop (fun k (w : Int32 × Int32 × z_G) => fY_X7_actByRules_4 k w.1 w.2.1 w.2.2) f1) x (nI r) g = if (if h 31 r ≤ nI t then xh else 0) = 0 then z_loop (fun k (w : Int32 × Int32 × z_G) => fY_X7_actByRules_4 k w.1 w.2.1 w.2.2) f1 (x, nI (r + 1), g1) else z_bind (fY_X7_actBy (nI r) g1) (fun r13 g14 => z_loop (fun k (w : Int32 × Int32 × z_G) => fY_X7_actByRules_4 k w.1 w.2.1 w.2.2) f1 (x ||| (1 <<< (nI r &&& 31)), nI (r + 1), g14)) := by
      unfold fY_X7_actByRules_4 fY_X7_actByRules_59
      rw [n1, if_neg (zn_stop (by omega) (by omega)), o1, z_bind_nd, see, z_bind_nd, t1', y1, z_bind_nd]
      simp only [z_let_eq, nI_1]
    have stM : fM_X8_watchers_81 (z_loop (fun k (w : Int32 × Int32 × Int32 × Int32 × Int32 × Int32 × Int32 × z_G) => fM_X8_watchers_81 k w.1 w.2.1 w.2.2.1 w.2.2.2.1 w.2.2.2.2.1 w.2.2.2.2.2.1 w.2.2.2.2.2.2.1 w.2.2.2.2.2.2.2) f2) ra wi s k c x (nI r) h = if nI t < h 31 r then z_loop (fun k (w : Int32 × Int32 × Int32 × Int32 × Int32 × Int32 × Int32 × z_G) => fM_X8_watchers_81 k w.1 w.2.1 w.2.2.1 w.2.2.2.1 w.2.2.2.2.1 w.2.2.2.2.2.1 w.2.2.2.2.2.2.1 w.2.2.2.2.2.2.2) f2 (ra, wi, s, k, c, x, nI (r + 1), h) else if xh = 0 then z_loop (fun k (w : Int32 × Int32 × Int32 × Int32 × Int32 × Int32 × Int32 × z_G) => fM_X8_watchers_81 k w.1 w.2.1 w.2.2.1 w.2.2.2.1 w.2.2.2.2.1 w.2.2.2.2.2.1 w.2.2.2.2.2.2.1 w.2.2.2.2.2.2.2) f2 (ra, wi, s, k, c, x, nI (r + 1), h) else z_bind (fM_X8_goes (nI r) h) (fun r10 g11 => z_loop (fun k (w : Int32 × Int32 × Int32 × Int32 × Int32 × Int32 × Int32 × z_G) => fM_X8_watchers_81 k w.1 w.2.1 w.2.2.1 w.2.2.2.1 w.2.2.2.2.1 w.2.2.2.2.2.1 w.2.2.2.2.2.2.1 w.2.2.2.2.2.2.2) f2 (ra, wi, s, k, c, x ||| (1 <<< (nI r &&& 31)), nI (r + 1), g11)) := by
      unfold fM_X8_watchers_81 fM_X8_watchers_139
      rw [m2, if_neg (zn_stop (by omega) (by omega)), z_ck_in _ d3, d4, t2, y2, z_bind_nd]
      simp only [z_let_eq, nI_1]
    show ∃ (x' : Int32) (g' h' : z_G), fY_X7_actByRules_4 (z_loop (fun k (w : Int32 × Int32 × z_G) => fY_X7_actByRules_4 k w.1 w.2.1 w.2.2) f1) x (nI r) g = some (x', g') ∧ fM_X8_watchers_81 (z_loop (fun k (w : Int32 × Int32 × Int32 × Int32 × Int32 × Int32 × Int32 × z_G) => fM_X8_watchers_81 k w.1 w.2.1 w.2.2.1 w.2.2.2.1 w.2.2.2.2.1 w.2.2.2.2.2.1 w.2.2.2.2.2.2.1 w.2.2.2.2.2.2.2) f2) ra wi s k c x (nI r) h = some (x', h') ∧ rAll R H g' h'
    have go : (fY_X7_actByRules_4 (z_loop (fun k (w : Int32 × Int32 × z_G) => fY_X7_actByRules_4 k w.1 w.2.1 w.2.2) f1) x (nI r) g = z_loop (fun k (w : Int32 × Int32 × z_G) => fY_X7_actByRules_4 k w.1 w.2.1 w.2.2) f1 (x, nI (r + 1), g1)) → (fM_X8_watchers_81 (z_loop (fun k (w : Int32 × Int32 × Int32 × Int32 × Int32 × Int32 × Int32 × z_G) => fM_X8_watchers_81 k w.1 w.2.1 w.2.2.1 w.2.2.2.1 w.2.2.2.2.1 w.2.2.2.2.2.1 w.2.2.2.2.2.2.1 w.2.2.2.2.2.2.2) f2) ra wi s k c x (nI r) h = z_loop (fun k (w : Int32 × Int32 × Int32 × Int32 × Int32 × Int32 × Int32 × z_G) => fM_X8_watchers_81 k w.1 w.2.1 w.2.2.1 w.2.2.2.1 w.2.2.2.2.1 w.2.2.2.2.2.1 w.2.2.2.2.2.2.1 w.2.2.2.2.2.2.2) f2 (ra, wi, s, k, c, x, nI (r + 1), h)) → ∃ (x' : Int32) (g' h' : z_G), fY_X7_actByRules_4 (z_loop (fun k (w : Int32 × Int32 × z_G) => fY_X7_actByRules_4 k w.1 w.2.1 w.2.2) f1) x (nI r) g = some (x', g') ∧ fM_X8_watchers_81 (z_loop (fun k (w : Int32 × Int32 × Int32 × Int32 × Int32 × Int32 × Int32 × z_G) => fM_X8_watchers_81 k w.1 w.2.1 w.2.2.1 w.2.2.2.1 w.2.2.2.2.1 w.2.2.2.2.2.1 w.2.2.2.2.2.2.1 w.2.2.2.2.2.2.2) f2) ra wi s k c x (nI r) h = some (x', h') ∧ rAll R H g' h' := by
      intro z1 z2
      rw [z1, z2]
      exact r_rules hn s k c ra wi d (r + 1) f1 f2 x g1 h (by omega) (by omega) (by omega) hA1 n1' ⟨w0, w1, w2, w3, w5, w6⟩
    by_cases cf : h 31 r ≤ nI t
    · have cf2 : ¬ nI t < h 31 r := zn_nlt.mpr cf
      rw [if_pos cf] at stY
      rw [if_neg cf2] at stM
      by_cases cx : xh = 0
      · exact go (by rw [stY, if_pos cx]) (by rw [stM, if_pos cx])
      · obtain ⟨g2, h2, a1, a2, a3⟩ := r_goes hA1 hn n1' (show r < n9 by omega)
        have ag2 := frY_X7_actBy _ _ _ _ a1
        have ah2 := frM_X8_goes _ _ _ _ a2
        rw [stY, if_neg cx, a1, z_bind_nd, stM, if_neg cx, a2, z_bind_nd]
        exact r_rules hn s k c ra wi d (r + 1) f1 f2 _ g2 h2 (by omega) (by omega) (by omega) a3 ((ag2 5 0 rfl).trans n1') ⟨(ag2 43 0 rfl).trans w0, (ag2 43 1 rfl).trans w1, (ag2 43 2 rfl).trans w2, ((ag2 43 3 rfl).trans w3).trans (ah2 0 21 rfl).symm, (ag2 43 5 rfl).trans w5, (ag2 43 6 rfl).trans w6⟩
    · have cf2 : nI t < h 31 r := zn_nle.mp cf
      rw [if_neg cf] at stY
      rw [if_pos cf2] at stM
      exact go (by rw [stY, if_pos rfl]) stM
