/-! numbers -/
theorem zn_nlt {a b : Int32} : ¬ a < b ↔ b ≤ a := by rw [Int32.lt_iff_toInt_lt, Int32.le_iff_toInt_le]; omega
theorem zn_nle {a b : Int32} : ¬ a ≤ b ↔ b < a := by rw [Int32.lt_iff_toInt_lt, Int32.le_iff_toInt_le]; omega
theorem zn_wlt (a b : Int32) : a.toInt64 < b.toInt64 ↔ a < b := by rw [Int64.lt_iff_toInt_lt, Int32.lt_iff_toInt_lt, Int32.toInt_toInt64, Int32.toInt_toInt64]
/-- the reference's in() -/
theorem m_in (a lo hi : Int32) (h : z_G) : fM_X8_in a.toInt64 lo.toInt64 hi.toInt64 h = some (if a < lo ∨ hi < a then 0 else 1, h) := by
  unfold fM_X8_in fM_X8_in_17 fM_X8_in_18 z_bo
  simp only [lg_cmp_lt, lg_cmp_gt, zn_wlt]
  by_cases h1 : a < lo
  · simp [h1]
  · by_cases h2 : hi < a <;> simp [h1, h2]
theorem m_in_0_200 (a : Int32) (h : z_G) : fM_X8_in a.toInt64 0 200 h = some (if a < 0 ∨ 200 < a then 0 else 1, h) := m_in a 0 200 h
theorem m_in_1_100 (a : Int32) (h : z_G) : fM_X8_in a.toInt64 1 100 h = some (if a < 1 ∨ 100 < a then 0 else 1, h) := m_in a 1 100 h
theorem m_in_1_1000 (a : Int32) (h : z_G) : fM_X8_in a.toInt64 1 1000 h = some (if a < 1 ∨ 1000 < a then 0 else 1, h) := m_in a 1 1000 h
theorem m_in_0_3 (a : Int32) (h : z_G) : fM_X8_in a.toInt64 0 3 h = some (if a < 0 ∨ 3 < a then 0 else 1, h) := m_in a 0 3 h
theorem m_in_0_9 (a : Int32) (h : z_G) : fM_X8_in a.toInt64 0 9 h = some (if a < 0 ∨ 9 < a then 0 else 1, h) := m_in a 0 9 h
theorem m_in_1_8 (a : Int32) (h : z_G) : fM_X8_in a.toInt64 1 8 h = some (if a < 1 ∨ 8 < a then 0 else 1, h) := m_in a 1 8 h
theorem m_in_0_8 (a : Int32) (h : z_G) : fM_X8_in a.toInt64 0 8 h = some (if a < 0 ∨ 8 < a then 0 else 1, h) := m_in a 0 8 h
theorem m_in_1_20000 (a : Int32) (h : z_G) : fM_X8_in a.toInt64 1 20000 h = some (if a < 1 ∨ 20000 < a then 0 else 1, h) := m_in a 1 20000 h
theorem m_in_0 (a x : Int32) (h : z_G) : fM_X8_in a.toInt64 0 x.toInt64 h = some (if a < 0 ∨ x < a then 0 else 1, h) := m_in a 0 x h
theorem z_let_eq {α β : Type} (a : α) (f : α → β) : z_let a f = f a := rfl
theorem z_bind_some {α : Type} (r : Int32) (g : z_G) (k : Int32 → z_G → Option α) : z_bind (some (r, g)) k = k r g := rfl
theorem z_ck_in {α : Type} {i : Int32} {n : Nat} (k : Option α) (h : vp_in i n) : z_ck i n k = k := by unfold z_ck; exact if_neg h
theorem z_bo_0 {α : Type} (k : Option α) : z_bo 0 k = k := by unfold z_bo; simp
theorem z_bo_1 {α : Type} (k : Option α) : z_bo 1 k = k := by unfold z_bo; simp
theorem z_up_r (g : z_G) (r i : Nat) (x : Int32) : z_up g r i x r = upd (g r) i x := by simp [z_up]
theorem upd_same (f : Nat → Int32) (i : Nat) (x : Int32) : upd f i x i = x := by simp [upd]
theorem upd_ne (f : Nat → Int32) {i j : Nat} (x : Int32) (h : j ≠ i) : upd f i x j = f j := by simp [upd, h]
/-! the woods -/
def rWood (g h : z_G) : Prop := ∃ n : Nat, n ≤ 12 ∧ g 7 0 = nI n ∧ h 0 52 = nI n ∧ ∀ j, j < n → g 44 j = h 38 j ∧ g 45 j = h 39 j ∧ g 46 j = h 40 j ∧ 0 ≤ (g 44 j).toInt ∧ (g 44 j).toInt ≤ 10000 ∧ 1 ≤ (g 45 j).toInt ∧ (g 45 j).toInt ≤ 100 ∧ 1 ≤ (g 46 j).toInt ∧ (g 46 j).toInt ≤ 1000
theorem rWood_cg {g h g' h' : z_G} (hr : rWood g h) (e1 : g' 7 0 = g 7 0) (e2 : g' 44 = g 44) (e3 : g' 45 = g 45) (e4 : g' 46 = g 46) (e5 : h' 0 52 = h 0 52) (e6 : h' 38 = h 38) (e7 : h' 39 = h 39) (e8 : h' 40 = h 40) : rWood g' h' := by
  unfold rWood
  rw [e1, e2, e3, e4, e5, e6, e7, e8]
  exact hr
theorem w_wood {a0 a1 a2 : Int32} {g h : z_G} (hr : rWood g h) : ∃ (r : Int32) (g' h' : z_G), fY_X7_wood a0 a1 a2 g = some (r, g') ∧ fM_X8_wood a0 a1 a2 h = some (r, h') ∧ rWood g' h' := by
  have hr0 : rWood g (z_up h 0 0 0) := rWood_cg hr rfl rfl rfl rfl (by simp [z_up_at]) (by simp [z_up_row]) (by simp [z_up_row]) (by simp [z_up_row])
  obtain ⟨n, hn, e1, e2, hj⟩ := id hr
  unfold fY_X7_wood fY_X7_wood_34 fM_X8_wood fM_X8_wood_50
  simp only [z_let_eq, m_in_0_200, m_in_1_100, m_in_1_1000, z_bind_some]
  by_cases c1 : a0 < 0
  · exact ⟨-1, g, _, by simp [c1], by simp [c1], hr0⟩
  by_cases c2 : 200 < a0
  · exact ⟨-1, g, _, by simp [c1, c2], by simp [c2], hr0⟩
  by_cases c3 : a1 < 1
  · exact ⟨-1, g, _, by simp [c1, c2, c3], by simp [c1, c2, c3], hr0⟩
  by_cases c4 : 100 < a1
  · exact ⟨-1, g, _, by simp [c1, c2, c3, c4], by simp [c1, c2, c4], hr0⟩
  by_cases c5 : a2 < 1
  · exact ⟨-1, g, _, by simp [c1, c2, c3, c4, c5], by simp [c1, c2, c3, c4, c5], hr0⟩
  by_cases c6 : 1000 < a2
  · have c7 : ¬ a2 ≤ 1000 := zn_nle.mpr c6
    exact ⟨-1, g, _, by simp [c1, c2, c3, c4, c5, c7], by simp [c1, c2, c3, c4, c6], hr0⟩
  have c7 : a2 ≤ 1000 := zn_nlt.mp c6
  have f2 : z_up h 0 0 0 0 52 = nI n := by rw [z_up_at]; simp [e2]
  by_cases c8 : n = 12
  · have d1 : ¬ g 7 0 < 12 := by rw [e1, c8]; decide
    have d2 : z_up h 0 0 0 0 52 = 12 := by rw [f2, c8]; rfl
    refine ⟨-1, g, _, ?_, ?_, hr0⟩
    · simp [c1, c2, c3, c4, c5, c7, fY_X6_plant, d1, z_bind_some]
    · simp [c1, c2, c3, c4, c5, c6, d2]
  · have hn12 : n < 12 := by omega
    have d1 : nI n < 12 := nI_lt (a := n) (b := 12) hn12 (by decide)
    have d2 : ¬ nI n = 12 := by
      intro h9
      have := (nI_eq (a := n) (b := 12) (by omega) (by omega)).mp h9
      omega
    have d3 : vp_in (nI n) 12 := vp_in_nI hn12 (by omega)
    have d4 : (nI n).toNatClampNeg = n := nI_clamp (by omega)
    have d5 : nI n + 1 - 1 = nI n := by rw [nI_1, nI_pred]
    refine ⟨nI n, z_up (z_up (z_up (z_up g 44 n a0) 45 n a1) 46 n a2) 7 0 (nI n + 1), z_up (z_up (z_up (z_up (z_up h 0 0 0) 38 n a0) 39 n a1) 40 n a2) 0 52 (nI n + 1), ?_, ?_, ?_⟩
    · simp [c1, c2, c3, c4, c5, c7, fY_X6_plant, e1, d1, d3, d4, d5, z_let_eq, z_ck_in, z_bind_some, z_up_at]
    · simp [c1, c2, c3, c4, c5, c6, e2, d2, d3, d4, d5, z_let_eq, z_ck_in, z_bind_some, z_up_at]
    · refine ⟨n + 1, by omega, by rw [z_up_same, nI_1], by rw [z_up_same, nI_1], fun j hj9 => ?_⟩
      by_cases hjn : j = n
      · subst hjn
        have q1 := zn_nlt.mp c1; have q2 := zn_nlt.mp c2; have q3 := zn_nlt.mp c3; have q4 := zn_nlt.mp c4; have q5 := zn_nlt.mp c5
        rw [Int32.le_iff_toInt_le] at q1 q2 q3 q4 q5 c7
        have w0 : (0 : Int32).toInt = 0 := by decide
        have w1 : (1 : Int32).toInt = 1 := by decide
        have w2 : (200 : Int32).toInt = 200 := by decide
        have w3 : (100 : Int32).toInt = 100 := by decide
        have w4 : (1000 : Int32).toInt = 1000 := by decide
        rw [w0] at q1; rw [w2] at q2; rw [w1] at q3 q5; rw [w3] at q4; rw [w4] at c7
        simp [z_up_at]
        omega
      · have := hj j (by omega)
        simp [z_up_at, hjn]
        simpa using this
theorem zn_i2 {x : Int32} {n : Nat} (h : x = nI n) : x.toNatClampNeg = n ∨ 2 ^ 31 ≤ n := by
  by_cases hn : n < 2 ^ 31
  · left; rw [h]; exact nI_clamp hn
  · right; omega
/-- the age behind n years -/
def kAge (a x : Int32) : Int32 := if x + a < 10000 then x + a else 10000
def bY_grow (a : Int32) (j : Nat) (g : z_G) : z_G := z_up g 44 j (kAge a (g 44 j))
def bM_years (a : Int32) (j : Nat) (h : z_G) : z_G := z_up h 38 j (kAge a (h 38 j))
theorem y_grow {a : Int32} {g : z_G} {n : Nat} (hn : n ≤ 12) (e : g 7 0 = nI n) : fY_X6_grow a g = some (0, z_iter (bY_grow a) 0 n g) := by
  unfold fY_X6_grow fY_X6_grow_2_go
  refine z_for (fun j g => (a, nI j, g)) (bY_grow a) (fun g => some (0, g)) n (fun _ g => g 7 0 = nI n) (fun k j s hj hi => ?_) (fun k s hi => ?_) n z_fuel 0 g (by omega) (by unfold z_fuel; omega) e
  · have d1 : ¬ nI n ≤ nI j := nI_ge hj (by omega)
    have d3 : vp_in (nI j) 12 := vp_in_nI (by omega) (by omega)
    have d4 : (nI j).toNatClampNeg = j := nI_clamp (by omega)
    refine ⟨?_, ?_⟩
    · simp [fY_X6_grow_2, hi, d1, d3, d4, z_ck_in, z_let_eq, bY_grow, kAge, nI_1]
    · simp [bY_grow, z_up_at, hi]
  · have d1 : nI n ≤ nI n := nI_le (Nat.le_refl n) (by omega)
    simp [fY_X6_grow_2, hi, d1]
theorem m_years {a : Int32} {h : z_G} {n : Nat} (hn : n ≤ 12) (e : h 0 52 = nI n) : fM_X8_years_21_go a 0 h = some (1, z_iter (bM_years a) 0 n h) := by
  unfold fM_X8_years_21_go
  refine z_for (fun j g => (a, nI j, g)) (bM_years a) (fun g => some (1, g)) n (fun _ g => g 0 52 = nI n) (fun k j s hj hi => ?_) (fun k s hi => ?_) n z_fuel 0 h (by omega) (by unfold z_fuel; omega) e
  · have d1 : ¬ nI n ≤ nI j := nI_ge hj (by omega)
    have d3 : vp_in (nI j) 12 := vp_in_nI (by omega) (by omega)
    have d4 : (nI j).toNatClampNeg = j := nI_clamp (by omega)
    refine ⟨?_, ?_⟩
    · simp [fM_X8_years_21, hi, d1, d3, d4, z_ck_in, z_let_eq, bM_years, kAge, nI_1]
    · simp [bM_years, z_up_at, hi]
  · have d1 : nI n ≤ nI n := nI_le (Nat.le_refl n) (by omega)
    simp [fM_X8_years_21, hi, d1, z_bo_1]
/-- a row worked place by place -/
theorem z_rowwise (r : Nat) (F : Int32 → Int32) (g : z_G) : ∀ n, (∀ i, z_iter (fun j s => z_up s r j (F (s r j))) 0 n g r i = if i < n then F (g r i) else g r i) ∧ ∀ a, a ≠ r → z_iter (fun j s => z_up s r j (F (s r j))) 0 n g a = g a
  | 0 => ⟨fun i => by simp [z_iter], fun a _ => rfl⟩
  | n + 1 => by
    obtain ⟨h1, h2⟩ := z_rowwise r F g n
    rw [z_iter_last]
    refine ⟨fun i => ?_, fun a ha => ?_⟩
    · rw [z_up_at, Nat.zero_add, h1, h1]
      by_cases hi : i = n
      · subst hi; simp
      · by_cases h9 : i < n
        · simp [hi, h9, Nat.lt_succ_of_lt h9]
        · simp [hi, h9]; omega
    · rw [z_up_row _ _ _ _ ha, h2 a ha]
theorem kAge_in {a x : Int32} (h0 : 0 ≤ x.toInt) (h1 : x.toInt ≤ 10000) (h2 : 0 ≤ a.toInt) (h3 : a.toInt ≤ 200) : 0 ≤ (kAge a x).toInt ∧ (kAge a x).toInt ≤ 10000 := by
  have e : (x + a).toInt = x.toInt + a.toInt := fb_addI (by omega) (by omega)
  have w : (10000 : Int32).toInt = 10000 := by decide
  unfold kAge
  by_cases c : x + a < 10000
  · rw [if_pos c]
    rw [Int32.lt_iff_toInt_lt, e, w] at c
    rw [e]; omega
  · rw [if_neg c, w]; omega
theorem w_years {a0 : Int32} {g h : z_G} (hr : rWood g h) : ∃ (r : Int32) (g' h' : z_G), fY_X7_years a0 g = some (r, g') ∧ fM_X8_years a0 h = some (r, h') ∧ rWood g' h' := by
  have hr0 : rWood g (z_up h 0 0 0) := rWood_cg hr rfl rfl rfl rfl (by simp [z_up_at]) (by simp [z_up_row]) (by simp [z_up_row]) (by simp [z_up_row])
  obtain ⟨n, hn, e1, e2, hj⟩ := id hr
  unfold fY_X7_years fY_X7_years_11 fM_X8_years
  simp only [z_let_eq, m_in_0_200, z_bind_some]
  by_cases c1 : a0 < 0
  · exact ⟨0, g, _, by simp [c1, z_bo_0], by simp [c1, z_bo_0], hr0⟩
  by_cases c2 : 200 < a0
  · have c3 : ¬ a0 ≤ 200 := zn_nle.mpr c2
    exact ⟨0, g, _, by simp [c1, c3, z_bo_0], by simp [c2, z_bo_0], hr0⟩
  have c3 : a0 ≤ 200 := zn_nlt.mp c2
  have f2 : z_up h 0 0 0 0 52 = nI n := by rw [z_up_at]; simp [e2]
  refine ⟨1, z_iter (bY_grow a0) 0 n g, z_iter (bM_years a0) 0 n (z_up h 0 0 0), ?_, ?_, ?_⟩
  · simp [c1, c3, y_grow hn e1, z_bind_some, z_bo_1]
  · simp [c1, c2, m_years hn f2]
  · obtain ⟨y1, y2⟩ := z_rowwise 44 (kAge a0) g n
    obtain ⟨m1, m2⟩ := z_rowwise 38 (kAge a0) (z_up h 0 0 0) n
    refine ⟨n, hn, ?_, ?_, fun j hjn => ?_⟩
    · exact (congrFun (y2 7 (by decide)) 0).trans e1
    · exact (congrFun (m2 0 (by decide)) 52).trans f2
    · obtain ⟨q1, q2, q3, q4, q5, q6⟩ := hj j hjn
      have k1 : z_iter (bY_grow a0) 0 n g 44 j = kAge a0 (g 44 j) := by have := y1 j; rw [if_pos hjn] at this; exact this
      have k2 : z_iter (bM_years a0) 0 n (z_up h 0 0 0) 38 j = kAge a0 (h 38 j) := by have := m1 j; rw [if_pos hjn, z_up_row _ _ _ _ (by decide)] at this; exact this
      have k3 : z_iter (bY_grow a0) 0 n g 45 = g 45 := y2 45 (by decide)
      have k4 : z_iter (bY_grow a0) 0 n g 46 = g 46 := y2 46 (by decide)
      have k5 : z_iter (bM_years a0) 0 n (z_up h 0 0 0) 39 = h 39 := (m2 39 (by decide)).trans (z_up_row _ _ _ _ (by decide))
      have k6 : z_iter (bM_years a0) 0 n (z_up h 0 0 0) 40 = h 40 := (m2 40 (by decide)).trans (z_up_row _ _ _ _ (by decide))
      rw [k1, k2, k3, k4, k5, k6, q1]
      have z1 := zn_nlt.mp c1
      rw [Int32.le_iff_toInt_le] at z1 c3
      have w0 : (0 : Int32).toInt = 0 := by decide
      have w2 : (200 : Int32).toInt = 200 := by decide
      rw [w0] at z1; rw [w2] at c3
      have kk := kAge_in (a := a0) (x := h 38 j) (by rw [← q1]; exact q4) (by rw [← q1]; exact q5) z1 c3
      exact ⟨rfl, q2, q3, kk.1, kk.2, q6⟩
