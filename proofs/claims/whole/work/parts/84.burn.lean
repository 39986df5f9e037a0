/-! burning: one cell's numbers -/
def bG (w a sh : Int32) (k : Nat) : Int32 := if kRATE k * a * sh < w then kRATE k * a * sh else w
def bM (w a sh : Int32) (k : Nat) : Int32 := bG w a sh k * kYIELD k / 100
def bC1 (w c a sh : Int32) (k : Nat) : Int32 := c + bM w a sh k
def bLo (w c a sh : Int32) (k : Nat) : Int32 := if a ≤ 3 then 0 else if 5 * sh * (a - 3) < bC1 w c a sh k then 5 * sh * (a - 3) else bC1 w c a sh k
def bW (w t a sh : Int32) (k : Nat) : Int32 := if a = 0 then w else if t ≤ 0 then w - bG w a sh k else w
def bC (w c t a sh : Int32) (k : Nat) : Int32 := if a = 0 then c else if t ≤ 0 then bC1 w c a sh k - bLo w c a sh k else c
def bT (t a : Int32) : Int32 := if a = 0 then t else if t ≤ 0 then t else if 0 < t - 10 * a then t - 10 * a else 0
def bH (t h a : Int32) : Int32 := if a = 0 then (if 0 < h - 50 then h - 50 else 0) else if t ≤ 0 then (if h + 40 * a < 1000 then h + 40 * a else 1000) else h
def bS (w t a sh : Int32) (k : Nat) : Int32 := if a = 0 then 0 else if t ≤ 0 then bG w a sh k - bM w a sh k else 0
def bL (w c t a sh : Int32) (k : Nat) : Int32 := if a = 0 then 0 else if t ≤ 0 then bLo w c a sh k else 0
def bF (h w c : Int32) : Int32 := if h = 0 then 0 else if w = 0 then (if c = 0 then 0 else 1) else 1
def bFm (h w c : Int32) : Int32 := if h ≤ 0 then 0 else if 0 < w then 1 else if c ≤ 0 then 0 else 1
theorem z_up_id {s : z_G} {r i : Nat} {x : Int32} (h : s r i = x) : z_up s r i x = s := by
  funext a j
  rw [z_up_at]
  by_cases e : a = r ∧ j = i
  · rw [if_pos e, e.1, e.2, h]
  · rw [if_neg e]
theorem y_b82 {i : Nat} (hi : i < 64) {s : z_G} (hf : s 14 i = 1) (x : Int32) : fY_X2_burnCell_82 (nI i) x s = some (x, z_up s 14 i (bF (s 13 i) (s 10 i) (s 11 i))) := by
  have d3 : vp_in (nI i) 64 := vp_in_nI hi (by omega)
  have d4 : (nI i).toNatClampNeg = i := nI_clamp (by omega)
  unfold fY_X2_burnCell_82 fY_X2_burnCell_109 fY_X2_burnCell_116 bF
  rw [z_ck_in _ d3, d4]
  by_cases c1 : s 13 i = 0
  · rw [if_pos c1, if_pos c1, z_ck_in _ d3, z_let_eq]
  · rw [if_neg c1, if_neg c1, z_ck_in _ d3]
    by_cases c2 : s 10 i = 0
    · rw [if_pos c2, if_pos c2, z_ck_in _ d3]
      by_cases c3 : s 11 i = 0
      · rw [if_pos c3, if_pos c3, z_ck_in _ d3, z_let_eq]
      · rw [if_neg c3, if_neg c3, z_up_id hf]
    · rw [if_neg c2, if_neg c2, z_up_id hf]
theorem y_coal {i k : Nat} (hi : i < 64) (hk : k < 4) {s : z_G} (e : s 18 i = nI k) : fY_X2_turnToCoal (nI i) s = some (bG (s 10 i) (s 16 i) (s 8 i) k - bM (s 10 i) (s 16 i) (s 8 i) k, z_up (z_up (z_up s 10 i (s 10 i - bG (s 10 i) (s 16 i) (s 8 i) k)) 11 i (bC1 (s 10 i) (s 11 i) (s 16 i) (s 8 i) k)) 13 i (if s 13 i + 40 * s 16 i < 1000 then s 13 i + 40 * s 16 i else 1000)) := by
  have d3 : vp_in (nI i) 64 := vp_in_nI hi (by omega)
  have d4 : (nI i).toNatClampNeg = i := nI_clamp (by omega)
  have d5 : vp_in (nI k) 4 := vp_in_nI hk (by omega)
  have d6 : (nI k).toNatClampNeg = k := nI_clamp (by omega)
  unfold fY_X2_turnToCoal
  simp only [z_ck_in _ d3, d4, e, z_ck_in _ d5, d6, z_let_eq]
  simp only [z_up_at, bG, bM, bC1]
  rfl
theorem y_ash {i : Nat} (hi : i < 64) (s : z_G) : fY_X2_turnToAsh (nI i) s = some (0, if s 16 i ≤ 3 then s else z_up (z_up s 11 i (s 11 i - (if 5 * s 8 i * (s 16 i - 3) < s 11 i then 5 * s 8 i * (s 16 i - 3) else s 11 i))) 1 3 (s 1 3 + (if 5 * s 8 i * (s 16 i - 3) < s 11 i then 5 * s 8 i * (s 16 i - 3) else s 11 i))) := by
  have d3 : vp_in (nI i) 64 := vp_in_nI hi (by omega)
  have d4 : (nI i).toNatClampNeg = i := nI_clamp (by omega)
  unfold fY_X2_turnToAsh fY_X2_turnToAsh_57
  rw [z_ck_in _ d3, d4]
  by_cases c : s 16 i ≤ 3
  · rw [if_pos c, if_pos c]
  · rw [if_neg c, if_neg c, z_ck_in _ d3, z_ck_in _ d3, z_ck_in _ d3, z_let_eq, z_ck_in _ d3, z_ck_in _ d3, z_let_eq, z_let_eq, z_up_row _ _ _ _ (show 1 ≠ 11 by decide)]
theorem y_burnCell {i k : Nat} (hi : i < 64) (hk : k < 4) {s : z_G} (e : s 18 i = nI k) (hf : s 14 i = 1) : ∃ s' : z_G, fY_X2_burnCell (nI i) s = some (bS (s 10 i) (s 12 i) (s 16 i) (s 8 i) k, s') ∧ s' 10 i = bW (s 10 i) (s 12 i) (s 16 i) (s 8 i) k ∧ s' 11 i = bC (s 10 i) (s 11 i) (s 12 i) (s 16 i) (s 8 i) k ∧ s' 12 i = bT (s 12 i) (s 16 i) ∧ s' 13 i = bH (s 12 i) (s 13 i) (s 16 i) ∧ s' 14 i = bF (bH (s 12 i) (s 13 i) (s 16 i)) (bW (s 10 i) (s 12 i) (s 16 i) (s 8 i) k) (bC (s 10 i) (s 11 i) (s 12 i) (s 16 i) (s 8 i) k) ∧ s' 1 3 = s 1 3 + bL (s 10 i) (s 11 i) (s 12 i) (s 16 i) (s 8 i) k ∧ ∀ a j, a ≠ 1 → j ≠ i → s' a j = s a j := by
  have d3 : vp_in (nI i) 64 := vp_in_nI hi (by omega)
  have d4 : (nI i).toNatClampNeg = i := nI_clamp (by omega)
  unfold fY_X2_burnCell bS bW bC bT bH bL
  rw [z_ck_in _ d3, d4]
  by_cases c1 : s 16 i = 0
  · simp only [if_pos c1]
    rw [z_ck_in _ d3, z_let_eq, z_ck_in _ d3, z_let_eq, y_b82 hi (by rw [z_up_row _ _ _ _ (by decide)]; exact hf)]
    refine ⟨_, rfl, ?_⟩
    refine ⟨by simp [z_up_at], by simp [z_up_at], by simp [z_up_at], by simp [z_up_at], by simp [z_up_at], by simp [z_up_at], fun a j ha hj => by simp [z_up_at, hj]⟩
  · simp only [if_neg c1]
    rw [z_ck_in _ d3]
    by_cases c2 : s 12 i ≤ 0
    · simp only [if_pos c2]
      rw [y_coal hi hk e, z_bind_nd, y_ash hi, z_bind_nd]
      have e16 : z_up (z_up (z_up s 10 i (s 10 i - bG (s 10 i) (s 16 i) (s 8 i) k)) 11 i (bC1 (s 10 i) (s 11 i) (s 16 i) (s 8 i) k)) 13 i (if s 13 i + 40 * s 16 i < 1000 then s 13 i + 40 * s 16 i else 1000) 16 i = s 16 i := by simp [z_up_at]
      have e8 : z_up (z_up (z_up s 10 i (s 10 i - bG (s 10 i) (s 16 i) (s 8 i) k)) 11 i (bC1 (s 10 i) (s 11 i) (s 16 i) (s 8 i) k)) 13 i (if s 13 i + 40 * s 16 i < 1000 then s 13 i + 40 * s 16 i else 1000) 8 i = s 8 i := by simp [z_up_at]
      have e11 : z_up (z_up (z_up s 10 i (s 10 i - bG (s 10 i) (s 16 i) (s 8 i) k)) 11 i (bC1 (s 10 i) (s 11 i) (s 16 i) (s 8 i) k)) 13 i (if s 13 i + 40 * s 16 i < 1000 then s 13 i + 40 * s 16 i else 1000) 11 i = bC1 (s 10 i) (s 11 i) (s 16 i) (s 8 i) k := by simp [z_up_at]
      have e13 : z_up (z_up (z_up s 10 i (s 10 i - bG (s 10 i) (s 16 i) (s 8 i) k)) 11 i (bC1 (s 10 i) (s 11 i) (s 16 i) (s 8 i) k)) 13 i (if s 13 i + 40 * s 16 i < 1000 then s 13 i + 40 * s 16 i else 1000) 1 3 = s 1 3 := by simp [z_up_at]
      rw [e16, e8, e11, e13]
      unfold bLo
      by_cases c3 : s 16 i ≤ 3
      · simp only [if_pos c3]
        rw [y_b82 hi (by simp [z_up_at, hf])]
        refine ⟨_, rfl, ?_⟩
        refine ⟨by simp [z_up_at], by simp [z_up_at], by simp [z_up_at], by simp [z_up_at], by simp [z_up_at], by simp [z_up_at], fun a j ha hj => by simp [z_up_at, hj]⟩
      · simp only [if_neg c3]
        rw [y_b82 hi (by simp [z_up_at, hf])]
        refine ⟨_, rfl, ?_⟩
        refine ⟨by simp [z_up_at], by simp [z_up_at], by simp [z_up_at], by simp [z_up_at], by simp [z_up_at], by simp [z_up_at], fun a j ha hj => by simp [z_up_at, hj, ha]⟩
    · simp only [if_neg c2]
      rw [z_ck_in _ d3, z_ck_in _ d3, z_let_eq, z_ck_in _ d3, z_let_eq, y_b82 hi (by rw [z_up_row _ _ _ _ (by decide)]; exact hf)]
      refine ⟨_, rfl, ?_⟩
      refine ⟨by simp [z_up_at], by simp [z_up_at], by simp [z_up_at], by simp [z_up_at], by simp [z_up_at], by simp [z_up_at], fun a j ha hj => by simp [z_up_at, hj]⟩
/-! the reference's cell -/
theorem m_rate {k : Nat} (hk : k < 4) (h : z_G) : fM_X8_rate (nI k) h = some (kRATE k, h) := by
  unfold fM_X8_rate fM_X8_rate_20
  rcases (show k = 0 ∨ k = 1 ∨ k = 2 ∨ k = 3 by omega) with rfl | rfl | rfl | rfl
  · rw [if_neg (by decide), if_neg (by decide)]; rfl
  · rw [if_pos (by decide)]; rfl
  · rw [if_neg (by decide), if_neg (by decide)]; rfl
  · rw [if_neg (by decide), if_pos (by decide)]; rfl
theorem m_yield {k : Nat} (hk : k < 4) (h : z_G) : fM_X8_yieldOf (nI k) h = some (kYIELD k, h) := by
  unfold fM_X8_yieldOf fM_X8_yieldOf_12
  rcases (show k = 0 ∨ k = 1 ∨ k = 2 ∨ k = 3 by omega) with rfl | rfl | rfl | rfl
  · rw [if_neg (by decide)]; rfl
  · rw [if_pos (by decide)]; rfl
  · rw [if_neg (by decide)]; rfl
  · rw [if_neg (by decide)]; rfl
theorem m_b211 {c : Nat} (hc : c < 64) (s : z_G) (x : Int32) : fM_X8_burns_211 (nI c) x s = some (x, z_up s 5 c (bFm (s 4 c) (s 1 c) (s 2 c))) := by
  have d3 : vp_in (nI c) 64 := vp_in_nI hc (by omega)
  have d4 : (nI c).toNatClampNeg = c := nI_clamp (by omega)
  unfold fM_X8_burns_211 fM_X8_burns_247 fM_X8_burns_243 fM_X8_burns_248 bFm
  rw [z_ck_in _ d3, d4]
  by_cases c1 : s 4 c ≤ 0
  · rw [if_pos c1, if_pos c1, z_ck_in _ d3, z_let_eq, nar0]
  · rw [if_neg c1, if_neg c1, z_ck_in _ d3]
    by_cases c2 : 0 < s 1 c
    · rw [if_pos c2, if_pos c2, z_ck_in _ d3, z_let_eq, nar1]
    · rw [if_neg c2, if_neg c2, z_ck_in _ d3]
      by_cases c3 : s 2 c ≤ 0
      · rw [if_pos c3, if_pos c3, z_ck_in _ d3, z_let_eq, nar0]
      · rw [if_neg c3, if_neg c3, z_ck_in _ d3, z_let_eq, nar1]
theorem m_burns {c k : Nat} (hc : c < 64) (hk : k < 4) {s : z_G} (e : s 6 c = nI k) {sh : Int32} (es : sh = nI (2 * (c % 8) + 1)) : ∃ s' : z_G, fM_X8_burns (nI c) s = some (bS (s 1 c) (s 3 c) (s 9 c) sh k, s') ∧ s' 1 c = bW (s 1 c) (s 3 c) (s 9 c) sh k ∧ s' 2 c = bC (s 1 c) (s 2 c) (s 3 c) (s 9 c) sh k ∧ s' 3 c = bT (s 3 c) (s 9 c) ∧ s' 4 c = bH (s 3 c) (s 4 c) (s 9 c) ∧ s' 5 c = bFm (bH (s 3 c) (s 4 c) (s 9 c)) (bW (s 1 c) (s 3 c) (s 9 c) sh k) (bC (s 1 c) (s 2 c) (s 3 c) (s 9 c) sh k) ∧ s' 0 23 = s 0 23 + bL (s 1 c) (s 2 c) (s 3 c) (s 9 c) sh k ∧ ∀ a j, a ≠ 0 → j ≠ c → s' a j = s a j := by
  have d3 : vp_in (nI c) 64 := vp_in_nI hc (by omega)
  have d4 : (nI c).toNatClampNeg = c := nI_clamp (by omega)
  have ms : ∀ t : z_G, fM_X8_share (nI c) t = some (sh, t) := fun t => by rw [es]; exact m_share hc t
  unfold fM_X8_burns bS bW bC bT bH bL
  rw [z_ck_in _ d3, d4, z_let_eq]
  by_cases c1 : s 9 c = 0
  · simp only [if_pos c1]
    rw [z_ck_in _ d3, z_let_eq, z_ck_in _ d3, z_let_eq, m_b211 hc]
    refine ⟨_, rfl, ?_⟩
    refine ⟨by simp [z_up_at], by simp [z_up_at], by simp [z_up_at], by simp [z_up_at], by simp [z_up_at], by simp [z_up_at], fun a j ha hj => by simp [z_up_at, hj]⟩
  · simp only [if_neg c1]
    rw [z_ck_in _ d3]
    by_cases c2 : s 3 c ≤ 0
    · simp only [if_pos c2]
      rw [z_ck_in _ d3, z_ck_in _ d3, e, m_rate hk, z_bind_nd, ms, z_bind_nd, z_let_eq, z_ck_in _ d3, e, m_yield hk, z_bind_nd, z_let_eq]
      simp only [z_ck_in _ d3, z_let_eq]
      have e2 : z_up s 1 c (s 1 c - (if kRATE k * s 9 c * sh < s 1 c then kRATE k * s 9 c * sh else s 1 c)) 2 c = s 2 c := by simp [z_up_at]
      have e4 : ∀ x y : Int32, z_up (z_up s 1 c x) 2 c y 4 c = s 4 c := fun x y => by simp [z_up_at]
      simp only [e2, e4, ms, z_bind_nd]
      unfold bLo bC1 bM bG
      by_cases c3 : s 9 c ≤ 3
      · simp only [if_pos c3]
        rw [m_b211 hc]
        refine ⟨_, rfl, ?_⟩
        refine ⟨by simp [z_up_at], by simp [z_up_at], by simp [z_up_at], by simp [z_up_at], by simp [z_up_at], by simp [z_up_at], fun a j ha hj => by simp [z_up_at, hj]⟩
      · simp only [if_neg c3]
        rw [m_b211 hc]
        refine ⟨_, rfl, ?_⟩
        refine ⟨by simp [z_up_at], by simp [z_up_at], by simp [z_up_at], by simp [z_up_at], by simp [z_up_at], by simp [z_up_at], fun a j ha hj => by simp [z_up_at, hj, ha]⟩
    · simp only [if_neg c2]
      rw [z_ck_in _ d3, z_let_eq, z_ck_in _ d3, z_let_eq, m_b211 hc]
      refine ⟨_, rfl, ?_⟩
      refine ⟨by simp [z_up_at], by simp [z_up_at], by simp [z_up_at], by simp [z_up_at], by simp [z_up_at], by simp [z_up_at], fun a j ha hj => by simp [z_up_at, hj]⟩
/-! bounds -/
theorem kRATE_n {k : Nat} (hk : k < 4) : ∃ r : Nat, r ≤ 6 ∧ kRATE k = nI r := by
  rcases (show k = 0 ∨ k = 1 ∨ k = 2 ∨ k = 3 by omega) with rfl | rfl | rfl | rfl
  · exact ⟨4, by omega, rfl⟩
  · exact ⟨6, by omega, rfl⟩
  · exact ⟨4, by omega, rfl⟩
  · exact ⟨2, by omega, rfl⟩
theorem kYIELD_n {k : Nat} (hk : k < 4) : ∃ r : Nat, r ≤ 25 ∧ kYIELD k = nI r := by
  rcases (show k = 0 ∨ k = 1 ∨ k = 2 ∨ k = 3 by omega) with rfl | rfl | rfl | rfl
  · exact ⟨25, by omega, rfl⟩
  · exact ⟨22, by omega, rfl⟩
  · exact ⟨25, by omega, rfl⟩
  · exact ⟨25, by omega, rfl⟩
theorem nI_min {x y : Nat} (hx : x < 2 ^ 31) (hy : y < 2 ^ 31) : (if nI x < nI y then nI x else nI y) = nI (min x y) := by
  by_cases c : x < y
  · rw [if_pos (nI_lt c hy), show min x y = x by omega]
  · rw [if_neg (nI_nlt (by omega) hx), show min x y = y by omega]
theorem b_val {w c hh a k ρ : Nat} (h1 : w + c ≤ 1500) (h2 : hh ≤ 1000) (h3 : a ≤ 7) (h4 : k < 4) (h5 : ρ < 8) (t : Int32) : (∃ w' c' : Nat, w' + c' ≤ 1500 ∧ bW (nI w) t (nI a) (nI (2 * ρ + 1)) k = nI w' ∧ bC (nI w) (nI c) t (nI a) (nI (2 * ρ + 1)) k = nI c') ∧ ∃ h' : Nat, h' ≤ 1000 ∧ bH t (nI hh) (nI a) = nI h' := by
  obtain ⟨r, hr, er⟩ := kRATE_n h4
  obtain ⟨y, hy, ey⟩ := kYIELD_n h4
  have l1 : r * a ≤ 6 * 7 := Nat.mul_le_mul hr h3
  have l2 : r * a * (2 * ρ + 1) ≤ 6 * 7 * 15 := Nat.mul_le_mul l1 (by omega)
  have g1 : bG (nI w) (nI a) (nI (2 * ρ + 1)) k = nI (min (r * a * (2 * ρ + 1)) w) := by
    unfold bG
    rw [er, pk_mul, pk_mul, nI_min (by omega) (by omega)]
  obtain ⟨gn, hgn⟩ : ∃ gn, gn = min (r * a * (2 * ρ + 1)) w := ⟨_, rfl⟩
  rw [← hgn] at g1
  have l3 : gn * y ≤ gn * 25 := Nat.mul_le_mul_left gn hy
  have g2 : bM (nI w) (nI a) (nI (2 * ρ + 1)) k = nI (gn * y / 100) := by
    unfold bM
    rw [g1, ey, pk_mul, show (100 : Int32) = nI 100 from rfl, pk_div (by omega) (by omega) (by omega)]
  have g3 : bC1 (nI w) (nI c) (nI a) (nI (2 * ρ + 1)) k = nI (c + gn * y / 100) := by
    unfold bC1
    rw [g2, nI_add]
  have l4 : gn * y / 100 ≤ gn := by omega
  have g4 : ∃ l : Nat, l ≤ c + gn * y / 100 ∧ bLo (nI w) (nI c) (nI a) (nI (2 * ρ + 1)) k = nI l := by
    unfold bLo
    rw [g3]
    by_cases c3 : nI a ≤ 3
    · exact ⟨0, by omega, by rw [if_pos c3, nI_0]⟩
    · have a3 : 3 < a := by
        rcases Nat.lt_or_ge 3 a with h9 | h9
        · exact h9
        · exact absurd (nI_le (a := a) (b := 3) h9 (by omega)) c3
      have e3 : nI a - 3 = nI (a - 3) := pk_sub (a := a) (b := 3) (by omega)
      have l5 : 5 * (2 * ρ + 1) * (a - 3) ≤ 5 * 15 * 4 := Nat.mul_le_mul (by omega) (by omega)
      refine ⟨min (5 * (2 * ρ + 1) * (a - 3)) (c + gn * y / 100), by omega, ?_⟩
      rw [if_neg c3, e3, show (5 : Int32) = nI 5 from rfl, pk_mul, pk_mul, nI_min (by omega) (by omega)]
  obtain ⟨l, hl, g4⟩ := g4
  refine ⟨?_, ?_⟩
  · unfold bW bC
    by_cases c1 : nI a = 0
    · exact ⟨w, c, h1, by rw [if_pos c1], by rw [if_pos c1]⟩
    · by_cases c2 : t ≤ 0
      · refine ⟨w - gn, c + gn * y / 100 - l, by omega, ?_, ?_⟩
        · rw [if_neg c1, if_pos c2, g1, pk_sub (by omega)]
        · rw [if_neg c1, if_pos c2, g3, g4, pk_sub hl]
      · exact ⟨w, c, h1, by rw [if_neg c1, if_neg c2], by rw [if_neg c1, if_neg c2]⟩
  · unfold bH
    by_cases c1 : nI a = 0
    · rw [if_pos c1]
      by_cases c5 : 50 ≤ hh
      · have e5 : nI hh - 50 = nI (hh - 50) := pk_sub (a := hh) (b := 50) c5
        rw [e5]
        by_cases c6 : 0 < nI (hh - 50)
        · exact ⟨hh - 50, by omega, by rw [if_pos c6]⟩
        · exact ⟨0, by omega, by rw [if_neg c6, nI_0]⟩
      · have c6 : ¬ 0 < nI hh - 50 := by
          have := pk_sneg (a := hh) (b := 50) (by omega) (by omega)
          rw [show (50 : Int32) = nI 50 from rfl]
          rw [fa_lt] at this ⊢
          omega
        exact ⟨0, by omega, by rw [if_neg c6, nI_0]⟩
    · rw [if_neg c1]
      by_cases c2 : t ≤ 0
      · rw [if_pos c2, show (40 : Int32) = nI 40 from rfl, pk_mul, nI_add, show (1000 : Int32) = nI 1000 from rfl, nI_min (by omega) (by omega)]
        exact ⟨_, by omega, rfl⟩
      · exact ⟨hh, h2, by rw [if_neg c2]⟩
theorem bF_eq {h w c : Nat} (h1 : h < 2 ^ 31) (h2 : w < 2 ^ 31) (h3 : c < 2 ^ 31) : bF (nI h) (nI w) (nI c) = bFm (nI h) (nI w) (nI c) := by
  have z : ∀ {x : Nat}, x < 2 ^ 31 → (nI x = 0 ↔ x = 0) ∧ (nI x ≤ 0 ↔ x = 0) ∧ (0 < nI x ↔ ¬ x = 0) := by
    intro x hx
    refine ⟨by rw [← nI_0, nI_eq hx (by omega)], by rw [← nI_0, nI_leI hx (by omega)]; omega, by rw [← nI_0, nI_ltI (by omega) hx]; omega⟩
  unfold bF bFm
  simp only [(z h1).1, (z h1).2.1, (z h2).1, (z h2).2.2, (z h3).1, (z h3).2.1]
  by_cases c1 : h = 0
  · simp [c1]
  · by_cases c2 : w = 0 <;> simp [c1, c2]
theorem bF_01 (h w c : Int32) : bF h w c = 0 ∨ bF h w c = 1 := by
  unfold bF
  by_cases c1 : h = 0
  · exact Or.inl (if_pos c1)
  · rw [if_neg c1]
    by_cases c2 : w = 0
    · rw [if_pos c2]
      by_cases c3 : c = 0
      · exact Or.inl (if_pos c3)
      · exact Or.inr (if_neg c3)
    · exact Or.inr (if_neg c2)
theorem bF_pos {h w c : Int32} (e : bF h w c = 1) : ¬ h = 0 := by
  intro h9
  unfold bF at e
  rw [if_pos h9] at e
  exact absurd e (by decide)
