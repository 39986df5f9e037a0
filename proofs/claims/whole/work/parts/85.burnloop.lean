/-! burning: all cells, on either side -/
def yK (g : z_G) (i : Nat) : Nat := (g 18 i).toNatClampNeg
def yS (g : z_G) (i : Nat) : Int32 := if g 14 i = 1 then bS (g 10 i) (g 12 i) (g 16 i) (g 8 i) (yK g i) else 0
def yL (g : z_G) (i : Nat) : Int32 := if g 14 i = 1 then bL (g 10 i) (g 11 i) (g 12 i) (g 16 i) (g 8 i) (yK g i) else 0
def yW (g : z_G) (i : Nat) : Int32 := if g 14 i = 1 then bW (g 10 i) (g 12 i) (g 16 i) (g 8 i) (yK g i) else g 10 i
def yC (g : z_G) (i : Nat) : Int32 := if g 14 i = 1 then bC (g 10 i) (g 11 i) (g 12 i) (g 16 i) (g 8 i) (yK g i) else g 11 i
def yT (g : z_G) (i : Nat) : Int32 := if g 14 i = 1 then bT (g 12 i) (g 16 i) else g 12 i
def yH (g : z_G) (i : Nat) : Int32 := if g 14 i = 1 then bH (g 12 i) (g 13 i) (g 16 i) else g 13 i
def yF (g : z_G) (i : Nat) : Int32 := if g 14 i = 1 then bF (yH g i) (yW g i) (yC g i) else g 14 i
def yGl (g : z_G) (i : Nat) : Int32 := if g 14 i = 1 then g 13 i else 0
def mSh (c : Nat) : Int32 := nI (2 * (c % 8) + 1)
def mK (h : z_G) (c : Nat) : Nat := (h 6 c).toNatClampNeg
def mS (h : z_G) (c : Nat) : Int32 := if h 27 c = 0 then 0 else bS (h 1 c) (h 3 c) (h 9 c) (mSh c) (mK h c)
def mL (h : z_G) (c : Nat) : Int32 := if h 27 c = 0 then 0 else bL (h 1 c) (h 2 c) (h 3 c) (h 9 c) (mSh c) (mK h c)
def mW (h : z_G) (c : Nat) : Int32 := if h 27 c = 0 then h 1 c else bW (h 1 c) (h 3 c) (h 9 c) (mSh c) (mK h c)
def mC (h : z_G) (c : Nat) : Int32 := if h 27 c = 0 then h 2 c else bC (h 1 c) (h 2 c) (h 3 c) (h 9 c) (mSh c) (mK h c)
def mT (h : z_G) (c : Nat) : Int32 := if h 27 c = 0 then h 3 c else bT (h 3 c) (h 9 c)
def mH (h : z_G) (c : Nat) : Int32 := if h 27 c = 0 then h 4 c else bH (h 3 c) (h 4 c) (h 9 c)
def mF (h : z_G) (c : Nat) : Int32 := if h 27 c = 0 then h 5 c else bFm (mH h c) (mW h c) (mC h c)
theorem z_sum_s (f : Nat → Int32) (n : Nat) : z_sum f (n + 1) = z_sum f n + f n := rfl
theorem y_burn {g : z_G} {N : Nat} (hN : N ≤ 64) (e3 : g 1 4 = nI N) (hk : ∀ i, i < N → ∃ k : Nat, k < 4 ∧ g 18 i = nI k) : ∃ g' : z_G, fY_X2_burn g = some (z_sum (yS g) N, g') ∧ g' 1 2 = g 1 2 + z_sum (yS g) N ∧ g' 1 3 = g 1 3 + z_sum (yL g) N ∧ ∀ i, i < N → g' 10 i = yW g i ∧ g' 11 i = yC g i ∧ g' 12 i = yT g i ∧ g' 13 i = yH g i ∧ g' 14 i = yF g i ∧ g' 21 i = yGl g i := by
  unfold fY_X2_burn fY_X2_burn_4_go
  have key := z_pfor (σ := Int32 × z_G) (step := fun k (w : Int32 × Int32 × z_G) => fY_X2_burn_4 k w.1 w.2.1 w.2.2) (fun j u => (u.1, nI j, u.2)) (fun u => some (u.1, z_up u.2 1 2 (u.2 1 2 + u.1))) N (z_fuel_big (by omega)) (fun j u => u.1 = z_sum (yS g) j ∧ u.2 1 3 = g 1 3 + z_sum (yL g) j ∧ (∀ i, i < j → u.2 10 i = yW g i ∧ u.2 11 i = yC g i ∧ u.2 12 i = yT g i ∧ u.2 13 i = yH g i ∧ u.2 14 i = yF g i ∧ u.2 21 i = yGl g i) ∧ (∀ i, j ≤ i → u.2 10 i = g 10 i ∧ u.2 11 i = g 11 i ∧ u.2 12 i = g 12 i ∧ u.2 13 i = g 13 i ∧ u.2 14 i = g 14 i) ∧ z_ag (z_tch [10, 11, 12, 13, 14, 21] [(1, 3)]) g u.2) (fun k j u hj hp => ?_) (fun k u hp => ?_) (0, g) ⟨rfl, by rw [show z_sum (yL g) 0 = 0 from rfl, Int32.add_zero], fun i hi => absurd hi (Nat.not_lt_zero i), fun i _ => ⟨rfl, rfl, rfl, rfl, rfl⟩, fr_rf⟩
  · obtain ⟨⟨x, s⟩, u1, u2, u3, u4, -, u5⟩ := key
    simp only at u1 u2 u3 u4 u5
    subst u2
    refine ⟨_, u1, by rw [z_up_same, u5 1 2 rfl], by rw [z_up_at, if_neg (by decide)]; exact u3, fun i hi => ?_⟩
    have := u4 i hi
    simpa [z_up_at] using this
  · obtain ⟨x, s⟩ := u
    obtain ⟨p1, p2, p3, p4, p5⟩ := hp
    simp only at p1 p2 p3 p4 p5
    have d3 : vp_in (nI j) 64 := vp_in_nI (by omega) (by omega)
    have d4 : (nI j).toNatClampNeg = j := nI_clamp (by omega)
    obtain ⟨w1, w2, w3, w4, w5⟩ := p4 j (Nat.le_refl j)
    obtain ⟨k9, hk9, ek⟩ := hk j hj
    have eK : yK g j = k9 := by unfold yK; rw [ek, nI_clamp (by omega)]
    have st : fY_X2_burn_4 k x (nI j) s = if s 14 j = 1 then z_bind (fY_X2_burnCell (nI j) (z_up (z_up s 21 j 0) 21 j (s 13 j))) (fun r11 g12 => z_let (x + r11) (fun y14 => fY_X2_burn_49 k y14 (nI j) g12)) else fY_X2_burn_49 k x (nI j) (z_up s 21 j 0) := by
      unfold fY_X2_burn_4
      rw [p5 1 4 rfl, e3, if_neg (zn_stop (show N < 2 ^ 31 by omega) hj), z_ck_in _ d3, d4, z_let_eq, z_ck_in _ d3, z_up_row _ _ _ _ (show 14 ≠ 21 by decide), z_ck_in _ d3, z_ck_in _ d3, z_let_eq, z_up_row _ _ _ _ (show 13 ≠ 21 by decide)]
    by_cases c : g 14 j = 1
    · have r8 : z_up (z_up s 21 j 0) 21 j (s 13 j) 8 j = g 8 j := by rw [z_up_row _ _ _ _ (by decide), z_up_row _ _ _ _ (by decide)]; exact p5 8 j rfl
      have r16 : z_up (z_up s 21 j 0) 21 j (s 13 j) 16 j = g 16 j := by rw [z_up_row _ _ _ _ (by decide), z_up_row _ _ _ _ (by decide)]; exact p5 16 j rfl
      have r18 : z_up (z_up s 21 j 0) 21 j (s 13 j) 18 j = nI k9 := by rw [z_up_row _ _ _ _ (by decide), z_up_row _ _ _ _ (by decide), ← ek]; exact p5 18 j rfl
      have r10 : z_up (z_up s 21 j 0) 21 j (s 13 j) 10 j = g 10 j := by rw [z_up_row _ _ _ _ (by decide), z_up_row _ _ _ _ (by decide), w1]
      have r11 : z_up (z_up s 21 j 0) 21 j (s 13 j) 11 j = g 11 j := by rw [z_up_row _ _ _ _ (by decide), z_up_row _ _ _ _ (by decide), w2]
      have r12 : z_up (z_up s 21 j 0) 21 j (s 13 j) 12 j = g 12 j := by rw [z_up_row _ _ _ _ (by decide), z_up_row _ _ _ _ (by decide), w3]
      have r13 : z_up (z_up s 21 j 0) 21 j (s 13 j) 13 j = g 13 j := by rw [z_up_row _ _ _ _ (by decide), z_up_row _ _ _ _ (by decide), w4]
      have r14 : z_up (z_up s 21 j 0) 21 j (s 13 j) 14 j = 1 := by rw [z_up_row _ _ _ _ (by decide), z_up_row _ _ _ _ (by decide), w5, c]
      have r21 : z_up (z_up s 21 j 0) 21 j (s 13 j) 21 j = g 13 j := by rw [z_up_same, w4]
      have r3 : z_up (z_up s 21 j 0) 21 j (s 13 j) 1 3 = s 1 3 := by rw [z_up_row _ _ _ _ (by decide), z_up_row _ _ _ _ (by decide)]
      have rn : ∀ a i, i ≠ j → z_up (z_up s 21 j 0) 21 j (s 13 j) a i = s a i := fun a i hi => by simp [z_up_at, hi]
      have ra : z_ag (z_tch [10, 11, 12, 13, 14, 21] [(1, 3)]) g (z_up (z_up s 21 j 0) 21 j (s 13 j)) := fr_up (fr_up p5 rfl) rfl
      have stt := st
      rw [w5, if_pos c] at stt
      clear st
      revert stt r8 r16 r18 r10 r11 r12 r13 r14 r21 r3 rn ra
      generalize z_up (z_up s 21 j 0) 21 j (s 13 j) = s1
      intro r8 r16 r18 r10 r11 r12 r13 r14 r21 r3 rn ra stt
      obtain ⟨s', v1, v2, v3, v4, v5, v6, v7, v8⟩ := y_burnCell (show j < 64 by omega) hk9 r18 r14
      have av := frY_X2_burnCell _ _ _ _ v1
      rw [r8, r16, r10, r12] at v1 v2
      rw [r8, r16, r10, r11, r12] at v3 v7
      rw [r16, r12] at v4
      rw [r16, r12, r13] at v5
      rw [r8, r16, r10, r11, r12, r13] at v6
      have hS : yS g j = bS (g 10 j) (g 12 j) (g 16 j) (g 8 j) k9 := by unfold yS; rw [if_pos c, eK]
      have hL : yL g j = bL (g 10 j) (g 11 j) (g 12 j) (g 16 j) (g 8 j) k9 := by unfold yL; rw [if_pos c, eK]
      have hW : yW g j = bW (g 10 j) (g 12 j) (g 16 j) (g 8 j) k9 := by unfold yW; rw [if_pos c, eK]
      have hC : yC g j = bC (g 10 j) (g 11 j) (g 12 j) (g 16 j) (g 8 j) k9 := by unfold yC; rw [if_pos c, eK]
      have hT : yT g j = bT (g 12 j) (g 16 j) := by unfold yT; rw [if_pos c]
      have hH : yH g j = bH (g 12 j) (g 13 j) (g 16 j) := by unfold yH; rw [if_pos c]
      have hF : yF g j = bF (yH g j) (yW g j) (yC g j) := by unfold yF; rw [if_pos c]
      have hG : yGl g j = g 13 j := by unfold yGl; rw [if_pos c]
      refine ⟨(x + bS (g 10 j) (g 12 j) (g 16 j) (g 8 j) k9, s'), ?_, ?_⟩
      · show fY_X2_burn_4 k x (nI j) s = k (_, nI (j + 1), s')
        rw [stt, v1, z_bind_nd, z_let_eq]
        unfold fY_X2_burn_49
        rw [z_let_eq, nI_1]
      · refine ⟨by rw [z_sum_s, hS, ← p1], by rw [z_sum_s, hL]; show s' 1 3 = _; rw [v7, r3, p2, Int32.add_assoc], fun i hi => ?_, fun i hi => ?_, ?_⟩
        · show s' 10 i = _ ∧ s' 11 i = _ ∧ s' 12 i = _ ∧ s' 13 i = _ ∧ s' 14 i = _ ∧ s' 21 i = _
          by_cases e : i = j
          · subst e
            exact ⟨v2.trans hW.symm, v3.trans hC.symm, v4.trans hT.symm, v5.trans hH.symm, by rw [v6, hF, hH, hW, hC], by rw [av 21 i rfl, r21, hG]⟩
          · obtain ⟨t1, t2, t3, t4, t5, t6⟩ := p3 i (by omega)
            rw [v8 10 i (by decide) e, v8 11 i (by decide) e, v8 12 i (by decide) e, v8 13 i (by decide) e, v8 14 i (by decide) e, v8 21 i (by decide) e, rn _ i e, rn _ i e, rn _ i e, rn _ i e, rn _ i e, rn _ i e]
            exact ⟨t1, t2, t3, t4, t5, t6⟩
        · show s' 10 i = _ ∧ s' 11 i = _ ∧ s' 12 i = _ ∧ s' 13 i = _ ∧ s' 14 i = _
          have e : i ≠ j := by omega
          rw [v8 10 i (by decide) e, v8 11 i (by decide) e, v8 12 i (by decide) e, v8 13 i (by decide) e, v8 14 i (by decide) e, rn _ i e, rn _ i e, rn _ i e, rn _ i e, rn _ i e]
          exact p4 i (by omega)
        · exact z_ag_trans ra av (fun _ _ h => h) (z_tch_sub rfl)
    · have hS : yS g j = 0 := by unfold yS; rw [if_neg c]
      have hL : yL g j = 0 := by unfold yL; rw [if_neg c]
      have hG : yGl g j = 0 := by unfold yGl; rw [if_neg c]
      refine ⟨(x, z_up s 21 j 0), ?_, ?_⟩
      · show fY_X2_burn_4 k x (nI j) s = k (x, nI (j + 1), z_up s 21 j 0)
        rw [st, w5, if_neg c]
        unfold fY_X2_burn_49
        rw [z_let_eq, nI_1]
      · refine ⟨by rw [z_sum_s, hS, Int32.add_zero]; exact p1, by rw [z_sum_s, hL, Int32.add_zero]; show z_up s 21 j 0 1 3 = _; rw [z_up_row _ _ _ _ (by decide)]; exact p2, fun i hi => ?_, fun i hi => ?_, fr_up p5 rfl⟩
        · show z_up s 21 j 0 10 i = _ ∧ z_up s 21 j 0 11 i = _ ∧ z_up s 21 j 0 12 i = _ ∧ z_up s 21 j 0 13 i = _ ∧ z_up s 21 j 0 14 i = _ ∧ z_up s 21 j 0 21 i = _
          rw [z_up_row _ _ _ _ (show 10 ≠ 21 by decide), z_up_row _ _ _ _ (show 11 ≠ 21 by decide), z_up_row _ _ _ _ (show 12 ≠ 21 by decide), z_up_row _ _ _ _ (show 13 ≠ 21 by decide), z_up_row _ _ _ _ (show 14 ≠ 21 by decide)]
          by_cases e : i = j
          · subst e
            refine ⟨by rw [w1]; unfold yW; rw [if_neg c], by rw [w2]; unfold yC; rw [if_neg c], by rw [w3]; unfold yT; rw [if_neg c], by rw [w4]; unfold yH; rw [if_neg c], by rw [w5]; unfold yF; rw [if_neg c], by rw [z_up_same, hG]⟩
          · obtain ⟨t1, t2, t3, t4, t5, t6⟩ := p3 i (by omega)
            refine ⟨t1, t2, t3, t4, t5, by rw [z_up_at, if_neg (fun q => e q.2)]; exact t6⟩
        · show z_up s 21 j 0 10 i = _ ∧ z_up s 21 j 0 11 i = _ ∧ z_up s 21 j 0 12 i = _ ∧ z_up s 21 j 0 13 i = _ ∧ z_up s 21 j 0 14 i = _
          rw [z_up_row _ _ _ _ (show 10 ≠ 21 by decide), z_up_row _ _ _ _ (show 11 ≠ 21 by decide), z_up_row _ _ _ _ (show 12 ≠ 21 by decide), z_up_row _ _ _ _ (show 13 ≠ 21 by decide), z_up_row _ _ _ _ (show 14 ≠ 21 by decide)]
          exact p4 i (by omega)
  · obtain ⟨x, s⟩ := u
    obtain ⟨p1, p2, p3, p4, p5⟩ := hp
    simp only at p5
    show fY_X2_burn_4 k x (nI N) s = _
    unfold fY_X2_burn_4
    rw [p5 1 4 rfl, e3, if_pos (nI_le (Nat.le_refl N) (by omega)), z_let_eq]
theorem m_burn {h : z_G} (a0 a1 : Int32) (hk : ∀ c, c < 64 → ¬ h 27 c = 0 → ∃ k : Nat, k < 4 ∧ h 6 c = nI k) : ∃ h' : z_G, fM_X8_works_76_go a0 a1 0 0 h = fM_X8_works_111_go a0 a1 (z_sum (mS h) 64) 0 h' ∧ z_ag (z_tch [1, 2, 3, 4, 5] [(0, 23)]) h h' ∧ h' 0 23 = h 0 23 + z_sum (mL h) 64 ∧ ∀ c, c < 64 → h' 1 c = mW h c ∧ h' 2 c = mC h c ∧ h' 3 c = mT h c ∧ h' 4 c = mH h c ∧ h' 5 c = mF h c := by
  unfold fM_X8_works_76_go
  have key := z_pfor (σ := Int32 × z_G) (step := fun k (w : Int32 × Int32 × Int32 × Int32 × z_G) => fM_X8_works_76 k w.1 w.2.1 w.2.2.1 w.2.2.2.1 w.2.2.2.2) (fun j u => (a0, a1, u.1, nI j, u.2)) (fun u => fM_X8_works_111_go a0 a1 u.1 0 u.2) 64 (z_fuel_big (by omega)) (fun j u => u.1 = z_sum (mS h) j ∧ u.2 0 23 = h 0 23 + z_sum (mL h) j ∧ (∀ c, c < j → u.2 1 c = mW h c ∧ u.2 2 c = mC h c ∧ u.2 3 c = mT h c ∧ u.2 4 c = mH h c ∧ u.2 5 c = mF h c) ∧ (∀ i, j ≤ i → u.2 1 i = h 1 i ∧ u.2 2 i = h 2 i ∧ u.2 3 i = h 3 i ∧ u.2 4 i = h 4 i ∧ u.2 5 i = h 5 i) ∧ z_ag (z_tch [1, 2, 3, 4, 5] [(0, 23)]) h u.2) (fun k j u hj hp => ?_) (fun k u hp => ?_) (0, h) ⟨rfl, by rw [show z_sum (mL h) 0 = 0 from rfl, Int32.add_zero], fun i hi => absurd hi (Nat.not_lt_zero i), fun i _ => ⟨rfl, rfl, rfl, rfl, rfl⟩, fr_rf⟩
  · obtain ⟨⟨x, s⟩, u1, u2, u3, u4, -, u5⟩ := key
    simp only at u1 u2 u3 u4 u5
    subst u2
    exact ⟨s, u1, u5, u3, u4⟩
  · obtain ⟨x, s⟩ := u
    obtain ⟨p1, p2, p3, p4, p5⟩ := hp
    simp only at p1 p2 p3 p4 p5
    have d3 : vp_in (nI j) 64 := vp_in_nI (by omega) (by omega)
    have d4 : (nI j).toNatClampNeg = j := nI_clamp (by omega)
    obtain ⟨w1, w2, w3, w4, w5⟩ := p4 j (Nat.le_refl j)
    by_cases c : h 27 j = 0
    · have hS : mS h j = 0 := by unfold mS; rw [if_pos c]
      have hL : mL h j = 0 := by unfold mL; rw [if_pos c]
      refine ⟨(x, s), ?_, by rw [z_sum_s, hS, Int32.add_zero]; exact p1, by rw [z_sum_s, hL, Int32.add_zero]; exact p2, fun i hi => ?_, fun i hi => p4 i (by omega), p5⟩
      · show fM_X8_works_76 k a0 a1 x (nI j) s = k (a0, a1, x, nI (j + 1), s)
        unfold fM_X8_works_76 fM_X8_works_102
        rw [if_neg (zn_64 hj), z_ck_in _ d3, d4, p5 27 j rfl, if_pos c, z_let_eq, nI_1]
      · show s 1 i = _ ∧ s 2 i = _ ∧ s 3 i = _ ∧ s 4 i = _ ∧ s 5 i = _
        by_cases e : i = j
        · subst e
          refine ⟨by rw [w1]; unfold mW; rw [if_pos c], by rw [w2]; unfold mC; rw [if_pos c], by rw [w3]; unfold mT; rw [if_pos c], by rw [w4]; unfold mH; rw [if_pos c], by rw [w5]; unfold mF; rw [if_pos c]⟩
        · exact p3 i (by omega)
    · obtain ⟨k9, hk9, ek⟩ := hk j hj c
      have eK : mK h j = k9 := by unfold mK; rw [ek, nI_clamp (by omega)]
      have r9 : s 9 j = h 9 j := p5 9 j rfl
      obtain ⟨s', v1, v2, v3, v4, v5, v6, v7, v8⟩ := m_burns (s := s) hj hk9 ((p5 6 j rfl).trans ek) (sh := mSh j) rfl
      have av := frM_X8_burns _ _ _ _ v1
      rw [r9, w1, w3] at v1 v2
      rw [r9, w1, w2, w3] at v3 v7
      rw [r9, w3] at v4
      rw [r9, w3, w4] at v5
      rw [r9, w1, w2, w3, w4] at v6
      have hS : mS h j = bS (h 1 j) (h 3 j) (h 9 j) (mSh j) k9 := by unfold mS; rw [if_neg c, eK]
      have hL : mL h j = bL (h 1 j) (h 2 j) (h 3 j) (h 9 j) (mSh j) k9 := by unfold mL; rw [if_neg c, eK]
      have hW : mW h j = bW (h 1 j) (h 3 j) (h 9 j) (mSh j) k9 := by unfold mW; rw [if_neg c, eK]
      have hC : mC h j = bC (h 1 j) (h 2 j) (h 3 j) (h 9 j) (mSh j) k9 := by unfold mC; rw [if_neg c, eK]
      have hT : mT h j = bT (h 3 j) (h 9 j) := by unfold mT; rw [if_neg c]
      have hH : mH h j = bH (h 3 j) (h 4 j) (h 9 j) := by unfold mH; rw [if_neg c]
      have hF : mF h j = bFm (mH h j) (mW h j) (mC h j) := by unfold mF; rw [if_neg c]
      refine ⟨(x + bS (h 1 j) (h 3 j) (h 9 j) (mSh j) k9, s'), ?_, ?_⟩
      · show fM_X8_works_76 k a0 a1 x (nI j) s = k (a0, a1, _, nI (j + 1), s')
        unfold fM_X8_works_76 fM_X8_works_102
        rw [if_neg (zn_64 hj), z_ck_in _ d3, d4, p5 27 j rfl, if_neg c, v1, z_bind_nd, z_let_eq, z_let_eq, nI_1]
      · refine ⟨by rw [z_sum_s, hS, ← p1], by rw [z_sum_s, hL]; show s' 0 23 = _; rw [v7, p2, Int32.add_assoc], fun i hi => ?_, fun i hi => ?_, ?_⟩
        · show s' 1 i = _ ∧ s' 2 i = _ ∧ s' 3 i = _ ∧ s' 4 i = _ ∧ s' 5 i = _
          by_cases e : i = j
          · subst e
            exact ⟨v2.trans hW.symm, v3.trans hC.symm, v4.trans hT.symm, v5.trans hH.symm, by rw [v6, hF, hH, hW, hC]⟩
          · rw [v8 1 i (by decide) e, v8 2 i (by decide) e, v8 3 i (by decide) e, v8 4 i (by decide) e, v8 5 i (by decide) e]
            exact p3 i (by omega)
        · show s' 1 i = _ ∧ s' 2 i = _ ∧ s' 3 i = _ ∧ s' 4 i = _ ∧ s' 5 i = _
          have e : i ≠ j := by omega
          rw [v8 1 i (by decide) e, v8 2 i (by decide) e, v8 3 i (by decide) e, v8 4 i (by decide) e, v8 5 i (by decide) e]
          exact p4 i (by omega)
        · exact z_ag_trans p5 av (fun _ _ h => h) (z_tch_sub rfl)
  · obtain ⟨x, s⟩ := u
    show fM_X8_works_76 k a0 a1 x (nI 64) s = _
    unfold fM_X8_works_76
    rw [if_pos (show (64 : Int32) ≤ nI 64 from by decide)]
/-- what the cells' numbers are between two hours, and in one: wood and coal, heat, fire -/
def rHot (R H : Nat) (g : z_G) : Prop := ∀ ρ η, ρ < R → η < H → (g 14 (ρ * H + η) = 0 ∨ g 14 (ρ * H + η) = 1) ∧ (∃ w c : Nat, w + c ≤ 1500 ∧ g 10 (ρ * H + η) = nI w ∧ g 11 (ρ * H + η) = nI c) ∧ ∃ k : Nat, k ≤ 1000 ∧ g 13 (ρ * H + η) = nI k ∧ (g 14 (ρ * H + η) = 1 → 0 < k)
theorem r_burn {R H : Nat} {g h : z_G} (b : 1 ≤ R ∧ R ≤ 8 ∧ 1 ≤ H ∧ H ≤ 8) (e3 : g 1 4 = nI (R * H)) (q2 : rFix R H g) (hk : ∀ ρ η, ρ < R → η < H → ∃ k : Nat, k < 4 ∧ g 18 (ρ * H + η) = nI k) (q5 : rHot R H g) (p10 : rEq R H 10 1 g h) (p11 : rEq R H 11 2 g h) (p12 : rEq R H 12 3 g h) (p13 : rEq R H 13 4 g h) (p14 : rEq R H 14 5 g h) (pa : ∀ ρ η, ρ < R → η < H → ∃ a : Nat, a ≤ 7 ∧ g 16 (ρ * H + η) = nI a ∧ h 9 (η * 8 + ρ) = nI a) (p18 : rEq R H 18 6 g h) (z5 : rZero R H 5 h) (f27 : ∀ c, c < 64 → h 27 c = h 5 c) (a0 a1 : Int32) : ∃ (x l : Int32) (g' h' : z_G), fY_X2_burn g = some (x, g') ∧ fM_X8_works_76_go a0 a1 0 0 h = fM_X8_works_111_go a0 a1 x 0 h' ∧ z_ag (z_tch [1, 2, 3, 4, 5] [(0, 23)]) h h' ∧ g' 1 2 = g 1 2 + x ∧ g' 1 3 = g 1 3 + l ∧ h' 0 23 = h 0 23 + l ∧ rEq R H 10 1 g' h' ∧ rEq R H 11 2 g' h' ∧ rEq R H 12 3 g' h' ∧ rEq R H 13 4 g' h' ∧ rEq R H 14 5 g' h' ∧ rHot R H g' ∧ (∀ c, c < 64 → ¬ (c % 8 < R ∧ c / 8 < H) → h' 1 c = h 1 c ∧ h' 2 c = h 2 c ∧ h' 5 c = h 5 c) ∧ ∀ ρ η, ρ < R → η < H → g' 21 (ρ * H + η) = if h 5 (η * 8 + ρ) = 0 then 0 else h 4 (η * 8 + ρ) := by
  have hN := zc_64 b.2.1 b.2.2.2
  have hk1 : ∀ i, i < R * H → ∃ k : Nat, k < 4 ∧ g 18 i = nI k := fun i hi => by
    obtain ⟨ρ, η, k1, k2, rfl⟩ := zc_of hi
    exact hk ρ η k1 k2
  have out : ∀ c, c < 64 → (c % 8 < R ∧ c / 8 < H) ∨ (¬ (c % 8 < R ∧ c / 8 < H) ∧ h 27 c = 0) := fun c hc => by
    by_cases ci : c % 8 < R ∧ c / 8 < H
    · exact Or.inl ci
    · exact Or.inr ⟨ci, by rw [f27 c hc, z5 c hc ci]⟩
  have hk2 : ∀ c, c < 64 → ¬ h 27 c = 0 → ∃ k : Nat, k < 4 ∧ h 6 c = nI k := fun c hc nz => by
    rcases out c hc with ci | ⟨-, e⟩
    · obtain ⟨k, k4, ek⟩ := hk (c % 8) (c / 8) ci.1 ci.2
      refine ⟨k, k4, ?_⟩
      have := p18 (c % 8) (c / 8) ci.1 ci.2
      rw [show c / 8 * 8 + c % 8 = c by omega] at this
      rw [← this, ek]
    · exact absurd e nz
  obtain ⟨g', u1, u2, u3, u4⟩ := y_burn hN e3 hk1
  obtain ⟨h', v1, v2, v3, v4⟩ := m_burn a0 a1 hk2
  have cell : ∀ ρ η, ρ < R → η < H → yS g (ρ * H + η) = mS h (η * 8 + ρ) ∧ yL g (ρ * H + η) = mL h (η * 8 + ρ) ∧ yW g (ρ * H + η) = mW h (η * 8 + ρ) ∧ yC g (ρ * H + η) = mC h (η * 8 + ρ) ∧ yT g (ρ * H + η) = mT h (η * 8 + ρ) ∧ yH g (ρ * H + η) = mH h (η * 8 + ρ) ∧ yF g (ρ * H + η) = mF h (η * 8 + ρ) ∧ (yF g (ρ * H + η) = 0 ∨ yF g (ρ * H + η) = 1) ∧ (∃ w c : Nat, w + c ≤ 1500 ∧ yW g (ρ * H + η) = nI w ∧ yC g (ρ * H + η) = nI c) ∧ ∃ k : Nat, k ≤ 1000 ∧ yH g (ρ * H + η) = nI k ∧ (yF g (ρ * H + η) = 1 → 0 < k) := by
    intro ρ η k1 k2
    have l2 : η * 8 + ρ < 64 := by have := b.2.1; have := b.2.2.2; omega
    obtain ⟨k, k4, ek⟩ := hk ρ η k1 k2
    obtain ⟨a, a7, ea, eb⟩ := pa ρ η k1 k2
    obtain ⟨r1, ⟨w, c, wc, ew, ec⟩, hh, hh9, eh, hp9⟩ := q5 ρ η k1 k2
    have e10 := p10 ρ η k1 k2
    have e11 := p11 ρ η k1 k2
    have e12 := p12 ρ η k1 k2
    have e13 := p13 ρ η k1 k2
    have e14 := p14 ρ η k1 k2
    have e18 := p18 ρ η k1 k2
    have e8 : g 8 (ρ * H + η) = mSh (η * 8 + ρ) := by
      rw [(q2 ρ η k1 k2).1]
      unfold mSh
      rw [zc_mod (by have := b.2.1; omega)]
    have eK : yK g (ρ * H + η) = mK h (η * 8 + ρ) := by unfold yK mK; rw [e18]
    have ea9 : g 16 (ρ * H + η) = h 9 (η * 8 + ρ) := ea.trans eb.symm
    have m27 := f27 (η * 8 + ρ) l2
    rcases r1 with r1 | r1
    · have n1 : ¬ g 14 (ρ * H + η) = 1 := by rw [r1]; decide
      have n2 : h 27 (η * 8 + ρ) = 0 := by rw [m27, ← e14, r1]
      unfold yF mF
      unfold yS yL yW yC yT yH mS mL mW mC mT mH
      simp only [if_neg n1, if_pos n2]
      exact ⟨trivial, trivial, e10, e11, e12, e13, e14, Or.inl r1, ⟨w, c, wc, ew, ec⟩, hh, hh9, eh, fun e => absurd e n1⟩
    · have n2 : ¬ h 27 (η * 8 + ρ) = 0 := by rw [m27, ← e14, r1]; decide
      obtain ⟨⟨w', c', wc', ew', ec'⟩, h9, hh', eh'⟩ := b_val (k := k) (ρ := ρ) wc hh9 a7 k4 (by have := b.2.1; omega) (g 12 (ρ * H + η))
      have ks : yK g (ρ * H + η) = k := by unfold yK; rw [ek, nI_clamp (by omega)]
      have hW : yW g (ρ * H + η) = nI w' := by unfold yW; rw [if_pos r1, ks, ew, ea, (q2 ρ η k1 k2).1, ew']
      have hC : yC g (ρ * H + η) = nI c' := by unfold yC; rw [if_pos r1, ks, ew, ec, ea, (q2 ρ η k1 k2).1, ec']
      have hH : yH g (ρ * H + η) = nI h9 := by unfold yH; rw [if_pos r1, ea, eh, eh']
      have mW9 : yW g (ρ * H + η) = mW h (η * 8 + ρ) := by unfold yW mW; rw [if_pos r1, if_neg n2, e10, e12, ea9, e8, eK]
      have mC9 : yC g (ρ * H + η) = mC h (η * 8 + ρ) := by unfold yC mC; rw [if_pos r1, if_neg n2, e10, e11, e12, ea9, e8, eK]
      have mH9 : yH g (ρ * H + η) = mH h (η * 8 + ρ) := by unfold yH mH; rw [if_pos r1, if_neg n2, e12, e13, ea9]
      have hF : yF g (ρ * H + η) = bF (nI h9) (nI w') (nI c') := by unfold yF; rw [if_pos r1, hH, hW, hC]
      refine ⟨by unfold yS mS; rw [if_pos r1, if_neg n2, e10, e12, ea9, e8, eK], by unfold yL mL; rw [if_pos r1, if_neg n2, e10, e11, e12, ea9, e8, eK], mW9, mC9, by unfold yT mT; rw [if_pos r1, if_neg n2, e12, ea9], mH9, ?_, ?_, ⟨w', c', wc', hW, hC⟩, h9, hh', hH, fun e => ?_⟩
      · rw [hF]
        unfold mF
        rw [if_neg n2, ← mW9, ← mC9, ← mH9, hW, hC, hH]
        exact bF_eq (by omega) (by omega) (by omega)
      · rw [hF]; exact bF_01 _ _ _
      · rw [hF] at e
        rcases Nat.eq_zero_or_pos h9 with z | z
        · exact absurd (by rw [z, nI_0]) (bF_pos e)
        · exact z
  have sx : z_sum (yS g) (R * H) = z_sum (mS h) 64 := z_sum_cells b.2.1 b.2.2.2 (fun ρ η k1 k2 => (cell ρ η k1 k2).1) (fun c hc ci => by
    rcases out c hc with c9 | ⟨-, e⟩
    · exact absurd c9 ci
    · unfold mS; rw [if_pos e])
  have sl : z_sum (yL g) (R * H) = z_sum (mL h) 64 := z_sum_cells b.2.1 b.2.2.2 (fun ρ η k1 k2 => (cell ρ η k1 k2).2.1) (fun c hc ci => by
    rcases out c hc with c9 | ⟨-, e⟩
    · exact absurd c9 ci
    · unfold mL; rw [if_pos e])
  have lh : ∀ ρ η, ρ < R → η < H → η * 8 + ρ < 64 := fun ρ η k1 k2 => by have := b.2.1; have := b.2.2.2; omega
  refine ⟨z_sum (yS g) (R * H), z_sum (yL g) (R * H), g', h', u1, by rw [sx]; exact v1, v2, u2, u3, by rw [sl]; exact v3, fun ρ η k1 k2 => ?_, fun ρ η k1 k2 => ?_, fun ρ η k1 k2 => ?_, fun ρ η k1 k2 => ?_, fun ρ η k1 k2 => ?_, fun ρ η k1 k2 => ?_, fun c hc ci => ?_, fun ρ η k1 k2 => ?_⟩
  · rw [(u4 _ (zc_lt k1 k2)).1, (v4 _ (lh ρ η k1 k2)).1, (cell ρ η k1 k2).2.2.1]
  · rw [(u4 _ (zc_lt k1 k2)).2.1, (v4 _ (lh ρ η k1 k2)).2.1, (cell ρ η k1 k2).2.2.2.1]
  · rw [(u4 _ (zc_lt k1 k2)).2.2.1, (v4 _ (lh ρ η k1 k2)).2.2.1, (cell ρ η k1 k2).2.2.2.2.1]
  · rw [(u4 _ (zc_lt k1 k2)).2.2.2.1, (v4 _ (lh ρ η k1 k2)).2.2.2.1, (cell ρ η k1 k2).2.2.2.2.2.1]
  · rw [(u4 _ (zc_lt k1 k2)).2.2.2.2.1, (v4 _ (lh ρ η k1 k2)).2.2.2.2, (cell ρ η k1 k2).2.2.2.2.2.2.1]
  · rw [(u4 _ (zc_lt k1 k2)).1, (u4 _ (zc_lt k1 k2)).2.1, (u4 _ (zc_lt k1 k2)).2.2.2.1, (u4 _ (zc_lt k1 k2)).2.2.2.2.1]
    exact (cell ρ η k1 k2).2.2.2.2.2.2.2
  · rcases out c hc with c9 | ⟨-, e⟩
    · exact absurd c9 ci
    · rw [(v4 c hc).1, (v4 c hc).2.1, (v4 c hc).2.2.2.2]
      unfold mF mW mC
      rw [if_pos e, if_pos e, if_pos e]
      exact ⟨rfl, rfl, rfl⟩
  · rw [(u4 _ (zc_lt k1 k2)).2.2.2.2.2]
    unfold yGl
    rw [p14 ρ η k1 k2, p13 ρ η k1 k2]
    rcases (q5 ρ η k1 k2).1 with e | e
    · rw [p14 ρ η k1 k2] at e
      rw [e, if_neg (by decide), if_pos rfl]
    · rw [p14 ρ η k1 k2] at e
      rw [e, if_pos rfl, if_neg (by decide)]
