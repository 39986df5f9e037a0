/-! the act; rule -/
section ZRV
variable {g0 h0 : z_G} {n nt N : Nat}
def cTail (g : z_G) : Option (Int32 × z_G) := z_bind (fY_X3_take 58 g) (fun r11 g12 => (if r11 = 0 then fY_X3_findFault_56 g12 else z_bind (fY_X3_readAct g12) (fun r15 g16 => (if r15 = 0 then fY_X3_findFault_56 g16 else (if (g16 6 2) = (g16 4 0) then fY_X3_findFault_57 1 g16 else fY_X3_findFault_56 g16)))))
theorem y_fault (g : z_G) : fY_X3_findFault_56 g = some (g 6 2, g) := by
  unfold fY_X3_findFault_56 fY_X3_findFault_57 fY_X3_findFault_70
  rw [if_pos rfl]
/-- what an accepted tape has put down -/
def rDo (n : Nat) (g h : z_G) : Prop := g 36 n = h 32 n ∧ (g 36 n = 43 ∨ g 36 n = 45 ∨ g 36 n = 94 ∨ g 36 n = 126) ∧ (g 36 n = 43 ∨ g 36 n = 45 → g 37 n = h 33 n ∧ ∃ j : Nat, j < 100000 ∧ g 37 n = nI j)
theorem rAk_put {g h g' h' : z_G} {a : Nat} (A : rAk n a g h) (ag : z_ag (z_tch [36, 37] [(6, 2), (6, 3)]) g g') (ah : z_ag (z_tch [32, 33] [(0, 50), (0, 51)]) h h') : rAk n a g' h' := by
  obtain ⟨a1, a2, a3⟩ := A
  refine ⟨(ah 34 n rfl).trans a1, fun q => (ag 38 n rfl).trans (a2 q), fun i hi => ?_⟩
  rw [ag 40 (10 * n + i) rfl, ag 41 (10 * n + i) rfl, ag 42 (10 * n + i) rfl, ah 35 (21 * n + i) rfl, ah 36 (21 * n + i) rfl, ah 37 (21 * n + i) rfl]
  exact a3 i hi
theorem y_putAct {g : z_G} (hn : n < 8) (e : g 5 0 = nI n) (x y : Int32) : fY_X4_putAct x y g = some (0, z_up (z_up g 36 n x) 37 n y) := by
  have d8 : vp_in (nI n) 8 := vp_in_nI (by omega) (by omega)
  have dn : (nI n).toNatClampNeg = n := nI_clamp (by omega)
  unfold fY_X4_putAct
  rw [e, z_ck_in _ d8, dn, z_let_eq, z_up_row _ _ _ _ (show 5 ≠ 36 by decide), e, z_ck_in _ d8, dn, z_let_eq]
theorem r_tail (C : rCtx g0 h0 n nt N) {a p : Nat} {g h : z_G} (F : rFl g0 h0 n N p g h) (A : rAk n a g h) : (∃ (p' : Nat) (g' h' : z_G), cTail g = some (nI p', g') ∧ mRest (nI N) h = some (0, h') ∧ rFl g0 h0 n N p' g' h') ∨ ∃ (p' : Nat) (g' h' : z_G), cTail g = some (if p' = nt then -1 else nI p', g') ∧ mRest (nI N) h = some (if p' = N then 1 else 0, h') ∧ rFl g0 h0 n N p' g' h' ∧ rAk n a g' h' ∧ rDo n g' h' := by
  obtain ⟨c1, c2, c3, c4, c5, c6, c7, c8, c9, c10⟩ := id C
  obtain ⟨f1, f2, ⟨f3, f4, f5⟩, -⟩ := id F
  have d8 : vp_in (nI n) 8 := vp_in_nI (by omega) (by omega)
  have dn : (nI n).toNatClampNeg = n := nI_clamp (by omega)
  obtain ⟨m1, m2⟩ := m_here C F
  obtain ⟨s1, s2⟩ := m_sg4 c6 f5 f4 m1 m2
  obtain ⟨u1, u2⟩ := y_take C F 58
  unfold cTail mRest
  by_cases ca : kSgn g0 N p = 58
  · have pN : p < N := kSgn_lt (fun z => by rw [z] at ca; exact absurd ca (by decide))
    have ag1 : z_ag (z_tch [] [(6, 2), (6, 3)]) g (z_up g 6 2 (nI (p + 1))) := fr_up fr_rf rfl
    have ah1 : z_ag (z_tch [] [(0, 50), (0, 51)]) h (z_up h 0 50 (nI (p + 1))) := fr_up fr_rf rfl
    have F1 := rFl_mv (p' := p + 1) F ag1 ah1 (by rw [z_up_same]) (by rw [z_up_same]) (by omega)
    have A1 := rAk_mv A ag1 ah1
    rw [u1 ca, z_bind_nd, if_neg (by decide), s1 ((kIn4 _).mpr ca), z_bind_nd, if_neg (by decide), z_let_eq, f4, nI_1]
    revert F1 A1
    generalize z_up g 6 2 (nI (p + 1)) = g1
    generalize z_up h 0 50 (nI (p + 1)) = h1
    intro F1 A1
    have ag2 : z_ag (z_tch [] [(6, 2), (6, 3)]) g1 (z_up g1 6 3 (-1)) := fr_up fr_rf rfl
    have F2 := rFl_mv (p' := p + 1) (h' := h1) F1 ag2 fr_rf (by rw [z_up_at, if_neg (by decide)]; exact F1.2.2.1.1) F1.2.2.1.2.1 F1.2.2.1.2.2
    have A2 : rAk n a (z_up g1 6 3 (-1)) h1 := rAk_mv A1 ag2 fr_rf
    have yy : fY_X3_readAct g1 = z_bind (fY_X3_take 94 (z_up g1 6 3 (-1))) (fun r13 g14 => (if r13 = 0 then z_bind (fY_X3_take 126 g14) (fun r17 g18 => (if r17 = 0 then z_bind (fY_X3_take 43 g18) (fun r21 g22 => (if r21 = 0 then z_bind (fY_X3_take 45 g22) (fun r25 g26 => (if r25 = 0 then fY_X3_readAct_57 (kSgn g0 N (p + 1)) g26 else fY_X3_readAct_46 (kSgn g0 N (p + 1)) g26)) else fY_X3_readAct_46 (kSgn g0 N (p + 1)) g22)) else fY_X3_readAct_53 (kSgn g0 N (p + 1)) g18)) else fY_X3_readAct_53 (kSgn g0 N (p + 1)) g14)) := by
      unfold fY_X3_readAct
      rw [y_next C F1, z_bind_nd, z_let_eq]
    rw [yy]
    revert F2 A2
    generalize z_up g1 6 3 (-1) = g2
    intro F2 A2
    obtain ⟨k1, k2, ⟨k3, k4, k5⟩, -⟩ := id F2
    obtain ⟨m1, m2⟩ := m_here C F2
    obtain ⟨s1, s2⟩ := m_sg5 c6 k5 k4 m1 m2
    obtain ⟨t1, t2⟩ := y_take C F2 94
    obtain ⟨t3, t4⟩ := y_take C F2 126
    obtain ⟨t5, t6⟩ := y_take C F2 43
    obtain ⟨t7, t8⟩ := y_take C F2 45
    by_cases cb : kIn 5 4 (kSgn g0 N (p + 1))
    · have cb2 := (kIn5 _).mp cb
      have pN2 : p + 1 < N := kSgn_lt (fun z => by rw [z] at cb2; exact absurd cb2 (by decide))
      have hx : h1 30 (p + 1) = kSgn g0 N (p + 1) := by rw [m1, if_pos pN2]
      have h42 : h1 0 42 = nI n := (k2 0 42 rfl).trans c3
      have ag3 : z_ag (z_tch [] [(6, 2), (6, 3)]) g2 (z_up g2 6 2 (nI (p + 1 + 1))) := fr_up fr_rf rfl
      have ah3 : z_ag (z_tch [32, 33] [(0, 50), (0, 51)]) h1 (z_up (z_up h1 32 n (kSgn g0 N (p + 1))) 0 50 (nI (p + 1 + 1))) := fr_up (fr_up fr_rf rfl) rfl
      have F3 : rFl g0 h0 n N (p + 1 + 1) (z_up g2 6 2 (nI (p + 1 + 1))) (z_up (z_up h1 32 n (kSgn g0 N (p + 1))) 0 50 (nI (p + 1 + 1))) := rFl_step F2 (z_ag_trans ag3 fr_rf (z_tch_sub rfl) (z_tch_sub (rows1 := []) (els1 := []) rfl)) (z_ag_trans ah3 fr_rf (z_tch_sub rfl) (z_tch_sub (rows1 := []) (els1 := []) rfl)) (by rw [z_up_same]) (by rw [z_up_same]) (by omega) (fun r _ => ⟨by simp [z_up_at], by simp [z_up_at], by simp [z_up_at]⟩) (fun i _ => ⟨by simp [z_up_at], by simp [z_up_at], by simp [z_up_at]⟩) (fun r hr => ⟨by rw [z_up_row _ _ _ _ (by decide), z_up_at, if_neg (fun q => by have := q.2; omega)], by simp [z_up_at], by simp [z_up_at]⟩) (fun i _ => ⟨by simp [z_up_at], by simp [z_up_at], by simp [z_up_at]⟩)
      have A3 : rAk n a (z_up g2 6 2 (nI (p + 1 + 1))) (z_up (z_up h1 32 n (kSgn g0 N (p + 1))) 0 50 (nI (p + 1 + 1))) := rAk_put A2 (z_ag_trans ag3 fr_rf (z_tch_sub rfl) (z_tch_sub (rows1 := []) (els1 := []) rfl)) ah3
      have x32 : z_up (z_up h1 32 n (kSgn g0 N (p + 1))) 0 50 (nI (p + 1 + 1)) 32 n = kSgn g0 N (p + 1) := by rw [z_up_row _ _ _ _ (by decide), z_up_same]
      have x42 : z_up (z_up h1 32 n (kSgn g0 N (p + 1))) 0 50 (nI (p + 1 + 1)) 0 42 = nI n := by simp [z_up_at, h42]
      rw [s1 cb, z_bind_nd, if_neg (by decide), k4, z_ck_in _ (vp_in_nI (by omega) (by omega)), nI_clamp (show p + 1 < 2 ^ 31 by omega), h42, z_ck_in _ d8, dn, z_let_eq, hx, z_let_eq, z_up_row _ _ _ _ (show 0 ≠ 32 by decide), k4, nI_1, x42, z_ck_in _ d8, dn, x32, z_ck_in _ d8]
      generalize hX : kSgn g0 N (p + 1) = x at *
      revert F3 A3 x32 x42
      generalize z_up g2 6 2 (nI (p + 1 + 1)) = g3 at *
      generalize z_up (z_up h1 32 n x) 0 50 (nI (p + 1 + 1)) = h3
      intro F3 A3 x32 x42
      obtain ⟨j1, j2, ⟨j3, j4, j5⟩, -⟩ := id F3
      -- the end, from any place
      have fin : ∀ (p' : Nat) (g4 h4 : z_G) (y : Int32), rFl g0 h0 n N p' g4 h4 → rAk n a g4 h4 → h4 32 n = x → (x = 43 ∨ x = 45 → y = h4 33 n ∧ ∃ j : Nat, j < 100000 ∧ y = nI j) → y = g4 6 3 → ∃ g' : z_G, z_bind (fY_X3_readAct_53 x g4) (fun r15 g16 => (if r15 = 0 then fY_X3_findFault_56 g16 else (if (g16 6 2) = (g16 4 0) then fY_X3_findFault_57 1 g16 else fY_X3_findFault_56 g16))) = some (if p' = nt then -1 else nI p', g') ∧ fS_X8_reads_171 (nI N) h4 = some (if p' = N then 1 else 0, h4) ∧ rFl g0 h0 n N p' g' h4 ∧ rAk n a g' h4 ∧ rDo n g' h4 := by
        intro p' g4 h4 y F4 A4 e32 e33 ey
        obtain ⟨o1, o2, ⟨o3, o4, o5⟩, -⟩ := id F4
        have g5 : g4 5 0 = nI n := (o1 5 0 rfl).trans c2
        have ag5 : z_ag (z_tch [36, 37] [(6, 2), (6, 3)]) g4 (z_up (z_up g4 36 n x) 37 n y) := fr_up (fr_up fr_rf rfl) rfl
        have x62 : z_up (z_up g4 36 n x) 37 n y 6 2 = nI p' := by simp [z_up_at, o3]
        have x40 : z_up (z_up g4 36 n x) 37 n y 4 0 = nI nt := by
          have : g4 4 0 = nI nt := (o1 4 0 rfl).trans c5
          simp [z_up_at, this]
        refine ⟨z_up (z_up g4 36 n x) 37 n y, ?_, ?_, ?_, rAk_put A4 ag5 fr_rf, ?_⟩
        · unfold fY_X3_readAct_53 fY_X3_readAct_58 fY_X3_readAct_75
          rw [if_neg (by decide), ← ey, y_putAct c1 g5, z_bind_nd, z_bo_1, z_bind_nd, if_neg (by decide), x62, x40]
          by_cases ep : p' = nt
          · rw [if_pos (by rw [ep]), if_pos ep]
            unfold fY_X3_findFault_57 fY_X3_findFault_70
            rw [if_neg (by decide)]
          · rw [if_neg (fun q => ep ((nI_eq (by omega) (by omega)).mp q)), if_neg ep, y_fault, x62]
        · unfold fS_X8_reads_171 fS_X8_reads_184
          rw [o4]
          by_cases ep : p' = N
          · rw [if_pos (by rw [ep]), if_pos ep, z_bo_1]
          · rw [if_neg (fun q => ep ((nI_eq (by omega) (by omega)).mp q)), if_neg ep, z_bo_0]
        · exact rFl_step F4 (z_ag_trans ag5 fr_rf (z_tch_sub rfl) (z_tch_sub (rows1 := []) (els1 := []) rfl)) fr_rf x62 o4 o5 (fun r hr => ⟨by rw [z_up_row _ _ _ _ (by decide), z_up_at, if_neg (fun q => by have := q.2; omega)], by rw [z_up_at, if_neg (fun q => by have := q.2; omega), z_up_row _ _ _ _ (by decide)], by simp [z_up_at]⟩) (fun i _ => ⟨by simp [z_up_at], by simp [z_up_at], by simp [z_up_at]⟩) (fun r _ => ⟨rfl, rfl, rfl⟩) (fun i _ => ⟨rfl, rfl, rfl⟩)
        · have y36 : z_up (z_up g4 36 n x) 37 n y 36 n = x := by simp [z_up_at]
          have y37 : z_up (z_up g4 36 n x) 37 n y 37 n = y := by simp [z_up_at]
          unfold rDo
          rw [y36, y37, e32]
          exact ⟨rfl, cb2, e33⟩
      -- with a number behind it
      have num : (x = 43 ∨ x = 45) → (∃ (p' : Nat) (g' h' : z_G), z_bind (fY_X3_readAct_46 x g3) (fun r15 g16 => (if r15 = 0 then fY_X3_findFault_56 g16 else (if (g16 6 2) = (g16 4 0) then fY_X3_findFault_57 1 g16 else fY_X3_findFault_56 g16))) = some (nI p', g') ∧ fS_X8_reads_148 (nI N) h3 = some (0, h') ∧ rFl g0 h0 n N p' g' h') ∨ ∃ (p' : Nat) (g' h' : z_G), z_bind (fY_X3_readAct_46 x g3) (fun r15 g16 => (if r15 = 0 then fY_X3_findFault_56 g16 else (if (g16 6 2) = (g16 4 0) then fY_X3_findFault_57 1 g16 else fY_X3_findFault_56 g16))) = some (if p' = nt then -1 else nI p', g') ∧ fS_X8_reads_148 (nI N) h3 = some (if p' = N then 1 else 0, h') ∧ rFl g0 h0 n N p' g' h' ∧ rAk n a g' h' ∧ rDo n g' h' := by
        intro hx4
        obtain ⟨c', v', g4, h4, w1, w2, w3, w4, F4, w6, w7, ag4, ah4⟩ := r_number C F3
        unfold fY_X3_readAct_46 fS_X8_reads_148
        rw [w3, z_bind_nd, w4, z_bind_nd]
        by_cases z : c' = 0
        · rw [if_pos z, if_pos rfl]
          refine Or.inl ⟨p + 1 + 1 + c', g4, h4, ?_, by rw [if_pos rfl, z_bo_0], F4⟩
          unfold fY_X3_readAct_57 fY_X3_readAct_58 fY_X3_readAct_75
          rw [if_pos rfl, z_bo_0, z_bind_nd, if_pos rfl, y_fault, F4.2.2.1.1]
        · rw [if_neg z, if_neg (by decide)]
          have h5 : h4 0 42 = nI n := (F4.2.1 0 42 rfl).trans c3
          have ah5 : z_ag (z_tch [32, 33] [(0, 50), (0, 51)]) h4 (z_up h4 33 n (nI v')) := fr_up fr_rf rfl
          have F5 : rFl g0 h0 n N (p + 1 + 1 + c') g4 (z_up h4 33 n (nI v')) := rFl_step F4 fr_rf (z_ag_trans ah5 fr_rf (z_tch_sub rfl) (z_tch_sub (rows1 := []) (els1 := []) rfl)) F4.2.2.1.1 (by rw [z_up_row _ _ _ _ (by decide)]; exact F4.2.2.1.2.1) F4.2.2.1.2.2 (fun r _ => ⟨rfl, rfl, rfl⟩) (fun i _ => ⟨rfl, rfl, rfl⟩) (fun r hr => ⟨by simp [z_up_at], by rw [z_up_at, if_neg (fun q => by have := q.2; omega)], by simp [z_up_at]⟩) (fun i _ => ⟨by simp [z_up_at], by simp [z_up_at], by simp [z_up_at]⟩)
          have A5 : rAk n a g4 (z_up h4 33 n (nI v')) := rAk_put (rAk_mv A3 ag4 ah4) fr_rf ah5
          obtain ⟨g', r1, r2, r3, r4, r5⟩ := fin (p + 1 + 1 + c') g4 (z_up h4 33 n (nI v')) (nI v') F5 A5 (by rw [z_up_row _ _ _ _ (by decide), ah4 32 n rfl, x32]) (fun _ => ⟨by rw [z_up_same], v', w2, rfl⟩) w6.symm
          refine Or.inr ⟨p + 1 + 1 + c', g', z_up h4 33 n (nI v'), r1, ?_, r3, r4, r5⟩
          rw [if_neg (by decide), h5, z_ck_in _ d8, dn, z_let_eq, w7, r2]
      by_cases e94 : x = 94
      · obtain ⟨g', r1, r2, r3, r4, r5⟩ := fin (p + 1 + 1) g3 h3 (g3 6 3) F3 A3 x32 (fun q => by rw [e94] at q; exact absurd q (by decide)) rfl
        rw [t1 e94, z_bind_nd, if_neg (by decide), if_neg (by rw [e94]; decide), if_neg (by rw [e94]; decide)]
        exact Or.inr ⟨p + 1 + 1, g', h3, r1, r2, r3, r4, r5⟩
      · rw [t2 e94, z_bind_nd, if_pos rfl]
        by_cases e126 : x = 126
        · obtain ⟨g', r1, r2, r3, r4, r5⟩ := fin (p + 1 + 1) g3 h3 (g3 6 3) F3 A3 x32 (fun q => by rw [e126] at q; exact absurd q (by decide)) rfl
          rw [t3 e126, z_bind_nd, if_neg (by decide), if_neg (by rw [e126]; decide), if_neg (by rw [e126]; decide)]
          exact Or.inr ⟨p + 1 + 1, g', h3, r1, r2, r3, r4, r5⟩
        · rw [t4 e126, z_bind_nd, if_pos rfl]
          by_cases e43 : x = 43
          · rw [t5 e43, z_bind_nd, if_neg (by decide), if_pos e43]
            exact num (Or.inl e43)
          · rw [t6 e43, z_bind_nd, if_pos rfl, if_neg e43]
            have e45 : x = 45 := by
              rcases cb2 with q | q | q | q
              · exact absurd q e43
              · exact q
              · exact absurd q e94
              · exact absurd q e126
            rw [t7 e45, z_bind_nd, if_neg (by decide), if_pos e45]
            exact num (Or.inr e45)
    · have cb2 : ¬ (kSgn g0 N (p + 1) = 43 ∨ kSgn g0 N (p + 1) = 45 ∨ kSgn g0 N (p + 1) = 94 ∨ kSgn g0 N (p + 1) = 126) := fun q => cb ((kIn5 _).mpr q)
      refine Or.inl ⟨p + 1, g2, h1, ?_, ?_, F2⟩
      · rw [t2 (fun q => cb2 (Or.inr (Or.inr (Or.inl q)))), z_bind_nd, if_pos rfl, t4 (fun q => cb2 (Or.inr (Or.inr (Or.inr q)))), z_bind_nd, if_pos rfl, t6 (fun q => cb2 (Or.inl q)), z_bind_nd, if_pos rfl, t8 (fun q => cb2 (Or.inr (Or.inl q))), z_bind_nd, if_pos rfl]
        unfold fY_X3_readAct_57 fY_X3_readAct_58 fY_X3_readAct_75
        rw [if_pos rfl, z_bo_0, z_bind_nd, if_pos rfl, y_fault, k3]
      · rw [s2 cb, z_bind_nd, if_pos rfl, z_bo_0]
  · refine Or.inl ⟨p, g, h, ?_, ?_, F⟩
    · rw [u2 ca, z_bind_nd, if_pos rfl, y_fault, f3]
    · rw [s2 (fun q => ca ((kIn4 _).mp q)), z_bind_nd, if_pos rfl, z_bo_0]
/-- the whole tape -/
theorem r_read (C : rCtx g0 h0 n nt N) : (∃ (p' : Nat) (g' h' : z_G), fY_X3_findFault g0 = some (nI p', g') ∧ fS_X8_reads (nI N) h0 = some (0, h') ∧ rFl g0 h0 n N p' g' h') ∨ ∃ (a p' : Nat) (g' h' : z_G), 1 ≤ a ∧ a ≤ 10 ∧ fY_X3_findFault g0 = some (if p' = nt then -1 else nI p', g') ∧ fS_X8_reads (nI N) h0 = some (if p' = N then 1 else 0, h') ∧ rFl g0 h0 n N p' g' h' ∧ rAk n a g' h' ∧ rDo n g' h' := by
  obtain ⟨c1, c2, c3, c4, c5, c6, c7, c8, c9, c10⟩ := id C
  have d8 : vp_in (nI n) 8 := vp_in_nI (by omega) (by omega)
  have dn : (nI n).toNatClampNeg = n := nI_clamp (by omega)
  have F0 : rFl g0 h0 n N 0 g0 h0 ∨ True := Or.inr trivial
  have ag : z_ag (z_tch [36, 37, 38, 40, 41, 42] [(6, 2), (6, 3)]) g0 (z_up g0 6 2 0) := fr_up fr_rf rfl
  have ah : z_ag (z_tch [32, 33, 34, 35, 36, 37] [(0, 50), (0, 51)]) h0 (z_up (z_up h0 0 50 0) 34 n 0) := fr_up (fr_up fr_rf rfl) rfl
  have F : rFl g0 h0 n N 0 (z_up g0 6 2 0) (z_up (z_up h0 0 50 0) 34 n 0) := by
    refine ⟨ag, ah, ⟨by rw [z_up_same, nI_0], by simp [z_up_at, nI_0], by omega⟩, fun r hr => ⟨by simp [z_up_at], by simp [z_up_at], by simp [z_up_at]⟩, fun i hi => ⟨by simp [z_up_at], by simp [z_up_at], by simp [z_up_at]⟩, fun r hr => ⟨by simp [z_up_at], by simp [z_up_at], ?_⟩, fun i hi => ⟨by simp [z_up_at], by simp [z_up_at], by simp [z_up_at]⟩⟩
    have ne : r ≠ n := by omega
    simp [z_up_at, ne]
  have A : rAk n 0 (z_up g0 6 2 0) (z_up (z_up h0 0 50 0) 34 n 0) := ⟨by rw [z_up_same, nI_0], fun q => absurd q (by omega), fun i hi => absurd hi (Nat.not_lt_zero i)⟩
  have fu : fY_X4_isFull (z_up g0 6 2 0) = some (0, z_up g0 6 2 0) := by
    unfold fY_X4_isFull fY_X4_isFull_14
    rw [z_up_row _ _ _ _ (show 5 ≠ 6 by decide), c2, if_pos (show nI n < 8 from nI_lt (b := 8) c1 (by omega)), z_bo_0]
  have yy : fY_X3_findFault g0 = z_bind (fY_X3_readAsks (z_up g0 6 2 0)) (fun r7 g8 => (if r7 = 0 then fY_X3_findFault_56 g8 else cTail g8)) := by
    unfold fY_X3_findFault
    rw [z_let_eq, fu, z_bind_nd, if_pos rfl]
    rfl
  have mm : fS_X8_reads (nI N) h0 = z_bind (fS_X8_ask (nI N) (z_up (z_up h0 0 50 0) 34 n 0)) (fun r37 g38 => (if r37 = 0 then z_bo 0 (some (0, g38)) else fS_X8_reads_25_go (nI N) g38)) := by
    unfold fS_X8_reads
    rw [z_let_eq, z_up_at, if_neg (by decide), c3, z_ck_in _ d8, dn, z_let_eq]
  rcases r_asks C 10 0 z_fuel z_fuel 0 (z_up g0 6 2 0) (z_up (z_up h0 0 50 0) 34 n 0) (by omega) (z_fuel_big (by omega)) (z_fuel_big (by omega)) (by omega) F A with ⟨p', g', h', w1, w2, w3⟩ | ⟨a, p', g', h', w1, w2, w3, w4, w5, w6⟩
  · have w1' : fY_X3_readAsks (z_up g0 6 2 0) = some (0, g') := w1
    refine Or.inl ⟨p', g', h', ?_, ?_, w3⟩
    · rw [yy, w1', z_bind_nd, if_pos rfl, y_fault, w3.2.2.1.1]
    · rw [mm]
      exact w2
  · have w3' : fY_X3_readAsks (z_up g0 6 2 0) = some (1, g') := w3
    have yy2 : fY_X3_findFault g0 = cTail g' := by rw [yy, w3', z_bind_nd, if_neg (by decide)]
    have mm2 : fS_X8_reads (nI N) h0 = mRest (nI N) h' := by
      rw [mm]
      exact w4
    rw [yy2, mm2]
    rcases r_tail C w5 w6 with q | ⟨p2, g2, h2, v1, v2, v3, v4, v5⟩
    · exact Or.inl q
    · exact Or.inr ⟨a, p2, g2, h2, w1, w2, v1, v2, v3, v4, v5⟩
end ZRV
