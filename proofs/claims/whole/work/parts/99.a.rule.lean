/-! rule -/
theorem rRules_old {g0 h0 g h : z_G} {n N p : Nat} (q : rRules g0 h0) (n1 : g0 5 0 = nI n) (hn : n ≤ 8) (F : rFl g0 h0 n N p g h) : rRules g h := by
  obtain ⟨n9, hn9, m1, m2, hR⟩ := q
  have e9 : n9 = n := (nI_eq (by omega) (by omega)).mp (m1.symm.trans n1)
  subst e9
  obtain ⟨f1, f2, -, f4, f5, f6, f7⟩ := F
  refine ⟨n9, hn9, (f1 5 0 rfl).trans m1, (f2 0 42 rfl).trans m2, fun r hr => ?_⟩
  obtain ⟨u1, u2, u3, u4, a, a1, a10, u5, u6, u7⟩ := hR r hr
  obtain ⟨y1, y2, y3⟩ := f4 r hr
  obtain ⟨w1, w2, w3⟩ := f6 r hr
  rw [f1 39 r rfl, f2 31 r rfl, y1, y2, y3, w1, w2, w3]
  refine ⟨u1, u2, u3, u4, a, a1, a10, u5, u6, fun i hi => ?_⟩
  obtain ⟨y4, y5, y6⟩ := f5 (10 * r + i) (by omega)
  obtain ⟨w4, w5, w6⟩ := f7 (21 * r + i) (by omega)
  rw [y4, y5, y6, w4, w5, w6]
  exact u7 i hi
theorem rRules_new {g0 h0 g h : z_G} {n N p a : Nat} (q : rRules g0 h0) (n1 : g0 5 0 = nI n) (hn : n < 8) (F : rFl g0 h0 n N p g h) (A : rAk n a g h) (D : rDo n g h) (ha : 1 ≤ a) (ha10 : a ≤ 10) (s : Int32) : rRules (z_up (z_up g 39 n s) 5 0 (nI n + 1)) (z_up (z_up h 31 n s) 0 42 (nI n + 1)) := by
  obtain ⟨n9, hn9, m1, m2, hR⟩ := rRules_old q n1 (by omega) F
  have e9 : n9 = n := (nI_eq (by omega) (by omega)).mp (m1.symm.trans ((F.1 5 0 rfl).trans n1))
  subst e9
  have xY : ∀ b j, b ≠ 39 → b ≠ 5 → z_up (z_up g 39 n9 s) 5 0 (nI n9 + 1) b j = g b j := fun b j h1 h2 => by rw [z_up_row _ _ _ _ h2, z_up_row _ _ _ _ h1]
  have xM : ∀ b j, b ≠ 31 → b ≠ 0 → z_up (z_up h 31 n9 s) 0 42 (nI n9 + 1) b j = h b j := fun b j h1 h2 => by rw [z_up_row _ _ _ _ h2, z_up_row _ _ _ _ h1]
  have y39 : ∀ r, z_up (z_up g 39 n9 s) 5 0 (nI n9 + 1) 39 r = if r = n9 then s else g 39 r := fun r => by
    rw [z_up_row _ _ _ _ (by decide), z_up_at]
    by_cases e : r = n9 <;> simp [e]
  have w31 : ∀ r, z_up (z_up h 31 n9 s) 0 42 (nI n9 + 1) 31 r = if r = n9 then s else h 31 r := fun r => by
    rw [z_up_row _ _ _ _ (by decide), z_up_at]
    by_cases e : r = n9 <;> simp [e]
  refine ⟨n9 + 1, by omega, by rw [z_up_same, nI_1], by rw [z_up_same, nI_1], fun r hr => ?_⟩
  rw [y39, w31, xY 36 r (by decide) (by decide), xY 37 r (by decide) (by decide), xY 38 r (by decide) (by decide), xM 32 r (by decide) (by decide), xM 33 r (by decide) (by decide), xM 34 r (by decide) (by decide)]
  have cells : ∀ i, (z_up (z_up g 39 n9 s) 5 0 (nI n9 + 1) 40 i = g 40 i ∧ z_up (z_up g 39 n9 s) 5 0 (nI n9 + 1) 41 i = g 41 i ∧ z_up (z_up g 39 n9 s) 5 0 (nI n9 + 1) 42 i = g 42 i) ∧ z_up (z_up h 31 n9 s) 0 42 (nI n9 + 1) 35 i = h 35 i ∧ z_up (z_up h 31 n9 s) 0 42 (nI n9 + 1) 36 i = h 36 i ∧ z_up (z_up h 31 n9 s) 0 42 (nI n9 + 1) 37 i = h 37 i := fun i => ⟨⟨xY 40 i (by decide) (by decide), xY 41 i (by decide) (by decide), xY 42 i (by decide) (by decide)⟩, xM 35 i (by decide) (by decide), xM 36 i (by decide) (by decide), xM 37 i (by decide) (by decide)⟩
  by_cases e : r = n9
  · subst e
    rw [if_pos rfl, if_pos rfl]
    obtain ⟨a1, a2, a3⟩ := A
    obtain ⟨b1, b2, b3⟩ := D
    refine ⟨rfl, b1, b2, b3, a, ha, ha10, a2 ha, a1, fun i hi => ?_⟩
    rw [(cells (10 * r + i)).1.1, (cells (10 * r + i)).1.2.1, (cells (10 * r + i)).1.2.2, (cells (21 * r + i)).2.1, (cells (21 * r + i)).2.2.1, (cells (21 * r + i)).2.2.2]
    exact a3 i hi
  · rw [if_neg e, if_neg e]
    obtain ⟨u1, u2, u3, u4, a9, a1, a10, u5, u6, u7⟩ := hR r (by omega)
    refine ⟨u1, u2, u3, u4, a9, a1, a10, u5, u6, fun i hi => ?_⟩
    rw [(cells (10 * r + i)).1.1, (cells (10 * r + i)).1.2.1, (cells (10 * r + i)).1.2.2, (cells (21 * r + i)).2.1, (cells (21 * r + i)).2.2.1, (cells (21 * r + i)).2.2.2]
    exact u7 i hi
theorem sim_rule : z_sim0 rel fY_X7_rule fS_X8_rule := by
  intro g h hr
  have hr0 := rel_thrown hr 0
  have e0 : fS_X8_rule h = fS_X8_rule (z_up h 0 0 0) := by unfold fS_X8_rule; rw [z_reset]
  rw [e0]
  have z0 := z_reset (h := h)
  revert hr0 z0
  generalize z_up h 0 0 0 = h0
  intro hr0 z0
  obtain ⟨R, H, hA⟩ := hr0.1
  obtain ⟨q1, q2, q3, q4, q5, q6, q7, q8, q9, q10, q11, q12⟩ := id hA
  obtain ⟨nt, hnt, t1, t2, htp⟩ := hr0.2.2
  obtain ⟨n, hn, n1, n2, hR⟩ := id q12
  have key : ∀ (r : Int32) (g' h' : z_G), fY_X7_rule g = some (r, g') → fS_X8_rule h0 = some (r, h') → rRules g' h' → g' 4 0 = 0 → h' 0 41 = 0 → ∃ (r : Int32) (g' h' : z_G), fY_X7_rule g = some (r, g') ∧ fS_X8_rule h0 = some (r, h') ∧ rel g' h' := by
    intro r g' h' u v w w1 w2
    have ag := frY_X7_rule _ _ _ u
    have ah := frS_X8_rule _ _ _ v
    exact ⟨r, g', h', u, v, ⟨R, H, ⟨rDim_fr q1 ag (z_apart (by decide)) ah (z_apart (by decide)), rFix_fr q2 ag (z_apart (by decide)), rCells_fr q3 ag (z_apart (by decide)) ah (z_apart (by decide)), rZeros_fr q4 ah (z_apart (by decide)), rVal_fr q5 ag (z_apart (by decide)), rScal_fr q6 ag (z_apart (by decide)) ah (z_apart (by decide)), rHoles_fr q7 ag (z_apart (by decide)) ah (z_apart (by decide)), rHours_fr q8 ag (z_apart (by decide)) ah (z_apart (by decide)), rActs_fr q9 ag (z_apart (by decide)) ah (z_apart (by decide)), rCold_fr q10 ag (z_apart (by decide)), rLit_fr q11 ag (z_apart (by decide)) ah (z_apart (by decide)), w⟩⟩, rWood_fr hr0.2.1 ag (z_apart (by decide)) ah (z_apart (by decide)), 0, by omega, by rw [w1, nI_0], by rw [w2, nI_0], fun j hj => absurd hj (Nat.not_lt_zero j)⟩
  have aT : z_ag (z_tch [] [(0, 41)]) h0 (z_up h0 0 41 0) := fr_up fr_rf rfl
  have qT : rRules g (z_up h0 0 41 0) := rRules_fr (tg := z_tch [] []) q12 fr_rf (z_apart (by decide)) aT (z_apart (by decide))
  have tape0 : ∀ {x y : z_G}, rRules x y → rRules (z_up x 4 0 0) y := fun {x y} w => rRules_fr (tg := z_tch [] [(4, 0)]) (th := z_tch [] []) w (fr_up fr_rf rfl) (z_apart (by decide)) fr_rf (z_apart (by decide))
  have x42 : z_up h0 0 41 0 0 42 = nI n := (aT 0 42 rfl).trans n2
  by_cases e8 : n = 8
  · refine key (-100) (z_up g 4 0 0) (z_up h0 0 41 0) ?_ ?_ (tape0 qT) (by rw [z_up_same]) (by rw [z_up_same])
    · unfold fY_X7_rule fY_X7_rule_19 fY_X4_isFull fY_X4_isFull_14
      rw [n1, e8, if_neg (by decide), z_bo_1, z_bind_nd, if_neg (by decide), z_let_eq]
    · unfold fS_X8_rule
      rw [z_let_eq, z0, z_let_eq, z_let_eq, x42, e8, if_pos (by decide)]
  have hn8 : n < 8 := by omega
  have C : rCtx g (z_up h0 0 41 0) n nt (min nt 40) := ⟨hn8, n1, x42, hnt, t1, by omega, by omega, fun _ => by omega, fun _ => by omega, fun j hj => by
    obtain ⟨w1, w2⟩ := htp j hj
    exact ⟨by rw [aT 30 j rfl, w1], w2⟩⟩
  have yy : fY_X7_rule g = z_bind (fY_X7_acceptTape g) (fun r6 g7 => fY_X7_rule_19 r6 g7) := by
    unfold fY_X7_rule fY_X4_isFull fY_X4_isFull_14
    rw [n1, if_pos (show nI n < 8 from nI_lt (b := 8) hn8 (by omega)), z_bo_0, z_bind_nd, if_pos rfl]
  have n8 : ¬ nI n = 8 := fun q => e8 ((nI_eq (b := 8) (by omega) (by omega)).mp q)
  have emin : (if 40 < nI nt then 40 else nI nt) = nI (min nt 40) := by
    by_cases c : 40 < nt
    · rw [if_pos (show (40 : Int32) < nI nt from nI_lt (a := 40) c (by omega)), show min nt 40 = 40 by omega]
      rfl
    · rw [if_neg (show ¬ (40 : Int32) < nI nt from nI_nlt (b := nt) (a := 40) (by omega) (by omega)), show min nt 40 = nt by omega]
  have mm : fS_X8_rule h0 = z_bind (fS_X8_reads (nI (min nt 40)) (z_up h0 0 41 0)) (fun r11 g12 => (if nI nt ≤ 40 then fS_X8_rule_60 r11 g12 else (if r11 = 0 then (if (g12 0 50) < 40 then fS_X8_rule_60 r11 g12 else fS_X8_rule_57 g12) else fS_X8_rule_57 g12))) := by
    unfold fS_X8_rule
    rw [z_let_eq, z0, z_let_eq, z_let_eq, x42, if_neg n8, t2, emin, z_let_eq]
  have neg1 : ∀ k : Nat, k ≤ 40 → ¬ nI k = -1 := fun k hk q => by
    have : (nI k).toInt = (-1 : Int32).toInt := by rw [q]
    rw [nI_toInt (by omega), show (-1 : Int32).toInt = -1 from by decide] at this
    omega
  -- a fault at a place
  have bad : ∀ (p' : Nat) (g' h' : z_G), rFl g (z_up h0 0 41 0) n (min nt 40) p' g' h' → fY_X3_findFault g = some (nI p', g') → (fS_X8_reads (nI (min nt 40)) (z_up h0 0 41 0) = some (0, h') ∨ (p' = 40 ∧ 40 < nt ∧ fS_X8_reads (nI (min nt 40)) (z_up h0 0 41 0) = some (1, h'))) → ∃ (r : Int32) (g' h' : z_G), fY_X7_rule g = some (r, g') ∧ fS_X8_rule h0 = some (r, h') ∧ rel g' h' := by
    intro p' g' h' F u v
    obtain ⟨f1, f2, ⟨f3, f4, f5⟩, -⟩ := id F
    refine key (-1 - nI p') (z_up g' 4 0 0) h' ?_ ?_ (tape0 (rRules_old qT n1 hn F)) (by rw [z_up_same]) (by rw [f2 0 41 rfl, z_up_same])
    · rw [yy]
      unfold fY_X7_acceptTape fY_X7_acceptTape_44 fY_X7_rule_19
      rw [u, z_bind_nd, if_neg (neg1 p' (by omega)), z_bind_nd, z_let_eq]
    · rw [mm]
      unfold fS_X8_rule_60 fS_X8_rule_57
      rcases v with v | ⟨v1, v2, v3⟩
      · rw [v, z_bind_nd]
        by_cases c : nt ≤ 40
        · rw [if_pos (show nI nt ≤ 40 from nI_le (b := 40) c (by omega)), if_pos rfl, f4]
        · rw [if_neg (show ¬ nI nt ≤ 40 from nI_ge (a := 40) (by omega) (by omega)), if_pos rfl, f4]
          by_cases c2 : p' < 40
          · rw [if_pos (show nI p' < 40 from nI_lt (b := 40) c2 (by omega)), if_pos rfl]
          · have e40 : p' = 40 := by omega
            rw [e40, if_neg (by decide)]
            rfl
      · rw [v3, z_bind_nd, if_neg (show ¬ nI nt ≤ 40 from nI_ge (a := 40) v2 (by omega)), if_neg (by decide), v1]
        rfl
  rcases r_read C with ⟨p', g', h', u, v, F⟩ | ⟨a, p', g', h', ha, ha10, u, v, F, A, D⟩
  · exact bad p' g' h' F u (Or.inl v)
  · obtain ⟨f1, f2, ⟨f3, f4, f5⟩, -⟩ := id F
    by_cases ep : p' = nt
    · rw [if_pos ep] at u
      rw [if_pos (by omega)] at v
      have d8 : vp_in (nI n) 8 := vp_in_nI (by omega) (by omega)
      have dn : (nI n).toNatClampNeg = n := nI_clamp (by omega)
      have y5 : g' 5 0 = nI n := (f1 5 0 rfl).trans n1
      have w42 : h' 0 42 = nI n := (f2 0 42 rfl).trans x42
      have d5 : nI n + 1 - 1 = nI n := by rw [nI_1, nI_pred]
      have acc : ∀ s : Int32, fY_X4_accept s g' = some (nI n, z_up (z_up g' 39 n s) 5 0 (nI n + 1)) := by
        intro s
        unfold fY_X4_accept
        rw [y5, z_ck_in _ d8, dn, z_let_eq, z_up_row _ _ _ _ (show 5 ≠ 39 by decide), y5, z_let_eq, z_up_same, d5]
      have put : ∀ s : Int32, fS_X8_rule_94 s (nI n) h' = some (nI n, z_up (z_up h' 31 n s) 0 42 (nI n + 1)) := by
        intro s
        unfold fS_X8_rule_94
        rw [z_ck_in _ d8, dn, z_let_eq, z_up_row _ _ _ _ (show 0 ≠ 31 by decide), w42, z_let_eq, z_up_same, d5]
      have hs : ∃ s : Int32, fY_X7_acceptTape g = some (nI n, z_up (z_up g' 39 n s) 5 0 (nI n + 1)) ∧ fS_X8_rule h0 = some (nI n, z_up (z_up h' 31 n s) 0 42 (nI n + 1)) := by
        have l1 : g' 0 7 = g 0 7 := f1 0 7 rfl
        have l2 : h' 0 20 = g 0 7 := by rw [f2 0 20 rfl, aT 0 20 rfl, ← q6.2.2.1]
        obtain ⟨t, -, t3, t4, -⟩ := id q8
        have l3 : g' 3 0 = nI t := (f1 3 0 rfl).trans t3
        have l4 : h' 0 21 = nI t := by rw [f2 0 21 rfl, aT 0 21 rfl, t4]
        have mm2 : fS_X8_rule h0 = if g 0 7 = 0 then fS_X8_rule_94 0 (nI n) h' else fS_X8_rule_94 (nI t) (nI n) h' := by
          rw [mm, v, z_bind_nd, if_pos (show nI nt ≤ 40 from nI_le (b := 40) (by omega) (by omega))]
          unfold fS_X8_rule_60
          rw [if_neg (by decide), l2, w42, l4]
        by_cases c : g 0 7 = 0
        · refine ⟨0, ?_, by rw [mm2, if_pos c, put]⟩
          unfold fY_X7_acceptTape fY_X7_acceptTape_35 fY_X7_acceptTape_44
          rw [u, z_bind_nd, if_pos rfl, l1, if_pos c, acc, z_bind_nd]
        · refine ⟨nI t, ?_, by rw [mm2, if_neg c, put]⟩
          unfold fY_X7_acceptTape fY_X7_acceptTape_35 fY_X7_acceptTape_44
          rw [u, z_bind_nd, if_pos rfl, l1, if_neg c, l3, acc, z_bind_nd]
      obtain ⟨s, a1, a2⟩ := hs
      refine key (nI n) (z_up (z_up (z_up g' 39 n s) 5 0 (nI n + 1)) 4 0 0) _ ?_ a2 (tape0 (rRules_new qT n1 hn8 F A D ha ha10 s)) (by rw [z_up_same]) ?_
      · rw [yy, a1, z_bind_nd]
        unfold fY_X7_rule_19
        rw [z_let_eq]
      · rw [z_up_at, if_neg (by decide), z_up_row _ _ _ _ (by decide), f2 0 41 rfl, z_up_same]
    · rw [if_neg ep] at u
      by_cases eN : p' = min nt 40
      · rw [if_pos eN] at v
        exact bad p' g' h' F u (Or.inr ⟨by omega, by omega, v⟩)
      · rw [if_neg eN] at v
        exact bad p' g' h' F u (Or.inl v)
