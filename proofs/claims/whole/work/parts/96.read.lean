/-! reading a tape as a rule, in step -/
def rCtx (g0 h0 : z_G) (n nt N : Nat) : Prop := n < 8 ∧ g0 5 0 = nI n ∧ h0 0 42 = nI n ∧ nt ≤ 100 ∧ g0 4 0 = nI nt ∧ N ≤ 40 ∧ N ≤ nt ∧ (nt ≤ 40 → N = nt) ∧ (40 ≤ nt → N = 40) ∧ ∀ j, j < nt → g0 35 j = h0 30 j ∧ ∃ b : Nat, b < 256 ∧ g0 35 j = nI b
def rFl (g0 h0 : z_G) (n N p : Nat) (g h : z_G) : Prop := z_ag (z_tch [36, 37, 38, 40, 41, 42] [(6, 2), (6, 3)]) g0 g ∧ z_ag (z_tch [32, 33, 34, 35, 36, 37] [(0, 50), (0, 51)]) h0 h ∧ (g 6 2 = nI p ∧ h 0 50 = nI p ∧ p ≤ N) ∧ (∀ r, r < n → g 36 r = g0 36 r ∧ g 37 r = g0 37 r ∧ g 38 r = g0 38 r) ∧ (∀ i, i < 10 * n → g 40 i = g0 40 i ∧ g 41 i = g0 41 i ∧ g 42 i = g0 42 i) ∧ (∀ r, r < n → h 32 r = h0 32 r ∧ h 33 r = h0 33 r ∧ h 34 r = h0 34 r) ∧ ∀ i, i < 21 * n → h 35 i = h0 35 i ∧ h 36 i = h0 36 i ∧ h 37 i = h0 37 i
def rAk (n a : Nat) (g h : z_G) : Prop := h 34 n = nI a ∧ (1 ≤ a → g 38 n = nI a) ∧ ∀ i, i < a → (∃ l : Nat, l < 7 ∧ g 40 (10 * n + i) = nI l ∧ h 35 (21 * n + i) = kLETTERS l) ∧ g 41 (10 * n + i) = h 36 (21 * n + i) ∧ g 42 (10 * n + i) = h 37 (21 * n + i)
def kSgn (g0 : z_G) (N p : Nat) : Int32 := if p < N then g0 35 p else -1
theorem rFl_step {g0 h0 g h g' h' : z_G} {n N p p' : Nat} (F : rFl g0 h0 n N p g h) (ag : z_ag (z_tch [36, 37, 38, 40, 41, 42] [(6, 2), (6, 3)]) g g') (ah : z_ag (z_tch [32, 33, 34, 35, 36, 37] [(0, 50), (0, 51)]) h h') (e1 : g' 6 2 = nI p') (e2 : h' 0 50 = nI p') (hp : p' ≤ N) (o1 : ∀ r, r < n → g' 36 r = g 36 r ∧ g' 37 r = g 37 r ∧ g' 38 r = g 38 r) (o2 : ∀ i, i < 10 * n → g' 40 i = g 40 i ∧ g' 41 i = g 41 i ∧ g' 42 i = g 42 i) (o3 : ∀ r, r < n → h' 32 r = h 32 r ∧ h' 33 r = h 33 r ∧ h' 34 r = h 34 r) (o4 : ∀ i, i < 21 * n → h' 35 i = h 35 i ∧ h' 36 i = h 36 i ∧ h' 37 i = h 37 i) : rFl g0 h0 n N p' g' h' := by
  obtain ⟨f1, f2, f3, f4, f5, f6, f7⟩ := F
  refine ⟨z_ag_trans f1 ag (fun _ _ h => h) (fun _ _ h => h), z_ag_trans f2 ah (fun _ _ h => h) (fun _ _ h => h), ⟨e1, e2, hp⟩, fun r hr => ?_, fun i hi => ?_, fun r hr => ?_, fun i hi => ?_⟩
  · obtain ⟨a1, a2, a3⟩ := o1 r hr
    obtain ⟨b1, b2, b3⟩ := f4 r hr
    exact ⟨a1.trans b1, a2.trans b2, a3.trans b3⟩
  · obtain ⟨a1, a2, a3⟩ := o2 i hi
    obtain ⟨b1, b2, b3⟩ := f5 i hi
    exact ⟨a1.trans b1, a2.trans b2, a3.trans b3⟩
  · obtain ⟨a1, a2, a3⟩ := o3 r hr
    obtain ⟨b1, b2, b3⟩ := f6 r hr
    exact ⟨a1.trans b1, a2.trans b2, a3.trans b3⟩
  · obtain ⟨a1, a2, a3⟩ := o4 i hi
    obtain ⟨b1, b2, b3⟩ := f7 i hi
    exact ⟨a1.trans b1, a2.trans b2, a3.trans b3⟩
theorem rFl_mv {g0 h0 g h g' h' : z_G} {n N p p' : Nat} (F : rFl g0 h0 n N p g h) (ag : z_ag (z_tch [] [(6, 2), (6, 3)]) g g') (ah : z_ag (z_tch [] [(0, 50), (0, 51)]) h h') (e1 : g' 6 2 = nI p') (e2 : h' 0 50 = nI p') (hp : p' ≤ N) : rFl g0 h0 n N p' g' h' :=
  rFl_step F (z_ag_trans ag fr_rf (z_tch_sub rfl) (z_tch_sub (rows1 := []) (els1 := []) rfl)) (z_ag_trans ah fr_rf (z_tch_sub rfl) (z_tch_sub (rows1 := []) (els1 := []) rfl)) e1 e2 hp (fun r _ => ⟨ag 36 r rfl, ag 37 r rfl, ag 38 r rfl⟩) (fun i _ => ⟨ag 40 i rfl, ag 41 i rfl, ag 42 i rfl⟩) (fun r _ => ⟨ah 32 r rfl, ah 33 r rfl, ah 34 r rfl⟩) (fun i _ => ⟨ah 35 i rfl, ah 36 i rfl, ah 37 i rfl⟩)
theorem rAk_mv {g h g' h' : z_G} {n a : Nat} (A : rAk n a g h) (ag : z_ag (z_tch [] [(6, 2), (6, 3)]) g g') (ah : z_ag (z_tch [] [(0, 50), (0, 51)]) h h') : rAk n a g' h' := by
  obtain ⟨a1, a2, a3⟩ := A
  refine ⟨(ah 34 n rfl).trans a1, fun q => (ag 38 n rfl).trans (a2 q), fun i hi => ?_⟩
  rw [ag 40 (10 * n + i) rfl, ag 41 (10 * n + i) rfl, ag 42 (10 * n + i) rfl, ah 35 (21 * n + i) rfl, ah 36 (21 * n + i) rfl, ah 37 (21 * n + i) rfl]
  exact a3 i hi
section ZRD
variable {g0 h0 : z_G} {n nt N : Nat}
theorem y_next (C : rCtx g0 h0 n nt N) {g h : z_G} {p : Nat} (F : rFl g0 h0 n N p g h) : fY_X3_next g = some (kSgn g0 N p, g) := by
  obtain ⟨c1, c2, c3, c4, c5, c6, c7, c8, c9, c10⟩ := C
  obtain ⟨f1, f2, ⟨f3, f4, f5⟩, -⟩ := F
  unfold fY_X3_next fY_X3_next_24 fY_X5_signAt fY_X5_signAt_21 fY_X5_signAt_22 kSgn
  rw [f3]
  by_cases c : 40 ≤ p
  · rw [if_pos (show (40 : Int32) ≤ nI p from nI_le (a := 40) c (by omega)), if_neg (by omega)]
  · rw [if_neg (show ¬ (40 : Int32) ≤ nI p from nI_ge (b := 40) (by omega) (by omega)), if_neg (nI_pos (by omega)), f1 4 0 rfl, c5]
    by_cases d : nt ≤ p
    · rw [if_pos (nI_le d (by omega)), z_bind_nd, if_neg (by omega)]
    · have pn : p < N := by
        rcases Nat.lt_or_ge nt 40 with l | l
        · have := c8 (by omega)
          omega
        · have := c9 l
          omega
      rw [if_neg (nI_ge (by omega) (by omega)), z_ck_in _ (vp_in_nI (by omega) (by omega)), nI_clamp (by omega), z_bind_nd, if_pos pn, f1 35 p rfl]
theorem kSgn_lt {p : Nat} (h : ¬ kSgn g0 N p = -1) : p < N := by
  rcases Nat.lt_or_ge p N with l | l
  · exact l
  · exact absurd (by unfold kSgn; rw [if_neg (by omega)]) h
theorem y_take (C : rCtx g0 h0 n nt N) {g h : z_G} {p : Nat} (F : rFl g0 h0 n N p g h) (c : Int32) : (kSgn g0 N p = c → fY_X3_take c g = some (1, z_up g 6 2 (nI (p + 1)))) ∧ (¬ kSgn g0 N p = c → fY_X3_take c g = some (0, g)) := by
  have e := F.2.2.1.1
  unfold fY_X3_take
  rw [y_next C F, z_bind_nd]
  refine ⟨fun q => ?_, fun q => ?_⟩
  · rw [if_pos q, z_let_eq, e, nI_1, z_bo_1]
  · rw [if_neg q, z_bo_0]
/-- the sign there, as the reference sees it -/
theorem m_here (C : rCtx g0 h0 n nt N) {g h : z_G} {p : Nat} (F : rFl g0 h0 n N p g h) : kSgn g0 N p = (if p < N then h 30 p else -1) ∧ (p < N → ∃ b : Nat, b < 256 ∧ h 30 p = nI b) := by
  obtain ⟨c1, c2, c3, c4, c5, c6, c7, c8, c9, c10⟩ := C
  obtain ⟨f1, f2, -⟩ := F
  refine ⟨?_, fun q => ?_⟩
  · unfold kSgn
    by_cases c : p < N
    · rw [if_pos c, if_pos c, (c10 p (by omega)).1, f2 30 p rfl]
    · rw [if_neg c, if_neg c]
  · obtain ⟨w1, b, b1, b2⟩ := c10 p (by omega)
    exact ⟨b, b1, by rw [f2 30 p rfl, ← w1, b2]⟩
theorem r_num (C : rCtx g0 h0 n nt N) (q : Nat) : ∀ (e c fu1 fu2 v : Nat) (g h : z_G), c + e = 5 → e < fu1 → e < fu2 → rFl g0 h0 n N (q + c) g h → g 6 3 = nI v → h 0 51 = nI v → v < 10 ^ c → ∃ (c' v' : Nat) (g' h' : z_G), c' ≤ 5 ∧ v' < 100000 ∧ z_loop (fun k (w : Int32 × z_G) => fY_X3_readNumber_7 k w.1 w.2) fu1 (nI c, g) = some (if c' = 0 then 0 else 1, g') ∧ z_loop (fun k (w : Int32 × Int32 × z_G) => fS_X8_numbers_10 k w.1 w.2.1 w.2.2) fu2 (nI N, nI q, h) = some (if c' = 0 then 0 else 1, h') ∧ rFl g0 h0 n N (q + c') g' h' ∧ g' 6 3 = nI v' ∧ h' 0 51 = nI v' ∧ z_ag (z_tch [] [(6, 2), (6, 3)]) g g' ∧ z_ag (z_tch [] [(0, 50), (0, 51)]) h h'
  | _, _, 0, _, _, _, _, _, hf, _, _, _, _, _ => absurd hf (Nat.not_lt_zero _)
  | _, _, _ + 1, 0, _, _, _, _, _, hf, _, _, _, _ => absurd hf (Nat.not_lt_zero _)
  | e, c, f1 + 1, f2 + 1, v, g, h, he, hf1, hf2, F, e3, e51, hv => by
    obtain ⟨c1, c2, c3, c4, c5, c6, c7, c8, c9, c10⟩ := id C
    obtain ⟨-, -, ⟨f3, f4, f5⟩, -⟩ := id F
    have v5 : v < 100000 := Nat.lt_of_lt_of_le hv (Nat.le_trans (Nat.pow_le_pow_right (by omega) (show c ≤ 5 by omega)) (by decide))
    have e65 : fY_X3_readNumber_65 (nI c) g = some (if c = 0 then 0 else 1, g) := by
      unfold fY_X3_readNumber_65 fY_X3_readNumber_74
      by_cases z : c = 0
      · rw [if_pos (by rw [z]; decide), if_pos z, z_bo_0]
      · rw [if_neg (nI_nle (by omega) (by omega)), if_neg z, z_bo_1]
    have e68 : fS_X8_numbers_68 (nI q) h = some (if c = 0 then 0 else 1, h) := by
      unfold fS_X8_numbers_68 fS_X8_numbers_81
      rw [f4]
      by_cases z : c = 0
      · rw [if_pos (nI_le (by omega) (by omega)), if_pos z, z_bo_0]
      · rw [if_neg (nI_ge (by omega) (by omega)), if_neg z, z_bo_1]
    have stop : (fY_X3_readNumber_7 (z_loop (fun k (w : Int32 × z_G) => fY_X3_readNumber_7 k w.1 w.2) f1) (nI c) g = fY_X3_readNumber_65 (nI c) g) → (fS_X8_numbers_10 (z_loop (fun k (w : Int32 × Int32 × z_G) => fS_X8_numbers_10 k w.1 w.2.1 w.2.2) f2) (nI N) (nI q) h = fS_X8_numbers_68 (nI q) h) → ∃ (c' v' : Nat) (g' h' : z_G), c' ≤ 5 ∧ v' < 100000 ∧ z_loop (fun k (w : Int32 × z_G) => fY_X3_readNumber_7 k w.1 w.2) (f1 + 1) (nI c, g) = some (if c' = 0 then 0 else 1, g') ∧ z_loop (fun k (w : Int32 × Int32 × z_G) => fS_X8_numbers_10 k w.1 w.2.1 w.2.2) (f2 + 1) (nI N, nI q, h) = some (if c' = 0 then 0 else 1, h') ∧ rFl g0 h0 n N (q + c') g' h' ∧ g' 6 3 = nI v' ∧ h' 0 51 = nI v' ∧ z_ag (z_tch [] [(6, 2), (6, 3)]) g g' ∧ z_ag (z_tch [] [(0, 50), (0, 51)]) h h' := fun s1 s2 => ⟨c, v, g, h, by omega, v5, s1.trans e65, s2.trans e68, F, e3, e51, fr_rf, fr_rf⟩
    have y0 := y_next C F
    obtain ⟨m1, m2⟩ := m_here C F
    obtain ⟨s1, s2⟩ := m_sg0 c6 f5 f4 m1 m2
    have q5 : nI q + 5 = nI (q + 5) := nI_add q 5
    cases e with
    | zero =>
      have ec : c = 5 := by omega
      refine stop ?_ ?_
      · unfold fY_X3_readNumber_7
        rw [if_pos (by rw [ec]; decide)]
      · unfold fS_X8_numbers_10
        rw [q5, f4, if_pos (nI_le (by omega) (by omega))]
    | succ e =>
      have n5 : ¬ (5 : Int32) ≤ nI c := nI_ge (b := 5) (by omega) (by omega)
      have nq : ¬ nI (q + 5) ≤ nI (q + c) := nI_ge (by omega) (by omega)
      by_cases dg : kIn 0 10 (kSgn g0 N (q + c))
      · obtain ⟨d1, d2⟩ := (kIn0 _).mp dg
        have pN : q + c < N := kSgn_lt (fun z => d1 (by rw [z]; decide))
        obtain ⟨b, b1, b2⟩ := m2 pN
        have kb : kSgn g0 N (q + c) = nI b := by rw [m1, if_pos pN, b2]
        rw [kb] at d1 d2
        have b48 : 48 ≤ b := by
          rcases Nat.lt_or_ge b 48 with l | l
          · exact absurd (nI_lt (b := 48) l (by omega)) d1
          · exact l
        have b57 : b ≤ 57 := by
          rcases Nat.lt_or_ge 57 b with l | l
          · exact absurd (nI_lt (a := 57) l (by omega)) d2
          · exact l
        have ev : (10 : Int32) * nI v + nI b - 48 = nI (10 * v + b - 48) := by
          rw [show (10 : Int32) = nI 10 from rfl, pk_mul, nI_add]
          exact pk_sub (b := 48) (by omega)
        have ag1 : z_ag (z_tch [] [(6, 2), (6, 3)]) g (z_up (z_up g 6 3 (nI (10 * v + b - 48))) 6 2 (nI (q + (c + 1)))) := fr_up (fr_up fr_rf rfl) rfl
        have ah1 : z_ag (z_tch [] [(0, 50), (0, 51)]) h (z_up (z_up h 0 51 (nI (10 * v + b - 48))) 0 50 (nI (q + (c + 1)))) := fr_up (fr_up fr_rf rfl) rfl
        have F1 := rFl_mv (p' := q + (c + 1)) F ag1 ah1 (by rw [z_up_same]) (by rw [z_up_same]) (by omega)
        have v1 : 10 * v + b - 48 < 10 ^ (c + 1) := by rw [Nat.pow_succ]; omega
        obtain ⟨c', v', g', h', w1, w2, w3, w4, w5, w6, w7, w8, w9⟩ := r_num C q e (c + 1) f1 f2 (10 * v + b - 48) _ _ (by omega) (by omega) (by omega) F1 (by rw [z_up_at, if_neg (by decide), z_up_same]) (by rw [z_up_at, if_neg (by decide), z_up_same]) v1
        refine ⟨c', v', g', h', w1, w2, ?_, ?_, w5, w6, w7, z_ag_trans ag1 w8 (fun _ _ h => h) (fun _ _ h => h), z_ag_trans ah1 w9 (fun _ _ h => h) (fun _ _ h => h)⟩
        · rw [← w3]
          show fY_X3_readNumber_7 (z_loop (fun k (w : Int32 × z_G) => fY_X3_readNumber_7 k w.1 w.2) f1) (nI c) g = _
          generalize z_loop (fun k (w : Int32 × z_G) => fY_X3_readNumber_7 k w.1 w.2) f1 = kk
          unfold fY_X3_readNumber_7
          rw [if_neg n5, y0, z_bind_nd, kb, if_neg d1, y0, z_bind_nd, kb, if_neg d2, y0, z_bind_nd, kb, z_let_eq, e3, ev, z_let_eq, z_up_at, if_neg (by decide), f3, z_let_eq, nI_1, nI_1]
          rfl
        · rw [← w4]
          show fS_X8_numbers_10 (z_loop (fun k (w : Int32 × Int32 × z_G) => fS_X8_numbers_10 k w.1 w.2.1 w.2.2) f2) (nI N) (nI q) h = _
          generalize z_loop (fun k (w : Int32 × Int32 × z_G) => fS_X8_numbers_10 k w.1 w.2.1 w.2.2) f2 = kk
          unfold fS_X8_numbers_10
          rw [q5, f4, if_neg nq, s1 dg, z_bind_nd, if_neg (by decide), f4, z_ck_in _ (vp_in_nI (by omega) (by omega)), nI_clamp (by omega), z_let_eq, e51, b2, ev, z_let_eq, z_up_at, if_neg (by decide), f4, nI_1]
          rfl
      · refine stop ?_ ?_
        · generalize z_loop (fun k (w : Int32 × z_G) => fY_X3_readNumber_7 k w.1 w.2) f1 = kk
          unfold fY_X3_readNumber_7
          rw [if_neg n5, y0, z_bind_nd]
          by_cases d1 : kSgn g0 N (q + c) < 48
          · rw [if_pos d1]
          · rw [if_neg d1, y0, z_bind_nd]
            by_cases d2 : 57 < kSgn g0 N (q + c)
            · rw [if_pos d2]
            · exact absurd ((kIn0 _).mpr ⟨d1, d2⟩) dg
        · generalize z_loop (fun k (w : Int32 × Int32 × z_G) => fS_X8_numbers_10 k w.1 w.2.1 w.2.2) f2 = kk
          unfold fS_X8_numbers_10
          rw [q5, f4, if_neg nq, s2 dg, z_bind_nd, if_pos rfl]
theorem r_number (C : rCtx g0 h0 n nt N) {p : Nat} {g h : z_G} (F : rFl g0 h0 n N p g h) : ∃ (c' v' : Nat) (g' h' : z_G), c' ≤ 5 ∧ v' < 100000 ∧ fY_X3_readNumber g = some (if c' = 0 then 0 else 1, g') ∧ fS_X8_numbers (nI N) h = some (if c' = 0 then 0 else 1, h') ∧ rFl g0 h0 n N (p + c') g' h' ∧ g' 6 3 = nI v' ∧ h' 0 51 = nI v' ∧ z_ag (z_tch [] [(6, 2), (6, 3)]) g g' ∧ z_ag (z_tch [] [(0, 50), (0, 51)]) h h' := by
  obtain ⟨-, -, ⟨f3, f4, f5⟩, -⟩ := id F
  have ag1 : z_ag (z_tch [] [(6, 2), (6, 3)]) g (z_up g 6 3 0) := fr_up fr_rf rfl
  have ah1 : z_ag (z_tch [] [(0, 50), (0, 51)]) h (z_up h 0 51 0) := fr_up fr_rf rfl
  have F1 := rFl_mv (p' := p + 0) F ag1 ah1 (by rw [z_up_at, if_neg (by decide)]; exact f3) (by rw [z_up_at, if_neg (by decide)]; exact f4) f5
  obtain ⟨c', v', g', h', w1, w2, w3, w4, w5, w6, w7, w8, w9⟩ := r_num C p 5 0 z_fuel z_fuel 0 _ _ (by omega) (z_fuel_big (by omega)) (z_fuel_big (by omega)) F1 (by rw [z_up_same, nI_0]) (by rw [z_up_same, nI_0]) (by decide)
  refine ⟨c', v', g', h', w1, w2, ?_, ?_, w5, w6, w7, z_ag_trans ag1 w8 (fun _ _ h => h) (fun _ _ h => h), z_ag_trans ah1 w9 (fun _ _ h => h) (fun _ _ h => h)⟩
  · have w3' : fY_X3_readNumber_7_go 0 (z_up g 6 3 0) = some (if c' = 0 then 0 else 1, g') := w3
    unfold fY_X3_readNumber
    rw [z_let_eq, w3']
  · have w4' : fS_X8_numbers_10_go (nI N) (nI p) (z_up h 0 51 0) = some (if c' = 0 then 0 else 1, h') := w4
    unfold fS_X8_numbers
    rw [z_let_eq, z_let_eq, f4, w4']
end ZRD
