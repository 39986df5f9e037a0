/-! asks, the act, the rule -/
def mRest (x1 : Int32) (g9 : z_G) : Option (Int32 × z_G) := z_bind (fS_X8_isSign_S4 x1 g9) (fun r12 g13 => (if r12 = 0 then z_bo 0 (some (0, g13)) else z_let (z_up g13 0 50 ((g13 0 50) + 1)) (fun g16 => z_bind (fS_X8_isSign_S5 x1 g16) (fun r17 g18 => (if r17 = 0 then z_bo 0 (some (0, g18)) else z_ck (g18 0 50) 100 (z_ck (g18 0 42) 8 (z_let (z_up g18 32 (Int32.toNatClampNeg (g18 0 42)) (g18 30 (Int32.toNatClampNeg (g18 0 50)))) (fun g23 => z_let (z_up g23 0 50 ((g23 0 50) + 1)) (fun g24 => z_ck (g24 0 42) 8 ((if (g24 32 (Int32.toNatClampNeg (g24 0 42))) = 43 then fS_X8_reads_148 x1 g24 else z_ck (g24 0 42) 8 ((if (g24 32 (Int32.toNatClampNeg (g24 0 42))) = 45 then fS_X8_reads_148 x1 g24 else fS_X8_reads_171 x1 g24)))))))))))))
theorem mRest_eq (kk : Int32 × z_G → Option (Int32 × z_G)) (x1 : Int32) (g : z_G) : fS_X8_reads_25 kk x1 g = z_bind (fS_X8_isSign_S3 x1 g) (fun r8 g9 => (if r8 = 0 then mRest x1 g9 else z_let (z_up g9 0 50 ((g9 0 50) + 1)) (fun g29 => z_bind (fS_X8_ask x1 g29) (fun r30 g31 => (if r30 = 0 then z_bo 0 (some (0, g31)) else kk (x1, g31)))))) := rfl
section ZRU
variable {g0 h0 : z_G} {n nt N : Nat}
theorem r_ask (C : rCtx g0 h0 n nt N) {a p : Nat} (ha : a < 10) {g h : z_G} (F : rFl g0 h0 n N p g h) (A : rAk n a g h) : (∃ (p' : Nat) (g' h' : z_G), fY_X3_readAsk (nI a) g = some (0, g') ∧ fS_X8_ask (nI N) h = some (0, h') ∧ rFl g0 h0 n N p' g' h') ∨ ∃ (p' : Nat) (g' h' : z_G), p + 3 ≤ p' ∧ fY_X3_readAsk (nI a) g = some (1, g') ∧ fS_X8_ask (nI N) h = some (1, h') ∧ rFl g0 h0 n N p' g' h' ∧ rAk n (a + 1) g' h' := by
  obtain ⟨c1, c2, c3, c4, c5, c6, c7, c8, c9, c10⟩ := id C
  obtain ⟨f1, f2, ⟨f3, f4, f5⟩, -⟩ := id F
  obtain ⟨a1, a2, a3⟩ := id A
  have d8 : vp_in (nI n) 8 := vp_in_nI (by omega) (by omega)
  have dn : (nI n).toNatClampNeg = n := nI_clamp (by omega)
  have h42 : h 0 42 = nI n := (f2 0 42 rfl).trans c3
  have g50 : g 5 0 = nI n := (f1 5 0 rfl).trans c2
  have K : (21 : Int32) * nI n + nI a = nI (21 * n + a) := by rw [show (21 : Int32) = nI 21 from rfl, pk_mul, nI_add]
  have y0 := y_next C F
  obtain ⟨m1, m2⟩ := m_here C F
  obtain ⟨s1, s2⟩ := m_sg1 c6 f5 f4 m1 m2
  obtain ⟨l1, l2⟩ := y_letter (x := kSgn g0 N p) g
  by_cases cl : kIn 1 7 (kSgn g0 N p)
  · obtain ⟨l, l7, ll, l3⟩ := l1 cl
    have pN : p < N := kSgn_lt (fun z => by
      obtain ⟨i, i1, i2⟩ := cl
      exact kIn_m1 i i1 (i2.trans z))
    have hl : h 30 p = kLETTERS l := by
      rw [ll, m1, if_pos pN]
    have nl : ¬ nI l = -1 := by
      intro q
      have : (nI l).toInt = (-1 : Int32).toInt := by rw [q]
      rw [nI_toInt (by omega), show (-1 : Int32).toInt = -1 from by decide] at this
      omega
    have dp : vp_in (nI p) 100 := vp_in_nI (by omega) (by omega)
    have dpc : (nI p).toNatClampNeg = p := nI_clamp (by omega)
    have dK : vp_in (nI (21 * n + a)) 168 := vp_in_nI (by omega) (by omega)
    have dKc : (nI (21 * n + a)).toNatClampNeg = 21 * n + a := nI_clamp (by omega)
    -- behind the letter
    have F1 : rFl g0 h0 n N (p + 1) (z_up g 6 2 (nI (p + 1))) (z_up (z_up h 35 (21 * n + a) (h 30 p)) 0 50 (nI (p + 1))) := rFl_step F (fr_up fr_rf rfl) (fr_up (fr_up fr_rf rfl) rfl) (by rw [z_up_same]) (by rw [z_up_same]) (by omega) (fun r _ => ⟨by simp [z_up_at], by simp [z_up_at], by simp [z_up_at]⟩) (fun i _ => ⟨by simp [z_up_at], by simp [z_up_at], by simp [z_up_at]⟩) (fun r _ => ⟨by simp [z_up_at], by simp [z_up_at], by simp [z_up_at]⟩) (fun i hi => ⟨by rw [z_up_row _ _ _ _ (by decide), z_up_at, if_neg (fun q => by have := q.2; omega)], by simp [z_up_at], by simp [z_up_at]⟩)
    have h35 : z_up (z_up h 35 (21 * n + a) (h 30 p)) 0 50 (nI (p + 1)) 35 (21 * n + a) = kLETTERS l := by rw [z_up_row _ _ _ _ (by decide), z_up_same, hl]
    have k34 : ∀ j, z_up (z_up h 35 (21 * n + a) (h 30 p)) 0 50 (nI (p + 1)) 34 j = h 34 j ∧ z_up (z_up h 35 (21 * n + a) (h 30 p)) 0 50 (nI (p + 1)) 36 j = h 36 j ∧ z_up (z_up h 35 (21 * n + a) (h 30 p)) 0 50 (nI (p + 1)) 37 j = h 37 j := fun j => ⟨by simp [z_up_at], by simp [z_up_at], by simp [z_up_at]⟩
    have k35 : ∀ j, j ≠ 21 * n + a → z_up (z_up h 35 (21 * n + a) (h 30 p)) 0 50 (nI (p + 1)) 35 j = h 35 j := fun j hj => by rw [z_up_row _ _ _ _ (by decide), z_up_at, if_neg (fun q => hj q.2)]
    have kY : ∀ a j, a ≠ 6 → z_up g 6 2 (nI (p + 1)) a j = g a j := fun a j hj => by rw [z_up_row _ _ _ _ hj]
    have yy : fY_X3_readAsk (nI a) g = z_bind (fY_X3_next (z_up g 6 2 (nI (p + 1)))) (fun r16 g17 => z_bind (fY_X3_take 60 g17) (fun r19 g20 => (if r19 = 0 then z_bind (fY_X3_take 62 g20) (fun r23 g24 => (if r23 = 0 then z_bind (fY_X3_take 61 g24) (fun r27 g28 => (if r27 = 0 then fY_X3_readAsk_64 g28 else fY_X3_readAsk_57 (nI a) (nI l) r16 g28)) else fY_X3_readAsk_57 (nI a) (nI l) r16 g24)) else fY_X3_readAsk_57 (nI a) (nI l) r16 g20))) := by
      unfold fY_X3_readAsk
      rw [y0, z_bind_nd, l3, z_bind_nd, if_neg nl, z_let_eq, f3, nI_1]
    have mm : fS_X8_ask (nI N) h = z_bind (fS_X8_isSign_S2 (nI N) (z_up (z_up h 35 (21 * n + a) (h 30 p)) 0 50 (nI (p + 1)))) (fun r11 g12 => (if r11 = 0 then z_bo 0 (some (0, g12)) else z_ck (g12 0 50) 100 (z_ck (nI (21 * n + a)) 168 (z_let (z_up g12 36 (Int32.toNatClampNeg (nI (21 * n + a))) (g12 30 (Int32.toNatClampNeg (g12 0 50)))) (fun g17 => z_let (z_up g17 0 50 ((g17 0 50) + 1)) (fun g18 => z_bind (fS_X8_numbers (nI N) g18) (fun r19 g20 => (if r19 = 0 then z_bo 0 (some (0, g20)) else z_ck (nI (21 * n + a)) 168 (z_let (z_up g20 37 (Int32.toNatClampNeg (nI (21 * n + a))) (g20 0 51)) (fun g24 => z_ck (g24 0 42) 8 (z_ck (g24 0 42) 8 (z_let (z_up g24 34 (Int32.toNatClampNeg (g24 0 42)) ((g24 34 (Int32.toNatClampNeg (g24 0 42))) + 1)) (fun g27 => z_bo 1 (some (1, g27))))))))))))))) := by
      unfold fS_X8_ask
      rw [h42, z_ck_in _ d8, dn, a1, K, z_let_eq, s1 cl, z_bind_nd, if_neg (by decide), f4, z_ck_in _ dp, dpc, z_ck_in _ dK, dKc, z_let_eq, z_let_eq, z_up_row _ _ _ _ (show 0 ≠ 35 by decide), f4, nI_1]
    revert F1 h35 k34 k35 kY yy mm
    generalize z_up g 6 2 (nI (p + 1)) = g1
    generalize z_up (z_up h 35 (21 * n + a) (h 30 p)) 0 50 (nI (p + 1)) = h1
    intro F1 h35 k34 k35 kY yy mm
    obtain ⟨F1a, F1b, ⟨j3, j4, j5⟩, -⟩ := id F1
    have y1 := y_next C F1
    obtain ⟨o1, o2⟩ := m_here C F1
    obtain ⟨t1, t2⟩ := m_sg2 c6 j5 j4 o1 o2
    obtain ⟨u1, u2⟩ := y_take C F1 60
    obtain ⟨u3, u4⟩ := y_take C F1 62
    obtain ⟨u5, u6⟩ := y_take C F1 61
    by_cases cr : kIn 2 3 (kSgn g0 N (p + 1))
    · have cr2 := (kIn2 _).mp cr
      have pN2 : p + 1 < N := kSgn_lt (fun z => by rw [z] at cr2; exact absurd cr2 (by decide))
      have hx : h1 30 (p + 1) = kSgn g0 N (p + 1) := by rw [o1, if_pos pN2]
      have yy2 : fY_X3_readAsk (nI a) g = fY_X3_readAsk_57 (nI a) (nI l) (kSgn g0 N (p + 1)) (z_up g1 6 2 (nI (p + 1 + 1))) := by
        rw [yy, y1, z_bind_nd]
        by_cases e60 : kSgn g0 N (p + 1) = 60
        · rw [u1 e60, z_bind_nd, if_neg (by decide)]
        · rw [u2 e60, z_bind_nd, if_pos rfl]
          by_cases e62 : kSgn g0 N (p + 1) = 62
          · rw [u3 e62, z_bind_nd, if_neg (by decide)]
          · rw [u4 e62, z_bind_nd, if_pos rfl]
            have e61 : kSgn g0 N (p + 1) = 61 := (cr2.resolve_left e60).resolve_left e62
            rw [u5 e61, z_bind_nd, if_neg (by decide)]
      have dp2 : vp_in (nI (p + 1)) 100 := vp_in_nI (by omega) (by omega)
      have dpc2 : (nI (p + 1)).toNatClampNeg = p + 1 := nI_clamp (by omega)
      have mm2 : fS_X8_ask (nI N) h = z_bind (fS_X8_numbers (nI N) (z_up (z_up h1 36 (21 * n + a) (h1 30 (p + 1))) 0 50 (nI (p + 1 + 1)))) (fun r19 g20 => (if r19 = 0 then z_bo 0 (some (0, g20)) else z_ck (nI (21 * n + a)) 168 (z_let (z_up g20 37 (Int32.toNatClampNeg (nI (21 * n + a))) (g20 0 51)) (fun g24 => z_ck (g24 0 42) 8 (z_ck (g24 0 42) 8 (z_let (z_up g24 34 (Int32.toNatClampNeg (g24 0 42)) ((g24 34 (Int32.toNatClampNeg (g24 0 42))) + 1)) (fun g27 => z_bo 1 (some (1, g27))))))))) := by
        rw [mm, t1 cr, z_bind_nd, if_neg (by decide), j4, z_ck_in _ dp2, dpc2, z_ck_in _ dK, dKc, z_let_eq, z_let_eq, z_up_row _ _ _ _ (show 0 ≠ 36 by decide), j4, nI_1]
      have F2 : rFl g0 h0 n N (p + 1 + 1) (z_up g1 6 2 (nI (p + 1 + 1))) (z_up (z_up h1 36 (21 * n + a) (h1 30 (p + 1))) 0 50 (nI (p + 1 + 1))) := rFl_step F1 (fr_up fr_rf rfl) (fr_up (fr_up fr_rf rfl) rfl) (by rw [z_up_same]) (by rw [z_up_same]) (by omega) (fun r _ => ⟨by simp [z_up_at], by simp [z_up_at], by simp [z_up_at]⟩) (fun i _ => ⟨by simp [z_up_at], by simp [z_up_at], by simp [z_up_at]⟩) (fun r _ => ⟨by simp [z_up_at], by simp [z_up_at], by simp [z_up_at]⟩) (fun i hi => ⟨by simp [z_up_at], by rw [z_up_row _ _ _ _ (by decide), z_up_at, if_neg (fun q => by have := q.2; omega)], by simp [z_up_at]⟩)
      obtain ⟨c', v', g3, h3, w1, w2, w3, w4, F3, w6, w7, ag3, ah3⟩ := r_number C F2
      by_cases z : c' = 0
      · rw [if_pos z] at w3 w4
        refine Or.inl ⟨p + 1 + 1 + c', g3, h3, ?_, ?_, F3⟩
        · rw [yy2]
          unfold fY_X3_readAsk_57 fY_X3_readAsk_64
          rw [w3, z_bind_nd, if_pos rfl, z_bo_0]
        · rw [mm2, w4, z_bind_nd, if_pos rfl, z_bo_0]
      · rw [if_neg z] at w3 w4
        obtain ⟨F3a, F3b, ⟨i3, i4, i5⟩, -⟩ := id F3
        have g5 : g3 5 0 = nI n := (F3a 5 0 rfl).trans c2
        have h5 : h3 0 42 = nI n := (F3b 0 42 rfl).trans c3
        have h34 : h3 34 n = nI a := by rw [ah3 34 n rfl, z_up_row _ _ _ _ (by decide), z_up_row _ _ _ _ (by decide), (k34 n).1, a1]
        have L : nI n * 10 + nI a = nI (10 * n + a) := by rw [show (10 : Int32) = nI 10 from rfl, pk_mul, nI_add, Nat.mul_comm]
        have dL : vp_in (nI (10 * n + a)) 80 := vp_in_nI (by omega) (by omega)
        have dLc : (nI (10 * n + a)).toNatClampNeg = 10 * n + a := nI_clamp (by omega)
        have put : fY_X4_putAsk (nI a) (nI l) (kSgn g0 N (p + 1)) (g3 6 3) g3 = some (0, z_up (z_up (z_up (z_up g3 40 (10 * n + a) (nI l)) 41 (10 * n + a) (kSgn g0 N (p + 1))) 42 (10 * n + a) (g3 6 3)) 38 n (nI (a + 1))) := by
          unfold fY_X4_putAsk
          rw [g5, L, z_let_eq, z_ck_in _ dL, dLc, z_let_eq, z_ck_in _ dL, z_let_eq, z_ck_in _ dL, z_let_eq, z_up_row _ _ _ _ (show 5 ≠ 42 by decide), z_up_row _ _ _ _ (show 5 ≠ 41 by decide), z_up_row _ _ _ _ (show 5 ≠ 40 by decide), g5, z_ck_in _ d8, dn, z_let_eq, nI_1]
        refine Or.inr ⟨p + 1 + 1 + c', z_up (z_up (z_up (z_up g3 40 (10 * n + a) (nI l)) 41 (10 * n + a) (kSgn g0 N (p + 1))) 42 (10 * n + a) (g3 6 3)) 38 n (nI (a + 1)), z_up (z_up h3 37 (21 * n + a) (h3 0 51)) 34 n (nI (a + 1)), by omega, ?_, ?_, ?_, ?_⟩
        · rw [yy2]
          unfold fY_X3_readAsk_57
          rw [w3, z_bind_nd, if_neg (by decide), put, z_bind_nd, z_bo_1]
        · rw [mm2, w4, z_bind_nd, if_neg (by decide), z_ck_in _ dK, dKc, z_let_eq, z_up_row _ _ _ _ (show 0 ≠ 37 by decide), h5, z_ck_in _ d8, z_ck_in _ d8, dn, z_let_eq, z_up_row _ _ _ _ (show 34 ≠ 37 by decide), h34, nI_1, z_bo_1]
        · refine rFl_step F3 (fr_up (fr_up (fr_up (fr_up fr_rf rfl) rfl) rfl) rfl) (fr_up (fr_up fr_rf rfl) rfl) ?_ ?_ i5 (fun r hr => ⟨by simp [z_up_at], by simp [z_up_at], ?_⟩) (fun i hi => ?_) (fun r hr => ⟨by simp [z_up_at], by simp [z_up_at], ?_⟩) (fun i hi => ⟨by simp [z_up_at], by simp [z_up_at], ?_⟩)
          · simp [z_up_at, i3]
          · simp [z_up_at, i4]
          · rw [z_up_at, if_neg (fun q => by have := q.2; omega)]
            simp [z_up_at]
          · have ne : i ≠ 10 * n + a := by omega
            simp [z_up_at, ne]
          · rw [z_up_at, if_neg (fun q => by have := q.2; omega)]
            simp [z_up_at]
          · have ne : i ≠ 21 * n + a := by omega
            simp [z_up_at, ne]
        · have eY : ∀ b j, b ≠ 6 → g3 b j = g b j := fun b j hb => by
            have : z_tch [] [(6, 2), (6, 3)] b j = false := by simp [z_tch, hb]
            rw [ag3 b j this, z_up_row _ _ _ _ hb, kY b j hb]
          have e35 : ∀ j, h3 35 j = h1 35 j := fun j => by rw [ah3 35 j rfl, z_up_row _ _ _ _ (by decide), z_up_row _ _ _ _ (by decide)]
          have e37 : ∀ j, h3 37 j = h 37 j := fun j => by rw [ah3 37 j rfl, z_up_row _ _ _ _ (by decide), z_up_row _ _ _ _ (by decide), (k34 j).2.2]
          have e36 : ∀ j, j ≠ 21 * n + a → h3 36 j = h 36 j := fun j hj => by rw [ah3 36 j rfl, z_up_row _ _ _ _ (by decide), z_up_at, if_neg (fun q => hj q.2), (k34 j).2.1]
          have e36a : h3 36 (21 * n + a) = kSgn g0 N (p + 1) := by rw [ah3 36 (21 * n + a) rfl, z_up_row _ _ _ _ (by decide), z_up_same, hx]
          refine ⟨by rw [z_up_same], fun _ => by rw [z_up_same], fun i hi => ?_⟩
          by_cases ei : i = a
          · subst ei
            refine ⟨⟨l, l7, by simp [z_up_at], ?_⟩, ?_, ?_⟩
            · rw [z_up_row _ _ _ _ (by decide), z_up_row _ _ _ _ (by decide), e35, h35]
            · rw [z_up_row _ _ _ _ (show 36 ≠ 34 by decide), z_up_row _ _ _ _ (show 36 ≠ 37 by decide), e36a]
              simp [z_up_at]
            · rw [z_up_row _ _ _ _ (show 37 ≠ 34 by decide), z_up_same, w7]
              simp [z_up_at, w6]
          · obtain ⟨⟨l9, l91, l92, l93⟩, b2, b3⟩ := a3 i (by omega)
            have n1 : 10 * n + i ≠ 10 * n + a := by omega
            have n2 : 21 * n + i ≠ 21 * n + a := by omega
            refine ⟨⟨l9, l91, ?_, ?_⟩, ?_, ?_⟩
            · simp [z_up_at, ei]
              rw [eY _ _ (by decide), l92]
            · rw [z_up_row _ _ _ _ (by decide), z_up_row _ _ _ _ (by decide), e35, k35 _ n2, l93]
            · rw [z_up_row _ _ _ _ (show 36 ≠ 34 by decide), z_up_row _ _ _ _ (show 36 ≠ 37 by decide), e36 _ n2, ← b2]
              simp [z_up_at, ei]
              rw [eY _ _ (by decide)]
            · have x37 : z_up h3 37 (21 * n + a) (h3 0 51) 37 (21 * n + i) = h3 37 (21 * n + i) := by rw [z_up_at, if_neg (fun q => n2 q.2)]
              rw [z_up_row _ _ _ _ (show 37 ≠ 34 by decide), x37, e37, ← b3]
              simp [z_up_at, ei]
              rw [eY _ _ (by decide)]
    · have cr2 : ¬ (kSgn g0 N (p + 1) = 60 ∨ kSgn g0 N (p + 1) = 62 ∨ kSgn g0 N (p + 1) = 61) := fun q => cr ((kIn2 _).mpr q)
      refine Or.inl ⟨p + 1, g1, h1, ?_, ?_, F1⟩
      · rw [yy, y1, z_bind_nd, u2 (fun q => cr2 (Or.inl q)), z_bind_nd, if_pos rfl, u4 (fun q => cr2 (Or.inr (Or.inl q))), z_bind_nd, if_pos rfl, u6 (fun q => cr2 (Or.inr (Or.inr q))), z_bind_nd, if_pos rfl]
        unfold fY_X3_readAsk_64
        rw [z_bo_0]
      · rw [mm, t2 cr, z_bind_nd, if_pos rfl, z_bo_0]
  · refine Or.inl ⟨p, g, h, ?_, ?_, F⟩
    · unfold fY_X3_readAsk
      rw [y0, z_bind_nd, l2 cl, z_bind_nd, if_pos rfl, z_bo_0]
    · unfold fS_X8_ask
      rw [h42, z_ck_in _ d8, dn, z_let_eq, s2 cl, z_bind_nd, if_pos rfl, z_bo_0]
/-- all asks -/
theorem r_asks (C : rCtx g0 h0 n nt N) : ∀ (d a fu1 fu2 p : Nat) (g h : z_G), a + d = 10 → d < fu1 → d < fu2 → 4 * a ≤ p → rFl g0 h0 n N p g h → rAk n a g h → (∃ (p' : Nat) (g' h' : z_G), z_loop (fun k (w : Int32 × z_G) => fY_X3_readAsks_2 k w.1 w.2) fu1 (nI a, g) = some (0, g') ∧ z_bind (fS_X8_ask (nI N) h) (fun r37 g38 => (if r37 = 0 then z_bo 0 (some (0, g38)) else z_loop (fun k (w : Int32 × z_G) => fS_X8_reads_25 k w.1 w.2) fu2 (nI N, g38))) = some (0, h') ∧ rFl g0 h0 n N p' g' h') ∨ ∃ (a' p' : Nat) (g' h' : z_G), 1 ≤ a' ∧ a' ≤ 10 ∧ z_loop (fun k (w : Int32 × z_G) => fY_X3_readAsks_2 k w.1 w.2) fu1 (nI a, g) = some (1, g') ∧ z_bind (fS_X8_ask (nI N) h) (fun r37 g38 => (if r37 = 0 then z_bo 0 (some (0, g38)) else z_loop (fun k (w : Int32 × z_G) => fS_X8_reads_25 k w.1 w.2) fu2 (nI N, g38))) = mRest (nI N) h' ∧ rFl g0 h0 n N p' g' h' ∧ rAk n a' g' h'
  | _, _, 0, _, _, _, _, _, hf, _, _, _, _ => absurd hf (Nat.not_lt_zero _)
  | _, _, _ + 1, 0, _, _, _, _, _, hf, _, _, _ => absurd hf (Nat.not_lt_zero _)
  | 0, a, f1 + 1, f2 + 1, p, g, h, e, _, _, hp, F, A => by
    obtain ⟨c1, c2, c3, c4, c5, c6, c7, c8, c9, c10⟩ := id C
    obtain ⟨f1', f2', ⟨f3, f4, f5⟩, -⟩ := id F
    have d8 : vp_in (nI n) 8 := vp_in_nI (by omega) (by omega)
    obtain ⟨m1, m2⟩ := m_here C F
    obtain ⟨s1, s2⟩ := m_sg1 c6 f5 f4 m1 m2
    have nk : ¬ kIn 1 7 (kSgn g0 N p) := by
      rintro ⟨i, i1, i2⟩
      refine kIn_m1 i i1 (i2.trans ?_)
      unfold kSgn
      rw [if_neg (by omega)]
    refine Or.inl ⟨p, g, h, ?_, ?_, F⟩
    · show fY_X3_readAsks_2 _ (nI a) g = _
      unfold fY_X3_readAsks_2
      rw [if_pos (show (10 : Int32) ≤ nI a from nI_le (a := 10) (by omega) (by omega)), z_bo_0]
    · have : fS_X8_ask (nI N) h = some (0, h) := by
        unfold fS_X8_ask
        rw [f2' 0 42 rfl, c3, z_ck_in _ d8, z_let_eq, s2 nk, z_bind_nd, if_pos rfl, z_bo_0]
      rw [this, z_bind_nd, if_pos rfl, z_bo_0]
  | d + 1, a, f1 + 1, f2 + 1, p, g, h, e, hf1, hf2, hp, F, A => by
    have stY : ∀ kk : Int32 × z_G → Option (Int32 × z_G), fY_X3_readAsks_2 kk (nI a) g = z_bind (fY_X3_readAsk (nI a) g) (fun r2 g3 => (if r2 = 0 then z_bo 0 (some (0, g3)) else z_bind (fY_X3_take 38 g3) (fun r6 g7 => (if r6 = 0 then z_bo 1 (some (1, g7)) else kk (nI (a + 1), g7))))) := by
      intro kk
      unfold fY_X3_readAsks_2
      rw [if_neg (show ¬ (10 : Int32) ≤ nI a from nI_ge (b := 10) (by omega) (by omega))]
      simp only [z_let_eq, nI_1]
    have sY : z_loop (fun k (w : Int32 × z_G) => fY_X3_readAsks_2 k w.1 w.2) (f1 + 1) (nI a, g) = fY_X3_readAsks_2 (z_loop (fun k (w : Int32 × z_G) => fY_X3_readAsks_2 k w.1 w.2) f1) (nI a) g := rfl
    have sM : ∀ g38 : z_G, z_loop (fun k (w : Int32 × z_G) => fS_X8_reads_25 k w.1 w.2) (f2 + 1) (nI N, g38) = fS_X8_reads_25 (z_loop (fun k (w : Int32 × z_G) => fS_X8_reads_25 k w.1 w.2) f2) (nI N) g38 := fun _ => rfl
    rw [sY, stY]
    simp only [sM]
    obtain ⟨c1, c2, c3, c4, c5, c6, c7, c8, c9, c10⟩ := id C
    rcases r_ask C (show a < 10 by omega) F A with ⟨p', g', h', u, v, F'⟩ | ⟨p', g1, h1, hp', u, v, F1, A1⟩
    · refine Or.inl ⟨p', g', h', ?_, ?_, F'⟩
      · rw [u, z_bind_nd, if_pos rfl, z_bo_0]
      · rw [v, z_bind_nd, if_pos rfl, z_bo_0]
    · obtain ⟨-, -, ⟨f3, f4, f5⟩, -⟩ := id F1
      obtain ⟨m1, m2⟩ := m_here C F1
      obtain ⟨s1, s2⟩ := m_sg3 c6 f5 f4 m1 m2
      obtain ⟨u1, u2⟩ := y_take C F1 38
      rw [u, z_bind_nd, if_neg (by decide), v, z_bind_nd, if_neg (by decide), mRest_eq]
      by_cases ca : kSgn g0 N p' = 38
      · have pN : p' < N := kSgn_lt (fun z => by rw [z] at ca; exact absurd ca (by decide))
        have ag1 : z_ag (z_tch [] [(6, 2), (6, 3)]) g1 (z_up g1 6 2 (nI (p' + 1))) := fr_up fr_rf rfl
        have ah1 : z_ag (z_tch [] [(0, 50), (0, 51)]) h1 (z_up h1 0 50 (nI (p' + 1))) := fr_up fr_rf rfl
        have F2 := rFl_mv (p' := p' + 1) F1 ag1 ah1 (by rw [z_up_same]) (by rw [z_up_same]) (by omega)
        have A2 := rAk_mv A1 ag1 ah1
        rw [u1 ca, z_bind_nd, if_neg (by decide), s1 ((kIn3 _).mpr ca), z_bind_nd, if_neg (by decide), z_let_eq, f4, nI_1]
        exact r_asks C d (a + 1) f1 f2 (p' + 1) _ _ (by omega) (by omega) (by omega) (by omega) F2 A2
      · rw [u2 ca, z_bind_nd, if_pos rfl, s2 (fun q => ca ((kIn3 _).mp q)), z_bind_nd, if_pos rfl]
        exact Or.inr ⟨a + 1, p', g1, h1, by omega, by omega, by rw [z_bo_1], rfl, F1, A1⟩
end ZRU
