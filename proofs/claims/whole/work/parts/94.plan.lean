/-! fewest woods, then least loads, then bits in order -/
theorem y_few {g : z_G} {n r want : Nat} (hw : kWood g n) (hr : r < 2 ^ n) (hwant : want ≤ 20000) : ∀ (d taken fu T left : Nat), taken + d = n + 1 → d < fu → T < 2 ^ n → kSub n T r → fb_ct T.testBit n + 1 = taken → kLd (yLd g) n T < want → (∃ m, (∀ j, j < n → T.testBit j = true → m ≤ yLd g j) ∧ ∀ j, j < n → r.testBit j = true → T.testBit j = false → yLd g j ≤ m) → left < 2 ^ n → (∀ j, left.testBit j = (r.testBit j && !T.testBit j)) → (z_loop (fun k (w : Int32 × Int32 × Int32 × Int32 × z_G) => fY_X6_fewestOf_8 k w.1 w.2.1 w.2.2.1 w.2.2.2.1 w.2.2.2.2) fu (nI want, nI left, nI (kLd (yLd g) n T), nI taken, g) = some (-1, g) ∧ ∀ B, kSub n B r → kLd (yLd g) n B < want) ∨ ∃ k : Nat, k ≤ n ∧ z_loop (fun k (w : Int32 × Int32 × Int32 × Int32 × z_G) => fY_X6_fewestOf_8 k w.1 w.2.1 w.2.2.1 w.2.2.2.1 w.2.2.2.2) fu (nI want, nI left, nI (kLd (yLd g) n T), nI taken, g) = some (nI k, g) ∧ (∃ B, B < 2 ^ n ∧ kSub n B r ∧ fb_ct B.testBit n = k ∧ want ≤ kLd (yLd g) n B) ∧ ∀ B, kSub n B r → fb_ct B.testBit n < k → kLd (yLd g) n B < want
  | _, _, 0, _, _, _, hf, _, _, _, _, _, _, _ => absurd hf (Nat.not_lt_zero _)
  | d, taken, f + 1, T, left, e, hf, hT, hs, hc, hl, ⟨m, hm1, hm2⟩, hL, hb => by
    obtain ⟨hn, e1, hj⟩ := id hw
    have all : ∀ B, kSub n B r → fb_ct B.testBit n ≤ fb_ct T.testBit n → kLd (yLd g) n B < want := fun B h1 h2 => by
      have := k_exch (L := yLd g) h1 hm1 hm2 h2
      omega
    show (fY_X6_fewestOf_8 (z_loop (fun k (w : Int32 × Int32 × Int32 × Int32 × z_G) => fY_X6_fewestOf_8 k w.1 w.2.1 w.2.2.1 w.2.2.2.1 w.2.2.2.2) f) (nI want) (nI left) (nI (kLd (yLd g) n T)) (nI taken) g = some (-1, g) ∧ ∀ B, kSub n B r → kLd (yLd g) n B < want) ∨ ∃ k : Nat, k ≤ n ∧ fY_X6_fewestOf_8 (z_loop (fun k (w : Int32 × Int32 × Int32 × Int32 × z_G) => fY_X6_fewestOf_8 k w.1 w.2.1 w.2.2.1 w.2.2.2.1 w.2.2.2.2) f) (nI want) (nI left) (nI (kLd (yLd g) n T)) (nI taken) g = some (nI k, g) ∧ (∃ B, B < 2 ^ n ∧ kSub n B r ∧ fb_ct B.testBit n = k ∧ want ≤ kLd (yLd g) n B) ∧ ∀ B, kSub n B r → fb_ct B.testBit n < k → kLd (yLd g) n B < want
    generalize hkk : z_loop (fun k (w : Int32 × Int32 × Int32 × Int32 × z_G) => fY_X6_fewestOf_8 k w.1 w.2.1 w.2.2.1 w.2.2.2.1 w.2.2.2.2) f = kk
    cases d with
    | zero =>
      refine Or.inl ⟨?_, fun B h1 => all B h1 ?_⟩
      · unfold fY_X6_fewestOf_8 fY_X6_fewestOf_64
        rw [e1, if_pos (nI_lt (by omega) (by omega))]
      · have := fb_ct_le B.testBit n
        omega
    | succ d =>
      have hst : ¬ nI n < nI taken := nI_nlt (by omega) (by omega)
      by_cases c0 : left = 0
      · refine Or.inl ⟨?_, fun B h1 => all B h1 ?_⟩
        · unfold fY_X6_fewestOf_8 fY_X6_fewestOf_64
          rw [e1, if_neg hst, c0, if_pos (by decide)]
        · refine fb_ct_sub (fun k hk hk2 => ?_)
          have h3 := h1 k hk hk2
          have h4 := hb k
          rw [c0, Nat.zero_testBit, h3] at h4
          cases ht : T.testBit k with
          | true => rfl
          | false => rw [ht] at h4; exact absurd h4 (by decide)
      · obtain ⟨w, w1, w2, w3, w4⟩ := y_great hw hL c0
        have lw := hb w
        rw [w2] at lw
        have rw1 : r.testBit w = true := by
          cases hh : r.testBit w with
          | true => rfl
          | false => rw [hh, Bool.false_and] at lw; exact absurd lw (by decide)
        have tw1 : T.testBit w = false := by
          cases hh : T.testBit w with
          | false => rfl
          | true => rw [hh, rw1] at lw; exact absurd lw (by decide)
        obtain ⟨a1, a2⟩ := zb_add w1 tw1 (yLd g)
        obtain ⟨⟨l1, l2, l3⟩, -⟩ := hj w w1
        have hb4 := zb_lt hL hn
        have bd := kLd_le (L := yLd g) (n := n) (fun j h9 => (hj j h9).1.2.2) hn (T ||| 2 ^ w)
        have hT2 : T ||| 2 ^ w < 2 ^ n := Nat.or_lt_two_pow hT (Nat.pow_lt_pow_right (by omega) w1)
        have hs2 : kSub n (T ||| 2 ^ w) r := fun j h8 h9 => by
          rw [fb_bit_set] at h9
          by_cases ej : j = w
          · rw [ej]; exact rw1
          · rw [decide_eq_false ej, Bool.or_false] at h9
            exact hs j h8 h9
        have st : fY_X6_fewestOf_8 kk (nI want) (nI left) (nI (kLd (yLd g) n T)) (nI taken) g = if nI (kLd (yLd g) n (T ||| 2 ^ w)) < nI want then kk (nI want, nI (left &&& (2 ^ w ^^^ (2 ^ 32 - 1))), nI (kLd (yLd g) n (T ||| 2 ^ w)), nI (taken + 1), g) else some (nI taken, g) := by
          have c1 : ¬ nI left = 0 := nI_ne0 (by omega) (by omega)
          unfold fY_X6_fewestOf_8
          rw [e1, if_neg hst, if_neg c1, w4, z_bind_nd, z_ck_in _ (vp_in_nI (by omega) (by omega)), nI_clamp (show w < 2 ^ 31 by omega), z_let_eq, z_let_eq, l1, nI_add, a1, zb_shl (by omega), zb_not, z_let_eq, nI_1]
        by_cases c2 : kLd (yLd g) n (T ||| 2 ^ w) < want
        · rw [if_pos (nI_lt c2 (by omega))] at st
          rw [st, ← hkk]
          refine y_few hw hr hwant d (taken + 1) f (T ||| 2 ^ w) (left &&& (2 ^ w ^^^ (2 ^ 32 - 1))) (by omega) (by omega) hT2 hs2 (by omega) c2 ⟨yLd g w, fun j h8 h9 => ?_, fun j h8 h9 h10 => ?_⟩ (Nat.lt_of_le_of_lt Nat.and_le_left hL) (fun j => ?_)
          · rw [fb_bit_set] at h9
            by_cases ej : j = w
            · rw [ej]; exact Nat.le_refl _
            · rw [decide_eq_false ej, Bool.or_false] at h9
              have := hm1 j h8 h9
              have := hm2 w w1 rw1 tw1
              omega
          · rw [fb_bit_set] at h10
            have t0 : T.testBit j = false := by
              cases hh : T.testBit j with
              | false => rfl
              | true => rw [hh, Bool.true_or] at h10; exact absurd h10 (by decide)
            refine w3 j h8 ?_
            rw [hb j, h9, t0]
            rfl
          · rw [zb_notbit (by omega) (show 2 ^ w < 4096 from Nat.lt_of_lt_of_le (Nat.pow_lt_pow_right (by omega) (show w < 12 by omega)) (by decide)), hb j, fb_bit_set, Nat.testBit_two_pow]
            have : decide (w = j) = decide (j = w) := decide_eq_decide.mpr ⟨Eq.symm, Eq.symm⟩
            rw [this]
            cases r.testBit j <;> cases T.testBit j <;> cases decide (j = w) <;> rfl
        · rw [if_neg (nI_nlt (by omega) (by omega))] at st
          refine Or.inr ⟨taken, by omega, st, ⟨T ||| 2 ^ w, hT2, hs2, by omega, by omega⟩, fun B h1 h2 => all B h1 (by omega)⟩
/-- the first of the least: among the sets that count -/
def kBest (V : Nat → Prop) (ld : Nat → Nat) (N b : Nat) : Prop := b < N ∧ V b ∧ ∀ c, c < N → V c → ld b ≤ ld c ∧ (c < b → ld b < ld c)
theorem kBest_one {V : Nat → Prop} {ld : Nat → Nat} {N b b2 : Nat} (h1 : kBest V ld N b) (h2 : kBest V ld N b2) : b = b2 := by
  obtain ⟨x1, x2, x3⟩ := h1
  obtain ⟨y1, y2, y3⟩ := h2
  have a := x3 b2 y1 y2
  have c := y3 b x1 x2
  rcases Nat.lt_trichotomy b b2 with l | l | l
  · have := c.2 l
    omega
  · exact l
  · have := a.2 l
    omega
theorem y_leastOf {g : z_G} {n r want k : Nat} (hw : kWood g n) (hr : r < 2 ^ n) (hwant : want ≤ 20000) (h1 : 1 ≤ want) (hk : k ≤ n) (hex : ∃ B, B < 2 ^ n ∧ kSub n B r ∧ fb_ct B.testBit n = k ∧ want ≤ kLd (yLd g) n B) : ∃ b : Nat, fY_X6_leastOf (nI r) (nI k) (nI want) g = some (nI b, g) ∧ kBest (fun B => kSub n B r ∧ fb_ct B.testBit n = k ∧ want ≤ kLd (yLd g) n B) (kLd (yLd g) n) (2 ^ n) b := by
  obtain ⟨hn, e1, hj⟩ := id hw
  have hr2 := zb_lt hr hn
  have h2n : 2 ^ n ≤ 4096 := (Nat.pow_le_pow_right (by omega) hn : 2 ^ n ≤ 2 ^ 12)
  have h2p : 1 ≤ 2 ^ n := Nat.one_le_two_pow
  have bd := fun b => kLd_le (L := yLd g) (n := n) (fun j h9 => (hj j h9).1.2.2) hn b
  have z0 : kLd (yLd g) n 0 = 0 := by
    unfold kLd
    have e : (fun j => if (0 : Nat).testBit j = true then yLd g j else 0) = fun _ => 0 := by
      funext j
      rw [Nat.zero_testBit]
      rfl
    rw [e, fb_sm_const, Nat.mul_zero]
  unfold fY_X6_leastOf fY_X6_leastOf_9_go
  have key := z_pfor (σ := Nat × Nat) (step := fun k (w : Int32 × Int32 × Int32 × Int32 × Int32 × Int32 × z_G) => fY_X6_leastOf_9 k w.1 w.2.1 w.2.2.1 w.2.2.2.1 w.2.2.2.2.1 w.2.2.2.2.2.1 w.2.2.2.2.2.2) (fun i u => (nI r, nI k, nI want, nI u.1, nI u.2, nI (i + 1), g)) (fun u => some (nI u.1, g)) (2 ^ n - 1) (z_fuel_big (by omega)) (fun i u => u.1 < i + 1 ∧ u.2 ≤ 12000 ∧ ((u.1 = 0 ∧ ∀ c, c < i + 1 → ¬ (kSub n c r ∧ fb_ct c.testBit n = k ∧ want ≤ kLd (yLd g) n c)) ∨ (0 < u.1 ∧ u.2 = kLd (yLd g) n u.1 ∧ kBest (fun B => kSub n B r ∧ fb_ct B.testBit n = k ∧ want ≤ kLd (yLd g) n B) (kLd (yLd g) n) (i + 1) u.1))) (fun kk i u hi hp => ?_) (fun kk u hp => ?_) (0, 0) ⟨by simp only; omega, by simp only; omega, Or.inl ⟨rfl, fun c hc q => by
      have : c = 0 := by omega
      rw [this, z0] at q
      omega⟩⟩
  · obtain ⟨⟨b, s⟩, u1, u2, u3, u4⟩ := key
    simp only at u1 u2 u3 u4
    rw [show 2 ^ n - 1 + 1 = 2 ^ n by omega] at u4
    rcases u4 with ⟨-, u4⟩ | ⟨-, -, u4⟩
    · obtain ⟨B, b1, b2⟩ := hex
      exact absurd b2 (u4 B b1)
    · exact ⟨b, u1, u4⟩
  · obtain ⟨b, s⟩ := u
    obtain ⟨p1, p2, p3⟩ := hp
    simp only at p1 p2 p3
    have hx : i + 1 < 4096 := by omega
    have hx2 : i + 1 < 2 ^ n := by omega
    have bc : fY_J6_bitCount_0f7a4 (nI (i + 1)) g = some (nI (fb_ct (i + 1).testBit n), g) := by rw [y_bcE, kBc_n hx, zb_ct hx2 hn]
    have cl := fb_ct_le (i + 1).testBit n
    have sub : (nI (i + 1) &&& (nI r ^^^ (-1)) = 0) ↔ kSub n (i + 1) r := by
      have lt : (i + 1) &&& (r ^^^ (2 ^ 32 - 1)) ≤ i + 1 := Nat.and_le_left
      rw [zb_not, ← nI_0, nI_eq (by omega) (by omega)]
      constructor
      · intro q j hj9 hb9
        have := zb_notbit (i := j) hx hr2
        rw [q, Nat.zero_testBit, hb9] at this
        cases hh : r.testBit j with
        | true => rfl
        | false => rw [hh] at this; exact absurd this (by decide)
      · intro q
        refine Nat.eq_of_testBit_eq (fun j => ?_)
        rw [zb_notbit hx hr2, Nat.zero_testBit]
        rcases Nat.lt_or_ge j n with l | l
        · cases hh : (i + 1).testBit j with
          | false => rfl
          | true => rw [q j l hh]; rfl
        · rw [zb_high hx2 l]; rfl
    have stop : ¬ (1 <<< (nI n &&& 31)) ≤ nI (i + 1) := by
      rw [zb_shl (by omega)]
      exact nI_ge hx2 (by omega)
    have skip : fY_X6_leastOf_72 kk (nI r) (nI k) (nI want) (nI b) (nI s) (nI (i + 1)) g = kk (nI r, nI k, nI want, nI b, nI s, nI (i + 1 + 1), g) := by
      unfold fY_X6_leastOf_72
      rw [z_let_eq, nI_1]
    have take : fY_X6_leastOf_64 kk (nI r) (nI k) (nI want) (nI (i + 1)) (nI (kLd (yLd g) n (i + 1))) g = kk (nI r, nI k, nI want, nI (i + 1), nI (kLd (yLd g) n (i + 1)), nI (i + 1 + 1), g) := by
      unfold fY_X6_leastOf_64 fY_X6_leastOf_72
      rw [z_let_eq, nI_1]
    have nov : ¬ (kSub n (i + 1) r ∧ fb_ct (i + 1).testBit n = k ∧ want ≤ kLd (yLd g) n (i + 1)) → fY_X6_leastOf_9 kk (nI r) (nI k) (nI want) (nI b) (nI s) (nI (i + 1)) g = kk (nI r, nI k, nI want, nI b, nI s, nI (i + 1 + 1), g) := by
      intro nv
      unfold fY_X6_leastOf_9
      rw [e1, if_neg stop]
      by_cases c1 : kSub n (i + 1) r
      · rw [if_pos (sub.mpr c1), bc, z_bind_nd]
        by_cases c2 : fb_ct (i + 1).testBit n = k
        · rw [if_pos (by rw [c2]), y_loads hw hx, z_bind_nd]
          have c3 : kLd (yLd g) n (i + 1) < want := by
            rcases Nat.lt_or_ge (kLd (yLd g) n (i + 1)) want with l | l
            · exact l
            · exact absurd ⟨c1, c2, l⟩ nv
          rw [if_pos (nI_lt c3 (by omega)), skip]
        · rw [if_neg (fun q => c2 ((nI_eq (by omega) (by omega)).mp q)), skip]
      · rw [if_neg (fun q => c1 (sub.mp q)), skip]
    by_cases v : kSub n (i + 1) r ∧ fb_ct (i + 1).testBit n = k ∧ want ≤ kLd (yLd g) n (i + 1)
    · have st : fY_X6_leastOf_9 kk (nI r) (nI k) (nI want) (nI b) (nI s) (nI (i + 1)) g = if nI b = 0 then kk (nI r, nI k, nI want, nI (i + 1), nI (kLd (yLd g) n (i + 1)), nI (i + 1 + 1), g) else if nI s ≤ nI (kLd (yLd g) n (i + 1)) then kk (nI r, nI k, nI want, nI b, nI s, nI (i + 1 + 1), g) else kk (nI r, nI k, nI want, nI (i + 1), nI (kLd (yLd g) n (i + 1)), nI (i + 1 + 1), g) := by
        have b9 := bd (i + 1)
        unfold fY_X6_leastOf_9
        rw [e1, if_neg stop, if_pos (sub.mpr v.1), bc, z_bind_nd, if_pos (by rw [v.2.1]), y_loads hw hx, z_bind_nd, if_neg (nI_nlt v.2.2 (by omega)), take, skip]
      rcases p3 with ⟨q1, q2⟩ | ⟨q1, q2, q3⟩
      · refine ⟨(i + 1, kLd (yLd g) n (i + 1)), ?_, by simp only; omega, bd _, Or.inr ⟨by simp only; omega, rfl, by simp only; omega, v, fun c hc hv => ?_⟩⟩
        · show fY_X6_leastOf_9 kk (nI r) (nI k) (nI want) (nI b) (nI s) (nI (i + 1)) g = _
          rw [st, if_pos (by rw [q1, nI_0])]
        · by_cases ec : c = i + 1
          · rw [ec]; exact ⟨Nat.le_refl _, fun q => absurd q (by simp only; omega)⟩
          · exact absurd hv (q2 c (by omega))
      · have b0 : ¬ nI b = 0 := nI_ne0 q1 (by omega)
        have b9 := bd (i + 1)
        by_cases c4 : s ≤ kLd (yLd g) n (i + 1)
        · refine ⟨(b, s), ?_, by simp only; omega, p2, Or.inr ⟨q1, q2, by simp only; omega, q3.2.1, fun c hc hv => ?_⟩⟩
          · show fY_X6_leastOf_9 kk (nI r) (nI k) (nI want) (nI b) (nI s) (nI (i + 1)) g = _
            rw [st, if_neg b0, if_pos (nI_le c4 (by omega))]
          · by_cases ec : c = i + 1
            · rw [ec]
              simp only
              exact ⟨by omega, fun q => absurd q (by omega)⟩
            · exact q3.2.2 c (by omega) hv
        · refine ⟨(i + 1, kLd (yLd g) n (i + 1)), ?_, by simp only; omega, bd _, Or.inr ⟨by simp only; omega, rfl, by simp only; omega, v, fun c hc hv => ?_⟩⟩
          · show fY_X6_leastOf_9 kk (nI r) (nI k) (nI want) (nI b) (nI s) (nI (i + 1)) g = _
            rw [st, if_neg b0, if_neg (nI_ge (by omega) (by omega))]
          · by_cases ec : c = i + 1
            · rw [ec]; exact ⟨Nat.le_refl _, fun q => absurd q (by simp only; omega)⟩
            · have := (q3.2.2 c (by omega) hv).1
              simp only
              exact ⟨by omega, fun _ => by omega⟩
    · refine ⟨(b, s), nov v, by simp only; omega, p2, ?_⟩
      rcases p3 with ⟨q1, q2⟩ | ⟨q1, q2, q3⟩
      · refine Or.inl ⟨q1, fun c hc hv => ?_⟩
        by_cases ec : c = i + 1
        · rw [ec] at hv; exact v hv
        · exact q2 c (by omega) hv
      · refine Or.inr ⟨q1, q2, by simp only; omega, q3.2.1, fun c hc hv => ?_⟩
        by_cases ec : c = i + 1
        · rw [ec] at hv; exact absurd hv v
        · exact q3.2.2 c (by omega) hv
  · show fY_X6_leastOf_9 kk (nI r) (nI k) (nI want) (nI u.1) (nI u.2) (nI (2 ^ n - 1 + 1)) g = _
    unfold fY_X6_leastOf_9
    rw [e1, zb_shl (by omega), if_pos (nI_le (by omega) (by omega))]
/-! the reference -/
theorem m_loads {g h : z_G} {n r : Nat} (hw : kWood g n) (e2 : h 0 52 = nI n) (hh : ∀ j, j < n → h 38 j = g 44 j ∧ h 39 j = g 45 j ∧ h 40 j = nI (yLd g j)) (hr : ∀ j, j < n → r.testBit j = kRipe g j) {b : Nat} (hb : b < 4096) : ∀ (d j fu : Nat), j + d = n → d < fu → ((∀ i, j ≤ i → i < n → b.testBit i = true → r.testBit i = true) → z_loop (fun k (w : Int32 × Int32 × Int32 × z_G) => fM_X8_loadsOf_4 k w.1 w.2.1 w.2.2.1 w.2.2.2) fu (nI b, nI (fb_sm (fun j => if b.testBit j then yLd g j else 0) j), nI j, h) = some (nI (kLd (yLd g) n b), h)) ∧ (¬ (∀ i, j ≤ i → i < n → b.testBit i = true → r.testBit i = true) → z_loop (fun k (w : Int32 × Int32 × Int32 × z_G) => fM_X8_loadsOf_4 k w.1 w.2.1 w.2.2.1 w.2.2.2) fu (nI b, nI (fb_sm (fun j => if b.testBit j then yLd g j else 0) j), nI j, h) = some (-1, h))
  | _, _, 0, _, hf => absurd hf (Nat.not_lt_zero _)
  | 0, j, f + 1, e, _ => by
    have ej : j = n := by omega
    subst ej
    refine ⟨fun _ => ?_, fun q => absurd (fun i h1 h2 => absurd h1 (by omega)) q⟩
    show fM_X8_loadsOf_4 _ (nI b) (nI (fb_sm (fun j => if b.testBit j then yLd g j else 0) j)) (nI j) h = _
    obtain ⟨hn, -⟩ := hw
    unfold fM_X8_loadsOf_4
    rw [e2, if_pos (nI_le (Nat.le_refl j) (by omega))]
    rfl
  | d + 1, j, f + 1, e, hf => by
    obtain ⟨hn, e1, hj⟩ := id hw
    have ih := m_loads hw e2 hh hr hb d (j + 1) f (by omega) (by omega)
    have d3 : vp_in (nI j) 12 := vp_in_nI (by omega) (by omega)
    have d4 : (nI j).toNatClampNeg = j := nI_clamp (by omega)
    obtain ⟨h1, h2, h3⟩ := hh j (by omega)
    have hrj := hr j (by omega)
    show ((∀ i, j ≤ i → i < n → b.testBit i = true → r.testBit i = true) → fM_X8_loadsOf_4 (z_loop (fun k (w : Int32 × Int32 × Int32 × z_G) => fM_X8_loadsOf_4 k w.1 w.2.1 w.2.2.1 w.2.2.2) f) (nI b) (nI (fb_sm (fun j => if b.testBit j then yLd g j else 0) j)) (nI j) h = some (nI (kLd (yLd g) n b), h)) ∧ (¬ (∀ i, j ≤ i → i < n → b.testBit i = true → r.testBit i = true) → fM_X8_loadsOf_4 (z_loop (fun k (w : Int32 × Int32 × Int32 × z_G) => fM_X8_loadsOf_4 k w.1 w.2.1 w.2.2.1 w.2.2.2) f) (nI b) (nI (fb_sm (fun j => if b.testBit j then yLd g j else 0) j)) (nI j) h = some (-1, h))
    have st : ∀ kk : Int32 × Int32 × Int32 × z_G → Option (Int32 × z_G), fM_X8_loadsOf_4 kk (nI b) (nI (fb_sm (fun j => if b.testBit j then yLd g j else 0) j)) (nI j) h = if b.testBit j = true ∧ r.testBit j = false then some (-1, h) else kk (nI b, nI (fb_sm (fun j => if b.testBit j then yLd g j else 0) (j + 1)), nI (j + 1), h) := by
      intro kk
      unfold fM_X8_loadsOf_4 fM_X8_loadsOf_47
      rw [e2, if_neg (nI_ge (by omega) (by omega)), fb_sm_succ]
      by_cases c : b.testBit j = true
      · rw [if_pos ((zb_bit (by omega) (by omega)).mpr c), z_ck_in _ d3, z_ck_in _ d3, d4, h1, h2]
        by_cases c2 : g 45 j ≤ g 44 j
        · have rt : r.testBit j = true := by rw [hrj]; exact decide_eq_true c2
          rw [if_pos c2, if_neg (fun q => by rw [rt] at q; exact absurd q.2 (by decide)), z_ck_in _ d3, z_let_eq, z_let_eq, nI_1, h3, nI_add, if_pos c]
        · have rt : r.testBit j = false := by rw [hrj]; exact decide_eq_false c2
          rw [if_neg c2, if_pos ⟨c, rt⟩]
      · rw [if_neg (fun q => c ((zb_bit (by omega) (by omega)).mp q)), if_neg (fun q => c q.1), z_let_eq, nI_1, if_neg c]
        rfl
    rw [st]
    by_cases c : b.testBit j = true ∧ r.testBit j = false
    · rw [if_pos c]
      refine ⟨fun q => ?_, fun _ => rfl⟩
      have := q j (Nat.le_refl j) (by omega) c.1
      rw [c.2] at this
      exact absurd this (by decide)
    · rw [if_neg c]
      refine ⟨fun q => ih.1 (fun i i1 i2 i3 => q i (by omega) i2 i3), fun q => ih.2 (fun q2 => q (fun i i1 i2 i3 => ?_))⟩
      by_cases ei : i = j
      · cases hh2 : r.testBit i with
        | true => rfl
        | false =>
          rw [ei] at i3 hh2
          exact absurd ⟨i3, hh2⟩ c
      · exact q2 i (by omega) i2 i3
theorem m_loadsOf {g h : z_G} {n r : Nat} (hw : kWood g n) (e2 : h 0 52 = nI n) (hh : ∀ j, j < n → h 38 j = g 44 j ∧ h 39 j = g 45 j ∧ h 40 j = nI (yLd g j)) (hr : ∀ j, j < n → r.testBit j = kRipe g j) {b : Nat} (hb : b < 4096) : (kSub n b r → fM_X8_loadsOf (nI b) h = some (nI (kLd (yLd g) n b), h)) ∧ (¬ kSub n b r → fM_X8_loadsOf (nI b) h = some (-1, h)) := by
  have key := m_loads hw e2 hh hr hb n 0 z_fuel (by omega) (z_fuel_big (by have := hw.1; omega))
  exact ⟨fun q => key.1 (fun i _ h2 h3 => q i h2 h3), fun q => key.2 (fun q2 => q (fun i h2 h3 => q2 i (by omega) h2 h3))⟩
/-- better: fewer woods, or as many and less -/
def kLess (g : z_G) (n b c : Nat) : Prop := fb_ct b.testBit n < fb_ct c.testBit n ∨ (fb_ct b.testBit n = fb_ct c.testBit n ∧ kLd (yLd g) n b ≤ kLd (yLd g) n c ∧ (c < b → kLd (yLd g) n b < kLd (yLd g) n c))
theorem m_plan {g h : z_G} {n r want : Nat} (hw : kWood g n) (e2 : h 0 52 = nI n) (hh : ∀ j, j < n → h 38 j = g 44 j ∧ h 39 j = g 45 j ∧ h 40 j = nI (yLd g j)) (hr : ∀ j, j < n → r.testBit j = kRipe g j) (h1 : 1 ≤ want) (hwant : want ≤ 20000) : (fM_X8_plan_27_go (nI want) (-3) 0 0 h = some (-3, h) ∧ ∀ c, c < 2 ^ n → ¬ (kSub n c r ∧ want ≤ kLd (yLd g) n c)) ∨ ∃ b : Nat, b < 2 ^ n ∧ fM_X8_plan_27_go (nI want) (-3) 0 0 h = some (nI b, h) ∧ (kSub n b r ∧ want ≤ kLd (yLd g) n b) ∧ ∀ c, c < 2 ^ n → (kSub n c r ∧ want ≤ kLd (yLd g) n c) → kLess g n b c := by
  obtain ⟨hn, e1, hj⟩ := id hw
  have h2n : 2 ^ n ≤ 4096 := (Nat.pow_le_pow_right (by omega) hn : 2 ^ n ≤ 2 ^ 12)
  have bd := fun b => kLd_le (L := yLd g) (n := n) (fun j h9 => (hj j h9).1.2.2) hn b
  unfold fM_X8_plan_27_go
  have key := z_pfor (σ := Int32 × Int32) (step := fun k (w : Int32 × Int32 × Int32 × Int32 × z_G) => fM_X8_plan_27 k w.1 w.2.1 w.2.2.1 w.2.2.2.1 w.2.2.2.2) (fun i u => (nI want, u.1, u.2, nI i, h)) (fun u => some (u.1, h)) (2 ^ n) (z_fuel_big (by omega)) (fun i u => (u.1 = -3 ∧ ∀ c, c < i → ¬ (kSub n c r ∧ want ≤ kLd (yLd g) n c)) ∨ ∃ b : Nat, b < i ∧ u.1 = nI b ∧ u.2 = nI (kLd (yLd g) n b) ∧ (kSub n b r ∧ want ≤ kLd (yLd g) n b) ∧ ∀ c, c < i → (kSub n c r ∧ want ≤ kLd (yLd g) n c) → kLess g n b c) (fun kk i u hi hp => ?_) (fun kk u hp => ?_) (-3, 0) (Or.inl ⟨rfl, fun c hc => absurd hc (Nat.not_lt_zero c)⟩)
  · obtain ⟨⟨x, y⟩, u1, u2⟩ := key
    simp only at u1 u2
    rcases u2 with ⟨ex, u2⟩ | ⟨b, b1, b2, -, b3, b4⟩
    · rw [ex] at u1
      exact Or.inl ⟨u1, u2⟩
    · rw [b2] at u1
      exact Or.inr ⟨b, b1, u1, b3, b4⟩
  · obtain ⟨x, y⟩ := u
    simp only at hp
    have hx : i < 4096 := by omega
    have stop : ¬ (1 <<< (nI n &&& 31)) ≤ nI i := by
      rw [zb_shl (by omega)]
      exact nI_ge hi (by omega)
    have bi := bd i
    have skip : fM_X8_plan_97 kk (nI want) x y (nI i) h = kk (nI want, x, y, nI (i + 1), h) := by
      unfold fM_X8_plan_97
      rw [z_let_eq, nI_1]
    have take : ∀ z : Int32, fM_X8_plan_91 kk (nI want) (nI i) z h = kk (nI want, nI i, z, nI (i + 1), h) := by
      intro z
      unfold fM_X8_plan_91 fM_X8_plan_97
      rw [z_let_eq, nI_1]
    obtain ⟨ml1, ml2⟩ := m_loadsOf hw e2 hh hr hx
    by_cases v : kSub n i r ∧ want ≤ kLd (yLd g) n i
    · have lo := ml1 v.1
      rcases hp with ⟨ex, hp⟩ | ⟨b, b1, b2, b3, b4, b5⟩
      · refine ⟨(nI i, nI (kLd (yLd g) n i)), ?_, Or.inr ⟨i, by omega, rfl, rfl, v, fun c hc hv => ?_⟩⟩
        · show fM_X8_plan_27 kk (nI want) x y (nI i) h = _
          unfold fM_X8_plan_27 fM_X8_plan_73
          rw [e2, if_neg stop, lo, z_bind_nd, if_pos (nI_le v.2 (by omega)), ex, if_neg (by decide), if_pos (by decide), take]
        · by_cases ec : c = i
          · rw [ec]; exact Or.inr ⟨rfl, Nat.le_refl _, fun q => absurd q (by omega)⟩
          · exact absurd hv (hp c (by omega))
      · have hb2 : b < 2 ^ n := by omega
        have bb := bd b
        have c1 := fb_ct_le i.testBit n
        have c2 := fb_ct_le b.testBit n
        have bc1 : fM_J6_bitCount_0f7a4 (nI i) h = some (nI (fb_ct i.testBit n), h) := by rw [m_bcE, kBc_n hx, zb_ct hi hn]
        have bc2 : fM_J6_bitCount_0f7a4 (nI b) h = some (nI (fb_ct b.testBit n), h) := by rw [m_bcE, kBc_n (by omega), zb_ct hb2 hn]
        have st : fM_X8_plan_27 kk (nI want) x y (nI i) h = fM_X8_plan_73 kk (nI (fb_ct i.testBit n) - nI (fb_ct b.testBit n)) (nI want) (nI b) (nI (kLd (yLd g) n b)) (nI i) (nI (kLd (yLd g) n i)) h := by
          unfold fM_X8_plan_27
          rw [e2, if_neg stop, lo, z_bind_nd, if_pos (nI_le v.2 (by omega)), b2, b3, if_pos (nI_pos' (by omega)), bc1, z_bind_nd, bc2, z_bind_nd]
        have tr : ∀ c, c < i → (kSub n c r ∧ want ≤ kLd (yLd g) n c) → (fb_ct i.testBit n < fb_ct b.testBit n ∨ (fb_ct i.testBit n = fb_ct b.testBit n ∧ kLd (yLd g) n i < kLd (yLd g) n b)) → kLess g n i c := by
          intro c hc hv hle
          rcases b5 c hc hv with l | ⟨l1, l2, l3⟩
          · rcases hle with m | m
            · exact Or.inl (by omega)
            · exact Or.inl (by omega)
          · rcases hle with m | m
            · exact Or.inl (by omega)
            · exact Or.inr ⟨by omega, by omega, fun _ => by omega⟩
        have new : (fb_ct i.testBit n < fb_ct b.testBit n ∨ (fb_ct i.testBit n = fb_ct b.testBit n ∧ kLd (yLd g) n i < kLd (yLd g) n b)) → ∀ c, c < i + 1 → (kSub n c r ∧ want ≤ kLd (yLd g) n c) → kLess g n i c := by
          intro hle c hc hv
          by_cases ec : c = i
          · rw [ec]; exact Or.inr ⟨rfl, Nat.le_refl _, fun q => absurd q (by omega)⟩
          · exact tr c (by omega) hv hle
        have old : (fb_ct b.testBit n < fb_ct i.testBit n ∨ (fb_ct b.testBit n = fb_ct i.testBit n ∧ kLd (yLd g) n b ≤ kLd (yLd g) n i)) → ∀ c, c < i + 1 → (kSub n c r ∧ want ≤ kLd (yLd g) n c) → kLess g n b c := by
          intro hle c hc hv
          by_cases ec : c = i
          · rw [ec]
            rcases hle with m | m
            · exact Or.inl m
            · exact Or.inr ⟨m.1, m.2, fun q => absurd q (by omega)⟩
          · exact b5 c (by omega) hv
        rcases Nat.lt_trichotomy (fb_ct i.testBit n) (fb_ct b.testBit n) with l | l | l
        · refine ⟨(nI i, nI (kLd (yLd g) n i)), ?_, Or.inr ⟨i, by omega, rfl, rfl, v, new (Or.inl l)⟩⟩
          show fM_X8_plan_27 kk (nI want) x y (nI i) h = _
          rw [st]
          unfold fM_X8_plan_73
          rw [if_pos (pk_sneg (by omega) l), take]
        · have z : nI (fb_ct i.testBit n) - nI (fb_ct b.testBit n) = 0 := by rw [l, pk_sub (Nat.le_refl _), Nat.sub_self, nI_0]
          by_cases c4 : kLd (yLd g) n b ≤ kLd (yLd g) n i
          · refine ⟨(nI b, nI (kLd (yLd g) n b)), ?_, Or.inr ⟨b, by omega, rfl, rfl, b4, old (Or.inr ⟨l.symm, c4⟩)⟩⟩
            show fM_X8_plan_27 kk (nI want) x y (nI i) h = _
            rw [st]
            rw [b2, b3] at skip
            unfold fM_X8_plan_73
            rw [z, if_neg (by decide), if_pos rfl, if_pos (nI_le c4 (by omega)), skip]
          · refine ⟨(nI i, nI (kLd (yLd g) n i)), ?_, Or.inr ⟨i, by omega, rfl, rfl, v, new (Or.inr ⟨l, by omega⟩)⟩⟩
            show fM_X8_plan_27 kk (nI want) x y (nI i) h = _
            rw [st]
            unfold fM_X8_plan_73
            rw [z, if_neg (by decide), if_pos rfl, if_neg (nI_ge (by omega) (by omega)), take]
        · refine ⟨(nI b, nI (kLd (yLd g) n b)), ?_, Or.inr ⟨b, by omega, rfl, rfl, b4, old (Or.inl l)⟩⟩
          show fM_X8_plan_27 kk (nI want) x y (nI i) h = _
          rw [st]
          rw [b2, b3] at skip
          unfold fM_X8_plan_73
          rw [pk_sub (by omega), if_neg (nI_pos (by omega)), if_neg (nI_ne0 (by omega) (by omega)), skip]
    · have no : fM_X8_plan_27 kk (nI want) x y (nI i) h = kk (nI want, x, y, nI (i + 1), h) := by
        unfold fM_X8_plan_27
        rw [e2, if_neg stop]
        by_cases c1 : kSub n i r
        · have c3 : ¬ want ≤ kLd (yLd g) n i := fun q => v ⟨c1, q⟩
          rw [ml1 c1, z_bind_nd, if_neg (nI_ge (by omega) (by omega)), skip]
        · have c3 : ¬ nI want ≤ -1 := by
            rw [fa_le, nI_toInt (by omega), show (-1 : Int32).toInt = -1 from by decide]
            omega
          rw [ml2 c1, z_bind_nd, if_neg c3, skip]
      refine ⟨(x, y), no, ?_⟩
      rcases hp with ⟨ex, hp⟩ | ⟨b, b1, b2, b3, b4, b5⟩
      · refine Or.inl ⟨ex, fun c hc hv => ?_⟩
        by_cases ec : c = i
        · rw [ec] at hv; exact v hv
        · exact hp c (by omega) hv
      · refine Or.inr ⟨b, by omega, b2, b3, b4, fun c hc hv => ?_⟩
        by_cases ec : c = i
        · rw [ec] at hv; exact absurd hv v
        · exact b5 c (by omega) hv
  · show fM_X8_plan_27 kk (nI want) u.1 u.2 (nI (2 ^ n)) h = _
    unfold fM_X8_plan_27
    rw [e2, zb_shl (by omega), if_pos (nI_le (Nat.le_refl _) (by omega))]
theorem sim_plan : z_sim1 rel fY_X7_plan fM_X8_plan := by
  intro a0 g h hr
  have hr0 := rel_thrown hr 0
  have e0 : fM_X8_plan a0 h = fM_X8_plan a0 (z_up h 0 0 0) := by unfold fM_X8_plan; rw [z_let_eq, z_let_eq, z_reset]
  rw [e0]
  have z0 := z_reset (h := h)
  revert hr0 z0
  generalize z_up h 0 0 0 = h0
  intro hr0 z0
  by_cases c : a0 < 1 ∨ 20000 < a0
  · refine ⟨-1, g, h0, ?_, ?_, hr0⟩
    · unfold fY_X7_plan fY_X7_plan_12
      by_cases c1 : a0 < 1
      · rw [if_pos c1]
      · rw [if_neg c1, if_neg (zn_nle.mpr (c.resolve_left c1))]
    · unfold fM_X8_plan
      rw [z_let_eq, z0, m_in_1_20000, z_bind_nd, if_pos c, if_pos rfl]
  · have c1 : ¬ a0 < 1 := fun q => c (Or.inl q)
    have c2 : a0 ≤ 20000 := zn_nlt.mp (fun q => c (Or.inr q))
    obtain ⟨want, hwant, ew⟩ := nI_of2 (M := 20000) (n := 20000) (x := a0) (by decide) (fun q => c1 (by rw [fa_lt] at q ⊢; rw [show (0 : Int32).toInt = 0 from by decide] at q; rw [show (1 : Int32).toInt = 1 from by decide]; omega)) c2
    have h1 : 1 ≤ want := by
      rcases Nat.eq_zero_or_pos want with z | z
      · rw [ew, z] at c1
        exact absurd (by decide) c1
      · exact z
    obtain ⟨n, hw, e2, hh⟩ := kWood_of hr0.2.1
    obtain ⟨r, r1, r2, r3⟩ := y_ripe hw
    have hrr : ∀ j, j < n → r.testBit j = kRipe g j := fun j hj => by rw [r2 j, decide_eq_true hj, Bool.true_and]
    have hm := m_plan hw e2 hh hrr h1 hwant
    have k0 : kLd (yLd g) n 0 = 0 := by
      unfold kLd
      have e : (fun j => if (0 : Nat).testBit j = true then yLd g j else 0) = fun _ => 0 := by
        funext j
        rw [Nat.zero_testBit]
        rfl
      rw [e, fb_sm_const, Nat.mul_zero]
    have c00 : fb_ct (0 : Nat).testBit n = 0 := fb_ct_zero.mpr (fun k _ => Nat.zero_testBit k)
    have hf := y_few hw r1 hwant n 1 z_fuel 0 r (by omega) (z_fuel_big (by have := hw.1; omega)) Nat.one_le_two_pow (fun j _ q => by rw [Nat.zero_testBit] at q; exact absurd q (by decide)) (by rw [c00]) (by rw [k0]; omega) ⟨1000, fun j _ q => by rw [Nat.zero_testBit] at q; exact absurd q (by decide), fun j hj _ _ => (hw.2.2 j hj).1.2.2⟩ r1 (fun j => by rw [Nat.zero_testBit]; cases r.testBit j <;> rfl)
    rw [k0, nI_0] at hf
    have yp : fY_X7_plan a0 g = z_bind (fY_X6_choose (nI want) g) (fun r3 g4 => some (r3, g4)) := by
      unfold fY_X7_plan
      rw [if_neg c1, if_pos c2, ew]
    have mp : fM_X8_plan a0 h0 = fM_X8_plan_27_go (nI want) (-3) 0 0 h0 := by
      unfold fM_X8_plan
      rw [z_let_eq, z0, m_in_1_20000, z_bind_nd, if_neg c, if_neg (by decide), ew]
    rcases hf with ⟨f1, f2⟩ | ⟨k, k1, f1, f2, f3⟩
    · have f1' : fY_X6_fewestOf (nI r) (nI want) g = some (-1, g) := f1
      refine ⟨-3, g, h0, ?_, ?_, hr0⟩
      · rw [yp]
        unfold fY_X6_choose fY_X6_choose_29
        rw [r3, z_bind_nd, f1', z_bind_nd, if_pos rfl, z_bind_nd]
      · rcases hm with ⟨m1, -⟩ | ⟨b, b1, -, b3, -⟩
        · rw [mp, m1]
        · have := f2 b b3.1
          omega
    · have f1' : fY_X6_fewestOf (nI r) (nI want) g = some (nI k, g) := f1
      obtain ⟨b, l1, l2⟩ := y_leastOf hw r1 hwant h1 k1 f2
      have kn : ¬ nI k = -1 := by
        intro q
        have : (nI k).toInt = (-1 : Int32).toInt := by rw [q]
        have := hw.1
        rw [nI_toInt (by omega), show (-1 : Int32).toInt = -1 from by decide] at *
        omega
      refine ⟨nI b, g, h0, ?_, ?_, hr0⟩
      · rw [yp]
        unfold fY_X6_choose fY_X6_choose_29
        rw [r3, z_bind_nd, f1', z_bind_nd, if_neg kn, l1, z_bind_nd, z_bind_nd]
      · obtain ⟨B, B1, B2, B3, B4⟩ := f2
        rcases hm with ⟨-, m2⟩ | ⟨b2, b1, b3, b4, b5⟩
        · exact absurd ⟨B2, B4⟩ (m2 B B1)
        · have ck : fb_ct b2.testBit n = k := by
            have g1 : ¬ fb_ct b2.testBit n < k := fun q => by
              have := f3 b2 b4.1 q
              omega
            rcases b5 B B1 ⟨B2, B4⟩ with l | l
            · omega
            · omega
          have bs : kBest (fun B => kSub n B r ∧ fb_ct B.testBit n = k ∧ want ≤ kLd (yLd g) n B) (kLd (yLd g) n) (2 ^ n) b2 := by
            refine ⟨b1, ⟨b4.1, ck, b4.2⟩, fun c hc hv => ?_⟩
            rcases b5 c hc ⟨hv.1, hv.2.2⟩ with l | ⟨-, l2, l3⟩
            · have := hv.2.1
              omega
            · exact ⟨l2, l3⟩
          rw [mp, b3, kBest_one l2 bs]
