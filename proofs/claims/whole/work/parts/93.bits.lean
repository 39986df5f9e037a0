/-! sets of woods as bits; loads of a set; the greedy count -/
def kBc (a : Int32) : Int32 := match fY_J6_bitCount_0f7a4 a (fun _ _ => 0) with
  | some (x, _) => x
  | none => 0
theorem y_bcE (a : Int32) (g : z_G) : fY_J6_bitCount_0f7a4 a g = some (kBc a, g) := rfl
theorem m_bcE (a : Int32) (g : z_G) : fM_J6_bitCount_0f7a4 a g = some (kBc a, g) := rfl
theorem kBc_F : ∀ x y : Fin 64, kBc (nI (64 * x.val + y.val)) = nI (fb_ct (64 * x.val + y.val).testBit 12) := by decide +kernel
theorem kBc_n {b : Nat} (hb : b < 4096) : kBc (nI b) = nI (fb_ct b.testBit 12) := by
  have := kBc_F ⟨b / 64, by omega⟩ ⟨b % 64, by omega⟩
  simp only at this
  rw [show 64 * (b / 64) + b % 64 = b by omega] at this
  exact this
theorem zs_l : ∀ n, n < 32 → ((nI n &&& 31).toBitVec.smod 32).toNat = n := by decide +kernel
theorem zb_shl {j : Nat} (hj : j < 31) : (1 : Int32) <<< (nI j &&& 31) = nI (2 ^ j) := by
  have := pk_shlN (n := 1) (nI j &&& 31) j (zs_l j (by omega)) (by rw [Nat.one_mul]; exact Nat.pow_lt_pow_right (by omega) (by omega))
  rw [Nat.one_mul] at this
  exact this
theorem zb_bit {b j : Nat} (hb : b < 2 ^ 31) (hj : j < 31) : ((nI b >>> (nI j &&& 31)) &&& 1 = 1) ↔ b.testBit j = true := by
  rw [pk_shrN hb (nI j &&& 31) j (zs_l j (by omega)), show (1 : Int32) = nI (2 ^ 1 - 1) from rfl, fa_mask, nI_eq (by omega) (by omega), Nat.testBit_eq_decide_div_mod_eq, decide_eq_true_iff]
theorem zb_lt {b n : Nat} (h : b < 2 ^ n) (hn : n ≤ 12) : b < 4096 := Nat.lt_of_lt_of_le h (Nat.pow_le_pow_right (by omega) hn : 2 ^ n ≤ 2 ^ 12)
theorem zb_high {b n i : Nat} (h : b < 2 ^ n) (hi : n ≤ i) : b.testBit i = false := Nat.testBit_lt_two_pow (Nat.lt_of_lt_of_le h (Nat.pow_le_pow_right (by omega) hi))
theorem zb_ct {b n : Nat} (h : b < 2 ^ n) (hn : n ≤ 12) : fb_ct b.testBit 12 = fb_ct b.testBit n := by
  have := fb_ct_split b.testBit n (12 - n)
  rw [show n + (12 - n) = 12 by omega] at this
  have z : fb_ct (fun k => b.testBit (n + k)) (12 - n) = 0 := fb_ct_zero.mpr (fun k _ => zb_high h (by omega))
  rw [this, z, Nat.add_zero]
theorem zb_not (b r : Nat) : nI b &&& (nI r ^^^ (-1)) = nI (b &&& (r ^^^ (2 ^ 32 - 1))) := by
  rw [show (-1 : Int32) = nI (2 ^ 32 - 1) from by decide, fb_xorI, fa_and]
theorem zb_notbit {b r i : Nat} (hb : b < 4096) (hr : r < 4096) : (b &&& (r ^^^ (2 ^ 32 - 1))).testBit i = (b.testBit i && !r.testBit i) := by
  rw [Nat.testBit_and, Nat.testBit_xor, Nat.testBit_two_pow_sub_one]
  by_cases h : i < 32
  · rw [decide_eq_true h]
    cases b.testBit i <;> cases r.testBit i <;> rfl
  · rw [zb_high (show b < 2 ^ 12 from hb) (show 12 ≤ i by omega)]
    rfl
def kLd (L : Nat → Nat) (n b : Nat) : Nat := fb_sm (fun j => if b.testBit j then L j else 0) n
def kSub (n b r : Nat) : Prop := ∀ j, j < n → b.testBit j = true → r.testBit j = true
theorem kLd_le {L : Nat → Nat} {n : Nat} (hL : ∀ j, j < n → L j ≤ 1000) (hn : n ≤ 12) (b : Nat) : kLd L n b ≤ 12000 := by
  have : kLd L n b ≤ n * 1000 := fb_sm_bound (fun k hk => by
    by_cases c : b.testBit k = true
    · rw [if_pos c]; exact hL k hk
    · rw [if_neg c]; omega)
  omega
theorem kLd_ct (m : Nat) (p : Nat → Bool) : ∀ n, fb_sm (fun j => if p j then m else 0) n = m * fb_ct p n
  | 0 => rfl
  | n + 1 => by
    rw [fb_sm_succ, fb_ct_succ, kLd_ct m p n, Nat.mul_add]
    cases p n <;> simp
theorem k_exch {L : Nat → Nat} {n m B T r : Nat} (hB : kSub n B r) (h1 : ∀ j, j < n → T.testBit j = true → m ≤ L j) (h2 : ∀ j, j < n → r.testBit j = true → T.testBit j = false → L j ≤ m) (hc : fb_ct B.testBit n ≤ fb_ct T.testBit n) : kLd L n B ≤ kLd L n T := by
  have s : fb_sm (fun j => (if B.testBit j then L j else 0) + (if T.testBit j then m else 0)) n ≤ fb_sm (fun j => (if T.testBit j then L j else 0) + (if B.testBit j then m else 0)) n := by
    refine fb_sm_le (fun j hj => ?_)
    by_cases cb : B.testBit j = true
    · by_cases ct : T.testBit j = true
      · rw [if_pos cb, if_pos ct, if_pos cb, if_pos ct]
        omega
      · rw [if_pos cb, if_neg ct, if_neg ct, if_pos cb]
        have := h2 j hj (hB j hj cb) (by simpa using ct)
        omega
    · by_cases ct : T.testBit j = true
      · rw [if_neg cb, if_pos ct, if_pos ct, if_neg cb]
        have := h1 j hj ct
        omega
      · rw [if_neg cb, if_neg ct, if_neg cb, if_neg ct]
        omega
  rw [fb_sm_add, fb_sm_add, kLd_ct, kLd_ct] at s
  have := Nat.mul_le_mul_left m hc
  unfold kLd
  omega
theorem zb_add {T w n : Nat} (hw : w < n) (hT : T.testBit w = false) (L : Nat → Nat) : kLd L n (T ||| 2 ^ w) = kLd L n T + L w ∧ fb_ct (T ||| 2 ^ w).testBit n = fb_ct T.testBit n + 1 := by
  constructor
  · have e : (fun j => if (T ||| 2 ^ w).testBit j then L j else 0) = fun k => if k = w then L w else (if T.testBit k then L k else 0) := by
      funext j
      rw [fb_bit_set]
      by_cases c : j = w
      · subst c; simp
      · simp [c]
    have := fb_sm_upd (fun k => if T.testBit k then L k else 0) (L w) hw
    unfold kLd
    rw [e]
    simp only [hT] at this
    simpa using this
  · have e : (T ||| 2 ^ w).testBit = fun k => if k = w then true else T.testBit k := by
      funext j
      rw [fb_bit_set]
      by_cases c : j = w
      · subst c; simp
      · simp [c]
    have := fb_ct_upd T.testBit true hw
    rw [e]
    simpa [hT] using this
/-! the yard's woods, as numbers -/
def yLd (g : z_G) (j : Nat) : Nat := (g 46 j).toNatClampNeg
def kWood (g : z_G) (n : Nat) : Prop := n ≤ 12 ∧ g 7 0 = nI n ∧ ∀ j, j < n → (g 46 j = nI (yLd g j) ∧ 1 ≤ yLd g j ∧ yLd g j ≤ 1000) ∧ 0 ≤ (g 44 j).toInt ∧ (g 44 j).toInt ≤ 10000 ∧ 1 ≤ (g 45 j).toInt ∧ (g 45 j).toInt ≤ 100
theorem kWood_of {g h : z_G} (hr : rWood g h) : ∃ n, kWood g n ∧ h 0 52 = nI n ∧ ∀ j, j < n → h 38 j = g 44 j ∧ h 39 j = g 45 j ∧ h 40 j = nI (yLd g j) := by
  obtain ⟨n, hn, e1, e2, hj⟩ := hr
  have l : ∀ j, j < n → g 46 j = nI (yLd g j) ∧ 1 ≤ yLd g j ∧ yLd g j ≤ 1000 := fun j hjn => by
    obtain ⟨-, -, -, -, -, -, -, q8, q9⟩ := hj j hjn
    obtain ⟨l, hl, el⟩ := nI_of (x := g 46 j) (by rw [fa_lt, show (0 : Int32).toInt = 0 from by decide]; omega)
    have e : yLd g j = l := by unfold yLd; rw [el, nI_clamp hl]
    rw [el, nI_toInt hl] at q8 q9
    rw [e]
    exact ⟨el, by omega, by omega⟩
  refine ⟨n, ⟨hn, e1, fun j hjn => ?_⟩, e2, fun j hjn => ?_⟩
  · obtain ⟨-, -, -, q4, q5, q6, q7, -⟩ := hj j hjn
    exact ⟨l j hjn, q4, q5, q6, q7⟩
  · obtain ⟨q1, q2, q3, -⟩ := hj j hjn
    exact ⟨q1.symm, q2.symm, by rw [← q3]; exact (l j hjn).1⟩
def kRipe (g : z_G) (j : Nat) : Bool := decide (g 45 j ≤ g 44 j)
theorem y_ripe {g : z_G} {n : Nat} (hw : kWood g n) : ∃ r : Nat, r < 2 ^ n ∧ (∀ i, r.testBit i = (decide (i < n) && kRipe g i)) ∧ fY_X6_ripeOnes g = some (nI r, g) := by
  obtain ⟨hn, e1, hj⟩ := hw
  unfold fY_X6_ripeOnes fY_X6_ripeOnes_4_go
  have key := z_pfor (σ := Nat) (step := fun k (w : Int32 × Int32 × z_G) => fY_X6_ripeOnes_4 k w.1 w.2.1 w.2.2) (fun j r => (nI r, nI j, g)) (fun r => some (nI r, g)) n (z_fuel_big (by omega)) (fun j r => r < 2 ^ j ∧ ∀ i, r.testBit i = (decide (i < j) && kRipe g i)) (fun k j r hjn hp => ?_) (fun k r hp => ?_) 0 ⟨by decide, fun i => by simp⟩
  · obtain ⟨r, u1, u2, u3⟩ := key
    exact ⟨r, u2, u3, u1⟩
  · obtain ⟨p1, p2⟩ := hp
    have d3 : vp_in (nI j) 12 := vp_in_nI (by omega) (by omega)
    have d4 : (nI j).toNatClampNeg = j := nI_clamp (by omega)
    obtain ⟨-, q4, q5, q6, q7⟩ := hj j hjn
    have kk := zn_subs (x := g 45 j) (y := g 44 j) (by omega) (by omega) (by omega) (by omega)
    have yl : fY_X6_yearsLeft (nI j) g = some (if 0 < g 45 j - g 44 j then g 45 j - g 44 j else 0, g) := by
      unfold fY_X6_yearsLeft
      rw [z_ck_in _ d3, z_ck_in _ d3, d4, z_let_eq]
    by_cases c : g 45 j ≤ g 44 j
    · have c3 : ¬ (0 : Int32) < g 45 j - g 44 j := fun c9 => (kk.mp c9) c
      refine ⟨r ||| 2 ^ j, ?_, ?_, fun i => ?_⟩
      · show fY_X6_ripeOnes_4 k (nI r) (nI j) g = k (nI (r ||| 2 ^ j), nI (j + 1), g)
        unfold fY_X6_ripeOnes_4 fY_X6_ripeOnes_26
        rw [e1, if_neg (zn_stop (by omega) hjn), yl, z_bind_nd, if_neg c3, if_pos rfl, zb_shl (by omega), fa_or, z_let_eq, z_let_eq, nI_1]
      · exact Nat.or_lt_two_pow (Nat.lt_of_lt_of_le p1 (Nat.pow_le_pow_right (by omega) (by omega))) (Nat.pow_lt_pow_right (by omega) (by omega))
      · rw [fb_bit_set, p2 i]
        by_cases e : i = j
        · subst e
          simp [kRipe, c]
        · have : decide (i < j + 1) = decide (i < j) := decide_eq_decide.mpr (by omega)
          rw [this, decide_eq_false e, Bool.or_false]
    · have c3 : (0 : Int32) < g 45 j - g 44 j := kk.mpr c
      have c4 : ¬ g 45 j - g 44 j = 0 := fun e => by rw [e] at c3; exact absurd c3 (by decide)
      refine ⟨r, ?_, ?_, fun i => ?_⟩
      · show fY_X6_ripeOnes_4 k (nI r) (nI j) g = k (nI r, nI (j + 1), g)
        unfold fY_X6_ripeOnes_4 fY_X6_ripeOnes_26
        rw [e1, if_neg (zn_stop (by omega) hjn), yl, z_bind_nd, if_pos c3, if_neg c4, z_let_eq, nI_1]
      · exact Nat.lt_of_lt_of_le p1 (Nat.pow_le_pow_right (by omega) (by omega))
      · rw [p2 i]
        by_cases e : i = j
        · subst e
          simp [kRipe, c]
        · have : decide (i < j + 1) = decide (i < j) := decide_eq_decide.mpr (by omega)
          rw [this]
  · show fY_X6_ripeOnes_4 k (nI r) (nI n) g = _
    unfold fY_X6_ripeOnes_4
    rw [e1, if_pos (nI_le (Nat.le_refl n) (by omega))]
theorem y_loads {g : z_G} {n : Nat} (hw : kWood g n) {b : Nat} (hb : b < 4096) : fY_X6_loadsOf (nI b) g = some (nI (kLd (yLd g) n b), g) := by
  obtain ⟨hn, e1, hj⟩ := hw
  unfold fY_X6_loadsOf fY_X6_loadsOf_4_go
  have key := z_pfor (σ := Nat) (step := fun k (w : Int32 × Int32 × Int32 × z_G) => fY_X6_loadsOf_4 k w.1 w.2.1 w.2.2.1 w.2.2.2) (fun j x => (nI b, nI x, nI j, g)) (fun x => some (nI x, g)) n (z_fuel_big (by omega)) (fun j x => x = fb_sm (fun j => if b.testBit j then yLd g j else 0) j) (fun k j x hjn hp => ⟨fb_sm (fun j => if b.testBit j then yLd g j else 0) (j + 1), ?_, rfl⟩) (fun k x hp => ?_) 0 rfl
  · obtain ⟨x, u1, u2⟩ := key
    rw [u2] at u1
    exact u1
  · have d3 : vp_in (nI j) 12 := vp_in_nI (by omega) (by omega)
    have d4 : (nI j).toNatClampNeg = j := nI_clamp (by omega)
    show fY_X6_loadsOf_4 k (nI b) (nI x) (nI j) g = k (nI b, nI (fb_sm _ (j + 1)), nI (j + 1), g)
    unfold fY_X6_loadsOf_4 fY_X6_loadsOf_30
    rw [e1, if_neg (zn_stop (by omega) hjn), fb_sm_succ, ← hp]
    by_cases c : b.testBit j = true
    · rw [if_pos ((zb_bit (by omega) (by omega)).mpr c), if_pos c, z_ck_in _ d3, d4, z_let_eq, z_let_eq, nI_1, (hj j hjn).1.1, nI_add]
    · rw [if_neg (fun q => c ((zb_bit (by omega) (by omega)).mp q)), if_neg c, z_let_eq, nI_1]
      rfl
  · show fY_X6_loadsOf_4 k (nI b) (nI x) (nI n) g = _
    unfold fY_X6_loadsOf_4
    rw [e1, if_pos (nI_le (Nat.le_refl n) (by omega))]
theorem y_great {g : z_G} {n : Nat} (hw : kWood g n) {b : Nat} (hb : b < 2 ^ n) (h0 : ¬ b = 0) : ∃ w : Nat, w < n ∧ b.testBit w = true ∧ (∀ i, i < n → b.testBit i = true → yLd g i ≤ yLd g w) ∧ fY_X6_greatestOf (nI b) g = some (nI w, g) := by
  obtain ⟨hn, e1, hj⟩ := hw
  have hb2 := zb_lt hb hn
  unfold fY_X6_greatestOf fY_X6_greatestOf_7_go
  have key := z_pfor (σ := Nat × Nat) (step := fun k (w : Int32 × Int32 × Int32 × Int32 × z_G) => fY_X6_greatestOf_7 k w.1 w.2.1 w.2.2.1 w.2.2.2.1 w.2.2.2.2) (fun j u => (nI b, nI u.1, nI u.2, nI j, g)) (fun u => some (nI u.1, g)) n (z_fuel_big (by omega)) (fun j u => (u.1 = 0 ∧ u.2 = 0 ∧ ∀ i, i < j → b.testBit i = false) ∨ (u.1 < j ∧ b.testBit u.1 = true ∧ u.2 = yLd g u.1 ∧ ∀ i, i < j → b.testBit i = true → yLd g i ≤ u.2)) (fun k j u hjn hp => ?_) (fun k u hp => ?_) (0, 0) (Or.inl ⟨rfl, rfl, fun i hi => absurd hi (Nat.not_lt_zero i)⟩)
  · obtain ⟨⟨w, m⟩, u1, u2⟩ := key
    rcases u2 with ⟨-, -, u2⟩ | ⟨v1, v2, v3, v4⟩
    · refine absurd (Nat.eq_of_testBit_eq (fun i => ?_)) h0
      rw [Nat.zero_testBit]
      rcases Nat.lt_or_ge i n with l | l
      · exact u2 i l
      · exact zb_high hb l
    · simp only at v1 v2 v3 v4 u1
      exact ⟨w, v1, v2, fun i h1 h2 => by rw [← v3]; exact v4 i h1 h2, u1⟩
  · obtain ⟨w, m⟩ := u
    have d3 : vp_in (nI j) 12 := vp_in_nI (by omega) (by omega)
    have d4 : (nI j).toNatClampNeg = j := nI_clamp (by omega)
    obtain ⟨⟨l1, l2, l3⟩, -⟩ := hj j hjn
    have mb : m ≤ 1000 := by
      rcases hp with ⟨-, p2, -⟩ | ⟨p1, -, p3, -⟩
      · simp only at p2; omega
      · simp only at p1 p3
        have := (hj w (by omega)).1.2.2
        omega
    by_cases c : b.testBit j = true
    · by_cases c2 : yLd g j ≤ m
      · refine ⟨(w, m), ?_, ?_⟩
        · show fY_X6_greatestOf_7 k (nI b) (nI w) (nI m) (nI j) g = k (nI b, nI w, nI m, nI (j + 1), g)
          unfold fY_X6_greatestOf_7 fY_X6_greatestOf_48
          rw [e1, if_neg (zn_stop (by omega) hjn), if_pos ((zb_bit (by omega) (by omega)).mpr c), z_ck_in _ d3, d4, l1, if_pos (nI_le c2 (by omega)), z_let_eq, nI_1]
        · rcases hp with ⟨p1, p2, p3⟩ | ⟨p1, p2, p3, p4⟩
          · simp only at p2; omega
          · simp only at p1 p2 p3 p4
            refine Or.inr ⟨by simp only; omega, p2, p3, fun i hi hb9 => ?_⟩
            by_cases e : i = j
            · rw [e]; exact c2
            · exact p4 i (by omega) hb9
      · refine ⟨(j, yLd g j), ?_, Or.inr ⟨by simp only; omega, c, rfl, fun i hi hb9 => ?_⟩⟩
        · show fY_X6_greatestOf_7 k (nI b) (nI w) (nI m) (nI j) g = k (nI b, nI j, nI (yLd g j), nI (j + 1), g)
          unfold fY_X6_greatestOf_7 fY_X6_greatestOf_48
          rw [e1, if_neg (zn_stop (by omega) hjn), if_pos ((zb_bit (by omega) (by omega)).mpr c), z_ck_in _ d3, d4, l1, if_neg (nI_ge (by omega) (by omega)), z_ck_in _ d3, z_let_eq, z_let_eq, nI_1]
        · simp only
          by_cases e : i = j
          · rw [e]; omega
          · rcases hp with ⟨p1, p2, p3⟩ | ⟨p1, p2, p3, p4⟩
            · rw [p3 i (by omega)] at hb9
              exact absurd hb9 (by decide)
            · have := p4 i (by omega) hb9
              simp only at this
              omega
    · refine ⟨(w, m), ?_, ?_⟩
      · show fY_X6_greatestOf_7 k (nI b) (nI w) (nI m) (nI j) g = k (nI b, nI w, nI m, nI (j + 1), g)
        unfold fY_X6_greatestOf_7 fY_X6_greatestOf_48
        rw [e1, if_neg (zn_stop (by omega) hjn), if_neg (fun q => c ((zb_bit (by omega) (by omega)).mp q)), z_let_eq, nI_1]
      · rcases hp with ⟨p1, p2, p3⟩ | ⟨p1, p2, p3, p4⟩
        · refine Or.inl ⟨p1, p2, fun i hi => ?_⟩
          by_cases e : i = j
          · rw [e]; simpa using c
          · exact p3 i (by omega)
        · simp only at p1 p2 p3 p4
          refine Or.inr ⟨by simp only; omega, p2, p3, fun i hi hb9 => ?_⟩
          by_cases e : i = j
          · rw [e] at hb9; exact absurd hb9 c
          · exact p4 i (by omega) hb9
  · show fY_X6_greatestOf_7 k (nI b) (nI u.1) (nI u.2) (nI n) g = _
    unfold fY_X6_greatestOf_7
    rw [e1, if_pos (nI_le (Nat.le_refl n) (by omega))]
