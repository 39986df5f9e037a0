/-! the tape -/
def rTape (g h : z_G) : Prop := ∃ n : Nat, n ≤ 100 ∧ g 4 0 = nI n ∧ h 0 41 = nI n ∧ ∀ j, j < n → g 35 j = h 30 j ∧ ∃ b : Nat, b < 256 ∧ g 35 j = nI b
theorem rTape_cg {g h g' h' : z_G} (hr : rTape g h) (e1 : g' 4 0 = g 4 0) (e2 : g' 35 = g 35) (e3 : h' 0 41 = h 0 41) (e4 : h' 30 = h 30) : rTape g' h' := by
  unfold rTape
  rw [e1, e2, e3, e4]
  exact hr
theorem t_end {a0 : Int32} {g h : z_G} (hr : rTape g h) : ∃ (r : Int32) (g' h' : z_G), fY_X7_end a0 g = some (r, g') ∧ fM_X8_end a0 h = some (r, h') ∧ rTape g' h' := by
  have hr0 : rTape g (z_up h 0 0 0) := rTape_cg hr rfl rfl (by simp [z_up_at]) (by simp [z_up_row])
  obtain ⟨n, hn, e1, e2, hj⟩ := id hr
  have f2 : z_up h 0 0 0 0 41 = nI n := by rw [z_up_at]; simp [e2]
  unfold fY_X7_end fY_X7_end_15 fM_X8_end
  simp only [z_let_eq, m_in_0, z_bind_some, e1, f2]
  by_cases c1 : a0 < 0
  · exact ⟨0, g, _, by simp [c1, z_bo_0], by simp [c1, z_bo_0], hr0⟩
  by_cases c2 : nI n < a0
  · have c3 : ¬ a0 ≤ nI n := zn_nle.mpr c2
    exact ⟨0, g, _, by simp [c1, c3, z_bo_0], by simp [c2, z_bo_0], hr0⟩
  have c3 : a0 ≤ nI n := zn_nlt.mp c2
  obtain ⟨k, hk, e⟩ := nI_of (x := a0) c1
  have hkn : k ≤ n := by rw [e] at c3; exact (nI_leI hk (by omega)).mp c3
  refine ⟨1, z_up g 4 0 a0, z_up (z_up h 0 0 0) 0 41 a0, by simp [c1, c3, z_bo_1], by simp [c1, c2, z_bo_1], k, by omega, by rw [z_up_same, e], by rw [z_up_same, e], fun j hjk => ?_⟩
  have := hj j (by omega)
  simp [z_up_at]
  simpa using this
theorem zn_byte (x : Int32) : ∃ b : Nat, b < 256 ∧ x &&& 255 = nI b := pk_andE x 8 (by decide)
/-- eight bits out of a number, by either shift -/
theorem zn_sh (v s t : Int32) (k : Nat) (hk : k = 0 ∨ k = 8 ∨ k = 16 ∨ k = 24) (h1 : ((s.toUInt32 &&& Int32.toUInt32 31).toBitVec % 32).toNat = k) (h2 : (t.toBitVec.smod 32).toNat = k) : (v.toUInt32 >>> (s.toUInt32 &&& Int32.toUInt32 31)).toInt32 &&& 255 = (v >>> t) &&& 255 := by
  rw [pk_and _ 8 (by decide), pk_and _ 8 (by decide), pk_ushr v s k h1]
  have e2 := pk_shr v t k h2
  have b1 : v.toInt = v.toBitVec.toInt := rfl
  have b2 : (v >>> t).toInt = (v >>> t).toBitVec.toInt := rfl
  rw [b1, b2, BitVec.toInt_eq_toNat_cond, BitVec.toInt_eq_toNat_cond, Int.shiftRight_eq_div_pow] at e2
  have l1 : v.toBitVec.toNat < 2 ^ 32 := v.toBitVec.isLt
  have l2 : (v >>> t).toBitVec.toNat < 2 ^ 32 := (v >>> t).toBitVec.isLt
  congr 1
  generalize v.toBitVec.toNat = p at *
  generalize (v >>> t).toBitVec.toNat = q at *
  rcases hk with rfl | rfl | rfl | rfl <;> (split at e2 <;> split at e2 <;> omega)
def kSh (j : Nat) : Int32 := if j = 0 then 24 else if j = 1 then 16 else if j = 2 then 8 else if j = 3 then 0 else -8
def kByte (v : Int32) (j : Nat) : Int32 := (v.toUInt32 >>> ((kSh j).toUInt32 &&& Int32.toUInt32 31)).toInt32 &&& 255
def bY_sign (v : Int32) (n j : Nat) (g : z_G) : z_G := z_up (z_up g 35 (n + j) (kByte v j)) 4 0 (nI (n + j + 1))
def bM_sign (v : Int32) (n j : Nat) (h : z_G) : z_G := z_up h 30 (n + j) (kByte v j)
theorem y_sign {v : Int32} {g : z_G} {n : Nat} (hn : n ≤ 96) (e : g 4 0 = nI n) : fY_X5_addFour_16_go v 24 g = some (nI (n + 4), z_iter (bY_sign v n) 0 4 g) := by
  unfold fY_X5_addFour_16_go
  have h4 : z_iter (bY_sign v n) 0 4 g 4 0 = nI (n + 4) := by
    simp [z_iter, bY_sign, z_up_at]
  have key := z_for (step := fun k (w : Int32 × Int32 × z_G) => fY_X5_addFour_16 k w.1 w.2.1 w.2.2) (fun j g => (v, kSh j, g)) (bY_sign v n) (fun g => some (g 4 0, g)) 4 (fun j g => g 4 0 = nI (n + j)) (fun k j s hj hi => ?_) (fun k s hi => ?_) 4 z_fuel 0 g (by omega) (by unfold z_fuel; omega) e
  · rw [← h4]; exact key
  · have d3 : vp_in (nI (n + j)) 100 := vp_in_nI (by omega) (by omega)
    have d4 : (nI (n + j)).toNatClampNeg = n + j := nI_clamp (by omega)
    have d5 : ¬ kSh j < 0 ∧ kSh j + (-8) = kSh (j + 1) := by
      match j, hj with
      | 0, _ => decide
      | 1, _ => decide
      | 2, _ => decide
      | 3, _ => decide
      | j + 4, h => exact absurd h (by omega)
    refine ⟨?_, ?_⟩
    · simp [fY_X5_addFour_16, hi, d3, d4, d5.1, d5.2, z_ck_in, z_let_eq, bY_sign, kByte, z_up_at, nI_1]
    · simp [bY_sign, z_up_at, Nat.add_assoc]
  · simp [fY_X5_addFour_16, show kSh 4 < 0 from by decide]
theorem m_sign {v : Int32} {h : z_G} {n : Nat} (hn : n ≤ 96) (e : h 0 41 = nI n) : fM_X8_sign_18_go v 0 h = some (nI (n + 4), z_up (z_iter (bM_sign v n) 0 4 h) 0 41 (nI (n + 4))) := by
  unfold fM_X8_sign_18_go
  have h4 : z_iter (bM_sign v n) 0 4 h 0 41 = nI n := by
    simp [z_iter, bM_sign, z_up_at, e]
  have key := z_for (step := fun k (w : Int32 × Int32 × z_G) => fM_X8_sign_18 k w.1 w.2.1 w.2.2) (fun j g => (v, nI j, g)) (bM_sign v n) (fun g => some (nI (n + 4), z_up g 0 41 (nI (n + 4)))) 4 (fun _ g => g 0 41 = nI n) (fun k j s hj hi => ?_) (fun k s hi => ?_) 4 z_fuel 0 h (by omega) (by unfold z_fuel; omega) e
  · exact key
  · have d3 : vp_in (nI (n + j)) 100 := vp_in_nI (by omega) (by omega)
    have d4 : (nI (n + j)).toNatClampNeg = n + j := nI_clamp (by omega)
    have d5 : ¬ (4 : Int32) ≤ nI j := by
      match j, hj with
      | 0, _ => decide
      | 1, _ => decide
      | 2, _ => decide
      | 3, _ => decide
      | j + 4, h => exact absurd h (by omega)
    have d6 : (v >>> ((24 - (8 * nI j)) &&& 31)) &&& 255 = kByte v j := by
      unfold kByte
      match j, hj with
      | 0, _ => exact (zn_sh v 24 _ 24 (by decide) (by decide) (by decide)).symm
      | 1, _ => exact (zn_sh v 16 _ 16 (by decide) (by decide) (by decide)).symm
      | 2, _ => exact (zn_sh v 8 _ 8 (by decide) (by decide) (by decide)).symm
      | 3, _ => exact (zn_sh v 0 _ 0 (by decide) (by decide) (by decide)).symm
      | j + 4, h => exact absurd h (by omega)
    refine ⟨?_, ?_⟩
    · simp [fM_X8_sign_18, hi, d3, d4, d5, d6, z_ck_in, z_let_eq, bM_sign, nI_add, nI_1]
    · simp [bM_sign, z_up_at, hi]
  · have d5 : (4 : Int32) ≤ nI 4 := by decide
    have d6 : nI n + 4 = nI (n + 4) := by rw [show (4 : Int32) = nI 4 from rfl, nI_add]
    simp [fM_X8_sign_18, hi, d5, d6, z_let_eq, z_up_at]
theorem t_sign {a0 : Int32} {g h : z_G} (hr : rTape g h) : ∃ (r : Int32) (g' h' : z_G), fY_X7_sign a0 g = some (r, g') ∧ fM_X8_sign a0 h = some (r, h') ∧ rTape g' h' := by
  have hr0 : rTape g (z_up h 0 0 0) := rTape_cg hr rfl rfl (by simp [z_up_at]) (by simp [z_up_row])
  obtain ⟨n, hn, e1, e2, hj⟩ := id hr
  have f2 : z_up h 0 0 0 0 41 = nI n := by rw [z_up_at]; simp [e2]
  have f3 : nI n + 4 = nI (n + 4) := by rw [show (4 : Int32) = nI 4 from rfl, nI_add]
  unfold fY_X7_sign fY_X5_addFour fM_X8_sign
  simp only [z_let_eq, e1, f2, f3]
  by_cases c : n ≤ 96
  · have c1 : nI (n + 4) ≤ 100 := nI_le (a := n + 4) (b := 100) (by omega) (by omega)
    have c2 : nI n ≤ 96 := nI_le (a := n) (b := 96) (by omega) (by omega)
    refine ⟨nI (n + 4), z_iter (bY_sign a0 n) 0 4 g, z_up (z_iter (bM_sign a0 n) 0 4 (z_up h 0 0 0)) 0 41 (nI (n + 4)), ?_, ?_, n + 4, by omega, ?_, by rw [z_up_same], fun j hj9 => ?_⟩
    · simp [c1, y_sign c e1, z_bind_some]
    · simp [c2, m_sign c f2]
    · simp [z_iter, bY_sign, z_up_at]
    · by_cases c5 : j < n
      · have := hj j c5
        have k0 : j ≠ n := by omega
        have k1 : j ≠ n + 1 := by omega
        have k2 : j ≠ n + 2 := by omega
        have k3 : j ≠ n + 3 := by omega
        simp [z_iter, bY_sign, bM_sign, z_up_at, k0, k1, k2, k3]
        simpa using this
      · have c6 : j = n ∨ j = n + 1 ∨ j = n + 2 ∨ j = n + 3 := by omega
        rcases c6 with rfl | rfl | rfl | rfl <;> (simp [z_iter, bY_sign, bM_sign, z_up_at]; exact zn_byte _)
  · have c1 : ¬ nI (n + 4) ≤ 100 := nI_ge (a := 100) (b := n + 4) (by omega) (by omega)
    have c2 : ¬ nI n ≤ 96 := nI_ge (a := 96) (b := n) (by omega) (by omega)
    exact ⟨-1, g, _, by simp [c1, z_bind_some], by simp [c2], hr0⟩
