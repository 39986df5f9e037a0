/-! signs of a tape, one by one; which of them stand in a text -/
def kIn (k m : Nat) (x : Int32) : Prop := ∃ i, i < m ∧ kSTR k i = x
theorem z_find {T : Nat → Int32} {m : Nat} (hm : m ≤ 10) {step : (Int32 × Int32 × Int32 × z_G → Option (Int32 × z_G)) → Int32 × Int32 × Int32 × z_G → Option (Int32 × z_G)} {x : Int32} {g : z_G} (hs : ∀ kk j, j ≤ m → step kk (nI m, x, nI j, g) = if m ≤ j then some (-1, g) else if T j = x then some (nI j, g) else kk (nI m, x, nI (j + 1), g)) : ∀ (d j fu : Nat), j + d = m → d < fu → ∃ y : Int32, z_loop step fu (nI m, x, nI j, g) = some (y, g) ∧ (y < 0 ↔ ¬ ∃ i, j ≤ i ∧ i < m ∧ T i = x)
  | _, _, 0, _, hf => absurd hf (Nat.not_lt_zero _)
  | 0, j, f + 1, e, _ => by
    refine ⟨-1, ?_, fun _ ⟨i, h1, h2, _⟩ => by omega, fun _ => by decide⟩
    show step (z_loop step f) (nI m, x, nI j, g) = _
    rw [hs _ j (by omega), if_pos (by omega)]
  | d + 1, j, f + 1, e, hf => by
    by_cases c : T j = x
    · refine ⟨nI j, ?_, fun q => absurd q (nI_pos (by omega)), fun q => absurd ⟨j, Nat.le_refl j, by omega, c⟩ q⟩
      show step (z_loop step f) (nI m, x, nI j, g) = _
      rw [hs _ j (by omega), if_neg (by omega), if_pos c]
    · obtain ⟨y, u, v⟩ := z_find hm hs d (j + 1) f (by omega) (by omega)
      refine ⟨y, ?_, v.trans ⟨fun q ⟨i, h1, h2, h3⟩ => q ⟨i, ?_, h2, h3⟩, fun q ⟨i, h1, h2, h3⟩ => q ⟨i, by omega, h2, h3⟩⟩⟩
      · show step (z_loop step f) (nI m, x, nI j, g) = _
        rw [hs _ j (by omega), if_neg (by omega), if_neg c, u]
      · by_cases e9 : i = j
        · rw [e9] at h3
          exact absurd h3 c
        · omega
theorem m_canEncode {b : Nat} (hb : b < 256) (g : z_G) : fS_J1_canEncode_9a6ad (nI b) g = some (1, g) := by
  unfold fS_J1_canEncode_9a6ad fS_J1_canEncode_9a6ad_16
  rw [if_neg (nI_pos (by omega)), if_neg (show ¬ (255 : Int32) < nI b from nI_nlt (a := 255) (by omega) (by omega)), z_bo_1]
theorem kIn_b0 : ∀ b : Fin 256, (∃ i, i < 10 ∧ kSTR 0 i = (nI b.val).toInt8.toInt32) ↔ (∃ i, i < 10 ∧ kSTR 0 i = nI b.val) := by decide +kernel
theorem kIn_m0 : ∀ i, i < 10 → ¬ kSTR 0 i = -1 := by decide +kernel
theorem m_index0 {b : Nat} (hb : b < 256) (g : z_G) : ∃ y : Int32, fS_J0_indexOf_0f7a4_S0 (nI b) g = some (y, g) ∧ (y < 0 ↔ ¬ kIn 0 10 (nI b)) := by
  obtain ⟨y, u, v⟩ := z_find (T := kSTR 0) (m := 10) (by omega) (step := fun k (w : Int32 × Int32 × Int32 × z_G) => fS_J1_indexOfChar_4cfef_B0_7 k w.1 w.2.1 w.2.2.1 w.2.2.2) (x := (nI b).toInt8.toInt32) (g := g) (fun kk j hj => by
    show fS_J1_indexOfChar_4cfef_B0_7 kk (nI 10) (nI b).toInt8.toInt32 (nI j) g = _
    unfold fS_J1_indexOfChar_4cfef_B0_7
    by_cases c : 10 ≤ j
    · rw [if_pos (nI_le c (by omega)), if_pos c]
    · rw [if_neg (nI_ge (by omega) (by omega)), if_neg c, z_ck_in _ (vp_in_nI (by omega) (by omega)), nI_clamp (by omega), z_let_eq, nI_1]) 10 0 z_fuel (by omega) (z_fuel_big (by omega))
  have ch : fS_J1_indexOfChar_4cfef_B0 (nI b) 0 10 g = some (y, g) := u
  have ix : fS_J1_indexOf_4cfef_B0 (nI b) 0 10 g = some (y, g) := by
    unfold fS_J1_indexOf_4cfef_B0
    rw [m_canEncode hb, z_bind_nd, if_neg (by decide), if_neg (by decide), z_let_eq, if_neg (by decide), z_let_eq, if_pos (by decide), ch, z_bind_nd]
  have ln : fS_J0_length_8abf5_S0 g = some (10, g) := by
    unfold fS_J0_length_8abf5_S0 fS_J0_coder_7d493_S0 fS_J0_coder_7d493_S0_14
    rw [if_neg (by decide), z_bo_0, z_bind_nd]
    rfl
  have la : fS_J0_isLatin1_aae02_S0 g = some (1, g) := by
    unfold fS_J0_isLatin1_aae02_S0 fS_J0_isLatin1_aae02_S0_18
    rw [if_neg (by decide), if_pos rfl, z_bo_1]
  refine ⟨y, ?_, v.trans (not_congr ⟨fun ⟨i, _, h2, h3⟩ => (kIn_b0 ⟨b, hb⟩).mp ⟨i, h2, h3⟩, fun q => by
    obtain ⟨i, h2, h3⟩ := (kIn_b0 ⟨b, hb⟩).mpr q
    exact ⟨i, by omega, h2, h3⟩⟩)⟩
  unfold fS_J0_indexOf_0f7a4_S0 fS_J0_indexOf_7cf53_S0 fS_J0_indexOf_7cf53_S0_36
  rw [la, z_bind_nd, if_neg (by decide), ln, z_bind_nd, ix, z_bind_nd, z_bind_nd]
/-- the reference's isSign for text 0; x is the sign at its place, -1 behind the last -/
theorem m_sg0 {h : z_G} {N p : Nat} (hN : N ≤ 40) (hp : p ≤ N) (e50 : h 0 50 = nI p) {x : Int32} (hx : x = if p < N then h 30 p else -1) (hb : p < N → ∃ b : Nat, b < 256 ∧ h 30 p = nI b) : (kIn 0 10 x → fS_X8_isSign_S0 (nI N) h = some (1, h)) ∧ (¬ kIn 0 10 x → fS_X8_isSign_S0 (nI N) h = some (0, h)) := by
  have d3 : vp_in (nI p) 100 := vp_in_nI (by omega) (by omega)
  have d4 : (nI p).toNatClampNeg = p := nI_clamp (by omega)
  unfold fS_X8_isSign_S0 fS_X8_isSign_S0_40 fS_X8_isSign_S0_41
  rw [e50]
  by_cases c : p < N
  · obtain ⟨b, b9, eb⟩ := hb c
    rw [if_pos c, eb] at hx
    obtain ⟨y, u, v⟩ := m_index0 b9 h
    rw [if_neg (nI_ge c (by omega)), z_ck_in _ d3, d4, eb, z_ck_in _ d3, u, z_bind_nd, hx]
    by_cases c0 : b = 0
    · have no : ¬ kIn 0 10 (nI b) := by
        rw [c0]
        rintro ⟨i, h1, h2⟩
        exact absurd h2 ((by decide +kernel : ∀ i, i < 10 → ¬ kSTR 0 i = nI 0) i h1)
      rw [if_pos (by rw [c0]; decide), z_bo_0]
      exact ⟨fun q => absurd q no, fun _ => rfl⟩
    · rw [if_neg (nI_nle (by omega) (by omega))]
      refine ⟨fun q => ?_, fun q => ?_⟩
      · rw [if_neg (fun q2 => (v.mp q2) q), z_bo_1]
      · rw [if_pos (v.mpr q), z_bo_0]
  · rw [if_pos (nI_le (by omega) (by omega)), z_bo_0]
    rw [if_neg c] at hx
    refine ⟨fun ⟨i, h1, h2⟩ => absurd (h2.trans hx) (kIn_m0 i h1), fun _ => rfl⟩
theorem kIn_b1 : ∀ b : Fin 256, (∃ i, i < 7 ∧ kSTR 1 i = (nI b.val).toInt8.toInt32) ↔ (∃ i, i < 7 ∧ kSTR 1 i = nI b.val) := by decide +kernel
theorem kIn_m1 : ∀ i, i < 7 → ¬ kSTR 1 i = -1 := by decide +kernel
theorem m_index1 {b : Nat} (hb : b < 256) (g : z_G) : ∃ y : Int32, fS_J0_indexOf_0f7a4_S1 (nI b) g = some (y, g) ∧ (y < 0 ↔ ¬ kIn 1 7 (nI b)) := by
  obtain ⟨y, u, v⟩ := z_find (T := kSTR 1) (m := 7) (by omega) (step := fun k (w : Int32 × Int32 × Int32 × z_G) => fS_J1_indexOfChar_4cfef_B1_7 k w.1 w.2.1 w.2.2.1 w.2.2.2) (x := (nI b).toInt8.toInt32) (g := g) (fun kk j hj => by
    show fS_J1_indexOfChar_4cfef_B1_7 kk (nI 7) (nI b).toInt8.toInt32 (nI j) g = _
    unfold fS_J1_indexOfChar_4cfef_B1_7
    by_cases c : 7 ≤ j
    · rw [if_pos (nI_le c (by omega)), if_pos c]
    · rw [if_neg (nI_ge (by omega) (by omega)), if_neg c, z_ck_in _ (vp_in_nI (by omega) (by omega)), nI_clamp (by omega), z_let_eq, nI_1]) 7 0 z_fuel (by omega) (z_fuel_big (by omega))
  have ch : fS_J1_indexOfChar_4cfef_B1 (nI b) 0 7 g = some (y, g) := u
  have ix : fS_J1_indexOf_4cfef_B1 (nI b) 0 7 g = some (y, g) := by
    unfold fS_J1_indexOf_4cfef_B1
    rw [m_canEncode hb, z_bind_nd, if_neg (by decide), if_neg (by decide), z_let_eq, if_neg (by decide), z_let_eq, if_pos (by decide), ch, z_bind_nd]
  have ln : fS_J0_length_8abf5_S1 g = some (7, g) := by
    unfold fS_J0_length_8abf5_S1 fS_J0_coder_7d493_S1 fS_J0_coder_7d493_S1_14
    rw [if_neg (by decide), z_bo_0, z_bind_nd]
    rfl
  have la : fS_J0_isLatin1_aae02_S1 g = some (1, g) := by
    unfold fS_J0_isLatin1_aae02_S1 fS_J0_isLatin1_aae02_S1_18
    rw [if_neg (by decide), if_pos rfl, z_bo_1]
  refine ⟨y, ?_, v.trans (not_congr ⟨fun ⟨i, _, h2, h3⟩ => (kIn_b1 ⟨b, hb⟩).mp ⟨i, h2, h3⟩, fun q => by
    obtain ⟨i, h2, h3⟩ := (kIn_b1 ⟨b, hb⟩).mpr q
    exact ⟨i, by omega, h2, h3⟩⟩)⟩
  unfold fS_J0_indexOf_0f7a4_S1 fS_J0_indexOf_7cf53_S1 fS_J0_indexOf_7cf53_S1_36
  rw [la, z_bind_nd, if_neg (by decide), ln, z_bind_nd, ix, z_bind_nd, z_bind_nd]
/-- the reference's isSign for text 1; x is the sign at its place, -1 behind the last -/
theorem m_sg1 {h : z_G} {N p : Nat} (hN : N ≤ 40) (hp : p ≤ N) (e50 : h 0 50 = nI p) {x : Int32} (hx : x = if p < N then h 30 p else -1) (hb : p < N → ∃ b : Nat, b < 256 ∧ h 30 p = nI b) : (kIn 1 7 x → fS_X8_isSign_S1 (nI N) h = some (1, h)) ∧ (¬ kIn 1 7 x → fS_X8_isSign_S1 (nI N) h = some (0, h)) := by
  have d3 : vp_in (nI p) 100 := vp_in_nI (by omega) (by omega)
  have d4 : (nI p).toNatClampNeg = p := nI_clamp (by omega)
  unfold fS_X8_isSign_S1 fS_X8_isSign_S1_40 fS_X8_isSign_S1_41
  rw [e50]
  by_cases c : p < N
  · obtain ⟨b, b9, eb⟩ := hb c
    rw [if_pos c, eb] at hx
    obtain ⟨y, u, v⟩ := m_index1 b9 h
    rw [if_neg (nI_ge c (by omega)), z_ck_in _ d3, d4, eb, z_ck_in _ d3, u, z_bind_nd, hx]
    by_cases c0 : b = 0
    · have no : ¬ kIn 1 7 (nI b) := by
        rw [c0]
        rintro ⟨i, h1, h2⟩
        exact absurd h2 ((by decide +kernel : ∀ i, i < 7 → ¬ kSTR 1 i = nI 0) i h1)
      rw [if_pos (by rw [c0]; decide), z_bo_0]
      exact ⟨fun q => absurd q no, fun _ => rfl⟩
    · rw [if_neg (nI_nle (by omega) (by omega))]
      refine ⟨fun q => ?_, fun q => ?_⟩
      · rw [if_neg (fun q2 => (v.mp q2) q), z_bo_1]
      · rw [if_pos (v.mpr q), z_bo_0]
  · rw [if_pos (nI_le (by omega) (by omega)), z_bo_0]
    rw [if_neg c] at hx
    refine ⟨fun ⟨i, h1, h2⟩ => absurd (h2.trans hx) (kIn_m1 i h1), fun _ => rfl⟩
theorem kIn_b2 : ∀ b : Fin 256, (∃ i, i < 3 ∧ kSTR 2 i = (nI b.val).toInt8.toInt32) ↔ (∃ i, i < 3 ∧ kSTR 2 i = nI b.val) := by decide +kernel
theorem kIn_m2 : ∀ i, i < 3 → ¬ kSTR 2 i = -1 := by decide +kernel
theorem m_index2 {b : Nat} (hb : b < 256) (g : z_G) : ∃ y : Int32, fS_J0_indexOf_0f7a4_S2 (nI b) g = some (y, g) ∧ (y < 0 ↔ ¬ kIn 2 3 (nI b)) := by
  obtain ⟨y, u, v⟩ := z_find (T := kSTR 2) (m := 3) (by omega) (step := fun k (w : Int32 × Int32 × Int32 × z_G) => fS_J1_indexOfChar_4cfef_B2_7 k w.1 w.2.1 w.2.2.1 w.2.2.2) (x := (nI b).toInt8.toInt32) (g := g) (fun kk j hj => by
    show fS_J1_indexOfChar_4cfef_B2_7 kk (nI 3) (nI b).toInt8.toInt32 (nI j) g = _
    unfold fS_J1_indexOfChar_4cfef_B2_7
    by_cases c : 3 ≤ j
    · rw [if_pos (nI_le c (by omega)), if_pos c]
    · rw [if_neg (nI_ge (by omega) (by omega)), if_neg c, z_ck_in _ (vp_in_nI (by omega) (by omega)), nI_clamp (by omega), z_let_eq, nI_1]) 3 0 z_fuel (by omega) (z_fuel_big (by omega))
  have ch : fS_J1_indexOfChar_4cfef_B2 (nI b) 0 3 g = some (y, g) := u
  have ix : fS_J1_indexOf_4cfef_B2 (nI b) 0 3 g = some (y, g) := by
    unfold fS_J1_indexOf_4cfef_B2
    rw [m_canEncode hb, z_bind_nd, if_neg (by decide), if_neg (by decide), z_let_eq, if_neg (by decide), z_let_eq, if_pos (by decide), ch, z_bind_nd]
  have ln : fS_J0_length_8abf5_S2 g = some (3, g) := by
    unfold fS_J0_length_8abf5_S2 fS_J0_coder_7d493_S2 fS_J0_coder_7d493_S2_14
    rw [if_neg (by decide), z_bo_0, z_bind_nd]
    rfl
  have la : fS_J0_isLatin1_aae02_S2 g = some (1, g) := by
    unfold fS_J0_isLatin1_aae02_S2 fS_J0_isLatin1_aae02_S2_18
    rw [if_neg (by decide), if_pos rfl, z_bo_1]
  refine ⟨y, ?_, v.trans (not_congr ⟨fun ⟨i, _, h2, h3⟩ => (kIn_b2 ⟨b, hb⟩).mp ⟨i, h2, h3⟩, fun q => by
    obtain ⟨i, h2, h3⟩ := (kIn_b2 ⟨b, hb⟩).mpr q
    exact ⟨i, by omega, h2, h3⟩⟩)⟩
  unfold fS_J0_indexOf_0f7a4_S2 fS_J0_indexOf_7cf53_S2 fS_J0_indexOf_7cf53_S2_36
  rw [la, z_bind_nd, if_neg (by decide), ln, z_bind_nd, ix, z_bind_nd, z_bind_nd]
/-- the reference's isSign for text 2; x is the sign at its place, -1 behind the last -/
theorem m_sg2 {h : z_G} {N p : Nat} (hN : N ≤ 40) (hp : p ≤ N) (e50 : h 0 50 = nI p) {x : Int32} (hx : x = if p < N then h 30 p else -1) (hb : p < N → ∃ b : Nat, b < 256 ∧ h 30 p = nI b) : (kIn 2 3 x → fS_X8_isSign_S2 (nI N) h = some (1, h)) ∧ (¬ kIn 2 3 x → fS_X8_isSign_S2 (nI N) h = some (0, h)) := by
  have d3 : vp_in (nI p) 100 := vp_in_nI (by omega) (by omega)
  have d4 : (nI p).toNatClampNeg = p := nI_clamp (by omega)
  unfold fS_X8_isSign_S2 fS_X8_isSign_S2_40 fS_X8_isSign_S2_41
  rw [e50]
  by_cases c : p < N
  · obtain ⟨b, b9, eb⟩ := hb c
    rw [if_pos c, eb] at hx
    obtain ⟨y, u, v⟩ := m_index2 b9 h
    rw [if_neg (nI_ge c (by omega)), z_ck_in _ d3, d4, eb, z_ck_in _ d3, u, z_bind_nd, hx]
    by_cases c0 : b = 0
    · have no : ¬ kIn 2 3 (nI b) := by
        rw [c0]
        rintro ⟨i, h1, h2⟩
        exact absurd h2 ((by decide +kernel : ∀ i, i < 3 → ¬ kSTR 2 i = nI 0) i h1)
      rw [if_pos (by rw [c0]; decide), z_bo_0]
      exact ⟨fun q => absurd q no, fun _ => rfl⟩
    · rw [if_neg (nI_nle (by omega) (by omega))]
      refine ⟨fun q => ?_, fun q => ?_⟩
      · rw [if_neg (fun q2 => (v.mp q2) q), z_bo_1]
      · rw [if_pos (v.mpr q), z_bo_0]
  · rw [if_pos (nI_le (by omega) (by omega)), z_bo_0]
    rw [if_neg c] at hx
    refine ⟨fun ⟨i, h1, h2⟩ => absurd (h2.trans hx) (kIn_m2 i h1), fun _ => rfl⟩
theorem kIn_b3 : ∀ b : Fin 256, (∃ i, i < 1 ∧ kSTR 3 i = (nI b.val).toInt8.toInt32) ↔ (∃ i, i < 1 ∧ kSTR 3 i = nI b.val) := by decide +kernel
theorem kIn_m3 : ∀ i, i < 1 → ¬ kSTR 3 i = -1 := by decide +kernel
theorem m_index3 {b : Nat} (hb : b < 256) (g : z_G) : ∃ y : Int32, fS_J0_indexOf_0f7a4_S3 (nI b) g = some (y, g) ∧ (y < 0 ↔ ¬ kIn 3 1 (nI b)) := by
  obtain ⟨y, u, v⟩ := z_find (T := kSTR 3) (m := 1) (by omega) (step := fun k (w : Int32 × Int32 × Int32 × z_G) => fS_J1_indexOfChar_4cfef_B3_7 k w.1 w.2.1 w.2.2.1 w.2.2.2) (x := (nI b).toInt8.toInt32) (g := g) (fun kk j hj => by
    show fS_J1_indexOfChar_4cfef_B3_7 kk (nI 1) (nI b).toInt8.toInt32 (nI j) g = _
    unfold fS_J1_indexOfChar_4cfef_B3_7
    by_cases c : 1 ≤ j
    · rw [if_pos (nI_le c (by omega)), if_pos c]
    · rw [if_neg (nI_ge (by omega) (by omega)), if_neg c, z_ck_in _ (vp_in_nI (by omega) (by omega)), nI_clamp (by omega), z_let_eq, nI_1]) 1 0 z_fuel (by omega) (z_fuel_big (by omega))
  have ch : fS_J1_indexOfChar_4cfef_B3 (nI b) 0 1 g = some (y, g) := u
  have ix : fS_J1_indexOf_4cfef_B3 (nI b) 0 1 g = some (y, g) := by
    unfold fS_J1_indexOf_4cfef_B3
    rw [m_canEncode hb, z_bind_nd, if_neg (by decide), if_neg (by decide), z_let_eq, if_neg (by decide), z_let_eq, if_pos (by decide), ch, z_bind_nd]
  have ln : fS_J0_length_8abf5_S3 g = some (1, g) := by
    unfold fS_J0_length_8abf5_S3 fS_J0_coder_7d493_S3 fS_J0_coder_7d493_S3_14
    rw [if_neg (by decide), z_bo_0, z_bind_nd]
    rfl
  have la : fS_J0_isLatin1_aae02_S3 g = some (1, g) := by
    unfold fS_J0_isLatin1_aae02_S3 fS_J0_isLatin1_aae02_S3_18
    rw [if_neg (by decide), if_pos rfl, z_bo_1]
  refine ⟨y, ?_, v.trans (not_congr ⟨fun ⟨i, _, h2, h3⟩ => (kIn_b3 ⟨b, hb⟩).mp ⟨i, h2, h3⟩, fun q => by
    obtain ⟨i, h2, h3⟩ := (kIn_b3 ⟨b, hb⟩).mpr q
    exact ⟨i, by omega, h2, h3⟩⟩)⟩
  unfold fS_J0_indexOf_0f7a4_S3 fS_J0_indexOf_7cf53_S3 fS_J0_indexOf_7cf53_S3_36
  rw [la, z_bind_nd, if_neg (by decide), ln, z_bind_nd, ix, z_bind_nd, z_bind_nd]
/-- the reference's isSign for text 3; x is the sign at its place, -1 behind the last -/
theorem m_sg3 {h : z_G} {N p : Nat} (hN : N ≤ 40) (hp : p ≤ N) (e50 : h 0 50 = nI p) {x : Int32} (hx : x = if p < N then h 30 p else -1) (hb : p < N → ∃ b : Nat, b < 256 ∧ h 30 p = nI b) : (kIn 3 1 x → fS_X8_isSign_S3 (nI N) h = some (1, h)) ∧ (¬ kIn 3 1 x → fS_X8_isSign_S3 (nI N) h = some (0, h)) := by
  have d3 : vp_in (nI p) 100 := vp_in_nI (by omega) (by omega)
  have d4 : (nI p).toNatClampNeg = p := nI_clamp (by omega)
  unfold fS_X8_isSign_S3 fS_X8_isSign_S3_40 fS_X8_isSign_S3_41
  rw [e50]
  by_cases c : p < N
  · obtain ⟨b, b9, eb⟩ := hb c
    rw [if_pos c, eb] at hx
    obtain ⟨y, u, v⟩ := m_index3 b9 h
    rw [if_neg (nI_ge c (by omega)), z_ck_in _ d3, d4, eb, z_ck_in _ d3, u, z_bind_nd, hx]
    by_cases c0 : b = 0
    · have no : ¬ kIn 3 1 (nI b) := by
        rw [c0]
        rintro ⟨i, h1, h2⟩
        exact absurd h2 ((by decide +kernel : ∀ i, i < 1 → ¬ kSTR 3 i = nI 0) i h1)
      rw [if_pos (by rw [c0]; decide), z_bo_0]
      exact ⟨fun q => absurd q no, fun _ => rfl⟩
    · rw [if_neg (nI_nle (by omega) (by omega))]
      refine ⟨fun q => ?_, fun q => ?_⟩
      · rw [if_neg (fun q2 => (v.mp q2) q), z_bo_1]
      · rw [if_pos (v.mpr q), z_bo_0]
  · rw [if_pos (nI_le (by omega) (by omega)), z_bo_0]
    rw [if_neg c] at hx
    refine ⟨fun ⟨i, h1, h2⟩ => absurd (h2.trans hx) (kIn_m3 i h1), fun _ => rfl⟩
theorem kIn_b4 : ∀ b : Fin 256, (∃ i, i < 1 ∧ kSTR 4 i = (nI b.val).toInt8.toInt32) ↔ (∃ i, i < 1 ∧ kSTR 4 i = nI b.val) := by decide +kernel
theorem kIn_m4 : ∀ i, i < 1 → ¬ kSTR 4 i = -1 := by decide +kernel
theorem m_index4 {b : Nat} (hb : b < 256) (g : z_G) : ∃ y : Int32, fS_J0_indexOf_0f7a4_S4 (nI b) g = some (y, g) ∧ (y < 0 ↔ ¬ kIn 4 1 (nI b)) := by
  obtain ⟨y, u, v⟩ := z_find (T := kSTR 4) (m := 1) (by omega) (step := fun k (w : Int32 × Int32 × Int32 × z_G) => fS_J1_indexOfChar_4cfef_B4_7 k w.1 w.2.1 w.2.2.1 w.2.2.2) (x := (nI b).toInt8.toInt32) (g := g) (fun kk j hj => by
    show fS_J1_indexOfChar_4cfef_B4_7 kk (nI 1) (nI b).toInt8.toInt32 (nI j) g = _
    unfold fS_J1_indexOfChar_4cfef_B4_7
    by_cases c : 1 ≤ j
    · rw [if_pos (nI_le c (by omega)), if_pos c]
    · rw [if_neg (nI_ge (by omega) (by omega)), if_neg c, z_ck_in _ (vp_in_nI (by omega) (by omega)), nI_clamp (by omega), z_let_eq, nI_1]) 1 0 z_fuel (by omega) (z_fuel_big (by omega))
  have ch : fS_J1_indexOfChar_4cfef_B4 (nI b) 0 1 g = some (y, g) := u
  have ix : fS_J1_indexOf_4cfef_B4 (nI b) 0 1 g = some (y, g) := by
    unfold fS_J1_indexOf_4cfef_B4
    rw [m_canEncode hb, z_bind_nd, if_neg (by decide), if_neg (by decide), z_let_eq, if_neg (by decide), z_let_eq, if_pos (by decide), ch, z_bind_nd]
  have ln : fS_J0_length_8abf5_S4 g = some (1, g) := by
    unfold fS_J0_length_8abf5_S4 fS_J0_coder_7d493_S4 fS_J0_coder_7d493_S4_14
    rw [if_neg (by decide), z_bo_0, z_bind_nd]
    rfl
  have la : fS_J0_isLatin1_aae02_S4 g = some (1, g) := by
    unfold fS_J0_isLatin1_aae02_S4 fS_J0_isLatin1_aae02_S4_18
    rw [if_neg (by decide), if_pos rfl, z_bo_1]
  refine ⟨y, ?_, v.trans (not_congr ⟨fun ⟨i, _, h2, h3⟩ => (kIn_b4 ⟨b, hb⟩).mp ⟨i, h2, h3⟩, fun q => by
    obtain ⟨i, h2, h3⟩ := (kIn_b4 ⟨b, hb⟩).mpr q
    exact ⟨i, by omega, h2, h3⟩⟩)⟩
  unfold fS_J0_indexOf_0f7a4_S4 fS_J0_indexOf_7cf53_S4 fS_J0_indexOf_7cf53_S4_36
  rw [la, z_bind_nd, if_neg (by decide), ln, z_bind_nd, ix, z_bind_nd, z_bind_nd]
/-- the reference's isSign for text 4; x is the sign at its place, -1 behind the last -/
theorem m_sg4 {h : z_G} {N p : Nat} (hN : N ≤ 40) (hp : p ≤ N) (e50 : h 0 50 = nI p) {x : Int32} (hx : x = if p < N then h 30 p else -1) (hb : p < N → ∃ b : Nat, b < 256 ∧ h 30 p = nI b) : (kIn 4 1 x → fS_X8_isSign_S4 (nI N) h = some (1, h)) ∧ (¬ kIn 4 1 x → fS_X8_isSign_S4 (nI N) h = some (0, h)) := by
  have d3 : vp_in (nI p) 100 := vp_in_nI (by omega) (by omega)
  have d4 : (nI p).toNatClampNeg = p := nI_clamp (by omega)
  unfold fS_X8_isSign_S4 fS_X8_isSign_S4_40 fS_X8_isSign_S4_41
  rw [e50]
  by_cases c : p < N
  · obtain ⟨b, b9, eb⟩ := hb c
    rw [if_pos c, eb] at hx
    obtain ⟨y, u, v⟩ := m_index4 b9 h
    rw [if_neg (nI_ge c (by omega)), z_ck_in _ d3, d4, eb, z_ck_in _ d3, u, z_bind_nd, hx]
    by_cases c0 : b = 0
    · have no : ¬ kIn 4 1 (nI b) := by
        rw [c0]
        rintro ⟨i, h1, h2⟩
        exact absurd h2 ((by decide +kernel : ∀ i, i < 1 → ¬ kSTR 4 i = nI 0) i h1)
      rw [if_pos (by rw [c0]; decide), z_bo_0]
      exact ⟨fun q => absurd q no, fun _ => rfl⟩
    · rw [if_neg (nI_nle (by omega) (by omega))]
      refine ⟨fun q => ?_, fun q => ?_⟩
      · rw [if_neg (fun q2 => (v.mp q2) q), z_bo_1]
      · rw [if_pos (v.mpr q), z_bo_0]
  · rw [if_pos (nI_le (by omega) (by omega)), z_bo_0]
    rw [if_neg c] at hx
    refine ⟨fun ⟨i, h1, h2⟩ => absurd (h2.trans hx) (kIn_m4 i h1), fun _ => rfl⟩
theorem kIn_b5 : ∀ b : Fin 256, (∃ i, i < 4 ∧ kSTR 5 i = (nI b.val).toInt8.toInt32) ↔ (∃ i, i < 4 ∧ kSTR 5 i = nI b.val) := by decide +kernel
theorem kIn_m5 : ∀ i, i < 4 → ¬ kSTR 5 i = -1 := by decide +kernel
theorem m_index5 {b : Nat} (hb : b < 256) (g : z_G) : ∃ y : Int32, fS_J0_indexOf_0f7a4_S5 (nI b) g = some (y, g) ∧ (y < 0 ↔ ¬ kIn 5 4 (nI b)) := by
  obtain ⟨y, u, v⟩ := z_find (T := kSTR 5) (m := 4) (by omega) (step := fun k (w : Int32 × Int32 × Int32 × z_G) => fS_J1_indexOfChar_4cfef_B5_7 k w.1 w.2.1 w.2.2.1 w.2.2.2) (x := (nI b).toInt8.toInt32) (g := g) (fun kk j hj => by
    show fS_J1_indexOfChar_4cfef_B5_7 kk (nI 4) (nI b).toInt8.toInt32 (nI j) g = _
    unfold fS_J1_indexOfChar_4cfef_B5_7
    by_cases c : 4 ≤ j
    · rw [if_pos (nI_le c (by omega)), if_pos c]
    · rw [if_neg (nI_ge (by omega) (by omega)), if_neg c, z_ck_in _ (vp_in_nI (by omega) (by omega)), nI_clamp (by omega), z_let_eq, nI_1]) 4 0 z_fuel (by omega) (z_fuel_big (by omega))
  have ch : fS_J1_indexOfChar_4cfef_B5 (nI b) 0 4 g = some (y, g) := u
  have ix : fS_J1_indexOf_4cfef_B5 (nI b) 0 4 g = some (y, g) := by
    unfold fS_J1_indexOf_4cfef_B5
    rw [m_canEncode hb, z_bind_nd, if_neg (by decide), if_neg (by decide), z_let_eq, if_neg (by decide), z_let_eq, if_pos (by decide), ch, z_bind_nd]
  have ln : fS_J0_length_8abf5_S5 g = some (4, g) := by
    unfold fS_J0_length_8abf5_S5 fS_J0_coder_7d493_S5 fS_J0_coder_7d493_S5_14
    rw [if_neg (by decide), z_bo_0, z_bind_nd]
    rfl
  have la : fS_J0_isLatin1_aae02_S5 g = some (1, g) := by
    unfold fS_J0_isLatin1_aae02_S5 fS_J0_isLatin1_aae02_S5_18
    rw [if_neg (by decide), if_pos rfl, z_bo_1]
  refine ⟨y, ?_, v.trans (not_congr ⟨fun ⟨i, _, h2, h3⟩ => (kIn_b5 ⟨b, hb⟩).mp ⟨i, h2, h3⟩, fun q => by
    obtain ⟨i, h2, h3⟩ := (kIn_b5 ⟨b, hb⟩).mpr q
    exact ⟨i, by omega, h2, h3⟩⟩)⟩
  unfold fS_J0_indexOf_0f7a4_S5 fS_J0_indexOf_7cf53_S5 fS_J0_indexOf_7cf53_S5_36
  rw [la, z_bind_nd, if_neg (by decide), ln, z_bind_nd, ix, z_bind_nd, z_bind_nd]
/-- the reference's isSign for text 5; x is the sign at its place, -1 behind the last -/
theorem m_sg5 {h : z_G} {N p : Nat} (hN : N ≤ 40) (hp : p ≤ N) (e50 : h 0 50 = nI p) {x : Int32} (hx : x = if p < N then h 30 p else -1) (hb : p < N → ∃ b : Nat, b < 256 ∧ h 30 p = nI b) : (kIn 5 4 x → fS_X8_isSign_S5 (nI N) h = some (1, h)) ∧ (¬ kIn 5 4 x → fS_X8_isSign_S5 (nI N) h = some (0, h)) := by
  have d3 : vp_in (nI p) 100 := vp_in_nI (by omega) (by omega)
  have d4 : (nI p).toNatClampNeg = p := nI_clamp (by omega)
  unfold fS_X8_isSign_S5 fS_X8_isSign_S5_40 fS_X8_isSign_S5_41
  rw [e50]
  by_cases c : p < N
  · obtain ⟨b, b9, eb⟩ := hb c
    rw [if_pos c, eb] at hx
    obtain ⟨y, u, v⟩ := m_index5 b9 h
    rw [if_neg (nI_ge c (by omega)), z_ck_in _ d3, d4, eb, z_ck_in _ d3, u, z_bind_nd, hx]
    by_cases c0 : b = 0
    · have no : ¬ kIn 5 4 (nI b) := by
        rw [c0]
        rintro ⟨i, h1, h2⟩
        exact absurd h2 ((by decide +kernel : ∀ i, i < 4 → ¬ kSTR 5 i = nI 0) i h1)
      rw [if_pos (by rw [c0]; decide), z_bo_0]
      exact ⟨fun q => absurd q no, fun _ => rfl⟩
    · rw [if_neg (nI_nle (by omega) (by omega))]
      refine ⟨fun q => ?_, fun q => ?_⟩
      · rw [if_neg (fun q2 => (v.mp q2) q), z_bo_1]
      · rw [if_pos (v.mpr q), z_bo_0]
  · rw [if_pos (nI_le (by omega) (by omega)), z_bo_0]
    rw [if_neg c] at hx
    refine ⟨fun ⟨i, h1, h2⟩ => absurd (h2.trans hx) (kIn_m5 i h1), fun _ => rfl⟩
theorem kIn3 (x : Int32) : kIn 3 1 x ↔ x = 38 := ⟨fun ⟨i, h1, h2⟩ => by
  have e : i = 0 := by omega
  rw [e] at h2
  exact h2.symm, fun e => ⟨0, by omega, e.symm⟩⟩
theorem kIn4 (x : Int32) : kIn 4 1 x ↔ x = 58 := ⟨fun ⟨i, h1, h2⟩ => by
  have e : i = 0 := by omega
  rw [e] at h2
  exact h2.symm, fun e => ⟨0, by omega, e.symm⟩⟩
theorem kIn2 (x : Int32) : kIn 2 3 x ↔ x = 60 ∨ x = 62 ∨ x = 61 := by
  constructor
  · rintro ⟨i, h1, h2⟩
    rcases (show i = 0 ∨ i = 1 ∨ i = 2 by omega) with rfl | rfl | rfl
    · exact Or.inl h2.symm
    · exact Or.inr (Or.inl h2.symm)
    · exact Or.inr (Or.inr h2.symm)
  · rintro (e | e | e)
    · exact ⟨0, by omega, e.symm⟩
    · exact ⟨1, by omega, e.symm⟩
    · exact ⟨2, by omega, e.symm⟩
theorem kIn5 (x : Int32) : kIn 5 4 x ↔ x = 43 ∨ x = 45 ∨ x = 94 ∨ x = 126 := by
  constructor
  · rintro ⟨i, h1, h2⟩
    rcases (show i = 0 ∨ i = 1 ∨ i = 2 ∨ i = 3 by omega) with rfl | rfl | rfl | rfl
    · exact Or.inl h2.symm
    · exact Or.inr (Or.inl h2.symm)
    · exact Or.inr (Or.inr (Or.inl h2.symm))
    · exact Or.inr (Or.inr (Or.inr h2.symm))
  · rintro (e | e | e | e)
    · exact ⟨0, by omega, e.symm⟩
    · exact ⟨1, by omega, e.symm⟩
    · exact ⟨2, by omega, e.symm⟩
    · exact ⟨3, by omega, e.symm⟩
theorem kIn0_d : ∀ i, i < 10 → kSTR 0 i = nI (48 + i) := by decide +kernel
theorem kIn0 (x : Int32) : kIn 0 10 x ↔ ¬ x < 48 ∧ ¬ 57 < x := by
  constructor
  · rintro ⟨i, h1, h2⟩
    rw [← h2, kIn0_d i h1]
    exact ⟨nI_nlt (b := 48) (by omega) (by omega), nI_nlt (a := 57) (by omega) (by omega)⟩
  · rintro ⟨h1, h2⟩
    obtain ⟨j, hj, e⟩ := nI_of2 (M := 57) (n := 57) (x := x) (by decide) (fun q => h1 (by rw [fa_lt] at q ⊢; rw [show (0 : Int32).toInt = 0 from by decide] at q; rw [show (48 : Int32).toInt = 48 from by decide]; omega)) (zn_nlt.mp h2)
    have h48 : 48 ≤ j := by
      rcases Nat.lt_or_ge j 48 with l | l
      · exact absurd (by rw [e]; exact nI_lt (b := 48) l (by omega)) h1
      · exact l
    refine ⟨j - 48, by omega, ?_⟩
    rw [kIn0_d _ (by omega), e, show 48 + (j - 48) = j by omega]
theorem kIn1_l : ∀ i, i < 7 → kSTR 1 i = kLETTERS i := by decide +kernel
theorem kLet_inj : ∀ i, i < 7 → ∀ j, j < 7 → kLETTERS i = kLETTERS j → i = j := by decide +kernel
theorem y_letter {x : Int32} (g : z_G) : (kIn 1 7 x → ∃ l : Nat, l < 7 ∧ kLETTERS l = x ∧ fY_X4_letterOf x g = some (nI l, g)) ∧ (¬ kIn 1 7 x → fY_X4_letterOf x g = some (-1, g)) := by
  have go : ∀ (d j fu : Nat), j + d = 7 → d < fu → ((∃ l : Nat, j ≤ l ∧ l < 7 ∧ kLETTERS l = x ∧ z_loop (fun k (w : Int32 × Int32 × z_G) => fY_X4_letterOf_2 k w.1 w.2.1 w.2.2) fu (x, nI j, g) = some (nI l, g)) ∨ ((∀ i, j ≤ i → i < 7 → ¬ kLETTERS i = x) ∧ z_loop (fun k (w : Int32 × Int32 × z_G) => fY_X4_letterOf_2 k w.1 w.2.1 w.2.2) fu (x, nI j, g) = some (-1, g))) := by
    intro d
    induction d with
    | zero =>
      intro j fu e hf
      obtain ⟨f, rfl⟩ : ∃ f, fu = f + 1 := ⟨fu - 1, by omega⟩
      refine Or.inr ⟨fun i h1 h2 => by omega, ?_⟩
      show fY_X4_letterOf_2 _ x (nI j) g = _
      unfold fY_X4_letterOf_2
      rw [if_pos (show (7 : Int32) ≤ nI j from nI_le (a := 7) (by omega) (by omega))]
    | succ d ih =>
      intro j fu e hf
      obtain ⟨f, rfl⟩ : ∃ f, fu = f + 1 := ⟨fu - 1, by omega⟩
      have st : ∀ kk, fY_X4_letterOf_2 kk x (nI j) g = if kLETTERS j = x then some (nI j, g) else kk (x, nI (j + 1), g) := by
        intro kk
        unfold fY_X4_letterOf_2
        rw [if_neg (show ¬ (7 : Int32) ≤ nI j from nI_ge (b := 7) (by omega) (by omega)), z_ck_in _ (vp_in_nI (by omega) (by omega)), nI_clamp (by omega), z_let_eq, nI_1]
      by_cases c : kLETTERS j = x
      · refine Or.inl ⟨j, Nat.le_refl j, by omega, c, ?_⟩
        show fY_X4_letterOf_2 _ x (nI j) g = _
        rw [st, if_pos c]
      · rcases ih (j + 1) f (by omega) (by omega) with ⟨l, l1, l2, l3, l4⟩ | ⟨l1, l2⟩
        · refine Or.inl ⟨l, by omega, l2, l3, ?_⟩
          show fY_X4_letterOf_2 _ x (nI j) g = _
          rw [st, if_neg c, l4]
        · refine Or.inr ⟨fun i h1 h2 h3 => ?_, ?_⟩
          · by_cases e9 : i = j
            · rw [e9] at h3; exact c h3
            · exact l1 i (by omega) h2 h3
          · show fY_X4_letterOf_2 _ x (nI j) g = _
            rw [st, if_neg c, l2]
  rcases go 7 0 z_fuel (by omega) (z_fuel_big (by omega)) with ⟨l, -, l2, l3, l4⟩ | ⟨l1, l2⟩
  · exact ⟨fun _ => ⟨l, l2, l3, l4⟩, fun q => absurd ⟨l, l2, (kIn1_l l l2).trans l3⟩ q⟩
  · exact ⟨fun ⟨i, h1, h2⟩ => absurd ((kIn1_l i h1).symm.trans h2) (l1 i (by omega) h1), fun _ => l2⟩
