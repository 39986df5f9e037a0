/-! sums over cells; count, all, cell -/
def z_sum (f : Nat → Int32) : Nat → Int32
  | 0 => 0
  | n + 1 => z_sum f n + f n
theorem z_sum_cong {f f2 : Nat → Int32} : ∀ {n : Nat}, (∀ i, i < n → f i = f2 i) → z_sum f n = z_sum f2 n
  | 0, _ => rfl
  | n + 1, h => by
    show z_sum f n + f n = z_sum f2 n + f2 n
    rw [z_sum_cong (fun i hi => h i (by omega)), h n (by omega)]
theorem z_sum_add (f f2 : Nat → Int32) : ∀ n, z_sum (fun i => f i + f2 i) n = z_sum f n + z_sum f2 n
  | 0 => by show (0 : Int32) = 0 + 0; decide
  | n + 1 => by
    show z_sum (fun i => f i + f2 i) n + (f n + f2 n) = (z_sum f n + f n) + (z_sum f2 n + f2 n)
    rw [z_sum_add f f2 n]
    ac_rfl
theorem z_sum_0 : ∀ n, z_sum (fun _ => 0) n = 0
  | 0 => rfl
  | n + 1 => by
    show z_sum (fun _ => 0) n + 0 = 0
    rw [z_sum_0 n]; rfl
theorem z_sum_split (f : Nat → Int32) (m : Nat) : ∀ n, z_sum f (m + n) = z_sum f m + z_sum (fun i => f (m + i)) n
  | 0 => by show z_sum f m = z_sum f m + 0; simp
  | n + 1 => by
    show z_sum f (m + n) + f (m + n) = z_sum f m + (z_sum (fun i => f (m + i)) n + f (m + n))
    rw [z_sum_split f m n]; ac_rfl
theorem z_sum_rows (f : Nat → Int32) (H : Nat) : ∀ R, z_sum f (R * H) = z_sum (fun ρ => z_sum (fun η => f (ρ * H + η)) H) R
  | 0 => by rw [Nat.zero_mul]; rfl
  | R + 1 => by
    rw [Nat.succ_mul, z_sum_split, z_sum_rows f H R]; rfl
theorem z_sum_swap (f : Nat → Nat → Int32) (m : Nat) : ∀ n, z_sum (fun a => z_sum (fun b => f a b) m) n = z_sum (fun b => z_sum (fun a => f a b) n) m
  | 0 => (z_sum_0 m).symm
  | n + 1 => by
    show z_sum (fun a => z_sum (fun b => f a b) m) n + z_sum (fun b => f n b) m = z_sum (fun b => z_sum (fun a => f a b) n + f n b) m
    rw [z_sum_swap f m n, ← z_sum_add]
theorem z_sum_cut {f : Nat → Int32} {m : Nat} : ∀ {n : Nat}, m ≤ n → (∀ i, m ≤ i → i < n → f i = 0) → z_sum f n = z_sum f m
  | 0, h, _ => by have : m = 0 := by omega
                  subst this; rfl
  | n + 1, h, h2 => by
    by_cases e : m = n + 1
    · rw [e]
    · show z_sum f n + f n = z_sum f m
      rw [z_sum_cut (by omega) (fun i h3 h4 => h2 i h3 (by omega)), h2 n (by omega) (by omega)]; simp
/-- a sum over the clamp's cells, in either order -/
theorem z_sum_cells {A B : Nat → Int32} {R H : Nat} (hR : R ≤ 8) (hH : H ≤ 8) (h : ∀ ρ η, ρ < R → η < H → A (ρ * H + η) = B (η * 8 + ρ)) (h0 : ∀ c, c < 64 → ¬ (c % 8 < R ∧ c / 8 < H) → B c = 0) : z_sum A (R * H) = z_sum B 64 := by
  rw [z_sum_rows, show (64 : Nat) = 8 * 8 from rfl, z_sum_rows B 8 8, z_sum_swap (fun a b => B (a * 8 + b)) 8 8]
  rw [z_sum_cut (m := R) (n := 8) hR]
  · refine z_sum_cong fun ρ hρ => ?_
    rw [z_sum_cut (m := H) (n := 8) hH]
    · exact z_sum_cong fun η hη => h ρ η hρ hη
    · intro η h1 h2
      exact h0 _ (by omega) (by omega)
  · intro ρ h1 h2
    rw [z_sum_cong (f2 := fun _ => 0), z_sum_0]
    intro η h3
    exact h0 _ (by omega) (by omega)
theorem z_iter_sum (f : Nat → Int32) : ∀ (n : Nat) (x : Int32), z_iter (fun j y => y + f j) 0 n x = x + z_sum f n
  | 0, x => by show x = x + 0; simp
  | n + 1, x => by
    rw [z_iter_last, z_iter_sum f n x, Nat.zero_add]
    show x + z_sum f n + f n = x + (z_sum f n + f n)
    ac_rfl
/-- a loop that sums -/
theorem z_sumfor {S α : Type} {step : (S → Option α) → S → Option α} (mk : Nat → Int32 → S) (f : Nat → Int32) (E : Int32 → Option α) (n : Nat) (hn : n < z_fuel) (hs : ∀ (k : S → Option α) (j : Nat) (x : Int32), j < n → step k (mk j x) = k (mk (j + 1) (x + f j))) (he : ∀ (k : S → Option α) (x : Int32), step k (mk n x) = E x) (x : Int32) : z_loop step z_fuel (mk 0 x) = E (x + z_sum f n) := by
  rw [← z_iter_sum]
  exact z_for mk (fun j y => y + f j) E n (fun _ _ => True) (fun k j s hj _ => ⟨hs k j s hj, trivial⟩) (fun k s _ => he k s) n z_fuel 0 x (by omega) hn trivial
theorem z_fuel_big {n : Nat} (h : n ≤ 4900) : n < z_fuel := by unfold z_fuel; omega
theorem zc_lt {R H ρ η : Nat} (h1 : ρ < R) (h2 : η < H) : ρ * H + η < R * H := by
  have : (ρ + 1) * H ≤ R * H := Nat.mul_le_mul_right H h1
  rw [Nat.succ_mul] at this
  omega
theorem zc_64 {R H : Nat} (hR : R ≤ 8) (hH : H ≤ 8) : R * H ≤ 64 := Nat.mul_le_mul hR hH
theorem zc_of {R H i : Nat} (h : i < R * H) : ∃ ρ η : Nat, ρ < R ∧ η < H ∧ i = ρ * H + η := by
  have hH : 0 < H := by
    rcases Nat.eq_zero_or_pos H with e | e
    · rw [e, Nat.mul_zero] at h; omega
    · exact e
  exact ⟨i / H, i % H, Nat.div_lt_of_lt_mul (by rw [Nat.mul_comm]; exact h), Nat.mod_lt _ hH, by rw [Nat.mul_comm]; exact (Nat.div_add_mod i H).symm⟩
theorem zc_mod {H ρ η : Nat} (h : η < H) : (ρ * H + η) % H = η := by rw [Nat.mul_comm, Nat.mul_add_mod, Nat.mod_eq_of_lt h]
theorem zc_div {H ρ η : Nat} (h : η < H) : (ρ * H + η) / H = ρ := by rw [Nat.mul_comm, Nat.mul_add_div (by omega), Nat.div_eq_of_lt h, Nat.add_zero]
theorem zc_inj {H ρ η ρ2 η2 : Nat} (h : η < H) (h2 : η2 < H) (e : ρ * H + η = ρ2 * H + η2) : ρ = ρ2 ∧ η = η2 := by
  constructor
  · rw [← zc_div h (ρ := ρ), e, zc_div h2]
  · rw [← zc_mod h (ρ := ρ), e, zc_mod h2]
/-- the sums of the yard -/
theorem y_sum10 {g : z_G} {n : Nat} (hn : n ≤ 64) (e : g 1 4 = nI n) : fY_X2_sum_r10 g = some (z_sum (g 10) n, g) := by
  unfold fY_X2_sum_r10 fY_X2_sum_r10_4_go
  rw [show z_sum (g 10) n = 0 + z_sum (g 10) n by simp]
  refine z_sumfor (step := fun k (w : Int32 × Int32 × z_G) => fY_X2_sum_r10_4 k w.1 w.2.1 w.2.2) (fun j x => (x, nI j, g)) (g 10) (fun x => some (x, g)) n (z_fuel_big (by omega)) (fun k j x hj => ?_) (fun k x => ?_) 0
  · simp [fY_X2_sum_r10_4, e, nI_leI (show n < 2 ^ 31 by omega) (show j < 2 ^ 31 by omega), Nat.not_le.mpr hj, z_ck_in _ (vp_in_nI (n := j) (N := 64) (by omega) (by omega)), nI_clamp (show j < 2 ^ 31 by omega), z_let_eq, nI_1]
  · simp [fY_X2_sum_r10_4, e]
theorem y_sum11 {g : z_G} {n : Nat} (hn : n ≤ 64) (e : g 1 4 = nI n) : fY_X2_sum_r11 g = some (z_sum (g 11) n, g) := by
  unfold fY_X2_sum_r11 fY_X2_sum_r11_4_go
  rw [show z_sum (g 11) n = 0 + z_sum (g 11) n by simp]
  refine z_sumfor (step := fun k (w : Int32 × Int32 × z_G) => fY_X2_sum_r11_4 k w.1 w.2.1 w.2.2) (fun j x => (x, nI j, g)) (g 11) (fun x => some (x, g)) n (z_fuel_big (by omega)) (fun k j x hj => ?_) (fun k x => ?_) 0
  · simp [fY_X2_sum_r11_4, e, nI_leI (show n < 2 ^ 31 by omega) (show j < 2 ^ 31 by omega), Nat.not_le.mpr hj, z_ck_in _ (vp_in_nI (n := j) (N := 64) (by omega) (by omega)), nI_clamp (show j < 2 ^ 31 by omega), z_let_eq, nI_1]
  · simp [fY_X2_sum_r11_4, e]
theorem y_sum14 {g : z_G} {n : Nat} (hn : n ≤ 64) (e : g 1 4 = nI n) : fY_X2_sum_r14 g = some (z_sum (g 14) n, g) := by
  unfold fY_X2_sum_r14 fY_X2_sum_r14_4_go
  rw [show z_sum (g 14) n = 0 + z_sum (g 14) n by simp]
  refine z_sumfor (step := fun k (w : Int32 × Int32 × z_G) => fY_X2_sum_r14_4 k w.1 w.2.1 w.2.2) (fun j x => (x, nI j, g)) (g 14) (fun x => some (x, g)) n (z_fuel_big (by omega)) (fun k j x hj => ?_) (fun k x => ?_) 0
  · simp [fY_X2_sum_r14_4, e, nI_leI (show n < 2 ^ 31 by omega) (show j < 2 ^ 31 by omega), Nat.not_le.mpr hj, z_ck_in _ (vp_in_nI (n := j) (N := 64) (by omega) (by omega)), nI_clamp (show j < 2 ^ 31 by omega), z_let_eq, nI_1]
  · simp [fY_X2_sum_r14_4, e]
theorem y_sum17 {g : z_G} {n : Nat} (hn : n ≤ 64) (e : g 1 4 = nI n) : fY_X2_sum_r17 g = some (z_sum (g 17) n, g) := by
  unfold fY_X2_sum_r17 fY_X2_sum_r17_4_go
  rw [show z_sum (g 17) n = 0 + z_sum (g 17) n by simp]
  refine z_sumfor (step := fun k (w : Int32 × Int32 × z_G) => fY_X2_sum_r17_4 k w.1 w.2.1 w.2.2) (fun j x => (x, nI j, g)) (g 17) (fun x => some (x, g)) n (z_fuel_big (by omega)) (fun k j x hj => ?_) (fun k x => ?_) 0
  · simp [fY_X2_sum_r17_4, e, nI_leI (show n < 2 ^ 31 by omega) (show j < 2 ^ 31 by omega), Nat.not_le.mpr hj, z_ck_in _ (vp_in_nI (n := j) (N := 64) (by omega) (by omega)), nI_clamp (show j < 2 ^ 31 by omega), z_let_eq, nI_1]
  · simp [fY_X2_sum_r17_4, e]
theorem zn_64 {j : Nat} (h : j < 64) : ¬ (64 : Int32) ≤ nI j := nI_ge (a := j) (b := 64) h (by decide)
theorem m_sum1 (h : z_G) : fM_X8_sum_r1 h = some (z_sum (h 1) 64, h) := by
  unfold fM_X8_sum_r1 fM_X8_sum_r1_4_go
  rw [show z_sum (h 1) 64 = 0 + z_sum (h 1) 64 by simp]
  refine z_sumfor (step := fun k (w : Int32 × Int32 × z_G) => fM_X8_sum_r1_4 k w.1 w.2.1 w.2.2) (fun j x => (x, nI j, h)) (h 1) (fun x => some (x, h)) 64 (z_fuel_big (by omega)) (fun k j x hj => ?_) (fun k x => ?_) 0
  · simp [fM_X8_sum_r1_4, zn_64 hj, z_ck_in _ (vp_in_nI (n := j) (N := 64) (by omega) (by omega)), nI_clamp (show j < 2 ^ 31 by omega), z_let_eq, nI_1]
  · simp [fM_X8_sum_r1_4, show (64 : Int32) ≤ nI 64 from by decide]
theorem m_sum2 (h : z_G) : fM_X8_sum_r2 h = some (z_sum (h 2) 64, h) := by
  unfold fM_X8_sum_r2 fM_X8_sum_r2_4_go
  rw [show z_sum (h 2) 64 = 0 + z_sum (h 2) 64 by simp]
  refine z_sumfor (step := fun k (w : Int32 × Int32 × z_G) => fM_X8_sum_r2_4 k w.1 w.2.1 w.2.2) (fun j x => (x, nI j, h)) (h 2) (fun x => some (x, h)) 64 (z_fuel_big (by omega)) (fun k j x hj => ?_) (fun k x => ?_) 0
  · simp [fM_X8_sum_r2_4, zn_64 hj, z_ck_in _ (vp_in_nI (n := j) (N := 64) (by omega) (by omega)), nI_clamp (show j < 2 ^ 31 by omega), z_let_eq, nI_1]
  · simp [fM_X8_sum_r2_4, show (64 : Int32) ≤ nI 64 from by decide]
theorem m_sum7 (h : z_G) : fM_X8_sum_r7 h = some (z_sum (h 7) 64, h) := by
  unfold fM_X8_sum_r7 fM_X8_sum_r7_4_go
  rw [show z_sum (h 7) 64 = 0 + z_sum (h 7) 64 by simp]
  refine z_sumfor (step := fun k (w : Int32 × Int32 × z_G) => fM_X8_sum_r7_4 k w.1 w.2.1 w.2.2) (fun j x => (x, nI j, h)) (h 7) (fun x => some (x, h)) 64 (z_fuel_big (by omega)) (fun k j x hj => ?_) (fun k x => ?_) 0
  · simp [fM_X8_sum_r7_4, zn_64 hj, z_ck_in _ (vp_in_nI (n := j) (N := 64) (by omega) (by omega)), nI_clamp (show j < 2 ^ 31 by omega), z_let_eq, nI_1]
  · simp [fM_X8_sum_r7_4, show (64 : Int32) ≤ nI 64 from by decide]
def kB (x : Int32) : Int32 := if x = 0 then 0 else 1
theorem m_burning (h : z_G) : fM_X8_burning h = some (z_sum (fun i => kB (h 5 i)) 64, h) := by
  unfold fM_X8_burning fM_X8_burning_4_go
  rw [show z_sum (fun i => kB (h 5 i)) 64 = 0 + z_sum (fun i => kB (h 5 i)) 64 by simp]
  refine z_sumfor (step := fun k (w : Int32 × Int32 × z_G) => fM_X8_burning_4 k w.1 w.2.1 w.2.2) (fun j x => (x, nI j, h)) (fun i => kB (h 5 i)) (fun x => some (x, h)) 64 (z_fuel_big (by omega)) (fun k j x hj => ?_) (fun k x => ?_) 0
  · by_cases c : h 5 j = 0 <;> simp [fM_X8_burning_4, fM_X8_burning_25, kB, c, zn_64 hj, z_ck_in _ (vp_in_nI (n := j) (N := 64) (by omega) (by omega)), nI_clamp (show j < 2 ^ 31 by omega), z_let_eq, nI_1]
  · simp [fM_X8_burning_4, show (64 : Int32) ≤ nI 64 from by decide]
theorem y_countOpen {g : z_G} {n : Nat} (hn : n ≤ 12) (e : g 2 0 = nI n) : fY_X1_countOpen g = some (z_sum (fun i => kB (g 23 i)) n, g) := by
  unfold fY_X1_countOpen fY_X1_countOpen_4_go
  rw [show z_sum (fun i => kB (g 23 i)) n = 0 + z_sum (fun i => kB (g 23 i)) n by simp]
  refine z_sumfor (step := fun k (w : Int32 × Int32 × z_G) => fY_X1_countOpen_4 k w.1 w.2.1 w.2.2) (fun j x => (x, nI j, g)) (fun i => kB (g 23 i)) (fun x => some (x, g)) n (z_fuel_big (by omega)) (fun k j x hj => ?_) (fun k x => ?_) 0
  · by_cases c : g 23 j = 0 <;> simp [fY_X1_countOpen_4, fY_X1_countOpen_24, kB, c, e, nI_leI (show n < 2 ^ 31 by omega) (show j < 2 ^ 31 by omega), Nat.not_le.mpr hj, z_ck_in _ (vp_in_nI (n := j) (N := 12) (by omega) (by omega)), nI_clamp (show j < 2 ^ 31 by omega), z_let_eq, nI_1]
  · simp [fY_X1_countOpen_4, e]
theorem m_opened {h : z_G} {n : Nat} (hn : n ≤ 12) (e : h 0 13 = nI n) : fM_X8_opened h = some (z_sum (fun i => kB (h 12 i)) n, h) := by
  unfold fM_X8_opened fM_X8_opened_4_go
  rw [show z_sum (fun i => kB (h 12 i)) n = 0 + z_sum (fun i => kB (h 12 i)) n by simp]
  refine z_sumfor (step := fun k (w : Int32 × Int32 × z_G) => fM_X8_opened_4 k w.1 w.2.1 w.2.2) (fun j x => (x, nI j, h)) (fun i => kB (h 12 i)) (fun x => some (x, h)) n (z_fuel_big (by omega)) (fun k j x hj => ?_) (fun k x => ?_) 0
  · by_cases c : h 12 j = 0 <;> simp [fM_X8_opened_4, fM_X8_opened_27, kB, c, e, nI_leI (show n < 2 ^ 31 by omega) (show j < 2 ^ 31 by omega), Nat.not_le.mpr hj, z_ck_in _ (vp_in_nI (n := j) (N := 12) (by omega) (by omega)), nI_clamp (show j < 2 ^ 31 by omega), z_let_eq, nI_1]
  · simp [fM_X8_opened_4, e]
theorem r_opened {R H : Nat} {g h : z_G} (q : rHoles R H g h) : ∃ x : Int32, fY_X1_countOpen g = some (x, g) ∧ fM_X8_opened h = some (x, h) := by
  obtain ⟨n, hn, e1, e2, hj⟩ := q
  refine ⟨_, y_countOpen hn e1, ?_⟩
  rw [m_opened hn e2, z_sum_cong (f := fun i => kB (h 12 i)) (f2 := fun i => kB (g 23 i)) (fun i hi => by rw [(hj i hi).1])]
theorem r_burning {R H : Nat} {g h : z_G} (q1 : rDim R H g h) (q3 : rEq R H 14 5 g h) (q4 : rZero R H 5 h) (q5 : ∀ ρ η, ρ < R → η < H → g 14 (ρ * H + η) = 0 ∨ g 14 (ρ * H + η) = 1) : ∃ x : Int32, fY_X2_sum_r14 g = some (x, g) ∧ fM_X8_burning h = some (x, h) := by
  obtain ⟨⟨-, hR, -, hH⟩, e1, e2, e3, e4, e5⟩ := q1
  refine ⟨_, y_sum14 (zc_64 hR hH) e3, ?_⟩
  rw [m_burning, z_sum_cells (A := g 14) (B := fun i => kB (h 5 i)) hR hH]
  · intro ρ η h1 h2
    show _ = kB (h 5 _)
    rw [← q3 ρ η h1 h2]
    rcases q5 ρ η h1 h2 with e | e <;> rw [e] <;> rfl
  · intro c h1 h2
    show kB (h 5 c) = 0
    rw [q4 c h1 h2]; rfl
theorem r_sum10 {R H : Nat} {g h : z_G} (q1 : rDim R H g h) (q3 : rEq R H 10 1 g h) (q4 : rZero R H 1 h) : ∃ x : Int32, fY_X2_sum_r10 g = some (x, g) ∧ fM_X8_sum_r1 h = some (x, h) := by
  obtain ⟨⟨-, hR, -, hH⟩, e1, e2, e3, e4, e5⟩ := q1
  exact ⟨_, y_sum10 (zc_64 hR hH) e3, by rw [m_sum1, z_sum_cells hR hH q3 q4]⟩
theorem r_sum11 {R H : Nat} {g h : z_G} (q1 : rDim R H g h) (q3 : rEq R H 11 2 g h) (q4 : rZero R H 2 h) : ∃ x : Int32, fY_X2_sum_r11 g = some (x, g) ∧ fM_X8_sum_r2 h = some (x, h) := by
  obtain ⟨⟨-, hR, -, hH⟩, e1, e2, e3, e4, e5⟩ := q1
  exact ⟨_, y_sum11 (zc_64 hR hH) e3, by rw [m_sum2, z_sum_cells hR hH q3 q4]⟩
theorem r_sum17 {R H : Nat} {g h : z_G} (q1 : rDim R H g h) (q3 : rEq R H 17 7 g h) (q4 : rZero R H 7 h) : ∃ x : Int32, fY_X2_sum_r17 g = some (x, g) ∧ fM_X8_sum_r7 h = some (x, h) := by
  obtain ⟨⟨-, hR, -, hH⟩, e1, e2, e3, e4, e5⟩ := q1
  exact ⟨_, y_sum17 (zc_64 hR hH) e3, by rw [m_sum7, z_sum_cells hR hH q3 q4]⟩
theorem sim_all : z_sim1 rel fY_X7_all fM_X8_all := by
  intro a0 g h hr
  have hr0 := rel_thrown hr 0
  obtain ⟨R, H, q1, q2, q3, q4, q5, q6, q7, q8, q9, q10, q11, q12⟩ := hr0.1
  unfold fY_X7_all fM_X8_all
  simp only [z_let_eq]
  by_cases c0 : a0 = 0
  · obtain ⟨x, e1, e2⟩ := r_sum17 q1 q3.2.2.2.2.2.2.2.1 q4.2.2.2
    exact ⟨x, g, _, by simp [c0, e1, z_bind_some], by simp [c0, e2, z_bind_some], hr0⟩
  by_cases c1 : a0 = 1
  · obtain ⟨x, e1, e2⟩ := r_sum10 q1 q3.1 q4.1
    exact ⟨x, g, _, by simp [c1, e1, z_bind_some], by simp [c1, e2, z_bind_some], hr0⟩
  by_cases c2 : a0 = 2
  · obtain ⟨x, e1, e2⟩ := r_sum11 q1 q3.2.1 q4.2.1
    exact ⟨x, g, _, by simp [c2, e1, z_bind_some], by simp [c2, e2, z_bind_some], hr0⟩
  by_cases c3 : a0 = 3
  · exact ⟨g 1 2, g, _, by simp [c3], by simp [c3, q6.1], hr0⟩
  by_cases c4 : a0 = 4
  · exact ⟨g 1 3, g, _, by simp [c4], by simp [c4, q6.2.1], hr0⟩
  exact ⟨-1, g, _, by simp [c0, c1, c2, c3, c4], by simp [c0, c1, c2, c3, c4], hr0⟩
theorem sim_count : z_sim1 rel fY_X7_count fM_X8_count := by
  intro a0 g h hr
  have hr0 := rel_thrown hr 0
  obtain ⟨R, H, q1, q2, q3, q4, q5, q6, q7, q8, q9, q10, q11, q12⟩ := hr0.1
  unfold fY_X7_count fM_X8_count fY_X7_count_124 fM_X8_count_110
  simp only [z_let_eq]
  obtain ⟨s1, s2, s3, s4, s5, s6⟩ := id q6
  obtain ⟨-, d1, d2, d3, d4, d5⟩ := id q1
  by_cases c0 : a0 = 0
  · exact ⟨nI R, g, _, by simp [c0, d1], by simp [c0, d4], hr0⟩
  by_cases c1 : a0 = 1
  · exact ⟨nI H, g, _, by simp [c1, d2], by simp [c1, d5], hr0⟩
  by_cases c2 : a0 = 2
  · obtain ⟨n, -, e1, e2, -⟩ := q7
    exact ⟨nI n, g, _, by simp [c2, e1], by simp [c2, e2], hr0⟩
  by_cases c3 : a0 = 3
  · obtain ⟨x, e1, e2⟩ := r_opened q7
    exact ⟨x, g, _, by simp [c3, e1, z_bind_some], by simp [c3, e2, z_bind_some], hr0⟩
  by_cases c4 : a0 = 4
  · obtain ⟨n, -, e1, e2, -⟩ := q12
    exact ⟨nI n, g, _, by simp [c4, e1], by simp [c4, e2], hr0⟩
  by_cases c5 : a0 = 5
  · obtain ⟨n, -, e1, e2, -⟩ := q8
    exact ⟨nI n, g, _, by simp [c5, e1], by simp [c5, e2], hr0⟩
  by_cases c6 : a0 = 6
  · rcases s6 with s6 | s6
    · have s7 := s3.symm.trans s6
      exact ⟨0, g, _, by simp [c6, s6], by simp [c6, s7], hr0⟩
    · have s7 := s3.symm.trans s6
      exact ⟨1, g, _, by simp [c6, s6], by simp [c6, s7], hr0⟩
  by_cases c7 : a0 = 7
  · obtain ⟨x, e1, e2⟩ := r_burning q1 q3.2.2.2.2.1 q4.2.2.1 (fun ρ η h1 h2 => (q5 ρ η h1 h2).2.1)
    exact ⟨x, g, _, by simp [c7, e1, z_bind_some], by simp [c7, e2, z_bind_some], hr0⟩
  by_cases c8 : a0 = 8
  · obtain ⟨n, -, e1, e2, -⟩ := q9
    exact ⟨nI n, g, _, by simp [c8, e1], by simp [c8, e2], hr0⟩
  by_cases c9 : a0 = 9
  · obtain ⟨n, -, e1, e2, -⟩ := hr0.2.1
    exact ⟨nI n, g, _, by simp [c9, e1], by simp [c9, e2], hr0⟩
  by_cases c10 : a0 = 10
  · obtain ⟨n, -, e1, e2, -⟩ := hr0.2.2
    exact ⟨nI n, g, _, by simp [c10, e1], by simp [c10, e2], hr0⟩
  by_cases c11 : a0 = 11
  · exact ⟨g 0 9, g, _, by simp [c11], by simp [c11, s5], hr0⟩
  exact ⟨-1, g, _, by simp [c0, c1, c2, c3, c4, c5, c6, c7, c8, c9, c10, c11], by simp [c0, c1, c2, c3, c4, c5, c6, c7, c8, c9, c10, c11], hr0⟩
/-- outside, in the reference -/
theorem m_ring {c : Nat} (hc : c < 64) : nI c - nI c / 8 * 8 = nI (c % 8) := pk_rem (a := c) (d := 8) (by omega) (by decide) (by decide)
theorem m_height {c : Nat} (hc : c < 64) : nI c / 8 = nI (c / 8) := pk_div (a := c) (d := 8) (by omega) (by decide) (by decide)
theorem zn_eqp {a R : Nat} (h0 : 1 ≤ R) (hR : R ≤ 8) (ha : a < 64) : nI a = nI R - 1 ↔ a + 1 = R := by
  obtain ⟨R, rfl⟩ : ∃ k, R = k + 1 := ⟨R - 1, by omega⟩
  rw [nI_pred, nI_eq (by omega) (by omega)]
  omega
theorem m_isOutside {R H : Nat} {h : z_G} (b : 1 ≤ R ∧ R ≤ 8 ∧ 1 ≤ H ∧ H ≤ 8) (e1 : h 0 1 = nI R) (e2 : h 0 2 = nI H) {c : Nat} (hc : c < 64) : fM_X8_isOutside (nI c) h = some (if c % 8 + 1 = R ∨ c / 8 + 1 = H then 1 else 0, h) := by
  obtain ⟨b1, b2, b3, b4⟩ := b
  unfold fM_X8_isOutside fM_X8_isOutside_28 fM_X8_isOutside_33 fM_X8_ringOf fM_X8_heightOf
  simp only [z_bind_some, e1, e2, m_ring hc]
  simp only [m_height hc, zn_eqp b1 b2 (show c % 8 < 64 by omega), zn_eqp b3 b4 (show c / 8 < 64 by omega)]
  by_cases c1 : c % 8 + 1 = R
  · simp [c1, z_bo_1]
  · by_cases c2 : c / 8 + 1 = H
    · simp [c1, c2, z_bo_1]
    · simp [c1, c2, z_bo_0]
theorem m_isOutsideC {R H : Nat} {h : z_G} (b : 1 ≤ R ∧ R ≤ 8 ∧ 1 ≤ H ∧ H ≤ 8) (e1 : h 0 1 = nI R) (e2 : h 0 2 = nI H) {ρ η : Nat} (h1 : ρ < R) (h2 : η < H) : fM_X8_isOutside (nI (η * 8 + ρ)) h = some (if ρ + 1 = R ∨ η + 1 = H then 1 else 0, h) := by
  rw [m_isOutside b e1 e2 (by omega), zc_mod (by omega), zc_div (by omega)]
theorem sim_cell : z_simT3 rel fY_X7_cell fY_X7_cellT fM_X8_cell := by
  intro a0 a1 a2 g h hr
  have hr0 := rel_thrown hr 0
  have hr1 := rel_thrown hr0 1
  obtain ⟨R, H, q1, q2, q3, q4, q5, q6, q7, q8, q9, q10, q11, q12⟩ := hr0.1
  obtain ⟨b, e1, e2, -, e4, e5⟩ := id q1
  obtain ⟨-, hR, -, hH⟩ := id b
  unfold fY_X7_cell fY_X7_cell_22 fY_X7_cell_170 fY_X7_cellT fY_X7_cellT_22 fY_X7_cellT_170 fM_X8_cell fM_X8_cell_26 fM_X8_cell_135 fM_X8_cell_156 fY_X2_at fM_X8_refuse
  simp only [z_let_eq, m_in_0_8]
  rcases y_holds e1 e2 a0 a1 with ⟨c, y1⟩ | ⟨c, y1⟩
  · rcases m_isCell hR hH e4 e5 a0 a1 with ⟨-, m1⟩ | ⟨c2, -⟩
    · exact ⟨0, 0, g, z_up (z_up h 0 0 0) 0 0 1, by simp [m1, z_bind_some], hr1, Or.inr ⟨by simp [y1, z_bind_some], by simp [z_up_at]⟩⟩
    · exact absurd c c2
  · rcases m_isCell hR hH e4 e5 a0 a1 with ⟨c2, -⟩ | ⟨-, m1⟩
    · exact absurd c2 c
    · by_cases w1 : a2 < 0
      · exact ⟨0, 0, g, z_up (z_up h 0 0 0) 0 0 1, by simp [m1, z_bind_some, w1], hr1, Or.inr ⟨by simp [y1, z_bind_some, w1], by simp [z_up_at]⟩⟩
      by_cases w2 : 8 < a2
      · have w3 : ¬ a2 ≤ 8 := zn_nle.mpr w2
        exact ⟨0, 0, g, z_up (z_up h 0 0 0) 0 0 1, by simp [m1, z_bind_some, w2], hr1, Or.inr ⟨by simp [y1, z_bind_some, w1, w3], by simp [z_up_at]⟩⟩
      have w3 : a2 ≤ 8 := zn_nlt.mp w2
      obtain ⟨ρ, η, h1, h2, -, -, i1, i2, l1, l2⟩ := zn_cell hR hH c
      have d1 : vp_in (nI (ρ * H + η)) 64 := vp_in_nI l1 (by decide)
      have d2 : (nI (ρ * H + η)).toNatClampNeg = ρ * H + η := nI_clamp (by omega)
      have d3 : vp_in (nI (η * 8 + ρ)) 64 := vp_in_nI l2 (by decide)
      have d4 : (nI (η * 8 + ρ)).toNatClampNeg = η * 8 + ρ := nI_clamp (by omega)
      obtain ⟨p10, p11, p12, p13, p14, p15, p16, p17, p18, p19⟩ := id q3
      have t0 : z_up h 0 0 0 0 0 = 0 := by simp [z_up_at]
      by_cases c0 : a2 = 0
      · refine ⟨g 10 (ρ * H + η), g 10 (ρ * H + η), g, z_up h 0 0 0, ?_, hr0, Or.inl ⟨?_, t0, rfl⟩⟩
        · simp [m1, z_bind_some, c0, i2, d3, d4, z_ck_in, ← p10 ρ η h1 h2]
        · simp [y1, z_bind_some, c0, e2, i1, d1, d2, z_ck_in]
      by_cases c1 : a2 = 1
      · refine ⟨g 11 (ρ * H + η), g 11 (ρ * H + η), g, z_up h 0 0 0, ?_, hr0, Or.inl ⟨?_, t0, rfl⟩⟩
        · simp [m1, z_bind_some, c1, i2, d3, d4, z_ck_in, ← p11 ρ η h1 h2]
        · simp [y1, z_bind_some, c1, e2, i1, d1, d2, z_ck_in]
      by_cases c2 : a2 = 2
      · refine ⟨g 12 (ρ * H + η), g 12 (ρ * H + η), g, z_up h 0 0 0, ?_, hr0, Or.inl ⟨?_, t0, rfl⟩⟩
        · simp [m1, z_bind_some, c2, i2, d3, d4, z_ck_in, ← p12 ρ η h1 h2]
        · simp [y1, z_bind_some, c2, e2, i1, d1, d2, z_ck_in]
      by_cases c3 : a2 = 3
      · refine ⟨g 13 (ρ * H + η), g 13 (ρ * H + η), g, z_up h 0 0 0, ?_, hr0, Or.inl ⟨?_, t0, rfl⟩⟩
        · simp [m1, z_bind_some, c3, i2, d3, d4, z_ck_in, ← p13 ρ η h1 h2]
        · simp [y1, z_bind_some, c3, e2, i1, d1, d2, z_ck_in]
      by_cases c4 : a2 = 4
      · rcases (q5 ρ η h1 h2).2.1 with f | f
        · refine ⟨0, 0, g, z_up h 0 0 0, ?_, hr0, Or.inl ⟨?_, t0, rfl⟩⟩
          · simp [m1, z_bind_some, c4, i2, d3, d4, z_ck_in, ← p14 ρ η h1 h2, f]
          · simp [y1, z_bind_some, c4, e2, i1, d1, d2, z_ck_in, f]
        · refine ⟨1, 1, g, z_up h 0 0 0, ?_, hr0, Or.inl ⟨?_, t0, rfl⟩⟩
          · simp [m1, z_bind_some, c4, i2, d3, d4, z_ck_in, ← p14 ρ η h1 h2, f]
          · simp [y1, z_bind_some, c4, e2, i1, d1, d2, z_ck_in, f]
      by_cases c5 : a2 = 5
      · by_cases o : ρ + 1 = R ∨ η + 1 = H
        · refine ⟨g 15 (ρ * H + η), g 15 (ρ * H + η), g, z_up h 0 0 0, ?_, hr0, Or.inl ⟨?_, t0, rfl⟩⟩
          · simp [m1, z_bind_some, c5, i2, d3, d4, z_ck_in, ← p15 ρ η h1 h2, m_isOutsideC b e4 e5 h1 h2, o]
          · simp [y1, z_bind_some, c5, e2, i1, d1, d2, z_ck_in, (q2 ρ η h1 h2).2, o]
        · refine ⟨-1, -1, g, z_up h 0 0 0, ?_, hr0, Or.inl ⟨?_, t0, rfl⟩⟩
          · simp [m1, z_bind_some, c5, i2, d3, d4, z_ck_in, m_isOutsideC b e4 e5 h1 h2, o]
          · simp [y1, z_bind_some, c5, e2, i1, d1, d2, z_ck_in, (q2 ρ η h1 h2).2, o]
      by_cases c6 : a2 = 6
      · refine ⟨g 16 (ρ * H + η), g 16 (ρ * H + η), g, z_up h 0 0 0, ?_, hr0, Or.inl ⟨?_, t0, rfl⟩⟩
        · simp [m1, z_bind_some, c6, i2, d3, d4, z_ck_in, ← p16 ρ η h1 h2]
        · simp [y1, z_bind_some, c6, e2, i1, d1, d2, z_ck_in]
      by_cases c7 : a2 = 7
      · refine ⟨g 17 (ρ * H + η), g 17 (ρ * H + η), g, z_up h 0 0 0, ?_, hr0, Or.inl ⟨?_, t0, rfl⟩⟩
        · simp [m1, z_bind_some, c7, i2, d3, d4, z_ck_in, ← p17 ρ η h1 h2]
        · simp [y1, z_bind_some, c7, e2, i1, d1, d2, z_ck_in]
      · refine ⟨g 18 (ρ * H + η), g 18 (ρ * H + η), g, z_up h 0 0 0, ?_, hr0, Or.inl ⟨?_, t0, rfl⟩⟩
        · simp [m1, z_bind_some, w1, w2, c0, c1, c2, c3, c4, c5, c6, c7, i2, d3, d4, z_ck_in, ← p18 ρ η h1 h2]
        · simp [y1, z_bind_some, w1, w3, c0, c1, c2, c3, c4, c5, c6, c7, e2, i1, d1, d2, z_ck_in]
