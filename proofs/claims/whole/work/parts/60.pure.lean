/-! what a pure function comes to: it comes to an end, and P holds there -/
def z_ok {α : Type} (c : Option α) (P : α → Prop) : Prop := ∃ r, c = some r ∧ P r
theorem z_ok_some {α : Type} {r : α} {P : α → Prop} : z_ok (some r) P ↔ P r := ⟨fun ⟨_, e, h⟩ => by cases e; exact h, fun h => ⟨r, rfl, h⟩⟩
theorem z_ok_let {α β : Type} {a : α} {f : α → Option β} {P : β → Prop} : z_ok (z_let a f) P ↔ z_ok (f a) P := Iff.rfl
theorem z_ok_ck {α : Type} {i : Int32} {n : Nat} {k : Option α} {P : α → Prop} : z_ok (z_ck i n k) P ↔ vp_in i n ∧ z_ok k P := by
  constructor
  · rintro ⟨r, e, h⟩
    obtain ⟨h1, h2⟩ := z_ckE e
    exact ⟨h1, r, h2, h⟩
  · rintro ⟨h1, r, e, h⟩
    exact ⟨r, by unfold z_ck; rw [if_neg h1]; exact e, h⟩
theorem z_ok_bo {α : Type} {x : Int32} {k : Option α} {P : α → Prop} : z_ok (z_bo x k) P ↔ (x = 0 ∨ x = 1) ∧ z_ok k P := by
  constructor
  · rintro ⟨r, e, h⟩
    obtain ⟨h1, h2⟩ := z_boE e
    exact ⟨h1, r, h2, h⟩
  · rintro ⟨h1, r, e, h⟩
    exact ⟨r, by unfold z_bo; rw [if_pos h1]; exact e, h⟩
theorem z_ok_bind {α : Type} {c : Option (Int32 × z_G)} {k : Int32 → z_G → Option α} {P : α → Prop} : z_ok (z_bind c k) P ↔ z_ok c (fun u => z_ok (k u.1 u.2) P) := by
  constructor
  · rintro ⟨r, e, h⟩
    obtain ⟨r1, g1, e1, e2⟩ := z_bindE e
    exact ⟨(r1, g1), e1, r, e2, h⟩
  · rintro ⟨u, e1, r, e2, h⟩
    exact ⟨r, by unfold z_bind; rw [e1]; exact e2, h⟩
theorem z_ok_ite {c : Prop} [Decidable c] {α : Type} {a b : Option α} {P : α → Prop} : z_ok (if c then a else b) P ↔ (c → z_ok a P) ∧ (¬ c → z_ok b P) := by
  by_cases h : c
  · rw [if_pos h]; exact ⟨fun k => ⟨fun _ => k, fun n => absurd h n⟩, fun k => k.1 h⟩
  · rw [if_neg h]; exact ⟨fun k => ⟨fun n => absurd n h, fun _ => k⟩, fun k => k.2 h⟩
theorem z_ok_mono {α : Type} {c : Option α} {P Q : α → Prop} (h : z_ok c P) (k : ∀ r, P r → Q r) : z_ok c Q := by
  obtain ⟨r, e, h⟩ := h
  exact ⟨r, e, k r h⟩
theorem z_ok_eq {α : Type} {c : Option α} {r : α} {P : α → Prop} (h : c = some r) (k : P r) : z_ok c P := ⟨r, h, k⟩
/-- a loop by a measure that falls -/
theorem z_ok_loop {S α : Type} {step : (S → Option α) → S → Option α} {P : α → Prop} (I : Nat → S → Prop) (hs : ∀ (n : Nat) (k : S → Option α) (s : S), I n s → (∀ (m : Nat) (s' : S), m < n → I m s' → z_ok (k s') P) → z_ok (step k s) P) : ∀ (fuel n : Nat) (s : S), n < fuel → I n s → z_ok (z_loop step fuel s) P
  | 0, n, _, h, _ => absurd h (Nat.not_lt_zero n)
  | f + 1, n, s, h, hi => hs n (z_loop step f) s hi (fun m s' hm hi' => z_ok_loop I hs f m s' (by omega) hi')
/-- numbers -/
theorem z_in {j n : Nat} (h : j < n) (hn : n < 2 ^ 31) : vp_in (nI j) n := vp_in_nI h hn
theorem z_up_same (g : z_G) (r i : Nat) (x : Int32) : z_up g r i x r i = x := by simp [z_up, upd]
theorem z_up_row (g : z_G) (r i : Nat) (x : Int32) {r2 : Nat} (h : r2 ≠ r) : z_up g r i x r2 = g r2 := by simp [z_up, h]
theorem z_up_at (g : z_G) (r i : Nat) (x : Int32) (r2 i2 : Nat) : z_up g r i x r2 i2 = if r2 = r ∧ i2 = i then x else g r2 i2 := by
  unfold z_up upd
  by_cases h : r2 = r
  · subst h
    by_cases h2 : i2 = i <;> simp [h2]
  · simp [h]
theorem z_row_at (g : z_G) (r : Nat) (f : Nat → Int32) (r2 i2 : Nat) : z_row g r f r2 i2 = if r2 = r then f i2 else g r2 i2 := by
  unfold z_row
  by_cases h : r2 = r <;> simp [h]
/-- n steps of B from place j on -/
def z_iter {σ : Type} (B : Nat → σ → σ) : Nat → Nat → σ → σ
  | _, 0, s => s
  | j, d + 1, s => z_iter B (j + 1) d (B j s)
theorem z_iter_0 {σ : Type} (B : Nat → σ → σ) (j : Nat) (s : σ) : z_iter B j 0 s = s := rfl
theorem z_iter_succ {σ : Type} (B : Nat → σ → σ) (j d : Nat) (s : σ) : z_iter B j (d + 1) s = z_iter B (j + 1) d (B j s) := rfl
theorem z_iter_last {σ : Type} (B : Nat → σ → σ) : ∀ (d j : Nat) (s : σ), z_iter B j (d + 1) s = B (j + d) (z_iter B j d s)
  | 0, _, _ => rfl
  | d + 1, j, s => by
    rw [z_iter_succ, z_iter_last B d (j + 1) (B j s), z_iter_succ, show j + 1 + d = j + (d + 1) by omega]
theorem z_iter_inv {σ : Type} {B : Nat → σ → σ} {n : Nat} (P : Nat → σ → Prop) (h : ∀ j s, j < n → P j s → P (j + 1) (B j s)) : ∀ (d j : Nat) (s : σ), j + d = n → P j s → P n (z_iter B j d s)
  | 0, j, s, e, hp => by have e : j = n := by omega
                         subst e; exact hp
  | d + 1, j, s, e, hp => z_iter_inv P h d (j + 1) (B j s) (by omega) (h j s (by omega) hp)
/-- a loop that counts from j to n is n - j steps, then its end -/
theorem z_for {S α σ : Type} {step : (S → Option α) → S → Option α} (mk : Nat → σ → S) (B : Nat → σ → σ) (E : σ → Option α) (n : Nat) (I : Nat → σ → Prop) (hs : ∀ (k : S → Option α) (j : Nat) (s : σ), j < n → I j s → step k (mk j s) = k (mk (j + 1) (B j s)) ∧ I (j + 1) (B j s)) (he : ∀ (k : S → Option α) (s : σ), I n s → step k (mk n s) = E s) : ∀ (d fuel j : Nat) (s : σ), j + d = n → d < fuel → I j s → z_loop step fuel (mk j s) = E (z_iter B j d s)
  | _, 0, _, _, _, hf, _ => absurd hf (Nat.not_lt_zero _)
  | 0, f + 1, j, s, e, _, hi => by
    have e : j = n := by omega
    subst e
    exact he _ s hi
  | d + 1, f + 1, j, s, e, hf, hi => by
    have h := hs (z_loop step f) j s (by omega) hi
    show step (z_loop step f) (mk j s) = _
    rw [h.1]
    exact z_for mk B E n I hs he d f (j + 1) (B j s) (by omega) (by omega) h.2
