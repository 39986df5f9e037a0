/-! which places a pure function may change: rows, and single places -/
def z_tch (rows : List Nat) (els : List (Nat × Nat)) (a j : Nat) : Bool := rows.contains a || els.contains (a, j)
def z_ag (t : Nat → Nat → Bool) (g0 g : z_G) : Prop := ∀ a j, t a j = false → g a j = g0 a j
def z_Fr (t : Nat → Nat → Bool) (g0 : z_G) (c : Option (Int32 × z_G)) : Prop := ∀ (r : Int32) (g' : z_G), c = some (r, g') → z_ag t g0 g'
section ZFR
variable {t t1 : Nat → Nat → Bool} {g0 g g1 : z_G}
theorem fr_rf : z_ag t g g := fun _ _ _ => rfl
theorem fr_none : z_Fr t g0 none := fun _ _ h => by cases h
theorem fr_some {x : Int32} (h : z_ag t g0 g) : z_Fr t g0 (some (x, g)) := fun _ _ e => by cases e; exact h
theorem fr_bo {x : Int32} {k : Option (Int32 × z_G)} (h : z_Fr t g0 k) : z_Fr t g0 (z_bo x k) := fun r g' e => h r g' (z_boE e).2
theorem fr_ck {i : Int32} {n : Nat} {k : Option (Int32 × z_G)} (h : z_Fr t g0 k) : z_Fr t g0 (z_ck i n k) := fun r g' e => h r g' (z_ckE e).2
theorem fr_ite {c : Prop} [Decidable c] {a b : Option (Int32 × z_G)} (h1 : z_Fr t g0 a) (h2 : z_Fr t g0 b) : z_Fr t g0 (if c then a else b) := by
  by_cases h : c
  · rw [if_pos h]; exact h1
  · rw [if_neg h]; exact h2
theorem fr_letI {a : Int32} {f : Int32 → Option (Int32 × z_G)} (h : ∀ y, z_Fr t g0 (f y)) : z_Fr t g0 (z_let a f) := h a
theorem fr_letG {f : z_G → Option (Int32 × z_G)} (h1 : z_ag t g0 g1) (h : ∀ g, z_ag t g0 g → z_Fr t g0 (f g)) : z_Fr t g0 (z_let g1 f) := h g1 h1
theorem fr_bind {c : Option (Int32 × z_G)} {k : Int32 → z_G → Option (Int32 × z_G)} (hc : z_Fr t1 g c) (hs : ∀ a j, t a j = false → t1 a j = false) (hg : z_ag t g0 g) (h : ∀ r g1, z_ag t g0 g1 → z_Fr t g0 (k r g1)) : z_Fr t g0 (z_bind c k) := fun r g' e => by
  obtain ⟨r1, g2, e1, e2⟩ := z_bindE e
  exact h r1 g2 (fun a j ht => (hc r1 g2 e1 a j (hs a j ht)).trans (hg a j ht)) r g' e2
theorem fr_up {r i : Nat} {x : Int32} (h : z_ag t g0 g) (hr : t r i = true) : z_ag t g0 (z_up g r i x) := fun a j ht => by
  rw [← h a j ht]
  unfold z_up upd
  by_cases ha : a = r
  · subst ha
    by_cases hj : j = i
    · subst hj; rw [hr] at ht; cases ht
    · simp [hj]
  · simp [ha]
theorem fr_row {r : Nat} {f : Nat → Int32} (h : z_ag t g0 g) (hr : ∀ j, t r j = true) : z_ag t g0 (z_row g r f) := fun a j ht => by
  rw [← h a j ht]
  unfold z_row
  by_cases ha : a = r
  · subst ha; rw [hr j] at ht; cases ht
  · simp [ha]
theorem fr_loop {S : Type} {step : (S → Option (Int32 × z_G)) → S → Option (Int32 × z_G)} {P : S → Prop} (hs : ∀ k : S → Option (Int32 × z_G), (∀ w, P w → z_Fr t g0 (k w)) → ∀ w, P w → z_Fr t g0 (step k w)) : ∀ (n : Nat) (w : S), P w → z_Fr t g0 (z_loop step n w)
  | 0, _, _ => fr_none
  | n + 1, w, hw => hs (z_loop step n) (fun w hw => fr_loop hs n w hw) w hw
end ZFR
theorem z_tch_sub {rows rows1 : List Nat} {els els1 : List (Nat × Nat)} (h : (rows1.all (fun a => rows.contains a) && els1.all (fun e => rows.contains e.1 || els.contains e)) = true) : ∀ a j, z_tch rows els a j = false → z_tch rows1 els1 a j = false := by
  intro a j ht
  simp only [z_tch, Bool.or_eq_false_iff] at ht ⊢
  simp only [Bool.and_eq_true, List.all_eq_true, Bool.or_eq_true] at h
  refine ⟨?_, ?_⟩
  · cases hc : rows1.contains a with
    | false => rfl
    | true =>
      have := h.1 a (List.contains_iff_mem.mp hc)
      rw [this] at ht; cases ht.1
  · cases hc : els1.contains (a, j) with
    | false => rfl
    | true =>
      rcases h.2 (a, j) (List.contains_iff_mem.mp hc) with h9 | h9
      · simp only at h9; rw [h9] at ht; cases ht.1
      · rw [h9] at ht; cases ht.2
theorem z_tch_row {rows : List Nat} {els : List (Nat × Nat)} {r : Nat} (h : rows.contains r = true) (j : Nat) : z_tch rows els r j = true := by
  unfold z_tch; rw [h]; rfl
