/-! the state of a system: cell, place ↦ number; the pure words that the contracts speak in -/
abbrev z_G : Type := Nat → Nat → Int32
def z_up (g : z_G) (r i : Nat) (x : Int32) : z_G := fun a => if a = r then upd (g r) i x else g a
def z_row (g : z_G) (r : Nat) (f : Nat → Int32) : z_G := fun a => if a = r then f else g a
def z_let {α β : Type} (a : α) (f : α → β) : β := f a
def z_ck {α : Type} (i : Int32) (n : Nat) (k : Option α) : Option α := if i < 0 ∨ n ≤ i.toNatClampNeg then none else k
def z_bo {α : Type} (x : Int32) (k : Option α) : Option α := if x = 0 ∨ x = 1 then k else none
def z_bind {α : Type} (c : Option (Int32 × z_G)) (k : Int32 → z_G → Option α) : Option α := match c with
  | none => none
  | some u => k u.1 u.2
def z_loop {S α : Type} (step : (S → Option α) → S → Option α) : Nat → S → Option α
  | 0, _ => none
  | n + 1, s => step (z_loop step n) s
def z_fuel : Nat := 5000
theorem z_letE {α β : Type} {a x : α} {f : α → β} {r : β} (h : z_let a f = r) (e : x = a) : f x = r := by subst e; exact h
theorem z_ckE {α : Type} {i : Int32} {n : Nat} {k : Option α} {r : α} (h : z_ck i n k = some r) : vp_in i n ∧ k = some r := by
  unfold z_ck at h
  split at h
  · cases h
  · next hn => exact ⟨hn, h⟩
theorem z_boE {α : Type} {x : Int32} {k : Option α} {r : α} (h : z_bo x k = some r) : (x = 0 ∨ x = 1) ∧ k = some r := by
  unfold z_bo at h
  split at h
  · next hn => exact ⟨hn, h⟩
  · cases h
theorem z_bindE {α : Type} {c : Option (Int32 × z_G)} {k : Int32 → z_G → Option α} {r : α} (h : z_bind c k = some r) : ∃ (r1 : Int32) (g1 : z_G), c = some (r1, g1) ∧ k r1 g1 = some r := by
  unfold z_bind at h
  cases c with
  | none => cases h
  | some u => exact ⟨u.1, u.2, rfl, h⟩
theorem z_iteT {c : Prop} [Decidable c] {α : Type} {a b : α} {r : α} (h : (if c then a else b) = r) (hc : c) : a = r := by rw [if_pos hc] at h; exact h
theorem z_iteF {c : Prop} [Decidable c] {α : Type} {a b : α} {r : α} (h : (if c then a else b) = r) (hc : ¬ c) : b = r := by rw [if_neg hc] at h; exact h
theorem z_loopE {S α : Type} {step : (S → Option α) → S → Option α} {P : S → Prop} {r : α} (h : ∀ k : S → Option α, (∀ s, k s = some r → P s) → ∀ s, step k s = some r → P s) : ∀ n s, z_loop step n s = some r → P s
  | 0, _, e => by cases e
  | n + 1, s, e => h (z_loop step n) (fun s e => z_loopE h n s e) s e
/-! worlds -/
def z_A (Wd : z_G → va_W) (sz : Nat) : Nat → Prop := va_A (Wd (fun _ _ => 0)) sz
def z_Wok (Wd : z_G → va_W) : Prop := ∀ (g g' : z_G) (k a : Nat) (e : va_E), (Wd g)[k]? = some (a, e) → ∃ e' : va_E, (Wd g')[k]? = some (a, e')
abbrev z_ZT : Type := (Nat → Prop) → State → Heap → Prop
def z_Zok (Zt : z_ZT) : Prop := ((∀ (A : Nat → Prop) (u U : State) (H : Heap), U.vm = u.vm → Zt A u H → Zt A U H) ∧ ∀ (A : Nat → Prop) (u U : State) (H : Heap), u.WarmedH U.vm → Zt A u H → Zt A U H) ∧ (∀ (A : Nat → Prop) (U : State) (H H1 : Heap), Zt A U H → (∀ a : Nat, a < H.size → ¬ A a → H1[a]? = H[a]?) → Zt A U H1) ∧ ∀ (A B : Nat → Prop) (U : State) (H : Heap), Zt A U H → (∀ q, B q → A q) → Zt B U H
def z_S (D : va_G) (A : Nat → Prop) (Wd : z_G → va_W) (s : State) (g : z_G) (H : Heap) (locs : List Loc) : Prop := va_P D vwCl (Wd g) H ∧ va_D A (Wd g) ∧ va_S A s.heap H locs
def z_J (p : Program) (l : Launch) (e : Env) (R : Room) (s : State) (m : MethodId) (args : Array Value) (below : List Frame) (meth : Method) (c : Code) (Q : State → Prop) (D : va_G) (A : Nat → Prop) (Wd : z_G → va_W) (nL : Nat) (pc : Nat) (lv : List (Nat × Value)) (st : List Value) (g : z_G) : Prop :=
  ∀ (H : Heap) (locs : List Loc) (ls : Array Slot), z_S D A Wd s g H locs → lv_has ls nL lv → W p l e R s m args below meth c H locs 0 0 Q (F0 m pc ls st)
def z_U (D : va_G) (tys : List (ClassId × FieldType)) (Wd : z_G → va_W) (Zt : z_ZT) (g : z_G) (sz : Nat) (U : State) : Prop := U.heap.size = sz ∧ va_P D vwCl (Wd g) U.heap ∧ va_K D vwCl tys U ∧ va_D (fun _ => True) (Wd g) ∧ Zt (z_A Wd sz) U U.heap
def z_B (D : va_G) (tys : List (ClassId × FieldType)) (Wd : z_G → va_W) (sz : Nat) (u : z_G) (t : State) : Prop := va_P D vwCl (Wd u) t.heap ∧ va_K D vwCl tys t ∧ va_D (z_A Wd sz) (Wd u)
def z_Q (D : va_G) (tys : List (ClassId × FieldType)) (Wd : z_G → va_W) (o : Option Int32) (g' : z_G) (sz : Nat) : Array Value → State → Outcome → State → Prop := match o with
  | some r => va_Qi (fun (r2 : Int32) (u : z_G) => r2 = r ∧ u = g') (z_B D tys Wd sz) (z_A Wd sz)
  | none => va_Qv (fun u : z_G => u = g') (z_B D tys Wd sz) (z_A Wd sz)
/-- a method's contract: from the state g it comes to g', and answers o -/
def z_C (l : Launch) (y : MethodName) (ws : List Cond) (rm : Room) (D : va_G) (tys : List (ClassId × FieldType)) (Wd : z_G → va_W) (Zt : z_ZT) (As : List Value) (g : z_G) (o : Option Int32) (g' : z_G) : Prop :=
  ∀ sz : Nat, Met l y ws rm (va_Pc As (z_U D tys Wd Zt g sz)) (z_Q D tys Wd o g' sz) 0 0 (z_A Wd sz)
def z_QI (D : va_G) (tys : List (ClassId × FieldType)) (Wd : z_G → va_W) (o : Option Int32) (g' : z_G) : List Frame → Array Value → State → State → Prop := fun below args s => MQ below (z_Q D tys Wd o g' s.heap.size) args s 0 0 (z_A Wd s.heap.size)
def z_X0 : Code → State → Prop := fun _ _ => True
/-- the context of a body's walk: J is its judgement -/
def z_Cx (J : Nat → List (Nat × Value) → List Value → z_G → Prop) (l : Launch) (cc : ByteArray) (nL : Nat) (Ts : List Cond) (own : String) (ret : Option FieldType) (R : Room) (D : va_G) (tys : List (ClassId × FieldType)) (Wd : z_G → va_W) (Zt : z_ZT) (QQ : List Frame → Array Value → State → State → Prop) (XX : Code → State → Prop) : Prop :=
  ∃ (p : Program) (e : Env) (s : State) (m : MethodId) (args : Array Value) (below : List Frame) (meth : Method) (c : Code),
    J = z_J p l e R s m args below meth c (QQ below args s) D (z_A Wd s.heap.size) Wd nL ∧ XX c s ∧
    p.tables.exec = Jvm.exec ∧ c.code = cc ∧ c.maxLocals = nL ∧ meth.sig.returnType = ret ∧ meth.locks = false ∧ (∀ w ∈ Ts, w.before args s = true) ∧ s.vm.findClass own = some m.cls ∧ va_K D vwCl tys s ∧ Zt (z_A Wd s.heap.size) s s.heap ∧ z_Wok Wd ∧ z_Zok Zt
theorem z_Wok.D {Wd : z_G → va_W} (h : z_Wok Wd) {A : Nat → Prop} {g : z_G} {sz : Nat} (hD : va_D A (Wd g)) : va_D (z_A Wd sz) (Wd g) := by
  refine ⟨hD.1, fun k q hk => ?_⟩
  obtain ⟨e', he⟩ := h g (fun _ _ => 0) k q.1 q.2 hk
  exact Or.inl ⟨k, e', he⟩
theorem z_Wok.A {Wd : z_G → va_W} (h : z_Wok Wd) {A : Nat → Prop} {g : z_G} {H0 H : Heap} {locs : List Loc} (hD : va_D A (Wd g)) (hS : va_S A H0 H locs) (hA : ∀ q, H0.size ≤ q → A q) : ∀ q, z_A Wd H.size q → A q := by
  intro q hq
  rcases hq with ⟨k, e, hk⟩ | hq
  · obtain ⟨e', he⟩ := h (fun _ _ => 0) g k q e hk
    exact hD.2 k (q, e') he
  · exact hA q (Nat.le_trans hS.1 hq)
/-- a body's walk gives its contract -/
theorem z_enter {l : Launch} {y : MethodName} {ws ws' : List Cond} {cc : ByteArray} {nL : Nat} {ret : Option FieldType} {rm : Room} {D : va_G} {tys : List (ClassId × FieldType)} {Wd : z_G → va_W} {Zt : z_ZT} {As : List Value} {g g' : z_G} {o : Option Int32} (hWd : z_Wok Wd) (hZt : z_Zok Zt)
    (hy : plainName y.cls = true) (hw : ws = Cond.code y cc nL ret :: ws') (hn : (lg_sl As).length ≤ nL)
    (body : ∀ J : Nat → List (Nat × Value) → List Value → z_G → Prop, z_Cx J l cc nL ws y.cls ret rm D tys Wd Zt (z_QI D tys Wd o g') z_X0 → J 0 (lv_args 0 As) [] g) : z_C l y ws rm D tys Wd Zt As g o g' := by
  intro sz
  refine Met.ofW (cc := cc) (maxL := nL) (ret := ret) hy hw ?_
  intro p e s m args below meth c s₁ B hml hv
  obtain ⟨rfl, hsz, hP, hK, hD0, hZ⟩ := hv
  have hts := atoms_spec (ws := ws) B.pre
  have hown : s.vm.findClass y.cls = some m.cls := findClass_of_methodNamed B.named
  subst hsz
  have hl := lv_entry As (n := nL) hn
  rw [lg_entry_eq]
  exact body _ ⟨p, e, s, m, As.toArray, below, meth, c, rfl, trivial, B.exec, B.bytes, hml, B.returns, B.notSynchronized, hts, hown, hK, hZ, hWd, hZt⟩ s.heap [] _ ⟨hP, hWd.D hD0, va_S.rf⟩ hl
section ZROWS
variable {J : Nat → List (Nat × Value) → List Value → z_G → Prop} {l : Launch} {cc : ByteArray} {nL : Nat} {Ts : List Cond} {own : String} {ret : Option FieldType} {R : Room} {D : va_G} {tys : List (ClassId × FieldType)} {Wd : z_G → va_W} {Zt : z_ZT} {QQ : List Frame → Array Value → State → State → Prop} {XX : Code → State → Prop} {g' : z_G}
variable {pc : Nat} {lv : List (Nat × Value)} {st : List Value} {g : z_G}
/-- its ends -/
theorem zj_iret {r : Int32} (hC : z_Cx J l cc nL Ts own (some .int) R D tys Wd Zt (z_QI D tys Wd (some r) g') XX) (hdg : decode cc pc = .ok (.ireturn, 1)) : J pc lv [.int r] g' := by
  obtain ⟨p, e, s, m, args, below, meth, c, rfl, hXX, hx, hb, hml, hr, hlocks, hts, hown, hK, hZ, hWd, hZt⟩ := hC
  intro H locs ls hY hl
  exact W.iret hx hb hr (fun t ht hW => ⟨⟨r, g', rfl, ⟨rfl, rfl⟩, by rw [ht]; exact hY.1, va_K.moved hW.alike hK, hY.2.1⟩, hY.2.2.F ht⟩) hY.2.2.2.2 hdg hlocks
theorem zj_zret {r : Int32} (hC : z_Cx J l cc nL Ts own (some .boolean) R D tys Wd Zt (z_QI D tys Wd (some r) g') XX) (hr01 : r = 0 ∨ r = 1) (hdg : decode cc pc = .ok (.ireturn, 1)) : J pc lv [.int r] g' := by
  obtain ⟨p, e, s, m, args, below, meth, c, rfl, hXX, hx, hb, hml, hr, hlocks, hts, hown, hK, hZ, hWd, hZt⟩ := hC
  intro H locs ls hY hl
  exact W.zret hx hb hr (by rcases hr01 with h | h <;> rw [h] <;> rfl) (fun t ht hW => ⟨⟨r, g', rfl, ⟨rfl, rfl⟩, by rw [ht]; exact hY.1, va_K.moved hW.alike hK, hY.2.1⟩, hY.2.2.F ht⟩) hY.2.2.2.2 hdg hlocks
theorem zj_vret (hC : z_Cx J l cc nL Ts own none R D tys Wd Zt (z_QI D tys Wd none g') XX) (hdg : decode cc pc = .ok (.return_, 1)) : J pc lv [] g' := by
  obtain ⟨p, e, s, m, args, below, meth, c, rfl, hXX, hx, hb, hml, hr, hlocks, hts, hown, hK, hZ, hWd, hZt⟩ := hC
  intro H locs ls hY hl
  exact W.vret hx hb hr (fun t ht hW => ⟨⟨g', rfl, rfl, by rw [ht]; exact hY.1, va_K.moved hW.alike hK, hY.2.1⟩, hY.2.2.F ht⟩) hY.2.2.2.2 hdg hlocks
/-- fewer locals, in another order -/
theorem zj_sub {lv' : List (Nat × Value)} (hC : z_Cx J l cc nL Ts own ret R D tys Wd Zt QQ XX) (ks : List Nat) (hk : lv_pick lv ks = lv') (k : J pc lv' st g) : J pc lv st g := by
  obtain ⟨p, e, s, m, args, below, meth, c, rfl, hXX, hx, hb, hml, hr, hlocks, hts, hown, hK, hZ, hWd, hZt⟩ := hC
  intro H locs ls hY hl
  exact k H locs ls hY (lv_sub hl ks hk)
/-- the number on top gets a name -/
theorem zj_top {x : Int32} (k : ∀ y : Int32, y = x → J pc lv (.int y :: st) g) : J pc lv (.int x :: st) g := k x rfl
theorem zj_iconst {n : Int} {v : Int32} (hC : z_Cx J l cc nL Ts own ret R D tys Wd Zt QQ XX) (hdg : decode cc pc = .ok (.iconst n, 1)) (hv : Int32.ofInt n = v) (k : J (pc + 1) lv (.int v :: st) g) : J pc lv (st) g := by
  obtain ⟨p, e, s, m, args, below, meth, c, rfl, hXX, hx, hb, hml, hr, hlocks, hts, hown, hK, hZ, hWd, hZt⟩ := hC
  intro H locs ls hY hl
  exact lv_iconst hx hb hdg hv (k H locs ls hY hl)
theorem zj_bipush {n : Int} {v : Int32} (hC : z_Cx J l cc nL Ts own ret R D tys Wd Zt QQ XX) (hdg : decode cc pc = .ok (.bipush n, 2)) (hv : (Int8.ofInt n).toInt32 = v) (k : J (pc + 2) lv (.int v :: st) g) : J pc lv (st) g := by
  obtain ⟨p, e, s, m, args, below, meth, c, rfl, hXX, hx, hb, hml, hr, hlocks, hts, hown, hK, hZ, hWd, hZt⟩ := hC
  intro H locs ls hY hl
  exact lv_bipush hx hb hdg hv (k H locs ls hY hl)
theorem zj_sipush {n : Int} {v : Int32} (hC : z_Cx J l cc nL Ts own ret R D tys Wd Zt QQ XX) (hdg : decode cc pc = .ok (.sipush n, 3)) (hv : (Int16.ofInt n).toInt32 = v) (k : J (pc + 3) lv (.int v :: st) g) : J pc lv (st) g := by
  obtain ⟨p, e, s, m, args, below, meth, c, rfl, hXX, hx, hb, hml, hr, hlocks, hts, hown, hK, hZ, hWd, hZt⟩ := hC
  intro H locs ls hY hl
  exact lv_sipush hx hb hdg hv (k H locs ls hY hl)
theorem zj_lconst {n : Fin 2} {v : Int64} (hC : z_Cx J l cc nL Ts own ret R D tys Wd Zt QQ XX) (hdg : decode cc pc = .ok (.lconst n, 1)) (hv : Int64.ofNat (n : Nat) = v) (k : J (pc + 1) lv (.long v :: st) g) : J pc lv (st) g := by
  obtain ⟨p, e, s, m, args, below, meth, c, rfl, hXX, hx, hb, hml, hr, hlocks, hts, hown, hK, hZ, hWd, hZt⟩ := hC
  intro H locs ls hY hl
  exact lv_lconst hx hb hdg hv (k H locs ls hY hl)
theorem zj_ldc {index : Nat} {v : Int32} (hC : z_Cx J l cc nL Ts own ret R D tys Wd Zt QQ XX) (hw : Cond.constant own index v ∈ Ts) (hdg : decode cc pc = .ok (.ldc index, 2)) (k : J (pc + 2) lv (.int v :: st) g) : J pc lv st g := by
  obtain ⟨p, e, s, m, args, below, meth, c, rfl, hXX, hx, hb, hml, hr, hlocks, hts, hown, hK, hZ, hWd, hZt⟩ := hC
  intro H locs ls hY hl
  exact lv_ldc hx hb hown (hts _ hw) hdg (k H locs ls hY hl)
theorem zj_ldcw {index : Nat} {v : Int32} (hC : z_Cx J l cc nL Ts own ret R D tys Wd Zt QQ XX) (hw : Cond.constant own index v ∈ Ts) (hdg : decode cc pc = .ok (.ldc_w index, 3)) (k : J (pc + 3) lv (.int v :: st) g) : J pc lv st g := by
  obtain ⟨p, e, s, m, args, below, meth, c, rfl, hXX, hx, hb, hml, hr, hlocks, hts, hown, hK, hZ, hWd, hZt⟩ := hC
  intro H locs ls hY hl
  exact lv_ldcw hx hb hown (hts _ hw) hdg (k H locs ls hY hl)
theorem zj_ldc2 {index : Nat} {v : Int64} (hC : z_Cx J l cc nL Ts own ret R D tys Wd Zt QQ XX) (hw : Cond.constantLong own index v ∈ Ts) (hdg : decode cc pc = .ok (.ldc2_w index, 3)) (k : J (pc + 3) lv (.long v :: st) g) : J pc lv st g := by
  obtain ⟨p, e, s, m, args, below, meth, c, rfl, hXX, hx, hb, hml, hr, hlocks, hts, hown, hK, hZ, hWd, hZt⟩ := hC
  intro H locs ls hY hl
  exact lv_ldc2 hx hb hown (hts _ hw) hdg (k H locs ls hY hl)
theorem zj_iload_n {i : Fin 4} {x : Int32} (j : Nat) (hC : z_Cx J l cc nL Ts own ret R D tys Wd Zt QQ XX) (hdg : decode cc pc = .ok (.iload_n i, 1)) (hj : lv[j]? = some (i.val, .int x)) (k : J (pc + 1) lv (.int x :: st) g) : J pc lv st g := by
  obtain ⟨p, e, s, m, args, below, meth, c, rfl, hXX, hx, hb, hml, hr, hlocks, hts, hown, hK, hZ, hWd, hZt⟩ := hC
  intro H locs ls hY hl
  exact lv_iload_n hx hb hdg rfl (lv_at hl j hj) (k H locs ls hY hl)
theorem zj_iload {i : Nat} {x : Int32} (j : Nat) (hC : z_Cx J l cc nL Ts own ret R D tys Wd Zt QQ XX) (hdg : decode cc pc = .ok (.iload i, 2)) (hj : lv[j]? = some (i, .int x)) (k : J (pc + 2) lv (.int x :: st) g) : J pc lv st g := by
  obtain ⟨p, e, s, m, args, below, meth, c, rfl, hXX, hx, hb, hml, hr, hlocks, hts, hown, hK, hZ, hWd, hZt⟩ := hC
  intro H locs ls hY hl
  exact lv_iload hx hb hdg (lv_at hl j hj) (k H locs ls hY hl)
theorem zj_lload_n {i : Fin 4} {x : Int64} (j : Nat) (hC : z_Cx J l cc nL Ts own ret R D tys Wd Zt QQ XX) (hdg : decode cc pc = .ok (.lload_n i, 1)) (hj : lv[j]? = some (i.val, .long x)) (k : J (pc + 1) lv (.long x :: st) g) : J pc lv st g := by
  obtain ⟨p, e, s, m, args, below, meth, c, rfl, hXX, hx, hb, hml, hr, hlocks, hts, hown, hK, hZ, hWd, hZt⟩ := hC
  intro H locs ls hY hl
  exact lv_lload_n hx hb hdg rfl (lv_at hl j hj) (k H locs ls hY hl)
theorem zj_lload {i : Nat} {x : Int64} (j : Nat) (hC : z_Cx J l cc nL Ts own ret R D tys Wd Zt QQ XX) (hdg : decode cc pc = .ok (.lload i, 2)) (hj : lv[j]? = some (i, .long x)) (k : J (pc + 2) lv (.long x :: st) g) : J pc lv st g := by
  obtain ⟨p, e, s, m, args, below, meth, c, rfl, hXX, hx, hb, hml, hr, hlocks, hts, hown, hK, hZ, hWd, hZt⟩ := hC
  intro H locs ls hY hl
  exact lv_lload hx hb hdg (lv_at hl j hj) (k H locs ls hY hl)
theorem zj_aload_n {i : Fin 4} {x : Nat} (j : Nat) (hC : z_Cx J l cc nL Ts own ret R D tys Wd Zt QQ XX) (hdg : decode cc pc = .ok (.aload_n i, 1)) (hj : lv[j]? = some (i.val, .ref x)) (k : J (pc + 1) lv (.ref x :: st) g) : J pc lv st g := by
  obtain ⟨p, e, s, m, args, below, meth, c, rfl, hXX, hx, hb, hml, hr, hlocks, hts, hown, hK, hZ, hWd, hZt⟩ := hC
  intro H locs ls hY hl
  exact lv_aload_n hx hb hdg rfl (lv_at hl j hj) (k H locs ls hY hl)
theorem zj_aload {i : Nat} {x : Nat} (j : Nat) (hC : z_Cx J l cc nL Ts own ret R D tys Wd Zt QQ XX) (hdg : decode cc pc = .ok (.aload i, 2)) (hj : lv[j]? = some (i, .ref x)) (k : J (pc + 2) lv (.ref x :: st) g) : J pc lv st g := by
  obtain ⟨p, e, s, m, args, below, meth, c, rfl, hXX, hx, hb, hml, hr, hlocks, hts, hown, hK, hZ, hWd, hZt⟩ := hC
  intro H locs ls hY hl
  exact lv_aload hx hb hdg (lv_at hl j hj) (k H locs ls hY hl)
theorem zj_istore_n {i : Fin 4} {x : Int32} {lv1 : List (Nat × Value)} (hC : z_Cx J l cc nL Ts own ret R D tys Wd Zt QQ XX) (hdg : decode cc pc = .ok (.istore_n i, 1)) (hn : i.val < nL) (hl1 : (i.val, Value.int x) :: lv.filter (fun q => !(q.1 == i.val) && !(q.1 + 1 == i.val && q.2.category == 2)) = lv1) (k : J (pc + 1) lv1 st g) : J pc lv (.int x :: st) g := by
  obtain ⟨p, e, s, m, args, below, meth, c, rfl, hXX, hx, hb, hml, hr, hlocks, hts, hown, hK, hZ, hWd, hZt⟩ := hC
  intro H locs ls hY hl
  exact lv_istore_n hx hb hdg rfl hl hn hl1 (fun ls1 hl2 => k H locs ls1 hY hl2)
theorem zj_istore {i : Nat} {x : Int32} {lv1 : List (Nat × Value)} (hC : z_Cx J l cc nL Ts own ret R D tys Wd Zt QQ XX) (hdg : decode cc pc = .ok (.istore i, 2)) (hn : i < nL) (hl1 : (i, Value.int x) :: lv.filter (fun q => !(q.1 == i) && !(q.1 + 1 == i && q.2.category == 2)) = lv1) (k : J (pc + 2) lv1 st g) : J pc lv (.int x :: st) g := by
  obtain ⟨p, e, s, m, args, below, meth, c, rfl, hXX, hx, hb, hml, hr, hlocks, hts, hown, hK, hZ, hWd, hZt⟩ := hC
  intro H locs ls hY hl
  exact lv_istore hx hb hdg hl hn hl1 (fun ls1 hl2 => k H locs ls1 hY hl2)
theorem zj_astore_n {i : Fin 4} {x : Nat} {lv1 : List (Nat × Value)} (hC : z_Cx J l cc nL Ts own ret R D tys Wd Zt QQ XX) (hdg : decode cc pc = .ok (.astore_n i, 1)) (hn : i.val < nL) (hl1 : (i.val, Value.ref x) :: lv.filter (fun q => !(q.1 == i.val) && !(q.1 + 1 == i.val && q.2.category == 2)) = lv1) (k : J (pc + 1) lv1 st g) : J pc lv (.ref x :: st) g := by
  obtain ⟨p, e, s, m, args, below, meth, c, rfl, hXX, hx, hb, hml, hr, hlocks, hts, hown, hK, hZ, hWd, hZt⟩ := hC
  intro H locs ls hY hl
  exact lv_astore_n hx hb hdg rfl hl hn hl1 (fun ls1 hl2 => k H locs ls1 hY hl2)
theorem zj_astore {i : Nat} {x : Nat} {lv1 : List (Nat × Value)} (hC : z_Cx J l cc nL Ts own ret R D tys Wd Zt QQ XX) (hdg : decode cc pc = .ok (.astore i, 2)) (hn : i < nL) (hl1 : (i, Value.ref x) :: lv.filter (fun q => !(q.1 == i) && !(q.1 + 1 == i && q.2.category == 2)) = lv1) (k : J (pc + 2) lv1 st g) : J pc lv (.ref x :: st) g := by
  obtain ⟨p, e, s, m, args, below, meth, c, rfl, hXX, hx, hb, hml, hr, hlocks, hts, hown, hK, hZ, hWd, hZt⟩ := hC
  intro H locs ls hY hl
  exact lv_astore hx hb hdg hl hn hl1 (fun ls1 hl2 => k H locs ls1 hY hl2)
theorem zj_iinc {i : Nat} {n : Int} {x : Int32} {lv1 : Int32 → List (Nat × Value)} (j : Nat) (hC : z_Cx J l cc nL Ts own ret R D tys Wd Zt QQ XX) (hdg : decode cc pc = .ok (.iinc i n, 3)) (hj : lv[j]? = some (i, .int x)) (hn : i < nL) (hl1 : ∀ v : Int32, (i, Value.int v) :: lv.filter (fun q => !(q.1 == i) && !(q.1 + 1 == i && q.2.category == 2)) = lv1 v) (k : ∀ v : Int32, v = x + Int32.ofInt n → J (pc + 3) (lv1 v) st g) : J pc lv st g := by
  obtain ⟨p, e, s, m, args, below, meth, c, rfl, hXX, hx, hb, hml, hr, hlocks, hts, hown, hK, hZ, hWd, hZt⟩ := hC
  intro H locs ls hY hl
  exact lv_iinc (v := x + Int32.ofInt n) hx hb hdg hl (k := j) hj rfl hn (hl1 _) (fun ls1 hl2 => k _ rfl H locs ls1 hY hl2)
theorem zj_iadd {x y : Int32} (hC : z_Cx J l cc nL Ts own ret R D tys Wd Zt QQ XX) (hdg : decode cc pc = .ok (.iadd, 1))  (k : J (pc + 1) lv (.int (x + y) :: st) g) : J pc lv (.int y :: .int x :: st) g := by
  obtain ⟨p, e, s, m, args, below, meth, c, rfl, hXX, hx, hb, hml, hr, hlocks, hts, hown, hK, hZ, hWd, hZt⟩ := hC
  intro H locs ls hY hl
  exact lv_iadd hx hb hdg (k H locs ls hY hl)
theorem zj_isub {x y : Int32} (hC : z_Cx J l cc nL Ts own ret R D tys Wd Zt QQ XX) (hdg : decode cc pc = .ok (.isub, 1))  (k : J (pc + 1) lv (.int (x - y) :: st) g) : J pc lv (.int y :: .int x :: st) g := by
  obtain ⟨p, e, s, m, args, below, meth, c, rfl, hXX, hx, hb, hml, hr, hlocks, hts, hown, hK, hZ, hWd, hZt⟩ := hC
  intro H locs ls hY hl
  exact lv_isub hx hb hdg (k H locs ls hY hl)
theorem zj_imul {x y : Int32} (hC : z_Cx J l cc nL Ts own ret R D tys Wd Zt QQ XX) (hdg : decode cc pc = .ok (.imul, 1))  (k : J (pc + 1) lv (.int (x * y) :: st) g) : J pc lv (.int y :: .int x :: st) g := by
  obtain ⟨p, e, s, m, args, below, meth, c, rfl, hXX, hx, hb, hml, hr, hlocks, hts, hown, hK, hZ, hWd, hZt⟩ := hC
  intro H locs ls hY hl
  exact lv_imul hx hb hdg (k H locs ls hY hl)
theorem zj_iand {x y : Int32} (hC : z_Cx J l cc nL Ts own ret R D tys Wd Zt QQ XX) (hdg : decode cc pc = .ok (.iand, 1))  (k : J (pc + 1) lv (.int (x &&& y) :: st) g) : J pc lv (.int y :: .int x :: st) g := by
  obtain ⟨p, e, s, m, args, below, meth, c, rfl, hXX, hx, hb, hml, hr, hlocks, hts, hown, hK, hZ, hWd, hZt⟩ := hC
  intro H locs ls hY hl
  exact lv_iand hx hb hdg (k H locs ls hY hl)
theorem zj_ior {x y : Int32} (hC : z_Cx J l cc nL Ts own ret R D tys Wd Zt QQ XX) (hdg : decode cc pc = .ok (.ior, 1))  (k : J (pc + 1) lv (.int (x ||| y) :: st) g) : J pc lv (.int y :: .int x :: st) g := by
  obtain ⟨p, e, s, m, args, below, meth, c, rfl, hXX, hx, hb, hml, hr, hlocks, hts, hown, hK, hZ, hWd, hZt⟩ := hC
  intro H locs ls hY hl
  exact lv_ior hx hb hdg (k H locs ls hY hl)
theorem zj_ixor {x y : Int32} (hC : z_Cx J l cc nL Ts own ret R D tys Wd Zt QQ XX) (hdg : decode cc pc = .ok (.ixor, 1))  (k : J (pc + 1) lv (.int (x ^^^ y) :: st) g) : J pc lv (.int y :: .int x :: st) g := by
  obtain ⟨p, e, s, m, args, below, meth, c, rfl, hXX, hx, hb, hml, hr, hlocks, hts, hown, hK, hZ, hWd, hZt⟩ := hC
  intro H locs ls hY hl
  exact lv_ixor hx hb hdg (k H locs ls hY hl)
theorem zj_ishl {x y : Int32} (hC : z_Cx J l cc nL Ts own ret R D tys Wd Zt QQ XX) (hdg : decode cc pc = .ok (.ishl, 1))  (k : J (pc + 1) lv (.int (x <<< (y &&& 31)) :: st) g) : J pc lv (.int y :: .int x :: st) g := by
  obtain ⟨p, e, s, m, args, below, meth, c, rfl, hXX, hx, hb, hml, hr, hlocks, hts, hown, hK, hZ, hWd, hZt⟩ := hC
  intro H locs ls hY hl
  exact lv_ishl hx hb hdg (k H locs ls hY hl)
theorem zj_ishr {x y : Int32} (hC : z_Cx J l cc nL Ts own ret R D tys Wd Zt QQ XX) (hdg : decode cc pc = .ok (.ishr, 1))  (k : J (pc + 1) lv (.int (x >>> (y &&& 31)) :: st) g) : J pc lv (.int y :: .int x :: st) g := by
  obtain ⟨p, e, s, m, args, below, meth, c, rfl, hXX, hx, hb, hml, hr, hlocks, hts, hown, hK, hZ, hWd, hZt⟩ := hC
  intro H locs ls hY hl
  exact lv_ishr hx hb hdg (k H locs ls hY hl)
theorem zj_idiv {x y : Int32} (hC : z_Cx J l cc nL Ts own ret R D tys Wd Zt QQ XX) (hdg : decode cc pc = .ok (.idiv, 1)) (hne : ¬ y = 0) (k : J (pc + 1) lv (.int (x / y) :: st) g) : J pc lv (.int y :: .int x :: st) g := by
  obtain ⟨p, e, s, m, args, below, meth, c, rfl, hXX, hx, hb, hml, hr, hlocks, hts, hown, hK, hZ, hWd, hZt⟩ := hC
  intro H locs ls hY hl
  exact lv_idiv hx hb hdg hne (k H locs ls hY hl)
theorem zj_irem {x y : Int32} (hC : z_Cx J l cc nL Ts own ret R D tys Wd Zt QQ XX) (hdg : decode cc pc = .ok (.irem, 1)) (hne : ¬ y = 0) (k : J (pc + 1) lv (.int (x - x / y * y) :: st) g) : J pc lv (.int y :: .int x :: st) g := by
  obtain ⟨p, e, s, m, args, below, meth, c, rfl, hXX, hx, hb, hml, hr, hlocks, hts, hown, hK, hZ, hWd, hZt⟩ := hC
  intro H locs ls hY hl
  exact lv_irem hx hb hdg hne (k H locs ls hY hl)
theorem zj_ineg {x : Int32} (hC : z_Cx J l cc nL Ts own ret R D tys Wd Zt QQ XX) (hdg : decode cc pc = .ok (.ineg, 1))  (k : J (pc + 1) lv (.int (-x) :: st) g) : J pc lv (.int x :: st) g := by
  obtain ⟨p, e, s, m, args, below, meth, c, rfl, hXX, hx, hb, hml, hr, hlocks, hts, hown, hK, hZ, hWd, hZt⟩ := hC
  intro H locs ls hY hl
  exact lv_ineg hx hb hdg (k H locs ls hY hl)
theorem zj_iushr {x y : Int32} (hC : z_Cx J l cc nL Ts own ret R D tys Wd Zt QQ XX) (hdg : decode cc pc = .ok (.iushr, 1))  (k : J (pc + 1) lv (.int (x.toUInt32 >>> (y.toUInt32 &&& Int32.toUInt32 31)).toInt32 :: st) g) : J pc lv (.int y :: .int x :: st) g := by
  obtain ⟨p, e, s, m, args, below, meth, c, rfl, hXX, hx, hb, hml, hr, hlocks, hts, hown, hK, hZ, hWd, hZt⟩ := hC
  intro H locs ls hY hl
  exact lv_iushr hx hb hdg rfl (k H locs ls hY hl)
theorem zj_i2l {x : Int32} (hC : z_Cx J l cc nL Ts own ret R D tys Wd Zt QQ XX) (hdg : decode cc pc = .ok (.i2l, 1))  (k : J (pc + 1) lv (.long x.toInt64 :: st) g) : J pc lv (.int x :: st) g := by
  obtain ⟨p, e, s, m, args, below, meth, c, rfl, hXX, hx, hb, hml, hr, hlocks, hts, hown, hK, hZ, hWd, hZt⟩ := hC
  intro H locs ls hY hl
  exact lv_i2l hx hb hdg rfl (k H locs ls hY hl)
theorem zj_i2b {x : Int32} (hC : z_Cx J l cc nL Ts own ret R D tys Wd Zt QQ XX) (hdg : decode cc pc = .ok (.i2b, 1))  (k : J (pc + 1) lv (.int x.toInt8.toInt32 :: st) g) : J pc lv (.int x :: st) g := by
  obtain ⟨p, e, s, m, args, below, meth, c, rfl, hXX, hx, hb, hml, hr, hlocks, hts, hown, hK, hZ, hWd, hZt⟩ := hC
  intro H locs ls hY hl
  exact lv_i2b hx hb hdg rfl (k H locs ls hY hl)
theorem zj_i2s {x : Int32} (hC : z_Cx J l cc nL Ts own ret R D tys Wd Zt QQ XX) (hdg : decode cc pc = .ok (.i2s, 1))  (k : J (pc + 1) lv (.int x.toInt16.toInt32 :: st) g) : J pc lv (.int x :: st) g := by
  obtain ⟨p, e, s, m, args, below, meth, c, rfl, hXX, hx, hb, hml, hr, hlocks, hts, hown, hK, hZ, hWd, hZt⟩ := hC
  intro H locs ls hY hl
  exact lv_i2s hx hb hdg rfl (k H locs ls hY hl)
theorem zj_i2c {x : Int32} (hC : z_Cx J l cc nL Ts own ret R D tys Wd Zt QQ XX) (hdg : decode cc pc = .ok (.i2c, 1))  (k : J (pc + 1) lv (.int (x.toUInt32 % 65536).toInt32 :: st) g) : J pc lv (.int x :: st) g := by
  obtain ⟨p, e, s, m, args, below, meth, c, rfl, hXX, hx, hb, hml, hr, hlocks, hts, hown, hK, hZ, hWd, hZt⟩ := hC
  intro H locs ls hY hl
  exact lv_i2c hx hb hdg rfl (k H locs ls hY hl)
theorem zj_lcmp {x y : Int64} (hC : z_Cx J l cc nL Ts own ret R D tys Wd Zt QQ XX) (hdg : decode cc pc = .ok (.lcmp, 1))  (k : J (pc + 1) lv (.int (lg_cmp x y) :: st) g) : J pc lv (.long y :: .long x :: st) g := by
  obtain ⟨p, e, s, m, args, below, meth, c, rfl, hXX, hx, hb, hml, hr, hlocks, hts, hown, hK, hZ, hWd, hZt⟩ := hC
  intro H locs ls hY hl
  exact W.lcmp hx hb hdg (k H locs ls hY hl)
theorem zj_dup {va : Value} (hC : z_Cx J l cc nL Ts own ret R D tys Wd Zt QQ XX) (hdg : decode cc pc = .ok (.dup, 1)) (hva : va.category = 1) (k : J (pc + 1) lv (va :: va :: st) g) : J pc lv (va :: st) g := by
  obtain ⟨p, e, s, m, args, below, meth, c, rfl, hXX, hx, hb, hml, hr, hlocks, hts, hown, hK, hZ, hWd, hZt⟩ := hC
  intro H locs ls hY hl
  exact lv_dup hx hb hdg hva (k H locs ls hY hl)
theorem zj_pop {va : Value} (hC : z_Cx J l cc nL Ts own ret R D tys Wd Zt QQ XX) (hdg : decode cc pc = .ok (.pop, 1)) (hva : va.category = 1) (k : J (pc + 1) lv (st) g) : J pc lv (va :: st) g := by
  obtain ⟨p, e, s, m, args, below, meth, c, rfl, hXX, hx, hb, hml, hr, hlocks, hts, hown, hK, hZ, hWd, hZt⟩ := hC
  intro H locs ls hY hl
  exact lv_pop hx hb hdg hva (k H locs ls hY hl)
theorem zj_dup2 {va vb : Value} (hC : z_Cx J l cc nL Ts own ret R D tys Wd Zt QQ XX) (hdg : decode cc pc = .ok (.dup2, 1)) (hva : va.category = 1) (hvb : vb.category = 1) (k : J (pc + 1) lv (va :: vb :: va :: vb :: st) g) : J pc lv (va :: vb :: st) g := by
  obtain ⟨p, e, s, m, args, below, meth, c, rfl, hXX, hx, hb, hml, hr, hlocks, hts, hown, hK, hZ, hWd, hZt⟩ := hC
  intro H locs ls hY hl
  exact lv_dup2_11 hx hb hdg hva hvb (k H locs ls hY hl)
theorem zj_if_eq {x : Int32} {off : Int} (tgt : Nat) (hC : z_Cx J l cc nL Ts own ret R D tys Wd Zt QQ XX) (hdg : decode cc pc = .ok (.ifCond .eq off, 3)) (ht : (pc : Int) + off = (tgt : Int)) (kt : x = 0 → J tgt lv st g) (kf : ¬ x = 0 → J (pc + 3) lv st g) : J pc lv (.int x :: st) g := by
  obtain ⟨p, e, s, m, args, below, meth, c, rfl, hXX, hx, hb, hml, hr, hlocks, hts, hown, hK, hZ, hWd, hZt⟩ := hC
  intro H locs ls hY hl
  exact lv_if_eq hx hb hdg ht (fun q => kt q H locs ls hY hl) (fun q => kf q H locs ls hY hl)
theorem zj_icmp_eq {x y : Int32} {off : Int} (tgt : Nat) (hC : z_Cx J l cc nL Ts own ret R D tys Wd Zt QQ XX) (hdg : decode cc pc = .ok (.if_icmp .eq off, 3)) (ht : (pc : Int) + off = (tgt : Int)) (kt : x = y → J tgt lv st g) (kf : ¬ x = y → J (pc + 3) lv st g) : J pc lv (.int y :: .int x :: st) g := by
  obtain ⟨p, e, s, m, args, below, meth, c, rfl, hXX, hx, hb, hml, hr, hlocks, hts, hown, hK, hZ, hWd, hZt⟩ := hC
  intro H locs ls hY hl
  exact lv_icmp_eq hx hb hdg ht (fun q => kt q H locs ls hY hl) (fun q => kf q H locs ls hY hl)
theorem zj_if_ne {x : Int32} {off : Int} (tgt : Nat) (hC : z_Cx J l cc nL Ts own ret R D tys Wd Zt QQ XX) (hdg : decode cc pc = .ok (.ifCond .ne off, 3)) (ht : (pc : Int) + off = (tgt : Int)) (kt : ¬ x = 0 → J tgt lv st g) (kf : x = 0 → J (pc + 3) lv st g) : J pc lv (.int x :: st) g := by
  obtain ⟨p, e, s, m, args, below, meth, c, rfl, hXX, hx, hb, hml, hr, hlocks, hts, hown, hK, hZ, hWd, hZt⟩ := hC
  intro H locs ls hY hl
  exact lv_if_ne hx hb hdg ht (fun q => kt q H locs ls hY hl) (fun q => kf q H locs ls hY hl)
theorem zj_icmp_ne {x y : Int32} {off : Int} (tgt : Nat) (hC : z_Cx J l cc nL Ts own ret R D tys Wd Zt QQ XX) (hdg : decode cc pc = .ok (.if_icmp .ne off, 3)) (ht : (pc : Int) + off = (tgt : Int)) (kt : ¬ x = y → J tgt lv st g) (kf : x = y → J (pc + 3) lv st g) : J pc lv (.int y :: .int x :: st) g := by
  obtain ⟨p, e, s, m, args, below, meth, c, rfl, hXX, hx, hb, hml, hr, hlocks, hts, hown, hK, hZ, hWd, hZt⟩ := hC
  intro H locs ls hY hl
  exact lv_icmp_ne hx hb hdg ht (fun q => kt q H locs ls hY hl) (fun q => kf q H locs ls hY hl)
theorem zj_if_lt {x : Int32} {off : Int} (tgt : Nat) (hC : z_Cx J l cc nL Ts own ret R D tys Wd Zt QQ XX) (hdg : decode cc pc = .ok (.ifCond .lt off, 3)) (ht : (pc : Int) + off = (tgt : Int)) (kt : x < 0 → J tgt lv st g) (kf : ¬ x < 0 → J (pc + 3) lv st g) : J pc lv (.int x :: st) g := by
  obtain ⟨p, e, s, m, args, below, meth, c, rfl, hXX, hx, hb, hml, hr, hlocks, hts, hown, hK, hZ, hWd, hZt⟩ := hC
  intro H locs ls hY hl
  exact lv_if_lt hx hb hdg ht (fun q => kt q H locs ls hY hl) (fun q => kf q H locs ls hY hl)
theorem zj_icmp_lt {x y : Int32} {off : Int} (tgt : Nat) (hC : z_Cx J l cc nL Ts own ret R D tys Wd Zt QQ XX) (hdg : decode cc pc = .ok (.if_icmp .lt off, 3)) (ht : (pc : Int) + off = (tgt : Int)) (kt : x < y → J tgt lv st g) (kf : ¬ x < y → J (pc + 3) lv st g) : J pc lv (.int y :: .int x :: st) g := by
  obtain ⟨p, e, s, m, args, below, meth, c, rfl, hXX, hx, hb, hml, hr, hlocks, hts, hown, hK, hZ, hWd, hZt⟩ := hC
  intro H locs ls hY hl
  exact lv_icmp_lt hx hb hdg ht (fun q => kt q H locs ls hY hl) (fun q => kf q H locs ls hY hl)
theorem zj_if_ge {x : Int32} {off : Int} (tgt : Nat) (hC : z_Cx J l cc nL Ts own ret R D tys Wd Zt QQ XX) (hdg : decode cc pc = .ok (.ifCond .ge off, 3)) (ht : (pc : Int) + off = (tgt : Int)) (kt : 0 ≤ x → J tgt lv st g) (kf : ¬ 0 ≤ x → J (pc + 3) lv st g) : J pc lv (.int x :: st) g := by
  obtain ⟨p, e, s, m, args, below, meth, c, rfl, hXX, hx, hb, hml, hr, hlocks, hts, hown, hK, hZ, hWd, hZt⟩ := hC
  intro H locs ls hY hl
  exact lv_if_ge hx hb hdg ht (fun q => kt q H locs ls hY hl) (fun q => kf q H locs ls hY hl)
theorem zj_icmp_ge {x y : Int32} {off : Int} (tgt : Nat) (hC : z_Cx J l cc nL Ts own ret R D tys Wd Zt QQ XX) (hdg : decode cc pc = .ok (.if_icmp .ge off, 3)) (ht : (pc : Int) + off = (tgt : Int)) (kt : y ≤ x → J tgt lv st g) (kf : ¬ y ≤ x → J (pc + 3) lv st g) : J pc lv (.int y :: .int x :: st) g := by
  obtain ⟨p, e, s, m, args, below, meth, c, rfl, hXX, hx, hb, hml, hr, hlocks, hts, hown, hK, hZ, hWd, hZt⟩ := hC
  intro H locs ls hY hl
  exact lv_icmp_ge hx hb hdg ht (fun q => kt q H locs ls hY hl) (fun q => kf q H locs ls hY hl)
theorem zj_if_gt {x : Int32} {off : Int} (tgt : Nat) (hC : z_Cx J l cc nL Ts own ret R D tys Wd Zt QQ XX) (hdg : decode cc pc = .ok (.ifCond .gt off, 3)) (ht : (pc : Int) + off = (tgt : Int)) (kt : 0 < x → J tgt lv st g) (kf : ¬ 0 < x → J (pc + 3) lv st g) : J pc lv (.int x :: st) g := by
  obtain ⟨p, e, s, m, args, below, meth, c, rfl, hXX, hx, hb, hml, hr, hlocks, hts, hown, hK, hZ, hWd, hZt⟩ := hC
  intro H locs ls hY hl
  exact lv_if_gt hx hb hdg ht (fun q => kt q H locs ls hY hl) (fun q => kf q H locs ls hY hl)
theorem zj_icmp_gt {x y : Int32} {off : Int} (tgt : Nat) (hC : z_Cx J l cc nL Ts own ret R D tys Wd Zt QQ XX) (hdg : decode cc pc = .ok (.if_icmp .gt off, 3)) (ht : (pc : Int) + off = (tgt : Int)) (kt : y < x → J tgt lv st g) (kf : ¬ y < x → J (pc + 3) lv st g) : J pc lv (.int y :: .int x :: st) g := by
  obtain ⟨p, e, s, m, args, below, meth, c, rfl, hXX, hx, hb, hml, hr, hlocks, hts, hown, hK, hZ, hWd, hZt⟩ := hC
  intro H locs ls hY hl
  exact lv_icmp_gt hx hb hdg ht (fun q => kt q H locs ls hY hl) (fun q => kf q H locs ls hY hl)
theorem zj_if_le {x : Int32} {off : Int} (tgt : Nat) (hC : z_Cx J l cc nL Ts own ret R D tys Wd Zt QQ XX) (hdg : decode cc pc = .ok (.ifCond .le off, 3)) (ht : (pc : Int) + off = (tgt : Int)) (kt : x ≤ 0 → J tgt lv st g) (kf : ¬ x ≤ 0 → J (pc + 3) lv st g) : J pc lv (.int x :: st) g := by
  obtain ⟨p, e, s, m, args, below, meth, c, rfl, hXX, hx, hb, hml, hr, hlocks, hts, hown, hK, hZ, hWd, hZt⟩ := hC
  intro H locs ls hY hl
  exact lv_if_le hx hb hdg ht (fun q => kt q H locs ls hY hl) (fun q => kf q H locs ls hY hl)
theorem zj_icmp_le {x y : Int32} {off : Int} (tgt : Nat) (hC : z_Cx J l cc nL Ts own ret R D tys Wd Zt QQ XX) (hdg : decode cc pc = .ok (.if_icmp .le off, 3)) (ht : (pc : Int) + off = (tgt : Int)) (kt : x ≤ y → J tgt lv st g) (kf : ¬ x ≤ y → J (pc + 3) lv st g) : J pc lv (.int y :: .int x :: st) g := by
  obtain ⟨p, e, s, m, args, below, meth, c, rfl, hXX, hx, hb, hml, hr, hlocks, hts, hown, hK, hZ, hWd, hZt⟩ := hC
  intro H locs ls hY hl
  exact lv_icmp_le hx hb hdg ht (fun q => kt q H locs ls hY hl) (fun q => kf q H locs ls hY hl)
theorem zj_goto {off : Int} (tgt : Nat) (hC : z_Cx J l cc nL Ts own ret R D tys Wd Zt QQ XX) (hdg : decode cc pc = .ok (.goto off, 3)) (ht : (pc : Int) + off = (tgt : Int)) (k : J tgt lv st g) : J pc lv st g := by
  obtain ⟨p, e, s, m, args, below, meth, c, rfl, hXX, hx, hb, hml, hr, hlocks, hts, hown, hK, hZ, hWd, hZt⟩ := hC
  intro H locs ls hY hl
  exact lv_goto hx hb hdg ht (k H locs ls hY hl)
theorem zj_tabIn {dflt lo hi : Int} {offs : Array Int} {len : Nat} {x v : Int32} {off : Int} (tgt : Nat) (hC : z_Cx J l cc nL Ts own ret R D tys Wd Zt QQ XX) (hdg : decode cc pc = .ok (.tableswitch dflt lo hi offs, len)) (hv : x = v) (h1 : ¬ v.toInt < lo) (h2 : ¬ hi < v.toInt) (ho : offs[(v.toInt - lo).toNat]? = some off) (ht : (pc : Int) + off = (tgt : Int)) (k : J tgt lv st g) : J pc lv (.int x :: st) g := by
  obtain ⟨p, e, s, m, args, below, meth, c, rfl, hXX, hx, hb, hml, hr, hlocks, hts, hown, hK, hZ, hWd, hZt⟩ := hC
  intro H locs ls hY hl
  exact lv_tableIn hx hb hdg (by rw [hv]; exact h1) (by rw [hv]; exact h2) (by rw [hv]; exact ho) ht (k H locs ls hY hl)
theorem zj_tabOut {dflt lo hi : Int} {offs : Array Int} {len : Nat} {x : Int32} (tgt : Nat) (hC : z_Cx J l cc nL Ts own ret R D tys Wd Zt QQ XX) (hdg : decode cc pc = .ok (.tableswitch dflt lo hi offs, len)) (h : x.toInt < lo ∨ hi < x.toInt) (ht : (pc : Int) + dflt = (tgt : Int)) (k : J tgt lv st g) : J pc lv (.int x :: st) g := by
  obtain ⟨p, e, s, m, args, below, meth, c, rfl, hXX, hx, hb, hml, hr, hlocks, hts, hown, hK, hZ, hWd, hZt⟩ := hC
  intro H locs ls hY hl
  exact lv_tableOut hx hb hdg h ht (k H locs ls hY hl)
theorem zj_lookup {dflt : Int} {ps : Array (Int × Int)} {len : Nat} {x : Int32} {off : Int} (tgt : Nat) (hC : z_Cx J l cc nL Ts own ret R D tys Wd Zt QQ XX) (hdg : decode cc pc = .ok (.lookupswitch dflt ps, len)) (hp : (ps.toList.zip (ps.toList.drop 1)).all (fun (a, next) => a.1 < next.1) = true) (ho : Op.lookupswitch.offset ps.toList dflt x.toInt = off) (ht : (pc : Int) + off = (tgt : Int)) (k : J tgt lv st g) : J pc lv (.int x :: st) g := by
  obtain ⟨p, e, s, m, args, below, meth, c, rfl, hXX, hx, hb, hml, hr, hlocks, hts, hown, hK, hZ, hWd, hZt⟩ := hC
  intro H locs ls hY hl
  exact lv_lookup hx hb hdg hp ho ht (k H locs ls hY hl)
theorem zj_get {C : String} {T : u_T} {N ci index a : Nat} {ref : String} {fs : List Value} {v : Value} (hC : z_Cx J l cc nL Ts own ret R D tys Wd Zt QQ XX) (hin : ∀ w ∈ u_ws C T N, w ∈ Ts) (q0 : Nat) (he : (Wd g)[q0]? = some (a, .inr (ci, fs))) (hc : vwCl[ci]? = some (C, T, N)) (j : Nat) (hj : j < N) (hlink : Cond.fieldLink own index ref (T j).2.1 (T j).2.2.1 ∈ Ts) (href : (T j).1 = ref) (hv : fs[j]? = some v) (hdg : decode cc pc = .ok (.getfield index, 3)) (k : J (pc + 3) lv (v :: st) g) : J pc lv (.ref a :: st) g := by
  obtain ⟨p, e, s, m, args, below, meth, c, rfl, hXX, hx, hb, hml, hr, hlocks, hts, hown, hK, hZ, hWd, hZt⟩ := hC
  intro H locs ls hY hl
  exact va_get hx hb hts hin hown hK hY.1 q0 he hc j hj (hts _ hlink) (fun x h => by rw [← href]; exact h) hv hdg (k H locs ls hY hl)
theorem zj_put {C : String} {T : u_T} {N ci index a : Nat} {ref : String} {fs : List Value} {x : Int32} {ty : FieldType} (hC : z_Cx J l cc nL Ts own ret R D tys Wd Zt QQ XX) (hin : ∀ w ∈ u_ws C T N, w ∈ Ts) (ty0 : Nat → FieldType) (hty : ∀ k, k < N → parseFieldDescriptor (T k).2.2.1 = some (ty0 k)) (hnm : ∀ a, a < N → ∀ b, b < N → a ≠ b → (T a).2.1 ≠ (T b).2.1) (q0 : Nat) (he : (Wd g)[q0]? = some (a, .inr (ci, fs))) (hc : vwCl[ci]? = some (C, T, N)) (j : Nat) (hj : j < N) (hlink : Cond.fieldLink own index ref (T j).2.1 (T j).2.2.1 ∈ Ts) (href : (T j).1 = ref) (hfin : (T j).2.2.2 = false) (hd : parseFieldDescriptor (T j).2.2.1 = some ty) (hnr : narrow ty (.int x) = .int x) (hfit : fits ty (.int x) = true) (hl9 : j < fs.length) (hset : (Wd g).set q0 (a, .inr (ci, fs.set j (.int x))) = Wd (z_up g q0 j x)) (hdg : decode cc pc = .ok (.putfield index, 3)) (k : ∀ g1 : z_G, g1 = z_up g q0 j x → J (pc + 3) lv st g1) : J pc lv (.int x :: .ref a :: st) g := by
  obtain ⟨p, e, s, m, args, below, meth, c, rfl, hXX, hx, hb, hml, hr, hlocks, hts, hown, hK, hZ, hWd, hZt⟩ := hC
  intro H locs ls hY hl
  exact va_put hx hb hts hin ty0 hty hnm hown hK hY.1 hY.2.1 hY.2.2 q0 he hc j hj (hts _ hlink) (fun x h => by rw [← href]; exact h) hfin hd hnr hfit hl9 hdg (fun H1 locs1 h1 h2 h3 => k _ rfl H1 locs1 ls ⟨by rw [hset] at h1; exact h1, by rw [hset] at h2; exact h2, h3⟩ hl)
theorem zj_iald {a n : Nat} {cA : ClassId} {f : Nat → Int32} {i : Int32} (hC : z_Cx J l cc nL Ts own ret R D tys Wd Zt QQ XX) (q0 t0 : Nat) (ha : (Wd g)[q0]? = some (a, .inl (cA, n, .inl f))) (ht : tys[t0]? = some (cA, .int)) (hin : vp_in i n) (hdg : decode cc pc = .ok (.iaload, 1)) (k : J (pc + 1) lv (.int (f i.toNatClampNeg) :: st) g) : J pc lv (.int i :: .ref a :: st) g := by
  obtain ⟨p, e, s, m, args, below, meth, c, rfl, hXX, hx, hb, hml, hr, hlocks, hts, hown, hK, hZ, hWd, hZt⟩ := hC
  intro H locs ls hY hl
  exact va_iald hx hb hK hY.1 q0 t0 ha ht hin hdg (k H locs ls hY hl)
theorem zj_zald {a n : Nat} {cA : ClassId} {f : Nat → Int32} {i : Int32} (hC : z_Cx J l cc nL Ts own ret R D tys Wd Zt QQ XX) (q0 t0 : Nat) (ha : (Wd g)[q0]? = some (a, .inl (cA, n, .inl f))) (ht : tys[t0]? = some (cA, .boolean)) (hin : vp_in i n) (hdg : decode cc pc = .ok (.baload, 1)) (k : J (pc + 1) lv (.int (f i.toNatClampNeg) :: st) g) : J pc lv (.int i :: .ref a :: st) g := by
  obtain ⟨p, e, s, m, args, below, meth, c, rfl, hXX, hx, hb, hml, hr, hlocks, hts, hown, hK, hZ, hWd, hZt⟩ := hC
  intro H locs ls hY hl
  exact va_zald hx hb hK hY.1 q0 t0 ha ht hin hdg (k H locs ls hY hl)
theorem zj_cald {a n : Nat} {cA : ClassId} {f : Nat → Int32} {i : Int32} (hC : z_Cx J l cc nL Ts own ret R D tys Wd Zt QQ XX) (q0 t0 : Nat) (ha : (Wd g)[q0]? = some (a, .inl (cA, n, .inl f))) (ht : tys[t0]? = some (cA, .char)) (hin : vp_in i n) (hdg : decode cc pc = .ok (.caload, 1)) (k : J (pc + 1) lv (.int (f i.toNatClampNeg) :: st) g) : J pc lv (.int i :: .ref a :: st) g := by
  obtain ⟨p, e, s, m, args, below, meth, c, rfl, hXX, hx, hb, hml, hr, hlocks, hts, hown, hK, hZ, hWd, hZt⟩ := hC
  intro H locs ls hY hl
  exact va_cald hx hb hK hY.1 q0 t0 ha ht hin hdg (k H locs ls hY hl)
theorem zj_iast {a n : Nat} {cA : ClassId} {f : Nat → Int32} {i x : Int32} (hC : z_Cx J l cc nL Ts own ret R D tys Wd Zt QQ XX) (q0 t0 : Nat) (ha : (Wd g)[q0]? = some (a, .inl (cA, n, .inl f))) (ht : tys[t0]? = some (cA, .int)) (hin : vp_in i n) (hset : (Wd g).set q0 (a, .inl (cA, n, .inl (upd f i.toNatClampNeg x))) = Wd (z_up g q0 i.toNatClampNeg x)) (hdg : decode cc pc = .ok (.iastore, 1)) (k : ∀ g1 : z_G, g1 = z_up g q0 i.toNatClampNeg x → J (pc + 1) lv st g1) : J pc lv (.int x :: .int i :: .ref a :: st) g := by
  obtain ⟨p, e, s, m, args, below, meth, c, rfl, hXX, hx, hb, hml, hr, hlocks, hts, hown, hK, hZ, hWd, hZt⟩ := hC
  intro H locs ls hY hl
  exact va_iast hx hb hK hY.1 hY.2.1 hY.2.2 q0 t0 ha ht hin hdg (fun H1 locs1 h1 h2 h3 => k _ rfl H1 locs1 ls ⟨by rw [hset] at h1; exact h1, by rw [hset] at h2; exact h2, h3⟩ hl)
theorem zj_zast {a n : Nat} {cA : ClassId} {f : Nat → Int32} {i x : Int32} (hC : z_Cx J l cc nL Ts own ret R D tys Wd Zt QQ XX) (q0 t0 : Nat) (ha : (Wd g)[q0]? = some (a, .inl (cA, n, .inl f))) (ht : tys[t0]? = some (cA, .boolean)) (hin : vp_in i n) (hset : (Wd g).set q0 (a, .inl (cA, n, .inl (upd f i.toNatClampNeg (vp_nar .boolean x)))) = Wd (z_up g q0 i.toNatClampNeg (vp_nar .boolean x))) (hdg : decode cc pc = .ok (.bastore, 1)) (k : ∀ g1 : z_G, g1 = z_up g q0 i.toNatClampNeg (vp_nar .boolean x) → J (pc + 1) lv st g1) : J pc lv (.int x :: .int i :: .ref a :: st) g := by
  obtain ⟨p, e, s, m, args, below, meth, c, rfl, hXX, hx, hb, hml, hr, hlocks, hts, hown, hK, hZ, hWd, hZt⟩ := hC
  intro H locs ls hY hl
  exact va_zast hx hb hK hY.1 hY.2.1 hY.2.2 q0 t0 ha ht hin hdg (fun H1 locs1 h1 h2 h3 => k _ rfl H1 locs1 ls ⟨by rw [hset] at h1; exact h1, by rw [hset] at h2; exact h2, h3⟩ hl)
theorem zj_alen {a : Nat} {cA : ClassId} {x : vp_A} {ty : FieldType} {v : Int32} (hC : z_Cx J l cc nL Ts own ret R D tys Wd Zt QQ XX) (q0 t0 : Nat) (ha : (Wd g)[q0]? = some (a, .inl (cA, x))) (ht : tys[t0]? = some (cA, ty)) (hv : Int32.ofNat x.1 = v) (hdg : decode cc pc = .ok (.arraylength, 1)) (k : J (pc + 1) lv (.int v :: st) g) : J pc lv (.ref a :: st) g := by
  obtain ⟨p, e, s, m, args, below, meth, c, rfl, hXX, hx, hb, hml, hr, hlocks, hts, hown, hK, hZ, hWd, hZt⟩ := hC
  intro H locs ls hY hl
  exact va_alen hx hb hK hY.1 q0 t0 ha ht hv hdg (k H locs ls hY hl)
theorem zj_gets {C n d ref : String} {v : Value} {index : Nat} (hC : z_Cx J l cc nL Ts own ret R D tys Wd Zt QQ XX) (hz : ∀ (A : Nat → Prop) (U : State) (H : Heap), Zt A U H → va_Z C n d v A U H) (hlink : Cond.fieldLink own index ref n d ∈ Ts) (href : C = ref) (hdg : decode cc pc = .ok (.getstatic index, 3)) (k : J (pc + 3) lv (v :: st) g) : J pc lv st g := by
  obtain ⟨p, e, s, m, args, below, meth, c, rfl, hXX, hx, hb, hml, hr, hlocks, hts, hown, hK, hZ, hWd, hZt⟩ := hC
  intro H locs ls hY hl
  exact va_gets hx hb (hz _ _ _ hZ) hY.2.2 hown (hts _ hlink) (fun x h => by rw [← href]; exact h) hdg (k H locs ls hY hl)
theorem zj_ti {t N : Nat} {f : Nat → Int32} {i : Int32} (hC : z_Cx J l cc nL Ts own ret R D tys Wd Zt QQ XX) (hz : ∀ (A : Nat → Prop) (U : State) (H : Heap), Zt A U H → va_T .int t N (fun j => .int (f j)) A U H) (hin : vp_in i N) (hdg : decode cc pc = .ok (.iaload, 1)) (k : J (pc + 1) lv (.int (f i.toNatClampNeg) :: st) g) : J pc lv (.int i :: .ref t :: st) g := by
  obtain ⟨p, e, s, m, args, below, meth, c, rfl, hXX, hx, hb, hml, hr, hlocks, hts, hown, hK, hZ, hWd, hZt⟩ := hC
  intro H locs ls hY hl
  exact va_ti hx hb (hz _ _ _ hZ) hY.2.2 hin rfl hdg (k H locs ls hY hl)
theorem zj_tc {t N : Nat} {f : Nat → Int32} {i : Int32} (hC : z_Cx J l cc nL Ts own ret R D tys Wd Zt QQ XX) (hz : ∀ (A : Nat → Prop) (U : State) (H : Heap), Zt A U H → va_T .char t N (fun j => .int (f j)) A U H) (hin : vp_in i N) (hdg : decode cc pc = .ok (.caload, 1)) (k : J (pc + 1) lv (.int (f i.toNatClampNeg) :: st) g) : J pc lv (.int i :: .ref t :: st) g := by
  obtain ⟨p, e, s, m, args, below, meth, c, rfl, hXX, hx, hb, hml, hr, hlocks, hts, hown, hK, hZ, hWd, hZt⟩ := hC
  intro H locs ls hY hl
  exact va_tc hx hb (hz _ _ _ hZ) hY.2.2 hin rfl hdg (k H locs ls hY hl)
theorem zj_tlen {t N : Nat} {f : Nat → Value} {ty : FieldType} {v : Int32} (hC : z_Cx J l cc nL Ts own ret R D tys Wd Zt QQ XX) (hz : ∀ (A : Nat → Prop) (U : State) (H : Heap), Zt A U H → va_T ty t N f A U H) (hv : Int32.ofNat N = v) (hdg : decode cc pc = .ok (.arraylength, 1)) (k : J (pc + 1) lv (.int v :: st) g) : J pc lv (.ref t :: st) g := by
  obtain ⟨p, e, s, m, args, below, meth, c, rfl, hXX, hx, hb, hml, hr, hlocks, hts, hown, hK, hZ, hWd, hZt⟩ := hC
  intro H locs ls hY hl
  exact va_tlen hx hb (hz _ _ _ hZ) hY.2.2 hv hdg (k H locs ls hY hl)
theorem zj_max {x y : Int32} {index : Nat} (hC : z_Cx J l cc nL Ts own ret R D tys Wd Zt QQ XX) (h1 : Cond.methodLink own index Lib.Math.max.name ∈ Ts) (h2 : Cond.static Lib.Math.max.name ∈ Ts) (h3 : Cond.initialized "java/lang/Math" ∈ Ts) (h4 : Cond.code Lib.Math.max.name Lib.Math.max.code 2 (some .int) ∈ Ts) (hf : 1 ≤ R.frames) (hlo : (st.map fun v => v.category).sum + 13 ≤ R.locals) (hdg : decode cc pc = .ok (.invokestatic index, 3)) (k : J (pc + 3) lv (.int (if x < y then y else x) :: st) g) : J pc lv (.int y :: .int x :: st) g := by
  obtain ⟨p, e, s, m, args, below, meth, c, rfl, hXX, hx, hb, hml, hr, hlocks, hts, hown, hK, hZ, hWd, hZt⟩ := hC
  intro H locs ls hY hl
  exact va_mmax hx hb (by rw [hml]; exact hl.1.symm) hown (hts _ h1) (hts _ h2) (hts _ h3) (hts _ h4) hf hlo (Nat.zero_le _) (Nat.zero_le _) hdg (k H locs ls hY hl)
theorem zj_min {x y : Int32} {index : Nat} (hC : z_Cx J l cc nL Ts own ret R D tys Wd Zt QQ XX) (h1 : Cond.methodLink own index Lib.Math.min.name ∈ Ts) (h2 : Cond.static Lib.Math.min.name ∈ Ts) (h3 : Cond.initialized "java/lang/Math" ∈ Ts) (h4 : Cond.code Lib.Math.min.name Lib.Math.min.code 2 (some .int) ∈ Ts) (hf : 1 ≤ R.frames) (hlo : (st.map fun v => v.category).sum + 13 ≤ R.locals) (hdg : decode cc pc = .ok (.invokestatic index, 3)) (k : J (pc + 3) lv (.int (if y < x then y else x) :: st) g) : J pc lv (.int y :: .int x :: st) g := by
  obtain ⟨p, e, s, m, args, below, meth, c, rfl, hXX, hx, hb, hml, hr, hlocks, hts, hown, hK, hZ, hWd, hZt⟩ := hC
  intro H locs ls hY hl
  exact va_mmin hx hb (by rw [hml]; exact hl.1.symm) hown (hts _ h1) (hts _ h2) (hts _ h3) (hts _ h4) hf hlo (Nat.zero_le _) (Nat.zero_le _) hdg (k H locs ls hY hl)
theorem zj_abs {x : Int32} {index : Nat} (hC : z_Cx J l cc nL Ts own ret R D tys Wd Zt QQ XX) (h1 : Cond.methodLink own index Lib.Math.abs.name ∈ Ts) (h2 : Cond.static Lib.Math.abs.name ∈ Ts) (h3 : Cond.initialized "java/lang/Math" ∈ Ts) (h4 : Cond.code Lib.Math.abs.name Lib.Math.abs.code 1 (some .int) ∈ Ts) (hf : 1 ≤ R.frames) (hlo : (st.map fun v => v.category).sum + 13 ≤ R.locals) (hdg : decode cc pc = .ok (.invokestatic index, 3)) (k : J (pc + 3) lv (.int (if 0 ≤ x then x else 0 - x) :: st) g) : J pc lv (.int x :: st) g := by
  obtain ⟨p, e, s, m, args, below, meth, c, rfl, hXX, hx, hb, hml, hr, hlocks, hts, hown, hK, hZ, hWd, hZt⟩ := hC
  intro H locs ls hY hl
  exact va_mabs hx hb (by rw [hml]; exact hl.1.symm) hown (hts _ h1) (hts _ h2) (hts _ h3) (hts _ h4) hf hlo (Nat.zero_le _) (Nat.zero_le _) hdg (k H locs ls hY hl)
theorem zj_callVi {b : Nat} {C : String} {y : MethodName} {ws ws' : List Cond} {bytes : ByteArray} {maxL fr lo n index : Nat} {ret1 : Option FieldType} {r : Int32} {g1 : z_G} (As : List Value) (hC : z_Cx J l cc nL Ts own ret R D tys Wd Zt QQ XX) (hM : z_C l y ws { frames := fr, cells := 0, slots := 0, locals := lo } D tys Wd Zt (.ref b :: As) g (some r) g1) (hG : GoodIn Ts (wsV own index C y ws)) (hw : ws = Cond.code y bytes maxL ret1 :: ws') (hd : y.cls = C ∧ y.cls ≠ "java/lang/invoke/MethodHandle" ∧ y.cls ≠ "java/lang/invoke/VarHandle" ∧ (parseMethodDescriptor y.desc).map (fun d => d.parameters.length) = some n) (hR : fr + 1 ≤ R.frames ∧ 8 + (maxL + 11) + lo ≤ R.locals) (q0 : Nat) {ci : Nat} {qc : vw_C} {fs : List Value} (he : (Wd g)[q0]? = some (b, .inr (ci, fs))) (hc : vwCl[ci]? = some qc) (hq : qc.1 = C) (hn : As.length = n) (hst : (st.map fun v => v.category).sum ≤ 8) (hdg : decode cc pc = .ok (.invokevirtual index, 3)) {st0 : List Value} (h0 : st0 = As.reverse ++ .ref b :: st) (k : J (pc + 3) lv (.int r :: st) g1) : J pc lv st0 g := by
  obtain ⟨p, e, s, m, args, below, meth, c, rfl, hXX, hx, hb, hml, hr, hlocks, hts, hown, hK, hZ, hWd, hZt⟩ := hC
  intro H locs ls hY hl
  refine va_calli (A1 := z_A Wd H.size) (va_runV (As := As) (rest := st) ⟨hx, hb, hml, hown, hts⟩ (hM H.size) (cwV n hts hG hw rfl rfl hd hR) ⟨fun a U g9 mk q => by obtain ⟨q0, q1, qP, qK, qD, qZ⟩ := q; exact ⟨q0, q1, qP, va_K.moved (u := U) (U := U.calling g9 mk a) (Vm.Alike.refl U.vm) qK, qD, hZt.1.1 _ U (U.calling g9 mk a) _ rfl qZ⟩, by rw [← hq]; exact va_recv hK hY.1 hc he, fun U hU hW => ⟨rfl, by rw [hU], by rw [hU]; exact hY.1, va_K.moved hW.alike hK, hY.2.1.weaken (fun _ _ _ _ => trivial), by rw [hU]; exact hZt.2.2 _ _ _ _ (hZt.2.1 _ _ _ _ (hZt.1.2 _ _ _ _ hW hZ) hY.2.2.2.1) (hWd.A hY.2.1 hY.2.2 (fun q h => Or.inr h))⟩⟩ rfl hn hl.1 h0 (lv_room hst) hdg ⟨Nat.zero_le _, Nat.zero_le _⟩) hY.2.2 (fun q _ h => hWd.A hY.2.1 hY.2.2 (fun q h => Or.inr h) q h) (hWd.A hY.2.1 hY.2.2 (fun q h => Or.inr h)) (fun r9 u t H1 locs1 ht hvm hw9 hB hz1 hk1 hS => ?_)
  obtain ⟨rfl, rfl⟩ := hw9
  exact k H1 locs1 ls ⟨by rw [← ht]; exact hB.1, hB.2.2.weaken (fun k9 q9 hk9 hq9 => hWd.A hY.2.1 hY.2.2 (fun q h => Or.inr h) q9.1 hq9), hS⟩ hl
theorem zj_callVv {b : Nat} {C : String} {y : MethodName} {ws ws' : List Cond} {bytes : ByteArray} {maxL fr lo n index : Nat} {ret1 : Option FieldType} {g1 : z_G} (As : List Value) (hC : z_Cx J l cc nL Ts own ret R D tys Wd Zt QQ XX) (hM : z_C l y ws { frames := fr, cells := 0, slots := 0, locals := lo } D tys Wd Zt (.ref b :: As) g none g1) (hG : GoodIn Ts (wsV own index C y ws)) (hw : ws = Cond.code y bytes maxL ret1 :: ws') (hd : y.cls = C ∧ y.cls ≠ "java/lang/invoke/MethodHandle" ∧ y.cls ≠ "java/lang/invoke/VarHandle" ∧ (parseMethodDescriptor y.desc).map (fun d => d.parameters.length) = some n) (hR : fr + 1 ≤ R.frames ∧ 8 + (maxL + 11) + lo ≤ R.locals) (q0 : Nat) {ci : Nat} {qc : vw_C} {fs : List Value} (he : (Wd g)[q0]? = some (b, .inr (ci, fs))) (hc : vwCl[ci]? = some qc) (hq : qc.1 = C) (hn : As.length = n) (hst : (st.map fun v => v.category).sum ≤ 8) (hdg : decode cc pc = .ok (.invokevirtual index, 3)) {st0 : List Value} (h0 : st0 = As.reverse ++ .ref b :: st) (k : J (pc + 3) lv (st) g1) : J pc lv st0 g := by
  obtain ⟨p, e, s, m, args, below, meth, c, rfl, hXX, hx, hb, hml, hr, hlocks, hts, hown, hK, hZ, hWd, hZt⟩ := hC
  intro H locs ls hY hl
  refine va_callv (A1 := z_A Wd H.size) (va_runV (As := As) (rest := st) ⟨hx, hb, hml, hown, hts⟩ (hM H.size) (cwV n hts hG hw rfl rfl hd hR) ⟨fun a U g9 mk q => by obtain ⟨q0, q1, qP, qK, qD, qZ⟩ := q; exact ⟨q0, q1, qP, va_K.moved (u := U) (U := U.calling g9 mk a) (Vm.Alike.refl U.vm) qK, qD, hZt.1.1 _ U (U.calling g9 mk a) _ rfl qZ⟩, by rw [← hq]; exact va_recv hK hY.1 hc he, fun U hU hW => ⟨rfl, by rw [hU], by rw [hU]; exact hY.1, va_K.moved hW.alike hK, hY.2.1.weaken (fun _ _ _ _ => trivial), by rw [hU]; exact hZt.2.2 _ _ _ _ (hZt.2.1 _ _ _ _ (hZt.1.2 _ _ _ _ hW hZ) hY.2.2.2.1) (hWd.A hY.2.1 hY.2.2 (fun q h => Or.inr h))⟩⟩ rfl hn hl.1 h0 (lv_room hst) hdg ⟨Nat.zero_le _, Nat.zero_le _⟩) hY.2.2 (fun q _ h => hWd.A hY.2.1 hY.2.2 (fun q h => Or.inr h) q h) (hWd.A hY.2.1 hY.2.2 (fun q h => Or.inr h)) (fun u t H1 locs1 ht hvm hw9 hB hz1 hk1 hS => ?_)
  subst hw9
  exact k H1 locs1 ls ⟨by rw [← ht]; exact hB.1, hB.2.2.weaken (fun k9 q9 hk9 hq9 => hWd.A hY.2.1 hY.2.2 (fun q h => Or.inr h) q9.1 hq9), hS⟩ hl
theorem zj_callSi {y : MethodName} {ws ws' : List Cond} {bytes : ByteArray} {maxL fr lo n index : Nat} {ret1 : Option FieldType} {r : Int32} {g1 : z_G} (As : List Value) (hC : z_Cx J l cc nL Ts own ret R D tys Wd Zt QQ XX) (hM : z_C l y ws { frames := fr, cells := 0, slots := 0, locals := lo } D tys Wd Zt As g (some r) g1) (hG : GoodIn Ts (va_wsS own index y ws)) (hw : ws = Cond.code y bytes maxL ret1 :: ws') (hd : y.cls ≠ "java/lang/invoke/MethodHandle" ∧ y.cls ≠ "java/lang/invoke/VarHandle" ∧ (parseMethodDescriptor y.desc).map (fun d => d.parameters.length) = some n) (hR : fr + 1 ≤ R.frames ∧ 8 + (maxL + 11) + lo ≤ R.locals)  (hn : As.length = n) (hst : (st.map fun v => v.category).sum ≤ 8) (hdg : decode cc pc = .ok (.invokestatic index, 3)) {st0 : List Value} (h0 : st0 = As.reverse ++ st) (k : J (pc + 3) lv (.int r :: st) g1) : J pc lv st0 g := by
  obtain ⟨p, e, s, m, args, below, meth, c, rfl, hXX, hx, hb, hml, hr, hlocks, hts, hown, hK, hZ, hWd, hZt⟩ := hC
  intro H locs ls hY hl
  refine va_calli (A1 := z_A Wd H.size) (va_runS (As := As) (rest := st) ⟨hx, hb, hml, hown, hts⟩ (hM H.size) (va_cwS n hts hG hw rfl rfl hd hR) ⟨fun a U g9 mk q => by obtain ⟨q0, q1, qP, qK, qD, qZ⟩ := q; exact ⟨q0, q1, qP, va_K.moved (u := U) (U := U.calling g9 mk a) (Vm.Alike.refl U.vm) qK, qD, hZt.1.1 _ U (U.calling g9 mk a) _ rfl qZ⟩, fun U hU hW => ⟨rfl, by rw [hU], by rw [hU]; exact hY.1, va_K.moved hW.alike hK, hY.2.1.weaken (fun _ _ _ _ => trivial), by rw [hU]; exact hZt.2.2 _ _ _ _ (hZt.2.1 _ _ _ _ (hZt.1.2 _ _ _ _ hW hZ) hY.2.2.2.1) (hWd.A hY.2.1 hY.2.2 (fun q h => Or.inr h))⟩⟩ rfl hn hl.1 h0 (lv_room hst) hdg ⟨Nat.zero_le _, Nat.zero_le _⟩) hY.2.2 (fun q _ h => hWd.A hY.2.1 hY.2.2 (fun q h => Or.inr h) q h) (hWd.A hY.2.1 hY.2.2 (fun q h => Or.inr h)) (fun r9 u t H1 locs1 ht hvm hw9 hB hz1 hk1 hS => ?_)
  obtain ⟨rfl, rfl⟩ := hw9
  exact k H1 locs1 ls ⟨by rw [← ht]; exact hB.1, hB.2.2.weaken (fun k9 q9 hk9 hq9 => hWd.A hY.2.1 hY.2.2 (fun q h => Or.inr h) q9.1 hq9), hS⟩ hl
theorem zj_callSv {y : MethodName} {ws ws' : List Cond} {bytes : ByteArray} {maxL fr lo n index : Nat} {ret1 : Option FieldType} {g1 : z_G} (As : List Value) (hC : z_Cx J l cc nL Ts own ret R D tys Wd Zt QQ XX) (hM : z_C l y ws { frames := fr, cells := 0, slots := 0, locals := lo } D tys Wd Zt As g none g1) (hG : GoodIn Ts (va_wsS own index y ws)) (hw : ws = Cond.code y bytes maxL ret1 :: ws') (hd : y.cls ≠ "java/lang/invoke/MethodHandle" ∧ y.cls ≠ "java/lang/invoke/VarHandle" ∧ (parseMethodDescriptor y.desc).map (fun d => d.parameters.length) = some n) (hR : fr + 1 ≤ R.frames ∧ 8 + (maxL + 11) + lo ≤ R.locals)  (hn : As.length = n) (hst : (st.map fun v => v.category).sum ≤ 8) (hdg : decode cc pc = .ok (.invokestatic index, 3)) {st0 : List Value} (h0 : st0 = As.reverse ++ st) (k : J (pc + 3) lv (st) g1) : J pc lv st0 g := by
  obtain ⟨p, e, s, m, args, below, meth, c, rfl, hXX, hx, hb, hml, hr, hlocks, hts, hown, hK, hZ, hWd, hZt⟩ := hC
  intro H locs ls hY hl
  refine va_callv (A1 := z_A Wd H.size) (va_runS (As := As) (rest := st) ⟨hx, hb, hml, hown, hts⟩ (hM H.size) (va_cwS n hts hG hw rfl rfl hd hR) ⟨fun a U g9 mk q => by obtain ⟨q0, q1, qP, qK, qD, qZ⟩ := q; exact ⟨q0, q1, qP, va_K.moved (u := U) (U := U.calling g9 mk a) (Vm.Alike.refl U.vm) qK, qD, hZt.1.1 _ U (U.calling g9 mk a) _ rfl qZ⟩, fun U hU hW => ⟨rfl, by rw [hU], by rw [hU]; exact hY.1, va_K.moved hW.alike hK, hY.2.1.weaken (fun _ _ _ _ => trivial), by rw [hU]; exact hZt.2.2 _ _ _ _ (hZt.2.1 _ _ _ _ (hZt.1.2 _ _ _ _ hW hZ) hY.2.2.2.1) (hWd.A hY.2.1 hY.2.2 (fun q h => Or.inr h))⟩⟩ rfl hn hl.1 h0 (lv_room hst) hdg ⟨Nat.zero_le _, Nat.zero_le _⟩) hY.2.2 (fun q _ h => hWd.A hY.2.1 hY.2.2 (fun q h => Or.inr h) q h) (hWd.A hY.2.1 hY.2.2 (fun q h => Or.inr h)) (fun u t H1 locs1 ht hvm hw9 hB hz1 hk1 hS => ?_)
  subst hw9
  exact k H1 locs1 ls ⟨by rw [← ht]; exact hB.1, hB.2.2.weaken (fun k9 q9 hk9 hq9 => hWd.A hY.2.1 hY.2.2 (fun q h => Or.inr h) q9.1 hq9), hS⟩ hl
theorem zj_callViS {b : Nat} {C : String} {y : MethodName} {ws ws' : List Cond} {bytes : ByteArray} {maxL fr lo n index : Nat} {ret1 : Option FieldType} {r : Int32} {g1 : z_G} (As : List Value) (hC : z_Cx J l cc nL Ts own ret R D tys Wd Zt QQ XX) (hM : z_C l y ws { frames := fr, cells := 0, slots := 0, locals := lo } D tys Wd Zt (.ref b :: As) g (some r) g1) (hG : GoodIn Ts (wsV own index C y ws)) (hw : ws = Cond.code y bytes maxL ret1 :: ws') (hd : y.cls = C ∧ y.cls ≠ "java/lang/invoke/MethodHandle" ∧ y.cls ≠ "java/lang/invoke/VarHandle" ∧ (parseMethodDescriptor y.desc).map (fun d => d.parameters.length) = some n) (hR : fr + 1 ≤ R.frames ∧ 8 + (maxL + 11) + lo ≤ R.locals) (hrec : ∀ (A : Nat → Prop) (s : State) (H : Heap) (locs : List Loc), Zt A s s.heap → va_S A s.heap H locs → ∃ cell : Cell, H[b]? = some cell ∧ cell.vm.isStatics = false ∧ s.vm.findClass C = some cell.cls) (hn : As.length = n) (hst : (st.map fun v => v.category).sum ≤ 8) (hdg : decode cc pc = .ok (.invokevirtual index, 3)) {st0 : List Value} (h0 : st0 = As.reverse ++ .ref b :: st) (k : J (pc + 3) lv (.int r :: st) g1) : J pc lv st0 g := by
  obtain ⟨p, e, s, m, args, below, meth, c, rfl, hXX, hx, hb, hml, hr, hlocks, hts, hown, hK, hZ, hWd, hZt⟩ := hC
  intro H locs ls hY hl
  refine va_calli (A1 := z_A Wd H.size) (va_runV (As := As) (rest := st) ⟨hx, hb, hml, hown, hts⟩ (hM H.size) (cwV n hts hG hw rfl rfl hd hR) ⟨fun a U g9 mk q => by obtain ⟨q0, q1, qP, qK, qD, qZ⟩ := q; exact ⟨q0, q1, qP, va_K.moved (u := U) (U := U.calling g9 mk a) (Vm.Alike.refl U.vm) qK, qD, hZt.1.1 _ U (U.calling g9 mk a) _ rfl qZ⟩, hrec _ _ _ _ hZ hY.2.2, fun U hU hW => ⟨rfl, by rw [hU], by rw [hU]; exact hY.1, va_K.moved hW.alike hK, hY.2.1.weaken (fun _ _ _ _ => trivial), by rw [hU]; exact hZt.2.2 _ _ _ _ (hZt.2.1 _ _ _ _ (hZt.1.2 _ _ _ _ hW hZ) hY.2.2.2.1) (hWd.A hY.2.1 hY.2.2 (fun q h => Or.inr h))⟩⟩ rfl hn hl.1 h0 (lv_room hst) hdg ⟨Nat.zero_le _, Nat.zero_le _⟩) hY.2.2 (fun q _ h => hWd.A hY.2.1 hY.2.2 (fun q h => Or.inr h) q h) (hWd.A hY.2.1 hY.2.2 (fun q h => Or.inr h)) (fun r9 u t H1 locs1 ht hvm hw9 hB hz1 hk1 hS => ?_)
  obtain ⟨rfl, rfl⟩ := hw9
  exact k H1 locs1 ls ⟨by rw [← ht]; exact hB.1, hB.2.2.weaken (fun k9 q9 hk9 hq9 => hWd.A hY.2.1 hY.2.2 (fun q h => Or.inr h) q9.1 hq9), hS⟩ hl
theorem zj_ldcws {tx : String} {index a : Nat} (hC : z_Cx J l cc nL Ts own ret R D tys Wd Zt QQ XX) (hz : ∀ (A : Nat → Prop) (U : State) (H : Heap), Zt A U H → vk_R own index tx a U) (hdg : decode cc pc = .ok (.ldc_w index, 3)) (k : J (pc + 3) lv (.ref a :: st) g) : J pc lv st g := by
  obtain ⟨p, e, s, m, args, below, meth, c, rfl, hXX, hx, hb, hml, hr, hlocks, hts, hown, hK, hZ, hWd, hZt⟩ := hC
  intro H locs ls hY hl
  exact (fun T hT X => by obtain ⟨t, a1, b1⟩ := k H locs ls hY hl T hT X; exact ⟨t, X.ldcStringW hx hown (text := tx) (a := a) (hz _ _ _ hZ).1 (hz _ _ _ hZ).2 (g := F0 m pc ls st) rfl (by rw [hb]; exact hdg) t a1, b1⟩)
theorem zj_vkget {o1 n d ref : String} {index a : Nat} {v : Value} (hC : z_Cx J l cc nL Ts own ret R D tys Wd Zt QQ XX) (hz : ∀ (A : Nat → Prop) (U : State) (H : Heap), Zt A U H → va_OF o1 n d v a A U H) (hlink : Cond.fieldLink own index ref n d ∈ Ts) (href : o1 = ref) (hdg : decode cc pc = .ok (.getfield index, 3)) (k : J (pc + 3) lv (v :: st) g) : J pc lv (.ref a :: st) g := by
  obtain ⟨p, e, s, m, args, below, meth, c, rfl, hXX, hx, hb, hml, hr, hlocks, hts, hown, hK, hZ, hWd, hZt⟩ := hC
  intro H locs ls hY hl
  exact vk_getf hx hb (hz _ _ _ hZ) hY.2.2 hown (hts _ hlink) (fun x h => by rw [← href]; exact h) hdg (k H locs ls hY hl)
theorem zj_tb {t N : Nat} {f : Nat → Int32} {i : Int32} (hC : z_Cx J l cc nL Ts own ret R D tys Wd Zt QQ XX) (hz : ∀ (A : Nat → Prop) (U : State) (H : Heap), Zt A U H → va_T .byte t N (fun j => .int (f j)) A U H) (hin : vp_in i N) (hdg : decode cc pc = .ok (.baload, 1)) (k : J (pc + 1) lv (.int (f i.toNatClampNeg) :: st) g) : J pc lv (.int i :: .ref t :: st) g := by
  obtain ⟨p, e, s, m, args, below, meth, c, rfl, hXX, hx, hb, hml, hr, hlocks, hts, hown, hK, hZ, hWd, hZt⟩ := hC
  intro H locs ls hY hl
  exact va_tb hx hb (hz _ _ _ hZ) hY.2.2 hin rfl hdg (k H locs ls hY hl)
end ZROWS
