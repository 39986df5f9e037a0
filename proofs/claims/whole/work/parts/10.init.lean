/-! constructors: a world that grows -/
def z_I (p : Program) (l : Launch) (e : Env) (R : Room) (s : State) (m : MethodId) (args : Array Value) (below : List Frame) (meth : Method) (c : Code) (Q : State → Prop) (D : va_G) (A : Nat → Prop) (nL : Nat) (pc : Nat) (lv : List (Nat × Value)) (st : List Value) (ws : va_W) (tys : List (ClassId × FieldType)) (cells slots : Nat) : Prop :=
  ∀ (H : Heap) (locs : List Loc) (ls : Array Slot), va_P D vwCl ws H → va_D A ws → va_S A s.heap H locs → va_K D vwCl tys s → lv_has ls nL lv → W p l e R s m args below meth c H locs cells slots Q (F0 m pc ls st)
abbrev z_IJ : Type := Nat → List (Nat × Value) → List Value → va_W → List (ClassId × FieldType) → Nat → Nat → Prop
def z_Ix (J : z_IJ) (l : Launch) (cc : ByteArray) (nL : Nat) (Ts : List Cond) (own : String) (R : Room) (D : va_G) (Af : Nat → Nat → Prop) (Qc : Nat → Array Value → State → Outcome → State → Prop) (mc ms : Nat) (X : State → Prop) : Prop :=
  ∃ (p : Program) (e : Env) (s : State) (m : MethodId) (args : Array Value) (below : List Frame) (meth : Method) (c : Code),
    J = z_I p l e R s m args below meth c (MQ below (Qc s.heap.size) args s mc ms (Af s.heap.size)) D (Af s.heap.size) nL ∧
    p.tables.exec = Jvm.exec ∧ c.code = cc ∧ c.maxLocals = nL ∧ meth.sig.returnType = none ∧ meth.locks = false ∧ (∀ w ∈ Ts, w.before args s = true) ∧ s.vm.findClass own = some m.cls ∧ meth.name = "<init>" ∧ (∀ q, s.heap.size ≤ q → Af s.heap.size q) ∧ X s
def z_IU (D : va_G) (ws0 : va_W) (X : State → Prop) (sz : Nat) (U : State) : Prop := U.heap.size = sz ∧ va_P D vwCl ws0 U.heap ∧ va_K D vwCl [] U ∧ va_D (fun _ => True) ws0 ∧ X U
/-- a constructor's contract: the object's cell ws0 becomes w1 u -/
def z_IC (l : Launch) (y : MethodName) (ws : List Cond) (rm : Room) (D : va_G) (X : State → Prop) (As : List Value) (ws0 : va_W) (w1 : (Nat → ClassId) → (Nat → Nat) → va_W) (t1 : (Nat → ClassId) → List (ClassId × FieldType)) (mc ms : Nat) : Prop :=
  ∀ sz : Nat, Met l y ws rm (va_Pc As (z_IU D ws0 X sz)) (va_Qv (fun _ : (Nat → ClassId) × (Nat → Nat) => True) (fun u t => va_P D vwCl (w1 u.1 u.2) t.heap ∧ va_K D vwCl (t1 u.1) t ∧ va_D (va_A ws0 sz) (w1 u.1 u.2)) (va_A ws0 sz)) mc ms (va_A ws0 sz)
theorem z_enterI {l : Launch} {y : MethodName} {ws ws' : List Cond} {cc : ByteArray} {nL : Nat} {rm : Room} {D : va_G} {X : State → Prop} {As : List Value} {ws0 : va_W} {w1 : (Nat → ClassId) → (Nat → Nat) → va_W} {t1 : (Nat → ClassId) → List (ClassId × FieldType)} {mc ms : Nat}
    (hy : plainName y.cls = true) (hw : ws = Cond.code y cc nL none :: ws') (hn : (lg_sl As).length ≤ nL) (hi : y.name = "<init>")
    (body : ∀ J : z_IJ, z_Ix J l cc nL ws y.cls rm D (fun sz => va_A ws0 sz) (fun sz => va_Qv (fun _ : (Nat → ClassId) × (Nat → Nat) => True) (fun u t => va_P D vwCl (w1 u.1 u.2) t.heap ∧ va_K D vwCl (t1 u.1) t ∧ va_D (va_A ws0 sz) (w1 u.1 u.2)) (va_A ws0 sz)) mc ms X → J 0 (lv_args 0 As) [] ws0 [] 0 0) : z_IC l y ws rm D X As ws0 w1 t1 mc ms := by
  intro sz
  refine Met.ofW (cc := cc) (maxL := nL) (ret := none) hy hw ?_
  intro p e s m args below meth c s₁ B hml hv
  obtain ⟨rfl, hsz, hP, hK, hD0, hX⟩ := hv
  have hts := atoms_spec (ws := ws) B.pre
  have hown : s.vm.findClass y.cls = some m.cls := findClass_of_methodNamed B.named
  have hin : meth.name = "<init>" := hi ▸ (name_of_methodNamed B.named B.method).1
  subst hsz
  have hl := lv_entry As (n := nL) hn
  rw [lg_entry_eq]
  exact body _ ⟨p, e, s, m, As.toArray, below, meth, c, rfl, B.exec, B.bytes, hml, B.returns, B.notSynchronized, hts, hown, hin, fun q h => Or.inr h, hX⟩ s.heap [] _ hP hD0.self va_S.rf hK hl
section ZINIT
variable {J : z_IJ} {l : Launch} {cc : ByteArray} {nL : Nat} {Ts : List Cond} {own : String} {R : Room} {D : va_G} {Af : Nat → Nat → Prop} {Qc : Nat → Array Value → State → Outcome → State → Prop} {mc ms : Nat} {X : State → Prop}
variable {pc : Nat} {lv : List (Nat × Value)} {st : List Value} {ws : va_W} {tys : List (ClassId × FieldType)} {cells slots : Nat}
theorem zi_aload_n {i : Fin 4} {x : Nat} (j : Nat) (hC : z_Ix J l cc nL Ts own R D Af Qc mc ms X) (hdg : decode cc pc = .ok (.aload_n i, 1)) (hj : lv[j]? = some (i.val, .ref x)) (k : J (pc + 1) lv (.ref x :: st) ws tys cells slots) : J pc lv st ws tys cells slots := by
  obtain ⟨p, e, s, m, args, below, meth, c, rfl, hx, hb, hml, hr, hlocks, hts, hown, hin, hA, hX⟩ := hC
  intro H locs ls hP hD hS hK hl
  exact lv_aload_n hx hb hdg rfl (lv_at hl j hj) (k H locs ls hP hD hS hK hl)
theorem zi_iconst {n : Int} {v : Int32} (hC : z_Ix J l cc nL Ts own R D Af Qc mc ms X) (hdg : decode cc pc = .ok (.iconst n, 1)) (hv : Int32.ofInt n = v) (k : J (pc + 1) lv (.int v :: st) ws tys cells slots) : J pc lv st ws tys cells slots := by
  obtain ⟨p, e, s, m, args, below, meth, c, rfl, hx, hb, hml, hr, hlocks, hts, hown, hin, hA, hX⟩ := hC
  intro H locs ls hP hD hS hK hl
  exact lv_iconst hx hb hdg hv (k H locs ls hP hD hS hK hl)
theorem zi_bipush {n : Int} {v : Int32} (hC : z_Ix J l cc nL Ts own R D Af Qc mc ms X) (hdg : decode cc pc = .ok (.bipush n, 2)) (hv : (Int8.ofInt n).toInt32 = v) (k : J (pc + 2) lv (.int v :: st) ws tys cells slots) : J pc lv st ws tys cells slots := by
  obtain ⟨p, e, s, m, args, below, meth, c, rfl, hx, hb, hml, hr, hlocks, hts, hown, hin, hA, hX⟩ := hC
  intro H locs ls hP hD hS hK hl
  exact lv_bipush hx hb hdg hv (k H locs ls hP hD hS hK hl)
theorem zi_sipush {n : Int} {v : Int32} (hC : z_Ix J l cc nL Ts own R D Af Qc mc ms X) (hdg : decode cc pc = .ok (.sipush n, 3)) (hv : (Int16.ofInt n).toInt32 = v) (k : J (pc + 3) lv (.int v :: st) ws tys cells slots) : J pc lv st ws tys cells slots := by
  obtain ⟨p, e, s, m, args, below, meth, c, rfl, hx, hb, hml, hr, hlocks, hts, hown, hin, hA, hX⟩ := hC
  intro H locs ls hP hD hS hK hl
  exact lv_sipush hx hb hdg hv (k H locs ls hP hD hS hK hl)
theorem zi_ldc {index : Nat} {v : Int32} (hC : z_Ix J l cc nL Ts own R D Af Qc mc ms X) (hw : Cond.constant own index v ∈ Ts) (hdg : decode cc pc = .ok (.ldc index, 2)) (k : J (pc + 2) lv (.int v :: st) ws tys cells slots) : J pc lv st ws tys cells slots := by
  obtain ⟨p, e, s, m, args, below, meth, c, rfl, hx, hb, hml, hr, hlocks, hts, hown, hin, hA, hX⟩ := hC
  intro H locs ls hP hD hS hK hl
  exact lv_ldc hx hb hown (hts _ hw) hdg (k H locs ls hP hD hS hK hl)
theorem zi_dup {va : Value} (hC : z_Ix J l cc nL Ts own R D Af Qc mc ms X) (hdg : decode cc pc = .ok (.dup, 1)) (hva : va.category = 1) (k : J (pc + 1) lv (va :: va :: st) ws tys cells slots) : J pc lv (va :: st) ws tys cells slots := by
  obtain ⟨p, e, s, m, args, below, meth, c, rfl, hx, hb, hml, hr, hlocks, hts, hown, hin, hA, hX⟩ := hC
  intro H locs ls hP hD hS hK hl
  exact lv_dup hx hb hdg hva (k H locs ls hP hD hS hK hl)
theorem zi_gets {C n d ref : String} {v : Value} {index : Nat} (hC : z_Ix J l cc nL Ts own R D Af Qc mc ms X) (hz : ∀ s : State, X s → va_Z C n d v (Af s.heap.size) s s.heap) (hlink : Cond.fieldLink own index ref n d ∈ Ts) (href : C = ref) (hdg : decode cc pc = .ok (.getstatic index, 3)) (k : J (pc + 3) lv (v :: st) ws tys cells slots) : J pc lv st ws tys cells slots := by
  obtain ⟨p, e, s, m, args, below, meth, c, rfl, hx, hb, hml, hr, hlocks, hts, hown, hin, hA, hX⟩ := hC
  intro H locs ls hP hD hS hK hl
  exact va_gets hx hb (hz _ hX) hS hown (hts _ hlink) (fun x h => by rw [← href]; exact h) hdg (k H locs ls hP hD hS hK hl)
theorem zi_tlen {t N : Nat} {f : Nat → Value} {ty : FieldType} {v : Int32} (hC : z_Ix J l cc nL Ts own R D Af Qc mc ms X) (hz : ∀ s : State, X s → va_T ty t N f (Af s.heap.size) s s.heap) (hv : Int32.ofNat N = v) (hdg : decode cc pc = .ok (.arraylength, 1)) (k : J (pc + 1) lv (.int v :: st) ws tys cells slots) : J pc lv (.ref t :: st) ws tys cells slots := by
  obtain ⟨p, e, s, m, args, below, meth, c, rfl, hx, hb, hml, hr, hlocks, hts, hown, hin, hA, hX⟩ := hC
  intro H locs ls hP hD hS hK hl
  exact va_tlen hx hb (hz _ hX) hS hv hdg (k H locs ls hP hD hS hK hl)
theorem zi_obj {idx a : Nat} (hC : z_Ix J l cc nL Ts own R D Af Qc mc ms X) (h1 : Cond.methodLink own idx objectInit ∈ Ts) (h2 : Cond.instanceMethod objectInit ∈ Ts) (h3 : Cond.code objectInit ⟨#[0xb1]⟩ 1 none ∈ Ts) (hf : 1 ≤ R.frames) (hlo : (st.map fun v => v.category).sum + 12 ≤ R.locals) (hdg : decode cc pc = .ok (.invokespecial idx, 3)) (k : J (pc + 3) lv st ws tys cells slots) : J pc lv (.ref a :: st) ws tys cells slots := by
  obtain ⟨p, e, s, m, args, below, meth, c, rfl, hx, hb, hml, hr, hlocks, hts, hown, hin, hA, hX⟩ := hC
  intro H locs ls hP hD hS hK hl
  refine W.objInit hx hb hown (hts _ h1) (hts _ h2) (hts _ h3) rfl (by rw [hml]; exact hl.1) rfl hdg hf (by show 2 * 0 + _ + 12 ≤ _; omega) ?_
  exact k H locs ls hP hD hS hK hl
theorem zi_newi {n : Int32} {N : Nat} (hC : z_Ix J l cc nL Ts own R D Af Qc mc ms X) (hw : Cond.arrayClass .int ∈ Ts) (hn : ¬ n < 0) (hN : n.toNatClampNeg = N) (hbytes : N * componentBytes .int ≤ 536870912) (hc : cells + 1 ≤ R.cells) (hs : slots + N ≤ R.slots) (hdg : decode cc pc = .ok (.newarray .int, 2)) (k : ∀ (q : Nat) (cA : ClassId), J (pc + 2) lv (.ref q :: st) (ws ++ [(q, .inl (cA, N, .inl (fun _ => 0)))]) (tys ++ [(cA, .int)]) (cells + 1) (slots + N)) : J pc lv (.int n :: st) ws tys cells slots := by
  obtain ⟨p, e, s, m, args, below, meth, c, rfl, hx, hb, hml, hr, hlocks, hts, hown, hin, hA, hX⟩ := hC
  intro H locs ls hP hD hS hK hl
  exact va_newa (atype := .int) (a0 := (N, .inl (fun _ => 0))) hx hb (hts _ hw) rfl hK hP hD hS hA (fun cA => rfl) hn hN hbytes hc hs hdg (fun q cA H1 hK1 hP1 hD1 hS1 => k q cA H1 locs ls hP1 hD1 hS1 hK1 hl)
theorem zi_newz {n : Int32} {N : Nat} (hC : z_Ix J l cc nL Ts own R D Af Qc mc ms X) (hw : Cond.arrayClass .boolean ∈ Ts) (hn : ¬ n < 0) (hN : n.toNatClampNeg = N) (hbytes : N * componentBytes .boolean ≤ 536870912) (hc : cells + 1 ≤ R.cells) (hs : slots + N ≤ R.slots) (hdg : decode cc pc = .ok (.newarray .boolean, 2)) (k : ∀ (q : Nat) (cA : ClassId), J (pc + 2) lv (.ref q :: st) (ws ++ [(q, .inl (cA, N, .inl (fun _ => 0)))]) (tys ++ [(cA, .boolean)]) (cells + 1) (slots + N)) : J pc lv (.int n :: st) ws tys cells slots := by
  obtain ⟨p, e, s, m, args, below, meth, c, rfl, hx, hb, hml, hr, hlocks, hts, hown, hin, hA, hX⟩ := hC
  intro H locs ls hP hD hS hK hl
  exact va_newa (atype := .boolean) (a0 := (N, .inl (fun _ => 0))) hx hb (hts _ hw) rfl hK hP hD hS hA (fun cA => rfl) hn hN hbytes hc hs hdg (fun q cA H1 hK1 hP1 hD1 hS1 => k q cA H1 locs ls hP1 hD1 hS1 hK1 hl)
theorem zi_putF {a ci index N : Nat} {fs fs1 : List Value} {rest : va_W} {v : Value} {C ref : String} {T : u_T} {ty0 : Nat → FieldType} (hC : z_Ix J l cc nL Ts own R D Af Qc mc ms X) (hin : ∀ w ∈ u_ws C T N, w ∈ Ts) (hty : ∀ k, k < N → parseFieldDescriptor (T k).2.2.1 = some (ty0 k)) (hnm : ∀ a, a < N → ∀ b, b < N → a ≠ b → (T a).2.1 ≠ (T b).2.1) (hc : vwCl[ci]? = some (C, T, N)) (j : Nat) (hj : j < N) (hlink : Cond.fieldLink own index ref (T j).2.1 (T j).2.2.1 ∈ Ts) (href : (T j).1 = ref) (hfin : (T j).2.2.2 = true) (hdecl : (T j).1 = own) (hnr : narrow (ty0 j) v = v) (hfit : fits (ty0 j) v = true) (hl9 : j < fs.length) (hfs : fs.set j v = fs1) (hdg : decode cc pc = .ok (.putfield index, 3)) (k : J (pc + 3) lv st ((a, .inr (ci, fs1)) :: rest) tys cells slots) : J pc lv (v :: .ref a :: st) ((a, .inr (ci, fs)) :: rest) tys cells slots := by
  obtain ⟨p, e, s, m, args, below, meth, c, rfl, hx, hb, hml, hr, hlocks, hts, hown, hin2, hA, hX⟩ := hC
  intro H locs ls hP hD hS hK hl
  refine va_putF hx hb hts hin ty0 hty hnm hown hK hP hD hS 0 rfl hc j hj (hts _ hlink) (fun x h => by rw [← href]; exact h) hfin hin2 hdecl (hty j hj) hnr hfit hl9 hdg (fun H1 locs1 h1 h2 h3 => k H1 locs1 ls ?_ ?_ h3 hK hl)
  · rw [← hfs]; exact h1
  · rw [← hfs]; exact h2
theorem zi_put {a ci index N : Nat} {fs fs1 : List Value} {rest : va_W} {v : Value} {C ref : String} {T : u_T} {ty0 : Nat → FieldType} (hC : z_Ix J l cc nL Ts own R D Af Qc mc ms X) (hin : ∀ w ∈ u_ws C T N, w ∈ Ts) (hty : ∀ k, k < N → parseFieldDescriptor (T k).2.2.1 = some (ty0 k)) (hnm : ∀ a, a < N → ∀ b, b < N → a ≠ b → (T a).2.1 ≠ (T b).2.1) (hc : vwCl[ci]? = some (C, T, N)) (j : Nat) (hj : j < N) (hlink : Cond.fieldLink own index ref (T j).2.1 (T j).2.2.1 ∈ Ts) (href : (T j).1 = ref) (hfin : (T j).2.2.2 = false) (hnr : narrow (ty0 j) v = v) (hfit : fits (ty0 j) v = true) (hl9 : j < fs.length) (hfs : fs.set j v = fs1) (hdg : decode cc pc = .ok (.putfield index, 3)) (k : J (pc + 3) lv st ((a, .inr (ci, fs1)) :: rest) tys cells slots) : J pc lv (v :: .ref a :: st) ((a, .inr (ci, fs)) :: rest) tys cells slots := by
  obtain ⟨p, e, s, m, args, below, meth, c, rfl, hx, hb, hml, hr, hlocks, hts, hown, hin2, hA, hX⟩ := hC
  intro H locs ls hP hD hS hK hl
  refine va_put hx hb hts hin ty0 hty hnm hown hK hP hD hS 0 rfl hc j hj (hts _ hlink) (fun x h => by rw [← href]; exact h) hfin (hty j hj) hnr hfit hl9 hdg (fun H1 locs1 h1 h2 h3 => k H1 locs1 ls ?_ ?_ h3 hK hl)
  · rw [← hfs]; exact h1
  · rw [← hfs]; exact h2
theorem zi_get {a ci index N : Nat} {fs : List Value} {rest : va_W} {v : Value} {C ref : String} {T : u_T} (hC : z_Ix J l cc nL Ts own R D Af Qc mc ms X) (hin : ∀ w ∈ u_ws C T N, w ∈ Ts) (hc : vwCl[ci]? = some (C, T, N)) (j : Nat) (hj : j < N) (hlink : Cond.fieldLink own index ref (T j).2.1 (T j).2.2.1 ∈ Ts) (href : (T j).1 = ref) (hv : fs[j]? = some v) (hdg : decode cc pc = .ok (.getfield index, 3)) (k : J (pc + 3) lv (v :: st) ((a, .inr (ci, fs)) :: rest) tys cells slots) : J pc lv (.ref a :: st) ((a, .inr (ci, fs)) :: rest) tys cells slots := by
  obtain ⟨p, e, s, m, args, below, meth, c, rfl, hx, hb, hml, hr, hlocks, hts, hown, hin2, hA, hX⟩ := hC
  intro H locs ls hP hD hS hK hl
  exact va_get hx hb hts hin hown hK hP 0 rfl hc j hj (hts _ hlink) (fun x h => by rw [← href]; exact h) hv hdg (k H locs ls hP hD hS hK hl)
theorem zi_new {C : String} {T : u_T} {N ci index : Nat} {ty0 : Nat → FieldType} {fs : List Value} (hC : z_Ix J l cc nL Ts own R D Af Qc mc ms X) (hin : ∀ w ∈ u_ws C T N, w ∈ Ts) (hty : ∀ k, k < N → parseFieldDescriptor (T k).2.2.1 = some (ty0 k)) (hcl : Cond.classLink own index C ∈ Ts) (hinst : Cond.instantiable C N ∈ Ts) (hini : Cond.initialized C ∈ Ts) (hc : vwCl[ci]? = some (C, T, N)) (hfs : ∀ j, j < N → defaultValue (ty0 j) = vp_V fs j) (hcells : cells + 1 ≤ R.cells) (hslots : slots + N ≤ R.slots) (hdg : decode cc pc = .ok (.new index, 3)) (k : ∀ q : Nat, J (pc + 3) lv (.ref q :: st) (ws ++ [(q, .inr (ci, fs))]) tys (cells + 1) (slots + N)) : J pc lv st ws tys cells slots := by
  obtain ⟨p, e, s, m, args, below, meth, c, rfl, hx, hb, hml, hr, hlocks, hts, hown, hin2, hA, hX⟩ := hC
  intro H locs ls hP hD hS hK hl
  exact va_new hx hb hts hin ty0 hty hown (hts _ hcl) (hts _ hinst) (hts _ hini) hK hP hD hS hA hc hfs hcells hslots hdg (fun q H1 h1 h2 h3 => k q H1 locs ls h1 h2 h3 hK hl)
theorem zi_widen {c2 s2 : Nat} (hC : z_Ix J l cc nL Ts own R D Af Qc mc ms X) (h1 : cells ≤ c2) (h2 : slots ≤ s2) (k : J pc lv st ws tys c2 s2) : J pc lv st ws tys cells slots := by
  obtain ⟨p, e, s, m, args, below, meth, c, rfl, hx, hb, hml, hr, hlocks, hts, hown, hin2, hA, hX⟩ := hC
  intro H locs ls hP hD hS hK hl
  exact W.widen h1 h2 (k H locs ls hP hD hS hK hl)
theorem zi_ws {ws1 : va_W} {tys1 : List (ClassId × FieldType)} (h1 : ws = ws1) (h2 : tys = tys1) (k : J pc lv st ws1 tys1 cells slots) : J pc lv st ws tys cells slots := by subst h1; subst h2; exact k
theorem zi_sub {ws1 : va_W} {tys1 : List (ClassId × FieldType)} (hC : z_Ix J l cc nL Ts own R D Af Qc mc ms X) (is ts : List Nat) (hn : va_nd is = true) (h1 : is.map (fun i => ws[i]?) = ws1.map some) (h3 : is.filterMap (fun i => ws[i]?) = ws1) (h2 : ts.filterMap (fun i => tys[i]?) = tys1) (k : J pc lv st ws1 tys1 cells slots) : J pc lv st ws tys cells slots := by
  obtain ⟨p, e, s, m, args, below, meth, c, rfl, hx, hb, hml, hr, hlocks, hts, hown, hin2, hA, hX⟩ := hC
  intro H locs ls hP hD hS hK hl
  exact k H locs ls (hP.sub is h3) (hD.sub is hn h1) hS (hK.sub ts h2) hl
theorem zi_vret {w1 : (Nat → ClassId) → (Nat → Nat) → va_W} {t1 : (Nat → ClassId) → List (ClassId × FieldType)} {ws0 : va_W} (hC : z_Ix J l cc nL Ts own R D (fun sz => va_A ws0 sz) (fun sz => va_Qv (fun _ : (Nat → ClassId) × (Nat → Nat) => True) (fun u t => va_P D vwCl (w1 u.1 u.2) t.heap ∧ va_K D vwCl (t1 u.1) t ∧ va_D (va_A ws0 sz) (w1 u.1 u.2)) (va_A ws0 sz)) mc ms X) (ca : Nat → ClassId) (q : Nat → Nat) (h1 : ws = w1 ca q) (h2 : tys = t1 ca) (hdg : decode cc pc = .ok (.return_, 1)) : J pc lv [] ws tys mc ms := by
  obtain ⟨p, e, s, m, args, below, meth, c, rfl, hx, hb, hml, hr, hlocks, hts, hown, hin2, hA, hX⟩ := hC
  intro H locs ls hP hD hS hK hl
  subst h1; subst h2
  exact W.vret hx hb hr (fun t ht hW => ⟨⟨(ca, q), rfl, trivial, by rw [ht]; exact hP, va_K.moved hW.alike hK, hD⟩, hS.F ht⟩) hS.2.2 hdg hlocks
/-- a method of a whole world, called from the constructor -/
theorem zi_callz {Wd : z_G → va_W} {Zt : z_ZT} {b : Nat} {C : String} {y : MethodName} {ws1 ws' : List Cond} {bytes : ByteArray} {maxL fr lo n index : Nat} {g g1 : z_G} (As : List Value) (hC : z_Ix J l cc nL Ts own R D Af Qc mc ms X) (hWd : z_Wok Wd) (hZt : z_Zok Zt) (hXZ : ∀ s : State, X s → Zt (Af s.heap.size) s s.heap) (hM : z_C l y ws1 { frames := fr, cells := 0, slots := 0, locals := lo } D tys Wd Zt (.ref b :: As) g none g1) (hG : GoodIn Ts (wsV own index C y ws1)) (hw : ws1 = Cond.code y bytes maxL none :: ws') (hd : y.cls = C ∧ y.cls ≠ "java/lang/invoke/MethodHandle" ∧ y.cls ≠ "java/lang/invoke/VarHandle" ∧ (parseMethodDescriptor y.desc).map (fun d => d.parameters.length) = some n) (hR : fr + 1 ≤ R.frames ∧ 8 + (maxL + 11) + lo ≤ R.locals) (q0 : Nat) {ci : Nat} {qc : vw_C} {fs : List Value} (he : (Wd g)[q0]? = some (b, .inr (ci, fs))) (hc : vwCl[ci]? = some qc) (hq : qc.1 = C) (hn : As.length = n) (hst : (st.map fun v => v.category).sum ≤ 8) (hcs : cells ≤ R.cells ∧ slots ≤ R.slots) (hdg : decode cc pc = .ok (.invokevirtual index, 3)) {st0 : List Value} (h0 : st0 = As.reverse ++ .ref b :: st) (hws : ws = Wd g) (k : J (pc + 3) lv st (Wd g1) tys cells slots) : J pc lv st0 ws tys cells slots := by
  obtain ⟨p, e, s, m, args, below, meth, c, rfl, hx, hb, hml, hr, hlocks, hts, hown, hin2, hA, hX⟩ := hC
  intro H locs ls hP hD hS0 hK hl
  subst hws
  refine va_callv (A1 := z_A Wd H.size) (va_runV (As := As) (rest := st) ⟨hx, hb, hml, hown, hts⟩ (hM H.size) (cwV n hts hG hw rfl rfl hd hR) ⟨fun a U g9 mk q => by obtain ⟨q0, q1, qP, qK, qD, qZ⟩ := q; exact ⟨q0, q1, qP, va_K.moved (u := U) (U := U.calling g9 mk a) (Vm.Alike.refl U.vm) qK, qD, hZt.1.1 _ U (U.calling g9 mk a) _ rfl qZ⟩, by rw [← hq]; exact va_recv hK hP hc he, fun U hU hW => ⟨rfl, by rw [hU], by rw [hU]; exact hP, va_K.moved hW.alike hK, hD.weaken (fun _ _ _ _ => trivial), by rw [hU]; exact hZt.2.2 _ _ _ _ (hZt.2.1 _ _ _ _ (hZt.1.2 _ _ _ _ hW (hXZ _ hX)) hS0.2.1) (hWd.A hD hS0 hA)⟩⟩ rfl hn hl.1 h0 (lv_room hst) hdg hcs) hS0 (fun q _ h => hWd.A hD hS0 hA q h) (hWd.A hD hS0 hA) (fun u t H1 locs1 ht hvm hw9 hB hz1 hk1 hS => ?_)
  subst hw9
  exact k H1 locs1 ls (by rw [← ht]; exact hB.1) (hB.2.2.weaken (fun k9 q9 hk9 hq9 => hWd.A hD hS0 hA q9.1 hq9)) hS hK hl
/-- the constructor of an object that was made just now -/
theorem zi_callI {X1 : State → Prop} {w1 : (Nat → ClassId) → (Nat → Nat) → va_W} {t1 : (Nat → ClassId) → List (ClassId × FieldType)} {b ci : Nat} {fs : List Value} {y : MethodName} {ws1 ws' : List Cond} {bytes : ByteArray} {maxL fr lo mc1 ms1 n index : Nat} (As : List Value) (wr : va_W) (isC isR : List Nat) (hC : z_Ix J l cc nL Ts own R D Af Qc mc ms X) (hM : z_IC l y ws1 { frames := fr, cells := mc1, slots := ms1, locals := lo } D X1 (.ref b :: As) [(b, .inr (ci, fs))] w1 t1 mc1 ms1)
    (hX1 : ∀ (U : State) (g9 : JFrame) (mk : MethodId) (a : Array Value), X1 U → X1 (U.calling g9 mk a)) (hX2 : ∀ s U : State, X s → s.WarmedH U.vm → s.heap.size ≤ U.heap.size → (∀ q : Nat, q < s.heap.size → ¬ Af s.heap.size q → U.heap[q]? = s.heap[q]?) → (∀ q, va_A [(b, .inr (ci, fs))] U.heap.size q → Af s.heap.size q) → X1 U)
    (hG : GoodIn Ts ws1) (hw : ws1 = Cond.code y bytes maxL none :: ws') (hini : Cond.initialized y.cls ∈ Ts) (hli : Cond.methodLink own index y ∈ Ts) (hin : Cond.instanceMethod y ∈ Ts) (hy1 : y.name = "<init>")
    (hd : y.cls ≠ "java/lang/invoke/MethodHandle" ∧ y.cls ≠ "java/lang/invoke/VarHandle" ∧ (parseMethodDescriptor y.desc).map (fun d => d.parameters.length) = some n) (hR : fr + 1 ≤ R.frames ∧ 8 + (maxL + 11) + lo ≤ R.locals)
    (hiC : isC.map (fun i => ws[i]?) = ([(b, .inr (ci, fs))] : va_W).map some) (hiR : isR.map (fun i => ws[i]?) = wr.map some) (hnd : va_nd isR = true) (hdis : ∀ i ∈ isR, i ∉ isC) (hsub : isC.filterMap (fun i => ws[i]?) = [(b, .inr (ci, fs))]) (hnC : va_nd isC = true)
    (hn : As.length = n) (hst : (st.map fun v => v.category).sum ≤ 8) (hcs : cells + mc1 ≤ R.cells ∧ slots + ms1 ≤ R.slots) (hdg : decode cc pc = .ok (.invokespecial index, 3)) {st0 : List Value} (h0 : st0 = As.reverse ++ .ref b :: st)
    (k : ∀ (ca : Nat → ClassId) (q : Nat → Nat), J (pc + 3) lv st (wr ++ w1 ca q) (tys ++ t1 ca) (cells + mc1) (slots + ms1)) : J pc lv st0 ws tys cells slots := by
  obtain ⟨p, e, s, m, args, below, meth, c, rfl, hx, hb, hml, hr, hlocks, hts, hown, hin2, hA, hX⟩ := hC
  intro H locs ls hP hD hS0 hK hl
  have hPc := hP.sub isC hsub
  have hDc := hD.sub isC hnC hiC
  have hFc := va_free hD hS0 hA isC hiC
  refine va_callv (va_runI (As := As) (rest := st) ⟨hx, hb, hml, hown, hts⟩ (hM H.size) (cwI n hts hG hw rfl rfl (hts _ hini) (hts _ hli) (hts _ hin) hy1 hd hR) ⟨fun a U g9 mk q => by obtain ⟨q0, q1, qP, qK, qD, qX⟩ := q; exact ⟨q0, q1, qP, va_K.moved (u := U) (U := U.calling g9 mk a) (Vm.Alike.refl U.vm) qK, qD, hX1 U g9 mk a qX⟩, fun U hU hW => ⟨rfl, by rw [hU], by rw [hU]; exact hPc, va_K.moved hW.alike (hK.sub [] rfl), hDc.weaken (fun _ _ _ _ => trivial), hX2 s U hX hW (by rw [hU]; exact hS0.1) (by rw [hU]; exact hS0.2.1) (by rw [hU]; exact hFc)⟩⟩ rfl hn hl.1 h0 (lv_room hst) hdg hcs) hS0 (fun q _ h => hFc q h) hFc (fun u t H1 locs1 ht hvm hw9 hB hz1 hk1 hS => ?_)
  obtain ⟨ca, q⟩ := u
  obtain ⟨hP1, hK1, hD1⟩ := hB
  rw [ht] at hP1
  obtain ⟨hP2, hD2⟩ := va_join hP hD isC isR hiC hiR hnd hdis hk1 hFc hP1 hD1
  exact k ca q H1 locs1 ls hP2 hD2 hS (hK.app (va_K.moved hvm.symm hK1)) hl
/-- the constructor of an object that was made just now (private: a nest mate) -/
theorem zi_callIN {X1 : State → Prop} {w1 : (Nat → ClassId) → (Nat → Nat) → va_W} {t1 : (Nat → ClassId) → List (ClassId × FieldType)} {b ci : Nat} {fs : List Value} {y : MethodName} {ws1 ws' : List Cond} {bytes : ByteArray} {maxL fr lo mc1 ms1 n index : Nat} {host : String} (As : List Value) (wr : va_W) (isC isR : List Nat) (hC : z_Ix J l cc nL Ts own R D Af Qc mc ms X) (hM : z_IC l y ws1 { frames := fr, cells := mc1, slots := ms1, locals := lo } D X1 (.ref b :: As) [(b, .inr (ci, fs))] w1 t1 mc1 ms1)
    (hX1 : ∀ (U : State) (g9 : JFrame) (mk : MethodId) (a : Array Value), X1 U → X1 (U.calling g9 mk a)) (hX2 : ∀ s U : State, X s → s.WarmedH U.vm → s.heap.size ≤ U.heap.size → (∀ q : Nat, q < s.heap.size → ¬ Af s.heap.size q → U.heap[q]? = s.heap[q]?) → (∀ q, va_A [(b, .inr (ci, fs))] U.heap.size q → Af s.heap.size q) → X1 U)
    (hG : GoodIn Ts ws1) (hw : ws1 = Cond.code y bytes maxL none :: ws') (hini : Cond.initialized y.cls ∈ Ts) (hli : ∀ s : State, X s → va_Nw (.methodLinkNest own index y host) s) (hin : Cond.instanceMethod y ∈ Ts) (hy1 : y.name = "<init>")
    (hd : y.cls ≠ "java/lang/invoke/MethodHandle" ∧ y.cls ≠ "java/lang/invoke/VarHandle" ∧ (parseMethodDescriptor y.desc).map (fun d => d.parameters.length) = some n) (hR : fr + 1 ≤ R.frames ∧ 8 + (maxL + 11) + lo ≤ R.locals)
    (hiC : isC.map (fun i => ws[i]?) = ([(b, .inr (ci, fs))] : va_W).map some) (hiR : isR.map (fun i => ws[i]?) = wr.map some) (hnd : va_nd isR = true) (hdis : ∀ i ∈ isR, i ∉ isC) (hsub : isC.filterMap (fun i => ws[i]?) = [(b, .inr (ci, fs))]) (hnC : va_nd isC = true)
    (hn : As.length = n) (hst : (st.map fun v => v.category).sum ≤ 8) (hcs : cells + mc1 ≤ R.cells ∧ slots + ms1 ≤ R.slots) (hdg : decode cc pc = .ok (.invokespecial index, 3)) {st0 : List Value} (h0 : st0 = As.reverse ++ .ref b :: st)
    (k : ∀ (ca : Nat → ClassId) (q : Nat → Nat), J (pc + 3) lv st (wr ++ w1 ca q) (tys ++ t1 ca) (cells + mc1) (slots + ms1)) : J pc lv st0 ws tys cells slots := by
  obtain ⟨p, e, s, m, args, below, meth, c, rfl, hx, hb, hml, hr, hlocks, hts, hown, hin2, hA, hX⟩ := hC
  intro H locs ls hP hD hS0 hK hl
  have hPc := hP.sub isC hsub
  have hDc := hD.sub isC hnC hiC
  have hFc := va_free hD hS0 hA isC hiC
  refine va_callv (va_runIN (As := As) (rest := st) ⟨hx, hb, hml, hown, hts⟩ (hM H.size) (⟨va_cnB n hts hG hw rfl rfl (hli s hX) (hts _ hini) hd hR, hy1, hts _ hin⟩) ⟨fun a U g9 mk q => by obtain ⟨q0, q1, qP, qK, qD, qX⟩ := q; exact ⟨q0, q1, qP, va_K.moved (u := U) (U := U.calling g9 mk a) (Vm.Alike.refl U.vm) qK, qD, hX1 U g9 mk a qX⟩, fun U hU hW => ⟨rfl, by rw [hU], by rw [hU]; exact hPc, va_K.moved hW.alike (hK.sub [] rfl), hDc.weaken (fun _ _ _ _ => trivial), hX2 s U hX hW (by rw [hU]; exact hS0.1) (by rw [hU]; exact hS0.2.1) (by rw [hU]; exact hFc)⟩⟩ rfl hn hl.1 h0 (lv_room hst) hdg hcs) hS0 (fun q _ h => hFc q h) hFc (fun u t H1 locs1 ht hvm hw9 hB hz1 hk1 hS => ?_)
  obtain ⟨ca, q⟩ := u
  obtain ⟨hP1, hK1, hD1⟩ := hB
  rw [ht] at hP1
  obtain ⟨hP2, hD2⟩ := va_join hP hD isC isR hiC hiR hnd hdis hk1 hFc hP1 hD1
  exact k ca q H1 locs1 ls hP2 hD2 hS (hK.app (va_K.moved hvm.symm hK1)) hl
end ZINIT
