/-! the law: two worlds beside each other, and its own row of one long -/
def wL (ca : Nat → ClassId) (q : Nat → Nat) (cb : Nat → ClassId) (qm : Nat → Nat) (cL : ClassId) (qo : Nat) (g h : z_G) (x : Nat → Int64) : va_W := wY ca q g ++ (wM cb qm h ++ [(qo, .inl (cL, 1, .inr (.inl x)))])
def tyL (ca cb : Nat → ClassId) (cL : ClassId) : List (ClassId × FieldType) := tyY ca ++ (tyM cb ++ [(cL, .long)])
def z_L (p : Program) (l : Launch) (e : Env) (R : Room) (s : State) (m : MethodId) (args : Array Value) (below : List Frame) (meth : Method) (c : Code) (Q : State → Prop) (D : va_G) (A : Nat → Prop) (nL : Nat) (V : z_G → z_G → (Nat → Int64) → va_W) (pc : Nat) (lv : List (Nat × Value)) (st : List Value) (g h : z_G) (x : Nat → Int64) (cells slots : Nat) : Prop :=
  ∀ (H : Heap) (locs : List Loc) (ls : Array Slot), va_P D vwCl (V g h x) H → va_D A (V g h x) → va_S A s.heap H locs → lv_has ls nL lv → W p l e R s m args below meth c H locs cells slots Q (F0 m pc ls st)
abbrev z_LJ : Type := Nat → List (Nat × Value) → List Value → z_G → z_G → (Nat → Int64) → Nat → Nat → Prop
/-- the context of the law's walk -/
def z_LC (J : z_LJ) (l : Launch) (cc : ByteArray) (nL : Nat) (Ts : List Cond) (own : String) (R : Room) (D : va_G) (ca : Nat → ClassId) (q : Nat → Nat) (cb : Nat → ClassId) (qm : Nat → Nat) (cL : ClassId) (qo : Nat) (tt sk sv : Nat → Nat) (b L : Nat) (xs : Nat → Int32) : Prop :=
  ∃ (p : Program) (e : Env) (s : State) (m : MethodId) (args : Array Value) (below : List Frame) (meth : Method) (c : Code) (Q : State → Prop) (A : Nat → Prop),
    J = z_L p l e R s m args below meth c Q D A nL (wL ca q cb qm cL qo) ∧ p.tables.exec = Jvm.exec ∧ c.code = cc ∧ c.maxLocals = nL ∧ (∀ w ∈ Ts, w.before args s = true) ∧ s.vm.findClass own = some m.cls ∧ va_K D vwCl (tyL ca cb cL) s ∧ zY tt A s s.heap ∧ zM sk sv A s s.heap ∧ (∀ q, s.heap.size ≤ q → A q) ∧ va_X b L xs s s.heap ∧ b < s.heap.size ∧ ¬ A b
theorem wL_lens (ca : Nat → ClassId) (q : Nat → Nat) (cb : Nat → ClassId) (qm : Nat → Nat) (cL : ClassId) (qo : Nat) (g h : z_G) (x : Nat → Int64) : (wY ca q g).length = 47 ∧ (wM cb qm h).length = 41 := ⟨rfl, rfl⟩
section ZLAW
variable {J : z_LJ} {l : Launch} {cc : ByteArray} {nL : Nat} {Ts : List Cond} {own : String} {R : Room} {D : va_G} {ca : Nat → ClassId} {q : Nat → Nat} {cb : Nat → ClassId} {qm : Nat → Nat} {cL : ClassId} {qo : Nat} {tt sk sv : Nat → Nat} {b L : Nat} {xs : Nat → Int32}
variable {pc : Nat} {lv : List (Nat × Value)} {st : List Value} {g h : z_G} {x : Nat → Int64} {cells slots : Nat}
theorem zl_iconst {n : Int} {v : Int32} (hC : z_LC J l cc nL Ts own R D ca q cb qm cL qo tt sk sv b L xs) (hdg : decode cc pc = .ok (.iconst n, 1)) (hv : Int32.ofInt n = v) (k : J (pc + 1) lv (.int v :: st) g h x cells slots) : J pc lv (st) g h x cells slots := by
  obtain ⟨p, e, s, m, args, below, meth, c, Q, A, rfl, hx, hb, hml, hts, hown, hK, hZY, hZM, hA, hX, hbl, hbA⟩ := hC
  intro H locs ls hP hD hS hl
  exact lv_iconst hx hb hdg hv (k H locs ls hP hD hS hl)
theorem zl_bipush {n : Int} {v : Int32} (hC : z_LC J l cc nL Ts own R D ca q cb qm cL qo tt sk sv b L xs) (hdg : decode cc pc = .ok (.bipush n, 2)) (hv : (Int8.ofInt n).toInt32 = v) (k : J (pc + 2) lv (.int v :: st) g h x cells slots) : J pc lv (st) g h x cells slots := by
  obtain ⟨p, e, s, m, args, below, meth, c, Q, A, rfl, hx, hb, hml, hts, hown, hK, hZY, hZM, hA, hX, hbl, hbA⟩ := hC
  intro H locs ls hP hD hS hl
  exact lv_bipush hx hb hdg hv (k H locs ls hP hD hS hl)
theorem zl_iload_n {i : Fin 4} {y : Int32} (j : Nat) (hC : z_LC J l cc nL Ts own R D ca q cb qm cL qo tt sk sv b L xs) (hdg : decode cc pc = .ok (.iload_n i, 1)) (hj : lv[j]? = some (i.val, .int y)) (k : J (pc + 1) lv (.int y :: st) g h x cells slots) : J pc lv st g h x cells slots := by
  obtain ⟨p, e, s, m, args, below, meth, c, Q, A, rfl, hx, hb, hml, hts, hown, hK, hZY, hZM, hA, hX, hbl, hbA⟩ := hC
  intro H locs ls hP hD hS hl
  exact lv_iload_n hx hb hdg rfl (lv_at hl j hj) (k H locs ls hP hD hS hl)
theorem zl_iload {i : Nat} {y : Int32} (j : Nat) (hC : z_LC J l cc nL Ts own R D ca q cb qm cL qo tt sk sv b L xs) (hdg : decode cc pc = .ok (.iload i, 2)) (hj : lv[j]? = some (i, .int y)) (k : J (pc + 2) lv (.int y :: st) g h x cells slots) : J pc lv st g h x cells slots := by
  obtain ⟨p, e, s, m, args, below, meth, c, Q, A, rfl, hx, hb, hml, hts, hown, hK, hZY, hZM, hA, hX, hbl, hbA⟩ := hC
  intro H locs ls hP hD hS hl
  exact lv_iload hx hb hdg (lv_at hl j hj) (k H locs ls hP hD hS hl)
theorem zl_aload_n {i : Fin 4} {y : Nat} (j : Nat) (hC : z_LC J l cc nL Ts own R D ca q cb qm cL qo tt sk sv b L xs) (hdg : decode cc pc = .ok (.aload_n i, 1)) (hj : lv[j]? = some (i.val, .ref y)) (k : J (pc + 1) lv (.ref y :: st) g h x cells slots) : J pc lv st g h x cells slots := by
  obtain ⟨p, e, s, m, args, below, meth, c, Q, A, rfl, hx, hb, hml, hts, hown, hK, hZY, hZM, hA, hX, hbl, hbA⟩ := hC
  intro H locs ls hP hD hS hl
  exact lv_aload_n hx hb hdg rfl (lv_at hl j hj) (k H locs ls hP hD hS hl)
theorem zl_aload {i : Nat} {y : Nat} (j : Nat) (hC : z_LC J l cc nL Ts own R D ca q cb qm cL qo tt sk sv b L xs) (hdg : decode cc pc = .ok (.aload i, 2)) (hj : lv[j]? = some (i, .ref y)) (k : J (pc + 2) lv (.ref y :: st) g h x cells slots) : J pc lv st g h x cells slots := by
  obtain ⟨p, e, s, m, args, below, meth, c, Q, A, rfl, hx, hb, hml, hts, hown, hK, hZY, hZM, hA, hX, hbl, hbA⟩ := hC
  intro H locs ls hP hD hS hl
  exact lv_aload hx hb hdg (lv_at hl j hj) (k H locs ls hP hD hS hl)
theorem zl_istore {i : Nat} {y : Int32} {lv1 : List (Nat × Value)} (hC : z_LC J l cc nL Ts own R D ca q cb qm cL qo tt sk sv b L xs) (hdg : decode cc pc = .ok (.istore i, 2)) (hn : i < nL) (hl1 : (i, Value.int y) :: lv.filter (fun q => !(q.1 == i) && !(q.1 + 1 == i && q.2.category == 2)) = lv1) (k : J (pc + 2) lv1 st g h x cells slots) : J pc lv (.int y :: st) g h x cells slots := by
  obtain ⟨p, e, s, m, args, below, meth, c, Q, A, rfl, hx, hb, hml, hts, hown, hK, hZY, hZM, hA, hX, hbl, hbA⟩ := hC
  intro H locs ls hP hD hS hl
  exact lv_istore hx hb hdg hl hn hl1 (fun ls1 hl2 => k H locs ls1 hP hD hS hl2)
theorem zl_iinc {i : Nat} {n : Int} {y v : Int32} {lv1 : List (Nat × Value)} (j : Nat) (hC : z_LC J l cc nL Ts own R D ca q cb qm cL qo tt sk sv b L xs) (hdg : decode cc pc = .ok (.iinc i n, 3)) (hj : lv[j]? = some (i, .int y)) (hv : y + Int32.ofInt n = v) (hn : i < nL) (hl1 : (i, Value.int v) :: lv.filter (fun q => !(q.1 == i) && !(q.1 + 1 == i && q.2.category == 2)) = lv1) (k : J (pc + 3) lv1 st g h x cells slots) : J pc lv st g h x cells slots := by
  obtain ⟨p, e, s, m, args, below, meth, c, Q, A, rfl, hx, hb, hml, hts, hown, hK, hZY, hZM, hA, hX, hbl, hbA⟩ := hC
  intro H locs ls hP hD hS hl
  exact lv_iinc hx hb hdg hl (k := j) hj hv hn hl1 (fun ls1 hl2 => k H locs ls1 hP hD hS hl2)
theorem zl_iadd {y z : Int32} (hC : z_LC J l cc nL Ts own R D ca q cb qm cL qo tt sk sv b L xs) (hdg : decode cc pc = .ok (.iadd, 1))  (k : J (pc + 1) lv (.int (y + z) :: st) g h x cells slots) : J pc lv (.int z :: .int y :: st) g h x cells slots := by
  obtain ⟨p, e, s, m, args, below, meth, c, Q, A, rfl, hx, hb, hml, hts, hown, hK, hZY, hZM, hA, hX, hbl, hbA⟩ := hC
  intro H locs ls hP hD hS hl
  exact lv_iadd hx hb hdg (k H locs ls hP hD hS hl)
theorem zl_isub {y z : Int32} (hC : z_LC J l cc nL Ts own R D ca q cb qm cL qo tt sk sv b L xs) (hdg : decode cc pc = .ok (.isub, 1))  (k : J (pc + 1) lv (.int (y - z) :: st) g h x cells slots) : J pc lv (.int z :: .int y :: st) g h x cells slots := by
  obtain ⟨p, e, s, m, args, below, meth, c, Q, A, rfl, hx, hb, hml, hts, hown, hK, hZY, hZM, hA, hX, hbl, hbA⟩ := hC
  intro H locs ls hP hD hS hl
  exact lv_isub hx hb hdg (k H locs ls hP hD hS hl)
theorem zl_iand {y z : Int32} (hC : z_LC J l cc nL Ts own R D ca q cb qm cL qo tt sk sv b L xs) (hdg : decode cc pc = .ok (.iand, 1))  (k : J (pc + 1) lv (.int (y &&& z) :: st) g h x cells slots) : J pc lv (.int z :: .int y :: st) g h x cells slots := by
  obtain ⟨p, e, s, m, args, below, meth, c, Q, A, rfl, hx, hb, hml, hts, hown, hK, hZY, hZM, hA, hX, hbl, hbA⟩ := hC
  intro H locs ls hP hD hS hl
  exact lv_iand hx hb hdg (k H locs ls hP hD hS hl)
theorem zl_i2l {y : Int32} (hC : z_LC J l cc nL Ts own R D ca q cb qm cL qo tt sk sv b L xs) (hdg : decode cc pc = .ok (.i2l, 1))  (k : J (pc + 1) lv (.long y.toInt64 :: st) g h x cells slots) : J pc lv (.int y :: st) g h x cells slots := by
  obtain ⟨p, e, s, m, args, below, meth, c, Q, A, rfl, hx, hb, hml, hts, hown, hK, hZY, hZM, hA, hX, hbl, hbA⟩ := hC
  intro H locs ls hP hD hS hl
  exact lv_i2l hx hb hdg rfl (k H locs ls hP hD hS hl)
theorem zl_lcmp {y z : Int64} (hC : z_LC J l cc nL Ts own R D ca q cb qm cL qo tt sk sv b L xs) (hdg : decode cc pc = .ok (.lcmp, 1))  (k : J (pc + 1) lv (.int (lg_cmp y z) :: st) g h x cells slots) : J pc lv (.long z :: .long y :: st) g h x cells slots := by
  obtain ⟨p, e, s, m, args, below, meth, c, Q, A, rfl, hx, hb, hml, hts, hown, hK, hZY, hZM, hA, hX, hbl, hbA⟩ := hC
  intro H locs ls hP hD hS hl
  exact W.lcmp hx hb hdg (k H locs ls hP hD hS hl)
theorem zl_goto {off : Int} (tgt : Nat) (hC : z_LC J l cc nL Ts own R D ca q cb qm cL qo tt sk sv b L xs) (hdg : decode cc pc = .ok (.goto off, 3)) (ht : (pc : Int) + off = (tgt : Int)) (k : J tgt lv st g h x cells slots) : J pc lv st g h x cells slots := by
  obtain ⟨p, e, s, m, args, below, meth, c, Q, A, rfl, hx, hb, hml, hts, hown, hK, hZY, hZM, hA, hX, hbl, hbA⟩ := hC
  intro H locs ls hP hD hS hl
  exact lv_goto hx hb hdg ht (k H locs ls hP hD hS hl)
theorem zl_if_eq {y : Int32} {off : Int} (tgt : Nat) (hC : z_LC J l cc nL Ts own R D ca q cb qm cL qo tt sk sv b L xs) (hdg : decode cc pc = .ok (.ifCond .eq off, 3)) (ht : (pc : Int) + off = (tgt : Int)) (kt : y = 0 → J tgt lv st g h x cells slots) (kf : ¬ y = 0 → J (pc + 3) lv st g h x cells slots) : J pc lv (.int y :: st) g h x cells slots := by
  obtain ⟨p, e, s, m, args, below, meth, c, Q, A, rfl, hx, hb, hml, hts, hown, hK, hZY, hZM, hA, hX, hbl, hbA⟩ := hC
  intro H locs ls hP hD hS hl
  exact lv_if_eq hx hb hdg ht (fun w => kt w H locs ls hP hD hS hl) (fun w => kf w H locs ls hP hD hS hl)
theorem zl_if_ne {y : Int32} {off : Int} (tgt : Nat) (hC : z_LC J l cc nL Ts own R D ca q cb qm cL qo tt sk sv b L xs) (hdg : decode cc pc = .ok (.ifCond .ne off, 3)) (ht : (pc : Int) + off = (tgt : Int)) (kt : ¬ y = 0 → J tgt lv st g h x cells slots) (kf : y = 0 → J (pc + 3) lv st g h x cells slots) : J pc lv (.int y :: st) g h x cells slots := by
  obtain ⟨p, e, s, m, args, below, meth, c, Q, A, rfl, hx, hb, hml, hts, hown, hK, hZY, hZM, hA, hX, hbl, hbA⟩ := hC
  intro H locs ls hP hD hS hl
  exact lv_if_ne hx hb hdg ht (fun w => kt w H locs ls hP hD hS hl) (fun w => kf w H locs ls hP hD hS hl)
theorem zl_same {y : Int32} {off : Int} (tgt : Nat) (hC : z_LC J l cc nL Ts own R D ca q cb qm cL qo tt sk sv b L xs) (hdg : decode cc pc = .ok (.if_icmp .eq off, 3)) (ht : (pc : Int) + off = (tgt : Int)) (k : J tgt lv st g h x cells slots) : J pc lv (.int y :: .int y :: st) g h x cells slots := by
  obtain ⟨p, e, s, m, args, below, meth, c, Q, A, rfl, hx, hb, hml, hts, hown, hK, hZY, hZM, hA, hX, hbl, hbA⟩ := hC
  intro H locs ls hP hD hS hl
  exact lv_icmp_eq hx hb hdg ht (fun _ => k H locs ls hP hD hS hl) (fun w => absurd rfl w)
theorem zl_gt {y z : Int32} {off : Int} (tgt : Nat) (hC : z_LC J l cc nL Ts own R D ca q cb qm cL qo tt sk sv b L xs) (hdg : decode cc pc = .ok (.if_icmp .gt off, 3)) (ht : (pc : Int) + off = (tgt : Int)) (kt : z < y → J tgt lv st g h x cells slots) (kf : ¬ z < y → J (pc + 3) lv st g h x cells slots) : J pc lv (.int z :: .int y :: st) g h x cells slots := by
  obtain ⟨p, e, s, m, args, below, meth, c, Q, A, rfl, hx, hb, hml, hts, hown, hK, hZY, hZM, hA, hX, hbl, hbA⟩ := hC
  intro H locs ls hP hD hS hl
  exact lv_icmp_gt hx hb hdg ht (fun w => kt w H locs ls hP hD hS hl) (fun w => kf w H locs ls hP hD hS hl)
theorem zl_tabIn {dflt lo hi : Int} {offs : Array Int} {len : Nat} {y v : Int32} {off : Int} (tgt : Nat) (hC : z_LC J l cc nL Ts own R D ca q cb qm cL qo tt sk sv b L xs) (hdg : decode cc pc = .ok (.tableswitch dflt lo hi offs, len)) (hv : y = v) (h1 : ¬ v.toInt < lo) (h2 : ¬ hi < v.toInt) (ho : offs[(v.toInt - lo).toNat]? = some off) (ht : (pc : Int) + off = (tgt : Int)) (k : J tgt lv st g h x cells slots) : J pc lv (.int y :: st) g h x cells slots := by
  obtain ⟨p, e, s, m, args, below, meth, c, Q, A, rfl, hx, hb, hml, hts, hown, hK, hZY, hZM, hA, hX, hbl, hbA⟩ := hC
  intro H locs ls hP hD hS hl
  exact lv_tableIn hx hb hdg (by rw [hv]; exact h1) (by rw [hv]; exact h2) (by rw [hv]; exact ho) ht (k H locs ls hP hD hS hl)
theorem zl_tabOut {dflt lo hi : Int} {offs : Array Int} {len : Nat} {y : Int32} (tgt : Nat) (hC : z_LC J l cc nL Ts own R D ca q cb qm cL qo tt sk sv b L xs) (hdg : decode cc pc = .ok (.tableswitch dflt lo hi offs, len)) (hv : y.toInt < lo ∨ hi < y.toInt) (ht : (pc : Int) + dflt = (tgt : Int)) (k : J tgt lv st g h x cells slots) : J pc lv (.int y :: st) g h x cells slots := by
  obtain ⟨p, e, s, m, args, below, meth, c, Q, A, rfl, hx, hb, hml, hts, hown, hK, hZY, hZM, hA, hX, hbl, hbA⟩ := hC
  intro H locs ls hP hD hS hl
  exact lv_tableOut hx hb hdg hv ht (k H locs ls hP hD hS hl)
theorem zl_sld {i : Int32} (hC : z_LC J l cc nL Ts own R D ca q cb qm cL qo tt sk sv b L xs) (hin : vp_in i L) (hdg : decode cc pc = .ok (.iaload, 1)) (k : J (pc + 1) lv (.int (xs i.toNatClampNeg) :: st) g h x cells slots) : J pc lv (.int i :: .ref b :: st) g h x cells slots := by
  obtain ⟨p, e, s, m, args, below, meth, c, Q, A, rfl, hx, hb, hml, hts, hown, hK, hZY, hZM, hA, hX, hbl, hbA⟩ := hC
  intro H locs ls hP hD hS hl
  exact va_sld hx hb hX hbl hbA hS hin hdg (k H locs ls hP hD hS hl)
theorem zl_slen  (hC : z_LC J l cc nL Ts own R D ca q cb qm cL qo tt sk sv b L xs) (hdg : decode cc pc = .ok (.arraylength, 1)) (k : J (pc + 1) lv (.int (Int32.ofNat L) :: st) g h x cells slots) : J pc lv (.ref b :: st) g h x cells slots := by
  obtain ⟨p, e, s, m, args, below, meth, c, Q, A, rfl, hx, hb, hml, hts, hown, hK, hZY, hZM, hA, hX, hbl, hbA⟩ := hC
  intro H locs ls hP hD hS hl
  exact va_slen hx hb hX hbl hbA hS hdg (k H locs ls hP hD hS hl)
theorem zl_lald {i : Int32} (hC : z_LC J l cc nL Ts own R D ca q cb qm cL qo tt sk sv b L xs) (hin : vp_in i 1) (hdg : decode cc pc = .ok (.laload, 1)) (k : J (pc + 1) lv (.long (x i.toNatClampNeg) :: st) g h x cells slots) : J pc lv (.int i :: .ref qo :: st) g h x cells slots := by
  obtain ⟨p, e, s, m, args, below, meth, c, Q, A, rfl, hx, hb, hml, hts, hown, hK, hZY, hZM, hA, hX, hbl, hbA⟩ := hC
  intro H locs ls hP hD hS hl
  exact va_lald hx hb hK hP 88 79 rfl rfl hin hdg (k H locs ls hP hD hS hl)
theorem zl_widen {c2 s2 : Nat} (hC : z_LC J l cc nL Ts own R D ca q cb qm cL qo tt sk sv b L xs) (h1 : cells ≤ c2) (h2 : slots ≤ s2) (k : J pc lv st g h x c2 s2) : J pc lv st g h x cells slots := by
  obtain ⟨p, e, s, m, args, below, meth, c, Q, A, rfl, hx, hb, hml, hts, hown, hK, hZY, hZM, hA, hX, hbl, hbA⟩ := hC
  intro H locs ls hP hD hS hl
  exact W.widen h1 h2 (k H locs ls hP hD hS hl)
theorem zl_sub {lv1 : List (Nat × Value)} (ks : List Nat) (hC : z_LC J l cc nL Ts own R D ca q cb qm cL qo tt sk sv b L xs) (hk : lv_pick lv ks = lv1) (k : J pc lv1 st g h x cells slots) : J pc lv st g h x cells slots := by
  obtain ⟨p, e, s, m, args, below, meth, c, Q, A, rfl, hx, hb, hml, hts, hown, hK, hZY, hZM, hA, hX, hbl, hbA⟩ := hC
  intro H locs ls hP hD hS hl
  exact k H locs ls hP hD hS (lv_sub hl ks hk)
theorem zl_callY {b1 : Nat} {C : String} {y : MethodName} {ws ws' : List Cond} {bytes : ByteArray} {maxL fr lo n index : Nat} {ret1 : Option FieldType} {r : Int32} {g1 : z_G} (As : List Value) (hC : z_LC J l cc nL Ts own R D ca q cb qm cL qo tt sk sv b L xs) (hM : z_C l y ws { frames := fr, cells := 0, slots := 0, locals := lo } D (tyY ca) (wY ca q) (zY tt) (.ref b1 :: As) g (some r) g1) (hG : GoodIn Ts (wsV own index C y ws)) (hw : ws = Cond.code y bytes maxL ret1 :: ws') (hd : y.cls = C ∧ y.cls ≠ "java/lang/invoke/MethodHandle" ∧ y.cls ≠ "java/lang/invoke/VarHandle" ∧ (parseMethodDescriptor y.desc).map (fun d => d.parameters.length) = some n) (hR : fr + 1 ≤ R.frames ∧ 8 + (maxL + 11) + lo ≤ R.locals) (q0 : Nat) {ci : Nat} {qc : vw_C} {fs : List Value} (he : (wY ca q g)[q0]? = some (b1, .inr (ci, fs))) (hc : vwCl[ci]? = some qc) (hq : qc.1 = C) (hn : As.length = n) (hst : (st.map fun v => v.category).sum ≤ 8) (hcs : cells ≤ R.cells ∧ slots ≤ R.slots) (hdg : decode cc pc = .ok (.invokevirtual index, 3)) {st0 : List Value} (h0 : st0 = As.reverse ++ .ref b1 :: st) (k : J (pc + 3) lv (.int r :: st) g1 h x cells slots) : J pc lv st0 g h x cells slots := by
  obtain ⟨p, e, s, m, args, below, meth, c, Q, A, rfl, hx, hb, hml, hts, hown, hK, hZY, hZM, hA, hX, hbl, hbA⟩ := hC
  intro H locs ls hP hD hS0 hl
  have hPc : va_P D vwCl (wY ca q g) H := hP.sub (List.range 47) rfl
  have hDc : va_D A (wY ca q g) := hD.sub (List.range 47) rfl rfl
  have hKc : va_K D vwCl (tyY ca) s := hK.sub (List.range 39) rfl
  have hFc := wY_ok _ _ |>.A hDc hS0 hA
  refine va_calli (A1 := z_A (wY ca q) H.size) (va_runV (As := As) (rest := st) ⟨hx, hb, hml, hown, hts⟩ (hM H.size) (cwV n hts hG hw rfl rfl hd hR) ⟨fun a U g9 mk w => by obtain ⟨q0, q1, qP, qK, qD, qZ⟩ := w; exact ⟨q0, q1, qP, va_K.moved (u := U) (U := U.calling g9 mk a) (Vm.Alike.refl U.vm) qK, qD, (zY_ok tt).1.1 _ U (U.calling g9 mk a) _ rfl qZ⟩, by rw [← hq]; exact va_recv hKc hPc hc he, fun U hU hW => ⟨rfl, by rw [hU], by rw [hU]; exact hPc, va_K.moved hW.alike hKc, hDc.weaken (fun _ _ _ _ => trivial), by rw [hU]; exact (zY_ok tt).2.2 _ _ _ _ ((zY_ok tt).2.1 _ _ _ _ ((zY_ok tt).1.2 _ _ _ _ hW hZY) hS0.2.1) hFc⟩⟩ rfl hn hl.1 h0 (lv_room hst) hdg hcs) hS0 (fun w _ hw9 => hFc w hw9) hFc (fun r9 u t H1 locs1 ht hvm hw9 hB hz1 hk1 hS => ?_)
  obtain ⟨rfl, rfl⟩ := hw9
  obtain ⟨hP1, hK1, hD1⟩ := hB
  rw [ht] at hP1
  have hA2 : ∀ w, va_A (wY ca q g) H.size w ↔ z_A (wY ca q) H.size w := fun w => ⟨fun hw => hw.elim (fun ⟨k9, e9, hk9⟩ => by obtain ⟨e8, h8⟩ := wY_ok _ _ g (fun _ _ => 0) k9 w e9 hk9; exact Or.inl ⟨k9, e8, h8⟩) Or.inr, fun hw => hw.elim (fun ⟨k9, e9, hk9⟩ => by obtain ⟨e8, h8⟩ := wY_ok _ _ (fun _ _ => 0) g k9 w e9 hk9; exact Or.inl ⟨k9, e8, h8⟩) Or.inr⟩
  obtain ⟨hP2, hD2⟩ := va_join (wc := wY ca q g) (wr := (wM cb qm h ++ [(qo, .inl (cL, 1, .inr (.inl x)))])) hP hD (List.range 47) ((List.range 42).map (· + 47)) rfl rfl rfl (by decide) (fun w h1 h2 => hk1 w h1 (fun h3 => h2 ((hA2 w).2 h3))) (fun w hw => hFc w ((hA2 w).1 hw)) hP1 (hD1.weaken (fun _ _ _ h3 => (hA2 _).2 h3))
  exact k H1 locs1 ls (hP2.sub (((List.range 47).map (· + 42)) ++ (List.range 42)) rfl) (hD2.sub (((List.range 47).map (· + 42)) ++ (List.range 42)) rfl rfl) hS hl
theorem zl_callM {b1 : Nat} {C : String} {y : MethodName} {ws ws' : List Cond} {bytes : ByteArray} {maxL fr lo n index : Nat} {ret1 : Option FieldType} {r : Int32} {g1 : z_G} (As : List Value) (hC : z_LC J l cc nL Ts own R D ca q cb qm cL qo tt sk sv b L xs) (hM : z_C l y ws { frames := fr, cells := 0, slots := 0, locals := lo } D (tyM cb) (wM cb qm) (zM sk sv) (.ref b1 :: As) h (some r) g1) (hG : GoodIn Ts (wsV own index C y ws)) (hw : ws = Cond.code y bytes maxL ret1 :: ws') (hd : y.cls = C ∧ y.cls ≠ "java/lang/invoke/MethodHandle" ∧ y.cls ≠ "java/lang/invoke/VarHandle" ∧ (parseMethodDescriptor y.desc).map (fun d => d.parameters.length) = some n) (hR : fr + 1 ≤ R.frames ∧ 8 + (maxL + 11) + lo ≤ R.locals) (q0 : Nat) {ci : Nat} {qc : vw_C} {fs : List Value} (he : (wM cb qm h)[q0]? = some (b1, .inr (ci, fs))) (hc : vwCl[ci]? = some qc) (hq : qc.1 = C) (hn : As.length = n) (hst : (st.map fun v => v.category).sum ≤ 8) (hcs : cells ≤ R.cells ∧ slots ≤ R.slots) (hdg : decode cc pc = .ok (.invokevirtual index, 3)) {st0 : List Value} (h0 : st0 = As.reverse ++ .ref b1 :: st) (k : J (pc + 3) lv (.int r :: st) g g1 x cells slots) : J pc lv st0 g h x cells slots := by
  obtain ⟨p, e, s, m, args, below, meth, c, Q, A, rfl, hx, hb, hml, hts, hown, hK, hZY, hZM, hA, hX, hbl, hbA⟩ := hC
  intro H locs ls hP hD hS0 hl
  have hPc : va_P D vwCl (wM cb qm h) H := hP.sub ((List.range 41).map (· + 47)) rfl
  have hDc : va_D A (wM cb qm h) := hD.sub ((List.range 41).map (· + 47)) rfl rfl
  have hKc : va_K D vwCl (tyM cb) s := hK.sub ((List.range 40).map (· + 39)) rfl
  have hFc := wM_ok _ _ |>.A hDc hS0 hA
  refine va_calli (A1 := z_A (wM cb qm) H.size) (va_runV (As := As) (rest := st) ⟨hx, hb, hml, hown, hts⟩ (hM H.size) (cwV n hts hG hw rfl rfl hd hR) ⟨fun a U g9 mk w => by obtain ⟨q0, q1, qP, qK, qD, qZ⟩ := w; exact ⟨q0, q1, qP, va_K.moved (u := U) (U := U.calling g9 mk a) (Vm.Alike.refl U.vm) qK, qD, (zM_ok sk sv).1.1 _ U (U.calling g9 mk a) _ rfl qZ⟩, by rw [← hq]; exact va_recv hKc hPc hc he, fun U hU hW => ⟨rfl, by rw [hU], by rw [hU]; exact hPc, va_K.moved hW.alike hKc, hDc.weaken (fun _ _ _ _ => trivial), by rw [hU]; exact (zM_ok sk sv).2.2 _ _ _ _ ((zM_ok sk sv).2.1 _ _ _ _ ((zM_ok sk sv).1.2 _ _ _ _ hW hZM) hS0.2.1) hFc⟩⟩ rfl hn hl.1 h0 (lv_room hst) hdg hcs) hS0 (fun w _ hw9 => hFc w hw9) hFc (fun r9 u t H1 locs1 ht hvm hw9 hB hz1 hk1 hS => ?_)
  obtain ⟨rfl, rfl⟩ := hw9
  obtain ⟨hP1, hK1, hD1⟩ := hB
  rw [ht] at hP1
  have hA2 : ∀ w, va_A (wM cb qm h) H.size w ↔ z_A (wM cb qm) H.size w := fun w => ⟨fun hw => hw.elim (fun ⟨k9, e9, hk9⟩ => by obtain ⟨e8, h8⟩ := wM_ok _ _ h (fun _ _ => 0) k9 w e9 hk9; exact Or.inl ⟨k9, e8, h8⟩) Or.inr, fun hw => hw.elim (fun ⟨k9, e9, hk9⟩ => by obtain ⟨e8, h8⟩ := wM_ok _ _ (fun _ _ => 0) h k9 w e9 hk9; exact Or.inl ⟨k9, e8, h8⟩) Or.inr⟩
  obtain ⟨hP2, hD2⟩ := va_join (wc := wM cb qm h) (wr := (wY ca q g ++ [(qo, .inl (cL, 1, .inr (.inl x)))])) hP hD ((List.range 41).map (· + 47)) ((List.range 47) ++ [88]) rfl rfl rfl (by decide) (fun w h1 h2 => hk1 w h1 (fun h3 => h2 ((hA2 w).2 h3))) (fun w hw => hFc w ((hA2 w).1 hw)) hP1 (hD1.weaken (fun _ _ _ h3 => (hA2 _).2 h3))
  exact k H1 locs1 ls (hP2.sub ((List.range 47) ++ ((List.range 41).map (· + 48)) ++ [47]) rfl) (hD2.sub ((List.range 47) ++ ((List.range 41).map (· + 48)) ++ [47]) rfl rfl) hS hl
end ZLAW
