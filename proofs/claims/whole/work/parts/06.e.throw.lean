/-! methods that throw -/
def z_badw : List Cond := [.castable "java/util/NoSuchElementException" "java/util/NoSuchElementException", .declares (Bundle.init0 "java/lang/RuntimeException"), .declares (Bundle.init0 "java/lang/Exception"), .declares (Bundle.init0 "java/lang/Throwable")]
def z_XX (D : va_G) (tys : List (ClassId × FieldType)) (Wd : z_G → va_W) (g' : z_G) (sz : Nat) : String → State → State → Prop := vx_X (fun u : z_G => u = g') (fun E u t => E = "java/util/NoSuchElementException" ∧ z_B D tys Wd sz u t) (z_A Wd sz)
def z_QT (D : va_G) (tys : List (ClassId × FieldType)) (Wd : z_G → va_W) (g' : z_G) : List Frame → Array Value → State → State → Prop := fun below args s => vx_MQ below (va_Qi (fun (_ : Int32) (_ : z_G) => False) (z_B D tys Wd s.heap.size) (z_A Wd s.heap.size)) (z_XX D tys Wd g' s.heap.size) args s 1 6 (z_A Wd s.heap.size)
def z_XE (l : Launch) : Code → State → Prop := fun c _ => (∀ x ∈ c.exceptionTable.toList, False) ∧ l.stackTraces = false
/-- a method's contract: from the state g it throws, at g' -/
def z_CT (l : Launch) (y : MethodName) (ws : List Cond) (rm : Room) (D : va_G) (tys : List (ClassId × FieldType)) (Wd : z_G → va_W) (Zt : z_ZT) (As : List Value) (g g' : z_G) : Prop :=
  ∀ sz : Nat, vx_Met l y ws rm (va_Pc As (z_U D tys Wd Zt g sz)) (va_Qi (fun (_ : Int32) (_ : z_G) => False) (z_B D tys Wd sz) (z_A Wd sz)) (z_XX D tys Wd g' sz) 1 6 (z_A Wd sz)
theorem z_enterT {l : Launch} {y : MethodName} {ws ws' : List Cond} {cc : ByteArray} {nL : Nat} {ret : Option FieldType} {rm : Room} {D : va_G} {tys : List (ClassId × FieldType)} {Wd : z_G → va_W} {Zt : z_ZT} {As : List Value} {g g' : z_G} (hls : l.stackTraces = false) (hWd : z_Wok Wd) (hZt : z_Zok Zt)
    (hy : plainName y.cls = true) (hw : ws = Cond.code y cc nL ret :: ws') (hn : (lg_sl As).length ≤ nL)
    (body : ∀ J : Nat → List (Nat × Value) → List Value → z_G → Prop, z_Cx J l cc nL ws y.cls ret rm D tys Wd Zt (z_QT D tys Wd g') (z_XE l) → J 0 (lv_args 0 As) [] g) : z_CT l y ws rm D tys Wd Zt As g g' := by
  intro sz
  refine vx_ofW (cc := cc) (maxL := nL) (ret := ret) hy hw ?_
  intro p e s m args below meth c s₁ B hml htab hv
  obtain ⟨rfl, hsz, hP, hK, hD0, hZ⟩ := hv
  have hts := atoms_spec (ws := ws) B.pre
  have hown : s.vm.findClass y.cls = some m.cls := findClass_of_methodNamed B.named
  subst hsz
  have hl := lv_entry As (n := nL) hn
  rw [lg_entry_eq]
  exact body _ ⟨p, e, s, m, As.toArray, below, meth, c, rfl, ⟨htab, hls⟩, B.exec, B.bytes, hml, B.returns, B.notSynchronized, hts, hown, hK, hZ, hWd, hZt⟩ s.heap [] _ ⟨hP, hWd.D hD0, va_S.rf⟩ hl
section ZTHROW
variable {J : Nat → List (Nat × Value) → List Value → z_G → Prop} {l : Launch} {cc : ByteArray} {nL : Nat} {Ts : List Cond} {own : String} {ret : Option FieldType} {R : Room} {D : va_G} {tys : List (ClassId × FieldType)} {Wd : z_G → va_W} {Zt : z_ZT}
variable {pc : Nat} {lv : List (Nat × Value)} {st : List Value} {g : z_G}
/-- throw new NoSuchElementException() -/
theorem zj_throw {ik ic : Nat} {names : List String} (hC : z_Cx J l cc nL Ts own ret R D tys Wd Zt (z_QT D tys Wd g) (z_XE l)) (hnames : ∀ n ∈ names, Bundle.fit n = true) (hk : Cond.classLink own ik "java/util/NoSuchElementException" ∈ Ts) (hini : Cond.initialized "java/util/NoSuchElementException" ∈ Ts)
    (h1 : ∀ w ∈ (vx_at0 own ic "java/util/NoSuchElementException" names).filter goodWord, w ∈ Ts) (h2 : ∀ w ∈ (vx_at0 own ic "java/util/NoSuchElementException" names).filter (fun w => !goodWord w), w ∈ z_badw)
    (hgood : ∀ w ∈ Cond.classLink own ik "java/util/NoSuchElementException" :: Cond.initialized "java/util/NoSuchElementException" :: vx_at0 own ic "java/util/NoSuchElementException" names, vx_ot w = true)
    (hU : ∀ (A : Nat → Prop) (U : State) (H : Heap), Zt A U H → vx_Zq Bundle.tN "UNASSIGNED_STACK" Bundle.steD A U H) (hN : ∀ (A : Nat → Prop) (U : State) (H : Heap), Zt A U H → vx_Zq Bundle.tN "SUPPRESSED_SENTINEL" Bundle.listD A U H) (hcs : ∀ (A : Nat → Prop) (U : State) (H : Heap), Zt A U H → va_Nw (.castable "java/util/NoSuchElementException" "java/util/NoSuchElementException") U ∧ va_Nw (.declares (Bundle.init0 "java/lang/RuntimeException")) U ∧ va_Nw (.declares (Bundle.init0 "java/lang/Exception")) U ∧ va_Nw (.declares (Bundle.init0 "java/lang/Throwable")) U)
    (d0 : decode cc pc = .ok (.new ik, 3)) (d3 : decode cc (pc + 3) = .ok (.dup, 1)) (d4 : decode cc (pc + 4) = .ok (.invokespecial ic, 3)) (d7 : decode cc (pc + 7) = .ok (.athrow, 1))
    (hRf : names.length + 3 < R.frames) (hRl : (st.map fun v => v.category).sum + (13 * (names.length + 1) + 42) ≤ R.locals) (hRc : 1 ≤ R.cells) (hRs : 6 ≤ R.slots) : J pc lv st g := by
  obtain ⟨p, e, s, m, args, below, meth, c, rfl, ⟨htab, hls⟩, hx, hb, hml, hr, hlocks, hts, hown, hK, hZ, hWd, hZt⟩ := hC
  intro H locs ls hY hl
  refine vx_throw0 hx hb hls (A := z_A Wd s.heap.size) (names := names) hown (by decide +kernel) hnames (hts _ hk) (hts _ hini) (vx_hat (fun w hw => hts w (h1 w hw)) h2 (vx_c ((hcs _ _ _ hZ).1.use rfl) (vx_c ((hcs _ _ _ hZ).2.1.use rfl) (vx_c ((hcs _ _ _ hZ).2.2.1.use rfl) (vx_c ((hcs _ _ _ hZ).2.2.2.use rfl) vx_n))))) hgood (hU _ _ _ hZ) (hN _ _ _ hZ) hY.2.2 (by rw [hml]; exact hl.1) d0 d3 d4 d7 (fun x hx => (htab x hx).elim) hRf hRl (by omega) (by omega) hlocks (fun t ha hsz hq => ?_) hY.2.2.2.2 (by omega) (by omega)
  refine ⟨g, rfl, ⟨rfl, hY.1.kept (fun k q hk => ?_), va_K.moved ha hK, hY.2.1⟩, ?_⟩
  · exact hq q.1 (vx_lt hY.1 hk)
  · exact ⟨Nat.le_trans hY.2.2.1 hsz, fun q h1 h2 => by rw [hq q (Nat.lt_of_lt_of_le h1 hY.2.2.1)]; exact hY.2.2.2.1 q h1 h2⟩
end ZTHROW
