/-! a callee's exception, caught by the one row of the caller's table -/
theorem z_find1 {e : Env} {S : State} {f : JFrame} {a : Addr} {meth : Method} {code : Code} {x : ExceptionTableEntry} {k : ClassId} {cell : Cell} (hm : S.vm.method? f.method = some meth) (hc : meth.code = some code) (htab : code.exceptionTable.toList = [x]) (hx : covers x f.pc = true) (h0 : x.catchType ≠ 0)
    (hl : S.vm.ClassLinks e.platform f.method.cls x.catchType k) (hcell : S.heap[a]? = some cell) (hobj : ∀ j, cell.vm ≠ .statics j) (hk : ∃ z, S.vm.classes[cell.cls]? = some z) (hc2 : ∃ z, S.vm.classes[k]? = some z) (hfit : S.vm.assignable cell.cls k = true)
    (Q : Handler → Pre) (E : CtlPost) (d : Bool) (acts : List Action) : wp (findHandler f a) Q E e d acts S ↔ Q (.found x.handlerPc) d acts (S.setVm (S.vm.noted f.method.cls x.catchType (.cls k))) := by
  rw [Jvm.W.findHandler_eq hm hc, htab]
  simp only [covers] at hx
  obtain ⟨ha, ht⟩ := (resolveClass_links e.toSetting hl).op (op := VmOp.resolveClass f.method.cls x.catchType) rfl
  have hal : S.vm.Alike (S.vm.noted f.method.cls x.catchType (.cls k)) := (Vm.Alike.refl S.vm).noted _ _ _
  obtain ⟨z1, hz1⟩ := hk
  obtain ⟨z2, hz2⟩ := hc2
  obtain ⟨y1, hy1, -⟩ := hal.2.2 _ _ hz1
  obtain ⟨y2, hy2, -⟩ := hal.2.2 _ _ hz2
  have hfit1 : (S.vm.noted f.method.cls x.catchType (.cls k)).assignable cell.cls k = true := by rw [hal.assignable]; exact hfit
  simp [findHandler.go, hx, h0, ha, ht, hcell, hobj, hy1, hy2, hfit1, VmOp.dirties, VmOp.acts]
section ZCATCH
variable {p : Program} {l : Launch} {e : Env} {R : Room} {s : State} {m : MethodId} {args : Array Value} {below : List Frame} {meth : Method} {c : Code} {H : Heap} {locs : List Loc} {cells slots : Nat} {Q : State → Prop} {pc : Nat} {ls : Array Slot} {rest : List Value}
theorem z_catch {own name E : String} {ce : Cell} {q : Addr} (hown : s.vm.findClass own = some m.cls) (x : ExceptionTableEntry) (htab : c.exceptionTable.toList = [x]) (hx : covers x pc = true) (h0 : x.catchType ≠ 0)
    (hlink : (Cond.classLink own x.catchType name).before args s = true) (hcast : (Cond.castable E name).before args s = true) (hcell : H[q]? = some ce) (hv : ce.vm = .none) (hcl : s.vm.findClass E = some ce.cls)
    (kk : W p l e R s m args below meth c H locs cells slots Q (F0 m x.handlerPc ls [.ref q])) : vx_W p l e R s m args below meth c H locs cells slots Q (F0 m pc ls rest) q := by
  intro T hT X
  have hpl : e.platform.magicAccessors = ({} : Platform).magicAccessors := by rw [X.admits.platform]
  obtain ⟨c3, c4, hc3, hc4, hasg⟩ := Cond.castable_spec hcast
  cases Option.some.inj (hc3.symm.trans hcl)
  obtain ⟨c5, hc5, hcl5⟩ := Cond.classLink_spec hown hlink e.platform hpl
  cases Option.some.inj (hc4.symm.trans hc5)
  obtain ⟨k9, h9, -⟩ := Vm.findClass_spec hcl
  obtain ⟨dk, _, _, kt, hd, _, _, _, _, hkt, _, hopen⟩ := hcl5.here
  have hW : s.WarmedH T.vm := X.warmed
  obtain ⟨k9', h9', -⟩ := hW.alike.2.2 _ _ h9
  obtain ⟨kt', hkt', -⟩ := hW.alike.2.2 _ _ hkt
  have hfind := fun (Q : Handler → Pre) (E : CtlPost) (d : Bool) (acts : List Action) => z_find1 (e := e) (S := (T.setTop (F0 m pc ls rest)).pushFrame (.throwing q)) (f := F0 m pc ls rest) (a := q) (meth := meth) (code := c) (x := x) (k := c4) (cell := ce) X.method' X.code htab hx h0 (hW.classLinks hcl5) (by show T.heap[q]? = some ce; rw [hT]; exact hcell) (by intro j h; rw [hv] at h; cases h) ⟨k9', h9'⟩ ⟨kt', hkt'⟩ (by show T.vm.assignable _ _ = true; rw [hW.alike.assignable]; exact hasg) Q E d acts
  have X' := X.noted (hW.noted hd hopen (State.rightAt_cls hcl5))
  obtain ⟨t, a1, b1⟩ := kk (T.setVm (T.vm.noted m.cls x.catchType (.cls c4))) hT X'
  refine ⟨t, ?_, b1⟩
  obtain ⟨hgo, hw⟩ := X.here.throwing (g := F0 m pc ls rest) q
  refine Steps.head hgo hw ?_
  have hst : (stepThrowing e ((T.setTop (F0 m pc ls rest)).pushFrame (.throwing q)) q (.java (F0 m pc ls rest) :: T.frames.tail)).Is ((((T.setTop (F0 m pc ls rest)).pushFrame (.throwing q)).setVm (T.vm.noted m.cls x.catchType (.cls c4))).setFrames (.java { F0 m pc ls rest with pc := x.handlerPc, stack := [.ref q] } :: T.frames.tail)) [] := by
    simp only [stepThrowing, searchFrame, vmDo]
    generalize hr : Sem.go _ e false [] ((T.setTop (F0 m pc ls rest)).pushFrame (.throwing q)) = res
    obtain ⟨as, rfl, ha⟩ := Sem.eq_ok_of hr (a := Handler.found x.handlerPc) (s' := ((T.setTop (F0 m pc ls rest)).pushFrame (.throwing q)).setVm (T.vm.noted m.cls x.catchType (.cls c4))) (acts' := []) (by simp [hfind]; rfl)
    exact ⟨rfl, ha⟩
  rw [stepThread_throwing (frames_entered X.here.top _), hst.1]
  obtain ⟨g₀, hg⟩ := Option.isSome_iff_exists.mp X.here.top
  obtain ⟨r, hr⟩ := State.topJava?_eq_some.mp hg
  have hr' : (T.setVm (T.vm.noted m.cls x.catchType (.cls c4))).frames = .java g₀ :: r := hr
  rw [State.setTop_of_frames _ hr'] at a1
  rw [hr, List.tail_cons, State.setTop_of_frames _ hr, State.pushFrame, State.setFrames_setFrames]
  have e9 : ∀ (F G : List Frame), ((T.setFrames F).setVm (T.vm.noted m.cls x.catchType (.cls c4))).setFrames G = (T.setVm (T.vm.noted m.cls x.catchType (.cls c4))).setFrames G := by
    intro F G
    show (((T.setVm (T.vm.noted m.cls x.catchType (.cls c4))).setFrames F).setFrames G) = _
    rw [State.setFrames_setFrames]
  rw [e9]
  exact a1
end ZCATCH
