/-! the law's helpers: the yard's world and the row of one long -/
def wO (ca : Nat → ClassId) (q : Nat → Nat) (cL : ClassId) (qo : Nat) (g : z_G) (x : Nat → Int64) : va_W := wY ca q g ++ [(qo, .inl (cL, 1, .inr (.inl x)))]
def tyO (ca : Nat → ClassId) (cL : ClassId) : List (ClassId × FieldType) := tyY ca ++ [(cL, .long)]
def z_CL (l : Launch) (y : MethodName) (ws : List Cond) (rm : Room) (D : va_G) (ca : Nat → ClassId) (q : Nat → Nat) (cL : ClassId) (qo : Nat) (tt : Nat → Nat) (As : List Value) (g : z_G) (x : Nat → Int64) (r : Int32) (g' : z_G) (x' : Nat → Int64) : Prop :=
  ∀ sz : Nat, Met l y ws rm (va_Pc As (fun U => U.heap.size = sz ∧ va_P D vwCl (wO ca q cL qo g x) U.heap ∧ va_K D vwCl (tyO ca cL) U ∧ va_D (fun _ => True) (wO ca q cL qo g x) ∧ zY tt (va_A (wO ca q cL qo g x) sz) U U.heap)) (va_Qi (fun (r2 : Int32) (u : z_G × (Nat → Int64)) => r2 = r ∧ u = (g', x')) (fun u t => va_P D vwCl (wO ca q cL qo u.1 u.2) t.heap ∧ va_K D vwCl (tyO ca cL) t ∧ va_D (va_A (wO ca q cL qo g x) sz) (wO ca q cL qo u.1 u.2)) (va_A (wO ca q cL qo g x) sz)) 1 6 (va_A (wO ca q cL qo g x) sz)

theorem nL_cell : yL_cell.cls ≠ "java/lang/invoke/MethodHandle" ∧ yL_cell.cls ≠ "java/lang/invoke/VarHandle" ∧ (parseMethodDescriptor yL_cell.desc).map (fun d => d.parameters.length) = some 5 := by decide +kernel
set_option maxRecDepth 100000 in
set_option maxHeartbeats 4000000 in
theorem kL_cell (l : Launch) (dC : Nat → ClassId) (dI : Nat → Nat → Nat) (ca : Nat → ClassId) (q : Nat → Nat) (cL : ClassId) (qo : Nat) (tt : Nat → Nat) (a0 : Int32) (a1 : Int32) (a2 : Int32) (g : z_G) (x : Nat → Int64) (r : Int32) (g' : z_G) (hf : fY_X7_cell a0 a1 a2 g = some (r, g')) : z_CL l yL_cell wsL_cell { frames := 7, cells := 1, slots := 6, locals := 113 } (dC, dI) ca q cL qo tt [.ref (q 0), .int a0, .int a1, .int a2, .ref qo] g x (0 : Int32) g' (vp_updL x 0 r.toInt64) := by
  intro sz
  refine va_MetW (cc := cL_cell) (maxL := 6) (ret := some .int) (hh := [(0, 12, 15, 13)]) (by decide +kernel) rfl ?_
  intro p e s m args below meth c s₁ B hml hv
  obtain ⟨rfl, hsz, hP, hK, hD0, hZ⟩ := hv
  have hx := B.exec
  have hb := B.bytes
  have hr := B.returns
  have hlocks := B.notSynchronized
  have hts := atoms_spec (ws := wsL_cell) B.pre
  have hown : s.vm.findClass RL = some m.cls := findClass_of_methodNamed B.named
  subst hsz
  have hD := hD0.self (sz := s.heap.size)
  have hA : ∀ w : Nat, s.heap.size ≤ w → va_A (wO ca q cL qo g x) s.heap.size w := fun w h => Or.inr h
  have hS0 : va_S (va_A (wO ca q cL qo g x) s.heap.size) s.heap s.heap [] := va_S.rf
  have hl := lv_entry [.ref (q 0), .int a0, .int a1, .int a2, .ref qo] (n := 6) (Nat.le_of_ble_eq_true rfl)
  rw [lg_entry_eq]
  generalize (lg_sl [.ref (q 0), .int a0, .int a1, .int a2, .ref qo] ++ List.replicate (6 - (lg_sl [.ref (q 0), .int a0, .int a1, .int a2, .ref qo]).length) Slot.unset).toArray = ls at hl ⊢
  have hl : lv_has ls 6 [(0, .ref (q 0)), (1, .int a0), (2, .int a1), (3, .int a2), (4, .ref qo)] := hl
  refine lv_aload hx hb dL_cell_0 (lv_at hl 4 rfl) ?_
  refine lv_iconst (v := 0) hx hb dL_cell_2 (by decide) ?_
  refine lv_aload_n hx hb dL_cell_3 rfl (lv_at hl 0 rfl) ?_
  refine lv_iload_n hx hb dL_cell_4 rfl (lv_at hl 1 rfl) ?_
  refine lv_iload_n hx hb dL_cell_5 rfl (lv_at hl 2 rfl) ?_
  refine lv_iload_n hx hb dL_cell_6 rfl (lv_at hl 3 rfl) ?_
  have hPc : va_P (dC, dI) vwCl (wY ca q g) s.heap := hP.sub (List.range 47) rfl
  have hDc : va_D (va_A (wO ca q cL qo g x) s.heap.size) (wY ca q g) := hD.sub (List.range 47) rfl rfl
  have hKc : va_K (dC, dI) vwCl (tyY ca) s := hK.sub (List.range 39) rfl
  have hFc := (wY_ok ca q).A hDc hS0 hA
  have hA2 : ∀ w, va_A (wY ca q g) s.heap.size w ↔ z_A (wY ca q) s.heap.size w := fun w => ⟨fun hw => hw.elim (fun ⟨k9, e9, hk9⟩ => by obtain ⟨e8, h8⟩ := wY_ok _ _ g (fun _ _ => 0) k9 w e9 hk9; exact Or.inl ⟨k9, e8, h8⟩) Or.inr, fun hw => hw.elim (fun ⟨k9, e9, hk9⟩ => by obtain ⟨e8, h8⟩ := wY_ok _ _ (fun _ _ => 0) g k9 w e9 hk9; exact Or.inl ⟨k9, e8, h8⟩) Or.inr⟩
  refine va_calli (A1 := z_A (wY ca q) s.heap.size) (va_runV (As := [.int a0, .int a1, .int a2]) (rest := [.int 0, .ref qo]) ⟨hx, hb, hml, hown, hts⟩ (cY_X7_cell l dC dI ca q tt a0 a1 a2 g r g' hf s.heap.size) (cwV 3 hts gL_cell_X7_cell rfl rfl rfl nY_X7_cell ⟨(Nat.le_of_ble_eq_true rfl), (Nat.le_of_ble_eq_true rfl)⟩) ⟨fun a9 U g9 mk w => by obtain ⟨q0, q1, qP, qK, qD, qZ⟩ := w; exact ⟨q0, q1, qP, va_K.moved (u := U) (U := U.calling g9 mk a9) (Vm.Alike.refl U.vm) qK, qD, (zY_ok tt).1.1 _ U (U.calling g9 mk a9) _ rfl qZ⟩, va_recv hKc hPc (ci := 7) (q0 := 0) rfl yo_0, fun U hU hW => ⟨rfl, by rw [hU], by rw [hU]; exact hPc, va_K.moved hW.alike hKc, hDc.weaken (fun _ _ _ _ => trivial), by rw [hU]; exact (zY_ok tt).2.2 _ _ _ _ ((zY_ok tt).2.1 _ _ _ _ ((zY_ok tt).1.2 _ _ _ _ hW hZ) hS0.2.1) hFc⟩⟩ rfl rfl hl.1 rfl (lv_room (Nat.le_of_ble_eq_true rfl)) dL_cell_7 ⟨(Nat.le_of_ble_eq_true rfl), (Nat.le_of_ble_eq_true rfl)⟩) hS0 (fun w _ hw9 => hFc w hw9) hFc (fun r9 u t H1 locs1 ht hvm hw9 hB hz1 hk1 hS => ?_)
  obtain ⟨rfl, rfl⟩ := hw9
  obtain ⟨hP1, hK1, hD1⟩ := hB
  rw [ht] at hP1
  obtain ⟨hP2, hD2⟩ := va_join (wc := wY ca q g) (wr := [(qo, .inl (cL, 1, .inr (.inl x)))]) hP hD (List.range 47) [47] rfl rfl rfl (by decide) (fun w h1 h2 => hk1 w h1 (fun h3 => h2 ((hA2 w).2 h3))) (fun w hw => hFc w ((hA2 w).1 hw)) hP1 (hD1.weaken (fun _ _ _ h3 => (hA2 _).2 h3))
  have hP2 : va_P (dC, dI) vwCl (wO ca q cL qo u x) H1 := hP2.sub (((List.range 47).map (· + 1)) ++ [0]) rfl
  have hD2 : va_D (va_A (wO ca q cL qo g x) s.heap.size) (wO ca q cL qo u x) := hD2.sub (((List.range 47).map (· + 1)) ++ [0]) rfl rfl
  refine lv_i2l hx hb dL_cell_10 rfl ?_
  refine va_last hx hb hK hP2 hD2 hS 47 39 rfl rfl (show vp_in (nI 0) 1 from vp_in_nI (by decide) (by decide)) dL_cell_11 (fun H3 locs3 hP3 hD3 hS => ?_)
  have hP3 : va_P (dC, dI) vwCl (wO ca q cL qo u (vp_updL x 0 r9.toInt64)) H3 := hP3
  have hD3 : va_D (va_A (wO ca q cL qo g x) s.heap.size) (wO ca q cL qo u (vp_updL x 0 r9.toInt64)) := hD3
  refine lv_goto (tgt := 19) hx hb dL_cell_12 (by decide) ?_
  refine lv_iconst (v := 0) hx hb dL_cell_19 (by decide) ?_
  refine W.widen (k := 1) (n := 6) (by omega) (by omega) ?_
  exact W.iret hx hb hr (fun t ht hW => ⟨⟨0, (u, (vp_updL x 0 r9.toInt64)), rfl, ⟨rfl, rfl⟩, by rw [ht]; exact hP3, va_K.moved hW.alike hK, hD3⟩, hS.F ht⟩) hS.2.2 dL_cell_20 hlocks
set_option maxRecDepth 100000 in
set_option maxHeartbeats 4000000 in
theorem kL_cellT (l : Launch) (dC : Nat → ClassId) (dI : Nat → Nat → Nat) (ca : Nat → ClassId) (q : Nat → Nat) (cL : ClassId) (qo : Nat) (tt : Nat → Nat) (hls : l.stackTraces = false) (a0 : Int32) (a1 : Int32) (a2 : Int32) (g : z_G) (x : Nat → Int64) (r : Int32) (g' : z_G) (hf : fY_X7_cellT a0 a1 a2 g = some (r, g')) : z_CL l yL_cell wsL_cell { frames := 7, cells := 1, slots := 6, locals := 113 } (dC, dI) ca q cL qo tt [.ref (q 0), .int a0, .int a1, .int a2, .ref qo] g x 1 g' x := by
  intro sz
  refine va_MetW (cc := cL_cell) (maxL := 6) (ret := some .int) (hh := [(0, 12, 15, 13)]) (by decide +kernel) rfl ?_
  intro p e s m args below meth c s₁ B hml hv
  obtain ⟨rfl, hsz, hP, hK, hD0, hZ⟩ := hv
  have hx := B.exec
  have hb := B.bytes
  have hr := B.returns
  have hlocks := B.notSynchronized
  have hts := atoms_spec (ws := wsL_cell) B.pre
  have hown : s.vm.findClass RL = some m.cls := findClass_of_methodNamed B.named
  subst hsz
  have hD := hD0.self (sz := s.heap.size)
  have hA : ∀ w : Nat, s.heap.size ≤ w → va_A (wO ca q cL qo g x) s.heap.size w := fun w h => Or.inr h
  have hS0 : va_S (va_A (wO ca q cL qo g x) s.heap.size) s.heap s.heap [] := va_S.rf
  have hl := lv_entry [.ref (q 0), .int a0, .int a1, .int a2, .ref qo] (n := 6) (Nat.le_of_ble_eq_true rfl)
  rw [lg_entry_eq]
  generalize (lg_sl [.ref (q 0), .int a0, .int a1, .int a2, .ref qo] ++ List.replicate (6 - (lg_sl [.ref (q 0), .int a0, .int a1, .int a2, .ref qo]).length) Slot.unset).toArray = ls at hl ⊢
  have hl : lv_has ls 6 [(0, .ref (q 0)), (1, .int a0), (2, .int a1), (3, .int a2), (4, .ref qo)] := hl
  refine lv_aload hx hb dL_cell_0 (lv_at hl 4 rfl) ?_
  refine lv_iconst (v := 0) hx hb dL_cell_2 (by decide) ?_
  refine lv_aload_n hx hb dL_cell_3 rfl (lv_at hl 0 rfl) ?_
  refine lv_iload_n hx hb dL_cell_4 rfl (lv_at hl 1 rfl) ?_
  refine lv_iload_n hx hb dL_cell_5 rfl (lv_at hl 2 rfl) ?_
  refine lv_iload_n hx hb dL_cell_6 rfl (lv_at hl 3 rfl) ?_
  have hPc : va_P (dC, dI) vwCl (wY ca q g) s.heap := hP.sub (List.range 47) rfl
  have hDc : va_D (va_A (wO ca q cL qo g x) s.heap.size) (wY ca q g) := hD.sub (List.range 47) rfl rfl
  have hKc : va_K (dC, dI) vwCl (tyY ca) s := hK.sub (List.range 39) rfl
  have hFc := (wY_ok ca q).A hDc hS0 hA
  have hA2 : ∀ w, va_A (wY ca q g) s.heap.size w ↔ z_A (wY ca q) s.heap.size w := fun w => ⟨fun hw => hw.elim (fun ⟨k9, e9, hk9⟩ => by obtain ⟨e8, h8⟩ := wY_ok _ _ g (fun _ _ => 0) k9 w e9 hk9; exact Or.inl ⟨k9, e8, h8⟩) Or.inr, fun hw => hw.elim (fun ⟨k9, e9, hk9⟩ => by obtain ⟨e8, h8⟩ := wY_ok _ _ (fun _ _ => 0) g k9 w e9 hk9; exact Or.inl ⟨k9, e8, h8⟩) Or.inr⟩
  refine vx_calli (A1 := z_A (wY ca q) s.heap.size) (vx_runV (As := [.int a0, .int a1, .int a2]) (rest := [.int 0, .ref qo]) ⟨hx, hb, hml, hown, hts⟩ (cY_X7_cellT l dC dI ca q tt hls a0 a1 a2 g r g' hf s.heap.size) (cwV 3 hts gL_cell_X7_cell rfl rfl rfl nY_X7_cell ⟨(Nat.le_of_ble_eq_true rfl), (Nat.le_of_ble_eq_true rfl)⟩) ⟨fun a9 U g9 mk w => by obtain ⟨q0, q1, qP, qK, qD, qZ⟩ := w; exact ⟨q0, q1, qP, va_K.moved (u := U) (U := U.calling g9 mk a9) (Vm.Alike.refl U.vm) qK, qD, (zY_ok tt).1.1 _ U (U.calling g9 mk a9) _ rfl qZ⟩, va_recv hKc hPc (ci := 7) (q0 := 0) rfl yo_0, fun U hU hW => ⟨rfl, by rw [hU], by rw [hU]; exact hPc, va_K.moved hW.alike hKc, hDc.weaken (fun _ _ _ _ => trivial), by rw [hU]; exact (zY_ok tt).2.2 _ _ _ _ ((zY_ok tt).2.1 _ _ _ _ ((zY_ok tt).1.2 _ _ _ _ hW hZ) hS0.2.1) hFc⟩⟩ rfl rfl hl.1 rfl (lv_room (Nat.le_of_ble_eq_true rfl)) dL_cell_7 ⟨(Nat.le_of_ble_eq_true rfl), (Nat.le_of_ble_eq_true rfl)⟩) hS0 (fun w _ hw9 => hFc w hw9) hFc (fun w _ hw9 => hFc w hw9) (fun E ce q9 u t H1 locs1 ht hvm hw9 hB hz1 hk1 hS hce hcv hcl => ?_) (fun r9 u t H1 locs1 ht hvm hw9 hB hz1 hk1 hS => hw9.elim)
  subst hw9
  obtain ⟨rfl, hB⟩ := hB
  obtain ⟨hP1, hK1, hD1⟩ := hB
  rw [ht] at hP1
  obtain ⟨hP2, hD2⟩ := va_join (wc := wY ca q g) (wr := [(qo, .inl (cL, 1, .inr (.inl x)))]) hP hD (List.range 47) [47] rfl rfl rfl (by decide) (fun w h1 h2 => hk1 w h1 (fun h3 => h2 ((hA2 w).2 h3))) (fun w hw => hFc w ((hA2 w).1 hw)) hP1 (hD1.weaken (fun _ _ _ h3 => (hA2 _).2 h3))
  have hP2 : va_P (dC, dI) vwCl (wO ca q cL qo u x) H1 := hP2.sub (((List.range 47).map (· + 1)) ++ [0]) rfl
  have hD2 : va_D (va_A (wO ca q cL qo g x) s.heap.size) (wO ca q cL qo u x) := hD2.sub (((List.range 47).map (· + 1)) ++ [0]) rfl rfl
  refine z_catch (name := "java/util/NoSuchElementException") hown _ (vx_table (x := yL_cell) B (hts _ List.mem_cons_self)) rfl (by decide) (hts _ (List.mem_of_getElem? (i := 1) rfl)) ((hZ.2.2.2.2.2.2.1).use rfl) hce hcv hcl ?_
  refine lv_astore (lv' := (5, .ref q9) :: [(0, .ref (q 0)), (1, .int a0), (2, .int a1), (3, .int a2), (4, .ref qo)]) hx hb dL_cell_15 hl (by decide) rfl (fun ls hl => ?_)
  refine lv_iconst (v := 1) hx hb dL_cell_17 (by decide) ?_
  exact W.iret hx hb hr (fun t ht hW => ⟨⟨1, (u, x), rfl, ⟨rfl, rfl⟩, by rw [ht]; exact hP2, va_K.moved hW.alike hK, hD2⟩, hS.F ht⟩) hS.2.2 dL_cell_18 hlocks
theorem nL_stand : yL_stand.cls ≠ "java/lang/invoke/MethodHandle" ∧ yL_stand.cls ≠ "java/lang/invoke/VarHandle" ∧ (parseMethodDescriptor yL_stand.desc).map (fun d => d.parameters.length) = some 4 := by decide +kernel
set_option maxRecDepth 100000 in
set_option maxHeartbeats 4000000 in
theorem kL_stand (l : Launch) (dC : Nat → ClassId) (dI : Nat → Nat → Nat) (ca : Nat → ClassId) (q : Nat → Nat) (cL : ClassId) (qo : Nat) (tt : Nat → Nat) (a0 : Int32) (a1 : Int32) (g : z_G) (x : Nat → Int64) (r : Int32) (g' : z_G) (hf : fY_X7_stand a0 a1 g = some (r, g')) : z_CL l yL_stand wsL_stand { frames := 7, cells := 1, slots := 6, locals := 111 } (dC, dI) ca q cL qo tt [.ref (q 0), .int a0, .int a1, .ref qo] g x (0 : Int32) g' (vp_updL x 0 r.toInt64) := by
  intro sz
  refine va_MetW (cc := cL_stand) (maxL := 5) (ret := some .int) (hh := [(0, 10, 13, 13)]) (by decide +kernel) rfl ?_
  intro p e s m args below meth c s₁ B hml hv
  obtain ⟨rfl, hsz, hP, hK, hD0, hZ⟩ := hv
  have hx := B.exec
  have hb := B.bytes
  have hr := B.returns
  have hlocks := B.notSynchronized
  have hts := atoms_spec (ws := wsL_stand) B.pre
  have hown : s.vm.findClass RL = some m.cls := findClass_of_methodNamed B.named
  subst hsz
  have hD := hD0.self (sz := s.heap.size)
  have hA : ∀ w : Nat, s.heap.size ≤ w → va_A (wO ca q cL qo g x) s.heap.size w := fun w h => Or.inr h
  have hS0 : va_S (va_A (wO ca q cL qo g x) s.heap.size) s.heap s.heap [] := va_S.rf
  have hl := lv_entry [.ref (q 0), .int a0, .int a1, .ref qo] (n := 5) (Nat.le_of_ble_eq_true rfl)
  rw [lg_entry_eq]
  generalize (lg_sl [.ref (q 0), .int a0, .int a1, .ref qo] ++ List.replicate (5 - (lg_sl [.ref (q 0), .int a0, .int a1, .ref qo]).length) Slot.unset).toArray = ls at hl ⊢
  have hl : lv_has ls 5 [(0, .ref (q 0)), (1, .int a0), (2, .int a1), (3, .ref qo)] := hl
  refine lv_aload_n hx hb dL_stand_0 rfl (lv_at hl 3 rfl) ?_
  refine lv_iconst (v := 0) hx hb dL_stand_1 (by decide) ?_
  refine lv_aload_n hx hb dL_stand_2 rfl (lv_at hl 0 rfl) ?_
  refine lv_iload_n hx hb dL_stand_3 rfl (lv_at hl 1 rfl) ?_
  refine lv_iload_n hx hb dL_stand_4 rfl (lv_at hl 2 rfl) ?_
  have hPc : va_P (dC, dI) vwCl (wY ca q g) s.heap := hP.sub (List.range 47) rfl
  have hDc : va_D (va_A (wO ca q cL qo g x) s.heap.size) (wY ca q g) := hD.sub (List.range 47) rfl rfl
  have hKc : va_K (dC, dI) vwCl (tyY ca) s := hK.sub (List.range 39) rfl
  have hFc := (wY_ok ca q).A hDc hS0 hA
  have hA2 : ∀ w, va_A (wY ca q g) s.heap.size w ↔ z_A (wY ca q) s.heap.size w := fun w => ⟨fun hw => hw.elim (fun ⟨k9, e9, hk9⟩ => by obtain ⟨e8, h8⟩ := wY_ok _ _ g (fun _ _ => 0) k9 w e9 hk9; exact Or.inl ⟨k9, e8, h8⟩) Or.inr, fun hw => hw.elim (fun ⟨k9, e9, hk9⟩ => by obtain ⟨e8, h8⟩ := wY_ok _ _ (fun _ _ => 0) g k9 w e9 hk9; exact Or.inl ⟨k9, e8, h8⟩) Or.inr⟩
  refine va_calli (A1 := z_A (wY ca q) s.heap.size) (va_runV (As := [.int a0, .int a1]) (rest := [.int 0, .ref qo]) ⟨hx, hb, hml, hown, hts⟩ (cY_X7_stand l dC dI ca q tt a0 a1 g r g' hf s.heap.size) (cwV 2 hts gL_stand_X7_stand rfl rfl rfl nY_X7_stand ⟨(Nat.le_of_ble_eq_true rfl), (Nat.le_of_ble_eq_true rfl)⟩) ⟨fun a9 U g9 mk w => by obtain ⟨q0, q1, qP, qK, qD, qZ⟩ := w; exact ⟨q0, q1, qP, va_K.moved (u := U) (U := U.calling g9 mk a9) (Vm.Alike.refl U.vm) qK, qD, (zY_ok tt).1.1 _ U (U.calling g9 mk a9) _ rfl qZ⟩, va_recv hKc hPc (ci := 7) (q0 := 0) rfl yo_0, fun U hU hW => ⟨rfl, by rw [hU], by rw [hU]; exact hPc, va_K.moved hW.alike hKc, hDc.weaken (fun _ _ _ _ => trivial), by rw [hU]; exact (zY_ok tt).2.2 _ _ _ _ ((zY_ok tt).2.1 _ _ _ _ ((zY_ok tt).1.2 _ _ _ _ hW hZ) hS0.2.1) hFc⟩⟩ rfl rfl hl.1 rfl (lv_room (Nat.le_of_ble_eq_true rfl)) dL_stand_5 ⟨(Nat.le_of_ble_eq_true rfl), (Nat.le_of_ble_eq_true rfl)⟩) hS0 (fun w _ hw9 => hFc w hw9) hFc (fun r9 u t H1 locs1 ht hvm hw9 hB hz1 hk1 hS => ?_)
  obtain ⟨rfl, rfl⟩ := hw9
  obtain ⟨hP1, hK1, hD1⟩ := hB
  rw [ht] at hP1
  obtain ⟨hP2, hD2⟩ := va_join (wc := wY ca q g) (wr := [(qo, .inl (cL, 1, .inr (.inl x)))]) hP hD (List.range 47) [47] rfl rfl rfl (by decide) (fun w h1 h2 => hk1 w h1 (fun h3 => h2 ((hA2 w).2 h3))) (fun w hw => hFc w ((hA2 w).1 hw)) hP1 (hD1.weaken (fun _ _ _ h3 => (hA2 _).2 h3))
  have hP2 : va_P (dC, dI) vwCl (wO ca q cL qo u x) H1 := hP2.sub (((List.range 47).map (· + 1)) ++ [0]) rfl
  have hD2 : va_D (va_A (wO ca q cL qo g x) s.heap.size) (wO ca q cL qo u x) := hD2.sub (((List.range 47).map (· + 1)) ++ [0]) rfl rfl
  refine lv_i2l hx hb dL_stand_8 rfl ?_
  refine va_last hx hb hK hP2 hD2 hS 47 39 rfl rfl (show vp_in (nI 0) 1 from vp_in_nI (by decide) (by decide)) dL_stand_9 (fun H3 locs3 hP3 hD3 hS => ?_)
  have hP3 : va_P (dC, dI) vwCl (wO ca q cL qo u (vp_updL x 0 r9.toInt64)) H3 := hP3
  have hD3 : va_D (va_A (wO ca q cL qo g x) s.heap.size) (wO ca q cL qo u (vp_updL x 0 r9.toInt64)) := hD3
  refine lv_goto (tgt := 17) hx hb dL_stand_10 (by decide) ?_
  refine lv_iconst (v := 0) hx hb dL_stand_17 (by decide) ?_
  refine W.widen (k := 1) (n := 6) (by omega) (by omega) ?_
  exact W.iret hx hb hr (fun t ht hW => ⟨⟨0, (u, (vp_updL x 0 r9.toInt64)), rfl, ⟨rfl, rfl⟩, by rw [ht]; exact hP3, va_K.moved hW.alike hK, hD3⟩, hS.F ht⟩) hS.2.2 dL_stand_18 hlocks
set_option maxRecDepth 100000 in
set_option maxHeartbeats 4000000 in
theorem kL_standT (l : Launch) (dC : Nat → ClassId) (dI : Nat → Nat → Nat) (ca : Nat → ClassId) (q : Nat → Nat) (cL : ClassId) (qo : Nat) (tt : Nat → Nat) (hls : l.stackTraces = false) (a0 : Int32) (a1 : Int32) (g : z_G) (x : Nat → Int64) (r : Int32) (g' : z_G) (hf : fY_X7_standT a0 a1 g = some (r, g')) : z_CL l yL_stand wsL_stand { frames := 7, cells := 1, slots := 6, locals := 111 } (dC, dI) ca q cL qo tt [.ref (q 0), .int a0, .int a1, .ref qo] g x 1 g' x := by
  intro sz
  refine va_MetW (cc := cL_stand) (maxL := 5) (ret := some .int) (hh := [(0, 10, 13, 13)]) (by decide +kernel) rfl ?_
  intro p e s m args below meth c s₁ B hml hv
  obtain ⟨rfl, hsz, hP, hK, hD0, hZ⟩ := hv
  have hx := B.exec
  have hb := B.bytes
  have hr := B.returns
  have hlocks := B.notSynchronized
  have hts := atoms_spec (ws := wsL_stand) B.pre
  have hown : s.vm.findClass RL = some m.cls := findClass_of_methodNamed B.named
  subst hsz
  have hD := hD0.self (sz := s.heap.size)
  have hA : ∀ w : Nat, s.heap.size ≤ w → va_A (wO ca q cL qo g x) s.heap.size w := fun w h => Or.inr h
  have hS0 : va_S (va_A (wO ca q cL qo g x) s.heap.size) s.heap s.heap [] := va_S.rf
  have hl := lv_entry [.ref (q 0), .int a0, .int a1, .ref qo] (n := 5) (Nat.le_of_ble_eq_true rfl)
  rw [lg_entry_eq]
  generalize (lg_sl [.ref (q 0), .int a0, .int a1, .ref qo] ++ List.replicate (5 - (lg_sl [.ref (q 0), .int a0, .int a1, .ref qo]).length) Slot.unset).toArray = ls at hl ⊢
  have hl : lv_has ls 5 [(0, .ref (q 0)), (1, .int a0), (2, .int a1), (3, .ref qo)] := hl
  refine lv_aload_n hx hb dL_stand_0 rfl (lv_at hl 3 rfl) ?_
  refine lv_iconst (v := 0) hx hb dL_stand_1 (by decide) ?_
  refine lv_aload_n hx hb dL_stand_2 rfl (lv_at hl 0 rfl) ?_
  refine lv_iload_n hx hb dL_stand_3 rfl (lv_at hl 1 rfl) ?_
  refine lv_iload_n hx hb dL_stand_4 rfl (lv_at hl 2 rfl) ?_
  have hPc : va_P (dC, dI) vwCl (wY ca q g) s.heap := hP.sub (List.range 47) rfl
  have hDc : va_D (va_A (wO ca q cL qo g x) s.heap.size) (wY ca q g) := hD.sub (List.range 47) rfl rfl
  have hKc : va_K (dC, dI) vwCl (tyY ca) s := hK.sub (List.range 39) rfl
  have hFc := (wY_ok ca q).A hDc hS0 hA
  have hA2 : ∀ w, va_A (wY ca q g) s.heap.size w ↔ z_A (wY ca q) s.heap.size w := fun w => ⟨fun hw => hw.elim (fun ⟨k9, e9, hk9⟩ => by obtain ⟨e8, h8⟩ := wY_ok _ _ g (fun _ _ => 0) k9 w e9 hk9; exact Or.inl ⟨k9, e8, h8⟩) Or.inr, fun hw => hw.elim (fun ⟨k9, e9, hk9⟩ => by obtain ⟨e8, h8⟩ := wY_ok _ _ (fun _ _ => 0) g k9 w e9 hk9; exact Or.inl ⟨k9, e8, h8⟩) Or.inr⟩
  refine vx_calli (A1 := z_A (wY ca q) s.heap.size) (vx_runV (As := [.int a0, .int a1]) (rest := [.int 0, .ref qo]) ⟨hx, hb, hml, hown, hts⟩ (cY_X7_standT l dC dI ca q tt hls a0 a1 g r g' hf s.heap.size) (cwV 2 hts gL_stand_X7_stand rfl rfl rfl nY_X7_stand ⟨(Nat.le_of_ble_eq_true rfl), (Nat.le_of_ble_eq_true rfl)⟩) ⟨fun a9 U g9 mk w => by obtain ⟨q0, q1, qP, qK, qD, qZ⟩ := w; exact ⟨q0, q1, qP, va_K.moved (u := U) (U := U.calling g9 mk a9) (Vm.Alike.refl U.vm) qK, qD, (zY_ok tt).1.1 _ U (U.calling g9 mk a9) _ rfl qZ⟩, va_recv hKc hPc (ci := 7) (q0 := 0) rfl yo_0, fun U hU hW => ⟨rfl, by rw [hU], by rw [hU]; exact hPc, va_K.moved hW.alike hKc, hDc.weaken (fun _ _ _ _ => trivial), by rw [hU]; exact (zY_ok tt).2.2 _ _ _ _ ((zY_ok tt).2.1 _ _ _ _ ((zY_ok tt).1.2 _ _ _ _ hW hZ) hS0.2.1) hFc⟩⟩ rfl rfl hl.1 rfl (lv_room (Nat.le_of_ble_eq_true rfl)) dL_stand_5 ⟨(Nat.le_of_ble_eq_true rfl), (Nat.le_of_ble_eq_true rfl)⟩) hS0 (fun w _ hw9 => hFc w hw9) hFc (fun w _ hw9 => hFc w hw9) (fun E ce q9 u t H1 locs1 ht hvm hw9 hB hz1 hk1 hS hce hcv hcl => ?_) (fun r9 u t H1 locs1 ht hvm hw9 hB hz1 hk1 hS => hw9.elim)
  subst hw9
  obtain ⟨rfl, hB⟩ := hB
  obtain ⟨hP1, hK1, hD1⟩ := hB
  rw [ht] at hP1
  obtain ⟨hP2, hD2⟩ := va_join (wc := wY ca q g) (wr := [(qo, .inl (cL, 1, .inr (.inl x)))]) hP hD (List.range 47) [47] rfl rfl rfl (by decide) (fun w h1 h2 => hk1 w h1 (fun h3 => h2 ((hA2 w).2 h3))) (fun w hw => hFc w ((hA2 w).1 hw)) hP1 (hD1.weaken (fun _ _ _ h3 => (hA2 _).2 h3))
  have hP2 : va_P (dC, dI) vwCl (wO ca q cL qo u x) H1 := hP2.sub (((List.range 47).map (· + 1)) ++ [0]) rfl
  have hD2 : va_D (va_A (wO ca q cL qo g x) s.heap.size) (wO ca q cL qo u x) := hD2.sub (((List.range 47).map (· + 1)) ++ [0]) rfl rfl
  refine z_catch (name := "java/util/NoSuchElementException") hown _ (vx_table (x := yL_stand) B (hts _ List.mem_cons_self)) rfl (by decide) (hts _ (List.mem_of_getElem? (i := 1) rfl)) ((hZ.2.2.2.2.2.2.1).use rfl) hce hcv hcl ?_
  refine lv_astore (lv' := (4, .ref q9) :: [(0, .ref (q 0)), (1, .int a0), (2, .int a1), (3, .ref qo)]) hx hb dL_stand_13 hl (by decide) rfl (fun ls hl => ?_)
  refine lv_iconst (v := 1) hx hb dL_stand_15 (by decide) ?_
  exact W.iret hx hb hr (fun t ht hW => ⟨⟨1, (u, x), rfl, ⟨rfl, rfl⟩, by rw [ht]; exact hP2, va_K.moved hW.alike hK, hD2⟩, hS.F ht⟩) hS.2.2 dL_stand_16 hlocks
