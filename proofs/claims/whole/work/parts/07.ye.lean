def fY_X7_clamp_22  (g : z_G) : Option (Int32 × z_G) := z_bo 0 (some (0, g))
def fY_X7_clamp (a0 : Int32) (a1 : Int32) (g : z_G) : Option (Int32 × z_G) := (if a0 < 1 then fY_X7_clamp_22 g else (if 8 < a0 then fY_X7_clamp_22 g else (if a1 < 1 then fY_X7_clamp_22 g else (if a1 ≤ 8 then z_bind (fY_X2_build a0 a1 g) (fun r5 g6 => z_bind (fY_X1_forget g6) (fun r8 g9 => z_bind (fY_X0_forget g9) (fun r11 g12 => z_let (z_up g12 0 7 0) (fun g14 => z_bo 1 (some (1, g14)))))) else fY_X7_clamp_22 g))))
theorem nY_X7_clamp : yX7_clamp.cls = RX7 ∧ yX7_clamp.cls ≠ "java/lang/invoke/MethodHandle" ∧ yX7_clamp.cls ≠ "java/lang/invoke/VarHandle" ∧ (parseMethodDescriptor yX7_clamp.desc).map (fun d => d.parameters.length) = some 2 := by decide +kernel
set_option maxRecDepth 100000 in
set_option maxHeartbeats 4000000 in
theorem cY_X7_clamp (l : Launch) (dC : Nat → ClassId) (dI : Nat → Nat → Nat) (ca : Nat → ClassId) (q : Nat → Nat) (tt : Nat → Nat) (a0 : Int32) (a1 : Int32) (g : z_G) (r : Int32) (g' : z_G) (hf : fY_X7_clamp a0 a1 g = some (r, g')) : z_C l yX7_clamp wsX7_clamp { frames := 3, cells := 0, slots := 0, locals := 67 } (dC, dI) (tyY ca) (wY ca q) (zY tt) [.ref (q 0), .int a0, .int a1] g (some r) g' := by
  refine z_enter (wY_ok ca q) (zY_ok tt) (by decide +kernel) rfl (Nat.le_of_ble_eq_true rfl) (fun J hC => ?_)
  have hC : z_Cx J l cX7_clamp 3 wsX7_clamp RX7 (some .boolean) { frames := 3, cells := 0, slots := 0, locals := 67 } (dC, dI) (tyY ca) (wY ca q) (zY tt) (z_QI (dC, dI) (tyY ca) (wY ca q) (some r) g') z_X0 := hC
  show J 0 [(0, .ref (q 0)), (1, .int a0), (2, .int a1)] [] g
  have hX7 : ∀ w ∈ wsX70, w ∈ wsX7_clamp := fun _ h => List.mem_cons_of_mem _ (List.mem_append_left _ (List.mem_append_left _ (List.mem_append_left _ (List.mem_append_right _ (h)))))
  have hJ22 : ∀ (g : z_G), fY_X7_clamp_22 g = some (r, g') → J 22 [] [] g := by
    intro g hf
    unfold fY_X7_clamp_22 at hf
    refine zj_iconst (v := 0) hC dX7_clamp_22 (by decide) ?_
    exact zj_zreturn hC hf dX7_clamp_23
  unfold fY_X7_clamp at hf
  refine zj_iload_n 1 hC dX7_clamp_0 rfl ?_
  refine zj_iconst (v := 1) hC dX7_clamp_1 (by decide) ?_
  refine zj_icmp_lt 22 hC dX7_clamp_2 (by decide) (fun c1 => ?_) (fun c1 => ?_)
  · have hf := z_iteT hf c1
    exact zj_sub hC [] rfl (hJ22 g hf)
  · have hf := z_iteF hf c1
    refine zj_iload_n 1 hC dX7_clamp_5 rfl ?_
    refine zj_bipush (v := 8) hC dX7_clamp_6 (by decide) ?_
    refine zj_icmp_gt 22 hC dX7_clamp_8 (by decide) (fun c2 => ?_) (fun c2 => ?_)
    · have hf := z_iteT hf c2
      exact zj_sub hC [] rfl (hJ22 g hf)
    · have hf := z_iteF hf c2
      refine zj_iload_n 2 hC dX7_clamp_11 rfl ?_
      refine zj_iconst (v := 1) hC dX7_clamp_12 (by decide) ?_
      refine zj_icmp_lt 22 hC dX7_clamp_13 (by decide) (fun c3 => ?_) (fun c3 => ?_)
      · have hf := z_iteT hf c3
        exact zj_sub hC [] rfl (hJ22 g hf)
      · have hf := z_iteF hf c3
        refine zj_iload_n 2 hC dX7_clamp_16 rfl ?_
        refine zj_bipush (v := 8) hC dX7_clamp_17 (by decide) ?_
        refine zj_icmp_le 24 hC dX7_clamp_19 (by decide) (fun c4 => ?_) (fun c4 => ?_)
        · have hf := z_iteT hf c4
          refine zj_aload_n 0 hC dX7_clamp_24 rfl ?_
          refine yg_0_0 hC hX7 (List.mem_of_getElem? (i := 1) rfl) dX7_clamp_25 ?_
          refine zj_iload_n 1 hC dX7_clamp_28 rfl ?_
          refine zj_iload_n 2 hC dX7_clamp_29 rfl ?_
          obtain ⟨r5, g6, hq7, hf⟩ := z_bindE hf
          refine zj_callVv [.int a0, .int a1] hC (cY_X2_build l dC dI ca q tt a0 a1 g r5 g6 hq7) gX7_clamp_X2_build rfl nY_X2_build ⟨Nat.le_of_ble_eq_true rfl, Nat.le_of_ble_eq_true rfl⟩ 1 yo_1 rfl rfl rfl (Nat.le_of_ble_eq_true rfl) dX7_clamp_30 rfl ?_
          refine zj_aload_n 0 hC dX7_clamp_33 rfl ?_
          refine yg_0_1 hC hX7 (List.mem_of_getElem? (i := 2) rfl) dX7_clamp_34 ?_
          obtain ⟨r8, g9, hq10, hf⟩ := z_bindE hf
          refine zj_callVv [] hC (cY_X1_forget l dC dI ca q tt g6 r8 g9 hq10) gX7_clamp_X1_forget rfl nY_X1_forget ⟨Nat.le_of_ble_eq_true rfl, Nat.le_of_ble_eq_true rfl⟩ 2 yo_2 rfl rfl rfl (Nat.le_of_ble_eq_true rfl) dX7_clamp_37 rfl ?_
          refine zj_aload_n 0 hC dX7_clamp_40 rfl ?_
          refine yg_0_2 hC hX7 (List.mem_of_getElem? (i := 3) rfl) dX7_clamp_41 ?_
          obtain ⟨r11, g12, hq13, hf⟩ := z_bindE hf
          refine zj_callVv [] hC (cY_X0_forget l dC dI ca q tt g9 r11 g12 hq13) gX7_clamp_X0_forget rfl nY_X0_forget ⟨Nat.le_of_ble_eq_true rfl, Nat.le_of_ble_eq_true rfl⟩ 3 yo_3 rfl rfl rfl (Nat.le_of_ble_eq_true rfl) dX7_clamp_44 rfl ?_
          refine zj_aload_n 0 hC dX7_clamp_47 rfl ?_
          refine zj_iconst (v := 0) hC dX7_clamp_48 (by decide) ?_
          refine yp_0_7 hC hX7 (List.mem_of_getElem? (i := 4) rfl) (by decide) dX7_clamp_49 (fun g14 eg14 => ?_)
          have hf := z_letE hf eg14
          refine zj_iconst (v := 1) hC dX7_clamp_52 (by decide) ?_
          exact zj_zreturn hC hf dX7_clamp_53
        · have hf := z_iteF hf c4
          exact zj_sub hC [] rfl (hJ22 g hf)

def fY_X7_lay_26  (g : z_G) : Option (Int32 × z_G) := some ((-1), g)
def fY_X7_lay (a0 : Int32) (a1 : Int32) (a2 : Int32) (g : z_G) : Option (Int32 × z_G) := (if (g 0 7) = 0 then z_bind (fY_X2_holds a0 a1 g) (fun r2 g3 => (if r2 = 0 then fY_X7_lay_26 g3 else z_bind (fY_X2_isKind a2 g3) (fun r6 g7 => (if r6 = 0 then fY_X7_lay_26 g7 else z_bind (fY_X2_at a0 a1 g7) (fun r10 g11 => z_bind (fY_X2_fill r10 a2 g11) (fun r13 g14 => some (r13, g14))))))) else fY_X7_lay_26 g)
theorem nY_X7_lay : yX7_lay.cls = RX7 ∧ yX7_lay.cls ≠ "java/lang/invoke/MethodHandle" ∧ yX7_lay.cls ≠ "java/lang/invoke/VarHandle" ∧ (parseMethodDescriptor yX7_lay.desc).map (fun d => d.parameters.length) = some 3 := by decide +kernel
set_option maxRecDepth 100000 in
set_option maxHeartbeats 4000000 in
theorem cY_X7_lay (l : Launch) (dC : Nat → ClassId) (dI : Nat → Nat → Nat) (ca : Nat → ClassId) (q : Nat → Nat) (tt : Nat → Nat) (a0 : Int32) (a1 : Int32) (a2 : Int32) (g : z_G) (r : Int32) (g' : z_G) (hf : fY_X7_lay a0 a1 a2 g = some (r, g')) : z_C l yX7_lay wsX7_lay { frames := 2, cells := 0, slots := 0, locals := 43 } (dC, dI) (tyY ca) (wY ca q) (zY tt) [.ref (q 0), .int a0, .int a1, .int a2] g (some r) g' := by
  refine z_enter (wY_ok ca q) (zY_ok tt) (by decide +kernel) rfl (Nat.le_of_ble_eq_true rfl) (fun J hC => ?_)
  have hC : z_Cx J l cX7_lay 4 wsX7_lay RX7 (some .int) { frames := 2, cells := 0, slots := 0, locals := 43 } (dC, dI) (tyY ca) (wY ca q) (zY tt) (z_QI (dC, dI) (tyY ca) (wY ca q) (some r) g') z_X0 := hC
  show J 0 [(0, .ref (q 0)), (1, .int a0), (2, .int a1), (3, .int a2)] [] g
  have hX7 : ∀ w ∈ wsX70, w ∈ wsX7_lay := fun _ h => List.mem_cons_of_mem _ (List.mem_append_left _ (List.mem_append_right _ (h)))
  have hJ26 : ∀ (g : z_G), fY_X7_lay_26 g = some (r, g') → J 26 [] [] g := by
    intro g hf
    unfold fY_X7_lay_26 at hf
    refine zj_iconst (v := (-1)) hC dX7_lay_26 (by decide) ?_
    exact zj_ireturn hC hf dX7_lay_27
  unfold fY_X7_lay at hf
  refine zj_aload_n 0 hC dX7_lay_0 rfl ?_
  refine yg_0_7 hC hX7 (List.mem_of_getElem? (i := 1) rfl) dX7_lay_1 ?_
  refine zj_if_ne 26 hC dX7_lay_4 (by decide) (fun c1 => ?_) (fun c1 => ?_)
  · have hf := z_iteF hf c1
    exact zj_sub hC [] rfl (hJ26 g hf)
  · have hf := z_iteT hf c1
    refine zj_aload_n 0 hC dX7_lay_7 rfl ?_
    refine yg_0_0 hC hX7 (List.mem_of_getElem? (i := 2) rfl) dX7_lay_8 ?_
    refine zj_iload_n 1 hC dX7_lay_11 rfl ?_
    refine zj_iload_n 2 hC dX7_lay_12 rfl ?_
    obtain ⟨r2, g3, hq4, hf⟩ := z_bindE hf
    refine zj_callVi [.int a0, .int a1] hC (cY_X2_holds l dC dI ca q tt a0 a1 g r2 g3 hq4) gX7_lay_X2_holds rfl nY_X2_holds ⟨Nat.le_of_ble_eq_true rfl, Nat.le_of_ble_eq_true rfl⟩ 1 yo_1 rfl rfl rfl (Nat.le_of_ble_eq_true rfl) dX7_lay_13 rfl ?_
    refine zj_if_eq 26 hC dX7_lay_16 (by decide) (fun c5 => ?_) (fun c5 => ?_)
    · have hf := z_iteT hf c5
      exact zj_sub hC [] rfl (hJ26 g3 hf)
    · have hf := z_iteF hf c5
      refine zj_iload_n 3 hC dX7_lay_19 rfl ?_
      obtain ⟨r6, g7, hq8, hf⟩ := z_bindE hf
      refine zj_callSi [.int a2] hC (cY_X2_isKind l dC dI ca q tt a2 g3 r6 g7 hq8) gX7_lay_X2_isKind rfl nY_X2_isKind ⟨Nat.le_of_ble_eq_true rfl, Nat.le_of_ble_eq_true rfl⟩ rfl (Nat.le_of_ble_eq_true rfl) dX7_lay_20 rfl ?_
      refine zj_if_ne 28 hC dX7_lay_23 (by decide) (fun c9 => ?_) (fun c9 => ?_)
      · have hf := z_iteF hf c9
        refine zj_aload_n 0 hC dX7_lay_28 rfl ?_
        refine yg_0_0 hC hX7 (List.mem_of_getElem? (i := 2) rfl) dX7_lay_29 ?_
        refine zj_aload_n 0 hC dX7_lay_32 rfl ?_
        refine yg_0_0 hC hX7 (List.mem_of_getElem? (i := 2) rfl) dX7_lay_33 ?_
        refine zj_iload_n 1 hC dX7_lay_36 rfl ?_
        refine zj_iload_n 2 hC dX7_lay_37 rfl ?_
        obtain ⟨r10, g11, hq12, hf⟩ := z_bindE hf
        refine zj_callVi [.int a0, .int a1] hC (cY_X2_at l dC dI ca q tt a0 a1 g7 r10 g11 hq12) gX7_lay_X2_at rfl nY_X2_at ⟨Nat.le_of_ble_eq_true rfl, Nat.le_of_ble_eq_true rfl⟩ 1 yo_1 rfl rfl rfl (Nat.le_of_ble_eq_true rfl) dX7_lay_38 rfl ?_
        refine zj_iload_n 3 hC dX7_lay_41 rfl ?_
        obtain ⟨r13, g14, hq15, hf⟩ := z_bindE hf
        refine zj_callVi [.int r10, .int a2] hC (cY_X2_fill l dC dI ca q tt r10 a2 g11 r13 g14 hq15) gX7_lay_X2_fill rfl nY_X2_fill ⟨Nat.le_of_ble_eq_true rfl, Nat.le_of_ble_eq_true rfl⟩ 1 yo_1 rfl rfl rfl (Nat.le_of_ble_eq_true rfl) dX7_lay_42 rfl ?_
        exact zj_ireturn hC hf dX7_lay_45
      · have hf := z_iteT hf c9
        exact zj_sub hC [] rfl (hJ26 g7 hf)

def fY_X7_narrowed_18 (s0 : Int32) (g : z_G) : Option (Int32 × z_G) := some (s0, g)
def fY_X7_narrowed (a0 : Int32) (a1 : Int32) (g : z_G) : Option (Int32 × z_G) := (if a1 = 0 then some ((a0 : Int32).toInt8.toInt32, g) else (if a1 = 1 then fY_X7_narrowed_18 ((a0 : Int32).toInt16.toInt32) g else fY_X7_narrowed_18 a0 g))
theorem nY_X7_narrowed : yX7_narrowed.cls ≠ "java/lang/invoke/MethodHandle" ∧ yX7_narrowed.cls ≠ "java/lang/invoke/VarHandle" ∧ (parseMethodDescriptor yX7_narrowed.desc).map (fun d => d.parameters.length) = some 2 := by decide +kernel
set_option maxRecDepth 100000 in
set_option maxHeartbeats 4000000 in
theorem cY_X7_narrowed (l : Launch) (dC : Nat → ClassId) (dI : Nat → Nat → Nat) (ca : Nat → ClassId) (q : Nat → Nat) (tt : Nat → Nat) (a0 : Int32) (a1 : Int32) (g : z_G) (r : Int32) (g' : z_G) (hf : fY_X7_narrowed a0 a1 g = some (r, g')) : z_C l yX7_narrowed wsX7_narrowed { frames := 0, cells := 0, slots := 0, locals := 0 } (dC, dI) (tyY ca) (wY ca q) (zY tt) [.int a0, .int a1] g (some r) g' := by
  refine z_enter (wY_ok ca q) (zY_ok tt) (by decide +kernel) rfl (Nat.le_of_ble_eq_true rfl) (fun J hC => ?_)
  have hC : z_Cx J l cX7_narrowed 2 wsX7_narrowed RX7 (some .int) { frames := 0, cells := 0, slots := 0, locals := 0 } (dC, dI) (tyY ca) (wY ca q) (zY tt) (z_QI (dC, dI) (tyY ca) (wY ca q) (some r) g') z_X0 := hC
  show J 0 [(0, .int a0), (1, .int a1)] [] g
  have hJ18 : ∀ (s0 : Int32) (g : z_G), fY_X7_narrowed_18 s0 g = some (r, g') → J 18 [] [.int s0] g := by
    intro s0 g hf
    unfold fY_X7_narrowed_18 at hf
    exact zj_ireturn hC hf dX7_narrowed_18
  unfold fY_X7_narrowed at hf
  refine zj_iload_n 1 hC dX7_narrowed_0 rfl ?_
  refine zj_if_ne 7 hC dX7_narrowed_1 (by decide) (fun c1 => ?_) (fun c1 => ?_)
  · have hf := z_iteF hf c1
    refine zj_iload_n 1 hC dX7_narrowed_7 rfl ?_
    refine zj_iconst (v := 1) hC dX7_narrowed_8 (by decide) ?_
    refine zj_icmp_ne 17 hC dX7_narrowed_9 (by decide) (fun c2 => ?_) (fun c2 => ?_)
    · have hf := z_iteF hf c2
      refine zj_iload_n 0 hC dX7_narrowed_17 rfl ?_
      exact zj_sub hC [] rfl (hJ18 a0 g hf)
    · have hf := z_iteT hf c2
      refine zj_iload_n 0 hC dX7_narrowed_12 rfl ?_
      refine zj_i2s hC dX7_narrowed_13 ?_
      refine zj_goto 18 hC dX7_narrowed_14 (by decide) ?_
      exact zj_sub hC [] rfl (hJ18 ((a0 : Int32).toInt16.toInt32) g hf)
  · have hf := z_iteT hf c1
    refine zj_iload_n 0 hC dX7_narrowed_4 rfl ?_
    refine zj_i2b hC dX7_narrowed_5 ?_
    exact zj_ireturn hC hf dX7_narrowed_6

def fY_X7_layRow_34  (g : z_G) : Option (Int32 × z_G) := some ((-1), g)
def fY_X7_layRow_124 (x6 : Int32) (g : z_G) : Option (Int32 × z_G) := some (x6, g)
def fY_X7_layRow_57 (k57 : Int32 × Int32 × Int32 × Int32 × Int32 × Int32 × z_G → Option (Int32 × z_G)) (x1 : Int32) (x2 : Int32) (x3 : Int32) (x5 : Int32) (x6 : Int32) (x7 : Int32) (g : z_G) : Option (Int32 × z_G) := (if x3 ≤ x6 then fY_X7_layRow_124 x6 g else (if (g 1 0) ≤ x6 then fY_X7_layRow_124 x6 g else z_bind (fY_X7_narrowed x7 x2 g) (fun r3 g4 => z_bind (fY_X2_isKind r3 g4) (fun r6 g7 => (if r6 = 0 then fY_X7_layRow_124 x6 g7 else z_bind (fY_X2_at x6 x1 g7) (fun r10 g11 => z_bind (fY_X7_narrowed x7 x2 g11) (fun r13 g14 => z_bind (fY_X2_fill r10 r13 g14) (fun r16 g17 => z_let (x6 + 1) (fun y19 => z_let (x7 + x5) (fun y20 => k57 (x1, x2, x3, x5, y19, y20, g17)))))))))))
def fY_X7_layRow_57_go (x1 : Int32) (x2 : Int32) (x3 : Int32) (x5 : Int32) (x6 : Int32) (x7 : Int32) (g : z_G) : Option (Int32 × z_G) := z_loop (fun k (w : Int32 × Int32 × Int32 × Int32 × Int32 × Int32 × z_G) => fY_X7_layRow_57 k w.1 w.2.1 w.2.2.1 w.2.2.2.1 w.2.2.2.2.1 w.2.2.2.2.2.1 w.2.2.2.2.2.2) z_fuel (x1, x2, x3, x5, x6, x7, g)
def fY_X7_layRow (a0 : Int32) (a1 : Int32) (a2 : Int32) (a3 : Int32) (a4 : Int32) (g : z_G) : Option (Int32 × z_G) := (if (g 0 7) = 0 then z_bind (fY_X2_holds 0 a0 g) (fun r22 g23 => (if r22 = 0 then fY_X7_layRow_34 g23 else (if a1 < 0 then fY_X7_layRow_34 g23 else (if 3 < a1 then fY_X7_layRow_34 g23 else (if a2 ≤ 20 then (if a1 = 3 then some (0, g23) else (if 0 ≤ a2 then fY_X7_layRow_57_go a0 a1 a2 a4 0 a3 g23 else some ((-2), g23))) else fY_X7_layRow_34 g23))))) else fY_X7_layRow_34 g)
theorem nY_X7_layRow : yX7_layRow.cls = RX7 ∧ yX7_layRow.cls ≠ "java/lang/invoke/MethodHandle" ∧ yX7_layRow.cls ≠ "java/lang/invoke/VarHandle" ∧ (parseMethodDescriptor yX7_layRow.desc).map (fun d => d.parameters.length) = some 5 := by decide +kernel
set_option maxRecDepth 100000 in
set_option maxHeartbeats 4000000 in
theorem cY_X7_layRow (l : Launch) (dC : Nat → ClassId) (dI : Nat → Nat → Nat) (ca : Nat → ClassId) (q : Nat → Nat) (tt : Nat → Nat) (a0 : Int32) (a1 : Int32) (a2 : Int32) (a3 : Int32) (a4 : Int32) (g : z_G) (r : Int32) (g' : z_G) (hf : fY_X7_layRow a0 a1 a2 a3 a4 g = some (r, g')) : z_C l yX7_layRow wsX7_layRow { frames := 2, cells := 0, slots := 0, locals := 43 } (dC, dI) (tyY ca) (wY ca q) (zY tt) [.ref (q 0), .int a0, .int a1, .int a2, .int a3, .int a4] g (some r) g' := by
  refine z_enter (wY_ok ca q) (zY_ok tt) (by decide +kernel) rfl (Nat.le_of_ble_eq_true rfl) (fun J hC => ?_)
  have hC : z_Cx J l cX7_layRow 8 wsX7_layRow RX7 (some .int) { frames := 2, cells := 0, slots := 0, locals := 43 } (dC, dI) (tyY ca) (wY ca q) (zY tt) (z_QI (dC, dI) (tyY ca) (wY ca q) (some r) g') z_X0 := hC
  show J 0 [(0, .ref (q 0)), (1, .int a0), (2, .int a1), (3, .int a2), (4, .int a3), (5, .int a4)] [] g
  have hX2 : ∀ w ∈ wsX20, w ∈ wsX7_layRow := fun _ h => List.mem_cons_of_mem _ (List.mem_append_right _ (h))
  have hX7 : ∀ w ∈ wsX70, w ∈ wsX7_layRow := fun _ h => List.mem_cons_of_mem _ (List.mem_append_left _ (List.mem_append_right _ (h)))
  have hJ34 : ∀ (g : z_G), fY_X7_layRow_34 g = some (r, g') → J 34 [] [] g := by
    intro g hf
    unfold fY_X7_layRow_34 at hf
    refine zj_iconst (v := (-1)) hC dX7_layRow_34 (by decide) ?_
    exact zj_ireturn hC hf dX7_layRow_35
  have hJ124 : ∀ (x6 : Int32) (g : z_G), fY_X7_layRow_124 x6 g = some (r, g') → J 124 [(6, .int x6)] [] g := by
    intro x6 g hf
    unfold fY_X7_layRow_124 at hf
    refine zj_iload 0 hC dX7_layRow_124 rfl ?_
    exact zj_ireturn hC hf dX7_layRow_126
  have hJ57 : ∀ (x1 : Int32) (x2 : Int32) (x3 : Int32) (x5 : Int32) (x6 : Int32) (x7 : Int32) (g : z_G), fY_X7_layRow_57_go x1 x2 x3 x5 x6 x7 g = some (r, g') → J 57 [(0, .ref (q 0)), (1, .int x1), (2, .int x2), (3, .int x3), (5, .int x5), (6, .int x6), (7, .int x7)] [] g := by
    intro x1 x2 x3 x5 x6 x7 g hf
    refine z_loopE (P := fun w : Int32 × Int32 × Int32 × Int32 × Int32 × Int32 × z_G => J 57 [(0, .ref (q 0)), (1, .int w.1), (2, .int w.2.1), (3, .int w.2.2.1), (5, .int w.2.2.2.1), (6, .int w.2.2.2.2.1), (7, .int w.2.2.2.2.2.1)] [] w.2.2.2.2.2.2) (fun k57 hk57 w hf => ?_) z_fuel (x1, x2, x3, x5, x6, x7, g) hf
    obtain ⟨x1, x2, x3, x5, x6, x7, g⟩ := w
    have hf : fY_X7_layRow_57 k57 x1 x2 x3 x5 x6 x7 g = some (r, g') := hf
    show J 57 [(0, .ref (q 0)), (1, .int x1), (2, .int x2), (3, .int x3), (5, .int x5), (6, .int x6), (7, .int x7)] [] g
    unfold fY_X7_layRow_57 at hf
    refine zj_iload 5 hC dX7_layRow_57 rfl ?_
    refine zj_iload_n 3 hC dX7_layRow_59 rfl ?_
    refine zj_icmp_ge 124 hC dX7_layRow_60 (by decide) (fun c1 => ?_) (fun c1 => ?_)
    · have hf := z_iteT hf c1
      exact zj_sub hC [5] rfl (hJ124 x6 g hf)
    · have hf := z_iteF hf c1
      refine zj_iload 5 hC dX7_layRow_63 rfl ?_
      refine zj_aload_n 0 hC dX7_layRow_65 rfl ?_
      refine yg_0_0 hC hX7 (List.mem_of_getElem? (i := 2) rfl) dX7_layRow_66 ?_
      refine yg_1_0 hC hX2 (List.mem_of_getElem? (i := 3) rfl) dX7_layRow_69 ?_
      refine zj_icmp_ge 124 hC dX7_layRow_72 (by decide) (fun c2 => ?_) (fun c2 => ?_)
      · have hf := z_iteT hf c2
        exact zj_sub hC [5] rfl (hJ124 x6 g hf)
      · have hf := z_iteF hf c2
        refine zj_iload 6 hC dX7_layRow_75 rfl ?_
        refine zj_iload_n 2 hC dX7_layRow_77 rfl ?_
        obtain ⟨r3, g4, hq5, hf⟩ := z_bindE hf
        refine zj_callSi [.int x7, .int x2] hC (cY_X7_narrowed l dC dI ca q tt x7 x2 g r3 g4 hq5) gX7_layRow_X7_narrowed rfl nY_X7_narrowed ⟨Nat.le_of_ble_eq_true rfl, Nat.le_of_ble_eq_true rfl⟩ rfl (Nat.le_of_ble_eq_true rfl) dX7_layRow_78 rfl ?_
        obtain ⟨r6, g7, hq8, hf⟩ := z_bindE hf
        refine zj_callSi [.int r3] hC (cY_X2_isKind l dC dI ca q tt r3 g4 r6 g7 hq8) gX7_layRow_X2_isKind rfl nY_X2_isKind ⟨Nat.le_of_ble_eq_true rfl, Nat.le_of_ble_eq_true rfl⟩ rfl (Nat.le_of_ble_eq_true rfl) dX7_layRow_81 rfl ?_
        refine zj_if_eq 124 hC dX7_layRow_84 (by decide) (fun c9 => ?_) (fun c9 => ?_)
        · have hf := z_iteT hf c9
          exact zj_sub hC [5] rfl (hJ124 x6 g7 hf)
        · have hf := z_iteF hf c9
          refine zj_aload_n 0 hC dX7_layRow_87 rfl ?_
          refine yg_0_0 hC hX7 (List.mem_of_getElem? (i := 2) rfl) dX7_layRow_88 ?_
          refine zj_aload_n 0 hC dX7_layRow_91 rfl ?_
          refine yg_0_0 hC hX7 (List.mem_of_getElem? (i := 2) rfl) dX7_layRow_92 ?_
          refine zj_iload 5 hC dX7_layRow_95 rfl ?_
          refine zj_iload_n 1 hC dX7_layRow_97 rfl ?_
          obtain ⟨r10, g11, hq12, hf⟩ := z_bindE hf
          refine zj_callVi [.int x6, .int x1] hC (cY_X2_at l dC dI ca q tt x6 x1 g7 r10 g11 hq12) gX7_layRow_X2_at rfl nY_X2_at ⟨Nat.le_of_ble_eq_true rfl, Nat.le_of_ble_eq_true rfl⟩ 1 yo_1 rfl rfl rfl (Nat.le_of_ble_eq_true rfl) dX7_layRow_98 rfl ?_
          refine zj_iload 6 hC dX7_layRow_101 rfl ?_
          refine zj_iload_n 2 hC dX7_layRow_103 rfl ?_
          obtain ⟨r13, g14, hq15, hf⟩ := z_bindE hf
          refine zj_callSi [.int x7, .int x2] hC (cY_X7_narrowed l dC dI ca q tt x7 x2 g11 r13 g14 hq15) gX7_layRow_X7_narrowed rfl nY_X7_narrowed ⟨Nat.le_of_ble_eq_true rfl, Nat.le_of_ble_eq_true rfl⟩ rfl (Nat.le_of_ble_eq_true rfl) dX7_layRow_104 rfl ?_
          obtain ⟨r16, g17, hq18, hf⟩ := z_bindE hf
          refine zj_callVi [.int r10, .int r13] hC (cY_X2_fill l dC dI ca q tt r10 r13 g14 r16 g17 hq18) gX7_layRow_X2_fill rfl nY_X2_fill ⟨Nat.le_of_ble_eq_true rfl, Nat.le_of_ble_eq_true rfl⟩ 1 yo_1 rfl rfl rfl (Nat.le_of_ble_eq_true rfl) dX7_layRow_107 rfl ?_
          refine zj_pop hC dX7_layRow_110 rfl ?_
          refine zj_iinc (lv1 := fun v => [(6, .int v), (0, .ref (q 0)), (1, .int x1), (2, .int x2), (3, .int x3), (5, .int x5), (7, .int x7)]) 5 hC dX7_layRow_111 rfl (by decide) (fun _ => rfl) (fun y19 ey19 => ?_)
          have hf := z_letE hf (show y19 = x6 + 1 from ey19)
          refine zj_iload 6 hC dX7_layRow_114 rfl ?_
          refine zj_iload 5 hC dX7_layRow_116 rfl ?_
          refine zj_iadd hC dX7_layRow_118 ?_
          refine zj_top (fun y20 ey20 => ?_)
          have hf := z_letE hf ey20
          refine zj_istore (lv1 := [(7, .int y20), (6, .int y19), (0, .ref (q 0)), (1, .int x1), (2, .int x2), (3, .int x3), (5, .int x5)]) hC dX7_layRow_119 (by decide) rfl ?_
          refine zj_goto 57 hC dX7_layRow_121 (by decide) ?_
          exact zj_sub hC [2, 3, 4, 5, 6, 1, 0] rfl (hk57 (x1, x2, x3, x5, y19, y20, g17) hf)
  unfold fY_X7_layRow at hf
  refine zj_aload_n 0 hC dX7_layRow_0 rfl ?_
  refine yg_0_7 hC hX7 (List.mem_of_getElem? (i := 1) rfl) dX7_layRow_1 ?_
  refine zj_if_ne 34 hC dX7_layRow_4 (by decide) (fun c21 => ?_) (fun c21 => ?_)
  · have hf := z_iteF hf c21
    exact zj_sub hC [] rfl (hJ34 g hf)
  · have hf := z_iteT hf c21
    refine zj_aload_n 0 hC dX7_layRow_7 rfl ?_
    refine yg_0_0 hC hX7 (List.mem_of_getElem? (i := 2) rfl) dX7_layRow_8 ?_
    refine zj_iconst (v := 0) hC dX7_layRow_11 (by decide) ?_
    refine zj_iload_n 1 hC dX7_layRow_12 rfl ?_
    obtain ⟨r22, g23, hq24, hf⟩ := z_bindE hf
    refine zj_callVi [.int 0, .int a0] hC (cY_X2_holds l dC dI ca q tt 0 a0 g r22 g23 hq24) gX7_layRow_X2_holds rfl nY_X2_holds ⟨Nat.le_of_ble_eq_true rfl, Nat.le_of_ble_eq_true rfl⟩ 1 yo_1 rfl rfl rfl (Nat.le_of_ble_eq_true rfl) dX7_layRow_13 rfl ?_
    refine zj_if_eq 34 hC dX7_layRow_16 (by decide) (fun c25 => ?_) (fun c25 => ?_)
    · have hf := z_iteT hf c25
      exact zj_sub hC [] rfl (hJ34 g23 hf)
    · have hf := z_iteF hf c25
      refine zj_iload_n 2 hC dX7_layRow_19 rfl ?_
      refine zj_if_lt 34 hC dX7_layRow_20 (by decide) (fun c26 => ?_) (fun c26 => ?_)
      · have hf := z_iteT hf c26
        exact zj_sub hC [] rfl (hJ34 g23 hf)
      · have hf := z_iteF hf c26
        refine zj_iload_n 2 hC dX7_layRow_23 rfl ?_
        refine zj_iconst (v := 3) hC dX7_layRow_24 (by decide) ?_
        refine zj_icmp_gt 34 hC dX7_layRow_25 (by decide) (fun c27 => ?_) (fun c27 => ?_)
        · have hf := z_iteT hf c27
          exact zj_sub hC [] rfl (hJ34 g23 hf)
        · have hf := z_iteF hf c27
          refine zj_iload_n 3 hC dX7_layRow_28 rfl ?_
          refine zj_bipush (v := 20) hC dX7_layRow_29 (by decide) ?_
          refine zj_icmp_le 36 hC dX7_layRow_31 (by decide) (fun c28 => ?_) (fun c28 => ?_)
          · have hf := z_iteT hf c28
            refine zj_iload_n 2 hC dX7_layRow_36 rfl ?_
            refine zj_iconst (v := 3) hC dX7_layRow_37 (by decide) ?_
            refine zj_icmp_ne 43 hC dX7_layRow_38 (by decide) (fun c29 => ?_) (fun c29 => ?_)
            · have hf := z_iteF hf c29
              refine zj_iload_n 3 hC dX7_layRow_43 rfl ?_
              refine zj_if_ge 50 hC dX7_layRow_44 (by decide) (fun c30 => ?_) (fun c30 => ?_)
              · have hf := z_iteT hf c30
                refine zj_iconst (v := 0) hC dX7_layRow_50 (by decide) ?_
                refine zj_istore (lv1 := [(6, .int 0), (0, .ref (q 0)), (1, .int a0), (2, .int a1), (3, .int a2), (4, .int a3), (5, .int a4)]) hC dX7_layRow_51 (by decide) rfl ?_
                refine zj_iload 5 hC dX7_layRow_53 rfl ?_
                refine zj_istore (lv1 := [(7, .int a3), (6, .int 0), (0, .ref (q 0)), (1, .int a0), (2, .int a1), (3, .int a2), (4, .int a3), (5, .int a4)]) hC dX7_layRow_55 (by decide) rfl ?_
                exact zj_sub hC [2, 3, 4, 5, 7, 1, 0] rfl (hJ57 a0 a1 a2 a4 0 a3 g23 hf)
              · have hf := z_iteF hf c30
                refine zj_bipush (v := (-2)) hC dX7_layRow_47 (by decide) ?_
                exact zj_ireturn hC hf dX7_layRow_49
            · have hf := z_iteT hf c29
              refine zj_iconst (v := 0) hC dX7_layRow_41 (by decide) ?_
              exact zj_ireturn hC hf dX7_layRow_42
          · have hf := z_iteF hf c28
            exact zj_sub hC [] rfl (hJ34 g23 hf)

def fY_X7_hole_19  (g : z_G) : Option (Int32 × z_G) := some ((-1), g)
def fY_X7_hole (a0 : Int32) (a1 : Int32) (g : z_G) : Option (Int32 × z_G) := (if (g 0 7) = 0 then z_bind (fY_X2_isOutsideAt a0 a1 g) (fun r2 g3 => (if r2 = 0 then fY_X7_hole_19 g3 else z_bind (fY_X2_at a0 a1 g3) (fun r6 g7 => z_bind (fY_X1_bore r6 g7) (fun r9 g10 => some (r9, g10))))) else fY_X7_hole_19 g)
theorem nY_X7_hole : yX7_hole.cls = RX7 ∧ yX7_hole.cls ≠ "java/lang/invoke/MethodHandle" ∧ yX7_hole.cls ≠ "java/lang/invoke/VarHandle" ∧ (parseMethodDescriptor yX7_hole.desc).map (fun d => d.parameters.length) = some 2 := by decide +kernel
set_option maxRecDepth 100000 in
set_option maxHeartbeats 4000000 in
theorem cY_X7_hole (l : Launch) (dC : Nat → ClassId) (dI : Nat → Nat → Nat) (ca : Nat → ClassId) (q : Nat → Nat) (tt : Nat → Nat) (a0 : Int32) (a1 : Int32) (g : z_G) (r : Int32) (g' : z_G) (hf : fY_X7_hole a0 a1 g = some (r, g')) : z_C l yX7_hole wsX7_hole { frames := 2, cells := 0, slots := 0, locals := 44 } (dC, dI) (tyY ca) (wY ca q) (zY tt) [.ref (q 0), .int a0, .int a1] g (some r) g' := by
  refine z_enter (wY_ok ca q) (zY_ok tt) (by decide +kernel) rfl (Nat.le_of_ble_eq_true rfl) (fun J hC => ?_)
  have hC : z_Cx J l cX7_hole 3 wsX7_hole RX7 (some .int) { frames := 2, cells := 0, slots := 0, locals := 44 } (dC, dI) (tyY ca) (wY ca q) (zY tt) (z_QI (dC, dI) (tyY ca) (wY ca q) (some r) g') z_X0 := hC
  show J 0 [(0, .ref (q 0)), (1, .int a0), (2, .int a1)] [] g
  have hX7 : ∀ w ∈ wsX70, w ∈ wsX7_hole := fun _ h => List.mem_cons_of_mem _ (List.mem_append_left _ (List.mem_append_left _ (List.mem_append_right _ (h))))
  have hJ19 : ∀ (g : z_G), fY_X7_hole_19 g = some (r, g') → J 19 [] [] g := by
    intro g hf
    unfold fY_X7_hole_19 at hf
    refine zj_iconst (v := (-1)) hC dX7_hole_19 (by decide) ?_
    exact zj_ireturn hC hf dX7_hole_20
  unfold fY_X7_hole at hf
  refine zj_aload_n 0 hC dX7_hole_0 rfl ?_
  refine yg_0_7 hC hX7 (List.mem_of_getElem? (i := 1) rfl) dX7_hole_1 ?_
  refine zj_if_ne 19 hC dX7_hole_4 (by decide) (fun c1 => ?_) (fun c1 => ?_)
  · have hf := z_iteF hf c1
    exact zj_sub hC [] rfl (hJ19 g hf)
  · have hf := z_iteT hf c1
    refine zj_aload_n 0 hC dX7_hole_7 rfl ?_
    refine yg_0_0 hC hX7 (List.mem_of_getElem? (i := 2) rfl) dX7_hole_8 ?_
    refine zj_iload_n 1 hC dX7_hole_11 rfl ?_
    refine zj_iload_n 2 hC dX7_hole_12 rfl ?_
    obtain ⟨r2, g3, hq4, hf⟩ := z_bindE hf
    refine zj_callVi [.int a0, .int a1] hC (cY_X2_isOutsideAt l dC dI ca q tt a0 a1 g r2 g3 hq4) gX7_hole_X2_isOutsideAt rfl nY_X2_isOutsideAt ⟨Nat.le_of_ble_eq_true rfl, Nat.le_of_ble_eq_true rfl⟩ 1 yo_1 rfl rfl rfl (Nat.le_of_ble_eq_true rfl) dX7_hole_13 rfl ?_
    refine zj_if_ne 21 hC dX7_hole_16 (by decide) (fun c5 => ?_) (fun c5 => ?_)
    · have hf := z_iteF hf c5
      refine zj_aload_n 0 hC dX7_hole_21 rfl ?_
      refine yg_0_1 hC hX7 (List.mem_of_getElem? (i := 3) rfl) dX7_hole_22 ?_
      refine zj_aload_n 0 hC dX7_hole_25 rfl ?_
      refine yg_0_0 hC hX7 (List.mem_of_getElem? (i := 2) rfl) dX7_hole_26 ?_
      refine zj_iload_n 1 hC dX7_hole_29 rfl ?_
      refine zj_iload_n 2 hC dX7_hole_30 rfl ?_
      obtain ⟨r6, g7, hq8, hf⟩ := z_bindE hf
      refine zj_callVi [.int a0, .int a1] hC (cY_X2_at l dC dI ca q tt a0 a1 g3 r6 g7 hq8) gX7_hole_X2_at rfl nY_X2_at ⟨Nat.le_of_ble_eq_true rfl, Nat.le_of_ble_eq_true rfl⟩ 1 yo_1 rfl rfl rfl (Nat.le_of_ble_eq_true rfl) dX7_hole_31 rfl ?_
      obtain ⟨r9, g10, hq11, hf⟩ := z_bindE hf
      refine zj_callVi [.int r6] hC (cY_X1_bore l dC dI ca q tt r6 g7 r9 g10 hq11) gX7_hole_X1_bore rfl nY_X1_bore ⟨Nat.le_of_ble_eq_true rfl, Nat.le_of_ble_eq_true rfl⟩ 2 yo_2 rfl rfl rfl (Nat.le_of_ble_eq_true rfl) dX7_hole_34 rfl ?_
      exact zj_ireturn hC hf dX7_hole_37
    · have hf := z_iteT hf c5
      exact zj_sub hC [] rfl (hJ19 g3 hf)

def fY_X7_light_19  (g : z_G) : Option (Int32 × z_G) := z_bo 0 (some (0, g))
def fY_X7_light (g : z_G) : Option (Int32 × z_G) := (if (g 0 7) = 0 then z_ck 0 64 ((if (g 10 (Int32.toNatClampNeg 0)) = 0 then fY_X7_light_19 g else z_let (z_up g 0 7 1) (fun g4 => z_bind (fY_X2_keepCover g4) (fun r5 g6 => z_bind (fY_X1_keepOpen g6) (fun r8 g9 => z_bind (fY_X4_actFromFirstHour g9) (fun r11 g12 => z_bind (fY_X2_setAlight g12) (fun r14 g15 => z_bo 1 (some (1, g15))))))))) else fY_X7_light_19 g)
theorem nY_X7_light : yX7_light.cls = RX7 ∧ yX7_light.cls ≠ "java/lang/invoke/MethodHandle" ∧ yX7_light.cls ≠ "java/lang/invoke/VarHandle" ∧ (parseMethodDescriptor yX7_light.desc).map (fun d => d.parameters.length) = some 0 := by decide +kernel
set_option maxRecDepth 100000 in
set_option maxHeartbeats 4000000 in
theorem cY_X7_light (l : Launch) (dC : Nat → ClassId) (dI : Nat → Nat → Nat) (ca : Nat → ClassId) (q : Nat → Nat) (tt : Nat → Nat) (g : z_G) (r : Int32) (g' : z_G) (hf : fY_X7_light g = some (r, g')) : z_C l yX7_light wsX7_light { frames := 2, cells := 0, slots := 0, locals := 60 } (dC, dI) (tyY ca) (wY ca q) (zY tt) [.ref (q 0)] g (some r) g' := by
  refine z_enter (wY_ok ca q) (zY_ok tt) (by decide +kernel) rfl (Nat.le_of_ble_eq_true rfl) (fun J hC => ?_)
  have hC : z_Cx J l cX7_light 1 wsX7_light RX7 (some .boolean) { frames := 2, cells := 0, slots := 0, locals := 60 } (dC, dI) (tyY ca) (wY ca q) (zY tt) (z_QI (dC, dI) (tyY ca) (wY ca q) (some r) g') z_X0 := hC
  show J 0 [(0, .ref (q 0))] [] g
  have hX2 : ∀ w ∈ wsX20, w ∈ wsX7_light := fun _ h => List.mem_cons_of_mem _ (List.mem_append_left _ (List.mem_append_left _ (List.mem_append_right _ (h))))
  have hX7 : ∀ w ∈ wsX70, w ∈ wsX7_light := fun _ h => List.mem_cons_of_mem _ (List.mem_append_left _ (List.mem_append_left _ (List.mem_append_left _ (List.mem_append_right _ (h)))))
  have hJ19 : ∀ (g : z_G), fY_X7_light_19 g = some (r, g') → J 19 [] [] g := by
    intro g hf
    unfold fY_X7_light_19 at hf
    refine zj_iconst (v := 0) hC dX7_light_19 (by decide) ?_
    exact zj_zreturn hC hf dX7_light_20
  unfold fY_X7_light at hf
  refine zj_aload_n 0 hC dX7_light_0 rfl ?_
  refine yg_0_7 hC hX7 (List.mem_of_getElem? (i := 1) rfl) dX7_light_1 ?_
  refine zj_if_ne 19 hC dX7_light_4 (by decide) (fun c1 => ?_) (fun c1 => ?_)
  · have hf := z_iteF hf c1
    exact zj_sub hC [] rfl (hJ19 g hf)
  · have hf := z_iteT hf c1
    refine zj_aload_n 0 hC dX7_light_7 rfl ?_
    refine yg_0_0 hC hX7 (List.mem_of_getElem? (i := 2) rfl) dX7_light_8 ?_
    refine yg_1_7 hC hX2 (List.mem_of_getElem? (i := 3) rfl) dX7_light_11 ?_
    refine zj_iconst (v := 0) hC dX7_light_14 (by decide) ?_
    obtain ⟨hq2, hf⟩ := z_ckE hf
    refine ya_10 hC hq2 dX7_light_15 ?_
    refine zj_if_ne 21 hC dX7_light_16 (by decide) (fun c3 => ?_) (fun c3 => ?_)
    · have hf := z_iteF hf c3
      refine zj_aload_n 0 hC dX7_light_21 rfl ?_
      refine zj_iconst (v := 1) hC dX7_light_22 (by decide) ?_
      refine yp_0_7 hC hX7 (List.mem_of_getElem? (i := 1) rfl) (by decide) dX7_light_23 (fun g4 eg4 => ?_)
      have hf := z_letE hf eg4
      refine zj_aload_n 0 hC dX7_light_26 rfl ?_
      refine yg_0_0 hC hX7 (List.mem_of_getElem? (i := 2) rfl) dX7_light_27 ?_
      obtain ⟨r5, g6, hq7, hf⟩ := z_bindE hf
      refine zj_callVv [] hC (cY_X2_keepCover l dC dI ca q tt g4 r5 g6 hq7) gX7_light_X2_keepCover rfl nY_X2_keepCover ⟨Nat.le_of_ble_eq_true rfl, Nat.le_of_ble_eq_true rfl⟩ 1 yo_1 rfl rfl rfl (Nat.le_of_ble_eq_true rfl) dX7_light_30 rfl ?_
      refine zj_aload_n 0 hC dX7_light_33 rfl ?_
      refine yg_0_1 hC hX7 (List.mem_of_getElem? (i := 4) rfl) dX7_light_34 ?_
      obtain ⟨r8, g9, hq10, hf⟩ := z_bindE hf
      refine zj_callVv [] hC (cY_X1_keepOpen l dC dI ca q tt g6 r8 g9 hq10) gX7_light_X1_keepOpen rfl nY_X1_keepOpen ⟨Nat.le_of_ble_eq_true rfl, Nat.le_of_ble_eq_true rfl⟩ 2 yo_2 rfl rfl rfl (Nat.le_of_ble_eq_true rfl) dX7_light_37 rfl ?_
      refine zj_aload_n 0 hC dX7_light_40 rfl ?_
      refine yg_0_4 hC hX7 (List.mem_of_getElem? (i := 5) rfl) dX7_light_41 ?_
      obtain ⟨r11, g12, hq13, hf⟩ := z_bindE hf
      refine zj_callVv [] hC (cY_X4_actFromFirstHour l dC dI ca q tt g9 r11 g12 hq13) gX7_light_X4_actFromFirstHour rfl nY_X4_actFromFirstHour ⟨Nat.le_of_ble_eq_true rfl, Nat.le_of_ble_eq_true rfl⟩ 5 yo_5 rfl rfl rfl (Nat.le_of_ble_eq_true rfl) dX7_light_44 rfl ?_
      refine zj_aload_n 0 hC dX7_light_47 rfl ?_
      refine yg_0_0 hC hX7 (List.mem_of_getElem? (i := 2) rfl) dX7_light_48 ?_
      obtain ⟨r14, g15, hq16, hf⟩ := z_bindE hf
      refine zj_callVv [] hC (cY_X2_setAlight l dC dI ca q tt g12 r14 g15 hq16) gX7_light_X2_setAlight rfl nY_X2_setAlight ⟨Nat.le_of_ble_eq_true rfl, Nat.le_of_ble_eq_true rfl⟩ 1 yo_1 rfl rfl rfl (Nat.le_of_ble_eq_true rfl) dX7_light_51 rfl ?_
      refine zj_iconst (v := 1) hC dX7_light_54 (by decide) ?_
      exact zj_zreturn hC hf dX7_light_55
    · have hf := z_iteT hf c3
      exact zj_sub hC [] rfl (hJ19 g hf)

def fY_X7_handle_35  (g : z_G) : Option (Int32 × z_G) := some (0, g)
def fY_X7_handle_19 (s0 : Int32) (s1 : Int32) (g : z_G) : Option (Int32 × z_G) := z_bind (fY_X1_turn s1 s0 g) (fun r1 g2 => fY_X7_handle_35 g2)
def fY_X7_handle (a0 : Int32) (a1 : Int32) (a2 : Int32) (g : z_G) : Option (Int32 × z_G) := (if a0 = 0 then (if a2 = 1 then fY_X7_handle_19 1 a1 g else fY_X7_handle_19 0 a1 g) else z_ck a1 64 (z_let (z_up g 15 (Int32.toNatClampNeg a1) a2) (fun g6 => fY_X7_handle_35 g6)))
theorem nY_X7_handle : yX7_handle.cls = RX7 ∧ yX7_handle.cls ≠ "java/lang/invoke/MethodHandle" ∧ yX7_handle.cls ≠ "java/lang/invoke/VarHandle" ∧ (parseMethodDescriptor yX7_handle.desc).map (fun d => d.parameters.length) = some 3 := by decide +kernel
set_option maxRecDepth 100000 in
set_option maxHeartbeats 4000000 in
theorem cY_X7_handle (l : Launch) (dC : Nat → ClassId) (dI : Nat → Nat → Nat) (ca : Nat → ClassId) (q : Nat → Nat) (tt : Nat → Nat) (a0 : Int32) (a1 : Int32) (a2 : Int32) (g : z_G) (r : Int32) (g' : z_G) (hf : fY_X7_handle a0 a1 a2 g = some (r, g')) : z_C l yX7_handle wsX7_handle { frames := 2, cells := 0, slots := 0, locals := 43 } (dC, dI) (tyY ca) (wY ca q) (zY tt) [.ref (q 0), .int a0, .int a1, .int a2] g none g' := by
  refine z_enter (wY_ok ca q) (zY_ok tt) (by decide +kernel) rfl (Nat.le_of_ble_eq_true rfl) (fun J hC => ?_)
  have hC : z_Cx J l cX7_handle 4 wsX7_handle RX7 none { frames := 2, cells := 0, slots := 0, locals := 43 } (dC, dI) (tyY ca) (wY ca q) (zY tt) (z_QI (dC, dI) (tyY ca) (wY ca q) none g') z_X0 := hC
  show J 0 [(0, .ref (q 0)), (1, .int a0), (2, .int a1), (3, .int a2)] [] g
  have hX2 : ∀ w ∈ wsX20, w ∈ wsX7_handle := fun _ h => List.mem_cons_of_mem _ (List.mem_append_left _ (List.mem_append_right _ (h)))
  have hX7 : ∀ w ∈ wsX70, w ∈ wsX7_handle := fun _ h => List.mem_cons_of_mem _ (List.mem_append_left _ (List.mem_append_left _ (List.mem_append_right _ (h))))
  have hJ35 : ∀ (g : z_G), fY_X7_handle_35 g = some (r, g') → J 35 [] [] g := by
    intro g hf
    unfold fY_X7_handle_35 at hf
    exact zj_vreturn hC hf dX7_handle_35
  have hJ19 : ∀ (s0 : Int32) (s1 : Int32) (g : z_G), fY_X7_handle_19 s0 s1 g = some (r, g') → J 19 [] [.int s0, .int s1, .ref (q 2)] g := by
    intro s0 s1 g hf
    unfold fY_X7_handle_19 at hf
    obtain ⟨r1, g2, hq3, hf⟩ := z_bindE hf
    refine zj_callVv [.int s1, .int s0] hC (cY_X1_turn l dC dI ca q tt s1 s0 g r1 g2 hq3) gX7_handle_X1_turn rfl nY_X1_turn ⟨Nat.le_of_ble_eq_true rfl, Nat.le_of_ble_eq_true rfl⟩ 2 yo_2 rfl rfl rfl (Nat.le_of_ble_eq_true rfl) dX7_handle_19 rfl ?_
    refine zj_goto 35 hC dX7_handle_22 (by decide) ?_
    exact (hJ35 g2 hf)
  unfold fY_X7_handle at hf
  refine zj_iload_n 1 hC dX7_handle_0 rfl ?_
  refine zj_if_ne 25 hC dX7_handle_1 (by decide) (fun c4 => ?_) (fun c4 => ?_)
  · have hf := z_iteF hf c4
    refine zj_aload_n 0 hC dX7_handle_25 rfl ?_
    refine yg_0_0 hC hX7 (List.mem_of_getElem? (i := 2) rfl) dX7_handle_26 ?_
    refine yg_1_12 hC hX2 (List.mem_of_getElem? (i := 3) rfl) dX7_handle_29 ?_
    refine zj_iload_n 2 hC dX7_handle_32 rfl ?_
    refine zj_iload_n 3 hC dX7_handle_33 rfl ?_
    obtain ⟨hq5, hf⟩ := z_ckE hf
    refine ys_15 hC hq5 dX7_handle_34 (fun g6 eg6 => ?_)
    have hf := z_letE hf eg6
    exact zj_sub hC [] rfl (hJ35 g6 hf)
  · have hf := z_iteT hf c4
    refine zj_aload_n 0 hC dX7_handle_4 rfl ?_
    refine yg_0_1 hC hX7 (List.mem_of_getElem? (i := 1) rfl) dX7_handle_5 ?_
    refine zj_iload_n 2 hC dX7_handle_8 rfl ?_
    refine zj_iload_n 3 hC dX7_handle_9 rfl ?_
    refine zj_iconst (v := 1) hC dX7_handle_10 (by decide) ?_
    refine zj_icmp_ne 18 hC dX7_handle_11 (by decide) (fun c7 => ?_) (fun c7 => ?_)
    · have hf := z_iteF hf c7
      refine zj_iconst (v := 0) hC dX7_handle_18 (by decide) ?_
      exact zj_sub hC [] rfl (hJ19 0 a1 g hf)
    · have hf := z_iteT hf c7
      refine zj_iconst (v := 1) hC dX7_handle_14 (by decide) ?_
      refine zj_goto 19 hC dX7_handle_15 (by decide) ?_
      exact zj_sub hC [] rfl (hJ19 1 a1 g hf)

def fY_X7_workByHand_22 (x1 : Int32) (x2 : Int32) (x3 : Int32) (g : z_G) : Option (Int32 × z_G) := z_bind (fY_X7_handle x1 x2 x3 g) (fun r1 g2 => z_bo 1 (some (1, g2)))
def fY_X7_workByHand (a0 : Int32) (a1 : Int32) (a2 : Int32) (g : z_G) : Option (Int32 × z_G) := (if (g 0 7) = 0 then fY_X7_workByHand_22 a0 a1 a2 g else z_bind (fY_X0_keepAct a0 a1 a2 g) (fun r5 g6 => (if r5 = 0 then z_bo 0 (some (0, g6)) else fY_X7_workByHand_22 a0 a1 a2 g6)))
theorem nY_X7_workByHand : yX7_workByHand.cls = RX7 ∧ yX7_workByHand.cls ≠ "java/lang/invoke/MethodHandle" ∧ yX7_workByHand.cls ≠ "java/lang/invoke/VarHandle" ∧ (parseMethodDescriptor yX7_workByHand.desc).map (fun d => d.parameters.length) = some 3 := by decide +kernel
set_option maxRecDepth 100000 in
set_option maxHeartbeats 4000000 in
theorem cY_X7_workByHand (l : Launch) (dC : Nat → ClassId) (dI : Nat → Nat → Nat) (ca : Nat → ClassId) (q : Nat → Nat) (tt : Nat → Nat) (a0 : Int32) (a1 : Int32) (a2 : Int32) (g : z_G) (r : Int32) (g' : z_G) (hf : fY_X7_workByHand a0 a1 a2 g = some (r, g')) : z_C l yX7_workByHand wsX7_workByHand { frames := 3, cells := 0, slots := 0, locals := 66 } (dC, dI) (tyY ca) (wY ca q) (zY tt) [.ref (q 0), .int a0, .int a1, .int a2] g (some r) g' := by
  refine z_enter (wY_ok ca q) (zY_ok tt) (by decide +kernel) rfl (Nat.le_of_ble_eq_true rfl) (fun J hC => ?_)
  have hC : z_Cx J l cX7_workByHand 4 wsX7_workByHand RX7 (some .boolean) { frames := 3, cells := 0, slots := 0, locals := 66 } (dC, dI) (tyY ca) (wY ca q) (zY tt) (z_QI (dC, dI) (tyY ca) (wY ca q) (some r) g') z_X0 := hC
  show J 0 [(0, .ref (q 0)), (1, .int a0), (2, .int a1), (3, .int a2)] [] g
  have hX7 : ∀ w ∈ wsX70, w ∈ wsX7_workByHand := fun _ h => List.mem_cons_of_mem _ (List.mem_append_left _ (List.mem_append_left _ (List.mem_append_left _ (List.mem_append_right _ (h)))))
  have hJ22 : ∀ (x1 : Int32) (x2 : Int32) (x3 : Int32) (g : z_G), fY_X7_workByHand_22 x1 x2 x3 g = some (r, g') → J 22 [(0, .ref (q 0)), (1, .int x1), (2, .int x2), (3, .int x3)] [] g := by
    intro x1 x2 x3 g hf
    unfold fY_X7_workByHand_22 at hf
    refine zj_aload_n 0 hC dX7_workByHand_22 rfl ?_
    refine zj_iload_n 1 hC dX7_workByHand_23 rfl ?_
    refine zj_iload_n 2 hC dX7_workByHand_24 rfl ?_
    refine zj_iload_n 3 hC dX7_workByHand_25 rfl ?_
    obtain ⟨r1, g2, hq3, hf⟩ := z_bindE hf
    refine zj_callVv [.int x1, .int x2, .int x3] hC (cY_X7_handle l dC dI ca q tt x1 x2 x3 g r1 g2 hq3) gX7_workByHand_X7_handle rfl nY_X7_handle ⟨Nat.le_of_ble_eq_true rfl, Nat.le_of_ble_eq_true rfl⟩ 0 yo_0 rfl rfl rfl (Nat.le_of_ble_eq_true rfl) dX7_workByHand_26 rfl ?_
    refine zj_iconst (v := 1) hC dX7_workByHand_29 (by decide) ?_
    exact zj_zreturn hC hf dX7_workByHand_30
  unfold fY_X7_workByHand at hf
  refine zj_aload_n 0 hC dX7_workByHand_0 rfl ?_
  refine yg_0_7 hC hX7 (List.mem_of_getElem? (i := 1) rfl) dX7_workByHand_1 ?_
  refine zj_if_eq 22 hC dX7_workByHand_4 (by decide) (fun c4 => ?_) (fun c4 => ?_)
  · have hf := z_iteT hf c4
    exact (hJ22 a0 a1 a2 g hf)
  · have hf := z_iteF hf c4
    refine zj_aload_n 0 hC dX7_workByHand_7 rfl ?_
    refine yg_0_2 hC hX7 (List.mem_of_getElem? (i := 2) rfl) dX7_workByHand_8 ?_
    refine zj_iload_n 1 hC dX7_workByHand_11 rfl ?_
    refine zj_iload_n 2 hC dX7_workByHand_12 rfl ?_
    refine zj_iload_n 3 hC dX7_workByHand_13 rfl ?_
    obtain ⟨r5, g6, hq7, hf⟩ := z_bindE hf
    refine zj_callVi [.int a0, .int a1, .int a2] hC (cY_X0_keepAct l dC dI ca q tt a0 a1 a2 g r5 g6 hq7) gX7_workByHand_X0_keepAct rfl nY_X0_keepAct ⟨Nat.le_of_ble_eq_true rfl, Nat.le_of_ble_eq_true rfl⟩ 3 yo_3 rfl rfl rfl (Nat.le_of_ble_eq_true rfl) dX7_workByHand_14 rfl ?_
    refine zj_if_ne 22 hC dX7_workByHand_17 (by decide) (fun c8 => ?_) (fun c8 => ?_)
    · have hf := z_iteF hf c8
      exact (hJ22 a0 a1 a2 g6 hf)
    · have hf := z_iteT hf c8
      refine zj_iconst (v := 0) hC dX7_workByHand_20 (by decide) ?_
      exact zj_zreturn hC hf dX7_workByHand_21

def fY_X7_open_34 (s0 : Int32) (g : z_G) : Option (Int32 × z_G) := z_bo s0 (some (s0, g))
def fY_X7_open_33  (g : z_G) : Option (Int32 × z_G) := fY_X7_open_34 0 g
def fY_X7_open_23 (s0 : Int32) (s1 : Int32) (s2 : Int32) (g : z_G) : Option (Int32 × z_G) := z_bind (fY_X7_workByHand s2 s1 s0 g) (fun r1 g2 => (if r1 = 0 then fY_X7_open_33 g2 else fY_X7_open_34 1 g2))
def fY_X7_open (a0 : Int32) (a1 : Int32) (g : z_G) : Option (Int32 × z_G) := z_bind (fY_X1_has a0 g) (fun r5 g6 => (if r5 = 0 then fY_X7_open_33 g6 else (if a1 = 0 then fY_X7_open_23 0 a0 0 g6 else fY_X7_open_23 1 a0 0 g6)))
theorem nY_X7_open : yX7_open.cls = RX7 ∧ yX7_open.cls ≠ "java/lang/invoke/MethodHandle" ∧ yX7_open.cls ≠ "java/lang/invoke/VarHandle" ∧ (parseMethodDescriptor yX7_open.desc).map (fun d => d.parameters.length) = some 2 := by decide +kernel
set_option maxRecDepth 100000 in
set_option maxHeartbeats 4000000 in
theorem cY_X7_open (l : Launch) (dC : Nat → ClassId) (dI : Nat → Nat → Nat) (ca : Nat → ClassId) (q : Nat → Nat) (tt : Nat → Nat) (a0 : Int32) (a1 : Int32) (g : z_G) (r : Int32) (g' : z_G) (hf : fY_X7_open a0 a1 g = some (r, g')) : z_C l yX7_open wsX7_open { frames := 4, cells := 0, slots := 0, locals := 89 } (dC, dI) (tyY ca) (wY ca q) (zY tt) [.ref (q 0), .int a0, .int a1] g (some r) g' := by
  refine z_enter (wY_ok ca q) (zY_ok tt) (by decide +kernel) rfl (Nat.le_of_ble_eq_true rfl) (fun J hC => ?_)
  have hC : z_Cx J l cX7_open 3 wsX7_open RX7 (some .boolean) { frames := 4, cells := 0, slots := 0, locals := 89 } (dC, dI) (tyY ca) (wY ca q) (zY tt) (z_QI (dC, dI) (tyY ca) (wY ca q) (some r) g') z_X0 := hC
  show J 0 [(0, .ref (q 0)), (1, .int a0), (2, .int a1)] [] g
  have hX7 : ∀ w ∈ wsX70, w ∈ wsX7_open := fun _ h => List.mem_cons_of_mem _ (List.mem_append_left _ (List.mem_append_left _ (List.mem_append_left _ (List.mem_append_right _ (h)))))
  have hJ34 : ∀ (s0 : Int32) (g : z_G), fY_X7_open_34 s0 g = some (r, g') → J 34 [] [.int s0] g := by
    intro s0 g hf
    unfold fY_X7_open_34 at hf
    exact zj_zreturn hC hf dX7_open_34
  have hJ33 : ∀ (g : z_G), fY_X7_open_33 g = some (r, g') → J 33 [] [] g := by
    intro g hf
    unfold fY_X7_open_33 at hf
    refine zj_iconst (v := 0) hC dX7_open_33 (by decide) ?_
    exact (hJ34 0 g hf)
  have hJ23 : ∀ (s0 : Int32) (s1 : Int32) (s2 : Int32) (g : z_G), fY_X7_open_23 s0 s1 s2 g = some (r, g') → J 23 [] [.int s0, .int s1, .int s2, .ref (q 0)] g := by
    intro s0 s1 s2 g hf
    unfold fY_X7_open_23 at hf
    obtain ⟨r1, g2, hq3, hf⟩ := z_bindE hf
    refine zj_callVi [.int s2, .int s1, .int s0] hC (cY_X7_workByHand l dC dI ca q tt s2 s1 s0 g r1 g2 hq3) gX7_open_X7_workByHand rfl nY_X7_workByHand ⟨Nat.le_of_ble_eq_true rfl, Nat.le_of_ble_eq_true rfl⟩ 0 yo_0 rfl rfl rfl (Nat.le_of_ble_eq_true rfl) dX7_open_23 rfl ?_
    refine zj_if_eq 33 hC dX7_open_26 (by decide) (fun c4 => ?_) (fun c4 => ?_)
    · have hf := z_iteT hf c4
      exact (hJ33 g2 hf)
    · have hf := z_iteF hf c4
      refine zj_iconst (v := 1) hC dX7_open_29 (by decide) ?_
      refine zj_goto 34 hC dX7_open_30 (by decide) ?_
      exact (hJ34 1 g2 hf)
  unfold fY_X7_open at hf
  refine zj_aload_n 0 hC dX7_open_0 rfl ?_
  refine yg_0_1 hC hX7 (List.mem_of_getElem? (i := 1) rfl) dX7_open_1 ?_
  refine zj_iload_n 1 hC dX7_open_4 rfl ?_
  obtain ⟨r5, g6, hq7, hf⟩ := z_bindE hf
  refine zj_callVi [.int a0] hC (cY_X1_has l dC dI ca q tt a0 g r5 g6 hq7) gX7_open_X1_has rfl nY_X1_has ⟨Nat.le_of_ble_eq_true rfl, Nat.le_of_ble_eq_true rfl⟩ 2 yo_2 rfl rfl rfl (Nat.le_of_ble_eq_true rfl) dX7_open_5 rfl ?_
  refine zj_if_eq 33 hC dX7_open_8 (by decide) (fun c8 => ?_) (fun c8 => ?_)
  · have hf := z_iteT hf c8
    exact zj_sub hC [] rfl (hJ33 g6 hf)
  · have hf := z_iteF hf c8
    refine zj_aload_n 0 hC dX7_open_11 rfl ?_
    refine zj_iconst (v := 0) hC dX7_open_12 (by decide) ?_
    refine zj_iload_n 1 hC dX7_open_13 rfl ?_
    refine zj_iload_n 2 hC dX7_open_14 rfl ?_
    refine zj_if_eq 22 hC dX7_open_15 (by decide) (fun c9 => ?_) (fun c9 => ?_)
    · have hf := z_iteT hf c9
      refine zj_iconst (v := 0) hC dX7_open_22 (by decide) ?_
      exact zj_sub hC [] rfl (hJ23 0 a0 0 g6 hf)
    · have hf := z_iteF hf c9
      refine zj_iconst (v := 1) hC dX7_open_18 (by decide) ?_
      refine zj_goto 23 hC dX7_open_19 (by decide) ?_
      exact zj_sub hC [] rfl (hJ23 1 a0 0 g6 hf)

def fY_X7_cover_22  (g : z_G) : Option (Int32 × z_G) := z_bo 0 (some (0, g))
def fY_X7_cover (a0 : Int32) (a1 : Int32) (a2 : Int32) (g : z_G) : Option (Int32 × z_G) := (if a2 < 0 then fY_X7_cover_22 g else (if 9 < a2 then fY_X7_cover_22 g else z_bind (fY_X2_isOutsideAt a0 a1 g) (fun r3 g4 => (if r3 = 0 then fY_X7_cover_22 g4 else z_bind (fY_X2_at a0 a1 g4) (fun r7 g8 => z_bind (fY_X7_workByHand 1 r7 a2 g8) (fun r10 g11 => z_bo r10 (some (r10, g11))))))))
theorem nY_X7_cover : yX7_cover.cls = RX7 ∧ yX7_cover.cls ≠ "java/lang/invoke/MethodHandle" ∧ yX7_cover.cls ≠ "java/lang/invoke/VarHandle" ∧ (parseMethodDescriptor yX7_cover.desc).map (fun d => d.parameters.length) = some 3 := by decide +kernel
set_option maxRecDepth 100000 in
set_option maxHeartbeats 4000000 in
theorem cY_X7_cover (l : Launch) (dC : Nat → ClassId) (dI : Nat → Nat → Nat) (ca : Nat → ClassId) (q : Nat → Nat) (tt : Nat → Nat) (a0 : Int32) (a1 : Int32) (a2 : Int32) (g : z_G) (r : Int32) (g' : z_G) (hf : fY_X7_cover a0 a1 a2 g = some (r, g')) : z_C l yX7_cover wsX7_cover { frames := 4, cells := 0, slots := 0, locals := 89 } (dC, dI) (tyY ca) (wY ca q) (zY tt) [.ref (q 0), .int a0, .int a1, .int a2] g (some r) g' := by
  refine z_enter (wY_ok ca q) (zY_ok tt) (by decide +kernel) rfl (Nat.le_of_ble_eq_true rfl) (fun J hC => ?_)
  have hC : z_Cx J l cX7_cover 4 wsX7_cover RX7 (some .boolean) { frames := 4, cells := 0, slots := 0, locals := 89 } (dC, dI) (tyY ca) (wY ca q) (zY tt) (z_QI (dC, dI) (tyY ca) (wY ca q) (some r) g') z_X0 := hC
  show J 0 [(0, .ref (q 0)), (1, .int a0), (2, .int a1), (3, .int a2)] [] g
  have hX7 : ∀ w ∈ wsX70, w ∈ wsX7_cover := fun _ h => List.mem_cons_of_mem _ (List.mem_append_left _ (List.mem_append_left _ (List.mem_append_left _ (List.mem_append_right _ (h)))))
  have hJ22 : ∀ (g : z_G), fY_X7_cover_22 g = some (r, g') → J 22 [] [] g := by
    intro g hf
    unfold fY_X7_cover_22 at hf
    refine zj_iconst (v := 0) hC dX7_cover_22 (by decide) ?_
    exact zj_zreturn hC hf dX7_cover_23
  unfold fY_X7_cover at hf
  refine zj_iload_n 3 hC dX7_cover_0 rfl ?_
  refine zj_if_lt 22 hC dX7_cover_1 (by decide) (fun c1 => ?_) (fun c1 => ?_)
  · have hf := z_iteT hf c1
    exact zj_sub hC [] rfl (hJ22 g hf)
  · have hf := z_iteF hf c1
    refine zj_iload_n 3 hC dX7_cover_4 rfl ?_
    refine zj_bipush (v := 9) hC dX7_cover_5 (by decide) ?_
    refine zj_icmp_gt 22 hC dX7_cover_7 (by decide) (fun c2 => ?_) (fun c2 => ?_)
    · have hf := z_iteT hf c2
      exact zj_sub hC [] rfl (hJ22 g hf)
    · have hf := z_iteF hf c2
      refine zj_aload_n 0 hC dX7_cover_10 rfl ?_
      refine yg_0_0 hC hX7 (List.mem_of_getElem? (i := 1) rfl) dX7_cover_11 ?_
      refine zj_iload_n 1 hC dX7_cover_14 rfl ?_
      refine zj_iload_n 2 hC dX7_cover_15 rfl ?_
      obtain ⟨r3, g4, hq5, hf⟩ := z_bindE hf
      refine zj_callVi [.int a0, .int a1] hC (cY_X2_isOutsideAt l dC dI ca q tt a0 a1 g r3 g4 hq5) gX7_cover_X2_isOutsideAt rfl nY_X2_isOutsideAt ⟨Nat.le_of_ble_eq_true rfl, Nat.le_of_ble_eq_true rfl⟩ 1 yo_1 rfl rfl rfl (Nat.le_of_ble_eq_true rfl) dX7_cover_16 rfl ?_
      refine zj_if_ne 24 hC dX7_cover_19 (by decide) (fun c6 => ?_) (fun c6 => ?_)
      · have hf := z_iteF hf c6
        refine zj_aload_n 0 hC dX7_cover_24 rfl ?_
        refine zj_iconst (v := 1) hC dX7_cover_25 (by decide) ?_
        refine zj_aload_n 0 hC dX7_cover_26 rfl ?_
        refine yg_0_0 hC hX7 (List.mem_of_getElem? (i := 1) rfl) dX7_cover_27 ?_
        refine zj_iload_n 1 hC dX7_cover_30 rfl ?_
        refine zj_iload_n 2 hC dX7_cover_31 rfl ?_
        obtain ⟨r7, g8, hq9, hf⟩ := z_bindE hf
        refine zj_callVi [.int a0, .int a1] hC (cY_X2_at l dC dI ca q tt a0 a1 g4 r7 g8 hq9) gX7_cover_X2_at rfl nY_X2_at ⟨Nat.le_of_ble_eq_true rfl, Nat.le_of_ble_eq_true rfl⟩ 1 yo_1 rfl rfl rfl (Nat.le_of_ble_eq_true rfl) dX7_cover_32 rfl ?_
        refine zj_iload_n 3 hC dX7_cover_35 rfl ?_
        obtain ⟨r10, g11, hq12, hf⟩ := z_bindE hf
        refine zj_callVi [.int 1, .int r7, .int a2] hC (cY_X7_workByHand l dC dI ca q tt 1 r7 a2 g8 r10 g11 hq12) gX7_cover_X7_workByHand rfl nY_X7_workByHand ⟨Nat.le_of_ble_eq_true rfl, Nat.le_of_ble_eq_true rfl⟩ 0 yo_0 rfl rfl rfl (Nat.le_of_ble_eq_true rfl) dX7_cover_36 rfl ?_
        exact zj_zreturn hC hf dX7_cover_39
      · have hf := z_iteT hf c6
        exact zj_sub hC [] rfl (hJ22 g4 hf)

def fY_X7_watch (a0 : Int32) (g : z_G) : Option (Int32 × z_G) := (if (g 0 7) = 0 then z_let (z_up g 0 8 (a0 &&& 16777215)) (fun g2 => z_bo 1 (some (1, g2))) else z_bo 0 (some (0, g)))
theorem nY_X7_watch : yX7_watch.cls = RX7 ∧ yX7_watch.cls ≠ "java/lang/invoke/MethodHandle" ∧ yX7_watch.cls ≠ "java/lang/invoke/VarHandle" ∧ (parseMethodDescriptor yX7_watch.desc).map (fun d => d.parameters.length) = some 1 := by decide +kernel
set_option maxRecDepth 100000 in
set_option maxHeartbeats 4000000 in
theorem cY_X7_watch (l : Launch) (dC : Nat → ClassId) (dI : Nat → Nat → Nat) (ca : Nat → ClassId) (q : Nat → Nat) (tt : Nat → Nat) (a0 : Int32) (g : z_G) (r : Int32) (g' : z_G) (hf : fY_X7_watch a0 g = some (r, g')) : z_C l yX7_watch wsX7_watch { frames := 0, cells := 0, slots := 0, locals := 0 } (dC, dI) (tyY ca) (wY ca q) (zY tt) [.ref (q 0), .int a0] g (some r) g' := by
  refine z_enter (wY_ok ca q) (zY_ok tt) (by decide +kernel) rfl (Nat.le_of_ble_eq_true rfl) (fun J hC => ?_)
  have hC : z_Cx J l cX7_watch 2 wsX7_watch RX7 (some .boolean) { frames := 0, cells := 0, slots := 0, locals := 0 } (dC, dI) (tyY ca) (wY ca q) (zY tt) (z_QI (dC, dI) (tyY ca) (wY ca q) (some r) g') z_X0 := hC
  show J 0 [(0, .ref (q 0)), (1, .int a0)] [] g
  have hX7 : ∀ w ∈ wsX70, w ∈ wsX7_watch := fun _ h => List.mem_cons_of_mem _ (List.mem_append_right _ (h))
  unfold fY_X7_watch at hf
  refine zj_aload_n 0 hC dX7_watch_0 rfl ?_
  refine yg_0_7 hC hX7 (List.mem_of_getElem? (i := 1) rfl) dX7_watch_1 ?_
  refine zj_if_eq 9 hC dX7_watch_4 (by decide) (fun c1 => ?_) (fun c1 => ?_)
  · have hf := z_iteT hf c1
    refine zj_aload_n 0 hC dX7_watch_9 rfl ?_
    refine zj_iload_n 1 hC dX7_watch_10 rfl ?_
    refine zj_ldc (v := 16777215) hC (List.mem_of_getElem? (i := 2) rfl) dX7_watch_11 ?_
    refine zj_iand hC dX7_watch_13 ?_
    refine yp_0_8 hC hX7 (List.mem_of_getElem? (i := 3) rfl) dX7_watch_14 (fun g2 eg2 => ?_)
    have hf := z_letE hf eg2
    refine zj_iconst (v := 1) hC dX7_watch_17 (by decide) ?_
    exact zj_zreturn hC hf dX7_watch_18
  · have hf := z_iteF hf c1
    refine zj_iconst (v := 0) hC dX7_watch_7 (by decide) ?_
    exact zj_zreturn hC hf dX7_watch_8

def fY_X7_isWeather_24 (s0 : Int32) (g : z_G) : Option (Int32 × z_G) := z_bo s0 (some (s0, g))
def fY_X7_isWeather_23  (g : z_G) : Option (Int32 × z_G) := fY_X7_isWeather_24 0 g
def fY_X7_isWeather (a0 : Int32) (a1 : Int32) (g : z_G) : Option (Int32 × z_G) := (if a0 < 0 then fY_X7_isWeather_23 g else (if 9 < a0 then fY_X7_isWeather_23 g else (if a1 < 0 then fY_X7_isWeather_23 g else (if 3 < a1 then fY_X7_isWeather_23 g else fY_X7_isWeather_24 1 g))))
theorem nY_X7_isWeather : yX7_isWeather.cls ≠ "java/lang/invoke/MethodHandle" ∧ yX7_isWeather.cls ≠ "java/lang/invoke/VarHandle" ∧ (parseMethodDescriptor yX7_isWeather.desc).map (fun d => d.parameters.length) = some 2 := by decide +kernel
set_option maxRecDepth 100000 in
set_option maxHeartbeats 4000000 in
theorem cY_X7_isWeather (l : Launch) (dC : Nat → ClassId) (dI : Nat → Nat → Nat) (ca : Nat → ClassId) (q : Nat → Nat) (tt : Nat → Nat) (a0 : Int32) (a1 : Int32) (g : z_G) (r : Int32) (g' : z_G) (hf : fY_X7_isWeather a0 a1 g = some (r, g')) : z_C l yX7_isWeather wsX7_isWeather { frames := 0, cells := 0, slots := 0, locals := 0 } (dC, dI) (tyY ca) (wY ca q) (zY tt) [.int a0, .int a1] g (some r) g' := by
  refine z_enter (wY_ok ca q) (zY_ok tt) (by decide +kernel) rfl (Nat.le_of_ble_eq_true rfl) (fun J hC => ?_)
  have hC : z_Cx J l cX7_isWeather 2 wsX7_isWeather RX7 (some .boolean) { frames := 0, cells := 0, slots := 0, locals := 0 } (dC, dI) (tyY ca) (wY ca q) (zY tt) (z_QI (dC, dI) (tyY ca) (wY ca q) (some r) g') z_X0 := hC
  show J 0 [(0, .int a0), (1, .int a1)] [] g
  have hJ24 : ∀ (s0 : Int32) (g : z_G), fY_X7_isWeather_24 s0 g = some (r, g') → J 24 [] [.int s0] g := by
    intro s0 g hf
    unfold fY_X7_isWeather_24 at hf
    exact zj_zreturn hC hf dX7_isWeather_24
  have hJ23 : ∀ (g : z_G), fY_X7_isWeather_23 g = some (r, g') → J 23 [] [] g := by
    intro g hf
    unfold fY_X7_isWeather_23 at hf
    refine zj_iconst (v := 0) hC dX7_isWeather_23 (by decide) ?_
    exact (hJ24 0 g hf)
  unfold fY_X7_isWeather at hf
  refine zj_iload_n 0 hC dX7_isWeather_0 rfl ?_
  refine zj_if_lt 23 hC dX7_isWeather_1 (by decide) (fun c1 => ?_) (fun c1 => ?_)
  · have hf := z_iteT hf c1
    exact zj_sub hC [] rfl (hJ23 g hf)
  · have hf := z_iteF hf c1
    refine zj_iload_n 0 hC dX7_isWeather_4 rfl ?_
    refine zj_bipush (v := 9) hC dX7_isWeather_5 (by decide) ?_
    refine zj_icmp_gt 23 hC dX7_isWeather_7 (by decide) (fun c2 => ?_) (fun c2 => ?_)
    · have hf := z_iteT hf c2
      exact zj_sub hC [] rfl (hJ23 g hf)
    · have hf := z_iteF hf c2
      refine zj_iload_n 1 hC dX7_isWeather_10 rfl ?_
      refine zj_if_lt 23 hC dX7_isWeather_11 (by decide) (fun c3 => ?_) (fun c3 => ?_)
      · have hf := z_iteT hf c3
        exact zj_sub hC [] rfl (hJ23 g hf)
      · have hf := z_iteF hf c3
        refine zj_iload_n 1 hC dX7_isWeather_14 rfl ?_
        refine zj_iconst (v := 3) hC dX7_isWeather_15 (by decide) ?_
        refine zj_icmp_gt 23 hC dX7_isWeather_16 (by decide) (fun c4 => ?_) (fun c4 => ?_)
        · have hf := z_iteT hf c4
          exact zj_sub hC [] rfl (hJ23 g hf)
        · have hf := z_iteF hf c4
          refine zj_iconst (v := 1) hC dX7_isWeather_19 (by decide) ?_
          refine zj_goto 24 hC dX7_isWeather_20 (by decide) ?_
          exact zj_sub hC [] rfl (hJ24 1 g hf)

def fY_X7_look_98 (s0 : Int32) (s1 : Int32) (x3 : Int32) (g : z_G) : Option (Int32 × z_G) := z_bind (fY_X4_see s1 s0 g) (fun r1 g2 => z_bind (fY_X4_see 3 x3 g2) (fun r4 g5 => some (0, g5)))
def fY_X7_look_66 (s0 : Int32) (s1 : Int32) (x3 : Int32) (x4 : Int32) (g : z_G) : Option (Int32 × z_G) := z_bind (fY_X4_see s1 s0 g) (fun r7 g8 => (if x4 = 0 then fY_X7_look_98 0 2 x3 g8 else z_bind (fY_X2_thinnest g8) (fun r11 g12 => z_ck r11 64 (fY_X7_look_98 (g12 15 (Int32.toNatClampNeg r11)) 2 x3 g12))))
def fY_X7_look_47 (s0 : Int32) (s1 : Int32) (x2 : Int32) (x3 : Int32) (x4 : Int32) (g : z_G) : Option (Int32 × z_G) := z_bind (fY_X4_see s1 s0 g) (fun r15 g16 => (if x4 = 0 then fY_X7_look_66 99 1 x3 x4 g16 else fY_X7_look_66 x2 1 x3 x4 g16))
def fY_X7_look_28 (s0 : Int32) (x1 : Int32) (x2 : Int32) (x3 : Int32) (g : z_G) : Option (Int32 × z_G) := (if s0 = 0 then fY_X7_look_47 9999 0 x2 x3 s0 g else fY_X7_look_47 x1 0 x2 x3 s0 g)
def fY_X7_look (a0 : Int32) (a1 : Int32) (g : z_G) : Option (Int32 × z_G) := z_let (g 3 0) (fun y20 => (if (((g 0 8) >>> ((y20 - y20 / 24 * 24) &&& 31)) &&& 1) = 1 then fY_X7_look_28 1 a0 a1 y20 g else fY_X7_look_28 0 a0 a1 y20 g))
theorem nY_X7_look : yX7_look.cls = RX7 ∧ yX7_look.cls ≠ "java/lang/invoke/MethodHandle" ∧ yX7_look.cls ≠ "java/lang/invoke/VarHandle" ∧ (parseMethodDescriptor yX7_look.desc).map (fun d => d.parameters.length) = some 2 := by decide +kernel
set_option maxRecDepth 100000 in
set_option maxHeartbeats 4000000 in
theorem cY_X7_look (l : Launch) (dC : Nat → ClassId) (dI : Nat → Nat → Nat) (ca : Nat → ClassId) (q : Nat → Nat) (tt : Nat → Nat) (a0 : Int32) (a1 : Int32) (g : z_G) (r : Int32) (g' : z_G) (hf : fY_X7_look a0 a1 g = some (r, g')) : z_C l yX7_look wsX7_look { frames := 1, cells := 0, slots := 0, locals := 22 } (dC, dI) (tyY ca) (wY ca q) (zY tt) [.ref (q 0), .int a0, .int a1] g none g' := by
  refine z_enter (wY_ok ca q) (zY_ok tt) (by decide +kernel) rfl (Nat.le_of_ble_eq_true rfl) (fun J hC => ?_)
  have hC : z_Cx J l cX7_look 5 wsX7_look RX7 none { frames := 1, cells := 0, slots := 0, locals := 22 } (dC, dI) (tyY ca) (wY ca q) (zY tt) (z_QI (dC, dI) (tyY ca) (wY ca q) none g') z_X0 := hC
  show J 0 [(0, .ref (q 0)), (1, .int a0), (2, .int a1)] [] g
  have hX0 : ∀ w ∈ wsX00, w ∈ wsX7_look := fun _ h => List.mem_cons_of_mem _ (List.mem_append_left _ (List.mem_append_left _ (List.mem_append_right _ (h))))
  have hX2 : ∀ w ∈ wsX20, w ∈ wsX7_look := fun _ h => List.mem_cons_of_mem _ (List.mem_append_left _ (List.mem_append_right _ (h)))
  have hX7 : ∀ w ∈ wsX70, w ∈ wsX7_look := fun _ h => List.mem_cons_of_mem _ (List.mem_append_left _ (List.mem_append_left _ (List.mem_append_left _ (List.mem_append_right _ (h)))))
  have hJ98 : ∀ (s0 : Int32) (s1 : Int32) (x3 : Int32) (g : z_G), fY_X7_look_98 s0 s1 x3 g = some (r, g') → J 98 [(0, .ref (q 0)), (3, .int x3)] [.int s0, .int s1, .ref (q 5)] g := by
    intro s0 s1 x3 g hf
    unfold fY_X7_look_98 at hf
    obtain ⟨r1, g2, hq3, hf⟩ := z_bindE hf
    refine zj_callVv [.int s1, .int s0] hC (cY_X4_see l dC dI ca q tt s1 s0 g r1 g2 hq3) gX7_look_X4_see rfl nY_X4_see ⟨Nat.le_of_ble_eq_true rfl, Nat.le_of_ble_eq_true rfl⟩ 5 yo_5 rfl rfl rfl (Nat.le_of_ble_eq_true rfl) dX7_look_98 rfl ?_
    refine zj_aload_n 0 hC dX7_look_101 rfl ?_
    refine yg_0_4 hC hX7 (List.mem_of_getElem? (i := 4) rfl) dX7_look_102 ?_
    refine zj_iconst (v := 3) hC dX7_look_105 (by decide) ?_
    refine zj_iload_n 1 hC dX7_look_106 rfl ?_
    obtain ⟨r4, g5, hq6, hf⟩ := z_bindE hf
    refine zj_callVv [.int 3, .int x3] hC (cY_X4_see l dC dI ca q tt 3 x3 g2 r4 g5 hq6) gX7_look_X4_see rfl nY_X4_see ⟨Nat.le_of_ble_eq_true rfl, Nat.le_of_ble_eq_true rfl⟩ 5 yo_5 rfl rfl rfl (Nat.le_of_ble_eq_true rfl) dX7_look_107 rfl ?_
    exact zj_vreturn hC hf dX7_look_110
  have hJ66 : ∀ (s0 : Int32) (s1 : Int32) (x3 : Int32) (x4 : Int32) (g : z_G), fY_X7_look_66 s0 s1 x3 x4 g = some (r, g') → J 66 [(0, .ref (q 0)), (3, .int x3), (4, .int x4)] [.int s0, .int s1, .ref (q 5)] g := by
    intro s0 s1 x3 x4 g hf
    unfold fY_X7_look_66 at hf
    obtain ⟨r7, g8, hq9, hf⟩ := z_bindE hf
    refine zj_callVv [.int s1, .int s0] hC (cY_X4_see l dC dI ca q tt s1 s0 g r7 g8 hq9) gX7_look_X4_see rfl nY_X4_see ⟨Nat.le_of_ble_eq_true rfl, Nat.le_of_ble_eq_true rfl⟩ 5 yo_5 rfl rfl rfl (Nat.le_of_ble_eq_true rfl) dX7_look_66 rfl ?_
    refine zj_aload_n 0 hC dX7_look_69 rfl ?_
    refine yg_0_4 hC hX7 (List.mem_of_getElem? (i := 4) rfl) dX7_look_70 ?_
    refine zj_iconst (v := 2) hC dX7_look_73 (by decide) ?_
    refine zj_iload 2 hC dX7_look_74 rfl ?_
    refine zj_if_eq 97 hC dX7_look_76 (by decide) (fun c10 => ?_) (fun c10 => ?_)
    · have hf := z_iteT hf c10
      refine zj_iconst (v := 0) hC dX7_look_97 (by decide) ?_
      exact zj_sub hC [0, 1] rfl (hJ98 0 2 x3 g8 hf)
    · have hf := z_iteF hf c10
      refine zj_aload_n 0 hC dX7_look_79 rfl ?_
      refine yg_0_0 hC hX7 (List.mem_of_getElem? (i := 5) rfl) dX7_look_80 ?_
      refine yg_1_12 hC hX2 (List.mem_of_getElem? (i := 6) rfl) dX7_look_83 ?_
      refine zj_aload_n 0 hC dX7_look_86 rfl ?_
      refine yg_0_0 hC hX7 (List.mem_of_getElem? (i := 5) rfl) dX7_look_87 ?_
      obtain ⟨r11, g12, hq13, hf⟩ := z_bindE hf
      refine zj_callVi [] hC (cY_X2_thinnest l dC dI ca q tt g8 r11 g12 hq13) gX7_look_X2_thinnest rfl nY_X2_thinnest ⟨Nat.le_of_ble_eq_true rfl, Nat.le_of_ble_eq_true rfl⟩ 1 yo_1 rfl rfl rfl (Nat.le_of_ble_eq_true rfl) dX7_look_90 rfl ?_
      obtain ⟨hq14, hf⟩ := z_ckE hf
      refine ya_15 hC hq14 dX7_look_93 ?_
      refine zj_goto 98 hC dX7_look_94 (by decide) ?_
      exact zj_sub hC [0, 1] rfl (hJ98 (g12 15 (Int32.toNatClampNeg r11)) 2 x3 g12 hf)
  have hJ47 : ∀ (s0 : Int32) (s1 : Int32) (x2 : Int32) (x3 : Int32) (x4 : Int32) (g : z_G), fY_X7_look_47 s0 s1 x2 x3 x4 g = some (r, g') → J 47 [(0, .ref (q 0)), (2, .int x2), (3, .int x3), (4, .int x4)] [.int s0, .int s1, .ref (q 5)] g := by
    intro s0 s1 x2 x3 x4 g hf
    unfold fY_X7_look_47 at hf
    obtain ⟨r15, g16, hq17, hf⟩ := z_bindE hf
    refine zj_callVv [.int s1, .int s0] hC (cY_X4_see l dC dI ca q tt s1 s0 g r15 g16 hq17) gX7_look_X4_see rfl nY_X4_see ⟨Nat.le_of_ble_eq_true rfl, Nat.le_of_ble_eq_true rfl⟩ 5 yo_5 rfl rfl rfl (Nat.le_of_ble_eq_true rfl) dX7_look_47 rfl ?_
    refine zj_aload_n 0 hC dX7_look_50 rfl ?_
    refine yg_0_4 hC hX7 (List.mem_of_getElem? (i := 4) rfl) dX7_look_51 ?_
    refine zj_iconst (v := 1) hC dX7_look_54 (by decide) ?_
    refine zj_iload 3 hC dX7_look_55 rfl ?_
    refine zj_if_eq 64 hC dX7_look_57 (by decide) (fun c18 => ?_) (fun c18 => ?_)
    · have hf := z_iteT hf c18
      refine zj_bipush (v := 99) hC dX7_look_64 (by decide) ?_
      exact zj_sub hC [0, 2, 3] rfl (hJ66 99 1 x3 x4 g16 hf)
    · have hf := z_iteF hf c18
      refine zj_iload_n 1 hC dX7_look_60 rfl ?_
      refine zj_goto 66 hC dX7_look_61 (by decide) ?_
      exact zj_sub hC [0, 2, 3] rfl (hJ66 x2 1 x3 x4 g16 hf)
  have hJ28 : ∀ (s0 : Int32) (x1 : Int32) (x2 : Int32) (x3 : Int32) (g : z_G), fY_X7_look_28 s0 x1 x2 x3 g = some (r, g') → J 28 [(0, .ref (q 0)), (1, .int x1), (2, .int x2), (3, .int x3)] [.int s0] g := by
    intro s0 x1 x2 x3 g hf
    unfold fY_X7_look_28 at hf
    refine zj_istore (lv1 := [(4, .int s0), (0, .ref (q 0)), (1, .int x1), (2, .int x2), (3, .int x3)]) hC dX7_look_28 (by decide) rfl ?_
    refine zj_aload_n 1 hC dX7_look_30 rfl ?_
    refine yg_0_4 hC hX7 (List.mem_of_getElem? (i := 4) rfl) dX7_look_31 ?_
    refine zj_iconst (v := 0) hC dX7_look_34 (by decide) ?_
    refine zj_iload 0 hC dX7_look_35 rfl ?_
    refine zj_if_eq 44 hC dX7_look_37 (by decide) (fun c19 => ?_) (fun c19 => ?_)
    · have hf := z_iteT hf c19
      refine zj_sipush (v := 9999) hC dX7_look_44 (by decide) ?_
      exact zj_sub hC [1, 3, 4, 0] rfl (hJ47 9999 0 x2 x3 s0 g hf)
    · have hf := z_iteF hf c19
      refine zj_iload_n 2 hC dX7_look_40 rfl ?_
      refine zj_goto 47 hC dX7_look_41 (by decide) ?_
      exact zj_sub hC [1, 3, 4, 0] rfl (hJ47 x1 0 x2 x3 s0 g hf)
  unfold fY_X7_look at hf
  refine zj_aload_n 0 hC dX7_look_0 rfl ?_
  refine yg_0_2 hC hX7 (List.mem_of_getElem? (i := 1) rfl) dX7_look_1 ?_
  refine yg_3_0 hC hX0 (List.mem_of_getElem? (i := 2) rfl) dX7_look_4 ?_
  refine zj_top (fun y20 ey20 => ?_)
  have hf := z_letE hf ey20
  refine zj_istore_n (lv1 := [(3, .int y20), (0, .ref (q 0)), (1, .int a0), (2, .int a1)]) hC dX7_look_7 (by decide) rfl ?_
  refine zj_aload_n 1 hC dX7_look_8 rfl ?_
  refine yg_0_8 hC hX7 (List.mem_of_getElem? (i := 3) rfl) dX7_look_9 ?_
  refine zj_iload_n 0 hC dX7_look_12 rfl ?_
  refine zj_bipush (v := 24) hC dX7_look_13 (by decide) ?_
  refine zj_irem hC dX7_look_15 (by decide) ?_
  refine zj_ishr hC dX7_look_16 ?_
  refine zj_iconst (v := 1) hC dX7_look_17 (by decide) ?_
  refine zj_iand hC dX7_look_18 ?_
  refine zj_iconst (v := 1) hC dX7_look_19 (by decide) ?_
  refine zj_icmp_ne 27 hC dX7_look_20 (by decide) (fun c21 => ?_) (fun c21 => ?_)
  · have hf := z_iteF hf c21
    refine zj_iconst (v := 0) hC dX7_look_27 (by decide) ?_
    exact zj_sub hC [1, 2, 3, 0] rfl (hJ28 0 a0 a1 y20 g hf)
  · have hf := z_iteT hf c21
    refine zj_iconst (v := 1) hC dX7_look_23 (by decide) ?_
    refine zj_goto 28 hC dX7_look_24 (by decide) ?_
    exact zj_sub hC [1, 2, 3, 0] rfl (hJ28 1 a0 a1 y20 g hf)

def fY_X7_actBy_101  (g : z_G) : Option (Int32 × z_G) := some (0, g)
def fY_X7_actBy (a0 : Int32) (g : z_G) : Option (Int32 × z_G) := z_ck a0 8 ((if (g 36 (Int32.toNatClampNeg a0)) = 43 then z_ck a0 8 (z_bind (fY_X1_turn (g 37 (Int32.toNatClampNeg a0)) 1 g) (fun r4 g5 => fY_X7_actBy_101 g5)) else (if (g 36 (Int32.toNatClampNeg a0)) = 45 then z_ck a0 8 (z_bind (fY_X1_turn (g 37 (Int32.toNatClampNeg a0)) 0 g) (fun r9 g10 => fY_X7_actBy_101 g10)) else (if (g 36 (Int32.toNatClampNeg a0)) = 94 then z_bind (fY_X2_mend g) (fun r13 g14 => fY_X7_actBy_101 g14) else z_bind (fY_X1_shutAll g) (fun r16 g17 => fY_X7_actBy_101 g17)))))
theorem nY_X7_actBy : yX7_actBy.cls = RX7 ∧ yX7_actBy.cls ≠ "java/lang/invoke/MethodHandle" ∧ yX7_actBy.cls ≠ "java/lang/invoke/VarHandle" ∧ (parseMethodDescriptor yX7_actBy.desc).map (fun d => d.parameters.length) = some 1 := by decide +kernel
set_option maxRecDepth 100000 in
set_option maxHeartbeats 4000000 in
theorem cY_X7_actBy (l : Launch) (dC : Nat → ClassId) (dI : Nat → Nat → Nat) (ca : Nat → ClassId) (q : Nat → Nat) (tt : Nat → Nat) (a0 : Int32) (g : z_G) (r : Int32) (g' : z_G) (hf : fY_X7_actBy a0 g = some (r, g')) : z_C l yX7_actBy wsX7_actBy { frames := 2, cells := 0, slots := 0, locals := 43 } (dC, dI) (tyY ca) (wY ca q) (zY tt) [.ref (q 0), .int a0] g none g' := by
  refine z_enter (wY_ok ca q) (zY_ok tt) (by decide +kernel) rfl (Nat.le_of_ble_eq_true rfl) (fun J hC => ?_)
  have hC : z_Cx J l cX7_actBy 2 wsX7_actBy RX7 none { frames := 2, cells := 0, slots := 0, locals := 43 } (dC, dI) (tyY ca) (wY ca q) (zY tt) (z_QI (dC, dI) (tyY ca) (wY ca q) none g') z_X0 := hC
  show J 0 [(0, .ref (q 0)), (1, .int a0)] [] g
  have hX4 : ∀ w ∈ wsX40, w ∈ wsX7_actBy := fun _ h => List.mem_cons_of_mem _ (List.mem_append_left _ (List.mem_append_left _ (List.mem_append_right _ (h))))
  have hX7 : ∀ w ∈ wsX70, w ∈ wsX7_actBy := fun _ h => List.mem_cons_of_mem _ (List.mem_append_left _ (List.mem_append_left _ (List.mem_append_left _ (List.mem_append_right _ (h)))))
  have hJ101 : ∀ (g : z_G), fY_X7_actBy_101 g = some (r, g') → J 101 [] [] g := by
    intro g hf
    unfold fY_X7_actBy_101 at hf
    exact zj_vreturn hC hf dX7_actBy_101
  unfold fY_X7_actBy at hf
  refine zj_aload_n 0 hC dX7_actBy_0 rfl ?_
  refine yg_0_4 hC hX7 (List.mem_of_getElem? (i := 1) rfl) dX7_actBy_1 ?_
  refine yg_5_1 hC hX4 (List.mem_of_getElem? (i := 2) rfl) dX7_actBy_4 ?_
  refine zj_iload_n 1 hC dX7_actBy_7 rfl ?_
  obtain ⟨hq1, hf⟩ := z_ckE hf
  refine ya_36 hC hq1 dX7_actBy_8 ?_
  by_cases c2 : (g 36 (Int32.toNatClampNeg a0)) = 43
  · have hf := z_iteT hf c2
    refine zj_lookup (off := 35) 44 hC dX7_actBy_9 (by decide) (by show Op.lookupswitch.offset [(43, 35), (45, 55), (94, 75)] 85 _ = 35; rw [c2]; rfl) (by decide) ?_
    refine zj_aload_n 0 hC dX7_actBy_44 rfl ?_
    refine yg_0_1 hC hX7 (List.mem_of_getElem? (i := 3) rfl) dX7_actBy_45 ?_
    refine zj_aload_n 0 hC dX7_actBy_48 rfl ?_
    refine yg_0_4 hC hX7 (List.mem_of_getElem? (i := 1) rfl) dX7_actBy_49 ?_
    refine yg_5_2 hC hX4 (List.mem_of_getElem? (i := 4) rfl) dX7_actBy_52 ?_
    refine zj_iload_n 1 hC dX7_actBy_55 rfl ?_
    obtain ⟨hq3, hf⟩ := z_ckE hf
    refine ya_37 hC hq3 dX7_actBy_56 ?_
    refine zj_iconst (v := 1) hC dX7_actBy_57 (by decide) ?_
    obtain ⟨r4, g5, hq6, hf⟩ := z_bindE hf
    refine zj_callVv [.int (g 37 (Int32.toNatClampNeg a0)), .int 1] hC (cY_X1_turn l dC dI ca q tt (g 37 (Int32.toNatClampNeg a0)) 1 g r4 g5 hq6) gX7_actBy_X1_turn rfl nY_X1_turn ⟨Nat.le_of_ble_eq_true rfl, Nat.le_of_ble_eq_true rfl⟩ 2 yo_2 rfl rfl rfl (Nat.le_of_ble_eq_true rfl) dX7_actBy_58 rfl ?_
    refine zj_goto 101 hC dX7_actBy_61 (by decide) ?_
    exact zj_sub hC [] rfl (hJ101 g5 hf)
  have hf := z_iteF hf c2
  by_cases c7 : (g 36 (Int32.toNatClampNeg a0)) = 45
  · have hf := z_iteT hf c7
    refine zj_lookup (off := 55) 64 hC dX7_actBy_9 (by decide) (by show Op.lookupswitch.offset [(43, 35), (45, 55), (94, 75)] 85 _ = 55; rw [lv_osw (a := 43) c2 (by decide)]; rw [c7]; rfl) (by decide) ?_
    refine zj_aload_n 0 hC dX7_actBy_64 rfl ?_
    refine yg_0_1 hC hX7 (List.mem_of_getElem? (i := 3) rfl) dX7_actBy_65 ?_
    refine zj_aload_n 0 hC dX7_actBy_68 rfl ?_
    refine yg_0_4 hC hX7 (List.mem_of_getElem? (i := 1) rfl) dX7_actBy_69 ?_
    refine yg_5_2 hC hX4 (List.mem_of_getElem? (i := 4) rfl) dX7_actBy_72 ?_
    refine zj_iload_n 1 hC dX7_actBy_75 rfl ?_
    obtain ⟨hq8, hf⟩ := z_ckE hf
    refine ya_37 hC hq8 dX7_actBy_76 ?_
    refine zj_iconst (v := 0) hC dX7_actBy_77 (by decide) ?_
    obtain ⟨r9, g10, hq11, hf⟩ := z_bindE hf
    refine zj_callVv [.int (g 37 (Int32.toNatClampNeg a0)), .int 0] hC (cY_X1_turn l dC dI ca q tt (g 37 (Int32.toNatClampNeg a0)) 0 g r9 g10 hq11) gX7_actBy_X1_turn rfl nY_X1_turn ⟨Nat.le_of_ble_eq_true rfl, Nat.le_of_ble_eq_true rfl⟩ 2 yo_2 rfl rfl rfl (Nat.le_of_ble_eq_true rfl) dX7_actBy_78 rfl ?_
    refine zj_goto 101 hC dX7_actBy_81 (by decide) ?_
    exact zj_sub hC [] rfl (hJ101 g10 hf)
  have hf := z_iteF hf c7
  by_cases c12 : (g 36 (Int32.toNatClampNeg a0)) = 94
  · have hf := z_iteT hf c12
    refine zj_lookup (off := 75) 84 hC dX7_actBy_9 (by decide) (by show Op.lookupswitch.offset [(43, 35), (45, 55), (94, 75)] 85 _ = 75; rw [lv_osw (a := 43) c2 (by decide)]; rw [lv_osw (a := 45) c7 (by decide)]; rw [c12]; rfl) (by decide) ?_
    refine zj_aload_n 0 hC dX7_actBy_84 rfl ?_
    refine yg_0_0 hC hX7 (List.mem_of_getElem? (i := 5) rfl) dX7_actBy_85 ?_
    obtain ⟨r13, g14, hq15, hf⟩ := z_bindE hf
    refine zj_callVv [] hC (cY_X2_mend l dC dI ca q tt g r13 g14 hq15) gX7_actBy_X2_mend rfl nY_X2_mend ⟨Nat.le_of_ble_eq_true rfl, Nat.le_of_ble_eq_true rfl⟩ 1 yo_1 rfl rfl rfl (Nat.le_of_ble_eq_true rfl) dX7_actBy_88 rfl ?_
    refine zj_goto 101 hC dX7_actBy_91 (by decide) ?_
    exact zj_sub hC [] rfl (hJ101 g14 hf)
  have hf := z_iteF hf c12
  refine zj_lookup (off := 85) 94 hC dX7_actBy_9 (by decide) (by show Op.lookupswitch.offset [(43, 35), (45, 55), (94, 75)] 85 _ = 85; rw [lv_osw (a := 43) c2 (by decide)]; rw [lv_osw (a := 45) c7 (by decide)]; rw [lv_osw (a := 94) c12 (by decide)]; rfl) (by decide) ?_
  refine zj_aload_n 0 hC dX7_actBy_94 rfl ?_
  refine yg_0_1 hC hX7 (List.mem_of_getElem? (i := 3) rfl) dX7_actBy_95 ?_
  obtain ⟨r16, g17, hq18, hf⟩ := z_bindE hf
  refine zj_callVv [] hC (cY_X1_shutAll l dC dI ca q tt g r16 g17 hq18) gX7_actBy_X1_shutAll rfl nY_X1_shutAll ⟨Nat.le_of_ble_eq_true rfl, Nat.le_of_ble_eq_true rfl⟩ 2 yo_2 rfl rfl rfl (Nat.le_of_ble_eq_true rfl) dX7_actBy_98 rfl ?_
  exact zj_sub hC [] rfl (hJ101 g17 hf)

def fY_X7_actByRules_59 (k4 : Int32 × Int32 × z_G → Option (Int32 × z_G)) (x1 : Int32) (x2 : Int32) (g : z_G) : Option (Int32 × z_G) := z_let (x2 + 1) (fun y1 => k4 (x1, y1, g))
def fY_X7_actByRules_4 (k4 : Int32 × Int32 × z_G → Option (Int32 × z_G)) (x1 : Int32) (x2 : Int32) (g : z_G) : Option (Int32 × z_G) := (if (g 5 0) ≤ x2 then some (x1, g) else z_bind (fY_X1_countOpen g) (fun r3 g4 => z_bind (fY_X4_see 4 r3 g4) (fun r6 g7 => z_bind (fY_X4_holdsAt x2 (g7 3 0) g7) (fun r9 g10 => (if r9 = 0 then fY_X7_actByRules_59 k4 x1 x2 g10 else z_bind (fY_X7_actBy x2 g10) (fun r13 g14 => z_let (x1 ||| (1 <<< (x2 &&& 31))) (fun y16 => fY_X7_actByRules_59 k4 y16 x2 g14)))))))
def fY_X7_actByRules_4_go (x1 : Int32) (x2 : Int32) (g : z_G) : Option (Int32 × z_G) := z_loop (fun k (w : Int32 × Int32 × z_G) => fY_X7_actByRules_4 k w.1 w.2.1 w.2.2) z_fuel (x1, x2, g)
def fY_X7_actByRules (g : z_G) : Option (Int32 × z_G) := fY_X7_actByRules_4_go 0 0 g
theorem nY_X7_actByRules : yX7_actByRules.cls = RX7 ∧ yX7_actByRules.cls ≠ "java/lang/invoke/MethodHandle" ∧ yX7_actByRules.cls ≠ "java/lang/invoke/VarHandle" ∧ (parseMethodDescriptor yX7_actByRules.desc).map (fun d => d.parameters.length) = some 0 := by decide +kernel
set_option maxRecDepth 100000 in
set_option maxHeartbeats 4000000 in
theorem cY_X7_actByRules (l : Launch) (dC : Nat → ClassId) (dI : Nat → Nat → Nat) (ca : Nat → ClassId) (q : Nat → Nat) (tt : Nat → Nat) (g : z_G) (r : Int32) (g' : z_G) (hf : fY_X7_actByRules g = some (r, g')) : z_C l yX7_actByRules wsX7_actByRules { frames := 3, cells := 0, slots := 0, locals := 64 } (dC, dI) (tyY ca) (wY ca q) (zY tt) [.ref (q 0)] g (some r) g' := by
  refine z_enter (wY_ok ca q) (zY_ok tt) (by decide +kernel) rfl (Nat.le_of_ble_eq_true rfl) (fun J hC => ?_)
  have hC : z_Cx J l cX7_actByRules 3 wsX7_actByRules RX7 (some .int) { frames := 3, cells := 0, slots := 0, locals := 64 } (dC, dI) (tyY ca) (wY ca q) (zY tt) (z_QI (dC, dI) (tyY ca) (wY ca q) (some r) g') z_X0 := hC
  show J 0 [(0, .ref (q 0))] [] g
  have hX0 : ∀ w ∈ wsX00, w ∈ wsX7_actByRules := fun _ h => List.mem_cons_of_mem _ (List.mem_append_left _ (List.mem_append_left _ (List.mem_append_right _ (h))))
  have hX4 : ∀ w ∈ wsX40, w ∈ wsX7_actByRules := fun _ h => List.mem_cons_of_mem _ (List.mem_append_left _ (List.mem_append_left _ (List.mem_append_left _ (List.mem_append_right _ (h)))))
  have hX7 : ∀ w ∈ wsX70, w ∈ wsX7_actByRules := fun _ h => List.mem_cons_of_mem _ (List.mem_append_left _ (List.mem_append_left _ (List.mem_append_left _ (List.mem_append_left _ (List.mem_append_right _ (h))))))
  have hJ59 : ∀ (k4 : Int32 × Int32 × z_G → Option (Int32 × z_G)) (_ : ∀ w : Int32 × Int32 × z_G, k4 w = some (r, g') → J 4 [(0, .ref (q 0)), (1, .int w.1), (2, .int w.2.1)] [] w.2.2) (x1 : Int32) (x2 : Int32) (g : z_G), fY_X7_actByRules_59 k4 x1 x2 g = some (r, g') → J 59 [(0, .ref (q 0)), (1, .int x1), (2, .int x2)] [] g := by
    intro k4 hk4 x1 x2 g hf
    unfold fY_X7_actByRules_59 at hf
    refine zj_iinc (lv1 := fun v => [(2, .int v), (0, .ref (q 0)), (1, .int x1)]) 2 hC dX7_actByRules_59 rfl (by decide) (fun _ => rfl) (fun y1 ey1 => ?_)
    have hf := z_letE hf (show y1 = x2 + 1 from ey1)
    refine zj_goto 4 hC dX7_actByRules_62 (by decide) ?_
    exact zj_sub hC [1, 2, 0] rfl (hk4 (x1, y1, g) hf)
  have hJ4 : ∀ (x1 : Int32) (x2 : Int32) (g : z_G), fY_X7_actByRules_4_go x1 x2 g = some (r, g') → J 4 [(0, .ref (q 0)), (1, .int x1), (2, .int x2)] [] g := by
    intro x1 x2 g hf
    refine z_loopE (P := fun w : Int32 × Int32 × z_G => J 4 [(0, .ref (q 0)), (1, .int w.1), (2, .int w.2.1)] [] w.2.2) (fun k4 hk4 w hf => ?_) z_fuel (x1, x2, g) hf
    obtain ⟨x1, x2, g⟩ := w
    have hf : fY_X7_actByRules_4 k4 x1 x2 g = some (r, g') := hf
    show J 4 [(0, .ref (q 0)), (1, .int x1), (2, .int x2)] [] g
    unfold fY_X7_actByRules_4 at hf
    refine zj_iload_n 2 hC dX7_actByRules_4 rfl ?_
    refine zj_aload_n 0 hC dX7_actByRules_5 rfl ?_
    refine yg_0_4 hC hX7 (List.mem_of_getElem? (i := 1) rfl) dX7_actByRules_6 ?_
    refine yg_5_0 hC hX4 (List.mem_of_getElem? (i := 2) rfl) dX7_actByRules_9 ?_
    refine zj_icmp_ge 65 hC dX7_actByRules_12 (by decide) (fun c2 => ?_) (fun c2 => ?_)
    · have hf := z_iteT hf c2
      refine zj_iload_n 1 hC dX7_actByRules_65 rfl ?_
      exact zj_ireturn hC hf dX7_actByRules_66
    · have hf := z_iteF hf c2
      refine zj_aload_n 0 hC dX7_actByRules_15 rfl ?_
      refine yg_0_4 hC hX7 (List.mem_of_getElem? (i := 1) rfl) dX7_actByRules_16 ?_
      refine zj_iconst (v := 4) hC dX7_actByRules_19 (by decide) ?_
      refine zj_aload_n 0 hC dX7_actByRules_20 rfl ?_
      refine yg_0_1 hC hX7 (List.mem_of_getElem? (i := 3) rfl) dX7_actByRules_21 ?_
      obtain ⟨r3, g4, hq5, hf⟩ := z_bindE hf
      refine zj_callVi [] hC (cY_X1_countOpen l dC dI ca q tt g r3 g4 hq5) gX7_actByRules_X1_countOpen rfl nY_X1_countOpen ⟨Nat.le_of_ble_eq_true rfl, Nat.le_of_ble_eq_true rfl⟩ 2 yo_2 rfl rfl rfl (Nat.le_of_ble_eq_true rfl) dX7_actByRules_24 rfl ?_
      obtain ⟨r6, g7, hq8, hf⟩ := z_bindE hf
      refine zj_callVv [.int 4, .int r3] hC (cY_X4_see l dC dI ca q tt 4 r3 g4 r6 g7 hq8) gX7_actByRules_X4_see rfl nY_X4_see ⟨Nat.le_of_ble_eq_true rfl, Nat.le_of_ble_eq_true rfl⟩ 5 yo_5 rfl rfl rfl (Nat.le_of_ble_eq_true rfl) dX7_actByRules_27 rfl ?_
      refine zj_aload_n 0 hC dX7_actByRules_30 rfl ?_
      refine yg_0_4 hC hX7 (List.mem_of_getElem? (i := 1) rfl) dX7_actByRules_31 ?_
      refine zj_iload_n 2 hC dX7_actByRules_34 rfl ?_
      refine zj_aload_n 0 hC dX7_actByRules_35 rfl ?_
      refine yg_0_2 hC hX7 (List.mem_of_getElem? (i := 4) rfl) dX7_actByRules_36 ?_
      refine yg_3_0 hC hX0 (List.mem_of_getElem? (i := 5) rfl) dX7_actByRules_39 ?_
      obtain ⟨r9, g10, hq11, hf⟩ := z_bindE hf
      refine zj_callVi [.int x2, .int (g7 3 0)] hC (cY_X4_holdsAt l dC dI ca q tt x2 (g7 3 0) g7 r9 g10 hq11) gX7_actByRules_X4_holdsAt rfl nY_X4_holdsAt ⟨Nat.le_of_ble_eq_true rfl, Nat.le_of_ble_eq_true rfl⟩ 5 yo_5 rfl rfl rfl (Nat.le_of_ble_eq_true rfl) dX7_actByRules_42 rfl ?_
      refine zj_if_eq 59 hC dX7_actByRules_45 (by decide) (fun c12 => ?_) (fun c12 => ?_)
      · have hf := z_iteT hf c12
        exact (hJ59 k4 hk4 x1 x2 g10 hf)
      · have hf := z_iteF hf c12
        refine zj_aload_n 0 hC dX7_actByRules_48 rfl ?_
        refine zj_iload_n 2 hC dX7_actByRules_49 rfl ?_
        obtain ⟨r13, g14, hq15, hf⟩ := z_bindE hf
        refine zj_callVv [.int x2] hC (cY_X7_actBy l dC dI ca q tt x2 g10 r13 g14 hq15) gX7_actByRules_X7_actBy rfl nY_X7_actBy ⟨Nat.le_of_ble_eq_true rfl, Nat.le_of_ble_eq_true rfl⟩ 0 yo_0 rfl rfl rfl (Nat.le_of_ble_eq_true rfl) dX7_actByRules_50 rfl ?_
        refine zj_iload_n 1 hC dX7_actByRules_53 rfl ?_
        refine zj_iconst (v := 1) hC dX7_actByRules_54 (by decide) ?_
        refine zj_iload_n 2 hC dX7_actByRules_55 rfl ?_
        refine zj_ishl hC dX7_actByRules_56 ?_
        refine zj_ior hC dX7_actByRules_57 ?_
        refine zj_top (fun y16 ey16 => ?_)
        have hf := z_letE hf ey16
        refine zj_istore_n (lv1 := [(1, .int y16), (0, .ref (q 0)), (2, .int x2)]) hC dX7_actByRules_58 (by decide) rfl ?_
        exact zj_sub hC [1, 0, 2] rfl (hJ59 k4 hk4 y16 x2 g14 hf)
  unfold fY_X7_actByRules at hf
  refine zj_iconst (v := 0) hC dX7_actByRules_0 (by decide) ?_
  refine zj_istore_n (lv1 := [(1, .int 0), (0, .ref (q 0))]) hC dX7_actByRules_1 (by decide) rfl ?_
  refine zj_iconst (v := 0) hC dX7_actByRules_2 (by decide) ?_
  refine zj_istore_n (lv1 := [(2, .int 0), (1, .int 0), (0, .ref (q 0))]) hC dX7_actByRules_3 (by decide) rfl ?_
  exact zj_sub hC [2, 1, 0] rfl (hJ4 0 0 g hf)

def fY_X2_sum_r14_4 (k4 : Int32 × Int32 × z_G → Option (Int32 × z_G)) (x2 : Int32) (x3 : Int32) (g : z_G) : Option (Int32 × z_G) := (if (g 1 4) ≤ x3 then some (x2, g) else z_ck x3 64 (z_let (x2 + (g 14 (Int32.toNatClampNeg x3))) (fun y3 => z_let (x3 + 1) (fun y4 => k4 (y3, y4, g)))))
def fY_X2_sum_r14_4_go (x2 : Int32) (x3 : Int32) (g : z_G) : Option (Int32 × z_G) := z_loop (fun k (w : Int32 × Int32 × z_G) => fY_X2_sum_r14_4 k w.1 w.2.1 w.2.2) z_fuel (x2, x3, g)
def fY_X2_sum_r14 (g : z_G) : Option (Int32 × z_G) := fY_X2_sum_r14_4_go 0 0 g
theorem nY_X2_sum_r14 : yX2_sum.cls = RX2 ∧ yX2_sum.cls ≠ "java/lang/invoke/MethodHandle" ∧ yX2_sum.cls ≠ "java/lang/invoke/VarHandle" ∧ (parseMethodDescriptor yX2_sum.desc).map (fun d => d.parameters.length) = some 1 := by decide +kernel
set_option maxRecDepth 100000 in
set_option maxHeartbeats 4000000 in
theorem cY_X2_sum_r14 (l : Launch) (dC : Nat → ClassId) (dI : Nat → Nat → Nat) (ca : Nat → ClassId) (q : Nat → Nat) (tt : Nat → Nat) (g : z_G) (r : Int32) (g' : z_G) (hf : fY_X2_sum_r14 g = some (r, g')) : z_C l yX2_sum wsX2_sum { frames := 0, cells := 0, slots := 0, locals := 0 } (dC, dI) (tyY ca) (wY ca q) (zY tt) [.ref (q 1), .ref (q 14)] g (some r) g' := by
  refine z_enter (wY_ok ca q) (zY_ok tt) (by decide +kernel) rfl (Nat.le_of_ble_eq_true rfl) (fun J hC => ?_)
  have hC : z_Cx J l cX2_sum 4 wsX2_sum RX2 (some .int) { frames := 0, cells := 0, slots := 0, locals := 0 } (dC, dI) (tyY ca) (wY ca q) (zY tt) (z_QI (dC, dI) (tyY ca) (wY ca q) (some r) g') z_X0 := hC
  show J 0 [(0, .ref (q 1)), (1, .ref (q 14))] [] g
  have hX2 : ∀ w ∈ wsX20, w ∈ wsX2_sum := fun _ h => List.mem_cons_of_mem _ (List.mem_append_right _ (h))
  have hJ4 : ∀ (x2 : Int32) (x3 : Int32) (g : z_G), fY_X2_sum_r14_4_go x2 x3 g = some (r, g') → J 4 [(0, .ref (q 1)), (1, .ref (q 14)), (2, .int x2), (3, .int x3)] [] g := by
    intro x2 x3 g hf
    refine z_loopE (P := fun w : Int32 × Int32 × z_G => J 4 [(0, .ref (q 1)), (1, .ref (q 14)), (2, .int w.1), (3, .int w.2.1)] [] w.2.2) (fun k4 hk4 w hf => ?_) z_fuel (x2, x3, g) hf
    obtain ⟨x2, x3, g⟩ := w
    have hf : fY_X2_sum_r14_4 k4 x2 x3 g = some (r, g') := hf
    show J 4 [(0, .ref (q 1)), (1, .ref (q 14)), (2, .int x2), (3, .int x3)] [] g
    unfold fY_X2_sum_r14_4 at hf
    refine zj_iload_n 3 hC dX2_sum_4 rfl ?_
    refine zj_aload_n 0 hC dX2_sum_5 rfl ?_
    refine yg_1_4 hC hX2 (List.mem_of_getElem? (i := 1) rfl) dX2_sum_6 ?_
    refine zj_icmp_ge 24 hC dX2_sum_9 (by decide) (fun c1 => ?_) (fun c1 => ?_)
    · have hf := z_iteT hf c1
      refine zj_iload_n 2 hC dX2_sum_24 rfl ?_
      exact zj_ireturn hC hf dX2_sum_25
    · have hf := z_iteF hf c1
      refine zj_iload_n 2 hC dX2_sum_12 rfl ?_
      refine zj_aload_n 1 hC dX2_sum_13 rfl ?_
      refine zj_iload_n 3 hC dX2_sum_14 rfl ?_
      obtain ⟨hq2, hf⟩ := z_ckE hf
      refine ya_14 hC hq2 dX2_sum_15 ?_
      refine zj_iadd hC dX2_sum_16 ?_
      refine zj_top (fun y3 ey3 => ?_)
      have hf := z_letE hf ey3
      refine zj_istore_n (lv1 := [(2, .int y3), (0, .ref (q 1)), (1, .ref (q 14)), (3, .int x3)]) hC dX2_sum_17 (by decide) rfl ?_
      refine zj_iinc (lv1 := fun v => [(3, .int v), (2, .int y3), (0, .ref (q 1)), (1, .ref (q 14))]) 3 hC dX2_sum_18 rfl (by decide) (fun _ => rfl) (fun y4 ey4 => ?_)
      have hf := z_letE hf (show y4 = x3 + 1 from ey4)
      refine zj_goto 4 hC dX2_sum_21 (by decide) ?_
      exact zj_sub hC [2, 3, 1, 0] rfl (hk4 (y3, y4, g) hf)
  unfold fY_X2_sum_r14 at hf
  refine zj_iconst (v := 0) hC dX2_sum_0 (by decide) ?_
  refine zj_istore_n (lv1 := [(2, .int 0), (0, .ref (q 1)), (1, .ref (q 14))]) hC dX2_sum_1 (by decide) rfl ?_
  refine zj_iconst (v := 0) hC dX2_sum_2 (by decide) ?_
  refine zj_istore_n (lv1 := [(3, .int 0), (2, .int 0), (0, .ref (q 1)), (1, .ref (q 14))]) hC dX2_sum_3 (by decide) rfl ?_
  exact zj_sub hC [2, 3, 1, 0] rfl (hJ4 0 0 g hf)

def fY_X7_workHour (a0 : Int32) (a1 : Int32) (g : z_G) : Option (Int32 × z_G) := z_bind (fY_X2_breathe_r2 (4 + a1) g) (fun r1 g2 => z_bind (fY_X2_burn g2) (fun r4 g5 => z_bind (fY_X2_warm g5) (fun r7 g8 => z_bind (fY_X2_sink (g8 3 0) g8) (fun r10 g11 => z_bind (fY_X2_soak a0 g11) (fun r13 g14 => z_bind (fY_X2_countBare g14) (fun r16 g17 => z_bind (fY_X7_look r4 r16 g17) (fun r19 g20 => z_bind (fY_X4_see 5 a0 g20) (fun r22 g23 => z_bind (fY_X4_see 6 a1 g23) (fun r25 g26 => z_bind (fY_X7_actByRules g26) (fun r28 g29 => z_bind (fY_X2_sum_r14 g29) (fun r31 g32 => z_bind (fY_X0_note a0 a1 r4 r28 r31 r16 g32) (fun r34 g35 => some (r4, g35)))))))))))))
theorem nY_X7_workHour : yX7_workHour.cls = RX7 ∧ yX7_workHour.cls ≠ "java/lang/invoke/MethodHandle" ∧ yX7_workHour.cls ≠ "java/lang/invoke/VarHandle" ∧ (parseMethodDescriptor yX7_workHour.desc).map (fun d => d.parameters.length) = some 2 := by decide +kernel
set_option maxRecDepth 100000 in
set_option maxHeartbeats 4000000 in
theorem cY_X7_workHour (l : Launch) (dC : Nat → ClassId) (dI : Nat → Nat → Nat) (ca : Nat → ClassId) (q : Nat → Nat) (tt : Nat → Nat) (a0 : Int32) (a1 : Int32) (g : z_G) (r : Int32) (g' : z_G) (hf : fY_X7_workHour a0 a1 g = some (r, g')) : z_C l yX7_workHour wsX7_workHour { frames := 4, cells := 0, slots := 0, locals := 88 } (dC, dI) (tyY ca) (wY ca q) (zY tt) [.ref (q 0), .int a0, .int a1] g (some r) g' := by
  refine z_enter (wY_ok ca q) (zY_ok tt) (by decide +kernel) rfl (Nat.le_of_ble_eq_true rfl) (fun J hC => ?_)
  have hC : z_Cx J l cX7_workHour 6 wsX7_workHour RX7 (some .int) { frames := 4, cells := 0, slots := 0, locals := 88 } (dC, dI) (tyY ca) (wY ca q) (zY tt) (z_QI (dC, dI) (tyY ca) (wY ca q) (some r) g') z_X0 := hC
  show J 0 [(0, .ref (q 0)), (1, .int a0), (2, .int a1)] [] g
  have hX0 : ∀ w ∈ wsX00, w ∈ wsX7_workHour := fun _ h => List.mem_cons_of_mem _ (List.mem_append_left _ (List.mem_append_left _ (List.mem_append_left _ (List.mem_append_right _ (h)))))
  have hX2 : ∀ w ∈ wsX20, w ∈ wsX7_workHour := fun _ h => List.mem_cons_of_mem _ (List.mem_append_left _ (List.mem_append_left _ (List.mem_append_right _ (h))))
  have hX7 : ∀ w ∈ wsX70, w ∈ wsX7_workHour := fun _ h => List.mem_cons_of_mem _ (List.mem_append_left _ (List.mem_append_left _ (List.mem_append_left _ (List.mem_append_left _ (List.mem_append_right _ (h))))))
  unfold fY_X7_workHour at hf
  refine zj_aload_n 0 hC dX7_workHour_0 rfl ?_
  refine yg_0_0 hC hX7 (List.mem_of_getElem? (i := 1) rfl) dX7_workHour_1 ?_
  refine zj_aload_n 0 hC dX7_workHour_4 rfl ?_
  refine yg_0_1 hC hX7 (List.mem_of_getElem? (i := 2) rfl) dX7_workHour_5 ?_
  refine zj_iconst (v := 4) hC dX7_workHour_8 (by decide) ?_
  refine zj_iload_n 2 hC dX7_workHour_9 rfl ?_
  refine zj_iadd hC dX7_workHour_10 ?_
  obtain ⟨r1, g2, hq3, hf⟩ := z_bindE hf
  refine zj_callVv [.ref (q 2), .int (4 + a1)] hC (cY_X2_breathe_r2 l dC dI ca q tt (4 + a1) g r1 g2 hq3) gX7_workHour_X2_breathe rfl nY_X2_breathe_r2 ⟨Nat.le_of_ble_eq_true rfl, Nat.le_of_ble_eq_true rfl⟩ 1 yo_1 rfl rfl rfl (Nat.le_of_ble_eq_true rfl) dX7_workHour_11 rfl ?_
  refine zj_aload_n 0 hC dX7_workHour_14 rfl ?_
  refine yg_0_0 hC hX7 (List.mem_of_getElem? (i := 1) rfl) dX7_workHour_15 ?_
  obtain ⟨r4, g5, hq6, hf⟩ := z_bindE hf
  refine zj_callVi [] hC (cY_X2_burn l dC dI ca q tt g2 r4 g5 hq6) gX7_workHour_X2_burn rfl nY_X2_burn ⟨Nat.le_of_ble_eq_true rfl, Nat.le_of_ble_eq_true rfl⟩ 1 yo_1 rfl rfl rfl (Nat.le_of_ble_eq_true rfl) dX7_workHour_18 rfl ?_
  refine zj_istore_n (lv1 := [(3, .int r4), (0, .ref (q 0)), (1, .int a0), (2, .int a1)]) hC dX7_workHour_21 (by decide) rfl ?_
  refine zj_aload_n 1 hC dX7_workHour_22 rfl ?_
  refine yg_0_0 hC hX7 (List.mem_of_getElem? (i := 1) rfl) dX7_workHour_23 ?_
  obtain ⟨r7, g8, hq9, hf⟩ := z_bindE hf
  refine zj_callVv [] hC (cY_X2_warm l dC dI ca q tt g5 r7 g8 hq9) gX7_workHour_X2_warm rfl nY_X2_warm ⟨Nat.le_of_ble_eq_true rfl, Nat.le_of_ble_eq_true rfl⟩ 1 yo_1 rfl rfl rfl (Nat.le_of_ble_eq_true rfl) dX7_workHour_26 rfl ?_
  refine zj_aload_n 1 hC dX7_workHour_29 rfl ?_
  refine yg_0_0 hC hX7 (List.mem_of_getElem? (i := 1) rfl) dX7_workHour_30 ?_
  refine zj_aload_n 1 hC dX7_workHour_33 rfl ?_
  refine yg_0_2 hC hX7 (List.mem_of_getElem? (i := 3) rfl) dX7_workHour_34 ?_
  refine yg_3_0 hC hX0 (List.mem_of_getElem? (i := 4) rfl) dX7_workHour_37 ?_
  obtain ⟨r10, g11, hq12, hf⟩ := z_bindE hf
  refine zj_callVv [.int (g8 3 0)] hC (cY_X2_sink l dC dI ca q tt (g8 3 0) g8 r10 g11 hq12) gX7_workHour_X2_sink rfl nY_X2_sink ⟨Nat.le_of_ble_eq_true rfl, Nat.le_of_ble_eq_true rfl⟩ 1 yo_1 rfl rfl rfl (Nat.le_of_ble_eq_true rfl) dX7_workHour_40 rfl ?_
  refine zj_aload_n 1 hC dX7_workHour_43 rfl ?_
  refine yg_0_0 hC hX7 (List.mem_of_getElem? (i := 1) rfl) dX7_workHour_44 ?_
  refine zj_iload_n 2 hC dX7_workHour_47 rfl ?_
  obtain ⟨r13, g14, hq15, hf⟩ := z_bindE hf
  refine zj_callVv [.int a0] hC (cY_X2_soak l dC dI ca q tt a0 g11 r13 g14 hq15) gX7_workHour_X2_soak rfl nY_X2_soak ⟨Nat.le_of_ble_eq_true rfl, Nat.le_of_ble_eq_true rfl⟩ 1 yo_1 rfl rfl rfl (Nat.le_of_ble_eq_true rfl) dX7_workHour_48 rfl ?_
  refine zj_aload_n 1 hC dX7_workHour_51 rfl ?_
  refine yg_0_0 hC hX7 (List.mem_of_getElem? (i := 1) rfl) dX7_workHour_52 ?_
  obtain ⟨r16, g17, hq18, hf⟩ := z_bindE hf
  refine zj_callVi [] hC (cY_X2_countBare l dC dI ca q tt g14 r16 g17 hq18) gX7_workHour_X2_countBare rfl nY_X2_countBare ⟨Nat.le_of_ble_eq_true rfl, Nat.le_of_ble_eq_true rfl⟩ 1 yo_1 rfl rfl rfl (Nat.le_of_ble_eq_true rfl) dX7_workHour_55 rfl ?_
  refine zj_istore (lv1 := [(4, .int r16), (3, .int r4), (0, .ref (q 0)), (1, .int a0), (2, .int a1)]) hC dX7_workHour_58 (by decide) rfl ?_
  refine zj_aload_n 2 hC dX7_workHour_60 rfl ?_
  refine zj_iload_n 1 hC dX7_workHour_61 rfl ?_
  refine zj_iload 0 hC dX7_workHour_62 rfl ?_
  obtain ⟨r19, g20, hq21, hf⟩ := z_bindE hf
  refine zj_callVv [.int r4, .int r16] hC (cY_X7_look l dC dI ca q tt r4 r16 g17 r19 g20 hq21) gX7_workHour_X7_look rfl nY_X7_look ⟨Nat.le_of_ble_eq_true rfl, Nat.le_of_ble_eq_true rfl⟩ 0 yo_0 rfl rfl rfl (Nat.le_of_ble_eq_true rfl) dX7_workHour_64 rfl ?_
  refine zj_aload_n 2 hC dX7_workHour_67 rfl ?_
  refine yg_0_4 hC hX7 (List.mem_of_getElem? (i := 5) rfl) dX7_workHour_68 ?_
  refine zj_iconst (v := 5) hC dX7_workHour_71 (by decide) ?_
  refine zj_iload_n 3 hC dX7_workHour_72 rfl ?_
  obtain ⟨r22, g23, hq24, hf⟩ := z_bindE hf
  refine zj_callVv [.int 5, .int a0] hC (cY_X4_see l dC dI ca q tt 5 a0 g20 r22 g23 hq24) gX7_workHour_X4_see rfl nY_X4_see ⟨Nat.le_of_ble_eq_true rfl, Nat.le_of_ble_eq_true rfl⟩ 5 yo_5 rfl rfl rfl (Nat.le_of_ble_eq_true rfl) dX7_workHour_73 rfl ?_
  refine zj_aload_n 2 hC dX7_workHour_76 rfl ?_
  refine yg_0_4 hC hX7 (List.mem_of_getElem? (i := 5) rfl) dX7_workHour_77 ?_
  refine zj_bipush (v := 6) hC dX7_workHour_80 (by decide) ?_
  refine zj_iload_n 4 hC dX7_workHour_82 rfl ?_
  obtain ⟨r25, g26, hq27, hf⟩ := z_bindE hf
  refine zj_callVv [.int 6, .int a1] hC (cY_X4_see l dC dI ca q tt 6 a1 g23 r25 g26 hq27) gX7_workHour_X4_see rfl nY_X4_see ⟨Nat.le_of_ble_eq_true rfl, Nat.le_of_ble_eq_true rfl⟩ 5 yo_5 rfl rfl rfl (Nat.le_of_ble_eq_true rfl) dX7_workHour_83 rfl ?_
  refine zj_aload_n 2 hC dX7_workHour_86 rfl ?_
  obtain ⟨r28, g29, hq30, hf⟩ := z_bindE hf
  refine zj_callVi [] hC (cY_X7_actByRules l dC dI ca q tt g26 r28 g29 hq30) gX7_workHour_X7_actByRules rfl nY_X7_actByRules ⟨Nat.le_of_ble_eq_true rfl, Nat.le_of_ble_eq_true rfl⟩ 0 yo_0 rfl rfl rfl (Nat.le_of_ble_eq_true rfl) dX7_workHour_87 rfl ?_
  refine zj_istore (lv1 := [(5, .int r28), (4, .int r16), (3, .int r4), (0, .ref (q 0)), (1, .int a0), (2, .int a1)]) hC dX7_workHour_90 (by decide) rfl ?_
  refine zj_aload_n 3 hC dX7_workHour_92 rfl ?_
  refine yg_0_2 hC hX7 (List.mem_of_getElem? (i := 3) rfl) dX7_workHour_93 ?_
  refine zj_iload_n 4 hC dX7_workHour_96 rfl ?_
  refine zj_iload_n 5 hC dX7_workHour_97 rfl ?_
  refine zj_iload_n 2 hC dX7_workHour_98 rfl ?_
  refine zj_iload 0 hC dX7_workHour_99 rfl ?_
  refine zj_aload_n 3 hC dX7_workHour_101 rfl ?_
  refine yg_0_0 hC hX7 (List.mem_of_getElem? (i := 1) rfl) dX7_workHour_102 ?_
  refine zj_aload_n 3 hC dX7_workHour_105 rfl ?_
  refine yg_0_0 hC hX7 (List.mem_of_getElem? (i := 1) rfl) dX7_workHour_106 ?_
  refine yg_1_11 hC hX2 (List.mem_of_getElem? (i := 6) rfl) dX7_workHour_109 ?_
  obtain ⟨r31, g32, hq33, hf⟩ := z_bindE hf
  refine zj_callVi [.ref (q 14)] hC (cY_X2_sum_r14 l dC dI ca q tt g29 r31 g32 hq33) gX7_workHour_X2_sum rfl nY_X2_sum_r14 ⟨Nat.le_of_ble_eq_true rfl, Nat.le_of_ble_eq_true rfl⟩ 1 yo_1 rfl rfl rfl (Nat.le_of_ble_eq_true rfl) dX7_workHour_112 rfl ?_
  refine zj_iload 1 hC dX7_workHour_115 rfl ?_
  obtain ⟨r34, g35, hq36, hf⟩ := z_bindE hf
  refine zj_callVv [.int a0, .int a1, .int r4, .int r28, .int r31, .int r16] hC (cY_X0_note l dC dI ca q tt a0 a1 r4 r28 r31 r16 g32 r34 g35 hq36) gX7_workHour_X0_note rfl nY_X0_note ⟨Nat.le_of_ble_eq_true rfl, Nat.le_of_ble_eq_true rfl⟩ 3 yo_3 rfl rfl rfl (Nat.le_of_ble_eq_true rfl) dX7_workHour_117 rfl ?_
  refine zj_iload_n 2 hC dX7_workHour_120 rfl ?_
  exact zj_ireturn hC hf dX7_workHour_121

def fY_X7_hour_25  (g : z_G) : Option (Int32 × z_G) := some ((-1), g)
def fY_X7_hour (a0 : Int32) (a1 : Int32) (g : z_G) : Option (Int32 × z_G) := (if (g 0 7) = 0 then fY_X7_hour_25 g else z_bind (fY_X7_isWeather a0 a1 g) (fun r2 g3 => (if r2 = 0 then fY_X7_hour_25 g3 else z_bind (fY_X0_isFull g3) (fun r6 g7 => (if r6 = 0 then z_bind (fY_X7_workHour a0 a1 g7) (fun r10 g11 => some (r10, g11)) else fY_X7_hour_25 g7)))))
theorem nY_X7_hour : yX7_hour.cls = RX7 ∧ yX7_hour.cls ≠ "java/lang/invoke/MethodHandle" ∧ yX7_hour.cls ≠ "java/lang/invoke/VarHandle" ∧ (parseMethodDescriptor yX7_hour.desc).map (fun d => d.parameters.length) = some 2 := by decide +kernel
set_option maxRecDepth 100000 in
set_option maxHeartbeats 4000000 in
theorem cY_X7_hour (l : Launch) (dC : Nat → ClassId) (dI : Nat → Nat → Nat) (ca : Nat → ClassId) (q : Nat → Nat) (tt : Nat → Nat) (a0 : Int32) (a1 : Int32) (g : z_G) (r : Int32) (g' : z_G) (hf : fY_X7_hour a0 a1 g = some (r, g')) : z_C l yX7_hour wsX7_hour { frames := 5, cells := 0, slots := 0, locals := 113 } (dC, dI) (tyY ca) (wY ca q) (zY tt) [.ref (q 0), .int a0, .int a1] g (some r) g' := by
  refine z_enter (wY_ok ca q) (zY_ok tt) (by decide +kernel) rfl (Nat.le_of_ble_eq_true rfl) (fun J hC => ?_)
  have hC : z_Cx J l cX7_hour 3 wsX7_hour RX7 (some .int) { frames := 5, cells := 0, slots := 0, locals := 113 } (dC, dI) (tyY ca) (wY ca q) (zY tt) (z_QI (dC, dI) (tyY ca) (wY ca q) (some r) g') z_X0 := hC
  show J 0 [(0, .ref (q 0)), (1, .int a0), (2, .int a1)] [] g
  have hX7 : ∀ w ∈ wsX70, w ∈ wsX7_hour := fun _ h => List.mem_cons_of_mem _ (List.mem_append_left _ (List.mem_append_left _ (List.mem_append_left _ (List.mem_append_left _ (List.mem_append_right _ (h))))))
  have hJ25 : ∀ (g : z_G), fY_X7_hour_25 g = some (r, g') → J 25 [] [] g := by
    intro g hf
    unfold fY_X7_hour_25 at hf
    refine zj_iconst (v := (-1)) hC dX7_hour_25 (by decide) ?_
    exact zj_ireturn hC hf dX7_hour_26
  unfold fY_X7_hour at hf
  refine zj_aload_n 0 hC dX7_hour_0 rfl ?_
  refine yg_0_7 hC hX7 (List.mem_of_getElem? (i := 1) rfl) dX7_hour_1 ?_
  refine zj_if_eq 25 hC dX7_hour_4 (by decide) (fun c1 => ?_) (fun c1 => ?_)
  · have hf := z_iteT hf c1
    exact zj_sub hC [] rfl (hJ25 g hf)
  · have hf := z_iteF hf c1
    refine zj_iload_n 1 hC dX7_hour_7 rfl ?_
    refine zj_iload_n 2 hC dX7_hour_8 rfl ?_
    obtain ⟨r2, g3, hq4, hf⟩ := z_bindE hf
    refine zj_callSi [.int a0, .int a1] hC (cY_X7_isWeather l dC dI ca q tt a0 a1 g r2 g3 hq4) gX7_hour_X7_isWeather rfl nY_X7_isWeather ⟨Nat.le_of_ble_eq_true rfl, Nat.le_of_ble_eq_true rfl⟩ rfl (Nat.le_of_ble_eq_true rfl) dX7_hour_9 rfl ?_
    refine zj_if_eq 25 hC dX7_hour_12 (by decide) (fun c5 => ?_) (fun c5 => ?_)
    · have hf := z_iteT hf c5
      exact zj_sub hC [] rfl (hJ25 g3 hf)
    · have hf := z_iteF hf c5
      refine zj_aload_n 0 hC dX7_hour_15 rfl ?_
      refine yg_0_2 hC hX7 (List.mem_of_getElem? (i := 2) rfl) dX7_hour_16 ?_
      obtain ⟨r6, g7, hq8, hf⟩ := z_bindE hf
      refine zj_callVi [] hC (cY_X0_isFull l dC dI ca q tt g3 r6 g7 hq8) gX7_hour_X0_isFull rfl nY_X0_isFull ⟨Nat.le_of_ble_eq_true rfl, Nat.le_of_ble_eq_true rfl⟩ 3 yo_3 rfl rfl rfl (Nat.le_of_ble_eq_true rfl) dX7_hour_19 rfl ?_
      refine zj_if_eq 27 hC dX7_hour_22 (by decide) (fun c9 => ?_) (fun c9 => ?_)
      · have hf := z_iteT hf c9
        refine zj_aload_n 0 hC dX7_hour_27 rfl ?_
        refine zj_iload_n 1 hC dX7_hour_28 rfl ?_
        refine zj_iload_n 2 hC dX7_hour_29 rfl ?_
        obtain ⟨r10, g11, hq12, hf⟩ := z_bindE hf
        refine zj_callVi [.int a0, .int a1] hC (cY_X7_workHour l dC dI ca q tt a0 a1 g7 r10 g11 hq12) gX7_hour_X7_workHour rfl nY_X7_workHour ⟨Nat.le_of_ble_eq_true rfl, Nat.le_of_ble_eq_true rfl⟩ 0 yo_0 rfl rfl rfl (Nat.le_of_ble_eq_true rfl) dX7_hour_30 rfl ?_
        exact zj_ireturn hC hf dX7_hour_33
      · have hf := z_iteF hf c9
        exact zj_sub hC [] rfl (hJ25 g7 hf)

def fY_X7_handleAllOf_63 (x3 : Int32) (g : z_G) : Option (Int32 × z_G) := some (x3, g)
def fY_X7_handleAllOf_2 (k2 : Int32 × Int32 × z_G → Option (Int32 × z_G)) (x1 : Int32) (x3 : Int32) (g : z_G) : Option (Int32 × z_G) := (if (g 3 7) ≤ x3 then fY_X7_handleAllOf_63 x3 g else z_ck x3 100 ((if (g 31 (Int32.toNatClampNeg x3)) = x1 then z_ck x3 100 (z_ck x3 100 (z_ck x3 100 (z_bind (fY_X7_handle (g 32 (Int32.toNatClampNeg x3)) (g 33 (Int32.toNatClampNeg x3)) (g 34 (Int32.toNatClampNeg x3)) g) (fun r7 g8 => z_let (x3 + 1) (fun y10 => k2 (x1, y10, g8)))))) else fY_X7_handleAllOf_63 x3 g)))
def fY_X7_handleAllOf_2_go (x1 : Int32) (x3 : Int32) (g : z_G) : Option (Int32 × z_G) := z_loop (fun k (w : Int32 × Int32 × z_G) => fY_X7_handleAllOf_2 k w.1 w.2.1 w.2.2) z_fuel (x1, x3, g)
def fY_X7_handleAllOf (a0 : Int32) (a1 : Int32) (g : z_G) : Option (Int32 × z_G) := fY_X7_handleAllOf_2_go a0 a1 g
theorem nY_X7_handleAllOf : yX7_handleAllOf.cls = RX7 ∧ yX7_handleAllOf.cls ≠ "java/lang/invoke/MethodHandle" ∧ yX7_handleAllOf.cls ≠ "java/lang/invoke/VarHandle" ∧ (parseMethodDescriptor yX7_handleAllOf.desc).map (fun d => d.parameters.length) = some 2 := by decide +kernel
set_option maxRecDepth 100000 in
set_option maxHeartbeats 4000000 in
theorem cY_X7_handleAllOf (l : Launch) (dC : Nat → ClassId) (dI : Nat → Nat → Nat) (ca : Nat → ClassId) (q : Nat → Nat) (tt : Nat → Nat) (a0 : Int32) (a1 : Int32) (g : z_G) (r : Int32) (g' : z_G) (hf : fY_X7_handleAllOf a0 a1 g = some (r, g')) : z_C l yX7_handleAllOf wsX7_handleAllOf { frames := 3, cells := 0, slots := 0, locals := 66 } (dC, dI) (tyY ca) (wY ca q) (zY tt) [.ref (q 0), .int a0, .int a1] g (some r) g' := by
  refine z_enter (wY_ok ca q) (zY_ok tt) (by decide +kernel) rfl (Nat.le_of_ble_eq_true rfl) (fun J hC => ?_)
  have hC : z_Cx J l cX7_handleAllOf 4 wsX7_handleAllOf RX7 (some .int) { frames := 3, cells := 0, slots := 0, locals := 66 } (dC, dI) (tyY ca) (wY ca q) (zY tt) (z_QI (dC, dI) (tyY ca) (wY ca q) (some r) g') z_X0 := hC
  show J 0 [(0, .ref (q 0)), (1, .int a0), (2, .int a1)] [] g
  have hX0 : ∀ w ∈ wsX00, w ∈ wsX7_handleAllOf := fun _ h => List.mem_cons_of_mem _ (List.mem_append_left _ (List.mem_append_left _ (List.mem_append_right _ (h))))
  have hX7 : ∀ w ∈ wsX70, w ∈ wsX7_handleAllOf := fun _ h => List.mem_cons_of_mem _ (List.mem_append_left _ (List.mem_append_left _ (List.mem_append_left _ (List.mem_append_right _ (h)))))
  have hJ63 : ∀ (x3 : Int32) (g : z_G), fY_X7_handleAllOf_63 x3 g = some (r, g') → J 63 [(3, .int x3)] [] g := by
    intro x3 g hf
    unfold fY_X7_handleAllOf_63 at hf
    refine zj_iload_n 0 hC dX7_handleAllOf_63 rfl ?_
    exact zj_ireturn hC hf dX7_handleAllOf_64
  have hJ2 : ∀ (x1 : Int32) (x3 : Int32) (g : z_G), fY_X7_handleAllOf_2_go x1 x3 g = some (r, g') → J 2 [(0, .ref (q 0)), (1, .int x1), (3, .int x3)] [] g := by
    intro x1 x3 g hf
    refine z_loopE (P := fun w : Int32 × Int32 × z_G => J 2 [(0, .ref (q 0)), (1, .int w.1), (3, .int w.2.1)] [] w.2.2) (fun k2 hk2 w hf => ?_) z_fuel (x1, x3, g) hf
    obtain ⟨x1, x3, g⟩ := w
    have hf : fY_X7_handleAllOf_2 k2 x1 x3 g = some (r, g') := hf
    show J 2 [(0, .ref (q 0)), (1, .int x1), (3, .int x3)] [] g
    unfold fY_X7_handleAllOf_2 at hf
    refine zj_iload_n 2 hC dX7_handleAllOf_2 rfl ?_
    refine zj_aload_n 0 hC dX7_handleAllOf_3 rfl ?_
    refine yg_0_2 hC hX7 (List.mem_of_getElem? (i := 1) rfl) dX7_handleAllOf_4 ?_
    refine yg_3_7 hC hX0 (List.mem_of_getElem? (i := 2) rfl) dX7_handleAllOf_7 ?_
    refine zj_icmp_ge 63 hC dX7_handleAllOf_10 (by decide) (fun c1 => ?_) (fun c1 => ?_)
    · have hf := z_iteT hf c1
      exact zj_sub hC [2] rfl (hJ63 x3 g hf)
    · have hf := z_iteF hf c1
      refine zj_aload_n 0 hC dX7_handleAllOf_13 rfl ?_
      refine yg_0_2 hC hX7 (List.mem_of_getElem? (i := 1) rfl) dX7_handleAllOf_14 ?_
      refine yg_3_8 hC hX0 (List.mem_of_getElem? (i := 3) rfl) dX7_handleAllOf_17 ?_
      refine zj_iload_n 2 hC dX7_handleAllOf_20 rfl ?_
      obtain ⟨hq2, hf⟩ := z_ckE hf
      refine ya_31 hC hq2 dX7_handleAllOf_21 ?_
      refine zj_iload_n 1 hC dX7_handleAllOf_22 rfl ?_
      refine zj_icmp_ne 63 hC dX7_handleAllOf_23 (by decide) (fun c3 => ?_) (fun c3 => ?_)
      · have hf := z_iteF hf c3
        exact zj_sub hC [2] rfl (hJ63 x3 g hf)
      · have hf := z_iteT hf c3
        refine zj_aload_n 0 hC dX7_handleAllOf_26 rfl ?_
        refine zj_aload_n 0 hC dX7_handleAllOf_27 rfl ?_
        refine yg_0_2 hC hX7 (List.mem_of_getElem? (i := 1) rfl) dX7_handleAllOf_28 ?_
        refine yg_3_9 hC hX0 (List.mem_of_getElem? (i := 4) rfl) dX7_handleAllOf_31 ?_
        refine zj_iload_n 2 hC dX7_handleAllOf_34 rfl ?_
        obtain ⟨hq4, hf⟩ := z_ckE hf
        refine ya_32 hC hq4 dX7_handleAllOf_35 ?_
        refine zj_aload_n 0 hC dX7_handleAllOf_36 rfl ?_
        refine yg_0_2 hC hX7 (List.mem_of_getElem? (i := 1) rfl) dX7_handleAllOf_37 ?_
        refine yg_3_10 hC hX0 (List.mem_of_getElem? (i := 5) rfl) dX7_handleAllOf_40 ?_
        refine zj_iload_n 2 hC dX7_handleAllOf_43 rfl ?_
        obtain ⟨hq5, hf⟩ := z_ckE hf
        refine ya_33 hC hq5 dX7_handleAllOf_44 ?_
        refine zj_aload_n 0 hC dX7_handleAllOf_45 rfl ?_
        refine yg_0_2 hC hX7 (List.mem_of_getElem? (i := 1) rfl) dX7_handleAllOf_46 ?_
        refine yg_3_11 hC hX0 (List.mem_of_getElem? (i := 6) rfl) dX7_handleAllOf_49 ?_
        refine zj_iload_n 2 hC dX7_handleAllOf_52 rfl ?_
        obtain ⟨hq6, hf⟩ := z_ckE hf
        refine ya_34 hC hq6 dX7_handleAllOf_53 ?_
        obtain ⟨r7, g8, hq9, hf⟩ := z_bindE hf
        refine zj_callVv [.int (g 32 (Int32.toNatClampNeg x3)), .int (g 33 (Int32.toNatClampNeg x3)), .int (g 34 (Int32.toNatClampNeg x3))] hC (cY_X7_handle l dC dI ca q tt (g 32 (Int32.toNatClampNeg x3)) (g 33 (Int32.toNatClampNeg x3)) (g 34 (Int32.toNatClampNeg x3)) g r7 g8 hq9) gX7_handleAllOf_X7_handle rfl nY_X7_handle ⟨Nat.le_of_ble_eq_true rfl, Nat.le_of_ble_eq_true rfl⟩ 0 yo_0 rfl rfl rfl (Nat.le_of_ble_eq_true rfl) dX7_handleAllOf_54 rfl ?_
        refine zj_iinc (lv1 := fun v => [(3, .int v), (0, .ref (q 0)), (1, .int x1)]) 2 hC dX7_handleAllOf_57 rfl (by decide) (fun _ => rfl) (fun y10 ey10 => ?_)
        have hf := z_letE hf (show y10 = x3 + 1 from ey10)
        refine zj_goto 2 hC dX7_handleAllOf_60 (by decide) ?_
        exact zj_sub hC [1, 2, 0] rfl (hk2 (x1, y10, g8) hf)
  unfold fY_X7_handleAllOf at hf
  refine zj_iload_n 2 hC dX7_handleAllOf_0 rfl ?_
  refine zj_istore_n (lv1 := [(3, .int a1), (0, .ref (q 0)), (1, .int a0), (2, .int a1)]) hC dX7_handleAllOf_1 (by decide) rfl ?_
  exact zj_sub hC [1, 2, 0] rfl (hJ2 a0 a1 g hf)

def fY_X7_workAgain_34 (k34 : Int32 × Int32 × Int32 × z_G → Option (Int32 × z_G)) (x1 : Int32) (x2 : Int32) (x3 : Int32) (g : z_G) : Option (Int32 × z_G) := (if x1 ≤ x3 then z_bind (fY_X7_handleAllOf x1 x2 g) (fun r2 g3 => some (0, g3)) else z_bind (fY_X7_handleAllOf x3 x2 g) (fun r5 g6 => z_ck x3 300 (z_ck x3 300 (z_bind (fY_X7_workHour (g6 25 (Int32.toNatClampNeg x3)) (g6 26 (Int32.toNatClampNeg x3)) g6) (fun r10 g11 => z_let (x3 + 1) (fun y13 => k34 (x1, r5, y13, g11)))))))
def fY_X7_workAgain_34_go (x1 : Int32) (x2 : Int32) (x3 : Int32) (g : z_G) : Option (Int32 × z_G) := z_loop (fun k (w : Int32 × Int32 × Int32 × z_G) => fY_X7_workAgain_34 k w.1 w.2.1 w.2.2.1 w.2.2.2) z_fuel (x1, x2, x3, g)
def fY_X7_workAgain (g : z_G) : Option (Int32 × z_G) := z_let (g 3 0) (fun y14 => z_bind (fY_X2_backToLight g) (fun r15 g16 => z_bind (fY_X1_backToLight g16) (fun r18 g19 => z_let (z_up g19 3 0 0) (fun g21 => fY_X7_workAgain_34_go y14 0 0 g21))))
theorem nY_X7_workAgain : yX7_workAgain.cls = RX7 ∧ yX7_workAgain.cls ≠ "java/lang/invoke/MethodHandle" ∧ yX7_workAgain.cls ≠ "java/lang/invoke/VarHandle" ∧ (parseMethodDescriptor yX7_workAgain.desc).map (fun d => d.parameters.length) = some 0 := by decide +kernel
set_option maxRecDepth 100000 in
set_option maxHeartbeats 4000000 in
theorem cY_X7_workAgain (l : Launch) (dC : Nat → ClassId) (dI : Nat → Nat → Nat) (ca : Nat → ClassId) (q : Nat → Nat) (tt : Nat → Nat) (g : z_G) (r : Int32) (g' : z_G) (hf : fY_X7_workAgain g = some (r, g')) : z_C l yX7_workAgain wsX7_workAgain { frames := 5, cells := 0, slots := 0, locals := 113 } (dC, dI) (tyY ca) (wY ca q) (zY tt) [.ref (q 0)] g none g' := by
  refine z_enter (wY_ok ca q) (zY_ok tt) (by decide +kernel) rfl (Nat.le_of_ble_eq_true rfl) (fun J hC => ?_)
  have hC : z_Cx J l cX7_workAgain 4 wsX7_workAgain RX7 none { frames := 5, cells := 0, slots := 0, locals := 113 } (dC, dI) (tyY ca) (wY ca q) (zY tt) (z_QI (dC, dI) (tyY ca) (wY ca q) none g') z_X0 := hC
  show J 0 [(0, .ref (q 0))] [] g
  have hX0 : ∀ w ∈ wsX00, w ∈ wsX7_workAgain := fun _ h => List.mem_cons_of_mem _ (List.mem_append_left _ (List.mem_append_left _ (List.mem_append_left _ (List.mem_append_right _ (h)))))
  have hX7 : ∀ w ∈ wsX70, w ∈ wsX7_workAgain := fun _ h => List.mem_cons_of_mem _ (List.mem_append_left _ (List.mem_append_left _ (List.mem_append_left _ (List.mem_append_left _ (List.mem_append_right _ (h))))))
  have hJ34 : ∀ (x1 : Int32) (x2 : Int32) (x3 : Int32) (g : z_G), fY_X7_workAgain_34_go x1 x2 x3 g = some (r, g') → J 34 [(0, .ref (q 0)), (1, .int x1), (2, .int x2), (3, .int x3)] [] g := by
    intro x1 x2 x3 g hf
    refine z_loopE (P := fun w : Int32 × Int32 × Int32 × z_G => J 34 [(0, .ref (q 0)), (1, .int w.1), (2, .int w.2.1), (3, .int w.2.2.1)] [] w.2.2.2) (fun k34 hk34 w hf => ?_) z_fuel (x1, x2, x3, g) hf
    obtain ⟨x1, x2, x3, g⟩ := w
    have hf : fY_X7_workAgain_34 k34 x1 x2 x3 g = some (r, g') := hf
    show J 34 [(0, .ref (q 0)), (1, .int x1), (2, .int x2), (3, .int x3)] [] g
    unfold fY_X7_workAgain_34 at hf
    refine zj_iload_n 3 hC dX7_workAgain_34 rfl ?_
    refine zj_iload_n 1 hC dX7_workAgain_35 rfl ?_
    refine zj_icmp_ge 75 hC dX7_workAgain_36 (by decide) (fun c1 => ?_) (fun c1 => ?_)
    · have hf := z_iteT hf c1
      refine zj_aload_n 0 hC dX7_workAgain_75 rfl ?_
      refine zj_iload_n 1 hC dX7_workAgain_76 rfl ?_
      refine zj_iload_n 2 hC dX7_workAgain_77 rfl ?_
      obtain ⟨r2, g3, hq4, hf⟩ := z_bindE hf
      refine zj_callVi [.int x1, .int x2] hC (cY_X7_handleAllOf l dC dI ca q tt x1 x2 g r2 g3 hq4) gX7_workAgain_X7_handleAllOf rfl nY_X7_handleAllOf ⟨Nat.le_of_ble_eq_true rfl, Nat.le_of_ble_eq_true rfl⟩ 0 yo_0 rfl rfl rfl (Nat.le_of_ble_eq_true rfl) dX7_workAgain_78 rfl ?_
      refine zj_pop hC dX7_workAgain_81 rfl ?_
      exact zj_vreturn hC hf dX7_workAgain_82
    · have hf := z_iteF hf c1
      refine zj_aload_n 0 hC dX7_workAgain_39 rfl ?_
      refine zj_iload_n 3 hC dX7_workAgain_40 rfl ?_
      refine zj_iload_n 2 hC dX7_workAgain_41 rfl ?_
      obtain ⟨r5, g6, hq7, hf⟩ := z_bindE hf
      refine zj_callVi [.int x3, .int x2] hC (cY_X7_handleAllOf l dC dI ca q tt x3 x2 g r5 g6 hq7) gX7_workAgain_X7_handleAllOf rfl nY_X7_handleAllOf ⟨Nat.le_of_ble_eq_true rfl, Nat.le_of_ble_eq_true rfl⟩ 0 yo_0 rfl rfl rfl (Nat.le_of_ble_eq_true rfl) dX7_workAgain_42 rfl ?_
      refine zj_istore_n (lv1 := [(2, .int r5), (0, .ref (q 0)), (1, .int x1), (3, .int x3)]) hC dX7_workAgain_45 (by decide) rfl ?_
      refine zj_aload_n 1 hC dX7_workAgain_46 rfl ?_
      refine zj_aload_n 1 hC dX7_workAgain_47 rfl ?_
      refine yg_0_2 hC hX7 (List.mem_of_getElem? (i := 1) rfl) dX7_workAgain_48 ?_
      refine yg_3_1 hC hX0 (List.mem_of_getElem? (i := 5) rfl) dX7_workAgain_51 ?_
      refine zj_iload_n 3 hC dX7_workAgain_54 rfl ?_
      obtain ⟨hq8, hf⟩ := z_ckE hf
      refine ya_25 hC hq8 dX7_workAgain_55 ?_
      refine zj_aload_n 1 hC dX7_workAgain_56 rfl ?_
      refine yg_0_2 hC hX7 (List.mem_of_getElem? (i := 1) rfl) dX7_workAgain_57 ?_
      refine yg_3_2 hC hX0 (List.mem_of_getElem? (i := 6) rfl) dX7_workAgain_60 ?_
      refine zj_iload_n 3 hC dX7_workAgain_63 rfl ?_
      obtain ⟨hq9, hf⟩ := z_ckE hf
      refine ya_26 hC hq9 dX7_workAgain_64 ?_
      obtain ⟨r10, g11, hq12, hf⟩ := z_bindE hf
      refine zj_callVi [.int (g6 25 (Int32.toNatClampNeg x3)), .int (g6 26 (Int32.toNatClampNeg x3))] hC (cY_X7_workHour l dC dI ca q tt (g6 25 (Int32.toNatClampNeg x3)) (g6 26 (Int32.toNatClampNeg x3)) g6 r10 g11 hq12) gX7_workAgain_X7_workHour rfl nY_X7_workHour ⟨Nat.le_of_ble_eq_true rfl, Nat.le_of_ble_eq_true rfl⟩ 0 yo_0 rfl rfl rfl (Nat.le_of_ble_eq_true rfl) dX7_workAgain_65 rfl ?_
      refine zj_pop hC dX7_workAgain_68 rfl ?_
      refine zj_iinc (lv1 := fun v => [(3, .int v), (2, .int r5), (0, .ref (q 0)), (1, .int x1)]) 3 hC dX7_workAgain_69 rfl (by decide) (fun _ => rfl) (fun y13 ey13 => ?_)
      have hf := z_letE hf (show y13 = x3 + 1 from ey13)
      refine zj_goto 34 hC dX7_workAgain_72 (by decide) ?_
      exact zj_sub hC [2, 3, 1, 0] rfl (hk34 (x1, r5, y13, g11) hf)
  unfold fY_X7_workAgain at hf
  refine zj_aload_n 0 hC dX7_workAgain_0 rfl ?_
  refine yg_0_2 hC hX7 (List.mem_of_getElem? (i := 1) rfl) dX7_workAgain_1 ?_
  refine yg_3_0 hC hX0 (List.mem_of_getElem? (i := 2) rfl) dX7_workAgain_4 ?_
  refine zj_top (fun y14 ey14 => ?_)
  have hf := z_letE hf ey14
  refine zj_istore_n (lv1 := [(1, .int y14), (0, .ref (q 0))]) hC dX7_workAgain_7 (by decide) rfl ?_
  refine zj_aload_n 1 hC dX7_workAgain_8 rfl ?_
  refine yg_0_0 hC hX7 (List.mem_of_getElem? (i := 3) rfl) dX7_workAgain_9 ?_
  obtain ⟨r15, g16, hq17, hf⟩ := z_bindE hf
  refine zj_callVv [] hC (cY_X2_backToLight l dC dI ca q tt g r15 g16 hq17) gX7_workAgain_X2_backToLight rfl nY_X2_backToLight ⟨Nat.le_of_ble_eq_true rfl, Nat.le_of_ble_eq_true rfl⟩ 1 yo_1 rfl rfl rfl (Nat.le_of_ble_eq_true rfl) dX7_workAgain_12 rfl ?_
  refine zj_aload_n 1 hC dX7_workAgain_15 rfl ?_
  refine yg_0_1 hC hX7 (List.mem_of_getElem? (i := 4) rfl) dX7_workAgain_16 ?_
  obtain ⟨r18, g19, hq20, hf⟩ := z_bindE hf
  refine zj_callVv [] hC (cY_X1_backToLight l dC dI ca q tt g16 r18 g19 hq20) gX7_workAgain_X1_backToLight rfl nY_X1_backToLight ⟨Nat.le_of_ble_eq_true rfl, Nat.le_of_ble_eq_true rfl⟩ 2 yo_2 rfl rfl rfl (Nat.le_of_ble_eq_true rfl) dX7_workAgain_19 rfl ?_
  refine zj_aload_n 1 hC dX7_workAgain_22 rfl ?_
  refine yg_0_2 hC hX7 (List.mem_of_getElem? (i := 1) rfl) dX7_workAgain_23 ?_
  refine zj_iconst (v := 0) hC dX7_workAgain_26 (by decide) ?_
  refine yp_3_0 hC hX0 (List.mem_of_getElem? (i := 2) rfl) dX7_workAgain_27 (fun g21 eg21 => ?_)
  have hf := z_letE hf eg21
  refine zj_iconst (v := 0) hC dX7_workAgain_30 (by decide) ?_
  refine zj_istore_n (lv1 := [(2, .int 0), (1, .int y14), (0, .ref (q 0))]) hC dX7_workAgain_31 (by decide) rfl ?_
  refine zj_iconst (v := 0) hC dX7_workAgain_32 (by decide) ?_
  refine zj_istore_n (lv1 := [(3, .int 0), (2, .int 0), (1, .int y14), (0, .ref (q 0))]) hC dX7_workAgain_33 (by decide) rfl ?_
  exact zj_sub hC [3, 2, 1, 0] rfl (hJ34 y14 0 0 g21 hf)

def fY_X2_sum_r11_4 (k4 : Int32 × Int32 × z_G → Option (Int32 × z_G)) (x2 : Int32) (x3 : Int32) (g : z_G) : Option (Int32 × z_G) := (if (g 1 4) ≤ x3 then some (x2, g) else z_ck x3 64 (z_let (x2 + (g 11 (Int32.toNatClampNeg x3))) (fun y3 => z_let (x3 + 1) (fun y4 => k4 (y3, y4, g)))))
def fY_X2_sum_r11_4_go (x2 : Int32) (x3 : Int32) (g : z_G) : Option (Int32 × z_G) := z_loop (fun k (w : Int32 × Int32 × z_G) => fY_X2_sum_r11_4 k w.1 w.2.1 w.2.2) z_fuel (x2, x3, g)
def fY_X2_sum_r11 (g : z_G) : Option (Int32 × z_G) := fY_X2_sum_r11_4_go 0 0 g
theorem nY_X2_sum_r11 : yX2_sum.cls = RX2 ∧ yX2_sum.cls ≠ "java/lang/invoke/MethodHandle" ∧ yX2_sum.cls ≠ "java/lang/invoke/VarHandle" ∧ (parseMethodDescriptor yX2_sum.desc).map (fun d => d.parameters.length) = some 1 := by decide +kernel
set_option maxRecDepth 100000 in
set_option maxHeartbeats 4000000 in
theorem cY_X2_sum_r11 (l : Launch) (dC : Nat → ClassId) (dI : Nat → Nat → Nat) (ca : Nat → ClassId) (q : Nat → Nat) (tt : Nat → Nat) (g : z_G) (r : Int32) (g' : z_G) (hf : fY_X2_sum_r11 g = some (r, g')) : z_C l yX2_sum wsX2_sum { frames := 0, cells := 0, slots := 0, locals := 0 } (dC, dI) (tyY ca) (wY ca q) (zY tt) [.ref (q 1), .ref (q 11)] g (some r) g' := by
  refine z_enter (wY_ok ca q) (zY_ok tt) (by decide +kernel) rfl (Nat.le_of_ble_eq_true rfl) (fun J hC => ?_)
  have hC : z_Cx J l cX2_sum 4 wsX2_sum RX2 (some .int) { frames := 0, cells := 0, slots := 0, locals := 0 } (dC, dI) (tyY ca) (wY ca q) (zY tt) (z_QI (dC, dI) (tyY ca) (wY ca q) (some r) g') z_X0 := hC
  show J 0 [(0, .ref (q 1)), (1, .ref (q 11))] [] g
  have hX2 : ∀ w ∈ wsX20, w ∈ wsX2_sum := fun _ h => List.mem_cons_of_mem _ (List.mem_append_right _ (h))
  have hJ4 : ∀ (x2 : Int32) (x3 : Int32) (g : z_G), fY_X2_sum_r11_4_go x2 x3 g = some (r, g') → J 4 [(0, .ref (q 1)), (1, .ref (q 11)), (2, .int x2), (3, .int x3)] [] g := by
    intro x2 x3 g hf
    refine z_loopE (P := fun w : Int32 × Int32 × z_G => J 4 [(0, .ref (q 1)), (1, .ref (q 11)), (2, .int w.1), (3, .int w.2.1)] [] w.2.2) (fun k4 hk4 w hf => ?_) z_fuel (x2, x3, g) hf
    obtain ⟨x2, x3, g⟩ := w
    have hf : fY_X2_sum_r11_4 k4 x2 x3 g = some (r, g') := hf
    show J 4 [(0, .ref (q 1)), (1, .ref (q 11)), (2, .int x2), (3, .int x3)] [] g
    unfold fY_X2_sum_r11_4 at hf
    refine zj_iload_n 3 hC dX2_sum_4 rfl ?_
    refine zj_aload_n 0 hC dX2_sum_5 rfl ?_
    refine yg_1_4 hC hX2 (List.mem_of_getElem? (i := 1) rfl) dX2_sum_6 ?_
    refine zj_icmp_ge 24 hC dX2_sum_9 (by decide) (fun c1 => ?_) (fun c1 => ?_)
    · have hf := z_iteT hf c1
      refine zj_iload_n 2 hC dX2_sum_24 rfl ?_
      exact zj_ireturn hC hf dX2_sum_25
    · have hf := z_iteF hf c1
      refine zj_iload_n 2 hC dX2_sum_12 rfl ?_
      refine zj_aload_n 1 hC dX2_sum_13 rfl ?_
      refine zj_iload_n 3 hC dX2_sum_14 rfl ?_
      obtain ⟨hq2, hf⟩ := z_ckE hf
      refine ya_11 hC hq2 dX2_sum_15 ?_
      refine zj_iadd hC dX2_sum_16 ?_
      refine zj_top (fun y3 ey3 => ?_)
      have hf := z_letE hf ey3
      refine zj_istore_n (lv1 := [(2, .int y3), (0, .ref (q 1)), (1, .ref (q 11)), (3, .int x3)]) hC dX2_sum_17 (by decide) rfl ?_
      refine zj_iinc (lv1 := fun v => [(3, .int v), (2, .int y3), (0, .ref (q 1)), (1, .ref (q 11))]) 3 hC dX2_sum_18 rfl (by decide) (fun _ => rfl) (fun y4 ey4 => ?_)
      have hf := z_letE hf (show y4 = x3 + 1 from ey4)
      refine zj_goto 4 hC dX2_sum_21 (by decide) ?_
      exact zj_sub hC [2, 3, 1, 0] rfl (hk4 (y3, y4, g) hf)
  unfold fY_X2_sum_r11 at hf
  refine zj_iconst (v := 0) hC dX2_sum_0 (by decide) ?_
  refine zj_istore_n (lv1 := [(2, .int 0), (0, .ref (q 1)), (1, .ref (q 11))]) hC dX2_sum_1 (by decide) rfl ?_
  refine zj_iconst (v := 0) hC dX2_sum_2 (by decide) ?_
  refine zj_istore_n (lv1 := [(3, .int 0), (2, .int 0), (0, .ref (q 1)), (1, .ref (q 11))]) hC dX2_sum_3 (by decide) rfl ?_
  exact zj_sub hC [2, 3, 1, 0] rfl (hJ4 0 0 g hf)

def fY_X7_again_19  (g : z_G) : Option (Int32 × z_G) := some ((-1), g)
def fY_X7_again (a0 : Int32) (a1 : Int32) (a2 : Int32) (g : z_G) : Option (Int32 × z_G) := z_bind (fY_X0_has a0 g) (fun r1 g2 => (if r1 = 0 then fY_X7_again_19 g2 else z_bind (fY_X7_isWeather a1 a2 g2) (fun r5 g6 => (if r5 = 0 then fY_X7_again_19 g6 else z_ck a0 300 (z_let (z_up g6 25 (Int32.toNatClampNeg a0) a1) (fun g10 => z_ck a0 300 (z_let (z_up g10 26 (Int32.toNatClampNeg a0) a2) (fun g12 => z_bind (fY_X7_workAgain g12) (fun r13 g14 => z_bind (fY_X2_sum_r11 g14) (fun r16 g17 => some (r16, g17)))))))))))
theorem nY_X7_again : yX7_again.cls = RX7 ∧ yX7_again.cls ≠ "java/lang/invoke/MethodHandle" ∧ yX7_again.cls ≠ "java/lang/invoke/VarHandle" ∧ (parseMethodDescriptor yX7_again.desc).map (fun d => d.parameters.length) = some 3 := by decide +kernel
set_option maxRecDepth 100000 in
set_option maxHeartbeats 4000000 in
theorem cY_X7_again (l : Launch) (dC : Nat → ClassId) (dI : Nat → Nat → Nat) (ca : Nat → ClassId) (q : Nat → Nat) (tt : Nat → Nat) (a0 : Int32) (a1 : Int32) (a2 : Int32) (g : z_G) (r : Int32) (g' : z_G) (hf : fY_X7_again a0 a1 a2 g = some (r, g')) : z_C l yX7_again wsX7_again { frames := 6, cells := 0, slots := 0, locals := 136 } (dC, dI) (tyY ca) (wY ca q) (zY tt) [.ref (q 0), .int a0, .int a1, .int a2] g (some r) g' := by
  refine z_enter (wY_ok ca q) (zY_ok tt) (by decide +kernel) rfl (Nat.le_of_ble_eq_true rfl) (fun J hC => ?_)
  have hC : z_Cx J l cX7_again 4 wsX7_again RX7 (some .int) { frames := 6, cells := 0, slots := 0, locals := 136 } (dC, dI) (tyY ca) (wY ca q) (zY tt) (z_QI (dC, dI) (tyY ca) (wY ca q) (some r) g') z_X0 := hC
  show J 0 [(0, .ref (q 0)), (1, .int a0), (2, .int a1), (3, .int a2)] [] g
  have hX0 : ∀ w ∈ wsX00, w ∈ wsX7_again := fun _ h => List.mem_cons_of_mem _ (List.mem_append_left _ (List.mem_append_left _ (List.mem_append_left _ (List.mem_append_right _ (h)))))
  have hX2 : ∀ w ∈ wsX20, w ∈ wsX7_again := fun _ h => List.mem_cons_of_mem _ (List.mem_append_left _ (List.mem_append_left _ (List.mem_append_right _ (h))))
  have hX7 : ∀ w ∈ wsX70, w ∈ wsX7_again := fun _ h => List.mem_cons_of_mem _ (List.mem_append_left _ (List.mem_append_left _ (List.mem_append_left _ (List.mem_append_left _ (List.mem_append_right _ (h))))))
  have hJ19 : ∀ (g : z_G), fY_X7_again_19 g = some (r, g') → J 19 [] [] g := by
    intro g hf
    unfold fY_X7_again_19 at hf
    refine zj_iconst (v := (-1)) hC dX7_again_19 (by decide) ?_
    exact zj_ireturn hC hf dX7_again_20
  unfold fY_X7_again at hf
  refine zj_aload_n 0 hC dX7_again_0 rfl ?_
  refine yg_0_2 hC hX7 (List.mem_of_getElem? (i := 1) rfl) dX7_again_1 ?_
  refine zj_iload_n 1 hC dX7_again_4 rfl ?_
  obtain ⟨r1, g2, hq3, hf⟩ := z_bindE hf
  refine zj_callVi [.int a0] hC (cY_X0_has l dC dI ca q tt a0 g r1 g2 hq3) gX7_again_X0_has rfl nY_X0_has ⟨Nat.le_of_ble_eq_true rfl, Nat.le_of_ble_eq_true rfl⟩ 3 yo_3 rfl rfl rfl (Nat.le_of_ble_eq_true rfl) dX7_again_5 rfl ?_
  refine zj_if_eq 19 hC dX7_again_8 (by decide) (fun c4 => ?_) (fun c4 => ?_)
  · have hf := z_iteT hf c4
    exact zj_sub hC [] rfl (hJ19 g2 hf)
  · have hf := z_iteF hf c4
    refine zj_iload_n 2 hC dX7_again_11 rfl ?_
    refine zj_iload_n 3 hC dX7_again_12 rfl ?_
    obtain ⟨r5, g6, hq7, hf⟩ := z_bindE hf
    refine zj_callSi [.int a1, .int a2] hC (cY_X7_isWeather l dC dI ca q tt a1 a2 g2 r5 g6 hq7) gX7_again_X7_isWeather rfl nY_X7_isWeather ⟨Nat.le_of_ble_eq_true rfl, Nat.le_of_ble_eq_true rfl⟩ rfl (Nat.le_of_ble_eq_true rfl) dX7_again_13 rfl ?_
    refine zj_if_ne 21 hC dX7_again_16 (by decide) (fun c8 => ?_) (fun c8 => ?_)
    · have hf := z_iteF hf c8
      refine zj_aload_n 0 hC dX7_again_21 rfl ?_
      refine yg_0_2 hC hX7 (List.mem_of_getElem? (i := 1) rfl) dX7_again_22 ?_
      refine yg_3_1 hC hX0 (List.mem_of_getElem? (i := 2) rfl) dX7_again_25 ?_
      refine zj_iload_n 1 hC dX7_again_28 rfl ?_
      refine zj_iload_n 2 hC dX7_again_29 rfl ?_
      obtain ⟨hq9, hf⟩ := z_ckE hf
      refine ys_25 hC hq9 dX7_again_30 (fun g10 eg10 => ?_)
      have hf := z_letE hf eg10
      refine zj_aload_n 0 hC dX7_again_31 rfl ?_
      refine yg_0_2 hC hX7 (List.mem_of_getElem? (i := 1) rfl) dX7_again_32 ?_
      refine yg_3_2 hC hX0 (List.mem_of_getElem? (i := 3) rfl) dX7_again_35 ?_
      refine zj_iload_n 1 hC dX7_again_38 rfl ?_
      refine zj_iload_n 3 hC dX7_again_39 rfl ?_
      obtain ⟨hq11, hf⟩ := z_ckE hf
      refine ys_26 hC hq11 dX7_again_40 (fun g12 eg12 => ?_)
      have hf := z_letE hf eg12
      refine zj_aload_n 0 hC dX7_again_41 rfl ?_
      obtain ⟨r13, g14, hq15, hf⟩ := z_bindE hf
      refine zj_callVv [] hC (cY_X7_workAgain l dC dI ca q tt g12 r13 g14 hq15) gX7_again_X7_workAgain rfl nY_X7_workAgain ⟨Nat.le_of_ble_eq_true rfl, Nat.le_of_ble_eq_true rfl⟩ 0 yo_0 rfl rfl rfl (Nat.le_of_ble_eq_true rfl) dX7_again_42 rfl ?_
      refine zj_aload_n 0 hC dX7_again_45 rfl ?_
      refine yg_0_0 hC hX7 (List.mem_of_getElem? (i := 4) rfl) dX7_again_46 ?_
      refine zj_aload_n 0 hC dX7_again_49 rfl ?_
      refine yg_0_0 hC hX7 (List.mem_of_getElem? (i := 4) rfl) dX7_again_50 ?_
      refine yg_1_8 hC hX2 (List.mem_of_getElem? (i := 5) rfl) dX7_again_53 ?_
      obtain ⟨r16, g17, hq18, hf⟩ := z_bindE hf
      refine zj_callVi [.ref (q 11)] hC (cY_X2_sum_r11 l dC dI ca q tt g14 r16 g17 hq18) gX7_again_X2_sum rfl nY_X2_sum_r11 ⟨Nat.le_of_ble_eq_true rfl, Nat.le_of_ble_eq_true rfl⟩ 1 yo_1 rfl rfl rfl (Nat.le_of_ble_eq_true rfl) dX7_again_56 rfl ?_
      exact zj_ireturn hC hf dX7_again_59
    · have hf := z_iteT hf c8
      exact zj_sub hC [] rfl (hJ19 g6 hf)

def fY_X7_rake (g : z_G) : Option (Int32 × z_G) := (if (g 0 7) = 0 then some ((-1), g) else z_bind (fY_X2_sum_r11 g) (fun r2 g3 => z_let (r2 / 25) (fun y5 => z_let (z_up g3 0 9 ((g3 0 9) + y5)) (fun g6 => z_bind (fY_X2_build (g6 1 0) (g6 1 1) g6) (fun r7 g8 => z_bind (fY_X1_shutAll g8) (fun r10 g11 => z_bind (fY_X0_forget g11) (fun r13 g14 => z_let (z_up g14 0 7 0) (fun g16 => some (y5, g16)))))))))
theorem nY_X7_rake : yX7_rake.cls = RX7 ∧ yX7_rake.cls ≠ "java/lang/invoke/MethodHandle" ∧ yX7_rake.cls ≠ "java/lang/invoke/VarHandle" ∧ (parseMethodDescriptor yX7_rake.desc).map (fun d => d.parameters.length) = some 0 := by decide +kernel
set_option maxRecDepth 100000 in
set_option maxHeartbeats 4000000 in
theorem cY_X7_rake (l : Launch) (dC : Nat → ClassId) (dI : Nat → Nat → Nat) (ca : Nat → ClassId) (q : Nat → Nat) (tt : Nat → Nat) (g : z_G) (r : Int32) (g' : z_G) (hf : fY_X7_rake g = some (r, g')) : z_C l yX7_rake wsX7_rake { frames := 3, cells := 0, slots := 0, locals := 67 } (dC, dI) (tyY ca) (wY ca q) (zY tt) [.ref (q 0)] g (some r) g' := by
  refine z_enter (wY_ok ca q) (zY_ok tt) (by decide +kernel) rfl (Nat.le_of_ble_eq_true rfl) (fun J hC => ?_)
  have hC : z_Cx J l cX7_rake 2 wsX7_rake RX7 (some .int) { frames := 3, cells := 0, slots := 0, locals := 67 } (dC, dI) (tyY ca) (wY ca q) (zY tt) (z_QI (dC, dI) (tyY ca) (wY ca q) (some r) g') z_X0 := hC
  show J 0 [(0, .ref (q 0))] [] g
  have hX2 : ∀ w ∈ wsX20, w ∈ wsX7_rake := fun _ h => List.mem_cons_of_mem _ (List.mem_append_left _ (List.mem_append_left _ (List.mem_append_right _ (h))))
  have hX7 : ∀ w ∈ wsX70, w ∈ wsX7_rake := fun _ h => List.mem_cons_of_mem _ (List.mem_append_left _ (List.mem_append_left _ (List.mem_append_left _ (List.mem_append_right _ (h)))))
  unfold fY_X7_rake at hf
  refine zj_aload_n 0 hC dX7_rake_0 rfl ?_
  refine yg_0_7 hC hX7 (List.mem_of_getElem? (i := 1) rfl) dX7_rake_1 ?_
  refine zj_if_ne 9 hC dX7_rake_4 (by decide) (fun c1 => ?_) (fun c1 => ?_)
  · have hf := z_iteF hf c1
    refine zj_aload_n 0 hC dX7_rake_9 rfl ?_
    refine yg_0_0 hC hX7 (List.mem_of_getElem? (i := 2) rfl) dX7_rake_10 ?_
    refine zj_aload_n 0 hC dX7_rake_13 rfl ?_
    refine yg_0_0 hC hX7 (List.mem_of_getElem? (i := 2) rfl) dX7_rake_14 ?_
    refine yg_1_8 hC hX2 (List.mem_of_getElem? (i := 3) rfl) dX7_rake_17 ?_
    obtain ⟨r2, g3, hq4, hf⟩ := z_bindE hf
    refine zj_callVi [.ref (q 11)] hC (cY_X2_sum_r11 l dC dI ca q tt g r2 g3 hq4) gX7_rake_X2_sum rfl nY_X2_sum_r11 ⟨Nat.le_of_ble_eq_true rfl, Nat.le_of_ble_eq_true rfl⟩ 1 yo_1 rfl rfl rfl (Nat.le_of_ble_eq_true rfl) dX7_rake_20 rfl ?_
    refine zj_bipush (v := 25) hC dX7_rake_23 (by decide) ?_
    refine zj_idiv hC dX7_rake_25 (by decide) ?_
    refine zj_top (fun y5 ey5 => ?_)
    have hf := z_letE hf ey5
    refine zj_istore_n (lv1 := [(1, .int y5), (0, .ref (q 0))]) hC dX7_rake_26 (by decide) rfl ?_
    refine zj_aload_n 1 hC dX7_rake_27 rfl ?_
    refine zj_dup hC dX7_rake_28 rfl ?_
    refine yg_0_9 hC hX7 (List.mem_of_getElem? (i := 4) rfl) dX7_rake_29 ?_
    refine zj_iload_n 0 hC dX7_rake_32 rfl ?_
    refine zj_iadd hC dX7_rake_33 ?_
    refine yp_0_9 hC hX7 (List.mem_of_getElem? (i := 4) rfl) dX7_rake_34 (fun g6 eg6 => ?_)
    have hf := z_letE hf eg6
    refine zj_aload_n 1 hC dX7_rake_37 rfl ?_
    refine yg_0_0 hC hX7 (List.mem_of_getElem? (i := 2) rfl) dX7_rake_38 ?_
    refine zj_aload_n 1 hC dX7_rake_41 rfl ?_
    refine yg_0_0 hC hX7 (List.mem_of_getElem? (i := 2) rfl) dX7_rake_42 ?_
    refine yg_1_0 hC hX2 (List.mem_of_getElem? (i := 5) rfl) dX7_rake_45 ?_
    refine zj_aload_n 1 hC dX7_rake_48 rfl ?_
    refine yg_0_0 hC hX7 (List.mem_of_getElem? (i := 2) rfl) dX7_rake_49 ?_
    refine yg_1_1 hC hX2 (List.mem_of_getElem? (i := 6) rfl) dX7_rake_52 ?_
    obtain ⟨r7, g8, hq9, hf⟩ := z_bindE hf
    refine zj_callVv [.int (g6 1 0), .int (g6 1 1)] hC (cY_X2_build l dC dI ca q tt (g6 1 0) (g6 1 1) g6 r7 g8 hq9) gX7_rake_X2_build rfl nY_X2_build ⟨Nat.le_of_ble_eq_true rfl, Nat.le_of_ble_eq_true rfl⟩ 1 yo_1 rfl rfl rfl (Nat.le_of_ble_eq_true rfl) dX7_rake_55 rfl ?_
    refine zj_aload_n 1 hC dX7_rake_58 rfl ?_
    refine yg_0_1 hC hX7 (List.mem_of_getElem? (i := 7) rfl) dX7_rake_59 ?_
    obtain ⟨r10, g11, hq12, hf⟩ := z_bindE hf
    refine zj_callVv [] hC (cY_X1_shutAll l dC dI ca q tt g8 r10 g11 hq12) gX7_rake_X1_shutAll rfl nY_X1_shutAll ⟨Nat.le_of_ble_eq_true rfl, Nat.le_of_ble_eq_true rfl⟩ 2 yo_2 rfl rfl rfl (Nat.le_of_ble_eq_true rfl) dX7_rake_62 rfl ?_
    refine zj_aload_n 1 hC dX7_rake_65 rfl ?_
    refine yg_0_2 hC hX7 (List.mem_of_getElem? (i := 8) rfl) dX7_rake_66 ?_
    obtain ⟨r13, g14, hq15, hf⟩ := z_bindE hf
    refine zj_callVv [] hC (cY_X0_forget l dC dI ca q tt g11 r13 g14 hq15) gX7_rake_X0_forget rfl nY_X0_forget ⟨Nat.le_of_ble_eq_true rfl, Nat.le_of_ble_eq_true rfl⟩ 3 yo_3 rfl rfl rfl (Nat.le_of_ble_eq_true rfl) dX7_rake_69 rfl ?_
    refine zj_aload_n 1 hC dX7_rake_72 rfl ?_
    refine zj_iconst (v := 0) hC dX7_rake_73 (by decide) ?_
    refine yp_0_7 hC hX7 (List.mem_of_getElem? (i := 1) rfl) (by decide) dX7_rake_74 (fun g16 eg16 => ?_)
    have hf := z_letE hf eg16
    refine zj_iload_n 0 hC dX7_rake_77 rfl ?_
    exact zj_ireturn hC hf dX7_rake_78
  · have hf := z_iteT hf c1
    refine zj_iconst (v := (-1)) hC dX7_rake_7 (by decide) ?_
    exact zj_ireturn hC hf dX7_rake_8

def fY_X7_count_124 (s0 : Int32) (g : z_G) : Option (Int32 × z_G) := some (s0, g)
def fY_X7_count (a0 : Int32) (g : z_G) : Option (Int32 × z_G) := (if a0 = 0 then some (g 1 0, g) else (if a0 = 1 then some (g 1 1, g) else (if a0 = 2 then some (g 2 0, g) else (if a0 = 3 then z_bind (fY_X1_countOpen g) (fun r5 g6 => some (r5, g6)) else (if a0 = 4 then some (g 5 0, g) else (if a0 = 5 then some (g 3 0, g) else (if a0 = 6 then (if (g 0 7) = 0 then fY_X7_count_124 0 g else fY_X7_count_124 1 g) else (if a0 = 7 then z_bind (fY_X2_sum_r14 g) (fun r13 g14 => some (r13, g14)) else (if a0 = 8 then some (g 3 7, g) else (if a0 = 9 then some (g 7 0, g) else (if a0 = 10 then some (g 4 0, g) else (if a0 = 11 then some (g 0 9, g) else some ((-1), g)))))))))))))
theorem nY_X7_count : yX7_count.cls = RX7 ∧ yX7_count.cls ≠ "java/lang/invoke/MethodHandle" ∧ yX7_count.cls ≠ "java/lang/invoke/VarHandle" ∧ (parseMethodDescriptor yX7_count.desc).map (fun d => d.parameters.length) = some 1 := by decide +kernel
set_option maxRecDepth 100000 in
set_option maxHeartbeats 4000000 in
theorem cY_X7_count (l : Launch) (dC : Nat → ClassId) (dI : Nat → Nat → Nat) (ca : Nat → ClassId) (q : Nat → Nat) (tt : Nat → Nat) (a0 : Int32) (g : z_G) (r : Int32) (g' : z_G) (hf : fY_X7_count a0 g = some (r, g')) : z_C l yX7_count wsX7_count { frames := 1, cells := 0, slots := 0, locals := 23 } (dC, dI) (tyY ca) (wY ca q) (zY tt) [.ref (q 0), .int a0] g (some r) g' := by
  refine z_enter (wY_ok ca q) (zY_ok tt) (by decide +kernel) rfl (Nat.le_of_ble_eq_true rfl) (fun J hC => ?_)
  have hC : z_Cx J l cX7_count 2 wsX7_count RX7 (some .int) { frames := 1, cells := 0, slots := 0, locals := 23 } (dC, dI) (tyY ca) (wY ca q) (zY tt) (z_QI (dC, dI) (tyY ca) (wY ca q) (some r) g') z_X0 := hC
  show J 0 [(0, .ref (q 0)), (1, .int a0)] [] g
  have hX0 : ∀ w ∈ wsX00, w ∈ wsX7_count := fun _ h => List.mem_cons_of_mem _ (List.mem_append_left _ (List.mem_append_left _ (List.mem_append_right _ (h))))
  have hX1 : ∀ w ∈ wsX10, w ∈ wsX7_count := fun _ h => List.mem_cons_of_mem _ (List.mem_append_left _ (List.mem_append_left _ (List.mem_append_left _ (List.mem_append_left _ (List.mem_append_right _ (h))))))
  have hX2 : ∀ w ∈ wsX20, w ∈ wsX7_count := fun _ h => List.mem_cons_of_mem _ (List.mem_append_left _ (List.mem_append_left _ (List.mem_append_left _ (List.mem_append_left _ (List.mem_append_left _ (List.mem_append_right _ (h)))))))
  have hX4 : ∀ w ∈ wsX40, w ∈ wsX7_count := fun _ h => List.mem_cons_of_mem _ (List.mem_append_left _ (List.mem_append_left _ (List.mem_append_left _ (List.mem_append_right _ (h)))))
  have hX5 : ∀ w ∈ wsX50, w ∈ wsX7_count := fun _ h => List.mem_cons_of_mem _ (List.mem_append_right _ (h))
  have hX6 : ∀ w ∈ wsX60, w ∈ wsX7_count := fun _ h => List.mem_cons_of_mem _ (List.mem_append_left _ (List.mem_append_right _ (h)))
  have hX7 : ∀ w ∈ wsX70, w ∈ wsX7_count := fun _ h => List.mem_cons_of_mem _ (List.mem_append_left _ (List.mem_append_left _ (List.mem_append_left _ (List.mem_append_left _ (List.mem_append_left _ (List.mem_append_left _ (List.mem_append_right _ (h))))))))
  have hJ124 : ∀ (s0 : Int32) (g : z_G), fY_X7_count_124 s0 g = some (r, g') → J 124 [] [.int s0] g := by
    intro s0 g hf
    unfold fY_X7_count_124 at hf
    exact zj_ireturn hC hf dX7_count_124
  unfold fY_X7_count at hf
  refine zj_iload_n 1 hC dX7_count_0 rfl ?_
  by_cases c1 : a0 = 0
  · have hf := z_iteT hf c1
    refine zj_tabIn 64 hC dX7_count_1 c1 (by decide) (by decide) rfl (by decide) ?_
    refine zj_aload_n 0 hC dX7_count_64 rfl ?_
    refine yg_0_0 hC hX7 (List.mem_of_getElem? (i := 1) rfl) dX7_count_65 ?_
    refine yg_1_0 hC hX2 (List.mem_of_getElem? (i := 2) rfl) dX7_count_68 ?_
    exact zj_ireturn hC hf dX7_count_71
  have hf := z_iteF hf c1
  by_cases c2 : a0 = 1
  · have hf := z_iteT hf c2
    refine zj_tabIn 72 hC dX7_count_1 c2 (by decide) (by decide) rfl (by decide) ?_
    refine zj_aload_n 0 hC dX7_count_72 rfl ?_
    refine yg_0_0 hC hX7 (List.mem_of_getElem? (i := 1) rfl) dX7_count_73 ?_
    refine yg_1_1 hC hX2 (List.mem_of_getElem? (i := 3) rfl) dX7_count_76 ?_
    exact zj_ireturn hC hf dX7_count_79
  have hf := z_iteF hf c2
  by_cases c3 : a0 = 2
  · have hf := z_iteT hf c3
    refine zj_tabIn 80 hC dX7_count_1 c3 (by decide) (by decide) rfl (by decide) ?_
    refine zj_aload_n 0 hC dX7_count_80 rfl ?_
    refine yg_0_1 hC hX7 (List.mem_of_getElem? (i := 4) rfl) dX7_count_81 ?_
    refine yg_2_0 hC hX1 (List.mem_of_getElem? (i := 5) rfl) dX7_count_84 ?_
    exact zj_ireturn hC hf dX7_count_87
  have hf := z_iteF hf c3
  by_cases c4 : a0 = 3
  · have hf := z_iteT hf c4
    refine zj_tabIn 88 hC dX7_count_1 c4 (by decide) (by decide) rfl (by decide) ?_
    refine zj_aload_n 0 hC dX7_count_88 rfl ?_
    refine yg_0_1 hC hX7 (List.mem_of_getElem? (i := 4) rfl) dX7_count_89 ?_
    obtain ⟨r5, g6, hq7, hf⟩ := z_bindE hf
    refine zj_callVi [] hC (cY_X1_countOpen l dC dI ca q tt g r5 g6 hq7) gX7_count_X1_countOpen rfl nY_X1_countOpen ⟨Nat.le_of_ble_eq_true rfl, Nat.le_of_ble_eq_true rfl⟩ 2 yo_2 rfl rfl rfl (Nat.le_of_ble_eq_true rfl) dX7_count_92 rfl ?_
    exact zj_ireturn hC hf dX7_count_95
  have hf := z_iteF hf c4
  by_cases c8 : a0 = 4
  · have hf := z_iteT hf c8
    refine zj_tabIn 96 hC dX7_count_1 c8 (by decide) (by decide) rfl (by decide) ?_
    refine zj_aload_n 0 hC dX7_count_96 rfl ?_
    refine yg_0_4 hC hX7 (List.mem_of_getElem? (i := 6) rfl) dX7_count_97 ?_
    refine yg_5_0 hC hX4 (List.mem_of_getElem? (i := 7) rfl) dX7_count_100 ?_
    exact zj_ireturn hC hf dX7_count_103
  have hf := z_iteF hf c8
  by_cases c9 : a0 = 5
  · have hf := z_iteT hf c9
    refine zj_tabIn 104 hC dX7_count_1 c9 (by decide) (by decide) rfl (by decide) ?_
    refine zj_aload_n 0 hC dX7_count_104 rfl ?_
    refine yg_0_2 hC hX7 (List.mem_of_getElem? (i := 8) rfl) dX7_count_105 ?_
    refine yg_3_0 hC hX0 (List.mem_of_getElem? (i := 9) rfl) dX7_count_108 ?_
    exact zj_ireturn hC hf dX7_count_111
  have hf := z_iteF hf c9
  by_cases c10 : a0 = 6
  · have hf := z_iteT hf c10
    refine zj_tabIn 112 hC dX7_count_1 c10 (by decide) (by decide) rfl (by decide) ?_
    refine zj_aload_n 0 hC dX7_count_112 rfl ?_
    refine yg_0_7 hC hX7 (List.mem_of_getElem? (i := 10) rfl) dX7_count_113 ?_
    refine zj_if_eq 123 hC dX7_count_116 (by decide) (fun c11 => ?_) (fun c11 => ?_)
    · have hf := z_iteT hf c11
      refine zj_iconst (v := 0) hC dX7_count_123 (by decide) ?_
      exact zj_sub hC [] rfl (hJ124 0 g hf)
    · have hf := z_iteF hf c11
      refine zj_iconst (v := 1) hC dX7_count_119 (by decide) ?_
      refine zj_goto 124 hC dX7_count_120 (by decide) ?_
      exact zj_sub hC [] rfl (hJ124 1 g hf)
  have hf := z_iteF hf c10
  by_cases c12 : a0 = 7
  · have hf := z_iteT hf c12
    refine zj_tabIn 125 hC dX7_count_1 c12 (by decide) (by decide) rfl (by decide) ?_
    refine zj_aload_n 0 hC dX7_count_125 rfl ?_
    refine yg_0_0 hC hX7 (List.mem_of_getElem? (i := 1) rfl) dX7_count_126 ?_
    refine zj_aload_n 0 hC dX7_count_129 rfl ?_
    refine yg_0_0 hC hX7 (List.mem_of_getElem? (i := 1) rfl) dX7_count_130 ?_
    refine yg_1_11 hC hX2 (List.mem_of_getElem? (i := 11) rfl) dX7_count_133 ?_
    obtain ⟨r13, g14, hq15, hf⟩ := z_bindE hf
    refine zj_callVi [.ref (q 14)] hC (cY_X2_sum_r14 l dC dI ca q tt g r13 g14 hq15) gX7_count_X2_sum rfl nY_X2_sum_r14 ⟨Nat.le_of_ble_eq_true rfl, Nat.le_of_ble_eq_true rfl⟩ 1 yo_1 rfl rfl rfl (Nat.le_of_ble_eq_true rfl) dX7_count_136 rfl ?_
    exact zj_ireturn hC hf dX7_count_139
  have hf := z_iteF hf c12
  by_cases c16 : a0 = 8
  · have hf := z_iteT hf c16
    refine zj_tabIn 140 hC dX7_count_1 c16 (by decide) (by decide) rfl (by decide) ?_
    refine zj_aload_n 0 hC dX7_count_140 rfl ?_
    refine yg_0_2 hC hX7 (List.mem_of_getElem? (i := 8) rfl) dX7_count_141 ?_
    refine yg_3_7 hC hX0 (List.mem_of_getElem? (i := 12) rfl) dX7_count_144 ?_
    exact zj_ireturn hC hf dX7_count_147
  have hf := z_iteF hf c16
  by_cases c17 : a0 = 9
  · have hf := z_iteT hf c17
    refine zj_tabIn 148 hC dX7_count_1 c17 (by decide) (by decide) rfl (by decide) ?_
    refine zj_aload_n 0 hC dX7_count_148 rfl ?_
    refine yg_0_6 hC hX7 (List.mem_of_getElem? (i := 13) rfl) dX7_count_149 ?_
    refine yg_7_0 hC hX6 (List.mem_of_getElem? (i := 14) rfl) dX7_count_152 ?_
    exact zj_ireturn hC hf dX7_count_155
  have hf := z_iteF hf c17
  by_cases c18 : a0 = 10
  · have hf := z_iteT hf c18
    refine zj_tabIn 156 hC dX7_count_1 c18 (by decide) (by decide) rfl (by decide) ?_
    refine zj_aload_n 0 hC dX7_count_156 rfl ?_
    refine yg_0_3 hC hX7 (List.mem_of_getElem? (i := 15) rfl) dX7_count_157 ?_
    refine yg_4_0 hC hX5 (List.mem_of_getElem? (i := 16) rfl) dX7_count_160 ?_
    exact zj_ireturn hC hf dX7_count_163
  have hf := z_iteF hf c18
  by_cases c19 : a0 = 11
  · have hf := z_iteT hf c19
    refine zj_tabIn 164 hC dX7_count_1 c19 (by decide) (by decide) rfl (by decide) ?_
    refine zj_aload_n 0 hC dX7_count_164 rfl ?_
    refine yg_0_9 hC hX7 (List.mem_of_getElem? (i := 17) rfl) dX7_count_165 ?_
    exact zj_ireturn hC hf dX7_count_168
  have hf := z_iteF hf c19
  refine zj_tabOut 169 hC dX7_count_1 (by have ec1 := lv_neT (a := 0) c1 rfl; have ec2 := lv_neT (a := 1) c2 rfl; have ec3 := lv_neT (a := 2) c3 rfl; have ec4 := lv_neT (a := 3) c4 rfl; have ec8 := lv_neT (a := 4) c8 rfl; have ec9 := lv_neT (a := 5) c9 rfl; have ec10 := lv_neT (a := 6) c10 rfl; have ec12 := lv_neT (a := 7) c12 rfl; have ec16 := lv_neT (a := 8) c16 rfl; have ec17 := lv_neT (a := 9) c17 rfl; have ec18 := lv_neT (a := 10) c18 rfl; have ec19 := lv_neT (a := 11) c19 rfl; omega) (by decide) ?_
  refine zj_iconst (v := (-1)) hC dX7_count_169 (by decide) ?_
  exact zj_ireturn hC hf dX7_count_170

def fY_X7_cell_22  (g : z_G) : Option (Int32 × z_G) := none
def fY_X7_cell_170 (s0 : Int32) (g : z_G) : Option (Int32 × z_G) := some (s0, g)
def fY_X7_cell (a0 : Int32) (a1 : Int32) (a2 : Int32) (g : z_G) : Option (Int32 × z_G) := z_bind (fY_X2_holds a0 a1 g) (fun r1 g2 => (if r1 = 0 then fY_X7_cell_22 g2 else (if a2 < 0 then fY_X7_cell_22 g2 else (if a2 ≤ 8 then z_bind (fY_X2_at a0 a1 g2) (fun r7 g8 => (if a2 = 0 then z_ck r7 64 (some (g8 10 (Int32.toNatClampNeg r7), g8)) else (if a2 = 1 then z_ck r7 64 (some (g8 11 (Int32.toNatClampNeg r7), g8)) else (if a2 = 2 then z_ck r7 64 (some (g8 12 (Int32.toNatClampNeg r7), g8)) else (if a2 = 3 then z_ck r7 64 (some (g8 13 (Int32.toNatClampNeg r7), g8)) else (if a2 = 4 then z_ck r7 64 (some (g8 14 (Int32.toNatClampNeg r7), g8)) else (if a2 = 5 then z_ck r7 64 ((if (g8 9 (Int32.toNatClampNeg r7)) = 0 then fY_X7_cell_170 (-1) g8 else z_ck r7 64 (fY_X7_cell_170 (g8 15 (Int32.toNatClampNeg r7)) g8))) else (if a2 = 6 then z_ck r7 64 (some (g8 16 (Int32.toNatClampNeg r7), g8)) else (if a2 = 7 then z_ck r7 64 (some (g8 17 (Int32.toNatClampNeg r7), g8)) else z_ck r7 64 (some (g8 18 (Int32.toNatClampNeg r7), g8))))))))))) else fY_X7_cell_22 g2))))
theorem nY_X7_cell : yX7_cell.cls = RX7 ∧ yX7_cell.cls ≠ "java/lang/invoke/MethodHandle" ∧ yX7_cell.cls ≠ "java/lang/invoke/VarHandle" ∧ (parseMethodDescriptor yX7_cell.desc).map (fun d => d.parameters.length) = some 3 := by decide +kernel
set_option maxRecDepth 100000 in
set_option maxHeartbeats 4000000 in
theorem cY_X7_cell (l : Launch) (dC : Nat → ClassId) (dI : Nat → Nat → Nat) (ca : Nat → ClassId) (q : Nat → Nat) (tt : Nat → Nat) (a0 : Int32) (a1 : Int32) (a2 : Int32) (g : z_G) (r : Int32) (g' : z_G) (hf : fY_X7_cell a0 a1 a2 g = some (r, g')) : z_C l yX7_cell wsX7_cell { frames := 1, cells := 0, slots := 0, locals := 22 } (dC, dI) (tyY ca) (wY ca q) (zY tt) [.ref (q 0), .int a0, .int a1, .int a2] g (some r) g' := by
  refine z_enter (wY_ok ca q) (zY_ok tt) (by decide +kernel) rfl (Nat.le_of_ble_eq_true rfl) (fun J hC => ?_)
  have hC : z_Cx J l cX7_cell 5 wsX7_cell RX7 (some .int) { frames := 1, cells := 0, slots := 0, locals := 22 } (dC, dI) (tyY ca) (wY ca q) (zY tt) (z_QI (dC, dI) (tyY ca) (wY ca q) (some r) g') z_X0 := hC
  show J 0 [(0, .ref (q 0)), (1, .int a0), (2, .int a1), (3, .int a2)] [] g
  have hX2 : ∀ w ∈ wsX20, w ∈ wsX7_cell := fun _ h => List.mem_cons_of_mem _ (List.mem_append_left _ (List.mem_append_right _ (h)))
  have hX7 : ∀ w ∈ wsX70, w ∈ wsX7_cell := fun _ h => List.mem_cons_of_mem _ (List.mem_append_left _ (List.mem_append_left _ (List.mem_append_right _ (h))))
  have hJ22 : ∀ (g : z_G), fY_X7_cell_22 g = some (r, g') → J 22 [] [] g := by
    intro g hf
    unfold fY_X7_cell_22 at hf
    cases hf
  have hJ170 : ∀ (s0 : Int32) (g : z_G), fY_X7_cell_170 s0 g = some (r, g') → J 170 [] [.int s0] g := by
    intro s0 g hf
    unfold fY_X7_cell_170 at hf
    exact zj_ireturn hC hf dX7_cell_170
  unfold fY_X7_cell at hf
  refine zj_aload_n 0 hC dX7_cell_0 rfl ?_
  refine yg_0_0 hC hX7 (List.mem_of_getElem? (i := 3) rfl) dX7_cell_1 ?_
  refine zj_iload_n 1 hC dX7_cell_4 rfl ?_
  refine zj_iload_n 2 hC dX7_cell_5 rfl ?_
  obtain ⟨r1, g2, hq3, hf⟩ := z_bindE hf
  refine zj_callVi [.int a0, .int a1] hC (cY_X2_holds l dC dI ca q tt a0 a1 g r1 g2 hq3) gX7_cell_X2_holds rfl nY_X2_holds ⟨Nat.le_of_ble_eq_true rfl, Nat.le_of_ble_eq_true rfl⟩ 1 yo_1 rfl rfl rfl (Nat.le_of_ble_eq_true rfl) dX7_cell_6 rfl ?_
  refine zj_if_eq 22 hC dX7_cell_9 (by decide) (fun c4 => ?_) (fun c4 => ?_)
  · have hf := z_iteT hf c4
    exact zj_sub hC [] rfl (hJ22 g2 hf)
  · have hf := z_iteF hf c4
    refine zj_iload_n 3 hC dX7_cell_12 rfl ?_
    refine zj_if_lt 22 hC dX7_cell_13 (by decide) (fun c5 => ?_) (fun c5 => ?_)
    · have hf := z_iteT hf c5
      exact zj_sub hC [] rfl (hJ22 g2 hf)
    · have hf := z_iteF hf c5
      refine zj_iload_n 3 hC dX7_cell_16 rfl ?_
      refine zj_bipush (v := 8) hC dX7_cell_17 (by decide) ?_
      refine zj_icmp_le 30 hC dX7_cell_19 (by decide) (fun c6 => ?_) (fun c6 => ?_)
      · have hf := z_iteT hf c6
        refine zj_aload_n 0 hC dX7_cell_30 rfl ?_
        refine yg_0_0 hC hX7 (List.mem_of_getElem? (i := 3) rfl) dX7_cell_31 ?_
        refine zj_iload_n 1 hC dX7_cell_34 rfl ?_
        refine zj_iload_n 2 hC dX7_cell_35 rfl ?_
        obtain ⟨r7, g8, hq9, hf⟩ := z_bindE hf
        refine zj_callVi [.int a0, .int a1] hC (cY_X2_at l dC dI ca q tt a0 a1 g2 r7 g8 hq9) gX7_cell_X2_at rfl nY_X2_at ⟨Nat.le_of_ble_eq_true rfl, Nat.le_of_ble_eq_true rfl⟩ 1 yo_1 rfl rfl rfl (Nat.le_of_ble_eq_true rfl) dX7_cell_36 rfl ?_
        refine zj_istore (lv1 := [(4, .int r7), (0, .ref (q 0)), (1, .int a0), (2, .int a1), (3, .int a2)]) hC dX7_cell_39 (by decide) rfl ?_
        refine zj_iload_n 4 hC dX7_cell_41 rfl ?_
        by_cases c10 : a2 = 0
        · have hf := z_iteT hf c10
          refine zj_tabIn 88 hC dX7_cell_42 c10 (by decide) (by decide) rfl (by decide) ?_
          refine zj_aload_n 1 hC dX7_cell_88 rfl ?_
          refine yg_0_0 hC hX7 (List.mem_of_getElem? (i := 3) rfl) dX7_cell_89 ?_
          refine yg_1_7 hC hX2 (List.mem_of_getElem? (i := 4) rfl) dX7_cell_92 ?_
          refine zj_iload 0 hC dX7_cell_95 rfl ?_
          obtain ⟨hq11, hf⟩ := z_ckE hf
          refine ya_10 hC hq11 dX7_cell_97 ?_
          exact zj_ireturn hC hf dX7_cell_98
        have hf := z_iteF hf c10
        by_cases c12 : a2 = 1
        · have hf := z_iteT hf c12
          refine zj_tabIn 99 hC dX7_cell_42 c12 (by decide) (by decide) rfl (by decide) ?_
          refine zj_aload_n 1 hC dX7_cell_99 rfl ?_
          refine yg_0_0 hC hX7 (List.mem_of_getElem? (i := 3) rfl) dX7_cell_100 ?_
          refine yg_1_8 hC hX2 (List.mem_of_getElem? (i := 5) rfl) dX7_cell_103 ?_
          refine zj_iload 0 hC dX7_cell_106 rfl ?_
          obtain ⟨hq13, hf⟩ := z_ckE hf
          refine ya_11 hC hq13 dX7_cell_108 ?_
          exact zj_ireturn hC hf dX7_cell_109
        have hf := z_iteF hf c12
        by_cases c14 : a2 = 2
        · have hf := z_iteT hf c14
          refine zj_tabIn 110 hC dX7_cell_42 c14 (by decide) (by decide) rfl (by decide) ?_
          refine zj_aload_n 1 hC dX7_cell_110 rfl ?_
          refine yg_0_0 hC hX7 (List.mem_of_getElem? (i := 3) rfl) dX7_cell_111 ?_
          refine yg_1_9 hC hX2 (List.mem_of_getElem? (i := 6) rfl) dX7_cell_114 ?_
          refine zj_iload 0 hC dX7_cell_117 rfl ?_
          obtain ⟨hq15, hf⟩ := z_ckE hf
          refine ya_12 hC hq15 dX7_cell_119 ?_
          exact zj_ireturn hC hf dX7_cell_120
        have hf := z_iteF hf c14
        by_cases c16 : a2 = 3
        · have hf := z_iteT hf c16
          refine zj_tabIn 121 hC dX7_cell_42 c16 (by decide) (by decide) rfl (by decide) ?_
          refine zj_aload_n 1 hC dX7_cell_121 rfl ?_
          refine yg_0_0 hC hX7 (List.mem_of_getElem? (i := 3) rfl) dX7_cell_122 ?_
          refine yg_1_10 hC hX2 (List.mem_of_getElem? (i := 7) rfl) dX7_cell_125 ?_
          refine zj_iload 0 hC dX7_cell_128 rfl ?_
          obtain ⟨hq17, hf⟩ := z_ckE hf
          refine ya_13 hC hq17 dX7_cell_130 ?_
          exact zj_ireturn hC hf dX7_cell_131
        have hf := z_iteF hf c16
        by_cases c18 : a2 = 4
        · have hf := z_iteT hf c18
          refine zj_tabIn 132 hC dX7_cell_42 c18 (by decide) (by decide) rfl (by decide) ?_
          refine zj_aload_n 1 hC dX7_cell_132 rfl ?_
          refine yg_0_0 hC hX7 (List.mem_of_getElem? (i := 3) rfl) dX7_cell_133 ?_
          refine yg_1_11 hC hX2 (List.mem_of_getElem? (i := 8) rfl) dX7_cell_136 ?_
          refine zj_iload 0 hC dX7_cell_139 rfl ?_
          obtain ⟨hq19, hf⟩ := z_ckE hf
          refine ya_14 hC hq19 dX7_cell_141 ?_
          exact zj_ireturn hC hf dX7_cell_142
        have hf := z_iteF hf c18
        by_cases c20 : a2 = 5
        · have hf := z_iteT hf c20
          refine zj_tabIn 143 hC dX7_cell_42 c20 (by decide) (by decide) rfl (by decide) ?_
          refine zj_aload_n 1 hC dX7_cell_143 rfl ?_
          refine yg_0_0 hC hX7 (List.mem_of_getElem? (i := 3) rfl) dX7_cell_144 ?_
          refine yg_1_6 hC hX2 (List.mem_of_getElem? (i := 9) rfl) dX7_cell_147 ?_
          refine zj_iload 0 hC dX7_cell_150 rfl ?_
          obtain ⟨hq21, hf⟩ := z_ckE hf
          refine ya_9 hC hq21 dX7_cell_152 ?_
          refine zj_if_eq 169 hC dX7_cell_153 (by decide) (fun c22 => ?_) (fun c22 => ?_)
          · have hf := z_iteT hf c22
            refine zj_iconst (v := (-1)) hC dX7_cell_169 (by decide) ?_
            exact zj_sub hC [] rfl (hJ170 (-1) g8 hf)
          · have hf := z_iteF hf c22
            refine zj_aload_n 1 hC dX7_cell_156 rfl ?_
            refine yg_0_0 hC hX7 (List.mem_of_getElem? (i := 3) rfl) dX7_cell_157 ?_
            refine yg_1_12 hC hX2 (List.mem_of_getElem? (i := 10) rfl) dX7_cell_160 ?_
            refine zj_iload 0 hC dX7_cell_163 rfl ?_
            obtain ⟨hq23, hf⟩ := z_ckE hf
            refine ya_15 hC hq23 dX7_cell_165 ?_
            refine zj_goto 170 hC dX7_cell_166 (by decide) ?_
            exact zj_sub hC [] rfl (hJ170 (g8 15 (Int32.toNatClampNeg r7)) g8 hf)
        have hf := z_iteF hf c20
        by_cases c24 : a2 = 6
        · have hf := z_iteT hf c24
          refine zj_tabIn 171 hC dX7_cell_42 c24 (by decide) (by decide) rfl (by decide) ?_
          refine zj_aload_n 1 hC dX7_cell_171 rfl ?_
          refine yg_0_0 hC hX7 (List.mem_of_getElem? (i := 3) rfl) dX7_cell_172 ?_
          refine yg_1_13 hC hX2 (List.mem_of_getElem? (i := 11) rfl) dX7_cell_175 ?_
          refine zj_iload 0 hC dX7_cell_178 rfl ?_
          obtain ⟨hq25, hf⟩ := z_ckE hf
          refine ya_16 hC hq25 dX7_cell_180 ?_
          exact zj_ireturn hC hf dX7_cell_181
        have hf := z_iteF hf c24
        by_cases c26 : a2 = 7
        · have hf := z_iteT hf c26
          refine zj_tabIn 182 hC dX7_cell_42 c26 (by decide) (by decide) rfl (by decide) ?_
          refine zj_aload_n 1 hC dX7_cell_182 rfl ?_
          refine yg_0_0 hC hX7 (List.mem_of_getElem? (i := 3) rfl) dX7_cell_183 ?_
          refine yg_1_14 hC hX2 (List.mem_of_getElem? (i := 12) rfl) dX7_cell_186 ?_
          refine zj_iload 0 hC dX7_cell_189 rfl ?_
          obtain ⟨hq27, hf⟩ := z_ckE hf
          refine ya_17 hC hq27 dX7_cell_191 ?_
          exact zj_ireturn hC hf dX7_cell_192
        have hf := z_iteF hf c26
        refine zj_tabOut 193 hC dX7_cell_42 (by have ec10 := lv_neT (a := 0) c10 rfl; have ec12 := lv_neT (a := 1) c12 rfl; have ec14 := lv_neT (a := 2) c14 rfl; have ec16 := lv_neT (a := 3) c16 rfl; have ec18 := lv_neT (a := 4) c18 rfl; have ec20 := lv_neT (a := 5) c20 rfl; have ec24 := lv_neT (a := 6) c24 rfl; have ec26 := lv_neT (a := 7) c26 rfl; omega) (by decide) ?_
        refine zj_aload_n 1 hC dX7_cell_193 rfl ?_
        refine yg_0_0 hC hX7 (List.mem_of_getElem? (i := 3) rfl) dX7_cell_194 ?_
        refine yg_1_15 hC hX2 (List.mem_of_getElem? (i := 13) rfl) dX7_cell_197 ?_
        refine zj_iload 0 hC dX7_cell_200 rfl ?_
        obtain ⟨hq28, hf⟩ := z_ckE hf
        refine ya_18 hC hq28 dX7_cell_202 ?_
        exact zj_ireturn hC hf dX7_cell_203
      · have hf := z_iteF hf c6
        exact zj_sub hC [] rfl (hJ22 g2 hf)

def fY_X2_sum_r17_4 (k4 : Int32 × Int32 × z_G → Option (Int32 × z_G)) (x2 : Int32) (x3 : Int32) (g : z_G) : Option (Int32 × z_G) := (if (g 1 4) ≤ x3 then some (x2, g) else z_ck x3 64 (z_let (x2 + (g 17 (Int32.toNatClampNeg x3))) (fun y3 => z_let (x3 + 1) (fun y4 => k4 (y3, y4, g)))))
def fY_X2_sum_r17_4_go (x2 : Int32) (x3 : Int32) (g : z_G) : Option (Int32 × z_G) := z_loop (fun k (w : Int32 × Int32 × z_G) => fY_X2_sum_r17_4 k w.1 w.2.1 w.2.2) z_fuel (x2, x3, g)
def fY_X2_sum_r17 (g : z_G) : Option (Int32 × z_G) := fY_X2_sum_r17_4_go 0 0 g
theorem nY_X2_sum_r17 : yX2_sum.cls = RX2 ∧ yX2_sum.cls ≠ "java/lang/invoke/MethodHandle" ∧ yX2_sum.cls ≠ "java/lang/invoke/VarHandle" ∧ (parseMethodDescriptor yX2_sum.desc).map (fun d => d.parameters.length) = some 1 := by decide +kernel
set_option maxRecDepth 100000 in
set_option maxHeartbeats 4000000 in
theorem cY_X2_sum_r17 (l : Launch) (dC : Nat → ClassId) (dI : Nat → Nat → Nat) (ca : Nat → ClassId) (q : Nat → Nat) (tt : Nat → Nat) (g : z_G) (r : Int32) (g' : z_G) (hf : fY_X2_sum_r17 g = some (r, g')) : z_C l yX2_sum wsX2_sum { frames := 0, cells := 0, slots := 0, locals := 0 } (dC, dI) (tyY ca) (wY ca q) (zY tt) [.ref (q 1), .ref (q 17)] g (some r) g' := by
  refine z_enter (wY_ok ca q) (zY_ok tt) (by decide +kernel) rfl (Nat.le_of_ble_eq_true rfl) (fun J hC => ?_)
  have hC : z_Cx J l cX2_sum 4 wsX2_sum RX2 (some .int) { frames := 0, cells := 0, slots := 0, locals := 0 } (dC, dI) (tyY ca) (wY ca q) (zY tt) (z_QI (dC, dI) (tyY ca) (wY ca q) (some r) g') z_X0 := hC
  show J 0 [(0, .ref (q 1)), (1, .ref (q 17))] [] g
  have hX2 : ∀ w ∈ wsX20, w ∈ wsX2_sum := fun _ h => List.mem_cons_of_mem _ (List.mem_append_right _ (h))
  have hJ4 : ∀ (x2 : Int32) (x3 : Int32) (g : z_G), fY_X2_sum_r17_4_go x2 x3 g = some (r, g') → J 4 [(0, .ref (q 1)), (1, .ref (q 17)), (2, .int x2), (3, .int x3)] [] g := by
    intro x2 x3 g hf
    refine z_loopE (P := fun w : Int32 × Int32 × z_G => J 4 [(0, .ref (q 1)), (1, .ref (q 17)), (2, .int w.1), (3, .int w.2.1)] [] w.2.2) (fun k4 hk4 w hf => ?_) z_fuel (x2, x3, g) hf
    obtain ⟨x2, x3, g⟩ := w
    have hf : fY_X2_sum_r17_4 k4 x2 x3 g = some (r, g') := hf
    show J 4 [(0, .ref (q 1)), (1, .ref (q 17)), (2, .int x2), (3, .int x3)] [] g
    unfold fY_X2_sum_r17_4 at hf
    refine zj_iload_n 3 hC dX2_sum_4 rfl ?_
    refine zj_aload_n 0 hC dX2_sum_5 rfl ?_
    refine yg_1_4 hC hX2 (List.mem_of_getElem? (i := 1) rfl) dX2_sum_6 ?_
    refine zj_icmp_ge 24 hC dX2_sum_9 (by decide) (fun c1 => ?_) (fun c1 => ?_)
    · have hf := z_iteT hf c1
      refine zj_iload_n 2 hC dX2_sum_24 rfl ?_
      exact zj_ireturn hC hf dX2_sum_25
    · have hf := z_iteF hf c1
      refine zj_iload_n 2 hC dX2_sum_12 rfl ?_
      refine zj_aload_n 1 hC dX2_sum_13 rfl ?_
      refine zj_iload_n 3 hC dX2_sum_14 rfl ?_
      obtain ⟨hq2, hf⟩ := z_ckE hf
      refine ya_17 hC hq2 dX2_sum_15 ?_
      refine zj_iadd hC dX2_sum_16 ?_
      refine zj_top (fun y3 ey3 => ?_)
      have hf := z_letE hf ey3
      refine zj_istore_n (lv1 := [(2, .int y3), (0, .ref (q 1)), (1, .ref (q 17)), (3, .int x3)]) hC dX2_sum_17 (by decide) rfl ?_
      refine zj_iinc (lv1 := fun v => [(3, .int v), (2, .int y3), (0, .ref (q 1)), (1, .ref (q 17))]) 3 hC dX2_sum_18 rfl (by decide) (fun _ => rfl) (fun y4 ey4 => ?_)
      have hf := z_letE hf (show y4 = x3 + 1 from ey4)
      refine zj_goto 4 hC dX2_sum_21 (by decide) ?_
      exact zj_sub hC [2, 3, 1, 0] rfl (hk4 (y3, y4, g) hf)
  unfold fY_X2_sum_r17 at hf
  refine zj_iconst (v := 0) hC dX2_sum_0 (by decide) ?_
  refine zj_istore_n (lv1 := [(2, .int 0), (0, .ref (q 1)), (1, .ref (q 17))]) hC dX2_sum_1 (by decide) rfl ?_
  refine zj_iconst (v := 0) hC dX2_sum_2 (by decide) ?_
  refine zj_istore_n (lv1 := [(3, .int 0), (2, .int 0), (0, .ref (q 1)), (1, .ref (q 17))]) hC dX2_sum_3 (by decide) rfl ?_
  exact zj_sub hC [2, 3, 1, 0] rfl (hJ4 0 0 g hf)

def fY_X2_sum_r10_4 (k4 : Int32 × Int32 × z_G → Option (Int32 × z_G)) (x2 : Int32) (x3 : Int32) (g : z_G) : Option (Int32 × z_G) := (if (g 1 4) ≤ x3 then some (x2, g) else z_ck x3 64 (z_let (x2 + (g 10 (Int32.toNatClampNeg x3))) (fun y3 => z_let (x3 + 1) (fun y4 => k4 (y3, y4, g)))))
def fY_X2_sum_r10_4_go (x2 : Int32) (x3 : Int32) (g : z_G) : Option (Int32 × z_G) := z_loop (fun k (w : Int32 × Int32 × z_G) => fY_X2_sum_r10_4 k w.1 w.2.1 w.2.2) z_fuel (x2, x3, g)
def fY_X2_sum_r10 (g : z_G) : Option (Int32 × z_G) := fY_X2_sum_r10_4_go 0 0 g
theorem nY_X2_sum_r10 : yX2_sum.cls = RX2 ∧ yX2_sum.cls ≠ "java/lang/invoke/MethodHandle" ∧ yX2_sum.cls ≠ "java/lang/invoke/VarHandle" ∧ (parseMethodDescriptor yX2_sum.desc).map (fun d => d.parameters.length) = some 1 := by decide +kernel
set_option maxRecDepth 100000 in
set_option maxHeartbeats 4000000 in
theorem cY_X2_sum_r10 (l : Launch) (dC : Nat → ClassId) (dI : Nat → Nat → Nat) (ca : Nat → ClassId) (q : Nat → Nat) (tt : Nat → Nat) (g : z_G) (r : Int32) (g' : z_G) (hf : fY_X2_sum_r10 g = some (r, g')) : z_C l yX2_sum wsX2_sum { frames := 0, cells := 0, slots := 0, locals := 0 } (dC, dI) (tyY ca) (wY ca q) (zY tt) [.ref (q 1), .ref (q 10)] g (some r) g' := by
  refine z_enter (wY_ok ca q) (zY_ok tt) (by decide +kernel) rfl (Nat.le_of_ble_eq_true rfl) (fun J hC => ?_)
  have hC : z_Cx J l cX2_sum 4 wsX2_sum RX2 (some .int) { frames := 0, cells := 0, slots := 0, locals := 0 } (dC, dI) (tyY ca) (wY ca q) (zY tt) (z_QI (dC, dI) (tyY ca) (wY ca q) (some r) g') z_X0 := hC
  show J 0 [(0, .ref (q 1)), (1, .ref (q 10))] [] g
  have hX2 : ∀ w ∈ wsX20, w ∈ wsX2_sum := fun _ h => List.mem_cons_of_mem _ (List.mem_append_right _ (h))
  have hJ4 : ∀ (x2 : Int32) (x3 : Int32) (g : z_G), fY_X2_sum_r10_4_go x2 x3 g = some (r, g') → J 4 [(0, .ref (q 1)), (1, .ref (q 10)), (2, .int x2), (3, .int x3)] [] g := by
    intro x2 x3 g hf
    refine z_loopE (P := fun w : Int32 × Int32 × z_G => J 4 [(0, .ref (q 1)), (1, .ref (q 10)), (2, .int w.1), (3, .int w.2.1)] [] w.2.2) (fun k4 hk4 w hf => ?_) z_fuel (x2, x3, g) hf
    obtain ⟨x2, x3, g⟩ := w
    have hf : fY_X2_sum_r10_4 k4 x2 x3 g = some (r, g') := hf
    show J 4 [(0, .ref (q 1)), (1, .ref (q 10)), (2, .int x2), (3, .int x3)] [] g
    unfold fY_X2_sum_r10_4 at hf
    refine zj_iload_n 3 hC dX2_sum_4 rfl ?_
    refine zj_aload_n 0 hC dX2_sum_5 rfl ?_
    refine yg_1_4 hC hX2 (List.mem_of_getElem? (i := 1) rfl) dX2_sum_6 ?_
    refine zj_icmp_ge 24 hC dX2_sum_9 (by decide) (fun c1 => ?_) (fun c1 => ?_)
    · have hf := z_iteT hf c1
      refine zj_iload_n 2 hC dX2_sum_24 rfl ?_
      exact zj_ireturn hC hf dX2_sum_25
    · have hf := z_iteF hf c1
      refine zj_iload_n 2 hC dX2_sum_12 rfl ?_
      refine zj_aload_n 1 hC dX2_sum_13 rfl ?_
      refine zj_iload_n 3 hC dX2_sum_14 rfl ?_
      obtain ⟨hq2, hf⟩ := z_ckE hf
      refine ya_10 hC hq2 dX2_sum_15 ?_
      refine zj_iadd hC dX2_sum_16 ?_
      refine zj_top (fun y3 ey3 => ?_)
      have hf := z_letE hf ey3
      refine zj_istore_n (lv1 := [(2, .int y3), (0, .ref (q 1)), (1, .ref (q 10)), (3, .int x3)]) hC dX2_sum_17 (by decide) rfl ?_
      refine zj_iinc (lv1 := fun v => [(3, .int v), (2, .int y3), (0, .ref (q 1)), (1, .ref (q 10))]) 3 hC dX2_sum_18 rfl (by decide) (fun _ => rfl) (fun y4 ey4 => ?_)
      have hf := z_letE hf (show y4 = x3 + 1 from ey4)
      refine zj_goto 4 hC dX2_sum_21 (by decide) ?_
      exact zj_sub hC [2, 3, 1, 0] rfl (hk4 (y3, y4, g) hf)
  unfold fY_X2_sum_r10 at hf
  refine zj_iconst (v := 0) hC dX2_sum_0 (by decide) ?_
  refine zj_istore_n (lv1 := [(2, .int 0), (0, .ref (q 1)), (1, .ref (q 10))]) hC dX2_sum_1 (by decide) rfl ?_
  refine zj_iconst (v := 0) hC dX2_sum_2 (by decide) ?_
  refine zj_istore_n (lv1 := [(3, .int 0), (2, .int 0), (0, .ref (q 1)), (1, .ref (q 10))]) hC dX2_sum_3 (by decide) rfl ?_
  exact zj_sub hC [2, 3, 1, 0] rfl (hJ4 0 0 g hf)

def fY_X7_all (a0 : Int32) (g : z_G) : Option (Int32 × z_G) := (if a0 = 0 then z_bind (fY_X2_sum_r17 g) (fun r2 g3 => some (r2, g3)) else (if a0 = 1 then z_bind (fY_X2_sum_r10 g) (fun r6 g7 => some (r6, g7)) else (if a0 = 2 then z_bind (fY_X2_sum_r11 g) (fun r10 g11 => some (r10, g11)) else (if a0 = 3 then some (g 1 2, g) else (if a0 = 4 then some (g 1 3, g) else some ((-1), g))))))
theorem nY_X7_all : yX7_all.cls = RX7 ∧ yX7_all.cls ≠ "java/lang/invoke/MethodHandle" ∧ yX7_all.cls ≠ "java/lang/invoke/VarHandle" ∧ (parseMethodDescriptor yX7_all.desc).map (fun d => d.parameters.length) = some 1 := by decide +kernel
set_option maxRecDepth 100000 in
set_option maxHeartbeats 4000000 in
theorem cY_X7_all (l : Launch) (dC : Nat → ClassId) (dI : Nat → Nat → Nat) (ca : Nat → ClassId) (q : Nat → Nat) (tt : Nat → Nat) (a0 : Int32) (g : z_G) (r : Int32) (g' : z_G) (hf : fY_X7_all a0 g = some (r, g')) : z_C l yX7_all wsX7_all { frames := 1, cells := 0, slots := 0, locals := 23 } (dC, dI) (tyY ca) (wY ca q) (zY tt) [.ref (q 0), .int a0] g (some r) g' := by
  refine z_enter (wY_ok ca q) (zY_ok tt) (by decide +kernel) rfl (Nat.le_of_ble_eq_true rfl) (fun J hC => ?_)
  have hC : z_Cx J l cX7_all 2 wsX7_all RX7 (some .int) { frames := 1, cells := 0, slots := 0, locals := 23 } (dC, dI) (tyY ca) (wY ca q) (zY tt) (z_QI (dC, dI) (tyY ca) (wY ca q) (some r) g') z_X0 := hC
  show J 0 [(0, .ref (q 0)), (1, .int a0)] [] g
  have hX2 : ∀ w ∈ wsX20, w ∈ wsX7_all := fun _ h => List.mem_cons_of_mem _ (List.mem_append_right _ (h))
  have hX7 : ∀ w ∈ wsX70, w ∈ wsX7_all := fun _ h => List.mem_cons_of_mem _ (List.mem_append_left _ (List.mem_append_right _ (h)))
  unfold fY_X7_all at hf
  refine zj_iload_n 1 hC dX7_all_0 rfl ?_
  by_cases c1 : a0 = 0
  · have hf := z_iteT hf c1
    refine zj_tabIn 36 hC dX7_all_1 c1 (by decide) (by decide) rfl (by decide) ?_
    refine zj_aload_n 0 hC dX7_all_36 rfl ?_
    refine yg_0_0 hC hX7 (List.mem_of_getElem? (i := 1) rfl) dX7_all_37 ?_
    refine zj_aload_n 0 hC dX7_all_40 rfl ?_
    refine yg_0_0 hC hX7 (List.mem_of_getElem? (i := 1) rfl) dX7_all_41 ?_
    refine yg_1_14 hC hX2 (List.mem_of_getElem? (i := 2) rfl) dX7_all_44 ?_
    obtain ⟨r2, g3, hq4, hf⟩ := z_bindE hf
    refine zj_callVi [.ref (q 17)] hC (cY_X2_sum_r17 l dC dI ca q tt g r2 g3 hq4) gX7_all_X2_sum rfl nY_X2_sum_r17 ⟨Nat.le_of_ble_eq_true rfl, Nat.le_of_ble_eq_true rfl⟩ 1 yo_1 rfl rfl rfl (Nat.le_of_ble_eq_true rfl) dX7_all_47 rfl ?_
    exact zj_ireturn hC hf dX7_all_50
  have hf := z_iteF hf c1
  by_cases c5 : a0 = 1
  · have hf := z_iteT hf c5
    refine zj_tabIn 51 hC dX7_all_1 c5 (by decide) (by decide) rfl (by decide) ?_
    refine zj_aload_n 0 hC dX7_all_51 rfl ?_
    refine yg_0_0 hC hX7 (List.mem_of_getElem? (i := 1) rfl) dX7_all_52 ?_
    refine zj_aload_n 0 hC dX7_all_55 rfl ?_
    refine yg_0_0 hC hX7 (List.mem_of_getElem? (i := 1) rfl) dX7_all_56 ?_
    refine yg_1_7 hC hX2 (List.mem_of_getElem? (i := 3) rfl) dX7_all_59 ?_
    obtain ⟨r6, g7, hq8, hf⟩ := z_bindE hf
    refine zj_callVi [.ref (q 10)] hC (cY_X2_sum_r10 l dC dI ca q tt g r6 g7 hq8) gX7_all_X2_sum rfl nY_X2_sum_r10 ⟨Nat.le_of_ble_eq_true rfl, Nat.le_of_ble_eq_true rfl⟩ 1 yo_1 rfl rfl rfl (Nat.le_of_ble_eq_true rfl) dX7_all_62 rfl ?_
    exact zj_ireturn hC hf dX7_all_65
  have hf := z_iteF hf c5
  by_cases c9 : a0 = 2
  · have hf := z_iteT hf c9
    refine zj_tabIn 66 hC dX7_all_1 c9 (by decide) (by decide) rfl (by decide) ?_
    refine zj_aload_n 0 hC dX7_all_66 rfl ?_
    refine yg_0_0 hC hX7 (List.mem_of_getElem? (i := 1) rfl) dX7_all_67 ?_
    refine zj_aload_n 0 hC dX7_all_70 rfl ?_
    refine yg_0_0 hC hX7 (List.mem_of_getElem? (i := 1) rfl) dX7_all_71 ?_
    refine yg_1_8 hC hX2 (List.mem_of_getElem? (i := 4) rfl) dX7_all_74 ?_
    obtain ⟨r10, g11, hq12, hf⟩ := z_bindE hf
    refine zj_callVi [.ref (q 11)] hC (cY_X2_sum_r11 l dC dI ca q tt g r10 g11 hq12) gX7_all_X2_sum rfl nY_X2_sum_r11 ⟨Nat.le_of_ble_eq_true rfl, Nat.le_of_ble_eq_true rfl⟩ 1 yo_1 rfl rfl rfl (Nat.le_of_ble_eq_true rfl) dX7_all_77 rfl ?_
    exact zj_ireturn hC hf dX7_all_80
  have hf := z_iteF hf c9
  by_cases c13 : a0 = 3
  · have hf := z_iteT hf c13
    refine zj_tabIn 81 hC dX7_all_1 c13 (by decide) (by decide) rfl (by decide) ?_
    refine zj_aload_n 0 hC dX7_all_81 rfl ?_
    refine yg_0_0 hC hX7 (List.mem_of_getElem? (i := 1) rfl) dX7_all_82 ?_
    refine yg_1_2 hC hX2 (List.mem_of_getElem? (i := 5) rfl) dX7_all_85 ?_
    exact zj_ireturn hC hf dX7_all_88
  have hf := z_iteF hf c13
  by_cases c14 : a0 = 4
  · have hf := z_iteT hf c14
    refine zj_tabIn 89 hC dX7_all_1 c14 (by decide) (by decide) rfl (by decide) ?_
    refine zj_aload_n 0 hC dX7_all_89 rfl ?_
    refine yg_0_0 hC hX7 (List.mem_of_getElem? (i := 1) rfl) dX7_all_90 ?_
    refine yg_1_3 hC hX2 (List.mem_of_getElem? (i := 6) rfl) dX7_all_93 ?_
    exact zj_ireturn hC hf dX7_all_96
  have hf := z_iteF hf c14
  refine zj_tabOut 97 hC dX7_all_1 (by have ec1 := lv_neT (a := 0) c1 rfl; have ec5 := lv_neT (a := 1) c5 rfl; have ec9 := lv_neT (a := 2) c9 rfl; have ec13 := lv_neT (a := 3) c13 rfl; have ec14 := lv_neT (a := 4) c14 rfl; omega) (by decide) ?_
  refine zj_iconst (v := (-1)) hC dX7_all_97 (by decide) ?_
  exact zj_ireturn hC hf dX7_all_98

def fY_X7_told (a0 : Int32) (a1 : Int32) (g : z_G) : Option (Int32 × z_G) := z_bind (fY_X0_has a0 g) (fun r1 g2 => (if r1 = 0 then some ((-1), g2) else (if a1 = 0 then z_ck a0 300 (some (g2 25 (Int32.toNatClampNeg a0), g2)) else (if a1 = 1 then z_ck a0 300 (some (g2 26 (Int32.toNatClampNeg a0), g2)) else (if a1 = 2 then z_ck a0 300 (some (g2 27 (Int32.toNatClampNeg a0), g2)) else (if a1 = 3 then z_ck a0 300 (some (g2 28 (Int32.toNatClampNeg a0), g2)) else (if a1 = 4 then z_ck a0 300 (some (g2 29 (Int32.toNatClampNeg a0), g2)) else (if a1 = 5 then z_ck a0 300 (some (g2 30 (Int32.toNatClampNeg a0), g2)) else some ((-1), g2)))))))))
theorem nY_X7_told : yX7_told.cls = RX7 ∧ yX7_told.cls ≠ "java/lang/invoke/MethodHandle" ∧ yX7_told.cls ≠ "java/lang/invoke/VarHandle" ∧ (parseMethodDescriptor yX7_told.desc).map (fun d => d.parameters.length) = some 2 := by decide +kernel
set_option maxRecDepth 100000 in
set_option maxHeartbeats 4000000 in
theorem cY_X7_told (l : Launch) (dC : Nat → ClassId) (dI : Nat → Nat → Nat) (ca : Nat → ClassId) (q : Nat → Nat) (tt : Nat → Nat) (a0 : Int32) (a1 : Int32) (g : z_G) (r : Int32) (g' : z_G) (hf : fY_X7_told a0 a1 g = some (r, g')) : z_C l yX7_told wsX7_told { frames := 1, cells := 0, slots := 0, locals := 21 } (dC, dI) (tyY ca) (wY ca q) (zY tt) [.ref (q 0), .int a0, .int a1] g (some r) g' := by
  refine z_enter (wY_ok ca q) (zY_ok tt) (by decide +kernel) rfl (Nat.le_of_ble_eq_true rfl) (fun J hC => ?_)
  have hC : z_Cx J l cX7_told 3 wsX7_told RX7 (some .int) { frames := 1, cells := 0, slots := 0, locals := 21 } (dC, dI) (tyY ca) (wY ca q) (zY tt) (z_QI (dC, dI) (tyY ca) (wY ca q) (some r) g') z_X0 := hC
  show J 0 [(0, .ref (q 0)), (1, .int a0), (2, .int a1)] [] g
  have hX0 : ∀ w ∈ wsX00, w ∈ wsX7_told := fun _ h => List.mem_cons_of_mem _ (List.mem_append_right _ (h))
  have hX7 : ∀ w ∈ wsX70, w ∈ wsX7_told := fun _ h => List.mem_cons_of_mem _ (List.mem_append_left _ (List.mem_append_right _ (h)))
  unfold fY_X7_told at hf
  refine zj_aload_n 0 hC dX7_told_0 rfl ?_
  refine yg_0_2 hC hX7 (List.mem_of_getElem? (i := 1) rfl) dX7_told_1 ?_
  refine zj_iload_n 1 hC dX7_told_4 rfl ?_
  obtain ⟨r1, g2, hq3, hf⟩ := z_bindE hf
  refine zj_callVi [.int a0] hC (cY_X0_has l dC dI ca q tt a0 g r1 g2 hq3) gX7_told_X0_has rfl nY_X0_has ⟨Nat.le_of_ble_eq_true rfl, Nat.le_of_ble_eq_true rfl⟩ 3 yo_3 rfl rfl rfl (Nat.le_of_ble_eq_true rfl) dX7_told_5 rfl ?_
  refine zj_if_ne 13 hC dX7_told_8 (by decide) (fun c4 => ?_) (fun c4 => ?_)
  · have hf := z_iteF hf c4
    refine zj_iload_n 2 hC dX7_told_13 rfl ?_
    by_cases c5 : a1 = 0
    · have hf := z_iteT hf c5
      refine zj_tabIn 52 hC dX7_told_14 c5 (by decide) (by decide) rfl (by decide) ?_
      refine zj_aload_n 0 hC dX7_told_52 rfl ?_
      refine yg_0_2 hC hX7 (List.mem_of_getElem? (i := 1) rfl) dX7_told_53 ?_
      refine yg_3_1 hC hX0 (List.mem_of_getElem? (i := 2) rfl) dX7_told_56 ?_
      refine zj_iload_n 1 hC dX7_told_59 rfl ?_
      obtain ⟨hq6, hf⟩ := z_ckE hf
      refine ya_25 hC hq6 dX7_told_60 ?_
      exact zj_ireturn hC hf dX7_told_61
    have hf := z_iteF hf c5
    by_cases c7 : a1 = 1
    · have hf := z_iteT hf c7
      refine zj_tabIn 62 hC dX7_told_14 c7 (by decide) (by decide) rfl (by decide) ?_
      refine zj_aload_n 0 hC dX7_told_62 rfl ?_
      refine yg_0_2 hC hX7 (List.mem_of_getElem? (i := 1) rfl) dX7_told_63 ?_
      refine yg_3_2 hC hX0 (List.mem_of_getElem? (i := 3) rfl) dX7_told_66 ?_
      refine zj_iload_n 1 hC dX7_told_69 rfl ?_
      obtain ⟨hq8, hf⟩ := z_ckE hf
      refine ya_26 hC hq8 dX7_told_70 ?_
      exact zj_ireturn hC hf dX7_told_71
    have hf := z_iteF hf c7
    by_cases c9 : a1 = 2
    · have hf := z_iteT hf c9
      refine zj_tabIn 72 hC dX7_told_14 c9 (by decide) (by decide) rfl (by decide) ?_
      refine zj_aload_n 0 hC dX7_told_72 rfl ?_
      refine yg_0_2 hC hX7 (List.mem_of_getElem? (i := 1) rfl) dX7_told_73 ?_
      refine yg_3_3 hC hX0 (List.mem_of_getElem? (i := 4) rfl) dX7_told_76 ?_
      refine zj_iload_n 1 hC dX7_told_79 rfl ?_
      obtain ⟨hq10, hf⟩ := z_ckE hf
      refine ya_27 hC hq10 dX7_told_80 ?_
      exact zj_ireturn hC hf dX7_told_81
    have hf := z_iteF hf c9
    by_cases c11 : a1 = 3
    · have hf := z_iteT hf c11
      refine zj_tabIn 82 hC dX7_told_14 c11 (by decide) (by decide) rfl (by decide) ?_
      refine zj_aload_n 0 hC dX7_told_82 rfl ?_
      refine yg_0_2 hC hX7 (List.mem_of_getElem? (i := 1) rfl) dX7_told_83 ?_
      refine yg_3_4 hC hX0 (List.mem_of_getElem? (i := 5) rfl) dX7_told_86 ?_
      refine zj_iload_n 1 hC dX7_told_89 rfl ?_
      obtain ⟨hq12, hf⟩ := z_ckE hf
      refine ya_28 hC hq12 dX7_told_90 ?_
      exact zj_ireturn hC hf dX7_told_91
    have hf := z_iteF hf c11
    by_cases c13 : a1 = 4
    · have hf := z_iteT hf c13
      refine zj_tabIn 92 hC dX7_told_14 c13 (by decide) (by decide) rfl (by decide) ?_
      refine zj_aload_n 0 hC dX7_told_92 rfl ?_
      refine yg_0_2 hC hX7 (List.mem_of_getElem? (i := 1) rfl) dX7_told_93 ?_
      refine yg_3_5 hC hX0 (List.mem_of_getElem? (i := 6) rfl) dX7_told_96 ?_
      refine zj_iload_n 1 hC dX7_told_99 rfl ?_
      obtain ⟨hq14, hf⟩ := z_ckE hf
      refine ya_29 hC hq14 dX7_told_100 ?_
      exact zj_ireturn hC hf dX7_told_101
    have hf := z_iteF hf c13
    by_cases c15 : a1 = 5
    · have hf := z_iteT hf c15
      refine zj_tabIn 102 hC dX7_told_14 c15 (by decide) (by decide) rfl (by decide) ?_
      refine zj_aload_n 0 hC dX7_told_102 rfl ?_
      refine yg_0_2 hC hX7 (List.mem_of_getElem? (i := 1) rfl) dX7_told_103 ?_
      refine yg_3_6 hC hX0 (List.mem_of_getElem? (i := 7) rfl) dX7_told_106 ?_
      refine zj_iload_n 1 hC dX7_told_109 rfl ?_
      obtain ⟨hq16, hf⟩ := z_ckE hf
      refine ya_30 hC hq16 dX7_told_110 ?_
      exact zj_ireturn hC hf dX7_told_111
    have hf := z_iteF hf c15
    refine zj_tabOut 112 hC dX7_told_14 (by have ec5 := lv_neT (a := 0) c5 rfl; have ec7 := lv_neT (a := 1) c7 rfl; have ec9 := lv_neT (a := 2) c9 rfl; have ec11 := lv_neT (a := 3) c11 rfl; have ec13 := lv_neT (a := 4) c13 rfl; have ec15 := lv_neT (a := 5) c15 rfl; omega) (by decide) ?_
    refine zj_iconst (v := (-1)) hC dX7_told_112 (by decide) ?_
    exact zj_ireturn hC hf dX7_told_113
  · have hf := z_iteT hf c4
    refine zj_iconst (v := (-1)) hC dX7_told_11 (by decide) ?_
    exact zj_ireturn hC hf dX7_told_12

def fY_X7_breach_33 (s0 : Int32) (g : z_G) : Option (Int32 × z_G) := some (s0, g)
def fY_X7_breach (a0 : Int32) (a1 : Int32) (g : z_G) : Option (Int32 × z_G) := z_bind (fY_X2_holds a0 a1 g) (fun r1 g2 => (if r1 = 0 then fY_X7_breach_33 (-1) g2 else z_bind (fY_X2_at a0 a1 g2) (fun r5 g6 => z_ck r5 64 (fY_X7_breach_33 (g6 19 (Int32.toNatClampNeg r5)) g6))))
theorem nY_X7_breach : yX7_breach.cls = RX7 ∧ yX7_breach.cls ≠ "java/lang/invoke/MethodHandle" ∧ yX7_breach.cls ≠ "java/lang/invoke/VarHandle" ∧ (parseMethodDescriptor yX7_breach.desc).map (fun d => d.parameters.length) = some 2 := by decide +kernel
set_option maxRecDepth 100000 in
set_option maxHeartbeats 4000000 in
theorem cY_X7_breach (l : Launch) (dC : Nat → ClassId) (dI : Nat → Nat → Nat) (ca : Nat → ClassId) (q : Nat → Nat) (tt : Nat → Nat) (a0 : Int32) (a1 : Int32) (g : z_G) (r : Int32) (g' : z_G) (hf : fY_X7_breach a0 a1 g = some (r, g')) : z_C l yX7_breach wsX7_breach { frames := 1, cells := 0, slots := 0, locals := 22 } (dC, dI) (tyY ca) (wY ca q) (zY tt) [.ref (q 0), .int a0, .int a1] g (some r) g' := by
  refine z_enter (wY_ok ca q) (zY_ok tt) (by decide +kernel) rfl (Nat.le_of_ble_eq_true rfl) (fun J hC => ?_)
  have hC : z_Cx J l cX7_breach 3 wsX7_breach RX7 (some .int) { frames := 1, cells := 0, slots := 0, locals := 22 } (dC, dI) (tyY ca) (wY ca q) (zY tt) (z_QI (dC, dI) (tyY ca) (wY ca q) (some r) g') z_X0 := hC
  show J 0 [(0, .ref (q 0)), (1, .int a0), (2, .int a1)] [] g
  have hX2 : ∀ w ∈ wsX20, w ∈ wsX7_breach := fun _ h => List.mem_cons_of_mem _ (List.mem_append_right _ (h))
  have hX7 : ∀ w ∈ wsX70, w ∈ wsX7_breach := fun _ h => List.mem_cons_of_mem _ (List.mem_append_left _ (List.mem_append_right _ (h)))
  have hJ33 : ∀ (s0 : Int32) (g : z_G), fY_X7_breach_33 s0 g = some (r, g') → J 33 [] [.int s0] g := by
    intro s0 g hf
    unfold fY_X7_breach_33 at hf
    exact zj_ireturn hC hf dX7_breach_33
  unfold fY_X7_breach at hf
  refine zj_aload_n 0 hC dX7_breach_0 rfl ?_
  refine yg_0_0 hC hX7 (List.mem_of_getElem? (i := 1) rfl) dX7_breach_1 ?_
  refine zj_iload_n 1 hC dX7_breach_4 rfl ?_
  refine zj_iload_n 2 hC dX7_breach_5 rfl ?_
  obtain ⟨r1, g2, hq3, hf⟩ := z_bindE hf
  refine zj_callVi [.int a0, .int a1] hC (cY_X2_holds l dC dI ca q tt a0 a1 g r1 g2 hq3) gX7_breach_X2_holds rfl nY_X2_holds ⟨Nat.le_of_ble_eq_true rfl, Nat.le_of_ble_eq_true rfl⟩ 1 yo_1 rfl rfl rfl (Nat.le_of_ble_eq_true rfl) dX7_breach_6 rfl ?_
  refine zj_if_eq 32 hC dX7_breach_9 (by decide) (fun c4 => ?_) (fun c4 => ?_)
  · have hf := z_iteT hf c4
    refine zj_iconst (v := (-1)) hC dX7_breach_32 (by decide) ?_
    exact zj_sub hC [] rfl (hJ33 (-1) g2 hf)
  · have hf := z_iteF hf c4
    refine zj_aload_n 0 hC dX7_breach_12 rfl ?_
    refine yg_0_0 hC hX7 (List.mem_of_getElem? (i := 1) rfl) dX7_breach_13 ?_
    refine yg_1_16 hC hX2 (List.mem_of_getElem? (i := 2) rfl) dX7_breach_16 ?_
    refine zj_aload_n 0 hC dX7_breach_19 rfl ?_
    refine yg_0_0 hC hX7 (List.mem_of_getElem? (i := 1) rfl) dX7_breach_20 ?_
    refine zj_iload_n 1 hC dX7_breach_23 rfl ?_
    refine zj_iload_n 2 hC dX7_breach_24 rfl ?_
    obtain ⟨r5, g6, hq7, hf⟩ := z_bindE hf
    refine zj_callVi [.int a0, .int a1] hC (cY_X2_at l dC dI ca q tt a0 a1 g2 r5 g6 hq7) gX7_breach_X2_at rfl nY_X2_at ⟨Nat.le_of_ble_eq_true rfl, Nat.le_of_ble_eq_true rfl⟩ 1 yo_1 rfl rfl rfl (Nat.le_of_ble_eq_true rfl) dX7_breach_25 rfl ?_
    obtain ⟨hq8, hf⟩ := z_ckE hf
    refine ya_19 hC hq8 dX7_breach_28 ?_
    refine zj_goto 33 hC dX7_breach_29 (by decide) ?_
    exact zj_sub hC [] rfl (hJ33 (g6 19 (Int32.toNatClampNeg r5)) g6 hf)

def fY_X7_sign (a0 : Int32) (g : z_G) : Option (Int32 × z_G) := z_bind (fY_X5_addFour a0 g) (fun r1 g2 => some (r1, g2))
theorem nY_X7_sign : yX7_sign.cls = RX7 ∧ yX7_sign.cls ≠ "java/lang/invoke/MethodHandle" ∧ yX7_sign.cls ≠ "java/lang/invoke/VarHandle" ∧ (parseMethodDescriptor yX7_sign.desc).map (fun d => d.parameters.length) = some 1 := by decide +kernel
set_option maxRecDepth 100000 in
set_option maxHeartbeats 4000000 in
theorem cY_X7_sign (l : Launch) (dC : Nat → ClassId) (dI : Nat → Nat → Nat) (ca : Nat → ClassId) (q : Nat → Nat) (tt : Nat → Nat) (a0 : Int32) (g : z_G) (r : Int32) (g' : z_G) (hf : fY_X7_sign a0 g = some (r, g')) : z_C l yX7_sign wsX7_sign { frames := 1, cells := 0, slots := 0, locals := 22 } (dC, dI) (tyY ca) (wY ca q) (zY tt) [.ref (q 0), .int a0] g (some r) g' := by
  refine z_enter (wY_ok ca q) (zY_ok tt) (by decide +kernel) rfl (Nat.le_of_ble_eq_true rfl) (fun J hC => ?_)
  have hC : z_Cx J l cX7_sign 2 wsX7_sign RX7 (some .int) { frames := 1, cells := 0, slots := 0, locals := 22 } (dC, dI) (tyY ca) (wY ca q) (zY tt) (z_QI (dC, dI) (tyY ca) (wY ca q) (some r) g') z_X0 := hC
  show J 0 [(0, .ref (q 0)), (1, .int a0)] [] g
  have hX7 : ∀ w ∈ wsX70, w ∈ wsX7_sign := fun _ h => List.mem_cons_of_mem _ (List.mem_append_left _ (List.mem_append_right _ (h)))
  unfold fY_X7_sign at hf
  refine zj_aload_n 0 hC dX7_sign_0 rfl ?_
  refine yg_0_3 hC hX7 (List.mem_of_getElem? (i := 1) rfl) dX7_sign_1 ?_
  refine zj_iload_n 1 hC dX7_sign_4 rfl ?_
  obtain ⟨r1, g2, hq3, hf⟩ := z_bindE hf
  refine zj_callVi [.int a0] hC (cY_X5_addFour l dC dI ca q tt a0 g r1 g2 hq3) gX7_sign_X5_addFour rfl nY_X5_addFour ⟨Nat.le_of_ble_eq_true rfl, Nat.le_of_ble_eq_true rfl⟩ 4 yo_4 rfl rfl rfl (Nat.le_of_ble_eq_true rfl) dX7_sign_5 rfl ?_
  exact zj_ireturn hC hf dX7_sign_8

def fY_X7_end_15  (g : z_G) : Option (Int32 × z_G) := z_bo 0 (some (0, g))
def fY_X7_end (a0 : Int32) (g : z_G) : Option (Int32 × z_G) := (if a0 < 0 then fY_X7_end_15 g else (if a0 ≤ (g 4 0) then z_let (z_up g 4 0 a0) (fun g3 => z_bo 1 (some (1, g3))) else fY_X7_end_15 g))
theorem nY_X7_end : yX7_end.cls = RX7 ∧ yX7_end.cls ≠ "java/lang/invoke/MethodHandle" ∧ yX7_end.cls ≠ "java/lang/invoke/VarHandle" ∧ (parseMethodDescriptor yX7_end.desc).map (fun d => d.parameters.length) = some 1 := by decide +kernel
set_option maxRecDepth 100000 in
set_option maxHeartbeats 4000000 in
theorem cY_X7_end (l : Launch) (dC : Nat → ClassId) (dI : Nat → Nat → Nat) (ca : Nat → ClassId) (q : Nat → Nat) (tt : Nat → Nat) (a0 : Int32) (g : z_G) (r : Int32) (g' : z_G) (hf : fY_X7_end a0 g = some (r, g')) : z_C l yX7_end wsX7_end { frames := 0, cells := 0, slots := 0, locals := 0 } (dC, dI) (tyY ca) (wY ca q) (zY tt) [.ref (q 0), .int a0] g (some r) g' := by
  refine z_enter (wY_ok ca q) (zY_ok tt) (by decide +kernel) rfl (Nat.le_of_ble_eq_true rfl) (fun J hC => ?_)
  have hC : z_Cx J l cX7_end 2 wsX7_end RX7 (some .boolean) { frames := 0, cells := 0, slots := 0, locals := 0 } (dC, dI) (tyY ca) (wY ca q) (zY tt) (z_QI (dC, dI) (tyY ca) (wY ca q) (some r) g') z_X0 := hC
  show J 0 [(0, .ref (q 0)), (1, .int a0)] [] g
  have hX5 : ∀ w ∈ wsX50, w ∈ wsX7_end := fun _ h => List.mem_cons_of_mem _ (List.mem_append_right _ (h))
  have hX7 : ∀ w ∈ wsX70, w ∈ wsX7_end := fun _ h => List.mem_cons_of_mem _ (List.mem_append_left _ (List.mem_append_right _ (h)))
  have hJ15 : ∀ (g : z_G), fY_X7_end_15 g = some (r, g') → J 15 [] [] g := by
    intro g hf
    unfold fY_X7_end_15 at hf
    refine zj_iconst (v := 0) hC dX7_end_15 (by decide) ?_
    exact zj_zreturn hC hf dX7_end_16
  unfold fY_X7_end at hf
  refine zj_iload_n 1 hC dX7_end_0 rfl ?_
  refine zj_if_lt 15 hC dX7_end_1 (by decide) (fun c1 => ?_) (fun c1 => ?_)
  · have hf := z_iteT hf c1
    exact zj_sub hC [] rfl (hJ15 g hf)
  · have hf := z_iteF hf c1
    refine zj_iload_n 1 hC dX7_end_4 rfl ?_
    refine zj_aload_n 0 hC dX7_end_5 rfl ?_
    refine yg_0_3 hC hX7 (List.mem_of_getElem? (i := 1) rfl) dX7_end_6 ?_
    refine yg_4_0 hC hX5 (List.mem_of_getElem? (i := 2) rfl) dX7_end_9 ?_
    refine zj_icmp_le 17 hC dX7_end_12 (by decide) (fun c2 => ?_) (fun c2 => ?_)
    · have hf := z_iteT hf c2
      refine zj_aload_n 0 hC dX7_end_17 rfl ?_
      refine yg_0_3 hC hX7 (List.mem_of_getElem? (i := 1) rfl) dX7_end_18 ?_
      refine zj_iload_n 1 hC dX7_end_21 rfl ?_
      refine yp_4_0 hC hX5 (List.mem_of_getElem? (i := 2) rfl) dX7_end_22 (fun g3 eg3 => ?_)
      have hf := z_letE hf eg3
      refine zj_iconst (v := 1) hC dX7_end_25 (by decide) ?_
      exact zj_zreturn hC hf dX7_end_26
    · have hf := z_iteF hf c2
      exact zj_sub hC [] rfl (hJ15 g hf)

def fY_X7_acceptTape_44 (s0 : Int32) (g : z_G) : Option (Int32 × z_G) := some (s0, g)
def fY_X7_acceptTape_35 (s0 : Int32) (g : z_G) : Option (Int32 × z_G) := z_bind (fY_X4_accept s0 g) (fun r1 g2 => fY_X7_acceptTape_44 r1 g2)
def fY_X7_acceptTape (g : z_G) : Option (Int32 × z_G) := z_bind (fY_X3_findFault g) (fun r4 g5 => (if r4 = (-1) then (if (g5 0 7) = 0 then fY_X7_acceptTape_35 0 g5 else fY_X7_acceptTape_35 (g5 3 0) g5) else fY_X7_acceptTape_44 ((-1) - r4) g5))
theorem nY_X7_acceptTape : yX7_acceptTape.cls = RX7 ∧ yX7_acceptTape.cls ≠ "java/lang/invoke/MethodHandle" ∧ yX7_acceptTape.cls ≠ "java/lang/invoke/VarHandle" ∧ (parseMethodDescriptor yX7_acceptTape.desc).map (fun d => d.parameters.length) = some 0 := by decide +kernel
set_option maxRecDepth 100000 in
set_option maxHeartbeats 4000000 in
theorem cY_X7_acceptTape (l : Launch) (dC : Nat → ClassId) (dI : Nat → Nat → Nat) (ca : Nat → ClassId) (q : Nat → Nat) (tt : Nat → Nat) (g : z_G) (r : Int32) (g' : z_G) (hf : fY_X7_acceptTape g = some (r, g')) : z_C l yX7_acceptTape wsX7_acceptTape { frames := 6, cells := 0, slots := 0, locals := 127 } (dC, dI) (tyY ca) (wY ca q) (zY tt) [.ref (q 0)] g (some r) g' := by
  refine z_enter (wY_ok ca q) (zY_ok tt) (by decide +kernel) rfl (Nat.le_of_ble_eq_true rfl) (fun J hC => ?_)
  have hC : z_Cx J l cX7_acceptTape 2 wsX7_acceptTape RX7 (some .int) { frames := 6, cells := 0, slots := 0, locals := 127 } (dC, dI) (tyY ca) (wY ca q) (zY tt) (z_QI (dC, dI) (tyY ca) (wY ca q) (some r) g') z_X0 := hC
  show J 0 [(0, .ref (q 0))] [] g
  have hX0 : ∀ w ∈ wsX00, w ∈ wsX7_acceptTape := fun _ h => List.mem_cons_of_mem _ (List.mem_append_left _ (List.mem_append_left _ (List.mem_append_left _ (List.mem_append_right _ (h)))))
  have hX7 : ∀ w ∈ wsX70, w ∈ wsX7_acceptTape := fun _ h => List.mem_cons_of_mem _ (List.mem_append_left _ (List.mem_append_left _ (List.mem_append_left _ (List.mem_append_left _ (List.mem_append_right _ (h))))))
  have hJ44 : ∀ (s0 : Int32) (g : z_G), fY_X7_acceptTape_44 s0 g = some (r, g') → J 44 [] [.int s0] g := by
    intro s0 g hf
    unfold fY_X7_acceptTape_44 at hf
    exact zj_ireturn hC hf dX7_acceptTape_44
  have hJ35 : ∀ (s0 : Int32) (g : z_G), fY_X7_acceptTape_35 s0 g = some (r, g') → J 35 [] [.int s0, .ref (q 5)] g := by
    intro s0 g hf
    unfold fY_X7_acceptTape_35 at hf
    obtain ⟨r1, g2, hq3, hf⟩ := z_bindE hf
    refine zj_callVi [.int s0] hC (cY_X4_accept l dC dI ca q tt s0 g r1 g2 hq3) gX7_acceptTape_X4_accept rfl nY_X4_accept ⟨Nat.le_of_ble_eq_true rfl, Nat.le_of_ble_eq_true rfl⟩ 5 yo_5 rfl rfl rfl (Nat.le_of_ble_eq_true rfl) dX7_acceptTape_35 rfl ?_
    refine zj_goto 44 hC dX7_acceptTape_38 (by decide) ?_
    exact (hJ44 r1 g2 hf)
  unfold fY_X7_acceptTape at hf
  refine zj_aload_n 0 hC dX7_acceptTape_0 rfl ?_
  refine yg_0_5 hC hX7 (List.mem_of_getElem? (i := 1) rfl) dX7_acceptTape_1 ?_
  obtain ⟨r4, g5, hq6, hf⟩ := z_bindE hf
  refine zj_callVi [] hC (cY_X3_findFault l dC dI ca q tt g r4 g5 hq6) gX7_acceptTape_X3_findFault rfl nY_X3_findFault ⟨Nat.le_of_ble_eq_true rfl, Nat.le_of_ble_eq_true rfl⟩ 6 yo_6 rfl rfl rfl (Nat.le_of_ble_eq_true rfl) dX7_acceptTape_4 rfl ?_
  refine zj_istore_n (lv1 := [(1, .int r4), (0, .ref (q 0))]) hC dX7_acceptTape_7 (by decide) rfl ?_
  refine zj_iload_n 0 hC dX7_acceptTape_8 rfl ?_
  refine zj_iconst (v := (-1)) hC dX7_acceptTape_9 (by decide) ?_
  refine zj_icmp_ne 41 hC dX7_acceptTape_10 (by decide) (fun c7 => ?_) (fun c7 => ?_)
  · have hf := z_iteF hf c7
    refine zj_iconst (v := (-1)) hC dX7_acceptTape_41 (by decide) ?_
    refine zj_iload_n 0 hC dX7_acceptTape_42 rfl ?_
    refine zj_isub hC dX7_acceptTape_43 ?_
    exact zj_sub hC [] rfl (hJ44 ((-1) - r4) g5 hf)
  · have hf := z_iteT hf c7
    refine zj_aload_n 1 hC dX7_acceptTape_13 rfl ?_
    refine yg_0_4 hC hX7 (List.mem_of_getElem? (i := 2) rfl) dX7_acceptTape_14 ?_
    refine zj_aload_n 1 hC dX7_acceptTape_17 rfl ?_
    refine yg_0_7 hC hX7 (List.mem_of_getElem? (i := 3) rfl) dX7_acceptTape_18 ?_
    refine zj_if_eq 34 hC dX7_acceptTape_21 (by decide) (fun c8 => ?_) (fun c8 => ?_)
    · have hf := z_iteT hf c8
      refine zj_iconst (v := 0) hC dX7_acceptTape_34 (by decide) ?_
      exact zj_sub hC [] rfl (hJ35 0 g5 hf)
    · have hf := z_iteF hf c8
      refine zj_aload_n 1 hC dX7_acceptTape_24 rfl ?_
      refine yg_0_2 hC hX7 (List.mem_of_getElem? (i := 4) rfl) dX7_acceptTape_25 ?_
      refine yg_3_0 hC hX0 (List.mem_of_getElem? (i := 5) rfl) dX7_acceptTape_28 ?_
      refine zj_goto 35 hC dX7_acceptTape_31 (by decide) ?_
      exact zj_sub hC [] rfl (hJ35 (g5 3 0) g5 hf)

def fY_X7_rule_19 (s0 : Int32) (g : z_G) : Option (Int32 × z_G) := z_let (z_up g 4 0 0) (fun g1 => some (s0, g1))
def fY_X7_rule (g : z_G) : Option (Int32 × z_G) := z_bind (fY_X4_isFull g) (fun r2 g3 => (if r2 = 0 then z_bind (fY_X7_acceptTape g3) (fun r6 g7 => fY_X7_rule_19 r6 g7) else fY_X7_rule_19 (-100) g3))
theorem nY_X7_rule : yX7_rule.cls = RX7 ∧ yX7_rule.cls ≠ "java/lang/invoke/MethodHandle" ∧ yX7_rule.cls ≠ "java/lang/invoke/VarHandle" ∧ (parseMethodDescriptor yX7_rule.desc).map (fun d => d.parameters.length) = some 0 := by decide +kernel
set_option maxRecDepth 100000 in
set_option maxHeartbeats 4000000 in
theorem cY_X7_rule (l : Launch) (dC : Nat → ClassId) (dI : Nat → Nat → Nat) (ca : Nat → ClassId) (q : Nat → Nat) (tt : Nat → Nat) (g : z_G) (r : Int32) (g' : z_G) (hf : fY_X7_rule g = some (r, g')) : z_C l yX7_rule wsX7_rule { frames := 7, cells := 0, slots := 0, locals := 148 } (dC, dI) (tyY ca) (wY ca q) (zY tt) [.ref (q 0)] g (some r) g' := by
  refine z_enter (wY_ok ca q) (zY_ok tt) (by decide +kernel) rfl (Nat.le_of_ble_eq_true rfl) (fun J hC => ?_)
  have hC : z_Cx J l cX7_rule 2 wsX7_rule RX7 (some .int) { frames := 7, cells := 0, slots := 0, locals := 148 } (dC, dI) (tyY ca) (wY ca q) (zY tt) (z_QI (dC, dI) (tyY ca) (wY ca q) (some r) g') z_X0 := hC
  show J 0 [(0, .ref (q 0))] [] g
  have hX5 : ∀ w ∈ wsX50, w ∈ wsX7_rule := fun _ h => List.mem_cons_of_mem _ (List.mem_append_left _ (List.mem_append_left _ (List.mem_append_left _ (List.mem_append_right _ (h)))))
  have hX7 : ∀ w ∈ wsX70, w ∈ wsX7_rule := fun _ h => List.mem_cons_of_mem _ (List.mem_append_left _ (List.mem_append_left _ (List.mem_append_left _ (List.mem_append_left _ (List.mem_append_right _ (h))))))
  have hJ19 : ∀ (s0 : Int32) (g : z_G), fY_X7_rule_19 s0 g = some (r, g') → J 19 [(0, .ref (q 0))] [.int s0] g := by
    intro s0 g hf
    unfold fY_X7_rule_19 at hf
    refine zj_istore_n (lv1 := [(1, .int s0), (0, .ref (q 0))]) hC dX7_rule_19 (by decide) rfl ?_
    refine zj_aload_n 1 hC dX7_rule_20 rfl ?_
    refine yg_0_3 hC hX7 (List.mem_of_getElem? (i := 2) rfl) dX7_rule_21 ?_
    refine zj_iconst (v := 0) hC dX7_rule_24 (by decide) ?_
    refine yp_4_0 hC hX5 (List.mem_of_getElem? (i := 3) rfl) dX7_rule_25 (fun g1 eg1 => ?_)
    have hf := z_letE hf eg1
    refine zj_iload_n 0 hC dX7_rule_28 rfl ?_
    exact zj_ireturn hC hf dX7_rule_29
  unfold fY_X7_rule at hf
  refine zj_aload_n 0 hC dX7_rule_0 rfl ?_
  refine yg_0_4 hC hX7 (List.mem_of_getElem? (i := 1) rfl) dX7_rule_1 ?_
  obtain ⟨r2, g3, hq4, hf⟩ := z_bindE hf
  refine zj_callVi [] hC (cY_X4_isFull l dC dI ca q tt g r2 g3 hq4) gX7_rule_X4_isFull rfl nY_X4_isFull ⟨Nat.le_of_ble_eq_true rfl, Nat.le_of_ble_eq_true rfl⟩ 5 yo_5 rfl rfl rfl (Nat.le_of_ble_eq_true rfl) dX7_rule_4 rfl ?_
  refine zj_if_eq 15 hC dX7_rule_7 (by decide) (fun c5 => ?_) (fun c5 => ?_)
  · have hf := z_iteT hf c5
    refine zj_aload_n 0 hC dX7_rule_15 rfl ?_
    obtain ⟨r6, g7, hq8, hf⟩ := z_bindE hf
    refine zj_callVi [] hC (cY_X7_acceptTape l dC dI ca q tt g3 r6 g7 hq8) gX7_rule_X7_acceptTape rfl nY_X7_acceptTape ⟨Nat.le_of_ble_eq_true rfl, Nat.le_of_ble_eq_true rfl⟩ 0 yo_0 rfl rfl rfl (Nat.le_of_ble_eq_true rfl) dX7_rule_16 rfl ?_
    exact (hJ19 r6 g7 hf)
  · have hf := z_iteF hf c5
    refine zj_bipush (v := (-100)) hC dX7_rule_10 (by decide) ?_
    refine zj_goto 19 hC dX7_rule_12 (by decide) ?_
    exact (hJ19 (-100) g3 hf)

def fY_X7_repeal (g : z_G) : Option (Int32 × z_G) := (if (g 0 7) = 0 then z_let (g 5 0) (fun y2 => z_let (z_up g 5 0 0) (fun g3 => some (y2, g3))) else some ((-1), g))
theorem nY_X7_repeal : yX7_repeal.cls = RX7 ∧ yX7_repeal.cls ≠ "java/lang/invoke/MethodHandle" ∧ yX7_repeal.cls ≠ "java/lang/invoke/VarHandle" ∧ (parseMethodDescriptor yX7_repeal.desc).map (fun d => d.parameters.length) = some 0 := by decide +kernel
set_option maxRecDepth 100000 in
set_option maxHeartbeats 4000000 in
theorem cY_X7_repeal (l : Launch) (dC : Nat → ClassId) (dI : Nat → Nat → Nat) (ca : Nat → ClassId) (q : Nat → Nat) (tt : Nat → Nat) (g : z_G) (r : Int32) (g' : z_G) (hf : fY_X7_repeal g = some (r, g')) : z_C l yX7_repeal wsX7_repeal { frames := 0, cells := 0, slots := 0, locals := 0 } (dC, dI) (tyY ca) (wY ca q) (zY tt) [.ref (q 0)] g (some r) g' := by
  refine z_enter (wY_ok ca q) (zY_ok tt) (by decide +kernel) rfl (Nat.le_of_ble_eq_true rfl) (fun J hC => ?_)
  have hC : z_Cx J l cX7_repeal 2 wsX7_repeal RX7 (some .int) { frames := 0, cells := 0, slots := 0, locals := 0 } (dC, dI) (tyY ca) (wY ca q) (zY tt) (z_QI (dC, dI) (tyY ca) (wY ca q) (some r) g') z_X0 := hC
  show J 0 [(0, .ref (q 0))] [] g
  have hX4 : ∀ w ∈ wsX40, w ∈ wsX7_repeal := fun _ h => List.mem_cons_of_mem _ (List.mem_append_right _ (h))
  have hX7 : ∀ w ∈ wsX70, w ∈ wsX7_repeal := fun _ h => List.mem_cons_of_mem _ (List.mem_append_left _ (List.mem_append_right _ (h)))
  unfold fY_X7_repeal at hf
  refine zj_aload_n 0 hC dX7_repeal_0 rfl ?_
  refine yg_0_7 hC hX7 (List.mem_of_getElem? (i := 1) rfl) dX7_repeal_1 ?_
  refine zj_if_eq 9 hC dX7_repeal_4 (by decide) (fun c1 => ?_) (fun c1 => ?_)
  · have hf := z_iteT hf c1
    refine zj_aload_n 0 hC dX7_repeal_9 rfl ?_
    refine yg_0_4 hC hX7 (List.mem_of_getElem? (i := 2) rfl) dX7_repeal_10 ?_
    refine yg_5_0 hC hX4 (List.mem_of_getElem? (i := 3) rfl) dX7_repeal_13 ?_
    refine zj_top (fun y2 ey2 => ?_)
    have hf := z_letE hf ey2
    refine zj_istore_n (lv1 := [(1, .int y2), (0, .ref (q 0))]) hC dX7_repeal_16 (by decide) rfl ?_
    refine zj_aload_n 1 hC dX7_repeal_17 rfl ?_
    refine yg_0_4 hC hX7 (List.mem_of_getElem? (i := 2) rfl) dX7_repeal_18 ?_
    refine zj_iconst (v := 0) hC dX7_repeal_21 (by decide) ?_
    refine yp_5_0 hC hX4 (List.mem_of_getElem? (i := 3) rfl) dX7_repeal_22 (fun g3 eg3 => ?_)
    have hf := z_letE hf eg3
    refine zj_iload_n 0 hC dX7_repeal_25 rfl ?_
    exact zj_ireturn hC hf dX7_repeal_26
  · have hf := z_iteF hf c1
    refine zj_iconst (v := (-1)) hC dX7_repeal_7 (by decide) ?_
    exact zj_ireturn hC hf dX7_repeal_8

def fY_X7_wood_34  (g : z_G) : Option (Int32 × z_G) := some ((-1), g)
def fY_X7_wood (a0 : Int32) (a1 : Int32) (a2 : Int32) (g : z_G) : Option (Int32 × z_G) := (if a0 < 0 then fY_X7_wood_34 g else (if 200 < a0 then fY_X7_wood_34 g else (if a1 < 1 then fY_X7_wood_34 g else (if 100 < a1 then fY_X7_wood_34 g else (if a2 < 1 then fY_X7_wood_34 g else (if a2 ≤ 1000 then z_bind (fY_X6_plant a0 a1 a2 g) (fun r7 g8 => some (r7, g8)) else fY_X7_wood_34 g))))))
theorem nY_X7_wood : yX7_wood.cls = RX7 ∧ yX7_wood.cls ≠ "java/lang/invoke/MethodHandle" ∧ yX7_wood.cls ≠ "java/lang/invoke/VarHandle" ∧ (parseMethodDescriptor yX7_wood.desc).map (fun d => d.parameters.length) = some 3 := by decide +kernel
set_option maxRecDepth 100000 in
set_option maxHeartbeats 4000000 in
theorem cY_X7_wood (l : Launch) (dC : Nat → ClassId) (dI : Nat → Nat → Nat) (ca : Nat → ClassId) (q : Nat → Nat) (tt : Nat → Nat) (a0 : Int32) (a1 : Int32) (a2 : Int32) (g : z_G) (r : Int32) (g' : z_G) (hf : fY_X7_wood a0 a1 a2 g = some (r, g')) : z_C l yX7_wood wsX7_wood { frames := 1, cells := 0, slots := 0, locals := 23 } (dC, dI) (tyY ca) (wY ca q) (zY tt) [.ref (q 0), .int a0, .int a1, .int a2] g (some r) g' := by
  refine z_enter (wY_ok ca q) (zY_ok tt) (by decide +kernel) rfl (Nat.le_of_ble_eq_true rfl) (fun J hC => ?_)
  have hC : z_Cx J l cX7_wood 4 wsX7_wood RX7 (some .int) { frames := 1, cells := 0, slots := 0, locals := 23 } (dC, dI) (tyY ca) (wY ca q) (zY tt) (z_QI (dC, dI) (tyY ca) (wY ca q) (some r) g') z_X0 := hC
  show J 0 [(0, .ref (q 0)), (1, .int a0), (2, .int a1), (3, .int a2)] [] g
  have hX7 : ∀ w ∈ wsX70, w ∈ wsX7_wood := fun _ h => List.mem_cons_of_mem _ (List.mem_append_left _ (List.mem_append_right _ (h)))
  have hJ34 : ∀ (g : z_G), fY_X7_wood_34 g = some (r, g') → J 34 [] [] g := by
    intro g hf
    unfold fY_X7_wood_34 at hf
    refine zj_iconst (v := (-1)) hC dX7_wood_34 (by decide) ?_
    exact zj_ireturn hC hf dX7_wood_35
  unfold fY_X7_wood at hf
  refine zj_iload_n 1 hC dX7_wood_0 rfl ?_
  refine zj_if_lt 34 hC dX7_wood_1 (by decide) (fun c1 => ?_) (fun c1 => ?_)
  · have hf := z_iteT hf c1
    exact zj_sub hC [] rfl (hJ34 g hf)
  · have hf := z_iteF hf c1
    refine zj_iload_n 1 hC dX7_wood_4 rfl ?_
    refine zj_sipush (v := 200) hC dX7_wood_5 (by decide) ?_
    refine zj_icmp_gt 34 hC dX7_wood_8 (by decide) (fun c2 => ?_) (fun c2 => ?_)
    · have hf := z_iteT hf c2
      exact zj_sub hC [] rfl (hJ34 g hf)
    · have hf := z_iteF hf c2
      refine zj_iload_n 2 hC dX7_wood_11 rfl ?_
      refine zj_iconst (v := 1) hC dX7_wood_12 (by decide) ?_
      refine zj_icmp_lt 34 hC dX7_wood_13 (by decide) (fun c3 => ?_) (fun c3 => ?_)
      · have hf := z_iteT hf c3
        exact zj_sub hC [] rfl (hJ34 g hf)
      · have hf := z_iteF hf c3
        refine zj_iload_n 2 hC dX7_wood_16 rfl ?_
        refine zj_bipush (v := 100) hC dX7_wood_17 (by decide) ?_
        refine zj_icmp_gt 34 hC dX7_wood_19 (by decide) (fun c4 => ?_) (fun c4 => ?_)
        · have hf := z_iteT hf c4
          exact zj_sub hC [] rfl (hJ34 g hf)
        · have hf := z_iteF hf c4
          refine zj_iload_n 3 hC dX7_wood_22 rfl ?_
          refine zj_iconst (v := 1) hC dX7_wood_23 (by decide) ?_
          refine zj_icmp_lt 34 hC dX7_wood_24 (by decide) (fun c5 => ?_) (fun c5 => ?_)
          · have hf := z_iteT hf c5
            exact zj_sub hC [] rfl (hJ34 g hf)
          · have hf := z_iteF hf c5
            refine zj_iload_n 3 hC dX7_wood_27 rfl ?_
            refine zj_sipush (v := 1000) hC dX7_wood_28 (by decide) ?_
            refine zj_icmp_le 36 hC dX7_wood_31 (by decide) (fun c6 => ?_) (fun c6 => ?_)
            · have hf := z_iteT hf c6
              refine zj_aload_n 0 hC dX7_wood_36 rfl ?_
              refine yg_0_6 hC hX7 (List.mem_of_getElem? (i := 1) rfl) dX7_wood_37 ?_
              refine zj_iload_n 1 hC dX7_wood_40 rfl ?_
              refine zj_iload_n 2 hC dX7_wood_41 rfl ?_
              refine zj_iload_n 3 hC dX7_wood_42 rfl ?_
              obtain ⟨r7, g8, hq9, hf⟩ := z_bindE hf
              refine zj_callVi [.int a0, .int a1, .int a2] hC (cY_X6_plant l dC dI ca q tt a0 a1 a2 g r7 g8 hq9) gX7_wood_X6_plant rfl nY_X6_plant ⟨Nat.le_of_ble_eq_true rfl, Nat.le_of_ble_eq_true rfl⟩ 7 yo_7 rfl rfl rfl (Nat.le_of_ble_eq_true rfl) dX7_wood_43 rfl ?_
              exact zj_ireturn hC hf dX7_wood_46
            · have hf := z_iteF hf c6
              exact zj_sub hC [] rfl (hJ34 g hf)

def fY_X7_years_11  (g : z_G) : Option (Int32 × z_G) := z_bo 0 (some (0, g))
def fY_X7_years (a0 : Int32) (g : z_G) : Option (Int32 × z_G) := (if a0 < 0 then fY_X7_years_11 g else (if a0 ≤ 200 then z_bind (fY_X6_grow a0 g) (fun r3 g4 => z_bo 1 (some (1, g4))) else fY_X7_years_11 g))
theorem nY_X7_years : yX7_years.cls = RX7 ∧ yX7_years.cls ≠ "java/lang/invoke/MethodHandle" ∧ yX7_years.cls ≠ "java/lang/invoke/VarHandle" ∧ (parseMethodDescriptor yX7_years.desc).map (fun d => d.parameters.length) = some 1 := by decide +kernel
set_option maxRecDepth 100000 in
set_option maxHeartbeats 4000000 in
theorem cY_X7_years (l : Launch) (dC : Nat → ClassId) (dI : Nat → Nat → Nat) (ca : Nat → ClassId) (q : Nat → Nat) (tt : Nat → Nat) (a0 : Int32) (g : z_G) (r : Int32) (g' : z_G) (hf : fY_X7_years a0 g = some (r, g')) : z_C l yX7_years wsX7_years { frames := 2, cells := 0, slots := 0, locals := 43 } (dC, dI) (tyY ca) (wY ca q) (zY tt) [.ref (q 0), .int a0] g (some r) g' := by
  refine z_enter (wY_ok ca q) (zY_ok tt) (by decide +kernel) rfl (Nat.le_of_ble_eq_true rfl) (fun J hC => ?_)
  have hC : z_Cx J l cX7_years 2 wsX7_years RX7 (some .boolean) { frames := 2, cells := 0, slots := 0, locals := 43 } (dC, dI) (tyY ca) (wY ca q) (zY tt) (z_QI (dC, dI) (tyY ca) (wY ca q) (some r) g') z_X0 := hC
  show J 0 [(0, .ref (q 0)), (1, .int a0)] [] g
  have hX7 : ∀ w ∈ wsX70, w ∈ wsX7_years := fun _ h => List.mem_cons_of_mem _ (List.mem_append_left _ (List.mem_append_right _ (h)))
  have hJ11 : ∀ (g : z_G), fY_X7_years_11 g = some (r, g') → J 11 [] [] g := by
    intro g hf
    unfold fY_X7_years_11 at hf
    refine zj_iconst (v := 0) hC dX7_years_11 (by decide) ?_
    exact zj_zreturn hC hf dX7_years_12
  unfold fY_X7_years at hf
  refine zj_iload_n 1 hC dX7_years_0 rfl ?_
  refine zj_if_lt 11 hC dX7_years_1 (by decide) (fun c1 => ?_) (fun c1 => ?_)
  · have hf := z_iteT hf c1
    exact zj_sub hC [] rfl (hJ11 g hf)
  · have hf := z_iteF hf c1
    refine zj_iload_n 1 hC dX7_years_4 rfl ?_
    refine zj_sipush (v := 200) hC dX7_years_5 (by decide) ?_
    refine zj_icmp_le 13 hC dX7_years_8 (by decide) (fun c2 => ?_) (fun c2 => ?_)
    · have hf := z_iteT hf c2
      refine zj_aload_n 0 hC dX7_years_13 rfl ?_
      refine yg_0_6 hC hX7 (List.mem_of_getElem? (i := 1) rfl) dX7_years_14 ?_
      refine zj_iload_n 1 hC dX7_years_17 rfl ?_
      obtain ⟨r3, g4, hq5, hf⟩ := z_bindE hf
      refine zj_callVv [.int a0] hC (cY_X6_grow l dC dI ca q tt a0 g r3 g4 hq5) gX7_years_X6_grow rfl nY_X6_grow ⟨Nat.le_of_ble_eq_true rfl, Nat.le_of_ble_eq_true rfl⟩ 7 yo_7 rfl rfl rfl (Nat.le_of_ble_eq_true rfl) dX7_years_18 rfl ?_
      refine zj_iconst (v := 1) hC dX7_years_21 (by decide) ?_
      exact zj_zreturn hC hf dX7_years_22
    · have hf := z_iteF hf c2
      exact zj_sub hC [] rfl (hJ11 g hf)

def fY_X7_cut_22  (g : z_G) : Option (Int32 × z_G) := some ((-1), g)
def fY_X7_cut (a0 : Int32) (g : z_G) : Option (Int32 × z_G) := z_bind (fY_X6_has a0 g) (fun r1 g2 => (if r1 = 0 then fY_X7_cut_22 g2 else z_bind (fY_X6_yearsLeft a0 g2) (fun r5 g6 => (if r5 ≤ 0 then z_ck a0 12 (z_let (z_up g6 44 (Int32.toNatClampNeg a0) 0) (fun g10 => z_ck a0 12 (some (g10 46 (Int32.toNatClampNeg a0), g10)))) else fY_X7_cut_22 g6))))
theorem nY_X7_cut : yX7_cut.cls = RX7 ∧ yX7_cut.cls ≠ "java/lang/invoke/MethodHandle" ∧ yX7_cut.cls ≠ "java/lang/invoke/VarHandle" ∧ (parseMethodDescriptor yX7_cut.desc).map (fun d => d.parameters.length) = some 1 := by decide +kernel
set_option maxRecDepth 100000 in
set_option maxHeartbeats 4000000 in
theorem cY_X7_cut (l : Launch) (dC : Nat → ClassId) (dI : Nat → Nat → Nat) (ca : Nat → ClassId) (q : Nat → Nat) (tt : Nat → Nat) (a0 : Int32) (g : z_G) (r : Int32) (g' : z_G) (hf : fY_X7_cut a0 g = some (r, g')) : z_C l yX7_cut wsX7_cut { frames := 2, cells := 0, slots := 0, locals := 42 } (dC, dI) (tyY ca) (wY ca q) (zY tt) [.ref (q 0), .int a0] g (some r) g' := by
  refine z_enter (wY_ok ca q) (zY_ok tt) (by decide +kernel) rfl (Nat.le_of_ble_eq_true rfl) (fun J hC => ?_)
  have hC : z_Cx J l cX7_cut 2 wsX7_cut RX7 (some .int) { frames := 2, cells := 0, slots := 0, locals := 42 } (dC, dI) (tyY ca) (wY ca q) (zY tt) (z_QI (dC, dI) (tyY ca) (wY ca q) (some r) g') z_X0 := hC
  show J 0 [(0, .ref (q 0)), (1, .int a0)] [] g
  have hX6 : ∀ w ∈ wsX60, w ∈ wsX7_cut := fun _ h => List.mem_cons_of_mem _ (List.mem_append_right _ (h))
  have hX7 : ∀ w ∈ wsX70, w ∈ wsX7_cut := fun _ h => List.mem_cons_of_mem _ (List.mem_append_left _ (List.mem_append_right _ (h)))
  have hJ22 : ∀ (g : z_G), fY_X7_cut_22 g = some (r, g') → J 22 [] [] g := by
    intro g hf
    unfold fY_X7_cut_22 at hf
    refine zj_iconst (v := (-1)) hC dX7_cut_22 (by decide) ?_
    exact zj_ireturn hC hf dX7_cut_23
  unfold fY_X7_cut at hf
  refine zj_aload_n 0 hC dX7_cut_0 rfl ?_
  refine yg_0_6 hC hX7 (List.mem_of_getElem? (i := 1) rfl) dX7_cut_1 ?_
  refine zj_iload_n 1 hC dX7_cut_4 rfl ?_
  obtain ⟨r1, g2, hq3, hf⟩ := z_bindE hf
  refine zj_callVi [.int a0] hC (cY_X6_has l dC dI ca q tt a0 g r1 g2 hq3) gX7_cut_X6_has rfl nY_X6_has ⟨Nat.le_of_ble_eq_true rfl, Nat.le_of_ble_eq_true rfl⟩ 7 yo_7 rfl rfl rfl (Nat.le_of_ble_eq_true rfl) dX7_cut_5 rfl ?_
  refine zj_if_eq 22 hC dX7_cut_8 (by decide) (fun c4 => ?_) (fun c4 => ?_)
  · have hf := z_iteT hf c4
    exact zj_sub hC [] rfl (hJ22 g2 hf)
  · have hf := z_iteF hf c4
    refine zj_aload_n 0 hC dX7_cut_11 rfl ?_
    refine yg_0_6 hC hX7 (List.mem_of_getElem? (i := 1) rfl) dX7_cut_12 ?_
    refine zj_iload_n 1 hC dX7_cut_15 rfl ?_
    obtain ⟨r5, g6, hq7, hf⟩ := z_bindE hf
    refine zj_callVi [.int a0] hC (cY_X6_yearsLeft l dC dI ca q tt a0 g2 r5 g6 hq7) gX7_cut_X6_yearsLeft rfl nY_X6_yearsLeft ⟨Nat.le_of_ble_eq_true rfl, Nat.le_of_ble_eq_true rfl⟩ 7 yo_7 rfl rfl rfl (Nat.le_of_ble_eq_true rfl) dX7_cut_16 rfl ?_
    refine zj_if_le 24 hC dX7_cut_19 (by decide) (fun c8 => ?_) (fun c8 => ?_)
    · have hf := z_iteT hf c8
      refine zj_aload_n 0 hC dX7_cut_24 rfl ?_
      refine yg_0_6 hC hX7 (List.mem_of_getElem? (i := 1) rfl) dX7_cut_25 ?_
      refine yg_7_1 hC hX6 (List.mem_of_getElem? (i := 2) rfl) dX7_cut_28 ?_
      refine zj_iload_n 1 hC dX7_cut_31 rfl ?_
      refine zj_iconst (v := 0) hC dX7_cut_32 (by decide) ?_
      obtain ⟨hq9, hf⟩ := z_ckE hf
      refine ys_44 hC hq9 dX7_cut_33 (fun g10 eg10 => ?_)
      have hf := z_letE hf eg10
      refine zj_aload_n 0 hC dX7_cut_34 rfl ?_
      refine yg_0_6 hC hX7 (List.mem_of_getElem? (i := 1) rfl) dX7_cut_35 ?_
      refine yg_7_3 hC hX6 (List.mem_of_getElem? (i := 3) rfl) dX7_cut_38 ?_
      refine zj_iload_n 1 hC dX7_cut_41 rfl ?_
      obtain ⟨hq11, hf⟩ := z_ckE hf
      refine ya_46 hC hq11 dX7_cut_42 ?_
      exact zj_ireturn hC hf dX7_cut_43
    · have hf := z_iteF hf c8
      exact zj_sub hC [] rfl (hJ22 g6 hf)

def fY_X7_plan_12  (g : z_G) : Option (Int32 × z_G) := some ((-1), g)
def fY_X7_plan (a0 : Int32) (g : z_G) : Option (Int32 × z_G) := (if a0 < 1 then fY_X7_plan_12 g else (if a0 ≤ 20000 then z_bind (fY_X6_choose a0 g) (fun r3 g4 => some (r3, g4)) else fY_X7_plan_12 g))
theorem nY_X7_plan : yX7_plan.cls = RX7 ∧ yX7_plan.cls ≠ "java/lang/invoke/MethodHandle" ∧ yX7_plan.cls ≠ "java/lang/invoke/VarHandle" ∧ (parseMethodDescriptor yX7_plan.desc).map (fun d => d.parameters.length) = some 1 := by decide +kernel
set_option maxRecDepth 100000 in
set_option maxHeartbeats 4000000 in
theorem cY_X7_plan (l : Launch) (dC : Nat → ClassId) (dI : Nat → Nat → Nat) (ca : Nat → ClassId) (q : Nat → Nat) (tt : Nat → Nat) (a0 : Int32) (g : z_G) (r : Int32) (g' : z_G) (hf : fY_X7_plan a0 g = some (r, g')) : z_C l yX7_plan wsX7_plan { frames := 4, cells := 0, slots := 0, locals := 87 } (dC, dI) (tyY ca) (wY ca q) (zY tt) [.ref (q 0), .int a0] g (some r) g' := by
  refine z_enter (wY_ok ca q) (zY_ok tt) (by decide +kernel) rfl (Nat.le_of_ble_eq_true rfl) (fun J hC => ?_)
  have hC : z_Cx J l cX7_plan 2 wsX7_plan RX7 (some .int) { frames := 4, cells := 0, slots := 0, locals := 87 } (dC, dI) (tyY ca) (wY ca q) (zY tt) (z_QI (dC, dI) (tyY ca) (wY ca q) (some r) g') z_X0 := hC
  show J 0 [(0, .ref (q 0)), (1, .int a0)] [] g
  have hX7 : ∀ w ∈ wsX70, w ∈ wsX7_plan := fun _ h => List.mem_cons_of_mem _ (List.mem_append_left _ (List.mem_append_right _ (h)))
  have hJ12 : ∀ (g : z_G), fY_X7_plan_12 g = some (r, g') → J 12 [] [] g := by
    intro g hf
    unfold fY_X7_plan_12 at hf
    refine zj_iconst (v := (-1)) hC dX7_plan_12 (by decide) ?_
    exact zj_ireturn hC hf dX7_plan_13
  unfold fY_X7_plan at hf
  refine zj_iload_n 1 hC dX7_plan_0 rfl ?_
  refine zj_iconst (v := 1) hC dX7_plan_1 (by decide) ?_
  refine zj_icmp_lt 12 hC dX7_plan_2 (by decide) (fun c1 => ?_) (fun c1 => ?_)
  · have hf := z_iteT hf c1
    exact zj_sub hC [] rfl (hJ12 g hf)
  · have hf := z_iteF hf c1
    refine zj_iload_n 1 hC dX7_plan_5 rfl ?_
    refine zj_sipush (v := 20000) hC dX7_plan_6 (by decide) ?_
    refine zj_icmp_le 14 hC dX7_plan_9 (by decide) (fun c2 => ?_) (fun c2 => ?_)
    · have hf := z_iteT hf c2
      refine zj_aload_n 0 hC dX7_plan_14 rfl ?_
      refine yg_0_6 hC hX7 (List.mem_of_getElem? (i := 1) rfl) dX7_plan_15 ?_
      refine zj_iload_n 1 hC dX7_plan_18 rfl ?_
      obtain ⟨r3, g4, hq5, hf⟩ := z_bindE hf
      refine zj_callVi [.int a0] hC (cY_X6_choose l dC dI ca q tt a0 g r3 g4 hq5) gX7_plan_X6_choose rfl nY_X6_choose ⟨Nat.le_of_ble_eq_true rfl, Nat.le_of_ble_eq_true rfl⟩ 7 yo_7 rfl rfl rfl (Nat.le_of_ble_eq_true rfl) dX7_plan_19 rfl ?_
      exact zj_ireturn hC hf dX7_plan_22
    · have hf := z_iteF hf c2
      exact zj_sub hC [] rfl (hJ12 g hf)

def fY_X7_stand_20  (g : z_G) : Option (Int32 × z_G) := none
def fY_X7_stand (a0 : Int32) (a1 : Int32) (g : z_G) : Option (Int32 × z_G) := z_bind (fY_X6_has a0 g) (fun r1 g2 => (if r1 = 0 then fY_X7_stand_20 g2 else (if a1 < 0 then fY_X7_stand_20 g2 else (if a1 ≤ 3 then (if a1 = 0 then z_ck a0 12 (some (g2 44 (Int32.toNatClampNeg a0), g2)) else (if a1 = 1 then z_ck a0 12 (some (g2 45 (Int32.toNatClampNeg a0), g2)) else (if a1 = 2 then z_ck a0 12 (some (g2 46 (Int32.toNatClampNeg a0), g2)) else z_bind (fY_X6_yearsLeft a0 g2) (fun r13 g14 => some (r13, g14))))) else fY_X7_stand_20 g2))))
theorem nY_X7_stand : yX7_stand.cls = RX7 ∧ yX7_stand.cls ≠ "java/lang/invoke/MethodHandle" ∧ yX7_stand.cls ≠ "java/lang/invoke/VarHandle" ∧ (parseMethodDescriptor yX7_stand.desc).map (fun d => d.parameters.length) = some 2 := by decide +kernel
set_option maxRecDepth 100000 in
set_option maxHeartbeats 4000000 in
theorem cY_X7_stand (l : Launch) (dC : Nat → ClassId) (dI : Nat → Nat → Nat) (ca : Nat → ClassId) (q : Nat → Nat) (tt : Nat → Nat) (a0 : Int32) (a1 : Int32) (g : z_G) (r : Int32) (g' : z_G) (hf : fY_X7_stand a0 a1 g = some (r, g')) : z_C l yX7_stand wsX7_stand { frames := 2, cells := 0, slots := 0, locals := 42 } (dC, dI) (tyY ca) (wY ca q) (zY tt) [.ref (q 0), .int a0, .int a1] g (some r) g' := by
  refine z_enter (wY_ok ca q) (zY_ok tt) (by decide +kernel) rfl (Nat.le_of_ble_eq_true rfl) (fun J hC => ?_)
  have hC : z_Cx J l cX7_stand 3 wsX7_stand RX7 (some .int) { frames := 2, cells := 0, slots := 0, locals := 42 } (dC, dI) (tyY ca) (wY ca q) (zY tt) (z_QI (dC, dI) (tyY ca) (wY ca q) (some r) g') z_X0 := hC
  show J 0 [(0, .ref (q 0)), (1, .int a0), (2, .int a1)] [] g
  have hX6 : ∀ w ∈ wsX60, w ∈ wsX7_stand := fun _ h => List.mem_cons_of_mem _ (List.mem_append_left _ (List.mem_append_right _ (h)))
  have hX7 : ∀ w ∈ wsX70, w ∈ wsX7_stand := fun _ h => List.mem_cons_of_mem _ (List.mem_append_left _ (List.mem_append_left _ (List.mem_append_right _ (h))))
  have hJ20 : ∀ (g : z_G), fY_X7_stand_20 g = some (r, g') → J 20 [] [] g := by
    intro g hf
    unfold fY_X7_stand_20 at hf
    cases hf
  unfold fY_X7_stand at hf
  refine zj_aload_n 0 hC dX7_stand_0 rfl ?_
  refine yg_0_6 hC hX7 (List.mem_of_getElem? (i := 3) rfl) dX7_stand_1 ?_
  refine zj_iload_n 1 hC dX7_stand_4 rfl ?_
  obtain ⟨r1, g2, hq3, hf⟩ := z_bindE hf
  refine zj_callVi [.int a0] hC (cY_X6_has l dC dI ca q tt a0 g r1 g2 hq3) gX7_stand_X6_has rfl nY_X6_has ⟨Nat.le_of_ble_eq_true rfl, Nat.le_of_ble_eq_true rfl⟩ 7 yo_7 rfl rfl rfl (Nat.le_of_ble_eq_true rfl) dX7_stand_5 rfl ?_
  refine zj_if_eq 20 hC dX7_stand_8 (by decide) (fun c4 => ?_) (fun c4 => ?_)
  · have hf := z_iteT hf c4
    exact zj_sub hC [] rfl (hJ20 g2 hf)
  · have hf := z_iteF hf c4
    refine zj_iload_n 2 hC dX7_stand_11 rfl ?_
    refine zj_if_lt 20 hC dX7_stand_12 (by decide) (fun c5 => ?_) (fun c5 => ?_)
    · have hf := z_iteT hf c5
      exact zj_sub hC [] rfl (hJ20 g2 hf)
    · have hf := z_iteF hf c5
      refine zj_iload_n 2 hC dX7_stand_15 rfl ?_
      refine zj_iconst (v := 3) hC dX7_stand_16 (by decide) ?_
      refine zj_icmp_le 28 hC dX7_stand_17 (by decide) (fun c6 => ?_) (fun c6 => ?_)
      · have hf := z_iteT hf c6
        refine zj_iload_n 2 hC dX7_stand_28 rfl ?_
        by_cases c7 : a1 = 0
        · have hf := z_iteT hf c7
          refine zj_tabIn 56 hC dX7_stand_29 c7 (by decide) (by decide) rfl (by decide) ?_
          refine zj_aload_n 0 hC dX7_stand_56 rfl ?_
          refine yg_0_6 hC hX7 (List.mem_of_getElem? (i := 3) rfl) dX7_stand_57 ?_
          refine yg_7_1 hC hX6 (List.mem_of_getElem? (i := 4) rfl) dX7_stand_60 ?_
          refine zj_iload_n 1 hC dX7_stand_63 rfl ?_
          obtain ⟨hq8, hf⟩ := z_ckE hf
          refine ya_44 hC hq8 dX7_stand_64 ?_
          exact zj_ireturn hC hf dX7_stand_65
        have hf := z_iteF hf c7
        by_cases c9 : a1 = 1
        · have hf := z_iteT hf c9
          refine zj_tabIn 66 hC dX7_stand_29 c9 (by decide) (by decide) rfl (by decide) ?_
          refine zj_aload_n 0 hC dX7_stand_66 rfl ?_
          refine yg_0_6 hC hX7 (List.mem_of_getElem? (i := 3) rfl) dX7_stand_67 ?_
          refine yg_7_2 hC hX6 (List.mem_of_getElem? (i := 5) rfl) dX7_stand_70 ?_
          refine zj_iload_n 1 hC dX7_stand_73 rfl ?_
          obtain ⟨hq10, hf⟩ := z_ckE hf
          refine ya_45 hC hq10 dX7_stand_74 ?_
          exact zj_ireturn hC hf dX7_stand_75
        have hf := z_iteF hf c9
        by_cases c11 : a1 = 2
        · have hf := z_iteT hf c11
          refine zj_tabIn 76 hC dX7_stand_29 c11 (by decide) (by decide) rfl (by decide) ?_
          refine zj_aload_n 0 hC dX7_stand_76 rfl ?_
          refine yg_0_6 hC hX7 (List.mem_of_getElem? (i := 3) rfl) dX7_stand_77 ?_
          refine yg_7_3 hC hX6 (List.mem_of_getElem? (i := 6) rfl) dX7_stand_80 ?_
          refine zj_iload_n 1 hC dX7_stand_83 rfl ?_
          obtain ⟨hq12, hf⟩ := z_ckE hf
          refine ya_46 hC hq12 dX7_stand_84 ?_
          exact zj_ireturn hC hf dX7_stand_85
        have hf := z_iteF hf c11
        refine zj_tabOut 86 hC dX7_stand_29 (by have ec7 := lv_neT (a := 0) c7 rfl; have ec9 := lv_neT (a := 1) c9 rfl; have ec11 := lv_neT (a := 2) c11 rfl; omega) (by decide) ?_
        refine zj_aload_n 0 hC dX7_stand_86 rfl ?_
        refine yg_0_6 hC hX7 (List.mem_of_getElem? (i := 3) rfl) dX7_stand_87 ?_
        refine zj_iload_n 1 hC dX7_stand_90 rfl ?_
        obtain ⟨r13, g14, hq15, hf⟩ := z_bindE hf
        refine zj_callVi [.int a0] hC (cY_X6_yearsLeft l dC dI ca q tt a0 g2 r13 g14 hq15) gX7_stand_X6_yearsLeft rfl nY_X6_yearsLeft ⟨Nat.le_of_ble_eq_true rfl, Nat.le_of_ble_eq_true rfl⟩ 7 yo_7 rfl rfl rfl (Nat.le_of_ble_eq_true rfl) dX7_stand_91 rfl ?_
        exact zj_ireturn hC hf dX7_stand_94
      · have hf := z_iteF hf c6
        exact zj_sub hC [] rfl (hJ20 g2 hf)
