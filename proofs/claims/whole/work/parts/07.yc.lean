def fY_X3_next_24 (s0 : Int32) (g : z_G) : Option (Int32 × z_G) := some (s0, g)
def fY_X3_next (g : z_G) : Option (Int32 × z_G) := (if 40 ≤ (g 6 2) then fY_X3_next_24 (-1) g else z_bind (fY_X5_signAt (g 6 2) g) (fun r2 g3 => fY_X3_next_24 r2 g3))
theorem nY_X3_next : yX3_next.cls = RX3 ∧ yX3_next.cls ≠ "java/lang/invoke/MethodHandle" ∧ yX3_next.cls ≠ "java/lang/invoke/VarHandle" ∧ (parseMethodDescriptor yX3_next.desc).map (fun d => d.parameters.length) = some 0 := by decide +kernel
set_option maxRecDepth 100000 in
set_option maxHeartbeats 4000000 in
theorem cY_X3_next (l : Launch) (dC : Nat → ClassId) (dI : Nat → Nat → Nat) (ca : Nat → ClassId) (q : Nat → Nat) (tt : Nat → Nat) (g : z_G) (r : Int32) (g' : z_G) (hf : fY_X3_next g = some (r, g')) : z_C l yX3_next wsX3_next { frames := 1, cells := 0, slots := 0, locals := 21 } (dC, dI) (tyY ca) (wY ca q) (zY tt) [.ref (q 6)] g (some r) g' := by
  refine z_enter (wY_ok ca q) (zY_ok tt) (by decide +kernel) rfl (Nat.le_of_ble_eq_true rfl) (fun J hC => ?_)
  have hC : z_Cx J l cX3_next 1 wsX3_next RX3 (some .int) { frames := 1, cells := 0, slots := 0, locals := 21 } (dC, dI) (tyY ca) (wY ca q) (zY tt) (z_QI (dC, dI) (tyY ca) (wY ca q) (some r) g') z_X0 := hC
  show J 0 [(0, .ref (q 6))] [] g
  have hX3 : ∀ w ∈ wsX30, w ∈ wsX3_next := fun _ h => List.mem_cons_of_mem _ (List.mem_append_left _ (List.mem_append_right _ (h)))
  have hJ24 : ∀ (s0 : Int32) (g : z_G), fY_X3_next_24 s0 g = some (r, g') → J 24 [] [.int s0] g := by
    intro s0 g hf
    unfold fY_X3_next_24 at hf
    exact zj_ireturn hC hf dX3_next_24
  unfold fY_X3_next at hf
  refine zj_aload_n 0 hC dX3_next_0 rfl ?_
  refine yg_6_2 hC hX3 (List.mem_of_getElem? (i := 1) rfl) dX3_next_1 ?_
  refine zj_bipush (v := 40) hC dX3_next_4 (by decide) ?_
  refine zj_icmp_ge 23 hC dX3_next_6 (by decide) (fun c1 => ?_) (fun c1 => ?_)
  · have hf := z_iteT hf c1
    refine zj_iconst (v := (-1)) hC dX3_next_23 (by decide) ?_
    exact zj_sub hC [] rfl (hJ24 (-1) g hf)
  · have hf := z_iteF hf c1
    refine zj_aload_n 0 hC dX3_next_9 rfl ?_
    refine yg_6_0 hC hX3 (List.mem_of_getElem? (i := 2) rfl) dX3_next_10 ?_
    refine zj_aload_n 0 hC dX3_next_13 rfl ?_
    refine yg_6_2 hC hX3 (List.mem_of_getElem? (i := 1) rfl) dX3_next_14 ?_
    obtain ⟨r2, g3, hq4, hf⟩ := z_bindE hf
    refine zj_callVi [.int (g 6 2)] hC (cY_X5_signAt l dC dI ca q tt (g 6 2) g r2 g3 hq4) gX3_next_X5_signAt rfl nY_X5_signAt ⟨Nat.le_of_ble_eq_true rfl, Nat.le_of_ble_eq_true rfl⟩ 4 yo_4 rfl rfl rfl (Nat.le_of_ble_eq_true rfl) dX3_next_17 rfl ?_
    refine zj_goto 24 hC dX3_next_20 (by decide) ?_
    exact zj_sub hC [] rfl (hJ24 r2 g3 hf)

def fY_X3_readNumber_74 (s0 : Int32) (g : z_G) : Option (Int32 × z_G) := z_bo s0 (some (s0, g))
def fY_X3_readNumber_65 (x1 : Int32) (g : z_G) : Option (Int32 × z_G) := (if x1 ≤ 0 then fY_X3_readNumber_74 0 g else fY_X3_readNumber_74 1 g)
def fY_X3_readNumber_7 (k7 : Int32 × z_G → Option (Int32 × z_G)) (x1 : Int32) (g : z_G) : Option (Int32 × z_G) := (if 5 ≤ x1 then fY_X3_readNumber_65 x1 g else z_bind (fY_X3_next g) (fun r3 g4 => (if r3 < 48 then fY_X3_readNumber_65 x1 g4 else z_bind (fY_X3_next g4) (fun r7 g8 => (if 57 < r7 then fY_X3_readNumber_65 x1 g8 else z_bind (fY_X3_next g8) (fun r11 g12 => z_let (z_up g12 6 3 (((10 * (g8 6 3)) + r11) - 48)) (fun g14 => z_let (z_up g14 6 2 ((g14 6 2) + 1)) (fun g15 => z_let (x1 + 1) (fun y16 => k7 (y16, g15))))))))))
def fY_X3_readNumber_7_go (x1 : Int32) (g : z_G) : Option (Int32 × z_G) := z_loop (fun k (w : Int32 × z_G) => fY_X3_readNumber_7 k w.1 w.2) z_fuel (x1, g)
def fY_X3_readNumber (g : z_G) : Option (Int32 × z_G) := z_let (z_up g 6 3 0) (fun g17 => fY_X3_readNumber_7_go 0 g17)
theorem nY_X3_readNumber : yX3_readNumber.cls = RX3 ∧ yX3_readNumber.cls ≠ "java/lang/invoke/MethodHandle" ∧ yX3_readNumber.cls ≠ "java/lang/invoke/VarHandle" ∧ (parseMethodDescriptor yX3_readNumber.desc).map (fun d => d.parameters.length) = some 0 := by decide +kernel
set_option maxRecDepth 100000 in
set_option maxHeartbeats 4000000 in
theorem cY_X3_readNumber (l : Launch) (dC : Nat → ClassId) (dI : Nat → Nat → Nat) (ca : Nat → ClassId) (q : Nat → Nat) (tt : Nat → Nat) (g : z_G) (r : Int32) (g' : z_G) (hf : fY_X3_readNumber g = some (r, g')) : z_C l yX3_readNumber wsX3_readNumber { frames := 2, cells := 0, slots := 0, locals := 41 } (dC, dI) (tyY ca) (wY ca q) (zY tt) [.ref (q 6)] g (some r) g' := by
  refine z_enter (wY_ok ca q) (zY_ok tt) (by decide +kernel) rfl (Nat.le_of_ble_eq_true rfl) (fun J hC => ?_)
  have hC : z_Cx J l cX3_readNumber 2 wsX3_readNumber RX3 (some .boolean) { frames := 2, cells := 0, slots := 0, locals := 41 } (dC, dI) (tyY ca) (wY ca q) (zY tt) (z_QI (dC, dI) (tyY ca) (wY ca q) (some r) g') z_X0 := hC
  show J 0 [(0, .ref (q 6))] [] g
  have hX3 : ∀ w ∈ wsX30, w ∈ wsX3_readNumber := fun _ h => List.mem_cons_of_mem _ (List.mem_append_left _ (List.mem_append_right _ (h)))
  have hJ74 : ∀ (s0 : Int32) (g : z_G), fY_X3_readNumber_74 s0 g = some (r, g') → J 74 [] [.int s0] g := by
    intro s0 g hf
    unfold fY_X3_readNumber_74 at hf
    exact zj_zreturn hC hf dX3_readNumber_74
  have hJ65 : ∀ (x1 : Int32) (g : z_G), fY_X3_readNumber_65 x1 g = some (r, g') → J 65 [(1, .int x1)] [] g := by
    intro x1 g hf
    unfold fY_X3_readNumber_65 at hf
    refine zj_iload_n 0 hC dX3_readNumber_65 rfl ?_
    refine zj_if_le 73 hC dX3_readNumber_66 (by decide) (fun c1 => ?_) (fun c1 => ?_)
    · have hf := z_iteT hf c1
      refine zj_iconst (v := 0) hC dX3_readNumber_73 (by decide) ?_
      exact zj_sub hC [] rfl (hJ74 0 g hf)
    · have hf := z_iteF hf c1
      refine zj_iconst (v := 1) hC dX3_readNumber_69 (by decide) ?_
      refine zj_goto 74 hC dX3_readNumber_70 (by decide) ?_
      exact zj_sub hC [] rfl (hJ74 1 g hf)
  have hJ7 : ∀ (x1 : Int32) (g : z_G), fY_X3_readNumber_7_go x1 g = some (r, g') → J 7 [(0, .ref (q 6)), (1, .int x1)] [] g := by
    intro x1 g hf
    refine z_loopE (P := fun w : Int32 × z_G => J 7 [(0, .ref (q 6)), (1, .int w.1)] [] w.2) (fun k7 hk7 w hf => ?_) z_fuel (x1, g) hf
    obtain ⟨x1, g⟩ := w
    have hf : fY_X3_readNumber_7 k7 x1 g = some (r, g') := hf
    show J 7 [(0, .ref (q 6)), (1, .int x1)] [] g
    unfold fY_X3_readNumber_7 at hf
    refine zj_iload_n 1 hC dX3_readNumber_7 rfl ?_
    refine zj_iconst (v := 5) hC dX3_readNumber_8 (by decide) ?_
    refine zj_icmp_ge 65 hC dX3_readNumber_9 (by decide) (fun c2 => ?_) (fun c2 => ?_)
    · have hf := z_iteT hf c2
      exact zj_sub hC [1] rfl (hJ65 x1 g hf)
    · have hf := z_iteF hf c2
      refine zj_aload_n 0 hC dX3_readNumber_12 rfl ?_
      obtain ⟨r3, g4, hq5, hf⟩ := z_bindE hf
      refine zj_callVi [] hC (cY_X3_next l dC dI ca q tt g r3 g4 hq5) gX3_readNumber_X3_next rfl nY_X3_next ⟨Nat.le_of_ble_eq_true rfl, Nat.le_of_ble_eq_true rfl⟩ 6 yo_6 rfl rfl rfl (Nat.le_of_ble_eq_true rfl) dX3_readNumber_13 rfl ?_
      refine zj_bipush (v := 48) hC dX3_readNumber_16 (by decide) ?_
      refine zj_icmp_lt 65 hC dX3_readNumber_18 (by decide) (fun c6 => ?_) (fun c6 => ?_)
      · have hf := z_iteT hf c6
        exact zj_sub hC [1] rfl (hJ65 x1 g4 hf)
      · have hf := z_iteF hf c6
        refine zj_aload_n 0 hC dX3_readNumber_21 rfl ?_
        obtain ⟨r7, g8, hq9, hf⟩ := z_bindE hf
        refine zj_callVi [] hC (cY_X3_next l dC dI ca q tt g4 r7 g8 hq9) gX3_readNumber_X3_next rfl nY_X3_next ⟨Nat.le_of_ble_eq_true rfl, Nat.le_of_ble_eq_true rfl⟩ 6 yo_6 rfl rfl rfl (Nat.le_of_ble_eq_true rfl) dX3_readNumber_22 rfl ?_
        refine zj_bipush (v := 57) hC dX3_readNumber_25 (by decide) ?_
        refine zj_icmp_gt 65 hC dX3_readNumber_27 (by decide) (fun c10 => ?_) (fun c10 => ?_)
        · have hf := z_iteT hf c10
          exact zj_sub hC [1] rfl (hJ65 x1 g8 hf)
        · have hf := z_iteF hf c10
          refine zj_aload_n 0 hC dX3_readNumber_30 rfl ?_
          refine zj_bipush (v := 10) hC dX3_readNumber_31 (by decide) ?_
          refine zj_aload_n 0 hC dX3_readNumber_33 rfl ?_
          refine yg_6_3 hC hX3 (List.mem_of_getElem? (i := 1) rfl) dX3_readNumber_34 ?_
          refine zj_imul hC dX3_readNumber_37 ?_
          refine zj_aload_n 0 hC dX3_readNumber_38 rfl ?_
          obtain ⟨r11, g12, hq13, hf⟩ := z_bindE hf
          refine zj_callVi [] hC (cY_X3_next l dC dI ca q tt g8 r11 g12 hq13) gX3_readNumber_X3_next rfl nY_X3_next ⟨Nat.le_of_ble_eq_true rfl, Nat.le_of_ble_eq_true rfl⟩ 6 yo_6 rfl rfl rfl (Nat.le_of_ble_eq_true rfl) dX3_readNumber_39 rfl ?_
          refine zj_iadd hC dX3_readNumber_42 ?_
          refine zj_bipush (v := 48) hC dX3_readNumber_43 (by decide) ?_
          refine zj_isub hC dX3_readNumber_45 ?_
          refine yp_6_3 hC hX3 (List.mem_of_getElem? (i := 1) rfl) dX3_readNumber_46 (fun g14 eg14 => ?_)
          have hf := z_letE hf eg14
          refine zj_aload_n 0 hC dX3_readNumber_49 rfl ?_
          refine zj_dup hC dX3_readNumber_50 rfl ?_
          refine yg_6_2 hC hX3 (List.mem_of_getElem? (i := 2) rfl) dX3_readNumber_51 ?_
          refine zj_iconst (v := 1) hC dX3_readNumber_54 (by decide) ?_
          refine zj_iadd hC dX3_readNumber_55 ?_
          refine yp_6_2 hC hX3 (List.mem_of_getElem? (i := 2) rfl) dX3_readNumber_56 (fun g15 eg15 => ?_)
          have hf := z_letE hf eg15
          refine zj_iinc (lv1 := fun v => [(1, .int v), (0, .ref (q 6))]) 1 hC dX3_readNumber_59 rfl (by decide) (fun _ => rfl) (fun y16 ey16 => ?_)
          have hf := z_letE hf (show y16 = x1 + 1 from ey16)
          refine zj_goto 7 hC dX3_readNumber_62 (by decide) ?_
          exact zj_sub hC [1, 0] rfl (hk7 (y16, g15) hf)
  unfold fY_X3_readNumber at hf
  refine zj_iconst (v := 0) hC dX3_readNumber_0 (by decide) ?_
  refine zj_istore_n (lv1 := [(1, .int 0), (0, .ref (q 6))]) hC dX3_readNumber_1 (by decide) rfl ?_
  refine zj_aload_n 1 hC dX3_readNumber_2 rfl ?_
  refine zj_iconst (v := 0) hC dX3_readNumber_3 (by decide) ?_
  refine yp_6_3 hC hX3 (List.mem_of_getElem? (i := 1) rfl) dX3_readNumber_4 (fun g17 eg17 => ?_)
  have hf := z_letE hf eg17
  exact zj_sub hC [1, 0] rfl (hJ7 0 g17 hf)

def fY_X3_take (a0 : Int32) (g : z_G) : Option (Int32 × z_G) := z_bind (fY_X3_next g) (fun r1 g2 => (if r1 = a0 then z_let (z_up g2 6 2 ((g2 6 2) + 1)) (fun g5 => z_bo 1 (some (1, g5))) else z_bo 0 (some (0, g2))))
theorem nY_X3_take : yX3_take.cls = RX3 ∧ yX3_take.cls ≠ "java/lang/invoke/MethodHandle" ∧ yX3_take.cls ≠ "java/lang/invoke/VarHandle" ∧ (parseMethodDescriptor yX3_take.desc).map (fun d => d.parameters.length) = some 1 := by decide +kernel
set_option maxRecDepth 100000 in
set_option maxHeartbeats 4000000 in
theorem cY_X3_take (l : Launch) (dC : Nat → ClassId) (dI : Nat → Nat → Nat) (ca : Nat → ClassId) (q : Nat → Nat) (tt : Nat → Nat) (a0 : Int32) (g : z_G) (r : Int32) (g' : z_G) (hf : fY_X3_take a0 g = some (r, g')) : z_C l yX3_take wsX3_take { frames := 2, cells := 0, slots := 0, locals := 41 } (dC, dI) (tyY ca) (wY ca q) (zY tt) [.ref (q 6), .int a0] g (some r) g' := by
  refine z_enter (wY_ok ca q) (zY_ok tt) (by decide +kernel) rfl (Nat.le_of_ble_eq_true rfl) (fun J hC => ?_)
  have hC : z_Cx J l cX3_take 2 wsX3_take RX3 (some .boolean) { frames := 2, cells := 0, slots := 0, locals := 41 } (dC, dI) (tyY ca) (wY ca q) (zY tt) (z_QI (dC, dI) (tyY ca) (wY ca q) (some r) g') z_X0 := hC
  show J 0 [(0, .ref (q 6)), (1, .int a0)] [] g
  have hX3 : ∀ w ∈ wsX30, w ∈ wsX3_take := fun _ h => List.mem_cons_of_mem _ (List.mem_append_left _ (List.mem_append_right _ (h)))
  unfold fY_X3_take at hf
  refine zj_aload_n 0 hC dX3_take_0 rfl ?_
  obtain ⟨r1, g2, hq3, hf⟩ := z_bindE hf
  refine zj_callVi [] hC (cY_X3_next l dC dI ca q tt g r1 g2 hq3) gX3_take_X3_next rfl nY_X3_next ⟨Nat.le_of_ble_eq_true rfl, Nat.le_of_ble_eq_true rfl⟩ 6 yo_6 rfl rfl rfl (Nat.le_of_ble_eq_true rfl) dX3_take_1 rfl ?_
  refine zj_iload_n 1 hC dX3_take_4 rfl ?_
  refine zj_icmp_eq 10 hC dX3_take_5 (by decide) (fun c4 => ?_) (fun c4 => ?_)
  · have hf := z_iteT hf c4
    refine zj_aload_n 0 hC dX3_take_10 rfl ?_
    refine zj_dup hC dX3_take_11 rfl ?_
    refine yg_6_2 hC hX3 (List.mem_of_getElem? (i := 1) rfl) dX3_take_12 ?_
    refine zj_iconst (v := 1) hC dX3_take_15 (by decide) ?_
    refine zj_iadd hC dX3_take_16 ?_
    refine yp_6_2 hC hX3 (List.mem_of_getElem? (i := 1) rfl) dX3_take_17 (fun g5 eg5 => ?_)
    have hf := z_letE hf eg5
    refine zj_iconst (v := 1) hC dX3_take_20 (by decide) ?_
    exact zj_zreturn hC hf dX3_take_21
  · have hf := z_iteF hf c4
    refine zj_iconst (v := 0) hC dX3_take_8 (by decide) ?_
    exact zj_zreturn hC hf dX3_take_9

def fY_X3_readAsk_64  (g : z_G) : Option (Int32 × z_G) := z_bo 0 (some (0, g))
def fY_X3_readAsk_57 (x1 : Int32) (x2 : Int32) (x3 : Int32) (g : z_G) : Option (Int32 × z_G) := z_bind (fY_X3_readNumber g) (fun r1 g2 => (if r1 = 0 then fY_X3_readAsk_64 g2 else z_bind (fY_X4_putAsk x1 x2 x3 (g2 6 3) g2) (fun r5 g6 => z_bo 1 (some (1, g6)))))
def fY_X3_readAsk (a0 : Int32) (g : z_G) : Option (Int32 × z_G) := z_bind (fY_X3_next g) (fun r8 g9 => z_bind (fY_X4_letterOf r8 g9) (fun r11 g12 => (if r11 = (-1) then z_bo 0 (some (0, g12)) else z_let (z_up g12 6 2 ((g12 6 2) + 1)) (fun g15 => z_bind (fY_X3_next g15) (fun r16 g17 => z_bind (fY_X3_take 60 g17) (fun r19 g20 => (if r19 = 0 then z_bind (fY_X3_take 62 g20) (fun r23 g24 => (if r23 = 0 then z_bind (fY_X3_take 61 g24) (fun r27 g28 => (if r27 = 0 then fY_X3_readAsk_64 g28 else fY_X3_readAsk_57 a0 r11 r16 g28)) else fY_X3_readAsk_57 a0 r11 r16 g24)) else fY_X3_readAsk_57 a0 r11 r16 g20)))))))
theorem nY_X3_readAsk : yX3_readAsk.cls = RX3 ∧ yX3_readAsk.cls ≠ "java/lang/invoke/MethodHandle" ∧ yX3_readAsk.cls ≠ "java/lang/invoke/VarHandle" ∧ (parseMethodDescriptor yX3_readAsk.desc).map (fun d => d.parameters.length) = some 1 := by decide +kernel
set_option maxRecDepth 100000 in
set_option maxHeartbeats 4000000 in
theorem cY_X3_readAsk (l : Launch) (dC : Nat → ClassId) (dI : Nat → Nat → Nat) (ca : Nat → ClassId) (q : Nat → Nat) (tt : Nat → Nat) (a0 : Int32) (g : z_G) (r : Int32) (g' : z_G) (hf : fY_X3_readAsk a0 g = some (r, g')) : z_C l yX3_readAsk wsX3_readAsk { frames := 3, cells := 0, slots := 0, locals := 62 } (dC, dI) (tyY ca) (wY ca q) (zY tt) [.ref (q 6), .int a0] g (some r) g' := by
  refine z_enter (wY_ok ca q) (zY_ok tt) (by decide +kernel) rfl (Nat.le_of_ble_eq_true rfl) (fun J hC => ?_)
  have hC : z_Cx J l cX3_readAsk 4 wsX3_readAsk RX3 (some .boolean) { frames := 3, cells := 0, slots := 0, locals := 62 } (dC, dI) (tyY ca) (wY ca q) (zY tt) (z_QI (dC, dI) (tyY ca) (wY ca q) (some r) g') z_X0 := hC
  show J 0 [(0, .ref (q 6)), (1, .int a0)] [] g
  have hX3 : ∀ w ∈ wsX30, w ∈ wsX3_readAsk := fun _ h => List.mem_cons_of_mem _ (List.mem_append_left _ (List.mem_append_left _ (List.mem_append_right _ (h))))
  have hJ64 : ∀ (g : z_G), fY_X3_readAsk_64 g = some (r, g') → J 64 [] [] g := by
    intro g hf
    unfold fY_X3_readAsk_64 at hf
    refine zj_iconst (v := 0) hC dX3_readAsk_64 (by decide) ?_
    exact zj_zreturn hC hf dX3_readAsk_65
  have hJ57 : ∀ (x1 : Int32) (x2 : Int32) (x3 : Int32) (g : z_G), fY_X3_readAsk_57 x1 x2 x3 g = some (r, g') → J 57 [(0, .ref (q 6)), (1, .int x1), (2, .int x2), (3, .int x3)] [] g := by
    intro x1 x2 x3 g hf
    unfold fY_X3_readAsk_57 at hf
    refine zj_aload_n 0 hC dX3_readAsk_57 rfl ?_
    obtain ⟨r1, g2, hq3, hf⟩ := z_bindE hf
    refine zj_callVi [] hC (cY_X3_readNumber l dC dI ca q tt g r1 g2 hq3) gX3_readAsk_X3_readNumber rfl nY_X3_readNumber ⟨Nat.le_of_ble_eq_true rfl, Nat.le_of_ble_eq_true rfl⟩ 6 yo_6 rfl rfl rfl (Nat.le_of_ble_eq_true rfl) dX3_readAsk_58 rfl ?_
    refine zj_if_ne 66 hC dX3_readAsk_61 (by decide) (fun c4 => ?_) (fun c4 => ?_)
    · have hf := z_iteF hf c4
      refine zj_aload_n 0 hC dX3_readAsk_66 rfl ?_
      refine yg_6_1 hC hX3 (List.mem_of_getElem? (i := 2) rfl) dX3_readAsk_67 ?_
      refine zj_iload_n 1 hC dX3_readAsk_70 rfl ?_
      refine zj_iload_n 2 hC dX3_readAsk_71 rfl ?_
      refine zj_iload_n 3 hC dX3_readAsk_72 rfl ?_
      refine zj_aload_n 0 hC dX3_readAsk_73 rfl ?_
      refine yg_6_3 hC hX3 (List.mem_of_getElem? (i := 3) rfl) dX3_readAsk_74 ?_
      obtain ⟨r5, g6, hq7, hf⟩ := z_bindE hf
      refine zj_callVv [.int x1, .int x2, .int x3, .int (g2 6 3)] hC (cY_X4_putAsk l dC dI ca q tt x1 x2 x3 (g2 6 3) g2 r5 g6 hq7) gX3_readAsk_X4_putAsk rfl nY_X4_putAsk ⟨Nat.le_of_ble_eq_true rfl, Nat.le_of_ble_eq_true rfl⟩ 5 yo_5 rfl rfl rfl (Nat.le_of_ble_eq_true rfl) dX3_readAsk_77 rfl ?_
      refine zj_iconst (v := 1) hC dX3_readAsk_80 (by decide) ?_
      exact zj_zreturn hC hf dX3_readAsk_81
    · have hf := z_iteT hf c4
      exact zj_sub hC [] rfl (hJ64 g2 hf)
  unfold fY_X3_readAsk at hf
  refine zj_aload_n 0 hC dX3_readAsk_0 rfl ?_
  obtain ⟨r8, g9, hq10, hf⟩ := z_bindE hf
  refine zj_callVi [] hC (cY_X3_next l dC dI ca q tt g r8 g9 hq10) gX3_readAsk_X3_next rfl nY_X3_next ⟨Nat.le_of_ble_eq_true rfl, Nat.le_of_ble_eq_true rfl⟩ 6 yo_6 rfl rfl rfl (Nat.le_of_ble_eq_true rfl) dX3_readAsk_1 rfl ?_
  obtain ⟨r11, g12, hq13, hf⟩ := z_bindE hf
  refine zj_callSi [.int r8] hC (cY_X4_letterOf l dC dI ca q tt r8 g9 r11 g12 hq13) gX3_readAsk_X4_letterOf rfl nY_X4_letterOf ⟨Nat.le_of_ble_eq_true rfl, Nat.le_of_ble_eq_true rfl⟩ rfl (Nat.le_of_ble_eq_true rfl) dX3_readAsk_4 rfl ?_
  refine zj_istore_n (lv1 := [(2, .int r11), (0, .ref (q 6)), (1, .int a0)]) hC dX3_readAsk_7 (by decide) rfl ?_
  refine zj_iload_n 0 hC dX3_readAsk_8 rfl ?_
  refine zj_iconst (v := (-1)) hC dX3_readAsk_9 (by decide) ?_
  refine zj_icmp_ne 15 hC dX3_readAsk_10 (by decide) (fun c14 => ?_) (fun c14 => ?_)
  · have hf := z_iteF hf c14
    refine zj_aload_n 1 hC dX3_readAsk_15 rfl ?_
    refine zj_dup hC dX3_readAsk_16 rfl ?_
    refine yg_6_2 hC hX3 (List.mem_of_getElem? (i := 1) rfl) dX3_readAsk_17 ?_
    refine zj_iconst (v := 1) hC dX3_readAsk_20 (by decide) ?_
    refine zj_iadd hC dX3_readAsk_21 ?_
    refine yp_6_2 hC hX3 (List.mem_of_getElem? (i := 1) rfl) dX3_readAsk_22 (fun g15 eg15 => ?_)
    have hf := z_letE hf eg15
    refine zj_aload_n 1 hC dX3_readAsk_25 rfl ?_
    obtain ⟨r16, g17, hq18, hf⟩ := z_bindE hf
    refine zj_callVi [] hC (cY_X3_next l dC dI ca q tt g15 r16 g17 hq18) gX3_readAsk_X3_next rfl nY_X3_next ⟨Nat.le_of_ble_eq_true rfl, Nat.le_of_ble_eq_true rfl⟩ 6 yo_6 rfl rfl rfl (Nat.le_of_ble_eq_true rfl) dX3_readAsk_26 rfl ?_
    refine zj_istore_n (lv1 := [(3, .int r16), (2, .int r11), (0, .ref (q 6)), (1, .int a0)]) hC dX3_readAsk_29 (by decide) rfl ?_
    refine zj_aload_n 2 hC dX3_readAsk_30 rfl ?_
    refine zj_bipush (v := 60) hC dX3_readAsk_31 (by decide) ?_
    obtain ⟨r19, g20, hq21, hf⟩ := z_bindE hf
    refine zj_callVi [.int 60] hC (cY_X3_take l dC dI ca q tt 60 g17 r19 g20 hq21) gX3_readAsk_X3_take rfl nY_X3_take ⟨Nat.le_of_ble_eq_true rfl, Nat.le_of_ble_eq_true rfl⟩ 6 yo_6 rfl rfl rfl (Nat.le_of_ble_eq_true rfl) dX3_readAsk_33 rfl ?_
    refine zj_if_ne 57 hC dX3_readAsk_36 (by decide) (fun c22 => ?_) (fun c22 => ?_)
    · have hf := z_iteF hf c22
      exact zj_sub hC [2, 3, 1, 0] rfl (hJ57 a0 r11 r16 g20 hf)
    · have hf := z_iteT hf c22
      refine zj_aload_n 2 hC dX3_readAsk_39 rfl ?_
      refine zj_bipush (v := 62) hC dX3_readAsk_40 (by decide) ?_
      obtain ⟨r23, g24, hq25, hf⟩ := z_bindE hf
      refine zj_callVi [.int 62] hC (cY_X3_take l dC dI ca q tt 62 g20 r23 g24 hq25) gX3_readAsk_X3_take rfl nY_X3_take ⟨Nat.le_of_ble_eq_true rfl, Nat.le_of_ble_eq_true rfl⟩ 6 yo_6 rfl rfl rfl (Nat.le_of_ble_eq_true rfl) dX3_readAsk_42 rfl ?_
      refine zj_if_ne 57 hC dX3_readAsk_45 (by decide) (fun c26 => ?_) (fun c26 => ?_)
      · have hf := z_iteF hf c26
        exact zj_sub hC [2, 3, 1, 0] rfl (hJ57 a0 r11 r16 g24 hf)
      · have hf := z_iteT hf c26
        refine zj_aload_n 2 hC dX3_readAsk_48 rfl ?_
        refine zj_bipush (v := 61) hC dX3_readAsk_49 (by decide) ?_
        obtain ⟨r27, g28, hq29, hf⟩ := z_bindE hf
        refine zj_callVi [.int 61] hC (cY_X3_take l dC dI ca q tt 61 g24 r27 g28 hq29) gX3_readAsk_X3_take rfl nY_X3_take ⟨Nat.le_of_ble_eq_true rfl, Nat.le_of_ble_eq_true rfl⟩ 6 yo_6 rfl rfl rfl (Nat.le_of_ble_eq_true rfl) dX3_readAsk_51 rfl ?_
        refine zj_if_eq 64 hC dX3_readAsk_54 (by decide) (fun c30 => ?_) (fun c30 => ?_)
        · have hf := z_iteT hf c30
          exact zj_sub hC [] rfl (hJ64 g28 hf)
        · have hf := z_iteF hf c30
          exact zj_sub hC [2, 3, 1, 0] rfl (hJ57 a0 r11 r16 g28 hf)
  · have hf := z_iteT hf c14
    refine zj_iconst (v := 0) hC dX3_readAsk_13 (by decide) ?_
    exact zj_zreturn hC hf dX3_readAsk_14

def fY_X3_readAsks_2 (k2 : Int32 × z_G → Option (Int32 × z_G)) (x1 : Int32) (g : z_G) : Option (Int32 × z_G) := (if 10 ≤ x1 then z_bo 0 (some (0, g)) else z_bind (fY_X3_readAsk x1 g) (fun r2 g3 => (if r2 = 0 then z_bo 0 (some (0, g3)) else z_bind (fY_X3_take 38 g3) (fun r6 g7 => (if r6 = 0 then z_bo 1 (some (1, g7)) else z_let (x1 + 1) (fun y10 => k2 (y10, g7)))))))
def fY_X3_readAsks_2_go (x1 : Int32) (g : z_G) : Option (Int32 × z_G) := z_loop (fun k (w : Int32 × z_G) => fY_X3_readAsks_2 k w.1 w.2) z_fuel (x1, g)
def fY_X3_readAsks (g : z_G) : Option (Int32 × z_G) := fY_X3_readAsks_2_go 0 g
theorem nY_X3_readAsks : yX3_readAsks.cls = RX3 ∧ yX3_readAsks.cls ≠ "java/lang/invoke/MethodHandle" ∧ yX3_readAsks.cls ≠ "java/lang/invoke/VarHandle" ∧ (parseMethodDescriptor yX3_readAsks.desc).map (fun d => d.parameters.length) = some 0 := by decide +kernel
set_option maxRecDepth 100000 in
set_option maxHeartbeats 4000000 in
theorem cY_X3_readAsks (l : Launch) (dC : Nat → ClassId) (dI : Nat → Nat → Nat) (ca : Nat → ClassId) (q : Nat → Nat) (tt : Nat → Nat) (g : z_G) (r : Int32) (g' : z_G) (hf : fY_X3_readAsks g = some (r, g')) : z_C l yX3_readAsks wsX3_readAsks { frames := 4, cells := 0, slots := 0, locals := 85 } (dC, dI) (tyY ca) (wY ca q) (zY tt) [.ref (q 6)] g (some r) g' := by
  refine z_enter (wY_ok ca q) (zY_ok tt) (by decide +kernel) rfl (Nat.le_of_ble_eq_true rfl) (fun J hC => ?_)
  have hC : z_Cx J l cX3_readAsks 2 wsX3_readAsks RX3 (some .boolean) { frames := 4, cells := 0, slots := 0, locals := 85 } (dC, dI) (tyY ca) (wY ca q) (zY tt) (z_QI (dC, dI) (tyY ca) (wY ca q) (some r) g') z_X0 := hC
  show J 0 [(0, .ref (q 6))] [] g
  have hJ2 : ∀ (x1 : Int32) (g : z_G), fY_X3_readAsks_2_go x1 g = some (r, g') → J 2 [(0, .ref (q 6)), (1, .int x1)] [] g := by
    intro x1 g hf
    refine z_loopE (P := fun w : Int32 × z_G => J 2 [(0, .ref (q 6)), (1, .int w.1)] [] w.2) (fun k2 hk2 w hf => ?_) z_fuel (x1, g) hf
    obtain ⟨x1, g⟩ := w
    have hf : fY_X3_readAsks_2 k2 x1 g = some (r, g') := hf
    show J 2 [(0, .ref (q 6)), (1, .int x1)] [] g
    unfold fY_X3_readAsks_2 at hf
    refine zj_iload_n 1 hC dX3_readAsks_2 rfl ?_
    refine zj_bipush (v := 10) hC dX3_readAsks_3 (by decide) ?_
    refine zj_icmp_ge 35 hC dX3_readAsks_5 (by decide) (fun c1 => ?_) (fun c1 => ?_)
    · have hf := z_iteT hf c1
      refine zj_iconst (v := 0) hC dX3_readAsks_35 (by decide) ?_
      exact zj_zreturn hC hf dX3_readAsks_36
    · have hf := z_iteF hf c1
      refine zj_aload_n 0 hC dX3_readAsks_8 rfl ?_
      refine zj_iload_n 1 hC dX3_readAsks_9 rfl ?_
      obtain ⟨r2, g3, hq4, hf⟩ := z_bindE hf
      refine zj_callVi [.int x1] hC (cY_X3_readAsk l dC dI ca q tt x1 g r2 g3 hq4) gX3_readAsks_X3_readAsk rfl nY_X3_readAsk ⟨Nat.le_of_ble_eq_true rfl, Nat.le_of_ble_eq_true rfl⟩ 6 yo_6 rfl rfl rfl (Nat.le_of_ble_eq_true rfl) dX3_readAsks_10 rfl ?_
      refine zj_if_ne 18 hC dX3_readAsks_13 (by decide) (fun c5 => ?_) (fun c5 => ?_)
      · have hf := z_iteF hf c5
        refine zj_aload_n 0 hC dX3_readAsks_18 rfl ?_
        refine zj_bipush (v := 38) hC dX3_readAsks_19 (by decide) ?_
        obtain ⟨r6, g7, hq8, hf⟩ := z_bindE hf
        refine zj_callVi [.int 38] hC (cY_X3_take l dC dI ca q tt 38 g3 r6 g7 hq8) gX3_readAsks_X3_take rfl nY_X3_take ⟨Nat.le_of_ble_eq_true rfl, Nat.le_of_ble_eq_true rfl⟩ 6 yo_6 rfl rfl rfl (Nat.le_of_ble_eq_true rfl) dX3_readAsks_21 rfl ?_
        refine zj_if_ne 29 hC dX3_readAsks_24 (by decide) (fun c9 => ?_) (fun c9 => ?_)
        · have hf := z_iteF hf c9
          refine zj_iinc (lv1 := fun v => [(1, .int v), (0, .ref (q 6))]) 1 hC dX3_readAsks_29 rfl (by decide) (fun _ => rfl) (fun y10 ey10 => ?_)
          have hf := z_letE hf (show y10 = x1 + 1 from ey10)
          refine zj_goto 2 hC dX3_readAsks_32 (by decide) ?_
          exact zj_sub hC [1, 0] rfl (hk2 (y10, g7) hf)
        · have hf := z_iteT hf c9
          refine zj_iconst (v := 1) hC dX3_readAsks_27 (by decide) ?_
          exact zj_zreturn hC hf dX3_readAsks_28
      · have hf := z_iteT hf c5
        refine zj_iconst (v := 0) hC dX3_readAsks_16 (by decide) ?_
        exact zj_zreturn hC hf dX3_readAsks_17
  unfold fY_X3_readAsks at hf
  refine zj_iconst (v := 0) hC dX3_readAsks_0 (by decide) ?_
  refine zj_istore_n (lv1 := [(1, .int 0), (0, .ref (q 6))]) hC dX3_readAsks_1 (by decide) rfl ?_
  exact zj_sub hC [1, 0] rfl (hJ2 0 g hf)

def fY_X3_readAct_75 (x2 : Int32) (g : z_G) : Option (Int32 × z_G) := z_bo x2 (some (x2, g))
def fY_X3_readAct_58 (s0 : Int32) (x1 : Int32) (g : z_G) : Option (Int32 × z_G) := (if s0 = 0 then fY_X3_readAct_75 s0 g else z_bind (fY_X4_putAct x1 (g 6 3) g) (fun r2 g3 => fY_X3_readAct_75 s0 g3))
def fY_X3_readAct_53 (x1 : Int32) (g : z_G) : Option (Int32 × z_G) := fY_X3_readAct_58 1 x1 g
def fY_X3_readAct_57 (x1 : Int32) (g : z_G) : Option (Int32 × z_G) := fY_X3_readAct_58 0 x1 g
def fY_X3_readAct_46 (x1 : Int32) (g : z_G) : Option (Int32 × z_G) := z_bind (fY_X3_readNumber g) (fun r5 g6 => (if r5 = 0 then fY_X3_readAct_57 x1 g6 else fY_X3_readAct_53 x1 g6))
def fY_X3_readAct (g : z_G) : Option (Int32 × z_G) := z_bind (fY_X3_next g) (fun r9 g10 => z_let (z_up g10 6 3 (-1)) (fun g12 => z_bind (fY_X3_take 94 g12) (fun r13 g14 => (if r13 = 0 then z_bind (fY_X3_take 126 g14) (fun r17 g18 => (if r17 = 0 then z_bind (fY_X3_take 43 g18) (fun r21 g22 => (if r21 = 0 then z_bind (fY_X3_take 45 g22) (fun r25 g26 => (if r25 = 0 then fY_X3_readAct_57 r9 g26 else fY_X3_readAct_46 r9 g26)) else fY_X3_readAct_46 r9 g22)) else fY_X3_readAct_53 r9 g18)) else fY_X3_readAct_53 r9 g14))))
theorem nY_X3_readAct : yX3_readAct.cls = RX3 ∧ yX3_readAct.cls ≠ "java/lang/invoke/MethodHandle" ∧ yX3_readAct.cls ≠ "java/lang/invoke/VarHandle" ∧ (parseMethodDescriptor yX3_readAct.desc).map (fun d => d.parameters.length) = some 0 := by decide +kernel
set_option maxRecDepth 100000 in
set_option maxHeartbeats 4000000 in
theorem cY_X3_readAct (l : Launch) (dC : Nat → ClassId) (dI : Nat → Nat → Nat) (ca : Nat → ClassId) (q : Nat → Nat) (tt : Nat → Nat) (g : z_G) (r : Int32) (g' : z_G) (hf : fY_X3_readAct g = some (r, g')) : z_C l yX3_readAct wsX3_readAct { frames := 3, cells := 0, slots := 0, locals := 62 } (dC, dI) (tyY ca) (wY ca q) (zY tt) [.ref (q 6)] g (some r) g' := by
  refine z_enter (wY_ok ca q) (zY_ok tt) (by decide +kernel) rfl (Nat.le_of_ble_eq_true rfl) (fun J hC => ?_)
  have hC : z_Cx J l cX3_readAct 3 wsX3_readAct RX3 (some .boolean) { frames := 3, cells := 0, slots := 0, locals := 62 } (dC, dI) (tyY ca) (wY ca q) (zY tt) (z_QI (dC, dI) (tyY ca) (wY ca q) (some r) g') z_X0 := hC
  show J 0 [(0, .ref (q 6))] [] g
  have hX3 : ∀ w ∈ wsX30, w ∈ wsX3_readAct := fun _ h => List.mem_cons_of_mem _ (List.mem_append_left _ (List.mem_append_left _ (List.mem_append_right _ (h))))
  have hJ75 : ∀ (x2 : Int32) (g : z_G), fY_X3_readAct_75 x2 g = some (r, g') → J 75 [(2, .int x2)] [] g := by
    intro x2 g hf
    unfold fY_X3_readAct_75 at hf
    refine zj_iload_n 0 hC dX3_readAct_75 rfl ?_
    exact zj_zreturn hC hf dX3_readAct_76
  have hJ58 : ∀ (s0 : Int32) (x1 : Int32) (g : z_G), fY_X3_readAct_58 s0 x1 g = some (r, g') → J 58 [(0, .ref (q 6)), (1, .int x1)] [.int s0] g := by
    intro s0 x1 g hf
    unfold fY_X3_readAct_58 at hf
    refine zj_istore_n (lv1 := [(2, .int s0), (0, .ref (q 6)), (1, .int x1)]) hC dX3_readAct_58 (by decide) rfl ?_
    refine zj_iload_n 0 hC dX3_readAct_59 rfl ?_
    refine zj_if_eq 75 hC dX3_readAct_60 (by decide) (fun c1 => ?_) (fun c1 => ?_)
    · have hf := z_iteT hf c1
      exact zj_sub hC [0] rfl (hJ75 s0 g hf)
    · have hf := z_iteF hf c1
      refine zj_aload_n 1 hC dX3_readAct_63 rfl ?_
      refine yg_6_1 hC hX3 (List.mem_of_getElem? (i := 2) rfl) dX3_readAct_64 ?_
      refine zj_iload_n 2 hC dX3_readAct_67 rfl ?_
      refine zj_aload_n 1 hC dX3_readAct_68 rfl ?_
      refine yg_6_3 hC hX3 (List.mem_of_getElem? (i := 1) rfl) dX3_readAct_69 ?_
      obtain ⟨r2, g3, hq4, hf⟩ := z_bindE hf
      refine zj_callVv [.int x1, .int (g 6 3)] hC (cY_X4_putAct l dC dI ca q tt x1 (g 6 3) g r2 g3 hq4) gX3_readAct_X4_putAct rfl nY_X4_putAct ⟨Nat.le_of_ble_eq_true rfl, Nat.le_of_ble_eq_true rfl⟩ 5 yo_5 rfl rfl rfl (Nat.le_of_ble_eq_true rfl) dX3_readAct_72 rfl ?_
      exact zj_sub hC [0] rfl (hJ75 s0 g3 hf)
  have hJ53 : ∀ (x1 : Int32) (g : z_G), fY_X3_readAct_53 x1 g = some (r, g') → J 53 [(0, .ref (q 6)), (1, .int x1)] [] g := by
    intro x1 g hf
    unfold fY_X3_readAct_53 at hf
    refine zj_iconst (v := 1) hC dX3_readAct_53 (by decide) ?_
    refine zj_goto 58 hC dX3_readAct_54 (by decide) ?_
    exact (hJ58 1 x1 g hf)
  have hJ57 : ∀ (x1 : Int32) (g : z_G), fY_X3_readAct_57 x1 g = some (r, g') → J 57 [(0, .ref (q 6)), (1, .int x1)] [] g := by
    intro x1 g hf
    unfold fY_X3_readAct_57 at hf
    refine zj_iconst (v := 0) hC dX3_readAct_57 (by decide) ?_
    exact (hJ58 0 x1 g hf)
  have hJ46 : ∀ (x1 : Int32) (g : z_G), fY_X3_readAct_46 x1 g = some (r, g') → J 46 [(0, .ref (q 6)), (1, .int x1)] [] g := by
    intro x1 g hf
    unfold fY_X3_readAct_46 at hf
    refine zj_aload_n 0 hC dX3_readAct_46 rfl ?_
    obtain ⟨r5, g6, hq7, hf⟩ := z_bindE hf
    refine zj_callVi [] hC (cY_X3_readNumber l dC dI ca q tt g r5 g6 hq7) gX3_readAct_X3_readNumber rfl nY_X3_readNumber ⟨Nat.le_of_ble_eq_true rfl, Nat.le_of_ble_eq_true rfl⟩ 6 yo_6 rfl rfl rfl (Nat.le_of_ble_eq_true rfl) dX3_readAct_47 rfl ?_
    refine zj_if_eq 57 hC dX3_readAct_50 (by decide) (fun c8 => ?_) (fun c8 => ?_)
    · have hf := z_iteT hf c8
      exact (hJ57 x1 g6 hf)
    · have hf := z_iteF hf c8
      exact (hJ53 x1 g6 hf)
  unfold fY_X3_readAct at hf
  refine zj_aload_n 0 hC dX3_readAct_0 rfl ?_
  obtain ⟨r9, g10, hq11, hf⟩ := z_bindE hf
  refine zj_callVi [] hC (cY_X3_next l dC dI ca q tt g r9 g10 hq11) gX3_readAct_X3_next rfl nY_X3_next ⟨Nat.le_of_ble_eq_true rfl, Nat.le_of_ble_eq_true rfl⟩ 6 yo_6 rfl rfl rfl (Nat.le_of_ble_eq_true rfl) dX3_readAct_1 rfl ?_
  refine zj_istore_n (lv1 := [(1, .int r9), (0, .ref (q 6))]) hC dX3_readAct_4 (by decide) rfl ?_
  refine zj_aload_n 1 hC dX3_readAct_5 rfl ?_
  refine zj_iconst (v := (-1)) hC dX3_readAct_6 (by decide) ?_
  refine yp_6_3 hC hX3 (List.mem_of_getElem? (i := 1) rfl) dX3_readAct_7 (fun g12 eg12 => ?_)
  have hf := z_letE hf eg12
  refine zj_aload_n 1 hC dX3_readAct_10 rfl ?_
  refine zj_bipush (v := 94) hC dX3_readAct_11 (by decide) ?_
  obtain ⟨r13, g14, hq15, hf⟩ := z_bindE hf
  refine zj_callVi [.int 94] hC (cY_X3_take l dC dI ca q tt 94 g12 r13 g14 hq15) gX3_readAct_X3_take rfl nY_X3_take ⟨Nat.le_of_ble_eq_true rfl, Nat.le_of_ble_eq_true rfl⟩ 6 yo_6 rfl rfl rfl (Nat.le_of_ble_eq_true rfl) dX3_readAct_13 rfl ?_
  refine zj_if_ne 53 hC dX3_readAct_16 (by decide) (fun c16 => ?_) (fun c16 => ?_)
  · have hf := z_iteF hf c16
    exact zj_sub hC [1, 0] rfl (hJ53 r9 g14 hf)
  · have hf := z_iteT hf c16
    refine zj_aload_n 1 hC dX3_readAct_19 rfl ?_
    refine zj_bipush (v := 126) hC dX3_readAct_20 (by decide) ?_
    obtain ⟨r17, g18, hq19, hf⟩ := z_bindE hf
    refine zj_callVi [.int 126] hC (cY_X3_take l dC dI ca q tt 126 g14 r17 g18 hq19) gX3_readAct_X3_take rfl nY_X3_take ⟨Nat.le_of_ble_eq_true rfl, Nat.le_of_ble_eq_true rfl⟩ 6 yo_6 rfl rfl rfl (Nat.le_of_ble_eq_true rfl) dX3_readAct_22 rfl ?_
    refine zj_if_ne 53 hC dX3_readAct_25 (by decide) (fun c20 => ?_) (fun c20 => ?_)
    · have hf := z_iteF hf c20
      exact zj_sub hC [1, 0] rfl (hJ53 r9 g18 hf)
    · have hf := z_iteT hf c20
      refine zj_aload_n 1 hC dX3_readAct_28 rfl ?_
      refine zj_bipush (v := 43) hC dX3_readAct_29 (by decide) ?_
      obtain ⟨r21, g22, hq23, hf⟩ := z_bindE hf
      refine zj_callVi [.int 43] hC (cY_X3_take l dC dI ca q tt 43 g18 r21 g22 hq23) gX3_readAct_X3_take rfl nY_X3_take ⟨Nat.le_of_ble_eq_true rfl, Nat.le_of_ble_eq_true rfl⟩ 6 yo_6 rfl rfl rfl (Nat.le_of_ble_eq_true rfl) dX3_readAct_31 rfl ?_
      refine zj_if_ne 46 hC dX3_readAct_34 (by decide) (fun c24 => ?_) (fun c24 => ?_)
      · have hf := z_iteF hf c24
        exact zj_sub hC [1, 0] rfl (hJ46 r9 g22 hf)
      · have hf := z_iteT hf c24
        refine zj_aload_n 1 hC dX3_readAct_37 rfl ?_
        refine zj_bipush (v := 45) hC dX3_readAct_38 (by decide) ?_
        obtain ⟨r25, g26, hq27, hf⟩ := z_bindE hf
        refine zj_callVi [.int 45] hC (cY_X3_take l dC dI ca q tt 45 g22 r25 g26 hq27) gX3_readAct_X3_take rfl nY_X3_take ⟨Nat.le_of_ble_eq_true rfl, Nat.le_of_ble_eq_true rfl⟩ 6 yo_6 rfl rfl rfl (Nat.le_of_ble_eq_true rfl) dX3_readAct_40 rfl ?_
        refine zj_if_eq 57 hC dX3_readAct_43 (by decide) (fun c28 => ?_) (fun c28 => ?_)
        · have hf := z_iteT hf c28
          exact zj_sub hC [1, 0] rfl (hJ57 r9 g26 hf)
        · have hf := z_iteF hf c28
          exact zj_sub hC [1, 0] rfl (hJ46 r9 g26 hf)

def fY_X3_findFault_70 (s0 : Int32) (g : z_G) : Option (Int32 × z_G) := some (s0, g)
def fY_X3_findFault_57 (s0 : Int32) (g : z_G) : Option (Int32 × z_G) := (if s0 = 0 then fY_X3_findFault_70 (g 6 2) g else fY_X3_findFault_70 (-1) g)
def fY_X3_findFault_56  (g : z_G) : Option (Int32 × z_G) := fY_X3_findFault_57 0 g
def fY_X3_findFault (g : z_G) : Option (Int32 × z_G) := z_let (z_up g 6 2 0) (fun g2 => z_bind (fY_X4_isFull g2) (fun r3 g4 => (if r3 = 0 then z_bind (fY_X3_readAsks g4) (fun r7 g8 => (if r7 = 0 then fY_X3_findFault_56 g8 else z_bind (fY_X3_take 58 g8) (fun r11 g12 => (if r11 = 0 then fY_X3_findFault_56 g12 else z_bind (fY_X3_readAct g12) (fun r15 g16 => (if r15 = 0 then fY_X3_findFault_56 g16 else (if (g16 6 2) = (g16 4 0) then fY_X3_findFault_57 1 g16 else fY_X3_findFault_56 g16))))))) else fY_X3_findFault_56 g4)))
theorem nY_X3_findFault : yX3_findFault.cls = RX3 ∧ yX3_findFault.cls ≠ "java/lang/invoke/MethodHandle" ∧ yX3_findFault.cls ≠ "java/lang/invoke/VarHandle" ∧ (parseMethodDescriptor yX3_findFault.desc).map (fun d => d.parameters.length) = some 0 := by decide +kernel
set_option maxRecDepth 100000 in
set_option maxHeartbeats 4000000 in
theorem cY_X3_findFault (l : Launch) (dC : Nat → ClassId) (dI : Nat → Nat → Nat) (ca : Nat → ClassId) (q : Nat → Nat) (tt : Nat → Nat) (g : z_G) (r : Int32) (g' : z_G) (hf : fY_X3_findFault g = some (r, g')) : z_C l yX3_findFault wsX3_findFault { frames := 5, cells := 0, slots := 0, locals := 106 } (dC, dI) (tyY ca) (wY ca q) (zY tt) [.ref (q 6)] g (some r) g' := by
  refine z_enter (wY_ok ca q) (zY_ok tt) (by decide +kernel) rfl (Nat.le_of_ble_eq_true rfl) (fun J hC => ?_)
  have hC : z_Cx J l cX3_findFault 2 wsX3_findFault RX3 (some .int) { frames := 5, cells := 0, slots := 0, locals := 106 } (dC, dI) (tyY ca) (wY ca q) (zY tt) (z_QI (dC, dI) (tyY ca) (wY ca q) (some r) g') z_X0 := hC
  show J 0 [(0, .ref (q 6))] [] g
  have hX3 : ∀ w ∈ wsX30, w ∈ wsX3_findFault := fun _ h => List.mem_cons_of_mem _ (List.mem_append_left _ (List.mem_append_left _ (List.mem_append_right _ (h))))
  have hX5 : ∀ w ∈ wsX50, w ∈ wsX3_findFault := fun _ h => List.mem_cons_of_mem _ (List.mem_append_left _ (List.mem_append_right _ (h)))
  have hJ70 : ∀ (s0 : Int32) (g : z_G), fY_X3_findFault_70 s0 g = some (r, g') → J 70 [] [.int s0] g := by
    intro s0 g hf
    unfold fY_X3_findFault_70 at hf
    exact zj_ireturn hC hf dX3_findFault_70
  have hJ57 : ∀ (s0 : Int32) (g : z_G), fY_X3_findFault_57 s0 g = some (r, g') → J 57 [(0, .ref (q 6))] [.int s0] g := by
    intro s0 g hf
    unfold fY_X3_findFault_57 at hf
    refine zj_istore_n (lv1 := [(1, .int s0), (0, .ref (q 6))]) hC dX3_findFault_57 (by decide) rfl ?_
    refine zj_iload_n 0 hC dX3_findFault_58 rfl ?_
    refine zj_if_eq 66 hC dX3_findFault_59 (by decide) (fun c1 => ?_) (fun c1 => ?_)
    · have hf := z_iteT hf c1
      refine zj_aload_n 1 hC dX3_findFault_66 rfl ?_
      refine yg_6_2 hC hX3 (List.mem_of_getElem? (i := 1) rfl) dX3_findFault_67 ?_
      exact zj_sub hC [] rfl (hJ70 (g 6 2) g hf)
    · have hf := z_iteF hf c1
      refine zj_iconst (v := (-1)) hC dX3_findFault_62 (by decide) ?_
      refine zj_goto 70 hC dX3_findFault_63 (by decide) ?_
      exact zj_sub hC [] rfl (hJ70 (-1) g hf)
  have hJ56 : ∀ (g : z_G), fY_X3_findFault_56 g = some (r, g') → J 56 [(0, .ref (q 6))] [] g := by
    intro g hf
    unfold fY_X3_findFault_56 at hf
    refine zj_iconst (v := 0) hC dX3_findFault_56 (by decide) ?_
    exact (hJ57 0 g hf)
  unfold fY_X3_findFault at hf
  refine zj_aload_n 0 hC dX3_findFault_0 rfl ?_
  refine zj_iconst (v := 0) hC dX3_findFault_1 (by decide) ?_
  refine yp_6_2 hC hX3 (List.mem_of_getElem? (i := 1) rfl) dX3_findFault_2 (fun g2 eg2 => ?_)
  have hf := z_letE hf eg2
  refine zj_aload_n 0 hC dX3_findFault_5 rfl ?_
  refine yg_6_1 hC hX3 (List.mem_of_getElem? (i := 2) rfl) dX3_findFault_6 ?_
  obtain ⟨r3, g4, hq5, hf⟩ := z_bindE hf
  refine zj_callVi [] hC (cY_X4_isFull l dC dI ca q tt g2 r3 g4 hq5) gX3_findFault_X4_isFull rfl nY_X4_isFull ⟨Nat.le_of_ble_eq_true rfl, Nat.le_of_ble_eq_true rfl⟩ 5 yo_5 rfl rfl rfl (Nat.le_of_ble_eq_true rfl) dX3_findFault_9 rfl ?_
  refine zj_if_ne 56 hC dX3_findFault_12 (by decide) (fun c6 => ?_) (fun c6 => ?_)
  · have hf := z_iteF hf c6
    exact (hJ56 g4 hf)
  · have hf := z_iteT hf c6
    refine zj_aload_n 0 hC dX3_findFault_15 rfl ?_
    obtain ⟨r7, g8, hq9, hf⟩ := z_bindE hf
    refine zj_callVi [] hC (cY_X3_readAsks l dC dI ca q tt g4 r7 g8 hq9) gX3_findFault_X3_readAsks rfl nY_X3_readAsks ⟨Nat.le_of_ble_eq_true rfl, Nat.le_of_ble_eq_true rfl⟩ 6 yo_6 rfl rfl rfl (Nat.le_of_ble_eq_true rfl) dX3_findFault_16 rfl ?_
    refine zj_if_eq 56 hC dX3_findFault_19 (by decide) (fun c10 => ?_) (fun c10 => ?_)
    · have hf := z_iteT hf c10
      exact (hJ56 g8 hf)
    · have hf := z_iteF hf c10
      refine zj_aload_n 0 hC dX3_findFault_22 rfl ?_
      refine zj_bipush (v := 58) hC dX3_findFault_23 (by decide) ?_
      obtain ⟨r11, g12, hq13, hf⟩ := z_bindE hf
      refine zj_callVi [.int 58] hC (cY_X3_take l dC dI ca q tt 58 g8 r11 g12 hq13) gX3_findFault_X3_take rfl nY_X3_take ⟨Nat.le_of_ble_eq_true rfl, Nat.le_of_ble_eq_true rfl⟩ 6 yo_6 rfl rfl rfl (Nat.le_of_ble_eq_true rfl) dX3_findFault_25 rfl ?_
      refine zj_if_eq 56 hC dX3_findFault_28 (by decide) (fun c14 => ?_) (fun c14 => ?_)
      · have hf := z_iteT hf c14
        exact (hJ56 g12 hf)
      · have hf := z_iteF hf c14
        refine zj_aload_n 0 hC dX3_findFault_31 rfl ?_
        obtain ⟨r15, g16, hq17, hf⟩ := z_bindE hf
        refine zj_callVi [] hC (cY_X3_readAct l dC dI ca q tt g12 r15 g16 hq17) gX3_findFault_X3_readAct rfl nY_X3_readAct ⟨Nat.le_of_ble_eq_true rfl, Nat.le_of_ble_eq_true rfl⟩ 6 yo_6 rfl rfl rfl (Nat.le_of_ble_eq_true rfl) dX3_findFault_32 rfl ?_
        refine zj_if_eq 56 hC dX3_findFault_35 (by decide) (fun c18 => ?_) (fun c18 => ?_)
        · have hf := z_iteT hf c18
          exact (hJ56 g16 hf)
        · have hf := z_iteF hf c18
          refine zj_aload_n 0 hC dX3_findFault_38 rfl ?_
          refine yg_6_2 hC hX3 (List.mem_of_getElem? (i := 1) rfl) dX3_findFault_39 ?_
          refine zj_aload_n 0 hC dX3_findFault_42 rfl ?_
          refine yg_6_0 hC hX3 (List.mem_of_getElem? (i := 3) rfl) dX3_findFault_43 ?_
          refine yg_4_0 hC hX5 (List.mem_of_getElem? (i := 4) rfl) dX3_findFault_46 ?_
          refine zj_icmp_ne 56 hC dX3_findFault_49 (by decide) (fun c19 => ?_) (fun c19 => ?_)
          · have hf := z_iteF hf c19
            exact (hJ56 g16 hf)
          · have hf := z_iteT hf c19
            refine zj_iconst (v := 1) hC dX3_findFault_52 (by decide) ?_
            refine zj_goto 57 hC dX3_findFault_53 (by decide) ?_
            exact (hJ57 1 g16 hf)
