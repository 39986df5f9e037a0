def fM_X8_thrown (g : z_G) : Option (Int32 × z_G) := some (g 0 0, g)
theorem nM_X8_thrown : yX8_thrown.cls = RX8 ∧ yX8_thrown.cls ≠ "java/lang/invoke/MethodHandle" ∧ yX8_thrown.cls ≠ "java/lang/invoke/VarHandle" ∧ (parseMethodDescriptor yX8_thrown.desc).map (fun d => d.parameters.length) = some 0 := by decide +kernel
set_option maxRecDepth 100000 in
set_option maxHeartbeats 4000000 in
theorem cM_X8_thrown (l : Launch) (dC : Nat → ClassId) (dI : Nat → Nat → Nat) (ca : Nat → ClassId) (q : Nat → Nat) (Zt : z_ZT) (hZt : z_Zok Zt) (g : z_G) (r : Int32) (g' : z_G) (hf : fM_X8_thrown g = some (r, g')) : z_C l yX8_thrown wsX8_thrown { frames := 0, cells := 0, slots := 0, locals := 0 } (dC, dI) (tyM ca) (wM ca q) Zt [.ref (q 0)] g (some r) g' := by
  refine z_enter (wM_ok ca q) hZt (by decide +kernel) rfl (Nat.le_of_ble_eq_true rfl) (fun J hC => ?_)
  have hC : z_Cx J l cX8_thrown 1 wsX8_thrown RX8 (some .int) { frames := 0, cells := 0, slots := 0, locals := 0 } (dC, dI) (tyM ca) (wM ca q) Zt (z_QI (dC, dI) (tyM ca) (wM ca q) (some r) g') z_X0 := hC
  show J 0 [(0, .ref (q 0))] [] g
  have hX8 : ∀ w ∈ wsX80, w ∈ wsX8_thrown := fun _ h => List.mem_cons_of_mem _ (List.mem_append_right _ (h))
  unfold fM_X8_thrown at hf
  refine zj_aload_n 0 hC dX8_thrown_0 rfl ?_
  refine mg_0_0 hC hX8 (List.mem_of_getElem? (i := 1) rfl) dX8_thrown_1 ?_
  exact zj_ireturn hC hf dX8_thrown_4

def fM_X8_in_18 (s0 : Int32) (g : z_G) : Option (Int32 × z_G) := z_bo s0 (some (s0, g))
def fM_X8_in_17  (g : z_G) : Option (Int32 × z_G) := fM_X8_in_18 0 g
def fM_X8_in (a0 : Int64) (a1 : Int64) (a2 : Int64) (g : z_G) : Option (Int32 × z_G) := (if (lg_cmp a0 a1) < 0 then fM_X8_in_17 g else (if 0 < (lg_cmp a0 a2) then fM_X8_in_17 g else fM_X8_in_18 1 g))
theorem nM_X8_in : yX8_in.cls ≠ "java/lang/invoke/MethodHandle" ∧ yX8_in.cls ≠ "java/lang/invoke/VarHandle" ∧ (parseMethodDescriptor yX8_in.desc).map (fun d => d.parameters.length) = some 3 := by decide +kernel
set_option maxRecDepth 100000 in
set_option maxHeartbeats 4000000 in
theorem cM_X8_in (l : Launch) (dC : Nat → ClassId) (dI : Nat → Nat → Nat) (ca : Nat → ClassId) (q : Nat → Nat) (Zt : z_ZT) (hZt : z_Zok Zt) (a0 : Int64) (a1 : Int64) (a2 : Int64) (g : z_G) (r : Int32) (g' : z_G) (hf : fM_X8_in a0 a1 a2 g = some (r, g')) : z_C l yX8_in wsX8_in { frames := 0, cells := 0, slots := 0, locals := 0 } (dC, dI) (tyM ca) (wM ca q) Zt [.long a0, .long a1, .long a2] g (some r) g' := by
  refine z_enter (wM_ok ca q) hZt (by decide +kernel) rfl (Nat.le_of_ble_eq_true rfl) (fun J hC => ?_)
  have hC : z_Cx J l cX8_in 6 wsX8_in RX8 (some .boolean) { frames := 0, cells := 0, slots := 0, locals := 0 } (dC, dI) (tyM ca) (wM ca q) Zt (z_QI (dC, dI) (tyM ca) (wM ca q) (some r) g') z_X0 := hC
  show J 0 [(0, .long a0), (2, .long a1), (4, .long a2)] [] g
  have hJ18 : ∀ (s0 : Int32) (g : z_G), fM_X8_in_18 s0 g = some (r, g') → J 18 [] [.int s0] g := by
    intro s0 g hf
    unfold fM_X8_in_18 at hf
    exact zj_zreturn hC hf dX8_in_18
  have hJ17 : ∀ (g : z_G), fM_X8_in_17 g = some (r, g') → J 17 [] [] g := by
    intro g hf
    unfold fM_X8_in_17 at hf
    refine zj_iconst (v := 0) hC dX8_in_17 (by decide) ?_
    exact (hJ18 0 g hf)
  unfold fM_X8_in at hf
  refine zj_lload_n 0 hC dX8_in_0 rfl ?_
  refine zj_lload_n 1 hC dX8_in_1 rfl ?_
  refine zj_lcmp hC dX8_in_2 ?_
  refine zj_if_lt 17 hC dX8_in_3 (by decide) (fun c1 => ?_) (fun c1 => ?_)
  · have hf := z_iteT hf c1
    exact zj_sub hC [] rfl (hJ17 g hf)
  · have hf := z_iteF hf c1
    refine zj_lload_n 0 hC dX8_in_6 rfl ?_
    refine zj_lload 2 hC dX8_in_7 rfl ?_
    refine zj_lcmp hC dX8_in_9 ?_
    refine zj_if_gt 17 hC dX8_in_10 (by decide) (fun c2 => ?_) (fun c2 => ?_)
    · have hf := z_iteT hf c2
      exact zj_sub hC [] rfl (hJ17 g hf)
    · have hf := z_iteF hf c2
      refine zj_iconst (v := 1) hC dX8_in_13 (by decide) ?_
      refine zj_goto 18 hC dX8_in_14 (by decide) ?_
      exact zj_sub hC [] rfl (hJ18 1 g hf)

def fM_X8_refuse (g : z_G) : Option (Int32 × z_G) := z_let (z_up g 0 0 1) (fun g1 => some (0, g1))
theorem nM_X8_refuse : yX8_refuse.cls = RX8 ∧ yX8_refuse.cls ≠ "java/lang/invoke/MethodHandle" ∧ yX8_refuse.cls ≠ "java/lang/invoke/VarHandle" ∧ (parseMethodDescriptor yX8_refuse.desc).map (fun d => d.parameters.length) = some 0 := by decide +kernel
set_option maxRecDepth 100000 in
set_option maxHeartbeats 4000000 in
theorem cM_X8_refuse (l : Launch) (dC : Nat → ClassId) (dI : Nat → Nat → Nat) (ca : Nat → ClassId) (q : Nat → Nat) (Zt : z_ZT) (hZt : z_Zok Zt) (g : z_G) (r : Int32) (g' : z_G) (hf : fM_X8_refuse g = some (r, g')) : z_C l yX8_refuse wsX8_refuse { frames := 0, cells := 0, slots := 0, locals := 0 } (dC, dI) (tyM ca) (wM ca q) Zt [.ref (q 0)] g (some r) g' := by
  refine z_enter (wM_ok ca q) hZt (by decide +kernel) rfl (Nat.le_of_ble_eq_true rfl) (fun J hC => ?_)
  have hC : z_Cx J l cX8_refuse 1 wsX8_refuse RX8 (some .int) { frames := 0, cells := 0, slots := 0, locals := 0 } (dC, dI) (tyM ca) (wM ca q) Zt (z_QI (dC, dI) (tyM ca) (wM ca q) (some r) g') z_X0 := hC
  show J 0 [(0, .ref (q 0))] [] g
  have hX8 : ∀ w ∈ wsX80, w ∈ wsX8_refuse := fun _ h => List.mem_cons_of_mem _ (List.mem_append_right _ (h))
  unfold fM_X8_refuse at hf
  refine zj_aload_n 0 hC dX8_refuse_0 rfl ?_
  refine zj_iconst (v := 1) hC dX8_refuse_1 (by decide) ?_
  refine mp_0_0 hC hX8 (List.mem_of_getElem? (i := 1) rfl) dX8_refuse_2 (fun g1 eg1 => ?_)
  have hf := z_letE hf eg1
  refine zj_iconst (v := 0) hC dX8_refuse_5 (by decide) ?_
  exact zj_ireturn hC hf dX8_refuse_6

def fM_X8_ringOf (a0 : Int32) (g : z_G) : Option (Int32 × z_G) := some (a0 - a0 / 8 * 8, g)
theorem nM_X8_ringOf : yX8_ringOf.cls = RX8 ∧ yX8_ringOf.cls ≠ "java/lang/invoke/MethodHandle" ∧ yX8_ringOf.cls ≠ "java/lang/invoke/VarHandle" ∧ (parseMethodDescriptor yX8_ringOf.desc).map (fun d => d.parameters.length) = some 1 := by decide +kernel
set_option maxRecDepth 100000 in
set_option maxHeartbeats 4000000 in
theorem cM_X8_ringOf (l : Launch) (dC : Nat → ClassId) (dI : Nat → Nat → Nat) (ca : Nat → ClassId) (q : Nat → Nat) (Zt : z_ZT) (hZt : z_Zok Zt) (a0 : Int32) (g : z_G) (r : Int32) (g' : z_G) (hf : fM_X8_ringOf a0 g = some (r, g')) : z_C l yX8_ringOf wsX8_ringOf { frames := 0, cells := 0, slots := 0, locals := 0 } (dC, dI) (tyM ca) (wM ca q) Zt [.ref (q 0), .int a0] g (some r) g' := by
  refine z_enter (wM_ok ca q) hZt (by decide +kernel) rfl (Nat.le_of_ble_eq_true rfl) (fun J hC => ?_)
  have hC : z_Cx J l cX8_ringOf 2 wsX8_ringOf RX8 (some .int) { frames := 0, cells := 0, slots := 0, locals := 0 } (dC, dI) (tyM ca) (wM ca q) Zt (z_QI (dC, dI) (tyM ca) (wM ca q) (some r) g') z_X0 := hC
  show J 0 [(0, .ref (q 0)), (1, .int a0)] [] g
  unfold fM_X8_ringOf at hf
  refine zj_iload_n 1 hC dX8_ringOf_0 rfl ?_
  refine zj_bipush (v := 8) hC dX8_ringOf_1 (by decide) ?_
  refine zj_irem hC dX8_ringOf_3 (by decide) ?_
  exact zj_ireturn hC hf dX8_ringOf_4

def fM_X8_heightOf (a0 : Int32) (g : z_G) : Option (Int32 × z_G) := some (a0 / 8, g)
theorem nM_X8_heightOf : yX8_heightOf.cls = RX8 ∧ yX8_heightOf.cls ≠ "java/lang/invoke/MethodHandle" ∧ yX8_heightOf.cls ≠ "java/lang/invoke/VarHandle" ∧ (parseMethodDescriptor yX8_heightOf.desc).map (fun d => d.parameters.length) = some 1 := by decide +kernel
set_option maxRecDepth 100000 in
set_option maxHeartbeats 4000000 in
theorem cM_X8_heightOf (l : Launch) (dC : Nat → ClassId) (dI : Nat → Nat → Nat) (ca : Nat → ClassId) (q : Nat → Nat) (Zt : z_ZT) (hZt : z_Zok Zt) (a0 : Int32) (g : z_G) (r : Int32) (g' : z_G) (hf : fM_X8_heightOf a0 g = some (r, g')) : z_C l yX8_heightOf wsX8_heightOf { frames := 0, cells := 0, slots := 0, locals := 0 } (dC, dI) (tyM ca) (wM ca q) Zt [.ref (q 0), .int a0] g (some r) g' := by
  refine z_enter (wM_ok ca q) hZt (by decide +kernel) rfl (Nat.le_of_ble_eq_true rfl) (fun J hC => ?_)
  have hC : z_Cx J l cX8_heightOf 2 wsX8_heightOf RX8 (some .int) { frames := 0, cells := 0, slots := 0, locals := 0 } (dC, dI) (tyM ca) (wM ca q) Zt (z_QI (dC, dI) (tyM ca) (wM ca q) (some r) g') z_X0 := hC
  show J 0 [(0, .ref (q 0)), (1, .int a0)] [] g
  unfold fM_X8_heightOf at hf
  refine zj_iload_n 1 hC dX8_heightOf_0 rfl ?_
  refine zj_bipush (v := 8) hC dX8_heightOf_1 (by decide) ?_
  refine zj_idiv hC dX8_heightOf_3 (by decide) ?_
  exact zj_ireturn hC hf dX8_heightOf_4

def fM_X8_share (a0 : Int32) (g : z_G) : Option (Int32 × z_G) := some ((2 * (a0 - a0 / 8 * 8)) + 1, g)
theorem nM_X8_share : yX8_share.cls ≠ "java/lang/invoke/MethodHandle" ∧ yX8_share.cls ≠ "java/lang/invoke/VarHandle" ∧ (parseMethodDescriptor yX8_share.desc).map (fun d => d.parameters.length) = some 1 := by decide +kernel
set_option maxRecDepth 100000 in
set_option maxHeartbeats 4000000 in
theorem cM_X8_share (l : Launch) (dC : Nat → ClassId) (dI : Nat → Nat → Nat) (ca : Nat → ClassId) (q : Nat → Nat) (Zt : z_ZT) (hZt : z_Zok Zt) (a0 : Int32) (g : z_G) (r : Int32) (g' : z_G) (hf : fM_X8_share a0 g = some (r, g')) : z_C l yX8_share wsX8_share { frames := 0, cells := 0, slots := 0, locals := 0 } (dC, dI) (tyM ca) (wM ca q) Zt [.int a0] g (some r) g' := by
  refine z_enter (wM_ok ca q) hZt (by decide +kernel) rfl (Nat.le_of_ble_eq_true rfl) (fun J hC => ?_)
  have hC : z_Cx J l cX8_share 1 wsX8_share RX8 (some .int) { frames := 0, cells := 0, slots := 0, locals := 0 } (dC, dI) (tyM ca) (wM ca q) Zt (z_QI (dC, dI) (tyM ca) (wM ca q) (some r) g') z_X0 := hC
  show J 0 [(0, .int a0)] [] g
  unfold fM_X8_share at hf
  refine zj_iconst (v := 2) hC dX8_share_0 (by decide) ?_
  refine zj_iload_n 0 hC dX8_share_1 rfl ?_
  refine zj_bipush (v := 8) hC dX8_share_2 (by decide) ?_
  refine zj_irem hC dX8_share_4 (by decide) ?_
  refine zj_imul hC dX8_share_5 ?_
  refine zj_iconst (v := 1) hC dX8_share_6 (by decide) ?_
  refine zj_iadd hC dX8_share_7 ?_
  exact zj_ireturn hC hf dX8_share_8

def fM_X8_isCell_37 (s0 : Int32) (g : z_G) : Option (Int32 × z_G) := z_bo s0 (some (s0, g))
def fM_X8_isCell_36  (g : z_G) : Option (Int32 × z_G) := fM_X8_isCell_37 0 g
def fM_X8_isCell (a0 : Int32) (a1 : Int32) (g : z_G) : Option (Int32 × z_G) := z_bind (fM_X8_in ((a0 : Int32).toInt64) 0 (((g 0 1) - 1 : Int32).toInt64) g) (fun r1 g2 => (if r1 = 0 then fM_X8_isCell_36 g2 else z_bind (fM_X8_in ((a1 : Int32).toInt64) 0 (((g2 0 2) - 1 : Int32).toInt64) g2) (fun r5 g6 => (if r5 = 0 then fM_X8_isCell_36 g6 else fM_X8_isCell_37 1 g6))))
theorem nM_X8_isCell : yX8_isCell.cls = RX8 ∧ yX8_isCell.cls ≠ "java/lang/invoke/MethodHandle" ∧ yX8_isCell.cls ≠ "java/lang/invoke/VarHandle" ∧ (parseMethodDescriptor yX8_isCell.desc).map (fun d => d.parameters.length) = some 2 := by decide +kernel
set_option maxRecDepth 100000 in
set_option maxHeartbeats 4000000 in
theorem cM_X8_isCell (l : Launch) (dC : Nat → ClassId) (dI : Nat → Nat → Nat) (ca : Nat → ClassId) (q : Nat → Nat) (Zt : z_ZT) (hZt : z_Zok Zt) (a0 : Int32) (a1 : Int32) (g : z_G) (r : Int32) (g' : z_G) (hf : fM_X8_isCell a0 a1 g = some (r, g')) : z_C l yX8_isCell wsX8_isCell { frames := 1, cells := 0, slots := 0, locals := 25 } (dC, dI) (tyM ca) (wM ca q) Zt [.ref (q 0), .int a0, .int a1] g (some r) g' := by
  refine z_enter (wM_ok ca q) hZt (by decide +kernel) rfl (Nat.le_of_ble_eq_true rfl) (fun J hC => ?_)
  have hC : z_Cx J l cX8_isCell 3 wsX8_isCell RX8 (some .boolean) { frames := 1, cells := 0, slots := 0, locals := 25 } (dC, dI) (tyM ca) (wM ca q) Zt (z_QI (dC, dI) (tyM ca) (wM ca q) (some r) g') z_X0 := hC
  show J 0 [(0, .ref (q 0)), (1, .int a0), (2, .int a1)] [] g
  have hX8 : ∀ w ∈ wsX80, w ∈ wsX8_isCell := fun _ h => List.mem_cons_of_mem _ (List.mem_append_right _ (h))
  have hJ37 : ∀ (s0 : Int32) (g : z_G), fM_X8_isCell_37 s0 g = some (r, g') → J 37 [] [.int s0] g := by
    intro s0 g hf
    unfold fM_X8_isCell_37 at hf
    exact zj_zreturn hC hf dX8_isCell_37
  have hJ36 : ∀ (g : z_G), fM_X8_isCell_36 g = some (r, g') → J 36 [] [] g := by
    intro g hf
    unfold fM_X8_isCell_36 at hf
    refine zj_iconst (v := 0) hC dX8_isCell_36 (by decide) ?_
    exact (hJ37 0 g hf)
  unfold fM_X8_isCell at hf
  refine zj_iload_n 1 hC dX8_isCell_0 rfl ?_
  refine zj_i2l hC dX8_isCell_1 ?_
  refine zj_lconst (v := 0) hC dX8_isCell_2 (by decide) ?_
  refine zj_aload_n 0 hC dX8_isCell_3 rfl ?_
  refine mg_0_1 hC hX8 (List.mem_of_getElem? (i := 1) rfl) dX8_isCell_4 ?_
  refine zj_iconst (v := 1) hC dX8_isCell_7 (by decide) ?_
  refine zj_isub hC dX8_isCell_8 ?_
  refine zj_i2l hC dX8_isCell_9 ?_
  obtain ⟨r1, g2, hq3, hf⟩ := z_bindE hf
  refine zj_callSi [.long ((a0 : Int32).toInt64), .long 0, .long (((g 0 1) - 1 : Int32).toInt64)] hC (cM_X8_in l dC dI ca q Zt hZt ((a0 : Int32).toInt64) 0 (((g 0 1) - 1 : Int32).toInt64) g r1 g2 hq3) gX8_isCell_X8_in rfl nM_X8_in ⟨Nat.le_of_ble_eq_true rfl, Nat.le_of_ble_eq_true rfl⟩ rfl (Nat.le_of_ble_eq_true rfl) dX8_isCell_10 rfl ?_
  refine zj_if_eq 36 hC dX8_isCell_13 (by decide) (fun c4 => ?_) (fun c4 => ?_)
  · have hf := z_iteT hf c4
    exact zj_sub hC [] rfl (hJ36 g2 hf)
  · have hf := z_iteF hf c4
    refine zj_iload_n 2 hC dX8_isCell_16 rfl ?_
    refine zj_i2l hC dX8_isCell_17 ?_
    refine zj_lconst (v := 0) hC dX8_isCell_18 (by decide) ?_
    refine zj_aload_n 0 hC dX8_isCell_19 rfl ?_
    refine mg_0_2 hC hX8 (List.mem_of_getElem? (i := 2) rfl) dX8_isCell_20 ?_
    refine zj_iconst (v := 1) hC dX8_isCell_23 (by decide) ?_
    refine zj_isub hC dX8_isCell_24 ?_
    refine zj_i2l hC dX8_isCell_25 ?_
    obtain ⟨r5, g6, hq7, hf⟩ := z_bindE hf
    refine zj_callSi [.long ((a1 : Int32).toInt64), .long 0, .long (((g2 0 2) - 1 : Int32).toInt64)] hC (cM_X8_in l dC dI ca q Zt hZt ((a1 : Int32).toInt64) 0 (((g2 0 2) - 1 : Int32).toInt64) g2 r5 g6 hq7) gX8_isCell_X8_in rfl nM_X8_in ⟨Nat.le_of_ble_eq_true rfl, Nat.le_of_ble_eq_true rfl⟩ rfl (Nat.le_of_ble_eq_true rfl) dX8_isCell_26 rfl ?_
    refine zj_if_eq 36 hC dX8_isCell_29 (by decide) (fun c8 => ?_) (fun c8 => ?_)
    · have hf := z_iteT hf c8
      exact zj_sub hC [] rfl (hJ36 g6 hf)
    · have hf := z_iteF hf c8
      refine zj_iconst (v := 1) hC dX8_isCell_32 (by decide) ?_
      refine zj_goto 37 hC dX8_isCell_33 (by decide) ?_
      exact zj_sub hC [] rfl (hJ37 1 g6 hf)

def fM_X8_isOutside_33 (s0 : Int32) (g : z_G) : Option (Int32 × z_G) := z_bo s0 (some (s0, g))
def fM_X8_isOutside_28  (g : z_G) : Option (Int32 × z_G) := fM_X8_isOutside_33 1 g
def fM_X8_isOutside (a0 : Int32) (g : z_G) : Option (Int32 × z_G) := z_bind (fM_X8_ringOf a0 g) (fun r1 g2 => (if r1 = ((g2 0 1) - 1) then fM_X8_isOutside_28 g2 else z_bind (fM_X8_heightOf a0 g2) (fun r5 g6 => (if r5 = ((g6 0 2) - 1) then fM_X8_isOutside_28 g6 else fM_X8_isOutside_33 0 g6))))
theorem nM_X8_isOutside : yX8_isOutside.cls = RX8 ∧ yX8_isOutside.cls ≠ "java/lang/invoke/MethodHandle" ∧ yX8_isOutside.cls ≠ "java/lang/invoke/VarHandle" ∧ (parseMethodDescriptor yX8_isOutside.desc).map (fun d => d.parameters.length) = some 1 := by decide +kernel
set_option maxRecDepth 100000 in
set_option maxHeartbeats 4000000 in
theorem cM_X8_isOutside (l : Launch) (dC : Nat → ClassId) (dI : Nat → Nat → Nat) (ca : Nat → ClassId) (q : Nat → Nat) (Zt : z_ZT) (hZt : z_Zok Zt) (a0 : Int32) (g : z_G) (r : Int32) (g' : z_G) (hf : fM_X8_isOutside a0 g = some (r, g')) : z_C l yX8_isOutside wsX8_isOutside { frames := 1, cells := 0, slots := 0, locals := 21 } (dC, dI) (tyM ca) (wM ca q) Zt [.ref (q 0), .int a0] g (some r) g' := by
  refine z_enter (wM_ok ca q) hZt (by decide +kernel) rfl (Nat.le_of_ble_eq_true rfl) (fun J hC => ?_)
  have hC : z_Cx J l cX8_isOutside 2 wsX8_isOutside RX8 (some .boolean) { frames := 1, cells := 0, slots := 0, locals := 21 } (dC, dI) (tyM ca) (wM ca q) Zt (z_QI (dC, dI) (tyM ca) (wM ca q) (some r) g') z_X0 := hC
  show J 0 [(0, .ref (q 0)), (1, .int a0)] [] g
  have hX8 : ∀ w ∈ wsX80, w ∈ wsX8_isOutside := fun _ h => List.mem_cons_of_mem _ (List.mem_append_right _ (h))
  have hJ33 : ∀ (s0 : Int32) (g : z_G), fM_X8_isOutside_33 s0 g = some (r, g') → J 33 [] [.int s0] g := by
    intro s0 g hf
    unfold fM_X8_isOutside_33 at hf
    exact zj_zreturn hC hf dX8_isOutside_33
  have hJ28 : ∀ (g : z_G), fM_X8_isOutside_28 g = some (r, g') → J 28 [] [] g := by
    intro g hf
    unfold fM_X8_isOutside_28 at hf
    refine zj_iconst (v := 1) hC dX8_isOutside_28 (by decide) ?_
    refine zj_goto 33 hC dX8_isOutside_29 (by decide) ?_
    exact (hJ33 1 g hf)
  unfold fM_X8_isOutside at hf
  refine zj_aload_n 0 hC dX8_isOutside_0 rfl ?_
  refine zj_iload_n 1 hC dX8_isOutside_1 rfl ?_
  obtain ⟨r1, g2, hq3, hf⟩ := z_bindE hf
  refine zj_callVi [.int a0] hC (cM_X8_ringOf l dC dI ca q Zt hZt a0 g r1 g2 hq3) gX8_isOutside_X8_ringOf rfl nM_X8_ringOf ⟨Nat.le_of_ble_eq_true rfl, Nat.le_of_ble_eq_true rfl⟩ 0 mo_0 rfl rfl rfl (Nat.le_of_ble_eq_true rfl) dX8_isOutside_2 rfl ?_
  refine zj_aload_n 0 hC dX8_isOutside_5 rfl ?_
  refine mg_0_1 hC hX8 (List.mem_of_getElem? (i := 1) rfl) dX8_isOutside_6 ?_
  refine zj_iconst (v := 1) hC dX8_isOutside_9 (by decide) ?_
  refine zj_isub hC dX8_isOutside_10 ?_
  refine zj_icmp_eq 28 hC dX8_isOutside_11 (by decide) (fun c4 => ?_) (fun c4 => ?_)
  · have hf := z_iteT hf c4
    exact zj_sub hC [] rfl (hJ28 g2 hf)
  · have hf := z_iteF hf c4
    refine zj_aload_n 0 hC dX8_isOutside_14 rfl ?_
    refine zj_iload_n 1 hC dX8_isOutside_15 rfl ?_
    obtain ⟨r5, g6, hq7, hf⟩ := z_bindE hf
    refine zj_callVi [.int a0] hC (cM_X8_heightOf l dC dI ca q Zt hZt a0 g2 r5 g6 hq7) gX8_isOutside_X8_heightOf rfl nM_X8_heightOf ⟨Nat.le_of_ble_eq_true rfl, Nat.le_of_ble_eq_true rfl⟩ 0 mo_0 rfl rfl rfl (Nat.le_of_ble_eq_true rfl) dX8_isOutside_16 rfl ?_
    refine zj_aload_n 0 hC dX8_isOutside_19 rfl ?_
    refine mg_0_2 hC hX8 (List.mem_of_getElem? (i := 2) rfl) dX8_isOutside_20 ?_
    refine zj_iconst (v := 1) hC dX8_isOutside_23 (by decide) ?_
    refine zj_isub hC dX8_isOutside_24 ?_
    refine zj_icmp_ne 32 hC dX8_isOutside_25 (by decide) (fun c8 => ?_) (fun c8 => ?_)
    · have hf := z_iteF hf c8
      refine zj_iconst (v := 0) hC dX8_isOutside_32 (by decide) ?_
      exact zj_sub hC [] rfl (hJ33 0 g6 hf)
    · have hf := z_iteT hf c8
      exact zj_sub hC [] rfl (hJ28 g6 hf)

def fM_X8_empties_2 (k2 : Int32 × z_G → Option (Int32 × z_G)) (x1 : Int32) (g : z_G) : Option (Int32 × z_G) := (if 64 ≤ x1 then z_let (z_up g 0 20 0) (fun g2 => z_let (z_up g2 0 21 0) (fun g3 => z_let (z_up g3 0 22 0) (fun g4 => z_let (z_up g4 0 23 0) (fun g5 => z_let (z_up g5 0 26 0) (fun g6 => some (0, g6)))))) else z_ck x1 64 (z_let (z_up g 1 (Int32.toNatClampNeg x1) 0) (fun g8 => z_ck x1 64 (z_let (z_up g8 2 (Int32.toNatClampNeg x1) 0) (fun g10 => z_ck x1 64 (z_let (z_up g10 3 (Int32.toNatClampNeg x1) 0) (fun g12 => z_ck x1 64 (z_let (z_up g12 4 (Int32.toNatClampNeg x1) 0) (fun g14 => z_ck x1 64 (z_let (z_up g14 5 (Int32.toNatClampNeg x1) (vp_nar .boolean 0)) (fun g16 => z_ck x1 64 (z_let (z_up g16 6 (Int32.toNatClampNeg x1) 0) (fun g18 => z_ck x1 64 (z_let (z_up g18 7 (Int32.toNatClampNeg x1) 0) (fun g20 => z_ck x1 64 (z_let (z_up g20 8 (Int32.toNatClampNeg x1) 5) (fun g22 => z_ck x1 64 (z_let (z_up g22 9 (Int32.toNatClampNeg x1) 0) (fun g24 => z_ck x1 64 (z_let (z_up g24 10 (Int32.toNatClampNeg x1) (-1)) (fun g26 => z_let (x1 + 1) (fun y27 => k2 (y27, g26)))))))))))))))))))))))
def fM_X8_empties_2_go (x1 : Int32) (g : z_G) : Option (Int32 × z_G) := z_loop (fun k (w : Int32 × z_G) => fM_X8_empties_2 k w.1 w.2) z_fuel (x1, g)
def fM_X8_empties (g : z_G) : Option (Int32 × z_G) := fM_X8_empties_2_go 0 g
theorem nM_X8_empties : yX8_empties.cls = RX8 ∧ yX8_empties.cls ≠ "java/lang/invoke/MethodHandle" ∧ yX8_empties.cls ≠ "java/lang/invoke/VarHandle" ∧ (parseMethodDescriptor yX8_empties.desc).map (fun d => d.parameters.length) = some 0 := by decide +kernel
set_option maxRecDepth 100000 in
set_option maxHeartbeats 4000000 in
theorem cM_X8_empties (l : Launch) (dC : Nat → ClassId) (dI : Nat → Nat → Nat) (ca : Nat → ClassId) (q : Nat → Nat) (Zt : z_ZT) (hZt : z_Zok Zt) (g : z_G) (r : Int32) (g' : z_G) (hf : fM_X8_empties g = some (r, g')) : z_C l yX8_empties wsX8_empties { frames := 0, cells := 0, slots := 0, locals := 0 } (dC, dI) (tyM ca) (wM ca q) Zt [.ref (q 0)] g none g' := by
  refine z_enter (wM_ok ca q) hZt (by decide +kernel) rfl (Nat.le_of_ble_eq_true rfl) (fun J hC => ?_)
  have hC : z_Cx J l cX8_empties 2 wsX8_empties RX8 none { frames := 0, cells := 0, slots := 0, locals := 0 } (dC, dI) (tyM ca) (wM ca q) Zt (z_QI (dC, dI) (tyM ca) (wM ca q) none g') z_X0 := hC
  show J 0 [(0, .ref (q 0))] [] g
  have hX8 : ∀ w ∈ wsX80, w ∈ wsX8_empties := fun _ h => List.mem_cons_of_mem _ (List.mem_append_right _ (h))
  have hJ2 : ∀ (x1 : Int32) (g : z_G), fM_X8_empties_2_go x1 g = some (r, g') → J 2 [(0, .ref (q 0)), (1, .int x1)] [] g := by
    intro x1 g hf
    refine z_loopE (P := fun w : Int32 × z_G => J 2 [(0, .ref (q 0)), (1, .int w.1)] [] w.2) (fun k2 hk2 w hf => ?_) z_fuel (x1, g) hf
    obtain ⟨x1, g⟩ := w
    have hf : fM_X8_empties_2 k2 x1 g = some (r, g') := hf
    show J 2 [(0, .ref (q 0)), (1, .int x1)] [] g
    unfold fM_X8_empties_2 at hf
    refine zj_iload_n 1 hC dX8_empties_2 rfl ?_
    refine zj_bipush (v := 64) hC dX8_empties_3 (by decide) ?_
    refine zj_icmp_ge 84 hC dX8_empties_5 (by decide) (fun c1 => ?_) (fun c1 => ?_)
    · have hf := z_iteT hf c1
      refine zj_aload_n 0 hC dX8_empties_84 rfl ?_
      refine zj_iconst (v := 0) hC dX8_empties_85 (by decide) ?_
      refine mp_0_20 hC hX8 (List.mem_of_getElem? (i := 11) rfl) (by decide) dX8_empties_86 (fun g2 eg2 => ?_)
      have hf := z_letE hf eg2
      refine zj_aload_n 0 hC dX8_empties_89 rfl ?_
      refine zj_iconst (v := 0) hC dX8_empties_90 (by decide) ?_
      refine mp_0_21 hC hX8 (List.mem_of_getElem? (i := 12) rfl) dX8_empties_91 (fun g3 eg3 => ?_)
      have hf := z_letE hf eg3
      refine zj_aload_n 0 hC dX8_empties_94 rfl ?_
      refine zj_iconst (v := 0) hC dX8_empties_95 (by decide) ?_
      refine mp_0_22 hC hX8 (List.mem_of_getElem? (i := 13) rfl) dX8_empties_96 (fun g4 eg4 => ?_)
      have hf := z_letE hf eg4
      refine zj_aload_n 0 hC dX8_empties_99 rfl ?_
      refine zj_iconst (v := 0) hC dX8_empties_100 (by decide) ?_
      refine mp_0_23 hC hX8 (List.mem_of_getElem? (i := 14) rfl) dX8_empties_101 (fun g5 eg5 => ?_)
      have hf := z_letE hf eg5
      refine zj_aload_n 0 hC dX8_empties_104 rfl ?_
      refine zj_iconst (v := 0) hC dX8_empties_105 (by decide) ?_
      refine mp_0_26 hC hX8 (List.mem_of_getElem? (i := 15) rfl) dX8_empties_106 (fun g6 eg6 => ?_)
      have hf := z_letE hf eg6
      exact zj_vreturn hC hf dX8_empties_109
    · have hf := z_iteF hf c1
      refine zj_aload_n 0 hC dX8_empties_8 rfl ?_
      refine mg_0_3 hC hX8 (List.mem_of_getElem? (i := 1) rfl) dX8_empties_9 ?_
      refine zj_iload_n 1 hC dX8_empties_12 rfl ?_
      refine zj_iconst (v := 0) hC dX8_empties_13 (by decide) ?_
      obtain ⟨hq7, hf⟩ := z_ckE hf
      refine ms_1 hC hq7 dX8_empties_14 (fun g8 eg8 => ?_)
      have hf := z_letE hf eg8
      refine zj_aload_n 0 hC dX8_empties_15 rfl ?_
      refine mg_0_4 hC hX8 (List.mem_of_getElem? (i := 2) rfl) dX8_empties_16 ?_
      refine zj_iload_n 1 hC dX8_empties_19 rfl ?_
      refine zj_iconst (v := 0) hC dX8_empties_20 (by decide) ?_
      obtain ⟨hq9, hf⟩ := z_ckE hf
      refine ms_2 hC hq9 dX8_empties_21 (fun g10 eg10 => ?_)
      have hf := z_letE hf eg10
      refine zj_aload_n 0 hC dX8_empties_22 rfl ?_
      refine mg_0_5 hC hX8 (List.mem_of_getElem? (i := 3) rfl) dX8_empties_23 ?_
      refine zj_iload_n 1 hC dX8_empties_26 rfl ?_
      refine zj_iconst (v := 0) hC dX8_empties_27 (by decide) ?_
      obtain ⟨hq11, hf⟩ := z_ckE hf
      refine ms_3 hC hq11 dX8_empties_28 (fun g12 eg12 => ?_)
      have hf := z_letE hf eg12
      refine zj_aload_n 0 hC dX8_empties_29 rfl ?_
      refine mg_0_6 hC hX8 (List.mem_of_getElem? (i := 4) rfl) dX8_empties_30 ?_
      refine zj_iload_n 1 hC dX8_empties_33 rfl ?_
      refine zj_iconst (v := 0) hC dX8_empties_34 (by decide) ?_
      obtain ⟨hq13, hf⟩ := z_ckE hf
      refine ms_4 hC hq13 dX8_empties_35 (fun g14 eg14 => ?_)
      have hf := z_letE hf eg14
      refine zj_aload_n 0 hC dX8_empties_36 rfl ?_
      refine mg_0_7 hC hX8 (List.mem_of_getElem? (i := 5) rfl) dX8_empties_37 ?_
      refine zj_iload_n 1 hC dX8_empties_40 rfl ?_
      refine zj_iconst (v := 0) hC dX8_empties_41 (by decide) ?_
      obtain ⟨hq15, hf⟩ := z_ckE hf
      refine ms_5 hC hq15 dX8_empties_42 (fun g16 eg16 => ?_)
      have hf := z_letE hf eg16
      refine zj_aload_n 0 hC dX8_empties_43 rfl ?_
      refine mg_0_8 hC hX8 (List.mem_of_getElem? (i := 6) rfl) dX8_empties_44 ?_
      refine zj_iload_n 1 hC dX8_empties_47 rfl ?_
      refine zj_iconst (v := 0) hC dX8_empties_48 (by decide) ?_
      obtain ⟨hq17, hf⟩ := z_ckE hf
      refine ms_6 hC hq17 dX8_empties_49 (fun g18 eg18 => ?_)
      have hf := z_letE hf eg18
      refine zj_aload_n 0 hC dX8_empties_50 rfl ?_
      refine mg_0_9 hC hX8 (List.mem_of_getElem? (i := 7) rfl) dX8_empties_51 ?_
      refine zj_iload_n 1 hC dX8_empties_54 rfl ?_
      refine zj_iconst (v := 0) hC dX8_empties_55 (by decide) ?_
      obtain ⟨hq19, hf⟩ := z_ckE hf
      refine ms_7 hC hq19 dX8_empties_56 (fun g20 eg20 => ?_)
      have hf := z_letE hf eg20
      refine zj_aload_n 0 hC dX8_empties_57 rfl ?_
      refine mg_0_10 hC hX8 (List.mem_of_getElem? (i := 8) rfl) dX8_empties_58 ?_
      refine zj_iload_n 1 hC dX8_empties_61 rfl ?_
      refine zj_iconst (v := 5) hC dX8_empties_62 (by decide) ?_
      obtain ⟨hq21, hf⟩ := z_ckE hf
      refine ms_8 hC hq21 dX8_empties_63 (fun g22 eg22 => ?_)
      have hf := z_letE hf eg22
      refine zj_aload_n 0 hC dX8_empties_64 rfl ?_
      refine mg_0_11 hC hX8 (List.mem_of_getElem? (i := 9) rfl) dX8_empties_65 ?_
      refine zj_iload_n 1 hC dX8_empties_68 rfl ?_
      refine zj_iconst (v := 0) hC dX8_empties_69 (by decide) ?_
      obtain ⟨hq23, hf⟩ := z_ckE hf
      refine ms_9 hC hq23 dX8_empties_70 (fun g24 eg24 => ?_)
      have hf := z_letE hf eg24
      refine zj_aload_n 0 hC dX8_empties_71 rfl ?_
      refine mg_0_12 hC hX8 (List.mem_of_getElem? (i := 10) rfl) dX8_empties_72 ?_
      refine zj_iload_n 1 hC dX8_empties_75 rfl ?_
      refine zj_iconst (v := (-1)) hC dX8_empties_76 (by decide) ?_
      obtain ⟨hq25, hf⟩ := z_ckE hf
      refine ms_10 hC hq25 dX8_empties_77 (fun g26 eg26 => ?_)
      have hf := z_letE hf eg26
      refine zj_iinc (lv1 := fun v => [(1, .int v), (0, .ref (q 0))]) 1 hC dX8_empties_78 rfl (by decide) (fun _ => rfl) (fun y27 ey27 => ?_)
      have hf := z_letE hf (show y27 = x1 + 1 from ey27)
      refine zj_goto 2 hC dX8_empties_81 (by decide) ?_
      exact zj_sub hC [1, 0] rfl (hk2 (y27, g26) hf)
  unfold fM_X8_empties at hf
  refine zj_iconst (v := 0) hC dX8_empties_0 (by decide) ?_
  refine zj_istore_n (lv1 := [(1, .int 0), (0, .ref (q 0))]) hC dX8_empties_1 (by decide) rfl ?_
  exact zj_sub hC [1, 0] rfl (hJ2 0 g hf)

def fM_X8_clamp_29  (g : z_G) : Option (Int32 × z_G) := z_bo 0 (some (0, g))
def fM_X8_clamp (a0 : Int32) (a1 : Int32) (g : z_G) : Option (Int32 × z_G) := z_let (z_up g 0 0 0) (fun g1 => z_bind (fM_X8_in ((a0 : Int32).toInt64) 1 8 g1) (fun r2 g3 => (if r2 = 0 then fM_X8_clamp_29 g3 else z_bind (fM_X8_in ((a1 : Int32).toInt64) 1 8 g3) (fun r6 g7 => (if r6 = 0 then fM_X8_clamp_29 g7 else z_let (z_up g7 0 1 a0) (fun g10 => z_let (z_up g10 0 2 a1) (fun g11 => z_let (z_up g11 0 13 0) (fun g12 => z_bind (fM_X8_empties g12) (fun r13 g14 => z_bo 1 (some (1, g14)))))))))))
theorem nM_X8_clamp : yX8_clamp.cls = RX8 ∧ yX8_clamp.cls ≠ "java/lang/invoke/MethodHandle" ∧ yX8_clamp.cls ≠ "java/lang/invoke/VarHandle" ∧ (parseMethodDescriptor yX8_clamp.desc).map (fun d => d.parameters.length) = some 2 := by decide +kernel
set_option maxRecDepth 100000 in
set_option maxHeartbeats 4000000 in
theorem cM_X8_clamp (l : Launch) (dC : Nat → ClassId) (dI : Nat → Nat → Nat) (ca : Nat → ClassId) (q : Nat → Nat) (Zt : z_ZT) (hZt : z_Zok Zt) (a0 : Int32) (a1 : Int32) (g : z_G) (r : Int32) (g' : z_G) (hf : fM_X8_clamp a0 a1 g = some (r, g')) : z_C l yX8_clamp wsX8_clamp { frames := 1, cells := 0, slots := 0, locals := 25 } (dC, dI) (tyM ca) (wM ca q) Zt [.ref (q 0), .int a0, .int a1] g (some r) g' := by
  refine z_enter (wM_ok ca q) hZt (by decide +kernel) rfl (Nat.le_of_ble_eq_true rfl) (fun J hC => ?_)
  have hC : z_Cx J l cX8_clamp 3 wsX8_clamp RX8 (some .boolean) { frames := 1, cells := 0, slots := 0, locals := 25 } (dC, dI) (tyM ca) (wM ca q) Zt (z_QI (dC, dI) (tyM ca) (wM ca q) (some r) g') z_X0 := hC
  show J 0 [(0, .ref (q 0)), (1, .int a0), (2, .int a1)] [] g
  have hX8 : ∀ w ∈ wsX80, w ∈ wsX8_clamp := fun _ h => List.mem_cons_of_mem _ (List.mem_append_right _ (h))
  have hJ29 : ∀ (g : z_G), fM_X8_clamp_29 g = some (r, g') → J 29 [] [] g := by
    intro g hf
    unfold fM_X8_clamp_29 at hf
    refine zj_iconst (v := 0) hC dX8_clamp_29 (by decide) ?_
    exact zj_zreturn hC hf dX8_clamp_30
  unfold fM_X8_clamp at hf
  refine zj_aload_n 0 hC dX8_clamp_0 rfl ?_
  refine zj_iconst (v := 0) hC dX8_clamp_1 (by decide) ?_
  refine mp_0_0 hC hX8 (List.mem_of_getElem? (i := 1) rfl) dX8_clamp_2 (fun g1 eg1 => ?_)
  have hf := z_letE hf eg1
  refine zj_iload_n 1 hC dX8_clamp_5 rfl ?_
  refine zj_i2l hC dX8_clamp_6 ?_
  refine zj_lconst (v := 1) hC dX8_clamp_7 (by decide) ?_
  refine zj_ldc2 (v := 8) hC (List.mem_of_getElem? (i := 2) rfl) dX8_clamp_8 ?_
  obtain ⟨r2, g3, hq4, hf⟩ := z_bindE hf
  refine zj_callSi [.long ((a0 : Int32).toInt64), .long 1, .long 8] hC (cM_X8_in l dC dI ca q Zt hZt ((a0 : Int32).toInt64) 1 8 g1 r2 g3 hq4) gX8_clamp_X8_in rfl nM_X8_in ⟨Nat.le_of_ble_eq_true rfl, Nat.le_of_ble_eq_true rfl⟩ rfl (Nat.le_of_ble_eq_true rfl) dX8_clamp_11 rfl ?_
  refine zj_if_eq 29 hC dX8_clamp_14 (by decide) (fun c5 => ?_) (fun c5 => ?_)
  · have hf := z_iteT hf c5
    exact zj_sub hC [] rfl (hJ29 g3 hf)
  · have hf := z_iteF hf c5
    refine zj_iload_n 2 hC dX8_clamp_17 rfl ?_
    refine zj_i2l hC dX8_clamp_18 ?_
    refine zj_lconst (v := 1) hC dX8_clamp_19 (by decide) ?_
    refine zj_ldc2 (v := 8) hC (List.mem_of_getElem? (i := 2) rfl) dX8_clamp_20 ?_
    obtain ⟨r6, g7, hq8, hf⟩ := z_bindE hf
    refine zj_callSi [.long ((a1 : Int32).toInt64), .long 1, .long 8] hC (cM_X8_in l dC dI ca q Zt hZt ((a1 : Int32).toInt64) 1 8 g3 r6 g7 hq8) gX8_clamp_X8_in rfl nM_X8_in ⟨Nat.le_of_ble_eq_true rfl, Nat.le_of_ble_eq_true rfl⟩ rfl (Nat.le_of_ble_eq_true rfl) dX8_clamp_23 rfl ?_
    refine zj_if_ne 31 hC dX8_clamp_26 (by decide) (fun c9 => ?_) (fun c9 => ?_)
    · have hf := z_iteF hf c9
      refine zj_aload_n 0 hC dX8_clamp_31 rfl ?_
      refine zj_iload_n 1 hC dX8_clamp_32 rfl ?_
      refine mp_0_1 hC hX8 (List.mem_of_getElem? (i := 3) rfl) dX8_clamp_33 (fun g10 eg10 => ?_)
      have hf := z_letE hf eg10
      refine zj_aload_n 0 hC dX8_clamp_36 rfl ?_
      refine zj_iload_n 2 hC dX8_clamp_37 rfl ?_
      refine mp_0_2 hC hX8 (List.mem_of_getElem? (i := 4) rfl) dX8_clamp_38 (fun g11 eg11 => ?_)
      have hf := z_letE hf eg11
      refine zj_aload_n 0 hC dX8_clamp_41 rfl ?_
      refine zj_iconst (v := 0) hC dX8_clamp_42 (by decide) ?_
      refine mp_0_13 hC hX8 (List.mem_of_getElem? (i := 5) rfl) dX8_clamp_43 (fun g12 eg12 => ?_)
      have hf := z_letE hf eg12
      refine zj_aload_n 0 hC dX8_clamp_46 rfl ?_
      obtain ⟨r13, g14, hq15, hf⟩ := z_bindE hf
      refine zj_callVv [] hC (cM_X8_empties l dC dI ca q Zt hZt g12 r13 g14 hq15) gX8_clamp_X8_empties rfl nM_X8_empties ⟨Nat.le_of_ble_eq_true rfl, Nat.le_of_ble_eq_true rfl⟩ 0 mo_0 rfl rfl rfl (Nat.le_of_ble_eq_true rfl) dX8_clamp_47 rfl ?_
      refine zj_iconst (v := 1) hC dX8_clamp_50 (by decide) ?_
      exact zj_zreturn hC hf dX8_clamp_51
    · have hf := z_iteT hf c9
      exact zj_sub hC [] rfl (hJ29 g7 hf)

def fM_X8_damp_12 (s0 : Int32) (g : z_G) : Option (Int32 × z_G) := some (s0, g)
def fM_X8_damp (a0 : Int32) (g : z_G) : Option (Int32 × z_G) := (if 2 ≤ a0 then fM_X8_damp_12 60 g else fM_X8_damp_12 20 g)
theorem nM_X8_damp : yX8_damp.cls ≠ "java/lang/invoke/MethodHandle" ∧ yX8_damp.cls ≠ "java/lang/invoke/VarHandle" ∧ (parseMethodDescriptor yX8_damp.desc).map (fun d => d.parameters.length) = some 1 := by decide +kernel
set_option maxRecDepth 100000 in
set_option maxHeartbeats 4000000 in
theorem cM_X8_damp (l : Launch) (dC : Nat → ClassId) (dI : Nat → Nat → Nat) (ca : Nat → ClassId) (q : Nat → Nat) (Zt : z_ZT) (hZt : z_Zok Zt) (a0 : Int32) (g : z_G) (r : Int32) (g' : z_G) (hf : fM_X8_damp a0 g = some (r, g')) : z_C l yX8_damp wsX8_damp { frames := 0, cells := 0, slots := 0, locals := 0 } (dC, dI) (tyM ca) (wM ca q) Zt [.int a0] g (some r) g' := by
  refine z_enter (wM_ok ca q) hZt (by decide +kernel) rfl (Nat.le_of_ble_eq_true rfl) (fun J hC => ?_)
  have hC : z_Cx J l cX8_damp 1 wsX8_damp RX8 (some .int) { frames := 0, cells := 0, slots := 0, locals := 0 } (dC, dI) (tyM ca) (wM ca q) Zt (z_QI (dC, dI) (tyM ca) (wM ca q) (some r) g') z_X0 := hC
  show J 0 [(0, .int a0)] [] g
  have hJ12 : ∀ (s0 : Int32) (g : z_G), fM_X8_damp_12 s0 g = some (r, g') → J 12 [] [.int s0] g := by
    intro s0 g hf
    unfold fM_X8_damp_12 at hf
    exact zj_ireturn hC hf dX8_damp_12
  unfold fM_X8_damp at hf
  refine zj_iload_n 0 hC dX8_damp_0 rfl ?_
  refine zj_iconst (v := 2) hC dX8_damp_1 (by decide) ?_
  refine zj_icmp_ge 10 hC dX8_damp_2 (by decide) (fun c1 => ?_) (fun c1 => ?_)
  · have hf := z_iteT hf c1
    refine zj_bipush (v := 60) hC dX8_damp_10 (by decide) ?_
    exact zj_sub hC [] rfl (hJ12 60 g hf)
  · have hf := z_iteF hf c1
    refine zj_bipush (v := 20) hC dX8_damp_5 (by decide) ?_
    refine zj_goto 12 hC dX8_damp_7 (by decide) ?_
    exact zj_sub hC [] rfl (hJ12 20 g hf)

def fM_X8_yieldOf_12 (s0 : Int32) (g : z_G) : Option (Int32 × z_G) := some (s0, g)
def fM_X8_yieldOf (a0 : Int32) (g : z_G) : Option (Int32 × z_G) := (if a0 = 1 then fM_X8_yieldOf_12 22 g else fM_X8_yieldOf_12 25 g)
theorem nM_X8_yieldOf : yX8_yieldOf.cls ≠ "java/lang/invoke/MethodHandle" ∧ yX8_yieldOf.cls ≠ "java/lang/invoke/VarHandle" ∧ (parseMethodDescriptor yX8_yieldOf.desc).map (fun d => d.parameters.length) = some 1 := by decide +kernel
set_option maxRecDepth 100000 in
set_option maxHeartbeats 4000000 in
theorem cM_X8_yieldOf (l : Launch) (dC : Nat → ClassId) (dI : Nat → Nat → Nat) (ca : Nat → ClassId) (q : Nat → Nat) (Zt : z_ZT) (hZt : z_Zok Zt) (a0 : Int32) (g : z_G) (r : Int32) (g' : z_G) (hf : fM_X8_yieldOf a0 g = some (r, g')) : z_C l yX8_yieldOf wsX8_yieldOf { frames := 0, cells := 0, slots := 0, locals := 0 } (dC, dI) (tyM ca) (wM ca q) Zt [.int a0] g (some r) g' := by
  refine z_enter (wM_ok ca q) hZt (by decide +kernel) rfl (Nat.le_of_ble_eq_true rfl) (fun J hC => ?_)
  have hC : z_Cx J l cX8_yieldOf 1 wsX8_yieldOf RX8 (some .int) { frames := 0, cells := 0, slots := 0, locals := 0 } (dC, dI) (tyM ca) (wM ca q) Zt (z_QI (dC, dI) (tyM ca) (wM ca q) (some r) g') z_X0 := hC
  show J 0 [(0, .int a0)] [] g
  have hJ12 : ∀ (s0 : Int32) (g : z_G), fM_X8_yieldOf_12 s0 g = some (r, g') → J 12 [] [.int s0] g := by
    intro s0 g hf
    unfold fM_X8_yieldOf_12 at hf
    exact zj_ireturn hC hf dX8_yieldOf_12
  unfold fM_X8_yieldOf at hf
  refine zj_iload_n 0 hC dX8_yieldOf_0 rfl ?_
  refine zj_iconst (v := 1) hC dX8_yieldOf_1 (by decide) ?_
  refine zj_icmp_ne 10 hC dX8_yieldOf_2 (by decide) (fun c1 => ?_) (fun c1 => ?_)
  · have hf := z_iteF hf c1
    refine zj_bipush (v := 25) hC dX8_yieldOf_10 (by decide) ?_
    exact zj_sub hC [] rfl (hJ12 25 g hf)
  · have hf := z_iteT hf c1
    refine zj_bipush (v := 22) hC dX8_yieldOf_5 (by decide) ?_
    refine zj_goto 12 hC dX8_yieldOf_7 (by decide) ?_
    exact zj_sub hC [] rfl (hJ12 22 g hf)

def fM_X8_rate_20 (s0 : Int32) (g : z_G) : Option (Int32 × z_G) := some (s0, g)
def fM_X8_rate (a0 : Int32) (g : z_G) : Option (Int32 × z_G) := (if a0 = 1 then fM_X8_rate_20 6 g else (if a0 = 3 then fM_X8_rate_20 2 g else fM_X8_rate_20 4 g))
theorem nM_X8_rate : yX8_rate.cls ≠ "java/lang/invoke/MethodHandle" ∧ yX8_rate.cls ≠ "java/lang/invoke/VarHandle" ∧ (parseMethodDescriptor yX8_rate.desc).map (fun d => d.parameters.length) = some 1 := by decide +kernel
set_option maxRecDepth 100000 in
set_option maxHeartbeats 4000000 in
theorem cM_X8_rate (l : Launch) (dC : Nat → ClassId) (dI : Nat → Nat → Nat) (ca : Nat → ClassId) (q : Nat → Nat) (Zt : z_ZT) (hZt : z_Zok Zt) (a0 : Int32) (g : z_G) (r : Int32) (g' : z_G) (hf : fM_X8_rate a0 g = some (r, g')) : z_C l yX8_rate wsX8_rate { frames := 0, cells := 0, slots := 0, locals := 0 } (dC, dI) (tyM ca) (wM ca q) Zt [.int a0] g (some r) g' := by
  refine z_enter (wM_ok ca q) hZt (by decide +kernel) rfl (Nat.le_of_ble_eq_true rfl) (fun J hC => ?_)
  have hC : z_Cx J l cX8_rate 1 wsX8_rate RX8 (some .int) { frames := 0, cells := 0, slots := 0, locals := 0 } (dC, dI) (tyM ca) (wM ca q) Zt (z_QI (dC, dI) (tyM ca) (wM ca q) (some r) g') z_X0 := hC
  show J 0 [(0, .int a0)] [] g
  have hJ20 : ∀ (s0 : Int32) (g : z_G), fM_X8_rate_20 s0 g = some (r, g') → J 20 [] [.int s0] g := by
    intro s0 g hf
    unfold fM_X8_rate_20 at hf
    exact zj_ireturn hC hf dX8_rate_20
  unfold fM_X8_rate at hf
  refine zj_iload_n 0 hC dX8_rate_0 rfl ?_
  refine zj_iconst (v := 1) hC dX8_rate_1 (by decide) ?_
  refine zj_icmp_ne 10 hC dX8_rate_2 (by decide) (fun c1 => ?_) (fun c1 => ?_)
  · have hf := z_iteF hf c1
    refine zj_iload_n 0 hC dX8_rate_10 rfl ?_
    refine zj_iconst (v := 3) hC dX8_rate_11 (by decide) ?_
    refine zj_icmp_ne 19 hC dX8_rate_12 (by decide) (fun c2 => ?_) (fun c2 => ?_)
    · have hf := z_iteF hf c2
      refine zj_iconst (v := 4) hC dX8_rate_19 (by decide) ?_
      exact zj_sub hC [] rfl (hJ20 4 g hf)
    · have hf := z_iteT hf c2
      refine zj_iconst (v := 2) hC dX8_rate_15 (by decide) ?_
      refine zj_goto 20 hC dX8_rate_16 (by decide) ?_
      exact zj_sub hC [] rfl (hJ20 2 g hf)
  · have hf := z_iteT hf c1
    refine zj_bipush (v := 6) hC dX8_rate_5 (by decide) ?_
    refine zj_goto 20 hC dX8_rate_7 (by decide) ?_
    exact zj_sub hC [] rfl (hJ20 6 g hf)

def fM_X8_lays (a0 : Int32) (a1 : Int32) (g : z_G) : Option (Int32 × z_G) := z_ck a0 64 (z_let (z_up g 6 (Int32.toNatClampNeg a0) a1) (fun g2 => z_bind (fM_X8_share a0 g2) (fun r3 g4 => z_ck a0 64 (z_let (z_up g4 7 (Int32.toNatClampNeg a0) (100 * r3)) (fun g7 => z_ck a0 64 (z_ck a0 64 (z_let (z_up g7 1 (Int32.toNatClampNeg a0) (g7 7 (Int32.toNatClampNeg a0))) (fun g10 => z_bind (fM_X8_damp a1 g10) (fun r11 g12 => z_bind (fM_X8_share a0 g12) (fun r14 g15 => z_ck a0 64 (z_let (z_up g15 3 (Int32.toNatClampNeg a0) (r11 * r14)) (fun g18 => z_ck a0 64 (z_let (z_up g18 2 (Int32.toNatClampNeg a0) 0) (fun g20 => z_ck a0 64 (z_let (z_up g20 4 (Int32.toNatClampNeg a0) 0) (fun g22 => z_ck a0 64 (some (g22 1 (Int32.toNatClampNeg a0), g22))))))))))))))))))
theorem nM_X8_lays : yX8_lays.cls = RX8 ∧ yX8_lays.cls ≠ "java/lang/invoke/MethodHandle" ∧ yX8_lays.cls ≠ "java/lang/invoke/VarHandle" ∧ (parseMethodDescriptor yX8_lays.desc).map (fun d => d.parameters.length) = some 2 := by decide +kernel
set_option maxRecDepth 100000 in
set_option maxHeartbeats 4000000 in
theorem cM_X8_lays (l : Launch) (dC : Nat → ClassId) (dI : Nat → Nat → Nat) (ca : Nat → ClassId) (q : Nat → Nat) (Zt : z_ZT) (hZt : z_Zok Zt) (a0 : Int32) (a1 : Int32) (g : z_G) (r : Int32) (g' : z_G) (hf : fM_X8_lays a0 a1 g = some (r, g')) : z_C l yX8_lays wsX8_lays { frames := 1, cells := 0, slots := 0, locals := 20 } (dC, dI) (tyM ca) (wM ca q) Zt [.ref (q 0), .int a0, .int a1] g (some r) g' := by
  refine z_enter (wM_ok ca q) hZt (by decide +kernel) rfl (Nat.le_of_ble_eq_true rfl) (fun J hC => ?_)
  have hC : z_Cx J l cX8_lays 3 wsX8_lays RX8 (some .int) { frames := 1, cells := 0, slots := 0, locals := 20 } (dC, dI) (tyM ca) (wM ca q) Zt (z_QI (dC, dI) (tyM ca) (wM ca q) (some r) g') z_X0 := hC
  show J 0 [(0, .ref (q 0)), (1, .int a0), (2, .int a1)] [] g
  have hX8 : ∀ w ∈ wsX80, w ∈ wsX8_lays := fun _ h => List.mem_cons_of_mem _ (List.mem_append_right _ (h))
  unfold fM_X8_lays at hf
  refine zj_aload_n 0 hC dX8_lays_0 rfl ?_
  refine mg_0_8 hC hX8 (List.mem_of_getElem? (i := 1) rfl) dX8_lays_1 ?_
  refine zj_iload_n 1 hC dX8_lays_4 rfl ?_
  refine zj_iload_n 2 hC dX8_lays_5 rfl ?_
  obtain ⟨hq1, hf⟩ := z_ckE hf
  refine ms_6 hC hq1 dX8_lays_6 (fun g2 eg2 => ?_)
  have hf := z_letE hf eg2
  refine zj_aload_n 0 hC dX8_lays_7 rfl ?_
  refine mg_0_9 hC hX8 (List.mem_of_getElem? (i := 2) rfl) dX8_lays_8 ?_
  refine zj_iload_n 1 hC dX8_lays_11 rfl ?_
  refine zj_bipush (v := 100) hC dX8_lays_12 (by decide) ?_
  refine zj_iload_n 1 hC dX8_lays_14 rfl ?_
  obtain ⟨r3, g4, hq5, hf⟩ := z_bindE hf
  refine zj_callSi [.int a0] hC (cM_X8_share l dC dI ca q Zt hZt a0 g2 r3 g4 hq5) gX8_lays_X8_share rfl nM_X8_share ⟨Nat.le_of_ble_eq_true rfl, Nat.le_of_ble_eq_true rfl⟩ rfl (Nat.le_of_ble_eq_true rfl) dX8_lays_15 rfl ?_
  refine zj_imul hC dX8_lays_18 ?_
  obtain ⟨hq6, hf⟩ := z_ckE hf
  refine ms_7 hC hq6 dX8_lays_19 (fun g7 eg7 => ?_)
  have hf := z_letE hf eg7
  refine zj_aload_n 0 hC dX8_lays_20 rfl ?_
  refine mg_0_3 hC hX8 (List.mem_of_getElem? (i := 3) rfl) dX8_lays_21 ?_
  refine zj_iload_n 1 hC dX8_lays_24 rfl ?_
  refine zj_aload_n 0 hC dX8_lays_25 rfl ?_
  refine mg_0_9 hC hX8 (List.mem_of_getElem? (i := 2) rfl) dX8_lays_26 ?_
  refine zj_iload_n 1 hC dX8_lays_29 rfl ?_
  obtain ⟨hq8, hf⟩ := z_ckE hf
  refine ma_7 hC hq8 dX8_lays_30 ?_
  obtain ⟨hq9, hf⟩ := z_ckE hf
  refine ms_1 hC hq9 dX8_lays_31 (fun g10 eg10 => ?_)
  have hf := z_letE hf eg10
  refine zj_aload_n 0 hC dX8_lays_32 rfl ?_
  refine mg_0_5 hC hX8 (List.mem_of_getElem? (i := 4) rfl) dX8_lays_33 ?_
  refine zj_iload_n 1 hC dX8_lays_36 rfl ?_
  refine zj_iload_n 2 hC dX8_lays_37 rfl ?_
  obtain ⟨r11, g12, hq13, hf⟩ := z_bindE hf
  refine zj_callSi [.int a1] hC (cM_X8_damp l dC dI ca q Zt hZt a1 g10 r11 g12 hq13) gX8_lays_X8_damp rfl nM_X8_damp ⟨Nat.le_of_ble_eq_true rfl, Nat.le_of_ble_eq_true rfl⟩ rfl (Nat.le_of_ble_eq_true rfl) dX8_lays_38 rfl ?_
  refine zj_iload_n 1 hC dX8_lays_41 rfl ?_
  obtain ⟨r14, g15, hq16, hf⟩ := z_bindE hf
  refine zj_callSi [.int a0] hC (cM_X8_share l dC dI ca q Zt hZt a0 g12 r14 g15 hq16) gX8_lays_X8_share rfl nM_X8_share ⟨Nat.le_of_ble_eq_true rfl, Nat.le_of_ble_eq_true rfl⟩ rfl (Nat.le_of_ble_eq_true rfl) dX8_lays_42 rfl ?_
  refine zj_imul hC dX8_lays_45 ?_
  obtain ⟨hq17, hf⟩ := z_ckE hf
  refine ms_3 hC hq17 dX8_lays_46 (fun g18 eg18 => ?_)
  have hf := z_letE hf eg18
  refine zj_aload_n 0 hC dX8_lays_47 rfl ?_
  refine mg_0_4 hC hX8 (List.mem_of_getElem? (i := 5) rfl) dX8_lays_48 ?_
  refine zj_iload_n 1 hC dX8_lays_51 rfl ?_
  refine zj_iconst (v := 0) hC dX8_lays_52 (by decide) ?_
  obtain ⟨hq19, hf⟩ := z_ckE hf
  refine ms_2 hC hq19 dX8_lays_53 (fun g20 eg20 => ?_)
  have hf := z_letE hf eg20
  refine zj_aload_n 0 hC dX8_lays_54 rfl ?_
  refine mg_0_6 hC hX8 (List.mem_of_getElem? (i := 6) rfl) dX8_lays_55 ?_
  refine zj_iload_n 1 hC dX8_lays_58 rfl ?_
  refine zj_iconst (v := 0) hC dX8_lays_59 (by decide) ?_
  obtain ⟨hq21, hf⟩ := z_ckE hf
  refine ms_4 hC hq21 dX8_lays_60 (fun g22 eg22 => ?_)
  have hf := z_letE hf eg22
  refine zj_aload_n 0 hC dX8_lays_61 rfl ?_
  refine mg_0_3 hC hX8 (List.mem_of_getElem? (i := 3) rfl) dX8_lays_62 ?_
  refine zj_iload_n 1 hC dX8_lays_65 rfl ?_
  obtain ⟨hq23, hf⟩ := z_ckE hf
  refine ma_1 hC hq23 dX8_lays_66 ?_
  exact zj_ireturn hC hf dX8_lays_67

def fM_X8_lay_33  (g : z_G) : Option (Int32 × z_G) := some ((-1), g)
def fM_X8_lay (a0 : Int32) (a1 : Int32) (a2 : Int32) (g : z_G) : Option (Int32 × z_G) := z_let (z_up g 0 0 0) (fun g1 => z_bind (fM_X8_isCell a0 a1 g1) (fun r2 g3 => (if r2 = 0 then fM_X8_lay_33 g3 else z_bind (fM_X8_in ((a2 : Int32).toInt64) 0 3 g3) (fun r6 g7 => (if r6 = 0 then fM_X8_lay_33 g7 else (if (g7 0 20) = 0 then z_bind (fM_X8_lays ((a1 * 8) + a0) a2 g7) (fun r11 g12 => some (r11, g12)) else fM_X8_lay_33 g7))))))
theorem nM_X8_lay : yX8_lay.cls = RX8 ∧ yX8_lay.cls ≠ "java/lang/invoke/MethodHandle" ∧ yX8_lay.cls ≠ "java/lang/invoke/VarHandle" ∧ (parseMethodDescriptor yX8_lay.desc).map (fun d => d.parameters.length) = some 3 := by decide +kernel
set_option maxRecDepth 100000 in
set_option maxHeartbeats 4000000 in
theorem cM_X8_lay (l : Launch) (dC : Nat → ClassId) (dI : Nat → Nat → Nat) (ca : Nat → ClassId) (q : Nat → Nat) (Zt : z_ZT) (hZt : z_Zok Zt) (a0 : Int32) (a1 : Int32) (a2 : Int32) (g : z_G) (r : Int32) (g' : z_G) (hf : fM_X8_lay a0 a1 a2 g = some (r, g')) : z_C l yX8_lay wsX8_lay { frames := 2, cells := 0, slots := 0, locals := 47 } (dC, dI) (tyM ca) (wM ca q) Zt [.ref (q 0), .int a0, .int a1, .int a2] g (some r) g' := by
  refine z_enter (wM_ok ca q) hZt (by decide +kernel) rfl (Nat.le_of_ble_eq_true rfl) (fun J hC => ?_)
  have hC : z_Cx J l cX8_lay 4 wsX8_lay RX8 (some .int) { frames := 2, cells := 0, slots := 0, locals := 47 } (dC, dI) (tyM ca) (wM ca q) Zt (z_QI (dC, dI) (tyM ca) (wM ca q) (some r) g') z_X0 := hC
  show J 0 [(0, .ref (q 0)), (1, .int a0), (2, .int a1), (3, .int a2)] [] g
  have hX8 : ∀ w ∈ wsX80, w ∈ wsX8_lay := fun _ h => List.mem_cons_of_mem _ (List.mem_append_right _ (h))
  have hJ33 : ∀ (g : z_G), fM_X8_lay_33 g = some (r, g') → J 33 [] [] g := by
    intro g hf
    unfold fM_X8_lay_33 at hf
    refine zj_iconst (v := (-1)) hC dX8_lay_33 (by decide) ?_
    exact zj_ireturn hC hf dX8_lay_34
  unfold fM_X8_lay at hf
  refine zj_aload_n 0 hC dX8_lay_0 rfl ?_
  refine zj_iconst (v := 0) hC dX8_lay_1 (by decide) ?_
  refine mp_0_0 hC hX8 (List.mem_of_getElem? (i := 1) rfl) dX8_lay_2 (fun g1 eg1 => ?_)
  have hf := z_letE hf eg1
  refine zj_aload_n 0 hC dX8_lay_5 rfl ?_
  refine zj_iload_n 1 hC dX8_lay_6 rfl ?_
  refine zj_iload_n 2 hC dX8_lay_7 rfl ?_
  obtain ⟨r2, g3, hq4, hf⟩ := z_bindE hf
  refine zj_callVi [.int a0, .int a1] hC (cM_X8_isCell l dC dI ca q Zt hZt a0 a1 g1 r2 g3 hq4) gX8_lay_X8_isCell rfl nM_X8_isCell ⟨Nat.le_of_ble_eq_true rfl, Nat.le_of_ble_eq_true rfl⟩ 0 mo_0 rfl rfl rfl (Nat.le_of_ble_eq_true rfl) dX8_lay_8 rfl ?_
  refine zj_if_eq 33 hC dX8_lay_11 (by decide) (fun c5 => ?_) (fun c5 => ?_)
  · have hf := z_iteT hf c5
    exact zj_sub hC [] rfl (hJ33 g3 hf)
  · have hf := z_iteF hf c5
    refine zj_iload_n 3 hC dX8_lay_14 rfl ?_
    refine zj_i2l hC dX8_lay_15 ?_
    refine zj_lconst (v := 0) hC dX8_lay_16 (by decide) ?_
    refine zj_ldc2 (v := 3) hC (List.mem_of_getElem? (i := 2) rfl) dX8_lay_17 ?_
    obtain ⟨r6, g7, hq8, hf⟩ := z_bindE hf
    refine zj_callSi [.long ((a2 : Int32).toInt64), .long 0, .long 3] hC (cM_X8_in l dC dI ca q Zt hZt ((a2 : Int32).toInt64) 0 3 g3 r6 g7 hq8) gX8_lay_X8_in rfl nM_X8_in ⟨Nat.le_of_ble_eq_true rfl, Nat.le_of_ble_eq_true rfl⟩ rfl (Nat.le_of_ble_eq_true rfl) dX8_lay_20 rfl ?_
    refine zj_if_eq 33 hC dX8_lay_23 (by decide) (fun c9 => ?_) (fun c9 => ?_)
    · have hf := z_iteT hf c9
      exact zj_sub hC [] rfl (hJ33 g7 hf)
    · have hf := z_iteF hf c9
      refine zj_aload_n 0 hC dX8_lay_26 rfl ?_
      refine mg_0_20 hC hX8 (List.mem_of_getElem? (i := 3) rfl) dX8_lay_27 ?_
      refine zj_if_eq 35 hC dX8_lay_30 (by decide) (fun c10 => ?_) (fun c10 => ?_)
      · have hf := z_iteT hf c10
        refine zj_aload_n 0 hC dX8_lay_35 rfl ?_
        refine zj_iload_n 2 hC dX8_lay_36 rfl ?_
        refine zj_bipush (v := 8) hC dX8_lay_37 (by decide) ?_
        refine zj_imul hC dX8_lay_39 ?_
        refine zj_iload_n 1 hC dX8_lay_40 rfl ?_
        refine zj_iadd hC dX8_lay_41 ?_
        refine zj_iload_n 3 hC dX8_lay_42 rfl ?_
        obtain ⟨r11, g12, hq13, hf⟩ := z_bindE hf
        refine zj_callVi [.int ((a1 * 8) + a0), .int a2] hC (cM_X8_lays l dC dI ca q Zt hZt ((a1 * 8) + a0) a2 g7 r11 g12 hq13) gX8_lay_X8_lays rfl nM_X8_lays ⟨Nat.le_of_ble_eq_true rfl, Nat.le_of_ble_eq_true rfl⟩ 0 mo_0 rfl rfl rfl (Nat.le_of_ble_eq_true rfl) dX8_lay_43 rfl ?_
        exact zj_ireturn hC hf dX8_lay_46
      · have hf := z_iteF hf c10
        exact zj_sub hC [] rfl (hJ33 g7 hf)

def fM_X8_layRow_46  (g : z_G) : Option (Int32 × z_G) := some ((-1), g)
def fM_X8_layRow_113 (k65 : Int32 × Int32 × Int32 × Int32 × Int32 × Int32 × z_G → Option (Int32 × z_G)) (s0 : Int32) (x1 : Int32) (x2 : Int32) (x3 : Int32) (x4 : Int32) (x5 : Int32) (x6 : Int32) (g : z_G) : Option (Int32 × z_G) := z_bind (fM_X8_in ((s0 : Int32).toInt64) 0 3 g) (fun r1 g2 => (if r1 = 0 then some (x6, g2) else z_bind (fM_X8_lays ((x1 * 8) + x6) s0 g2) (fun r5 g6 => z_let (x6 + 1) (fun y8 => k65 (x1, x2, x3, x4, x5, y8, g6)))))
def fM_X8_layRow_152 (x6 : Int32) (g : z_G) : Option (Int32 × z_G) := some (x6, g)
def fM_X8_layRow_65 (k65 : Int32 × Int32 × Int32 × Int32 × Int32 × Int32 × z_G → Option (Int32 × z_G)) (x1 : Int32) (x2 : Int32) (x3 : Int32) (x4 : Int32) (x5 : Int32) (x6 : Int32) (g : z_G) : Option (Int32 × z_G) := (if x3 ≤ x6 then fM_X8_layRow_152 x6 g else (if (g 0 1) ≤ x6 then fM_X8_layRow_152 x6 g else z_let (x4 + (x6 * x5)) (fun y11 => (if x2 = 0 then fM_X8_layRow_113 k65 ((y11 : Int32).toInt8.toInt32) x1 x2 x3 x4 x5 x6 g else (if x2 = 1 then fM_X8_layRow_113 k65 ((y11 : Int32).toInt16.toInt32) x1 x2 x3 x4 x5 x6 g else fM_X8_layRow_113 k65 y11 x1 x2 x3 x4 x5 x6 g)))))
def fM_X8_layRow_65_go (x1 : Int32) (x2 : Int32) (x3 : Int32) (x4 : Int32) (x5 : Int32) (x6 : Int32) (g : z_G) : Option (Int32 × z_G) := z_loop (fun k (w : Int32 × Int32 × Int32 × Int32 × Int32 × Int32 × z_G) => fM_X8_layRow_65 k w.1 w.2.1 w.2.2.1 w.2.2.2.1 w.2.2.2.2.1 w.2.2.2.2.2.1 w.2.2.2.2.2.2) z_fuel (x1, x2, x3, x4, x5, x6, g)
def fM_X8_layRow (a0 : Int32) (a1 : Int32) (a2 : Int32) (a3 : Int32) (a4 : Int32) (g : z_G) : Option (Int32 × z_G) := z_let (z_up g 0 0 0) (fun g14 => z_bind (fM_X8_in ((a0 : Int32).toInt64) 0 (((g14 0 2) - 1 : Int32).toInt64) g14) (fun r15 g16 => (if r15 = 0 then fM_X8_layRow_46 g16 else z_bind (fM_X8_in ((a1 : Int32).toInt64) 0 3 g16) (fun r19 g20 => (if r19 = 0 then fM_X8_layRow_46 g20 else (if 20 < a2 then fM_X8_layRow_46 g20 else (if (g20 0 20) = 0 then (if a1 = 3 then some (0, g20) else (if 0 ≤ a2 then fM_X8_layRow_65_go a0 a1 a2 a3 a4 0 g20 else some ((-2), g20))) else fM_X8_layRow_46 g20)))))))
theorem nM_X8_layRow : yX8_layRow.cls = RX8 ∧ yX8_layRow.cls ≠ "java/lang/invoke/MethodHandle" ∧ yX8_layRow.cls ≠ "java/lang/invoke/VarHandle" ∧ (parseMethodDescriptor yX8_layRow.desc).map (fun d => d.parameters.length) = some 5 := by decide +kernel
set_option maxRecDepth 100000 in
set_option maxHeartbeats 4000000 in
theorem cM_X8_layRow (l : Launch) (dC : Nat → ClassId) (dI : Nat → Nat → Nat) (ca : Nat → ClassId) (q : Nat → Nat) (Zt : z_ZT) (hZt : z_Zok Zt) (a0 : Int32) (a1 : Int32) (a2 : Int32) (a3 : Int32) (a4 : Int32) (g : z_G) (r : Int32) (g' : z_G) (hf : fM_X8_layRow a0 a1 a2 a3 a4 g = some (r, g')) : z_C l yX8_layRow wsX8_layRow { frames := 2, cells := 0, slots := 0, locals := 42 } (dC, dI) (tyM ca) (wM ca q) Zt [.ref (q 0), .int a0, .int a1, .int a2, .int a3, .int a4] g (some r) g' := by
  refine z_enter (wM_ok ca q) hZt (by decide +kernel) rfl (Nat.le_of_ble_eq_true rfl) (fun J hC => ?_)
  have hC : z_Cx J l cX8_layRow 9 wsX8_layRow RX8 (some .int) { frames := 2, cells := 0, slots := 0, locals := 42 } (dC, dI) (tyM ca) (wM ca q) Zt (z_QI (dC, dI) (tyM ca) (wM ca q) (some r) g') z_X0 := hC
  show J 0 [(0, .ref (q 0)), (1, .int a0), (2, .int a1), (3, .int a2), (4, .int a3), (5, .int a4)] [] g
  have hX8 : ∀ w ∈ wsX80, w ∈ wsX8_layRow := fun _ h => List.mem_cons_of_mem _ (List.mem_append_right _ (h))
  have hJ46 : ∀ (g : z_G), fM_X8_layRow_46 g = some (r, g') → J 46 [] [] g := by
    intro g hf
    unfold fM_X8_layRow_46 at hf
    refine zj_iconst (v := (-1)) hC dX8_layRow_46 (by decide) ?_
    exact zj_ireturn hC hf dX8_layRow_47
  have hJ113 : ∀ (k65 : Int32 × Int32 × Int32 × Int32 × Int32 × Int32 × z_G → Option (Int32 × z_G)) (_ : ∀ w : Int32 × Int32 × Int32 × Int32 × Int32 × Int32 × z_G, k65 w = some (r, g') → J 65 [(0, .ref (q 0)), (1, .int w.1), (2, .int w.2.1), (3, .int w.2.2.1), (4, .int w.2.2.2.1), (5, .int w.2.2.2.2.1), (6, .int w.2.2.2.2.2.1)] [] w.2.2.2.2.2.2) (s0 : Int32) (x1 : Int32) (x2 : Int32) (x3 : Int32) (x4 : Int32) (x5 : Int32) (x6 : Int32) (g : z_G), fM_X8_layRow_113 k65 s0 x1 x2 x3 x4 x5 x6 g = some (r, g') → J 113 [(0, .ref (q 0)), (1, .int x1), (2, .int x2), (3, .int x3), (4, .int x4), (5, .int x5), (6, .int x6)] [.int s0] g := by
    intro k65 hk65 s0 x1 x2 x3 x4 x5 x6 g hf
    unfold fM_X8_layRow_113 at hf
    refine zj_istore (lv1 := [(7, .int s0), (0, .ref (q 0)), (1, .int x1), (2, .int x2), (3, .int x3), (4, .int x4), (5, .int x5), (6, .int x6)]) hC dX8_layRow_113 (by decide) rfl ?_
    refine zj_iload 0 hC dX8_layRow_115 rfl ?_
    refine zj_i2l hC dX8_layRow_117 ?_
    refine zj_lconst (v := 0) hC dX8_layRow_118 (by decide) ?_
    refine zj_ldc2 (v := 3) hC (List.mem_of_getElem? (i := 3) rfl) dX8_layRow_119 ?_
    obtain ⟨r1, g2, hq3, hf⟩ := z_bindE hf
    refine zj_callSi [.long ((s0 : Int32).toInt64), .long 0, .long 3] hC (cM_X8_in l dC dI ca q Zt hZt ((s0 : Int32).toInt64) 0 3 g r1 g2 hq3) gX8_layRow_X8_in rfl nM_X8_in ⟨Nat.le_of_ble_eq_true rfl, Nat.le_of_ble_eq_true rfl⟩ rfl (Nat.le_of_ble_eq_true rfl) dX8_layRow_122 rfl ?_
    refine zj_if_ne 131 hC dX8_layRow_125 (by decide) (fun c4 => ?_) (fun c4 => ?_)
    · have hf := z_iteF hf c4
      refine zj_aload_n 1 hC dX8_layRow_131 rfl ?_
      refine zj_iload_n 2 hC dX8_layRow_132 rfl ?_
      refine zj_bipush (v := 8) hC dX8_layRow_133 (by decide) ?_
      refine zj_imul hC dX8_layRow_135 ?_
      refine zj_iload 7 hC dX8_layRow_136 rfl ?_
      refine zj_iadd hC dX8_layRow_138 ?_
      refine zj_iload 0 hC dX8_layRow_139 rfl ?_
      obtain ⟨r5, g6, hq7, hf⟩ := z_bindE hf
      refine zj_callVi [.int ((x1 * 8) + x6), .int s0] hC (cM_X8_lays l dC dI ca q Zt hZt ((x1 * 8) + x6) s0 g2 r5 g6 hq7) gX8_layRow_X8_lays rfl nM_X8_lays ⟨Nat.le_of_ble_eq_true rfl, Nat.le_of_ble_eq_true rfl⟩ 0 mo_0 rfl rfl rfl (Nat.le_of_ble_eq_true rfl) dX8_layRow_141 rfl ?_
      refine zj_istore (lv1 := [(8, .int r5), (7, .int s0), (0, .ref (q 0)), (1, .int x1), (2, .int x2), (3, .int x3), (4, .int x4), (5, .int x5), (6, .int x6)]) hC dX8_layRow_144 (by decide) rfl ?_
      refine zj_iinc (lv1 := fun v => [(6, .int v), (8, .int r5), (7, .int s0), (0, .ref (q 0)), (1, .int x1), (2, .int x2), (3, .int x3), (4, .int x4), (5, .int x5)]) 8 hC dX8_layRow_146 rfl (by decide) (fun _ => rfl) (fun y8 ey8 => ?_)
      have hf := z_letE hf (show y8 = x6 + 1 from ey8)
      refine zj_goto 65 hC dX8_layRow_149 (by decide) ?_
      exact zj_sub hC [3, 4, 5, 6, 7, 8, 0] rfl (hk65 (x1, x2, x3, x4, x5, y8, g6) hf)
    · have hf := z_iteT hf c4
      refine zj_iload 7 hC dX8_layRow_128 rfl ?_
      exact zj_ireturn hC hf dX8_layRow_130
  have hJ152 : ∀ (x6 : Int32) (g : z_G), fM_X8_layRow_152 x6 g = some (r, g') → J 152 [(6, .int x6)] [] g := by
    intro x6 g hf
    unfold fM_X8_layRow_152 at hf
    refine zj_iload 0 hC dX8_layRow_152 rfl ?_
    exact zj_ireturn hC hf dX8_layRow_154
  have hJ65 : ∀ (x1 : Int32) (x2 : Int32) (x3 : Int32) (x4 : Int32) (x5 : Int32) (x6 : Int32) (g : z_G), fM_X8_layRow_65_go x1 x2 x3 x4 x5 x6 g = some (r, g') → J 65 [(0, .ref (q 0)), (1, .int x1), (2, .int x2), (3, .int x3), (4, .int x4), (5, .int x5), (6, .int x6)] [] g := by
    intro x1 x2 x3 x4 x5 x6 g hf
    refine z_loopE (P := fun w : Int32 × Int32 × Int32 × Int32 × Int32 × Int32 × z_G => J 65 [(0, .ref (q 0)), (1, .int w.1), (2, .int w.2.1), (3, .int w.2.2.1), (4, .int w.2.2.2.1), (5, .int w.2.2.2.2.1), (6, .int w.2.2.2.2.2.1)] [] w.2.2.2.2.2.2) (fun k65 hk65 w hf => ?_) z_fuel (x1, x2, x3, x4, x5, x6, g) hf
    obtain ⟨x1, x2, x3, x4, x5, x6, g⟩ := w
    have hf : fM_X8_layRow_65 k65 x1 x2 x3 x4 x5 x6 g = some (r, g') := hf
    show J 65 [(0, .ref (q 0)), (1, .int x1), (2, .int x2), (3, .int x3), (4, .int x4), (5, .int x5), (6, .int x6)] [] g
    unfold fM_X8_layRow_65 at hf
    refine zj_iload 6 hC dX8_layRow_65 rfl ?_
    refine zj_iload_n 3 hC dX8_layRow_67 rfl ?_
    refine zj_icmp_ge 152 hC dX8_layRow_68 (by decide) (fun c9 => ?_) (fun c9 => ?_)
    · have hf := z_iteT hf c9
      exact zj_sub hC [6] rfl (hJ152 x6 g hf)
    · have hf := z_iteF hf c9
      refine zj_iload 6 hC dX8_layRow_71 rfl ?_
      refine zj_aload_n 0 hC dX8_layRow_73 rfl ?_
      refine mg_0_1 hC hX8 (List.mem_of_getElem? (i := 5) rfl) dX8_layRow_74 ?_
      refine zj_icmp_ge 152 hC dX8_layRow_77 (by decide) (fun c10 => ?_) (fun c10 => ?_)
      · have hf := z_iteT hf c10
        exact zj_sub hC [6] rfl (hJ152 x6 g hf)
      · have hf := z_iteF hf c10
        refine zj_iload 4 hC dX8_layRow_80 rfl ?_
        refine zj_iload 6 hC dX8_layRow_82 rfl ?_
        refine zj_iload 5 hC dX8_layRow_84 rfl ?_
        refine zj_imul hC dX8_layRow_86 ?_
        refine zj_iadd hC dX8_layRow_87 ?_
        refine zj_top (fun y11 ey11 => ?_)
        have hf := z_letE hf ey11
        refine zj_istore (lv1 := [(7, .int y11), (0, .ref (q 0)), (1, .int x1), (2, .int x2), (3, .int x3), (4, .int x4), (5, .int x5), (6, .int x6)]) hC dX8_layRow_88 (by decide) rfl ?_
        refine zj_iload_n 3 hC dX8_layRow_90 rfl ?_
        refine zj_if_ne 100 hC dX8_layRow_91 (by decide) (fun c12 => ?_) (fun c12 => ?_)
        · have hf := z_iteF hf c12
          refine zj_iload_n 3 hC dX8_layRow_100 rfl ?_
          refine zj_iconst (v := 1) hC dX8_layRow_101 (by decide) ?_
          refine zj_icmp_ne 111 hC dX8_layRow_102 (by decide) (fun c13 => ?_) (fun c13 => ?_)
          · have hf := z_iteF hf c13
            refine zj_iload 0 hC dX8_layRow_111 rfl ?_
            exact zj_sub hC [1, 2, 3, 4, 5, 6, 7] rfl (hJ113 k65 hk65 y11 x1 x2 x3 x4 x5 x6 g hf)
          · have hf := z_iteT hf c13
            refine zj_iload 0 hC dX8_layRow_105 rfl ?_
            refine zj_i2s hC dX8_layRow_107 ?_
            refine zj_goto 113 hC dX8_layRow_108 (by decide) ?_
            exact zj_sub hC [1, 2, 3, 4, 5, 6, 7] rfl (hJ113 k65 hk65 ((y11 : Int32).toInt16.toInt32) x1 x2 x3 x4 x5 x6 g hf)
        · have hf := z_iteT hf c12
          refine zj_iload 0 hC dX8_layRow_94 rfl ?_
          refine zj_i2b hC dX8_layRow_96 ?_
          refine zj_goto 113 hC dX8_layRow_97 (by decide) ?_
          exact zj_sub hC [1, 2, 3, 4, 5, 6, 7] rfl (hJ113 k65 hk65 ((y11 : Int32).toInt8.toInt32) x1 x2 x3 x4 x5 x6 g hf)
  unfold fM_X8_layRow at hf
  refine zj_aload_n 0 hC dX8_layRow_0 rfl ?_
  refine zj_iconst (v := 0) hC dX8_layRow_1 (by decide) ?_
  refine mp_0_0 hC hX8 (List.mem_of_getElem? (i := 1) rfl) dX8_layRow_2 (fun g14 eg14 => ?_)
  have hf := z_letE hf eg14
  refine zj_iload_n 1 hC dX8_layRow_5 rfl ?_
  refine zj_i2l hC dX8_layRow_6 ?_
  refine zj_lconst (v := 0) hC dX8_layRow_7 (by decide) ?_
  refine zj_aload_n 0 hC dX8_layRow_8 rfl ?_
  refine mg_0_2 hC hX8 (List.mem_of_getElem? (i := 2) rfl) dX8_layRow_9 ?_
  refine zj_iconst (v := 1) hC dX8_layRow_12 (by decide) ?_
  refine zj_isub hC dX8_layRow_13 ?_
  refine zj_i2l hC dX8_layRow_14 ?_
  obtain ⟨r15, g16, hq17, hf⟩ := z_bindE hf
  refine zj_callSi [.long ((a0 : Int32).toInt64), .long 0, .long (((g14 0 2) - 1 : Int32).toInt64)] hC (cM_X8_in l dC dI ca q Zt hZt ((a0 : Int32).toInt64) 0 (((g14 0 2) - 1 : Int32).toInt64) g14 r15 g16 hq17) gX8_layRow_X8_in rfl nM_X8_in ⟨Nat.le_of_ble_eq_true rfl, Nat.le_of_ble_eq_true rfl⟩ rfl (Nat.le_of_ble_eq_true rfl) dX8_layRow_15 rfl ?_
  refine zj_if_eq 46 hC dX8_layRow_18 (by decide) (fun c18 => ?_) (fun c18 => ?_)
  · have hf := z_iteT hf c18
    exact zj_sub hC [] rfl (hJ46 g16 hf)
  · have hf := z_iteF hf c18
    refine zj_iload_n 2 hC dX8_layRow_21 rfl ?_
    refine zj_i2l hC dX8_layRow_22 ?_
    refine zj_lconst (v := 0) hC dX8_layRow_23 (by decide) ?_
    refine zj_ldc2 (v := 3) hC (List.mem_of_getElem? (i := 3) rfl) dX8_layRow_24 ?_
    obtain ⟨r19, g20, hq21, hf⟩ := z_bindE hf
    refine zj_callSi [.long ((a1 : Int32).toInt64), .long 0, .long 3] hC (cM_X8_in l dC dI ca q Zt hZt ((a1 : Int32).toInt64) 0 3 g16 r19 g20 hq21) gX8_layRow_X8_in rfl nM_X8_in ⟨Nat.le_of_ble_eq_true rfl, Nat.le_of_ble_eq_true rfl⟩ rfl (Nat.le_of_ble_eq_true rfl) dX8_layRow_27 rfl ?_
    refine zj_if_eq 46 hC dX8_layRow_30 (by decide) (fun c22 => ?_) (fun c22 => ?_)
    · have hf := z_iteT hf c22
      exact zj_sub hC [] rfl (hJ46 g20 hf)
    · have hf := z_iteF hf c22
      refine zj_iload_n 3 hC dX8_layRow_33 rfl ?_
      refine zj_bipush (v := 20) hC dX8_layRow_34 (by decide) ?_
      refine zj_icmp_gt 46 hC dX8_layRow_36 (by decide) (fun c23 => ?_) (fun c23 => ?_)
      · have hf := z_iteT hf c23
        exact zj_sub hC [] rfl (hJ46 g20 hf)
      · have hf := z_iteF hf c23
        refine zj_aload_n 0 hC dX8_layRow_39 rfl ?_
        refine mg_0_20 hC hX8 (List.mem_of_getElem? (i := 4) rfl) dX8_layRow_40 ?_
        refine zj_if_eq 48 hC dX8_layRow_43 (by decide) (fun c24 => ?_) (fun c24 => ?_)
        · have hf := z_iteT hf c24
          refine zj_iload_n 2 hC dX8_layRow_48 rfl ?_
          refine zj_iconst (v := 3) hC dX8_layRow_49 (by decide) ?_
          refine zj_icmp_ne 55 hC dX8_layRow_50 (by decide) (fun c25 => ?_) (fun c25 => ?_)
          · have hf := z_iteF hf c25
            refine zj_iload_n 3 hC dX8_layRow_55 rfl ?_
            refine zj_if_ge 62 hC dX8_layRow_56 (by decide) (fun c26 => ?_) (fun c26 => ?_)
            · have hf := z_iteT hf c26
              refine zj_iconst (v := 0) hC dX8_layRow_62 (by decide) ?_
              refine zj_istore (lv1 := [(6, .int 0), (0, .ref (q 0)), (1, .int a0), (2, .int a1), (3, .int a2), (4, .int a3), (5, .int a4)]) hC dX8_layRow_63 (by decide) rfl ?_
              exact zj_sub hC [1, 2, 3, 4, 5, 6, 0] rfl (hJ65 a0 a1 a2 a3 a4 0 g20 hf)
            · have hf := z_iteF hf c26
              refine zj_bipush (v := (-2)) hC dX8_layRow_59 (by decide) ?_
              exact zj_ireturn hC hf dX8_layRow_61
          · have hf := z_iteT hf c25
            refine zj_iconst (v := 0) hC dX8_layRow_53 (by decide) ?_
            exact zj_ireturn hC hf dX8_layRow_54
        · have hf := z_iteF hf c24
          exact zj_sub hC [] rfl (hJ46 g20 hf)

def fM_X8_hole_43  (g : z_G) : Option (Int32 × z_G) := some ((-1), g)
def fM_X8_hole (a0 : Int32) (a1 : Int32) (g : z_G) : Option (Int32 × z_G) := z_let (z_up g 0 0 0) (fun g1 => z_bind (fM_X8_isCell a0 a1 g1) (fun r2 g3 => (if r2 = 0 then fM_X8_hole_43 g3 else z_bind (fM_X8_isOutside ((a1 * 8) + a0) g3) (fun r6 g7 => (if r6 = 0 then fM_X8_hole_43 g7 else (if (g7 0 13) = 12 then fM_X8_hole_43 g7 else (if (g7 0 20) = 0 then z_ck (g7 0 13) 12 (z_let (z_up g7 11 (Int32.toNatClampNeg (g7 0 13)) ((a1 * 8) + a0)) (fun g13 => z_ck (g13 0 13) 12 (z_let (z_up g13 12 (Int32.toNatClampNeg (g13 0 13)) (vp_nar .boolean 0)) (fun g15 => z_let (z_up g15 0 13 ((g15 0 13) + 1)) (fun g16 => some ((g16 0 13) - 1, g16)))))) else fM_X8_hole_43 g7)))))))
theorem nM_X8_hole : yX8_hole.cls = RX8 ∧ yX8_hole.cls ≠ "java/lang/invoke/MethodHandle" ∧ yX8_hole.cls ≠ "java/lang/invoke/VarHandle" ∧ (parseMethodDescriptor yX8_hole.desc).map (fun d => d.parameters.length) = some 2 := by decide +kernel
set_option maxRecDepth 100000 in
set_option maxHeartbeats 4000000 in
theorem cM_X8_hole (l : Launch) (dC : Nat → ClassId) (dI : Nat → Nat → Nat) (ca : Nat → ClassId) (q : Nat → Nat) (Zt : z_ZT) (hZt : z_Zok Zt) (a0 : Int32) (a1 : Int32) (g : z_G) (r : Int32) (g' : z_G) (hf : fM_X8_hole a0 a1 g = some (r, g')) : z_C l yX8_hole wsX8_hole { frames := 2, cells := 0, slots := 0, locals := 47 } (dC, dI) (tyM ca) (wM ca q) Zt [.ref (q 0), .int a0, .int a1] g (some r) g' := by
  refine z_enter (wM_ok ca q) hZt (by decide +kernel) rfl (Nat.le_of_ble_eq_true rfl) (fun J hC => ?_)
  have hC : z_Cx J l cX8_hole 3 wsX8_hole RX8 (some .int) { frames := 2, cells := 0, slots := 0, locals := 47 } (dC, dI) (tyM ca) (wM ca q) Zt (z_QI (dC, dI) (tyM ca) (wM ca q) (some r) g') z_X0 := hC
  show J 0 [(0, .ref (q 0)), (1, .int a0), (2, .int a1)] [] g
  have hX8 : ∀ w ∈ wsX80, w ∈ wsX8_hole := fun _ h => List.mem_cons_of_mem _ (List.mem_append_right _ (h))
  have hJ43 : ∀ (g : z_G), fM_X8_hole_43 g = some (r, g') → J 43 [] [] g := by
    intro g hf
    unfold fM_X8_hole_43 at hf
    refine zj_iconst (v := (-1)) hC dX8_hole_43 (by decide) ?_
    exact zj_ireturn hC hf dX8_hole_44
  unfold fM_X8_hole at hf
  refine zj_aload_n 0 hC dX8_hole_0 rfl ?_
  refine zj_iconst (v := 0) hC dX8_hole_1 (by decide) ?_
  refine mp_0_0 hC hX8 (List.mem_of_getElem? (i := 1) rfl) dX8_hole_2 (fun g1 eg1 => ?_)
  have hf := z_letE hf eg1
  refine zj_aload_n 0 hC dX8_hole_5 rfl ?_
  refine zj_iload_n 1 hC dX8_hole_6 rfl ?_
  refine zj_iload_n 2 hC dX8_hole_7 rfl ?_
  obtain ⟨r2, g3, hq4, hf⟩ := z_bindE hf
  refine zj_callVi [.int a0, .int a1] hC (cM_X8_isCell l dC dI ca q Zt hZt a0 a1 g1 r2 g3 hq4) gX8_hole_X8_isCell rfl nM_X8_isCell ⟨Nat.le_of_ble_eq_true rfl, Nat.le_of_ble_eq_true rfl⟩ 0 mo_0 rfl rfl rfl (Nat.le_of_ble_eq_true rfl) dX8_hole_8 rfl ?_
  refine zj_if_eq 43 hC dX8_hole_11 (by decide) (fun c5 => ?_) (fun c5 => ?_)
  · have hf := z_iteT hf c5
    exact zj_sub hC [] rfl (hJ43 g3 hf)
  · have hf := z_iteF hf c5
    refine zj_aload_n 0 hC dX8_hole_14 rfl ?_
    refine zj_iload_n 2 hC dX8_hole_15 rfl ?_
    refine zj_bipush (v := 8) hC dX8_hole_16 (by decide) ?_
    refine zj_imul hC dX8_hole_18 ?_
    refine zj_iload_n 1 hC dX8_hole_19 rfl ?_
    refine zj_iadd hC dX8_hole_20 ?_
    obtain ⟨r6, g7, hq8, hf⟩ := z_bindE hf
    refine zj_callVi [.int ((a1 * 8) + a0)] hC (cM_X8_isOutside l dC dI ca q Zt hZt ((a1 * 8) + a0) g3 r6 g7 hq8) gX8_hole_X8_isOutside rfl nM_X8_isOutside ⟨Nat.le_of_ble_eq_true rfl, Nat.le_of_ble_eq_true rfl⟩ 0 mo_0 rfl rfl rfl (Nat.le_of_ble_eq_true rfl) dX8_hole_21 rfl ?_
    refine zj_if_eq 43 hC dX8_hole_24 (by decide) (fun c9 => ?_) (fun c9 => ?_)
    · have hf := z_iteT hf c9
      exact zj_sub hC [] rfl (hJ43 g7 hf)
    · have hf := z_iteF hf c9
      refine zj_aload_n 0 hC dX8_hole_27 rfl ?_
      refine mg_0_13 hC hX8 (List.mem_of_getElem? (i := 2) rfl) dX8_hole_28 ?_
      refine zj_bipush (v := 12) hC dX8_hole_31 (by decide) ?_
      refine zj_icmp_eq 43 hC dX8_hole_33 (by decide) (fun c10 => ?_) (fun c10 => ?_)
      · have hf := z_iteT hf c10
        exact zj_sub hC [] rfl (hJ43 g7 hf)
      · have hf := z_iteF hf c10
        refine zj_aload_n 0 hC dX8_hole_36 rfl ?_
        refine mg_0_20 hC hX8 (List.mem_of_getElem? (i := 3) rfl) dX8_hole_37 ?_
        refine zj_if_eq 45 hC dX8_hole_40 (by decide) (fun c11 => ?_) (fun c11 => ?_)
        · have hf := z_iteT hf c11
          refine zj_aload_n 0 hC dX8_hole_45 rfl ?_
          refine mg_0_14 hC hX8 (List.mem_of_getElem? (i := 4) rfl) dX8_hole_46 ?_
          refine zj_aload_n 0 hC dX8_hole_49 rfl ?_
          refine mg_0_13 hC hX8 (List.mem_of_getElem? (i := 2) rfl) dX8_hole_50 ?_
          refine zj_iload_n 2 hC dX8_hole_53 rfl ?_
          refine zj_bipush (v := 8) hC dX8_hole_54 (by decide) ?_
          refine zj_imul hC dX8_hole_56 ?_
          refine zj_iload_n 1 hC dX8_hole_57 rfl ?_
          refine zj_iadd hC dX8_hole_58 ?_
          obtain ⟨hq12, hf⟩ := z_ckE hf
          refine ms_11 hC hq12 dX8_hole_59 (fun g13 eg13 => ?_)
          have hf := z_letE hf eg13
          refine zj_aload_n 0 hC dX8_hole_60 rfl ?_
          refine mg_0_15 hC hX8 (List.mem_of_getElem? (i := 5) rfl) dX8_hole_61 ?_
          refine zj_aload_n 0 hC dX8_hole_64 rfl ?_
          refine mg_0_13 hC hX8 (List.mem_of_getElem? (i := 2) rfl) dX8_hole_65 ?_
          refine zj_iconst (v := 0) hC dX8_hole_68 (by decide) ?_
          obtain ⟨hq14, hf⟩ := z_ckE hf
          refine ms_12 hC hq14 dX8_hole_69 (fun g15 eg15 => ?_)
          have hf := z_letE hf eg15
          refine zj_aload_n 0 hC dX8_hole_70 rfl ?_
          refine zj_dup hC dX8_hole_71 rfl ?_
          refine mg_0_13 hC hX8 (List.mem_of_getElem? (i := 2) rfl) dX8_hole_72 ?_
          refine zj_iconst (v := 1) hC dX8_hole_75 (by decide) ?_
          refine zj_iadd hC dX8_hole_76 ?_
          refine mp_0_13 hC hX8 (List.mem_of_getElem? (i := 2) rfl) dX8_hole_77 (fun g16 eg16 => ?_)
          have hf := z_letE hf eg16
          refine zj_aload_n 0 hC dX8_hole_80 rfl ?_
          refine mg_0_13 hC hX8 (List.mem_of_getElem? (i := 2) rfl) dX8_hole_81 ?_
          refine zj_iconst (v := 1) hC dX8_hole_84 (by decide) ?_
          refine zj_isub hC dX8_hole_85 ?_
          exact zj_ireturn hC hf dX8_hole_86
        · have hf := z_iteF hf c11
          exact zj_sub hC [] rfl (hJ43 g7 hf)

def fM_X8_lights (g : z_G) : Option (Int32 × z_G) := z_let (z_up g 0 20 1) (fun g1 => z_let (z_up g1 0 21 0) (fun g2 => z_let (z_up g2 0 22 0) (fun g3 => z_let (z_up g3 0 23 0) (fun g4 => z_ck 0 64 (z_let (z_up g4 5 (Int32.toNatClampNeg 0) (vp_nar .boolean 1)) (fun g6 => z_ck 0 64 (z_let (z_up g6 4 (Int32.toNatClampNeg 0) 500) (fun g8 => some (0, g8)))))))))
theorem nM_X8_lights : yX8_lights.cls = RX8 ∧ yX8_lights.cls ≠ "java/lang/invoke/MethodHandle" ∧ yX8_lights.cls ≠ "java/lang/invoke/VarHandle" ∧ (parseMethodDescriptor yX8_lights.desc).map (fun d => d.parameters.length) = some 0 := by decide +kernel
set_option maxRecDepth 100000 in
set_option maxHeartbeats 4000000 in
theorem cM_X8_lights (l : Launch) (dC : Nat → ClassId) (dI : Nat → Nat → Nat) (ca : Nat → ClassId) (q : Nat → Nat) (Zt : z_ZT) (hZt : z_Zok Zt) (g : z_G) (r : Int32) (g' : z_G) (hf : fM_X8_lights g = some (r, g')) : z_C l yX8_lights wsX8_lights { frames := 0, cells := 0, slots := 0, locals := 0 } (dC, dI) (tyM ca) (wM ca q) Zt [.ref (q 0)] g none g' := by
  refine z_enter (wM_ok ca q) hZt (by decide +kernel) rfl (Nat.le_of_ble_eq_true rfl) (fun J hC => ?_)
  have hC : z_Cx J l cX8_lights 1 wsX8_lights RX8 none { frames := 0, cells := 0, slots := 0, locals := 0 } (dC, dI) (tyM ca) (wM ca q) Zt (z_QI (dC, dI) (tyM ca) (wM ca q) none g') z_X0 := hC
  show J 0 [(0, .ref (q 0))] [] g
  have hX8 : ∀ w ∈ wsX80, w ∈ wsX8_lights := fun _ h => List.mem_cons_of_mem _ (List.mem_append_right _ (h))
  unfold fM_X8_lights at hf
  refine zj_aload_n 0 hC dX8_lights_0 rfl ?_
  refine zj_iconst (v := 1) hC dX8_lights_1 (by decide) ?_
  refine mp_0_20 hC hX8 (List.mem_of_getElem? (i := 1) rfl) (by decide) dX8_lights_2 (fun g1 eg1 => ?_)
  have hf := z_letE hf eg1
  refine zj_aload_n 0 hC dX8_lights_5 rfl ?_
  refine zj_iconst (v := 0) hC dX8_lights_6 (by decide) ?_
  refine mp_0_21 hC hX8 (List.mem_of_getElem? (i := 2) rfl) dX8_lights_7 (fun g2 eg2 => ?_)
  have hf := z_letE hf eg2
  refine zj_aload_n 0 hC dX8_lights_10 rfl ?_
  refine zj_iconst (v := 0) hC dX8_lights_11 (by decide) ?_
  refine mp_0_22 hC hX8 (List.mem_of_getElem? (i := 3) rfl) dX8_lights_12 (fun g3 eg3 => ?_)
  have hf := z_letE hf eg3
  refine zj_aload_n 0 hC dX8_lights_15 rfl ?_
  refine zj_iconst (v := 0) hC dX8_lights_16 (by decide) ?_
  refine mp_0_23 hC hX8 (List.mem_of_getElem? (i := 4) rfl) dX8_lights_17 (fun g4 eg4 => ?_)
  have hf := z_letE hf eg4
  refine zj_aload_n 0 hC dX8_lights_20 rfl ?_
  refine mg_0_7 hC hX8 (List.mem_of_getElem? (i := 5) rfl) dX8_lights_21 ?_
  refine zj_iconst (v := 0) hC dX8_lights_24 (by decide) ?_
  refine zj_iconst (v := 1) hC dX8_lights_25 (by decide) ?_
  obtain ⟨hq5, hf⟩ := z_ckE hf
  refine ms_5 hC hq5 dX8_lights_26 (fun g6 eg6 => ?_)
  have hf := z_letE hf eg6
  refine zj_aload_n 0 hC dX8_lights_27 rfl ?_
  refine mg_0_6 hC hX8 (List.mem_of_getElem? (i := 6) rfl) dX8_lights_28 ?_
  refine zj_iconst (v := 0) hC dX8_lights_31 (by decide) ?_
  refine zj_sipush (v := 500) hC dX8_lights_32 (by decide) ?_
  obtain ⟨hq7, hf⟩ := z_ckE hf
  refine ms_4 hC hq7 dX8_lights_35 (fun g8 eg8 => ?_)
  have hf := z_letE hf eg8
  exact zj_vreturn hC hf dX8_lights_36

def fM_X8_light_21  (g : z_G) : Option (Int32 × z_G) := z_bo 0 (some (0, g))
def fM_X8_light_108 (k108 : Int32 × z_G → Option (Int32 × z_G)) (x1 : Int32) (g : z_G) : Option (Int32 × z_G) := (if (g 0 42) ≤ x1 then z_bind (fM_X8_lights g) (fun r2 g3 => z_bo 1 (some (1, g3))) else z_ck x1 8 (z_let (z_up g 31 (Int32.toNatClampNeg x1) 0) (fun g6 => z_let (x1 + 1) (fun y7 => k108 (y7, g6)))))
def fM_X8_light_108_go (x1 : Int32) (g : z_G) : Option (Int32 × z_G) := z_loop (fun k (w : Int32 × z_G) => fM_X8_light_108 k w.1 w.2) z_fuel (x1, g)
def fM_X8_light_75 (k75 : Int32 × z_G → Option (Int32 × z_G)) (x1 : Int32) (g : z_G) : Option (Int32 × z_G) := (if (g 0 13) ≤ x1 then z_let (z_up g 0 26 0) (fun g9 => fM_X8_light_108_go 0 g9) else z_ck x1 12 (z_ck x1 12 (z_let (z_up g 16 (Int32.toNatClampNeg x1) (vp_nar .boolean (g 12 (Int32.toNatClampNeg x1)))) (fun g12 => z_let (x1 + 1) (fun y13 => k75 (y13, g12))))))
def fM_X8_light_75_go (x1 : Int32) (g : z_G) : Option (Int32 × z_G) := z_loop (fun k (w : Int32 × z_G) => fM_X8_light_75 k w.1 w.2) z_fuel (x1, g)
def fM_X8_light_25 (k25 : Int32 × z_G → Option (Int32 × z_G)) (x1 : Int32) (g : z_G) : Option (Int32 × z_G) := (if 64 ≤ x1 then fM_X8_light_75_go 0 g else z_ck x1 64 (z_ck x1 64 (z_let (z_up g 13 (Int32.toNatClampNeg x1) (g 1 (Int32.toNatClampNeg x1))) (fun g17 => z_ck x1 64 (z_ck x1 64 (z_let (z_up g17 14 (Int32.toNatClampNeg x1) (g17 3 (Int32.toNatClampNeg x1))) (fun g20 => z_ck x1 64 (z_ck x1 64 (z_let (z_up g20 15 (Int32.toNatClampNeg x1) (g20 8 (Int32.toNatClampNeg x1))) (fun g23 => z_let (x1 + 1) (fun y24 => k25 (y24, g23))))))))))))
def fM_X8_light_25_go (x1 : Int32) (g : z_G) : Option (Int32 × z_G) := z_loop (fun k (w : Int32 × z_G) => fM_X8_light_25 k w.1 w.2) z_fuel (x1, g)
def fM_X8_light (g : z_G) : Option (Int32 × z_G) := z_let (z_up g 0 0 0) (fun g25 => (if (g25 0 20) = 0 then z_ck 0 64 ((if (g25 1 (Int32.toNatClampNeg 0)) = 0 then fM_X8_light_21 g25 else fM_X8_light_25_go 0 g25)) else fM_X8_light_21 g25))
theorem nM_X8_light : yX8_light.cls = RX8 ∧ yX8_light.cls ≠ "java/lang/invoke/MethodHandle" ∧ yX8_light.cls ≠ "java/lang/invoke/VarHandle" ∧ (parseMethodDescriptor yX8_light.desc).map (fun d => d.parameters.length) = some 0 := by decide +kernel
set_option maxRecDepth 100000 in
set_option maxHeartbeats 4000000 in
theorem cM_X8_light (l : Launch) (dC : Nat → ClassId) (dI : Nat → Nat → Nat) (ca : Nat → ClassId) (q : Nat → Nat) (Zt : z_ZT) (hZt : z_Zok Zt) (g : z_G) (r : Int32) (g' : z_G) (hf : fM_X8_light g = some (r, g')) : z_C l yX8_light wsX8_light { frames := 1, cells := 0, slots := 0, locals := 20 } (dC, dI) (tyM ca) (wM ca q) Zt [.ref (q 0)] g (some r) g' := by
  refine z_enter (wM_ok ca q) hZt (by decide +kernel) rfl (Nat.le_of_ble_eq_true rfl) (fun J hC => ?_)
  have hC : z_Cx J l cX8_light 2 wsX8_light RX8 (some .boolean) { frames := 1, cells := 0, slots := 0, locals := 20 } (dC, dI) (tyM ca) (wM ca q) Zt (z_QI (dC, dI) (tyM ca) (wM ca q) (some r) g') z_X0 := hC
  show J 0 [(0, .ref (q 0))] [] g
  have hX8 : ∀ w ∈ wsX80, w ∈ wsX8_light := fun _ h => List.mem_cons_of_mem _ (List.mem_append_right _ (h))
  have hJ21 : ∀ (g : z_G), fM_X8_light_21 g = some (r, g') → J 21 [] [] g := by
    intro g hf
    unfold fM_X8_light_21 at hf
    refine zj_iconst (v := 0) hC dX8_light_21 (by decide) ?_
    exact zj_zreturn hC hf dX8_light_22
  have hJ108 : ∀ (x1 : Int32) (g : z_G), fM_X8_light_108_go x1 g = some (r, g') → J 108 [(0, .ref (q 0)), (1, .int x1)] [] g := by
    intro x1 g hf
    refine z_loopE (P := fun w : Int32 × z_G => J 108 [(0, .ref (q 0)), (1, .int w.1)] [] w.2) (fun k108 hk108 w hf => ?_) z_fuel (x1, g) hf
    obtain ⟨x1, g⟩ := w
    have hf : fM_X8_light_108 k108 x1 g = some (r, g') := hf
    show J 108 [(0, .ref (q 0)), (1, .int x1)] [] g
    unfold fM_X8_light_108 at hf
    refine zj_iload_n 1 hC dX8_light_108 rfl ?_
    refine zj_aload_n 0 hC dX8_light_109 rfl ?_
    refine mg_0_42 hC hX8 (List.mem_of_getElem? (i := 13) rfl) dX8_light_110 ?_
    refine zj_icmp_ge 129 hC dX8_light_113 (by decide) (fun c1 => ?_) (fun c1 => ?_)
    · have hf := z_iteT hf c1
      refine zj_aload_n 0 hC dX8_light_129 rfl ?_
      obtain ⟨r2, g3, hq4, hf⟩ := z_bindE hf
      refine zj_callVv [] hC (cM_X8_lights l dC dI ca q Zt hZt g r2 g3 hq4) gX8_light_X8_lights rfl nM_X8_lights ⟨Nat.le_of_ble_eq_true rfl, Nat.le_of_ble_eq_true rfl⟩ 0 mo_0 rfl rfl rfl (Nat.le_of_ble_eq_true rfl) dX8_light_130 rfl ?_
      refine zj_iconst (v := 1) hC dX8_light_133 (by decide) ?_
      exact zj_zreturn hC hf dX8_light_134
    · have hf := z_iteF hf c1
      refine zj_aload_n 0 hC dX8_light_116 rfl ?_
      refine mg_0_43 hC hX8 (List.mem_of_getElem? (i := 14) rfl) dX8_light_117 ?_
      refine zj_iload_n 1 hC dX8_light_120 rfl ?_
      refine zj_iconst (v := 0) hC dX8_light_121 (by decide) ?_
      obtain ⟨hq5, hf⟩ := z_ckE hf
      refine ms_31 hC hq5 dX8_light_122 (fun g6 eg6 => ?_)
      have hf := z_letE hf eg6
      refine zj_iinc (lv1 := fun v => [(1, .int v), (0, .ref (q 0))]) 1 hC dX8_light_123 rfl (by decide) (fun _ => rfl) (fun y7 ey7 => ?_)
      have hf := z_letE hf (show y7 = x1 + 1 from ey7)
      refine zj_goto 108 hC dX8_light_126 (by decide) ?_
      exact zj_sub hC [1, 0] rfl (hk108 (y7, g6) hf)
  have hJ75 : ∀ (x1 : Int32) (g : z_G), fM_X8_light_75_go x1 g = some (r, g') → J 75 [(0, .ref (q 0)), (1, .int x1)] [] g := by
    intro x1 g hf
    refine z_loopE (P := fun w : Int32 × z_G => J 75 [(0, .ref (q 0)), (1, .int w.1)] [] w.2) (fun k75 hk75 w hf => ?_) z_fuel (x1, g) hf
    obtain ⟨x1, g⟩ := w
    have hf : fM_X8_light_75 k75 x1 g = some (r, g') := hf
    show J 75 [(0, .ref (q 0)), (1, .int x1)] [] g
    unfold fM_X8_light_75 at hf
    refine zj_iload_n 1 hC dX8_light_75 rfl ?_
    refine zj_aload_n 0 hC dX8_light_76 rfl ?_
    refine mg_0_13 hC hX8 (List.mem_of_getElem? (i := 9) rfl) dX8_light_77 ?_
    refine zj_icmp_ge 101 hC dX8_light_80 (by decide) (fun c8 => ?_) (fun c8 => ?_)
    · have hf := z_iteT hf c8
      refine zj_aload_n 0 hC dX8_light_101 rfl ?_
      refine zj_iconst (v := 0) hC dX8_light_102 (by decide) ?_
      refine mp_0_26 hC hX8 (List.mem_of_getElem? (i := 12) rfl) dX8_light_103 (fun g9 eg9 => ?_)
      have hf := z_letE hf eg9
      refine zj_iconst (v := 0) hC dX8_light_106 (by decide) ?_
      refine zj_istore_n (lv1 := [(1, .int 0), (0, .ref (q 0))]) hC dX8_light_107 (by decide) rfl ?_
      exact zj_sub hC [1, 0] rfl (hJ108 0 g9 hf)
    · have hf := z_iteF hf c8
      refine zj_aload_n 0 hC dX8_light_83 rfl ?_
      refine mg_0_19 hC hX8 (List.mem_of_getElem? (i := 10) rfl) dX8_light_84 ?_
      refine zj_iload_n 1 hC dX8_light_87 rfl ?_
      refine zj_aload_n 0 hC dX8_light_88 rfl ?_
      refine mg_0_15 hC hX8 (List.mem_of_getElem? (i := 11) rfl) dX8_light_89 ?_
      refine zj_iload_n 1 hC dX8_light_92 rfl ?_
      obtain ⟨hq10, hf⟩ := z_ckE hf
      refine ma_12 hC hq10 dX8_light_93 ?_
      obtain ⟨hq11, hf⟩ := z_ckE hf
      refine ms_16 hC hq11 dX8_light_94 (fun g12 eg12 => ?_)
      have hf := z_letE hf eg12
      refine zj_iinc (lv1 := fun v => [(1, .int v), (0, .ref (q 0))]) 1 hC dX8_light_95 rfl (by decide) (fun _ => rfl) (fun y13 ey13 => ?_)
      have hf := z_letE hf (show y13 = x1 + 1 from ey13)
      refine zj_goto 75 hC dX8_light_98 (by decide) ?_
      exact zj_sub hC [1, 0] rfl (hk75 (y13, g12) hf)
  have hJ25 : ∀ (x1 : Int32) (g : z_G), fM_X8_light_25_go x1 g = some (r, g') → J 25 [(0, .ref (q 0)), (1, .int x1)] [] g := by
    intro x1 g hf
    refine z_loopE (P := fun w : Int32 × z_G => J 25 [(0, .ref (q 0)), (1, .int w.1)] [] w.2) (fun k25 hk25 w hf => ?_) z_fuel (x1, g) hf
    obtain ⟨x1, g⟩ := w
    have hf : fM_X8_light_25 k25 x1 g = some (r, g') := hf
    show J 25 [(0, .ref (q 0)), (1, .int x1)] [] g
    unfold fM_X8_light_25 at hf
    refine zj_iload_n 1 hC dX8_light_25 rfl ?_
    refine zj_bipush (v := 64) hC dX8_light_26 (by decide) ?_
    refine zj_icmp_ge 73 hC dX8_light_28 (by decide) (fun c14 => ?_) (fun c14 => ?_)
    · have hf := z_iteT hf c14
      refine zj_iconst (v := 0) hC dX8_light_73 (by decide) ?_
      refine zj_istore_n (lv1 := [(1, .int 0), (0, .ref (q 0))]) hC dX8_light_74 (by decide) rfl ?_
      exact zj_sub hC [1, 0] rfl (hJ75 0 g hf)
    · have hf := z_iteF hf c14
      refine zj_aload_n 0 hC dX8_light_31 rfl ?_
      refine mg_0_16 hC hX8 (List.mem_of_getElem? (i := 4) rfl) dX8_light_32 ?_
      refine zj_iload_n 1 hC dX8_light_35 rfl ?_
      refine zj_aload_n 0 hC dX8_light_36 rfl ?_
      refine mg_0_3 hC hX8 (List.mem_of_getElem? (i := 3) rfl) dX8_light_37 ?_
      refine zj_iload_n 1 hC dX8_light_40 rfl ?_
      obtain ⟨hq15, hf⟩ := z_ckE hf
      refine ma_1 hC hq15 dX8_light_41 ?_
      obtain ⟨hq16, hf⟩ := z_ckE hf
      refine ms_13 hC hq16 dX8_light_42 (fun g17 eg17 => ?_)
      have hf := z_letE hf eg17
      refine zj_aload_n 0 hC dX8_light_43 rfl ?_
      refine mg_0_17 hC hX8 (List.mem_of_getElem? (i := 5) rfl) dX8_light_44 ?_
      refine zj_iload_n 1 hC dX8_light_47 rfl ?_
      refine zj_aload_n 0 hC dX8_light_48 rfl ?_
      refine mg_0_5 hC hX8 (List.mem_of_getElem? (i := 6) rfl) dX8_light_49 ?_
      refine zj_iload_n 1 hC dX8_light_52 rfl ?_
      obtain ⟨hq18, hf⟩ := z_ckE hf
      refine ma_3 hC hq18 dX8_light_53 ?_
      obtain ⟨hq19, hf⟩ := z_ckE hf
      refine ms_14 hC hq19 dX8_light_54 (fun g20 eg20 => ?_)
      have hf := z_letE hf eg20
      refine zj_aload_n 0 hC dX8_light_55 rfl ?_
      refine mg_0_18 hC hX8 (List.mem_of_getElem? (i := 7) rfl) dX8_light_56 ?_
      refine zj_iload_n 1 hC dX8_light_59 rfl ?_
      refine zj_aload_n 0 hC dX8_light_60 rfl ?_
      refine mg_0_10 hC hX8 (List.mem_of_getElem? (i := 8) rfl) dX8_light_61 ?_
      refine zj_iload_n 1 hC dX8_light_64 rfl ?_
      obtain ⟨hq21, hf⟩ := z_ckE hf
      refine ma_8 hC hq21 dX8_light_65 ?_
      obtain ⟨hq22, hf⟩ := z_ckE hf
      refine ms_15 hC hq22 dX8_light_66 (fun g23 eg23 => ?_)
      have hf := z_letE hf eg23
      refine zj_iinc (lv1 := fun v => [(1, .int v), (0, .ref (q 0))]) 1 hC dX8_light_67 rfl (by decide) (fun _ => rfl) (fun y24 ey24 => ?_)
      have hf := z_letE hf (show y24 = x1 + 1 from ey24)
      refine zj_goto 25 hC dX8_light_70 (by decide) ?_
      exact zj_sub hC [1, 0] rfl (hk25 (y24, g23) hf)
  unfold fM_X8_light at hf
  refine zj_aload_n 0 hC dX8_light_0 rfl ?_
  refine zj_iconst (v := 0) hC dX8_light_1 (by decide) ?_
  refine mp_0_0 hC hX8 (List.mem_of_getElem? (i := 1) rfl) dX8_light_2 (fun g25 eg25 => ?_)
  have hf := z_letE hf eg25
  refine zj_aload_n 0 hC dX8_light_5 rfl ?_
  refine mg_0_20 hC hX8 (List.mem_of_getElem? (i := 2) rfl) dX8_light_6 ?_
  refine zj_if_ne 21 hC dX8_light_9 (by decide) (fun c26 => ?_) (fun c26 => ?_)
  · have hf := z_iteF hf c26
    exact zj_sub hC [] rfl (hJ21 g25 hf)
  · have hf := z_iteT hf c26
    refine zj_aload_n 0 hC dX8_light_12 rfl ?_
    refine mg_0_3 hC hX8 (List.mem_of_getElem? (i := 3) rfl) dX8_light_13 ?_
    refine zj_iconst (v := 0) hC dX8_light_16 (by decide) ?_
    obtain ⟨hq27, hf⟩ := z_ckE hf
    refine ma_1 hC hq27 dX8_light_17 ?_
    refine zj_if_ne 23 hC dX8_light_18 (by decide) (fun c28 => ?_) (fun c28 => ?_)
    · have hf := z_iteF hf c28
      refine zj_iconst (v := 0) hC dX8_light_23 (by decide) ?_
      refine zj_istore_n (lv1 := [(1, .int 0), (0, .ref (q 0))]) hC dX8_light_24 (by decide) rfl ?_
      exact zj_sub hC [1, 0] rfl (hJ25 0 g25 hf)
    · have hf := z_iteT hf c28
      exact zj_sub hC [] rfl (hJ21 g25 hf)

def fM_X8_does_35  (g : z_G) : Option (Int32 × z_G) := some (0, g)
def fM_X8_does_21 (s0 : Int32) (s1 : Int32) (g : z_G) : Option (Int32 × z_G) := z_ck s1 12 (z_let (z_up g 12 (Int32.toNatClampNeg s1) (vp_nar .boolean s0)) (fun g2 => fM_X8_does_35 g2))
def fM_X8_does (a0 : Int32) (a1 : Int32) (g : z_G) : Option (Int32 × z_G) := (if 12 ≤ a0 then z_ck (a0 - 12) 64 (z_let (z_up g 8 (Int32.toNatClampNeg (a0 - 12)) a1) (fun g5 => fM_X8_does_35 g5)) else (if a1 = 1 then fM_X8_does_21 1 a0 g else fM_X8_does_21 0 a0 g))
theorem nM_X8_does : yX8_does.cls = RX8 ∧ yX8_does.cls ≠ "java/lang/invoke/MethodHandle" ∧ yX8_does.cls ≠ "java/lang/invoke/VarHandle" ∧ (parseMethodDescriptor yX8_does.desc).map (fun d => d.parameters.length) = some 2 := by decide +kernel
set_option maxRecDepth 100000 in
set_option maxHeartbeats 4000000 in
theorem cM_X8_does (l : Launch) (dC : Nat → ClassId) (dI : Nat → Nat → Nat) (ca : Nat → ClassId) (q : Nat → Nat) (Zt : z_ZT) (hZt : z_Zok Zt) (a0 : Int32) (a1 : Int32) (g : z_G) (r : Int32) (g' : z_G) (hf : fM_X8_does a0 a1 g = some (r, g')) : z_C l yX8_does wsX8_does { frames := 0, cells := 0, slots := 0, locals := 0 } (dC, dI) (tyM ca) (wM ca q) Zt [.ref (q 0), .int a0, .int a1] g none g' := by
  refine z_enter (wM_ok ca q) hZt (by decide +kernel) rfl (Nat.le_of_ble_eq_true rfl) (fun J hC => ?_)
  have hC : z_Cx J l cX8_does 3 wsX8_does RX8 none { frames := 0, cells := 0, slots := 0, locals := 0 } (dC, dI) (tyM ca) (wM ca q) Zt (z_QI (dC, dI) (tyM ca) (wM ca q) none g') z_X0 := hC
  show J 0 [(0, .ref (q 0)), (1, .int a0), (2, .int a1)] [] g
  have hX8 : ∀ w ∈ wsX80, w ∈ wsX8_does := fun _ h => List.mem_cons_of_mem _ (List.mem_append_right _ (h))
  have hJ35 : ∀ (g : z_G), fM_X8_does_35 g = some (r, g') → J 35 [] [] g := by
    intro g hf
    unfold fM_X8_does_35 at hf
    exact zj_vreturn hC hf dX8_does_35
  have hJ21 : ∀ (s0 : Int32) (s1 : Int32) (g : z_G), fM_X8_does_21 s0 s1 g = some (r, g') → J 21 [] [.int s0, .int s1, .ref (q 12)] g := by
    intro s0 s1 g hf
    unfold fM_X8_does_21 at hf
    obtain ⟨hq1, hf⟩ := z_ckE hf
    refine ms_12 hC hq1 dX8_does_21 (fun g2 eg2 => ?_)
    have hf := z_letE hf eg2
    refine zj_goto 35 hC dX8_does_22 (by decide) ?_
    exact (hJ35 g2 hf)
  unfold fM_X8_does at hf
  refine zj_iload_n 1 hC dX8_does_0 rfl ?_
  refine zj_bipush (v := 12) hC dX8_does_1 (by decide) ?_
  refine zj_icmp_ge 25 hC dX8_does_3 (by decide) (fun c3 => ?_) (fun c3 => ?_)
  · have hf := z_iteT hf c3
    refine zj_aload_n 0 hC dX8_does_25 rfl ?_
    refine mg_0_10 hC hX8 (List.mem_of_getElem? (i := 2) rfl) dX8_does_26 ?_
    refine zj_iload_n 1 hC dX8_does_29 rfl ?_
    refine zj_bipush (v := 12) hC dX8_does_30 (by decide) ?_
    refine zj_isub hC dX8_does_32 ?_
    refine zj_iload_n 2 hC dX8_does_33 rfl ?_
    obtain ⟨hq4, hf⟩ := z_ckE hf
    refine ms_8 hC hq4 dX8_does_34 (fun g5 eg5 => ?_)
    have hf := z_letE hf eg5
    exact zj_sub hC [] rfl (hJ35 g5 hf)
  · have hf := z_iteF hf c3
    refine zj_aload_n 0 hC dX8_does_6 rfl ?_
    refine mg_0_15 hC hX8 (List.mem_of_getElem? (i := 1) rfl) dX8_does_7 ?_
    refine zj_iload_n 1 hC dX8_does_10 rfl ?_
    refine zj_iload_n 2 hC dX8_does_11 rfl ?_
    refine zj_iconst (v := 1) hC dX8_does_12 (by decide) ?_
    refine zj_icmp_ne 20 hC dX8_does_13 (by decide) (fun c6 => ?_) (fun c6 => ?_)
    · have hf := z_iteF hf c6
      refine zj_iconst (v := 0) hC dX8_does_20 (by decide) ?_
      exact zj_sub hC [] rfl (hJ21 0 a0 g hf)
    · have hf := z_iteT hf c6
      refine zj_iconst (v := 1) hC dX8_does_16 (by decide) ?_
      refine zj_goto 21 hC dX8_does_17 (by decide) ?_
      exact zj_sub hC [] rfl (hJ21 1 a0 g hf)

def fM_X8_byHand_68 (x1 : Int32) (x2 : Int32) (g : z_G) : Option (Int32 × z_G) := z_bind (fM_X8_does x1 x2 g) (fun r1 g2 => z_bo 1 (some (1, g2)))
def fM_X8_byHand_18 (x1 : Int32) (x2 : Int32) (g : z_G) : Option (Int32 × z_G) := (if (g 0 20) = 0 then fM_X8_byHand_68 x1 x2 g else z_ck (g 0 26) 100 (z_let (z_up g 17 (Int32.toNatClampNeg (g 0 26)) x1) (fun g6 => z_ck (g6 0 26) 100 (z_let (z_up g6 18 (Int32.toNatClampNeg (g6 0 26)) x2) (fun g8 => z_ck (g8 0 26) 100 (z_let (z_up g8 19 (Int32.toNatClampNeg (g8 0 26)) (g8 0 21)) (fun g10 => z_let (z_up g10 0 26 ((g10 0 26) + 1)) (fun g11 => fM_X8_byHand_68 x1 x2 g11))))))))
def fM_X8_byHand (a0 : Int32) (a1 : Int32) (g : z_G) : Option (Int32 × z_G) := (if (g 0 20) = 0 then fM_X8_byHand_18 a0 a1 g else (if (g 0 26) = 100 then z_bo 0 (some (0, g)) else fM_X8_byHand_18 a0 a1 g))
theorem nM_X8_byHand : yX8_byHand.cls = RX8 ∧ yX8_byHand.cls ≠ "java/lang/invoke/MethodHandle" ∧ yX8_byHand.cls ≠ "java/lang/invoke/VarHandle" ∧ (parseMethodDescriptor yX8_byHand.desc).map (fun d => d.parameters.length) = some 2 := by decide +kernel
set_option maxRecDepth 100000 in
set_option maxHeartbeats 4000000 in
theorem cM_X8_byHand (l : Launch) (dC : Nat → ClassId) (dI : Nat → Nat → Nat) (ca : Nat → ClassId) (q : Nat → Nat) (Zt : z_ZT) (hZt : z_Zok Zt) (a0 : Int32) (a1 : Int32) (g : z_G) (r : Int32) (g' : z_G) (hf : fM_X8_byHand a0 a1 g = some (r, g')) : z_C l yX8_byHand wsX8_byHand { frames := 1, cells := 0, slots := 0, locals := 22 } (dC, dI) (tyM ca) (wM ca q) Zt [.ref (q 0), .int a0, .int a1] g (some r) g' := by
  refine z_enter (wM_ok ca q) hZt (by decide +kernel) rfl (Nat.le_of_ble_eq_true rfl) (fun J hC => ?_)
  have hC : z_Cx J l cX8_byHand 3 wsX8_byHand RX8 (some .boolean) { frames := 1, cells := 0, slots := 0, locals := 22 } (dC, dI) (tyM ca) (wM ca q) Zt (z_QI (dC, dI) (tyM ca) (wM ca q) (some r) g') z_X0 := hC
  show J 0 [(0, .ref (q 0)), (1, .int a0), (2, .int a1)] [] g
  have hX8 : ∀ w ∈ wsX80, w ∈ wsX8_byHand := fun _ h => List.mem_cons_of_mem _ (List.mem_append_right _ (h))
  have hJ68 : ∀ (x1 : Int32) (x2 : Int32) (g : z_G), fM_X8_byHand_68 x1 x2 g = some (r, g') → J 68 [(0, .ref (q 0)), (1, .int x1), (2, .int x2)] [] g := by
    intro x1 x2 g hf
    unfold fM_X8_byHand_68 at hf
    refine zj_aload_n 0 hC dX8_byHand_68 rfl ?_
    refine zj_iload_n 1 hC dX8_byHand_69 rfl ?_
    refine zj_iload_n 2 hC dX8_byHand_70 rfl ?_
    obtain ⟨r1, g2, hq3, hf⟩ := z_bindE hf
    refine zj_callVv [.int x1, .int x2] hC (cM_X8_does l dC dI ca q Zt hZt x1 x2 g r1 g2 hq3) gX8_byHand_X8_does rfl nM_X8_does ⟨Nat.le_of_ble_eq_true rfl, Nat.le_of_ble_eq_true rfl⟩ 0 mo_0 rfl rfl rfl (Nat.le_of_ble_eq_true rfl) dX8_byHand_71 rfl ?_
    refine zj_iconst (v := 1) hC dX8_byHand_74 (by decide) ?_
    exact zj_zreturn hC hf dX8_byHand_75
  have hJ18 : ∀ (x1 : Int32) (x2 : Int32) (g : z_G), fM_X8_byHand_18 x1 x2 g = some (r, g') → J 18 [(0, .ref (q 0)), (1, .int x1), (2, .int x2)] [] g := by
    intro x1 x2 g hf
    unfold fM_X8_byHand_18 at hf
    refine zj_aload_n 0 hC dX8_byHand_18 rfl ?_
    refine mg_0_20 hC hX8 (List.mem_of_getElem? (i := 1) rfl) dX8_byHand_19 ?_
    refine zj_if_eq 68 hC dX8_byHand_22 (by decide) (fun c4 => ?_) (fun c4 => ?_)
    · have hf := z_iteT hf c4
      exact (hJ68 x1 x2 g hf)
    · have hf := z_iteF hf c4
      refine zj_aload_n 0 hC dX8_byHand_25 rfl ?_
      refine mg_0_27 hC hX8 (List.mem_of_getElem? (i := 3) rfl) dX8_byHand_26 ?_
      refine zj_aload_n 0 hC dX8_byHand_29 rfl ?_
      refine mg_0_26 hC hX8 (List.mem_of_getElem? (i := 2) rfl) dX8_byHand_30 ?_
      refine zj_iload_n 1 hC dX8_byHand_33 rfl ?_
      obtain ⟨hq5, hf⟩ := z_ckE hf
      refine ms_17 hC hq5 dX8_byHand_34 (fun g6 eg6 => ?_)
      have hf := z_letE hf eg6
      refine zj_aload_n 0 hC dX8_byHand_35 rfl ?_
      refine mg_0_28 hC hX8 (List.mem_of_getElem? (i := 4) rfl) dX8_byHand_36 ?_
      refine zj_aload_n 0 hC dX8_byHand_39 rfl ?_
      refine mg_0_26 hC hX8 (List.mem_of_getElem? (i := 2) rfl) dX8_byHand_40 ?_
      refine zj_iload_n 2 hC dX8_byHand_43 rfl ?_
      obtain ⟨hq7, hf⟩ := z_ckE hf
      refine ms_18 hC hq7 dX8_byHand_44 (fun g8 eg8 => ?_)
      have hf := z_letE hf eg8
      refine zj_aload_n 0 hC dX8_byHand_45 rfl ?_
      refine mg_0_29 hC hX8 (List.mem_of_getElem? (i := 5) rfl) dX8_byHand_46 ?_
      refine zj_aload_n 0 hC dX8_byHand_49 rfl ?_
      refine mg_0_26 hC hX8 (List.mem_of_getElem? (i := 2) rfl) dX8_byHand_50 ?_
      refine zj_aload_n 0 hC dX8_byHand_53 rfl ?_
      refine mg_0_21 hC hX8 (List.mem_of_getElem? (i := 6) rfl) dX8_byHand_54 ?_
      obtain ⟨hq9, hf⟩ := z_ckE hf
      refine ms_19 hC hq9 dX8_byHand_57 (fun g10 eg10 => ?_)
      have hf := z_letE hf eg10
      refine zj_aload_n 0 hC dX8_byHand_58 rfl ?_
      refine zj_dup hC dX8_byHand_59 rfl ?_
      refine mg_0_26 hC hX8 (List.mem_of_getElem? (i := 2) rfl) dX8_byHand_60 ?_
      refine zj_iconst (v := 1) hC dX8_byHand_63 (by decide) ?_
      refine zj_iadd hC dX8_byHand_64 ?_
      refine mp_0_26 hC hX8 (List.mem_of_getElem? (i := 2) rfl) dX8_byHand_65 (fun g11 eg11 => ?_)
      have hf := z_letE hf eg11
      exact (hJ68 x1 x2 g11 hf)
  unfold fM_X8_byHand at hf
  refine zj_aload_n 0 hC dX8_byHand_0 rfl ?_
  refine mg_0_20 hC hX8 (List.mem_of_getElem? (i := 1) rfl) dX8_byHand_1 ?_
  refine zj_if_eq 18 hC dX8_byHand_4 (by decide) (fun c12 => ?_) (fun c12 => ?_)
  · have hf := z_iteT hf c12
    exact (hJ18 a0 a1 g hf)
  · have hf := z_iteF hf c12
    refine zj_aload_n 0 hC dX8_byHand_7 rfl ?_
    refine mg_0_26 hC hX8 (List.mem_of_getElem? (i := 2) rfl) dX8_byHand_8 ?_
    refine zj_bipush (v := 100) hC dX8_byHand_11 (by decide) ?_
    refine zj_icmp_ne 18 hC dX8_byHand_13 (by decide) (fun c13 => ?_) (fun c13 => ?_)
    · have hf := z_iteF hf c13
      exact (hJ18 a0 a1 g hf)
    · have hf := z_iteT hf c13
      refine zj_iconst (v := 0) hC dX8_byHand_16 (by decide) ?_
      exact zj_zreturn hC hf dX8_byHand_17

def fM_X8_open_43 (s0 : Int32) (g : z_G) : Option (Int32 × z_G) := z_bo s0 (some (s0, g))
def fM_X8_open_42  (g : z_G) : Option (Int32 × z_G) := fM_X8_open_43 0 g
def fM_X8_open_32 (s0 : Int32) (s1 : Int32) (g : z_G) : Option (Int32 × z_G) := z_bind (fM_X8_byHand s1 s0 g) (fun r1 g2 => (if r1 = 0 then fM_X8_open_42 g2 else fM_X8_open_43 1 g2))
def fM_X8_open (a0 : Int32) (a1 : Int32) (g : z_G) : Option (Int32 × z_G) := z_let (z_up g 0 0 0) (fun g5 => z_bind (fM_X8_in ((a0 : Int32).toInt64) 0 (((g5 0 13) - 1 : Int32).toInt64) g5) (fun r6 g7 => (if r6 = 0 then fM_X8_open_42 g7 else (if a1 = 0 then fM_X8_open_32 0 a0 g7 else fM_X8_open_32 1 a0 g7))))
theorem nM_X8_open : yX8_open.cls = RX8 ∧ yX8_open.cls ≠ "java/lang/invoke/MethodHandle" ∧ yX8_open.cls ≠ "java/lang/invoke/VarHandle" ∧ (parseMethodDescriptor yX8_open.desc).map (fun d => d.parameters.length) = some 2 := by decide +kernel
set_option maxRecDepth 100000 in
set_option maxHeartbeats 4000000 in
theorem cM_X8_open (l : Launch) (dC : Nat → ClassId) (dI : Nat → Nat → Nat) (ca : Nat → ClassId) (q : Nat → Nat) (Zt : z_ZT) (hZt : z_Zok Zt) (a0 : Int32) (a1 : Int32) (g : z_G) (r : Int32) (g' : z_G) (hf : fM_X8_open a0 a1 g = some (r, g')) : z_C l yX8_open wsX8_open { frames := 2, cells := 0, slots := 0, locals := 44 } (dC, dI) (tyM ca) (wM ca q) Zt [.ref (q 0), .int a0, .int a1] g (some r) g' := by
  refine z_enter (wM_ok ca q) hZt (by decide +kernel) rfl (Nat.le_of_ble_eq_true rfl) (fun J hC => ?_)
  have hC : z_Cx J l cX8_open 3 wsX8_open RX8 (some .boolean) { frames := 2, cells := 0, slots := 0, locals := 44 } (dC, dI) (tyM ca) (wM ca q) Zt (z_QI (dC, dI) (tyM ca) (wM ca q) (some r) g') z_X0 := hC
  show J 0 [(0, .ref (q 0)), (1, .int a0), (2, .int a1)] [] g
  have hX8 : ∀ w ∈ wsX80, w ∈ wsX8_open := fun _ h => List.mem_cons_of_mem _ (List.mem_append_right _ (h))
  have hJ43 : ∀ (s0 : Int32) (g : z_G), fM_X8_open_43 s0 g = some (r, g') → J 43 [] [.int s0] g := by
    intro s0 g hf
    unfold fM_X8_open_43 at hf
    exact zj_zreturn hC hf dX8_open_43
  have hJ42 : ∀ (g : z_G), fM_X8_open_42 g = some (r, g') → J 42 [] [] g := by
    intro g hf
    unfold fM_X8_open_42 at hf
    refine zj_iconst (v := 0) hC dX8_open_42 (by decide) ?_
    exact (hJ43 0 g hf)
  have hJ32 : ∀ (s0 : Int32) (s1 : Int32) (g : z_G), fM_X8_open_32 s0 s1 g = some (r, g') → J 32 [] [.int s0, .int s1, .ref (q 0)] g := by
    intro s0 s1 g hf
    unfold fM_X8_open_32 at hf
    obtain ⟨r1, g2, hq3, hf⟩ := z_bindE hf
    refine zj_callVi [.int s1, .int s0] hC (cM_X8_byHand l dC dI ca q Zt hZt s1 s0 g r1 g2 hq3) gX8_open_X8_byHand rfl nM_X8_byHand ⟨Nat.le_of_ble_eq_true rfl, Nat.le_of_ble_eq_true rfl⟩ 0 mo_0 rfl rfl rfl (Nat.le_of_ble_eq_true rfl) dX8_open_32 rfl ?_
    refine zj_if_eq 42 hC dX8_open_35 (by decide) (fun c4 => ?_) (fun c4 => ?_)
    · have hf := z_iteT hf c4
      exact (hJ42 g2 hf)
    · have hf := z_iteF hf c4
      refine zj_iconst (v := 1) hC dX8_open_38 (by decide) ?_
      refine zj_goto 43 hC dX8_open_39 (by decide) ?_
      exact (hJ43 1 g2 hf)
  unfold fM_X8_open at hf
  refine zj_aload_n 0 hC dX8_open_0 rfl ?_
  refine zj_iconst (v := 0) hC dX8_open_1 (by decide) ?_
  refine mp_0_0 hC hX8 (List.mem_of_getElem? (i := 1) rfl) dX8_open_2 (fun g5 eg5 => ?_)
  have hf := z_letE hf eg5
  refine zj_iload_n 1 hC dX8_open_5 rfl ?_
  refine zj_i2l hC dX8_open_6 ?_
  refine zj_lconst (v := 0) hC dX8_open_7 (by decide) ?_
  refine zj_aload_n 0 hC dX8_open_8 rfl ?_
  refine mg_0_13 hC hX8 (List.mem_of_getElem? (i := 2) rfl) dX8_open_9 ?_
  refine zj_iconst (v := 1) hC dX8_open_12 (by decide) ?_
  refine zj_isub hC dX8_open_13 ?_
  refine zj_i2l hC dX8_open_14 ?_
  obtain ⟨r6, g7, hq8, hf⟩ := z_bindE hf
  refine zj_callSi [.long ((a0 : Int32).toInt64), .long 0, .long (((g5 0 13) - 1 : Int32).toInt64)] hC (cM_X8_in l dC dI ca q Zt hZt ((a0 : Int32).toInt64) 0 (((g5 0 13) - 1 : Int32).toInt64) g5 r6 g7 hq8) gX8_open_X8_in rfl nM_X8_in ⟨Nat.le_of_ble_eq_true rfl, Nat.le_of_ble_eq_true rfl⟩ rfl (Nat.le_of_ble_eq_true rfl) dX8_open_15 rfl ?_
  refine zj_if_eq 42 hC dX8_open_18 (by decide) (fun c9 => ?_) (fun c9 => ?_)
  · have hf := z_iteT hf c9
    exact zj_sub hC [] rfl (hJ42 g7 hf)
  · have hf := z_iteF hf c9
    refine zj_aload_n 0 hC dX8_open_21 rfl ?_
    refine zj_iload_n 1 hC dX8_open_22 rfl ?_
    refine zj_iload_n 2 hC dX8_open_23 rfl ?_
    refine zj_if_eq 31 hC dX8_open_24 (by decide) (fun c10 => ?_) (fun c10 => ?_)
    · have hf := z_iteT hf c10
      refine zj_iconst (v := 0) hC dX8_open_31 (by decide) ?_
      exact zj_sub hC [] rfl (hJ32 0 a0 g7 hf)
    · have hf := z_iteF hf c10
      refine zj_iconst (v := 1) hC dX8_open_27 (by decide) ?_
      refine zj_goto 32 hC dX8_open_28 (by decide) ?_
      exact zj_sub hC [] rfl (hJ32 1 a0 g7 hf)

def fM_X8_cover_61 (s0 : Int32) (g : z_G) : Option (Int32 × z_G) := z_bo s0 (some (s0, g))
def fM_X8_cover_60  (g : z_G) : Option (Int32 × z_G) := fM_X8_cover_61 0 g
def fM_X8_cover (a0 : Int32) (a1 : Int32) (a2 : Int32) (g : z_G) : Option (Int32 × z_G) := z_let (z_up g 0 0 0) (fun g1 => z_bind (fM_X8_isCell a0 a1 g1) (fun r2 g3 => (if r2 = 0 then fM_X8_cover_60 g3 else z_bind (fM_X8_isOutside ((a1 * 8) + a0) g3) (fun r6 g7 => (if r6 = 0 then fM_X8_cover_60 g7 else z_bind (fM_X8_in ((a2 : Int32).toInt64) 0 9 g7) (fun r10 g11 => (if r10 = 0 then fM_X8_cover_60 g11 else z_bind (fM_X8_byHand ((12 + (a1 * 8)) + a0) a2 g11) (fun r14 g15 => (if r14 = 0 then fM_X8_cover_60 g15 else fM_X8_cover_61 1 g15)))))))))
theorem nM_X8_cover : yX8_cover.cls = RX8 ∧ yX8_cover.cls ≠ "java/lang/invoke/MethodHandle" ∧ yX8_cover.cls ≠ "java/lang/invoke/VarHandle" ∧ (parseMethodDescriptor yX8_cover.desc).map (fun d => d.parameters.length) = some 3 := by decide +kernel
set_option maxRecDepth 100000 in
set_option maxHeartbeats 4000000 in
theorem cM_X8_cover (l : Launch) (dC : Nat → ClassId) (dI : Nat → Nat → Nat) (ca : Nat → ClassId) (q : Nat → Nat) (Zt : z_ZT) (hZt : z_Zok Zt) (a0 : Int32) (a1 : Int32) (a2 : Int32) (g : z_G) (r : Int32) (g' : z_G) (hf : fM_X8_cover a0 a1 a2 g = some (r, g')) : z_C l yX8_cover wsX8_cover { frames := 2, cells := 0, slots := 0, locals := 47 } (dC, dI) (tyM ca) (wM ca q) Zt [.ref (q 0), .int a0, .int a1, .int a2] g (some r) g' := by
  refine z_enter (wM_ok ca q) hZt (by decide +kernel) rfl (Nat.le_of_ble_eq_true rfl) (fun J hC => ?_)
  have hC : z_Cx J l cX8_cover 4 wsX8_cover RX8 (some .boolean) { frames := 2, cells := 0, slots := 0, locals := 47 } (dC, dI) (tyM ca) (wM ca q) Zt (z_QI (dC, dI) (tyM ca) (wM ca q) (some r) g') z_X0 := hC
  show J 0 [(0, .ref (q 0)), (1, .int a0), (2, .int a1), (3, .int a2)] [] g
  have hX8 : ∀ w ∈ wsX80, w ∈ wsX8_cover := fun _ h => List.mem_cons_of_mem _ (List.mem_append_right _ (h))
  have hJ61 : ∀ (s0 : Int32) (g : z_G), fM_X8_cover_61 s0 g = some (r, g') → J 61 [] [.int s0] g := by
    intro s0 g hf
    unfold fM_X8_cover_61 at hf
    exact zj_zreturn hC hf dX8_cover_61
  have hJ60 : ∀ (g : z_G), fM_X8_cover_60 g = some (r, g') → J 60 [] [] g := by
    intro g hf
    unfold fM_X8_cover_60 at hf
    refine zj_iconst (v := 0) hC dX8_cover_60 (by decide) ?_
    exact (hJ61 0 g hf)
  unfold fM_X8_cover at hf
  refine zj_aload_n 0 hC dX8_cover_0 rfl ?_
  refine zj_iconst (v := 0) hC dX8_cover_1 (by decide) ?_
  refine mp_0_0 hC hX8 (List.mem_of_getElem? (i := 1) rfl) dX8_cover_2 (fun g1 eg1 => ?_)
  have hf := z_letE hf eg1
  refine zj_aload_n 0 hC dX8_cover_5 rfl ?_
  refine zj_iload_n 1 hC dX8_cover_6 rfl ?_
  refine zj_iload_n 2 hC dX8_cover_7 rfl ?_
  obtain ⟨r2, g3, hq4, hf⟩ := z_bindE hf
  refine zj_callVi [.int a0, .int a1] hC (cM_X8_isCell l dC dI ca q Zt hZt a0 a1 g1 r2 g3 hq4) gX8_cover_X8_isCell rfl nM_X8_isCell ⟨Nat.le_of_ble_eq_true rfl, Nat.le_of_ble_eq_true rfl⟩ 0 mo_0 rfl rfl rfl (Nat.le_of_ble_eq_true rfl) dX8_cover_8 rfl ?_
  refine zj_if_eq 60 hC dX8_cover_11 (by decide) (fun c5 => ?_) (fun c5 => ?_)
  · have hf := z_iteT hf c5
    exact zj_sub hC [] rfl (hJ60 g3 hf)
  · have hf := z_iteF hf c5
    refine zj_aload_n 0 hC dX8_cover_14 rfl ?_
    refine zj_iload_n 2 hC dX8_cover_15 rfl ?_
    refine zj_bipush (v := 8) hC dX8_cover_16 (by decide) ?_
    refine zj_imul hC dX8_cover_18 ?_
    refine zj_iload_n 1 hC dX8_cover_19 rfl ?_
    refine zj_iadd hC dX8_cover_20 ?_
    obtain ⟨r6, g7, hq8, hf⟩ := z_bindE hf
    refine zj_callVi [.int ((a1 * 8) + a0)] hC (cM_X8_isOutside l dC dI ca q Zt hZt ((a1 * 8) + a0) g3 r6 g7 hq8) gX8_cover_X8_isOutside rfl nM_X8_isOutside ⟨Nat.le_of_ble_eq_true rfl, Nat.le_of_ble_eq_true rfl⟩ 0 mo_0 rfl rfl rfl (Nat.le_of_ble_eq_true rfl) dX8_cover_21 rfl ?_
    refine zj_if_eq 60 hC dX8_cover_24 (by decide) (fun c9 => ?_) (fun c9 => ?_)
    · have hf := z_iteT hf c9
      exact zj_sub hC [] rfl (hJ60 g7 hf)
    · have hf := z_iteF hf c9
      refine zj_iload_n 3 hC dX8_cover_27 rfl ?_
      refine zj_i2l hC dX8_cover_28 ?_
      refine zj_lconst (v := 0) hC dX8_cover_29 (by decide) ?_
      refine zj_ldc2 (v := 9) hC (List.mem_of_getElem? (i := 2) rfl) dX8_cover_30 ?_
      obtain ⟨r10, g11, hq12, hf⟩ := z_bindE hf
      refine zj_callSi [.long ((a2 : Int32).toInt64), .long 0, .long 9] hC (cM_X8_in l dC dI ca q Zt hZt ((a2 : Int32).toInt64) 0 9 g7 r10 g11 hq12) gX8_cover_X8_in rfl nM_X8_in ⟨Nat.le_of_ble_eq_true rfl, Nat.le_of_ble_eq_true rfl⟩ rfl (Nat.le_of_ble_eq_true rfl) dX8_cover_33 rfl ?_
      refine zj_if_eq 60 hC dX8_cover_36 (by decide) (fun c13 => ?_) (fun c13 => ?_)
      · have hf := z_iteT hf c13
        exact zj_sub hC [] rfl (hJ60 g11 hf)
      · have hf := z_iteF hf c13
        refine zj_aload_n 0 hC dX8_cover_39 rfl ?_
        refine zj_bipush (v := 12) hC dX8_cover_40 (by decide) ?_
        refine zj_iload_n 2 hC dX8_cover_42 rfl ?_
        refine zj_bipush (v := 8) hC dX8_cover_43 (by decide) ?_
        refine zj_imul hC dX8_cover_45 ?_
        refine zj_iadd hC dX8_cover_46 ?_
        refine zj_iload_n 1 hC dX8_cover_47 rfl ?_
        refine zj_iadd hC dX8_cover_48 ?_
        refine zj_iload_n 3 hC dX8_cover_49 rfl ?_
        obtain ⟨r14, g15, hq16, hf⟩ := z_bindE hf
        refine zj_callVi [.int ((12 + (a1 * 8)) + a0), .int a2] hC (cM_X8_byHand l dC dI ca q Zt hZt ((12 + (a1 * 8)) + a0) a2 g11 r14 g15 hq16) gX8_cover_X8_byHand rfl nM_X8_byHand ⟨Nat.le_of_ble_eq_true rfl, Nat.le_of_ble_eq_true rfl⟩ 0 mo_0 rfl rfl rfl (Nat.le_of_ble_eq_true rfl) dX8_cover_50 rfl ?_
        refine zj_if_eq 60 hC dX8_cover_53 (by decide) (fun c17 => ?_) (fun c17 => ?_)
        · have hf := z_iteT hf c17
          exact zj_sub hC [] rfl (hJ60 g15 hf)
        · have hf := z_iteF hf c17
          refine zj_iconst (v := 1) hC dX8_cover_56 (by decide) ?_
          refine zj_goto 61 hC dX8_cover_57 (by decide) ?_
          exact zj_sub hC [] rfl (hJ61 1 g15 hf)

def fM_X8_watch (a0 : Int32) (g : z_G) : Option (Int32 × z_G) := z_let (z_up g 0 0 0) (fun g1 => (if (g1 0 20) = 0 then z_let (z_up g1 0 24 (a0 &&& 16777215)) (fun g3 => z_bo 1 (some (1, g3))) else z_bo 0 (some (0, g1))))
theorem nM_X8_watch : yX8_watch.cls = RX8 ∧ yX8_watch.cls ≠ "java/lang/invoke/MethodHandle" ∧ yX8_watch.cls ≠ "java/lang/invoke/VarHandle" ∧ (parseMethodDescriptor yX8_watch.desc).map (fun d => d.parameters.length) = some 1 := by decide +kernel
set_option maxRecDepth 100000 in
set_option maxHeartbeats 4000000 in
theorem cM_X8_watch (l : Launch) (dC : Nat → ClassId) (dI : Nat → Nat → Nat) (ca : Nat → ClassId) (q : Nat → Nat) (Zt : z_ZT) (hZt : z_Zok Zt) (a0 : Int32) (g : z_G) (r : Int32) (g' : z_G) (hf : fM_X8_watch a0 g = some (r, g')) : z_C l yX8_watch wsX8_watch { frames := 0, cells := 0, slots := 0, locals := 0 } (dC, dI) (tyM ca) (wM ca q) Zt [.ref (q 0), .int a0] g (some r) g' := by
  refine z_enter (wM_ok ca q) hZt (by decide +kernel) rfl (Nat.le_of_ble_eq_true rfl) (fun J hC => ?_)
  have hC : z_Cx J l cX8_watch 2 wsX8_watch RX8 (some .boolean) { frames := 0, cells := 0, slots := 0, locals := 0 } (dC, dI) (tyM ca) (wM ca q) Zt (z_QI (dC, dI) (tyM ca) (wM ca q) (some r) g') z_X0 := hC
  show J 0 [(0, .ref (q 0)), (1, .int a0)] [] g
  have hX8 : ∀ w ∈ wsX80, w ∈ wsX8_watch := fun _ h => List.mem_cons_of_mem _ (List.mem_append_right _ (h))
  unfold fM_X8_watch at hf
  refine zj_aload_n 0 hC dX8_watch_0 rfl ?_
  refine zj_iconst (v := 0) hC dX8_watch_1 (by decide) ?_
  refine mp_0_0 hC hX8 (List.mem_of_getElem? (i := 1) rfl) dX8_watch_2 (fun g1 eg1 => ?_)
  have hf := z_letE hf eg1
  refine zj_aload_n 0 hC dX8_watch_5 rfl ?_
  refine mg_0_20 hC hX8 (List.mem_of_getElem? (i := 2) rfl) dX8_watch_6 ?_
  refine zj_if_eq 14 hC dX8_watch_9 (by decide) (fun c2 => ?_) (fun c2 => ?_)
  · have hf := z_iteT hf c2
    refine zj_aload_n 0 hC dX8_watch_14 rfl ?_
    refine zj_iload_n 1 hC dX8_watch_15 rfl ?_
    refine zj_ldc (v := 16777215) hC (List.mem_of_getElem? (i := 3) rfl) dX8_watch_16 ?_
    refine zj_iand hC dX8_watch_18 ?_
    refine mp_0_24 hC hX8 (List.mem_of_getElem? (i := 4) rfl) dX8_watch_19 (fun g3 eg3 => ?_)
    have hf := z_letE hf eg3
    refine zj_iconst (v := 1) hC dX8_watch_22 (by decide) ?_
    exact zj_zreturn hC hf dX8_watch_23
  · have hf := z_iteF hf c2
    refine zj_iconst (v := 0) hC dX8_watch_12 (by decide) ?_
    exact zj_zreturn hC hf dX8_watch_13

def fM_X8_away (a0 : Int32) (a1 : Int32) (g : z_G) : Option (Int32 × z_G) := z_let (if 0 ≤ ((a0 - a0 / 8 * 8) - (a1 - a1 / 8 * 8)) then (a0 - a0 / 8 * 8) - (a1 - a1 / 8 * 8) else 0 - ((a0 - a0 / 8 * 8) - (a1 - a1 / 8 * 8))) (fun y1 => z_let (if 0 ≤ ((a0 / 8) - (a1 / 8)) then (a0 / 8) - (a1 / 8) else 0 - ((a0 / 8) - (a1 / 8))) (fun y2 => some (y1 + y2, g)))
theorem nM_X8_away : yX8_away.cls ≠ "java/lang/invoke/MethodHandle" ∧ yX8_away.cls ≠ "java/lang/invoke/VarHandle" ∧ (parseMethodDescriptor yX8_away.desc).map (fun d => d.parameters.length) = some 2 := by decide +kernel
set_option maxRecDepth 100000 in
set_option maxHeartbeats 4000000 in
theorem cM_X8_away (l : Launch) (dC : Nat → ClassId) (dI : Nat → Nat → Nat) (ca : Nat → ClassId) (q : Nat → Nat) (Zt : z_ZT) (hZt : z_Zok Zt) (a0 : Int32) (a1 : Int32) (g : z_G) (r : Int32) (g' : z_G) (hf : fM_X8_away a0 a1 g = some (r, g')) : z_C l yX8_away wsX8_away { frames := 1, cells := 0, slots := 0, locals := 21 } (dC, dI) (tyM ca) (wM ca q) Zt [.int a0, .int a1] g (some r) g' := by
  refine z_enter (wM_ok ca q) hZt (by decide +kernel) rfl (Nat.le_of_ble_eq_true rfl) (fun J hC => ?_)
  have hC : z_Cx J l cX8_away 2 wsX8_away RX8 (some .int) { frames := 1, cells := 0, slots := 0, locals := 21 } (dC, dI) (tyM ca) (wM ca q) Zt (z_QI (dC, dI) (tyM ca) (wM ca q) (some r) g') z_X0 := hC
  show J 0 [(0, .int a0), (1, .int a1)] [] g
  unfold fM_X8_away at hf
  refine zj_iload_n 0 hC dX8_away_0 rfl ?_
  refine zj_bipush (v := 8) hC dX8_away_1 (by decide) ?_
  refine zj_irem hC dX8_away_3 (by decide) ?_
  refine zj_iload_n 1 hC dX8_away_4 rfl ?_
  refine zj_bipush (v := 8) hC dX8_away_5 (by decide) ?_
  refine zj_irem hC dX8_away_7 (by decide) ?_
  refine zj_isub hC dX8_away_8 ?_
  refine zj_abs hC (List.mem_of_getElem? (i := 1) rfl) (List.mem_of_getElem? (i := 2) rfl) (List.mem_of_getElem? (i := 3) rfl) (List.mem_of_getElem? (i := 4) rfl) (Nat.le_of_ble_eq_true rfl) (Nat.le_of_ble_eq_true rfl) dX8_away_9 ?_
  refine zj_top (fun y1 ey1 => ?_)
  have hf := z_letE hf ey1
  refine zj_iload_n 0 hC dX8_away_12 rfl ?_
  refine zj_bipush (v := 8) hC dX8_away_13 (by decide) ?_
  refine zj_idiv hC dX8_away_15 (by decide) ?_
  refine zj_iload_n 1 hC dX8_away_16 rfl ?_
  refine zj_bipush (v := 8) hC dX8_away_17 (by decide) ?_
  refine zj_idiv hC dX8_away_19 (by decide) ?_
  refine zj_isub hC dX8_away_20 ?_
  refine zj_abs hC (List.mem_of_getElem? (i := 1) rfl) (List.mem_of_getElem? (i := 2) rfl) (List.mem_of_getElem? (i := 3) rfl) (List.mem_of_getElem? (i := 4) rfl) (Nat.le_of_ble_eq_true rfl) (Nat.le_of_ble_eq_true rfl) dX8_away_21 ?_
  refine zj_top (fun y2 ey2 => ?_)
  have hf := z_letE hf ey2
  refine zj_iadd hC dX8_away_24 ?_
  exact zj_ireturn hC hf dX8_away_25

def fM_X8_isInside_29 (s0 : Int32) (g : z_G) : Option (Int32 × z_G) := z_bo s0 (some (s0, g))
def fM_X8_isInside_28  (g : z_G) : Option (Int32 × z_G) := fM_X8_isInside_29 0 g
def fM_X8_isInside (a0 : Int32) (g : z_G) : Option (Int32 × z_G) := z_bind (fM_X8_ringOf a0 g) (fun r1 g2 => (if (g2 0 1) ≤ r1 then fM_X8_isInside_28 g2 else z_bind (fM_X8_heightOf a0 g2) (fun r5 g6 => (if (g6 0 2) ≤ r5 then fM_X8_isInside_28 g6 else fM_X8_isInside_29 1 g6))))
theorem nM_X8_isInside : yX8_isInside.cls = RX8 ∧ yX8_isInside.cls ≠ "java/lang/invoke/MethodHandle" ∧ yX8_isInside.cls ≠ "java/lang/invoke/VarHandle" ∧ (parseMethodDescriptor yX8_isInside.desc).map (fun d => d.parameters.length) = some 1 := by decide +kernel
set_option maxRecDepth 100000 in
set_option maxHeartbeats 4000000 in
theorem cM_X8_isInside (l : Launch) (dC : Nat → ClassId) (dI : Nat → Nat → Nat) (ca : Nat → ClassId) (q : Nat → Nat) (Zt : z_ZT) (hZt : z_Zok Zt) (a0 : Int32) (g : z_G) (r : Int32) (g' : z_G) (hf : fM_X8_isInside a0 g = some (r, g')) : z_C l yX8_isInside wsX8_isInside { frames := 1, cells := 0, slots := 0, locals := 21 } (dC, dI) (tyM ca) (wM ca q) Zt [.ref (q 0), .int a0] g (some r) g' := by
  refine z_enter (wM_ok ca q) hZt (by decide +kernel) rfl (Nat.le_of_ble_eq_true rfl) (fun J hC => ?_)
  have hC : z_Cx J l cX8_isInside 2 wsX8_isInside RX8 (some .boolean) { frames := 1, cells := 0, slots := 0, locals := 21 } (dC, dI) (tyM ca) (wM ca q) Zt (z_QI (dC, dI) (tyM ca) (wM ca q) (some r) g') z_X0 := hC
  show J 0 [(0, .ref (q 0)), (1, .int a0)] [] g
  have hX8 : ∀ w ∈ wsX80, w ∈ wsX8_isInside := fun _ h => List.mem_cons_of_mem _ (List.mem_append_right _ (h))
  have hJ29 : ∀ (s0 : Int32) (g : z_G), fM_X8_isInside_29 s0 g = some (r, g') → J 29 [] [.int s0] g := by
    intro s0 g hf
    unfold fM_X8_isInside_29 at hf
    exact zj_zreturn hC hf dX8_isInside_29
  have hJ28 : ∀ (g : z_G), fM_X8_isInside_28 g = some (r, g') → J 28 [] [] g := by
    intro g hf
    unfold fM_X8_isInside_28 at hf
    refine zj_iconst (v := 0) hC dX8_isInside_28 (by decide) ?_
    exact (hJ29 0 g hf)
  unfold fM_X8_isInside at hf
  refine zj_aload_n 0 hC dX8_isInside_0 rfl ?_
  refine zj_iload_n 1 hC dX8_isInside_1 rfl ?_
  obtain ⟨r1, g2, hq3, hf⟩ := z_bindE hf
  refine zj_callVi [.int a0] hC (cM_X8_ringOf l dC dI ca q Zt hZt a0 g r1 g2 hq3) gX8_isInside_X8_ringOf rfl nM_X8_ringOf ⟨Nat.le_of_ble_eq_true rfl, Nat.le_of_ble_eq_true rfl⟩ 0 mo_0 rfl rfl rfl (Nat.le_of_ble_eq_true rfl) dX8_isInside_2 rfl ?_
  refine zj_aload_n 0 hC dX8_isInside_5 rfl ?_
  refine mg_0_1 hC hX8 (List.mem_of_getElem? (i := 1) rfl) dX8_isInside_6 ?_
  refine zj_icmp_ge 28 hC dX8_isInside_9 (by decide) (fun c4 => ?_) (fun c4 => ?_)
  · have hf := z_iteT hf c4
    exact zj_sub hC [] rfl (hJ28 g2 hf)
  · have hf := z_iteF hf c4
    refine zj_aload_n 0 hC dX8_isInside_12 rfl ?_
    refine zj_iload_n 1 hC dX8_isInside_13 rfl ?_
    obtain ⟨r5, g6, hq7, hf⟩ := z_bindE hf
    refine zj_callVi [.int a0] hC (cM_X8_heightOf l dC dI ca q Zt hZt a0 g2 r5 g6 hq7) gX8_isInside_X8_heightOf rfl nM_X8_heightOf ⟨Nat.le_of_ble_eq_true rfl, Nat.le_of_ble_eq_true rfl⟩ 0 mo_0 rfl rfl rfl (Nat.le_of_ble_eq_true rfl) dX8_isInside_14 rfl ?_
    refine zj_aload_n 0 hC dX8_isInside_17 rfl ?_
    refine mg_0_2 hC hX8 (List.mem_of_getElem? (i := 2) rfl) dX8_isInside_18 ?_
    refine zj_icmp_ge 28 hC dX8_isInside_21 (by decide) (fun c8 => ?_) (fun c8 => ?_)
    · have hf := z_iteT hf c8
      exact zj_sub hC [] rfl (hJ28 g6 hf)
    · have hf := z_iteF hf c8
      refine zj_iconst (v := 1) hC dX8_isInside_24 (by decide) ?_
      refine zj_goto 29 hC dX8_isInside_25 (by decide) ?_
      exact zj_sub hC [] rfl (hJ29 1 g6 hf)

def fM_X8_airOf_44 (k5 : Int32 × Int32 × Int32 × Int32 × z_G → Option (Int32 × z_G)) (x1 : Int32) (x2 : Int32) (x3 : Int32) (x4 : Int32) (g : z_G) : Option (Int32 × z_G) := z_let (x4 + 1) (fun y1 => k5 (x1, x2, x3, y1, g))
def fM_X8_airOf_103 (k53 : Int32 × Int32 × Int32 × Int32 × z_G → Option (Int32 × z_G)) (x1 : Int32) (x2 : Int32) (x3 : Int32) (x4 : Int32) (g : z_G) : Option (Int32 × z_G) := z_let (x4 + 1) (fun y2 => k53 (x1, x2, x3, y2, g))
def fM_X8_airOf_53 (k53 : Int32 × Int32 × Int32 × Int32 × z_G → Option (Int32 × z_G)) (x1 : Int32) (x2 : Int32) (x3 : Int32) (x4 : Int32) (g : z_G) : Option (Int32 × z_G) := (if 64 ≤ x4 then some (x3, g) else z_bind (fM_X8_isInside x4 g) (fun r4 g5 => (if r4 = 0 then fM_X8_airOf_103 k53 x1 x2 x3 x4 g5 else z_bind (fM_X8_isOutside x4 g5) (fun r8 g9 => (if r8 = 0 then fM_X8_airOf_103 k53 x1 x2 x3 x4 g9 else z_ck x4 64 ((if (g9 8 (Int32.toNatClampNeg x4)) = 0 then z_bind (fM_X8_away x1 x4 g9) (fun r14 g15 => z_let (if x3 < ((4 + x2) - r14) then (4 + x2) - r14 else x3) (fun y17 => fM_X8_airOf_103 k53 x1 x2 y17 x4 g15)) else fM_X8_airOf_103 k53 x1 x2 x3 x4 g9)))))))
def fM_X8_airOf_53_go (x1 : Int32) (x2 : Int32) (x3 : Int32) (x4 : Int32) (g : z_G) : Option (Int32 × z_G) := z_loop (fun k (w : Int32 × Int32 × Int32 × Int32 × z_G) => fM_X8_airOf_53 k w.1 w.2.1 w.2.2.1 w.2.2.2.1 w.2.2.2.2) z_fuel (x1, x2, x3, x4, g)
def fM_X8_airOf_5 (k5 : Int32 × Int32 × Int32 × Int32 × z_G → Option (Int32 × z_G)) (x1 : Int32) (x2 : Int32) (x3 : Int32) (x4 : Int32) (g : z_G) : Option (Int32 × z_G) := (if (g 0 13) ≤ x4 then fM_X8_airOf_53_go x1 x2 x3 0 g else z_ck x4 12 ((if (g 12 (Int32.toNatClampNeg x4)) = 0 then fM_X8_airOf_44 k5 x1 x2 x3 x4 g else z_ck x4 12 (z_bind (fM_X8_away x1 (g 11 (Int32.toNatClampNeg x4)) g) (fun r22 g23 => z_let (if x3 < ((4 + x2) - r22) then (4 + x2) - r22 else x3) (fun y25 => fM_X8_airOf_44 k5 x1 x2 y25 x4 g23))))))
def fM_X8_airOf_5_go (x1 : Int32) (x2 : Int32) (x3 : Int32) (x4 : Int32) (g : z_G) : Option (Int32 × z_G) := z_loop (fun k (w : Int32 × Int32 × Int32 × Int32 × z_G) => fM_X8_airOf_5 k w.1 w.2.1 w.2.2.1 w.2.2.2.1 w.2.2.2.2) z_fuel (x1, x2, x3, x4, g)
def fM_X8_airOf (a0 : Int32) (a1 : Int32) (g : z_G) : Option (Int32 × z_G) := fM_X8_airOf_5_go a0 a1 0 0 g
theorem nM_X8_airOf : yX8_airOf.cls = RX8 ∧ yX8_airOf.cls ≠ "java/lang/invoke/MethodHandle" ∧ yX8_airOf.cls ≠ "java/lang/invoke/VarHandle" ∧ (parseMethodDescriptor yX8_airOf.desc).map (fun d => d.parameters.length) = some 2 := by decide +kernel
set_option maxRecDepth 100000 in
set_option maxHeartbeats 4000000 in
theorem cM_X8_airOf (l : Launch) (dC : Nat → ClassId) (dI : Nat → Nat → Nat) (ca : Nat → ClassId) (q : Nat → Nat) (Zt : z_ZT) (hZt : z_Zok Zt) (a0 : Int32) (a1 : Int32) (g : z_G) (r : Int32) (g' : z_G) (hf : fM_X8_airOf a0 a1 g = some (r, g')) : z_C l yX8_airOf wsX8_airOf { frames := 2, cells := 0, slots := 0, locals := 42 } (dC, dI) (tyM ca) (wM ca q) Zt [.ref (q 0), .int a0, .int a1] g (some r) g' := by
  refine z_enter (wM_ok ca q) hZt (by decide +kernel) rfl (Nat.le_of_ble_eq_true rfl) (fun J hC => ?_)
  have hC : z_Cx J l cX8_airOf 5 wsX8_airOf RX8 (some .int) { frames := 2, cells := 0, slots := 0, locals := 42 } (dC, dI) (tyM ca) (wM ca q) Zt (z_QI (dC, dI) (tyM ca) (wM ca q) (some r) g') z_X0 := hC
  show J 0 [(0, .ref (q 0)), (1, .int a0), (2, .int a1)] [] g
  have hX8 : ∀ w ∈ wsX80, w ∈ wsX8_airOf := fun _ h => List.mem_cons_of_mem _ (List.mem_append_right _ (h))
  have hJ44 : ∀ (k5 : Int32 × Int32 × Int32 × Int32 × z_G → Option (Int32 × z_G)) (_ : ∀ w : Int32 × Int32 × Int32 × Int32 × z_G, k5 w = some (r, g') → J 5 [(0, .ref (q 0)), (1, .int w.1), (2, .int w.2.1), (3, .int w.2.2.1), (4, .int w.2.2.2.1)] [] w.2.2.2.2) (x1 : Int32) (x2 : Int32) (x3 : Int32) (x4 : Int32) (g : z_G), fM_X8_airOf_44 k5 x1 x2 x3 x4 g = some (r, g') → J 44 [(0, .ref (q 0)), (1, .int x1), (2, .int x2), (3, .int x3), (4, .int x4)] [] g := by
    intro k5 hk5 x1 x2 x3 x4 g hf
    unfold fM_X8_airOf_44 at hf
    refine zj_iinc (lv1 := fun v => [(4, .int v), (0, .ref (q 0)), (1, .int x1), (2, .int x2), (3, .int x3)]) 4 hC dX8_airOf_44 rfl (by decide) (fun _ => rfl) (fun y1 ey1 => ?_)
    have hf := z_letE hf (show y1 = x4 + 1 from ey1)
    refine zj_goto 5 hC dX8_airOf_47 (by decide) ?_
    exact zj_sub hC [1, 2, 3, 4, 0] rfl (hk5 (x1, x2, x3, y1, g) hf)
  have hJ103 : ∀ (k53 : Int32 × Int32 × Int32 × Int32 × z_G → Option (Int32 × z_G)) (_ : ∀ w : Int32 × Int32 × Int32 × Int32 × z_G, k53 w = some (r, g') → J 53 [(0, .ref (q 0)), (1, .int w.1), (2, .int w.2.1), (3, .int w.2.2.1), (4, .int w.2.2.2.1)] [] w.2.2.2.2) (x1 : Int32) (x2 : Int32) (x3 : Int32) (x4 : Int32) (g : z_G), fM_X8_airOf_103 k53 x1 x2 x3 x4 g = some (r, g') → J 103 [(0, .ref (q 0)), (1, .int x1), (2, .int x2), (3, .int x3), (4, .int x4)] [] g := by
    intro k53 hk53 x1 x2 x3 x4 g hf
    unfold fM_X8_airOf_103 at hf
    refine zj_iinc (lv1 := fun v => [(4, .int v), (0, .ref (q 0)), (1, .int x1), (2, .int x2), (3, .int x3)]) 4 hC dX8_airOf_103 rfl (by decide) (fun _ => rfl) (fun y2 ey2 => ?_)
    have hf := z_letE hf (show y2 = x4 + 1 from ey2)
    refine zj_goto 53 hC dX8_airOf_106 (by decide) ?_
    exact zj_sub hC [1, 2, 3, 4, 0] rfl (hk53 (x1, x2, x3, y2, g) hf)
  have hJ53 : ∀ (x1 : Int32) (x2 : Int32) (x3 : Int32) (x4 : Int32) (g : z_G), fM_X8_airOf_53_go x1 x2 x3 x4 g = some (r, g') → J 53 [(0, .ref (q 0)), (1, .int x1), (2, .int x2), (3, .int x3), (4, .int x4)] [] g := by
    intro x1 x2 x3 x4 g hf
    refine z_loopE (P := fun w : Int32 × Int32 × Int32 × Int32 × z_G => J 53 [(0, .ref (q 0)), (1, .int w.1), (2, .int w.2.1), (3, .int w.2.2.1), (4, .int w.2.2.2.1)] [] w.2.2.2.2) (fun k53 hk53 w hf => ?_) z_fuel (x1, x2, x3, x4, g) hf
    obtain ⟨x1, x2, x3, x4, g⟩ := w
    have hf : fM_X8_airOf_53 k53 x1 x2 x3 x4 g = some (r, g') := hf
    show J 53 [(0, .ref (q 0)), (1, .int x1), (2, .int x2), (3, .int x3), (4, .int x4)] [] g
    unfold fM_X8_airOf_53 at hf
    refine zj_iload 4 hC dX8_airOf_53 rfl ?_
    refine zj_bipush (v := 64) hC dX8_airOf_55 (by decide) ?_
    refine zj_icmp_ge 109 hC dX8_airOf_57 (by decide) (fun c3 => ?_) (fun c3 => ?_)
    · have hf := z_iteT hf c3
      refine zj_iload_n 3 hC dX8_airOf_109 rfl ?_
      exact zj_ireturn hC hf dX8_airOf_110
    · have hf := z_iteF hf c3
      refine zj_aload_n 0 hC dX8_airOf_60 rfl ?_
      refine zj_iload 4 hC dX8_airOf_61 rfl ?_
      obtain ⟨r4, g5, hq6, hf⟩ := z_bindE hf
      refine zj_callVi [.int x4] hC (cM_X8_isInside l dC dI ca q Zt hZt x4 g r4 g5 hq6) gX8_airOf_X8_isInside rfl nM_X8_isInside ⟨Nat.le_of_ble_eq_true rfl, Nat.le_of_ble_eq_true rfl⟩ 0 mo_0 rfl rfl rfl (Nat.le_of_ble_eq_true rfl) dX8_airOf_63 rfl ?_
      refine zj_if_eq 103 hC dX8_airOf_66 (by decide) (fun c7 => ?_) (fun c7 => ?_)
      · have hf := z_iteT hf c7
        exact (hJ103 k53 hk53 x1 x2 x3 x4 g5 hf)
      · have hf := z_iteF hf c7
        refine zj_aload_n 0 hC dX8_airOf_69 rfl ?_
        refine zj_iload 4 hC dX8_airOf_70 rfl ?_
        obtain ⟨r8, g9, hq10, hf⟩ := z_bindE hf
        refine zj_callVi [.int x4] hC (cM_X8_isOutside l dC dI ca q Zt hZt x4 g5 r8 g9 hq10) gX8_airOf_X8_isOutside rfl nM_X8_isOutside ⟨Nat.le_of_ble_eq_true rfl, Nat.le_of_ble_eq_true rfl⟩ 0 mo_0 rfl rfl rfl (Nat.le_of_ble_eq_true rfl) dX8_airOf_72 rfl ?_
        refine zj_if_eq 103 hC dX8_airOf_75 (by decide) (fun c11 => ?_) (fun c11 => ?_)
        · have hf := z_iteT hf c11
          exact (hJ103 k53 hk53 x1 x2 x3 x4 g9 hf)
        · have hf := z_iteF hf c11
          refine zj_aload_n 0 hC dX8_airOf_78 rfl ?_
          refine mg_0_10 hC hX8 (List.mem_of_getElem? (i := 8) rfl) dX8_airOf_79 ?_
          refine zj_iload 4 hC dX8_airOf_82 rfl ?_
          obtain ⟨hq12, hf⟩ := z_ckE hf
          refine ma_8 hC hq12 dX8_airOf_84 ?_
          refine zj_if_ne 103 hC dX8_airOf_85 (by decide) (fun c13 => ?_) (fun c13 => ?_)
          · have hf := z_iteF hf c13
            exact (hJ103 k53 hk53 x1 x2 x3 x4 g9 hf)
          · have hf := z_iteT hf c13
            refine zj_iload_n 3 hC dX8_airOf_88 rfl ?_
            refine zj_iconst (v := 4) hC dX8_airOf_89 (by decide) ?_
            refine zj_iload_n 2 hC dX8_airOf_90 rfl ?_
            refine zj_iadd hC dX8_airOf_91 ?_
            refine zj_iload_n 1 hC dX8_airOf_92 rfl ?_
            refine zj_iload 4 hC dX8_airOf_93 rfl ?_
            obtain ⟨r14, g15, hq16, hf⟩ := z_bindE hf
            refine zj_callSi [.int x1, .int x4] hC (cM_X8_away l dC dI ca q Zt hZt x1 x4 g9 r14 g15 hq16) gX8_airOf_X8_away rfl nM_X8_away ⟨Nat.le_of_ble_eq_true rfl, Nat.le_of_ble_eq_true rfl⟩ rfl (Nat.le_of_ble_eq_true rfl) dX8_airOf_95 rfl ?_
            refine zj_isub hC dX8_airOf_98 ?_
            refine zj_max hC (List.mem_of_getElem? (i := 4) rfl) (List.mem_of_getElem? (i := 5) rfl) (List.mem_of_getElem? (i := 6) rfl) (List.mem_of_getElem? (i := 7) rfl) (Nat.le_of_ble_eq_true rfl) (Nat.le_of_ble_eq_true rfl) dX8_airOf_99 ?_
            refine zj_top (fun y17 ey17 => ?_)
            have hf := z_letE hf ey17
            refine zj_istore_n (lv1 := [(3, .int y17), (0, .ref (q 0)), (1, .int x1), (2, .int x2), (4, .int x4)]) hC dX8_airOf_102 (by decide) rfl ?_
            exact zj_sub hC [1, 2, 3, 0, 4] rfl (hJ103 k53 hk53 x1 x2 y17 x4 g15 hf)
  have hJ5 : ∀ (x1 : Int32) (x2 : Int32) (x3 : Int32) (x4 : Int32) (g : z_G), fM_X8_airOf_5_go x1 x2 x3 x4 g = some (r, g') → J 5 [(0, .ref (q 0)), (1, .int x1), (2, .int x2), (3, .int x3), (4, .int x4)] [] g := by
    intro x1 x2 x3 x4 g hf
    refine z_loopE (P := fun w : Int32 × Int32 × Int32 × Int32 × z_G => J 5 [(0, .ref (q 0)), (1, .int w.1), (2, .int w.2.1), (3, .int w.2.2.1), (4, .int w.2.2.2.1)] [] w.2.2.2.2) (fun k5 hk5 w hf => ?_) z_fuel (x1, x2, x3, x4, g) hf
    obtain ⟨x1, x2, x3, x4, g⟩ := w
    have hf : fM_X8_airOf_5 k5 x1 x2 x3 x4 g = some (r, g') := hf
    show J 5 [(0, .ref (q 0)), (1, .int x1), (2, .int x2), (3, .int x3), (4, .int x4)] [] g
    unfold fM_X8_airOf_5 at hf
    refine zj_iload 4 hC dX8_airOf_5 rfl ?_
    refine zj_aload_n 0 hC dX8_airOf_7 rfl ?_
    refine mg_0_13 hC hX8 (List.mem_of_getElem? (i := 1) rfl) dX8_airOf_8 ?_
    refine zj_icmp_ge 50 hC dX8_airOf_11 (by decide) (fun c18 => ?_) (fun c18 => ?_)
    · have hf := z_iteT hf c18
      refine zj_iconst (v := 0) hC dX8_airOf_50 (by decide) ?_
      refine zj_istore (lv1 := [(4, .int 0), (0, .ref (q 0)), (1, .int x1), (2, .int x2), (3, .int x3)]) hC dX8_airOf_51 (by decide) rfl ?_
      exact zj_sub hC [1, 2, 3, 4, 0] rfl (hJ53 x1 x2 x3 0 g hf)
    · have hf := z_iteF hf c18
      refine zj_aload_n 0 hC dX8_airOf_14 rfl ?_
      refine mg_0_15 hC hX8 (List.mem_of_getElem? (i := 2) rfl) dX8_airOf_15 ?_
      refine zj_iload 4 hC dX8_airOf_18 rfl ?_
      obtain ⟨hq19, hf⟩ := z_ckE hf
      refine ma_12 hC hq19 dX8_airOf_20 ?_
      refine zj_if_eq 44 hC dX8_airOf_21 (by decide) (fun c20 => ?_) (fun c20 => ?_)
      · have hf := z_iteT hf c20
        exact (hJ44 k5 hk5 x1 x2 x3 x4 g hf)
      · have hf := z_iteF hf c20
        refine zj_iload_n 3 hC dX8_airOf_24 rfl ?_
        refine zj_iconst (v := 4) hC dX8_airOf_25 (by decide) ?_
        refine zj_iload_n 2 hC dX8_airOf_26 rfl ?_
        refine zj_iadd hC dX8_airOf_27 ?_
        refine zj_iload_n 1 hC dX8_airOf_28 rfl ?_
        refine zj_aload_n 0 hC dX8_airOf_29 rfl ?_
        refine mg_0_14 hC hX8 (List.mem_of_getElem? (i := 3) rfl) dX8_airOf_30 ?_
        refine zj_iload 4 hC dX8_airOf_33 rfl ?_
        obtain ⟨hq21, hf⟩ := z_ckE hf
        refine ma_11 hC hq21 dX8_airOf_35 ?_
        obtain ⟨r22, g23, hq24, hf⟩ := z_bindE hf
        refine zj_callSi [.int x1, .int (g 11 (Int32.toNatClampNeg x4))] hC (cM_X8_away l dC dI ca q Zt hZt x1 (g 11 (Int32.toNatClampNeg x4)) g r22 g23 hq24) gX8_airOf_X8_away rfl nM_X8_away ⟨Nat.le_of_ble_eq_true rfl, Nat.le_of_ble_eq_true rfl⟩ rfl (Nat.le_of_ble_eq_true rfl) dX8_airOf_36 rfl ?_
        refine zj_isub hC dX8_airOf_39 ?_
        refine zj_max hC (List.mem_of_getElem? (i := 4) rfl) (List.mem_of_getElem? (i := 5) rfl) (List.mem_of_getElem? (i := 6) rfl) (List.mem_of_getElem? (i := 7) rfl) (Nat.le_of_ble_eq_true rfl) (Nat.le_of_ble_eq_true rfl) dX8_airOf_40 ?_
        refine zj_top (fun y25 ey25 => ?_)
        have hf := z_letE hf ey25
        refine zj_istore_n (lv1 := [(3, .int y25), (0, .ref (q 0)), (1, .int x1), (2, .int x2), (4, .int x4)]) hC dX8_airOf_43 (by decide) rfl ?_
        exact zj_sub hC [1, 2, 3, 0, 4] rfl (hJ44 k5 hk5 x1 x2 y25 x4 g23 hf)
  unfold fM_X8_airOf at hf
  refine zj_iconst (v := 0) hC dX8_airOf_0 (by decide) ?_
  refine zj_istore_n (lv1 := [(3, .int 0), (0, .ref (q 0)), (1, .int a0), (2, .int a1)]) hC dX8_airOf_1 (by decide) rfl ?_
  refine zj_iconst (v := 0) hC dX8_airOf_2 (by decide) ?_
  refine zj_istore (lv1 := [(4, .int 0), (3, .int 0), (0, .ref (q 0)), (1, .int a0), (2, .int a1)]) hC dX8_airOf_3 (by decide) rfl ?_
  exact zj_sub hC [2, 3, 4, 1, 0] rfl (hJ5 a0 a1 0 0 g hf)

def fM_X8_burns_248 (s0 : Int32) (s1 : Int32) (x3 : Int32) (g : z_G) : Option (Int32 × z_G) := z_ck s1 64 (z_let (z_up g 5 (Int32.toNatClampNeg s1) (vp_nar .boolean s0)) (fun g2 => some (x3, g2)))
def fM_X8_burns_243 (s0 : Int32) (x3 : Int32) (g : z_G) : Option (Int32 × z_G) := fM_X8_burns_248 1 s0 x3 g
def fM_X8_burns_247 (s0 : Int32) (x3 : Int32) (g : z_G) : Option (Int32 × z_G) := fM_X8_burns_248 0 s0 x3 g
def fM_X8_burns_211 (x1 : Int32) (x3 : Int32) (g : z_G) : Option (Int32 × z_G) := z_ck x1 64 ((if (g 4 (Int32.toNatClampNeg x1)) ≤ 0 then fM_X8_burns_247 x1 x3 g else z_ck x1 64 ((if 0 < (g 1 (Int32.toNatClampNeg x1)) then fM_X8_burns_243 x1 x3 g else z_ck x1 64 ((if (g 2 (Int32.toNatClampNeg x1)) ≤ 0 then fM_X8_burns_247 x1 x3 g else fM_X8_burns_243 x1 x3 g))))))
def fM_X8_burns (a0 : Int32) (g : z_G) : Option (Int32 × z_G) := z_ck a0 64 (z_let (g 9 (Int32.toNatClampNeg a0)) (fun y10 => (if y10 = 0 then z_ck a0 64 (z_let (if 0 < ((g 4 (Int32.toNatClampNeg a0)) - 50) then (g 4 (Int32.toNatClampNeg a0)) - 50 else 0) (fun y54 => z_ck a0 64 (z_let (z_up g 4 (Int32.toNatClampNeg a0) y54) (fun g56 => fM_X8_burns_211 a0 0 g56)))) else z_ck a0 64 ((if (g 3 (Int32.toNatClampNeg a0)) ≤ 0 then z_ck a0 64 (z_ck a0 64 (z_bind (fM_X8_rate (g 6 (Int32.toNatClampNeg a0)) g) (fun r16 g17 => z_bind (fM_X8_share a0 g17) (fun r19 g20 => z_let (if ((r16 * y10) * r19) < (g 1 (Int32.toNatClampNeg a0)) then (r16 * y10) * r19 else g 1 (Int32.toNatClampNeg a0)) (fun y22 => z_ck a0 64 (z_bind (fM_X8_yieldOf (g20 6 (Int32.toNatClampNeg a0)) g20) (fun r24 g25 => z_let ((y22 * r24) / 100) (fun y27 => z_ck a0 64 (z_ck a0 64 (z_let (z_up g25 1 (Int32.toNatClampNeg a0) ((g25 1 (Int32.toNatClampNeg a0)) - y22)) (fun g30 => z_ck a0 64 (z_ck a0 64 (z_let (z_up g30 2 (Int32.toNatClampNeg a0) ((g30 2 (Int32.toNatClampNeg a0)) + y27)) (fun g33 => z_let (y22 - y27) (fun y34 => z_ck a0 64 (z_let (if ((g33 4 (Int32.toNatClampNeg a0)) + (40 * y10)) < 1000 then (g33 4 (Int32.toNatClampNeg a0)) + (40 * y10) else 1000) (fun y36 => z_ck a0 64 (z_let (z_up g33 4 (Int32.toNatClampNeg a0) y36) (fun g38 => (if y10 ≤ 3 then fM_X8_burns_211 a0 y34 g38 else z_ck a0 64 (z_bind (fM_X8_share a0 g38) (fun r41 g42 => z_let (if ((5 * r41) * (y10 - 3)) < (g38 2 (Int32.toNatClampNeg a0)) then (5 * r41) * (y10 - 3) else g38 2 (Int32.toNatClampNeg a0)) (fun y44 => z_ck a0 64 (z_ck a0 64 (z_let (z_up g42 2 (Int32.toNatClampNeg a0) ((g42 2 (Int32.toNatClampNeg a0)) - y44)) (fun g47 => z_let (z_up g47 0 23 ((g47 0 23) + y44)) (fun g48 => fM_X8_burns_211 a0 y34 g48))))))))))))))))))))))))))) else z_ck a0 64 (z_let (if 0 < ((g 3 (Int32.toNatClampNeg a0)) - (10 * y10)) then (g 3 (Int32.toNatClampNeg a0)) - (10 * y10) else 0) (fun y50 => z_ck a0 64 (z_let (z_up g 3 (Int32.toNatClampNeg a0) y50) (fun g52 => fM_X8_burns_211 a0 0 g52)))))))))
theorem nM_X8_burns : yX8_burns.cls = RX8 ∧ yX8_burns.cls ≠ "java/lang/invoke/MethodHandle" ∧ yX8_burns.cls ≠ "java/lang/invoke/VarHandle" ∧ (parseMethodDescriptor yX8_burns.desc).map (fun d => d.parameters.length) = some 1 := by decide +kernel
set_option maxRecDepth 100000 in
set_option maxHeartbeats 4000000 in
theorem cM_X8_burns (l : Launch) (dC : Nat → ClassId) (dI : Nat → Nat → Nat) (ca : Nat → ClassId) (q : Nat → Nat) (Zt : z_ZT) (hZt : z_Zok Zt) (a0 : Int32) (g : z_G) (r : Int32) (g' : z_G) (hf : fM_X8_burns a0 g = some (r, g')) : z_C l yX8_burns wsX8_burns { frames := 1, cells := 0, slots := 0, locals := 21 } (dC, dI) (tyM ca) (wM ca q) Zt [.ref (q 0), .int a0] g (some r) g' := by
  refine z_enter (wM_ok ca q) hZt (by decide +kernel) rfl (Nat.le_of_ble_eq_true rfl) (fun J hC => ?_)
  have hC : z_Cx J l cX8_burns 7 wsX8_burns RX8 (some .int) { frames := 1, cells := 0, slots := 0, locals := 21 } (dC, dI) (tyM ca) (wM ca q) Zt (z_QI (dC, dI) (tyM ca) (wM ca q) (some r) g') z_X0 := hC
  show J 0 [(0, .ref (q 0)), (1, .int a0)] [] g
  have hX8 : ∀ w ∈ wsX80, w ∈ wsX8_burns := fun _ h => List.mem_cons_of_mem _ (List.mem_append_right _ (h))
  have hJ248 : ∀ (s0 : Int32) (s1 : Int32) (x3 : Int32) (g : z_G), fM_X8_burns_248 s0 s1 x3 g = some (r, g') → J 248 [(3, .int x3)] [.int s0, .int s1, .ref (q 5)] g := by
    intro s0 s1 x3 g hf
    unfold fM_X8_burns_248 at hf
    obtain ⟨hq1, hf⟩ := z_ckE hf
    refine ms_5 hC hq1 dX8_burns_248 (fun g2 eg2 => ?_)
    have hf := z_letE hf eg2
    refine zj_iload_n 0 hC dX8_burns_249 rfl ?_
    exact zj_ireturn hC hf dX8_burns_250
  have hJ243 : ∀ (s0 : Int32) (x3 : Int32) (g : z_G), fM_X8_burns_243 s0 x3 g = some (r, g') → J 243 [(3, .int x3)] [.int s0, .ref (q 5)] g := by
    intro s0 x3 g hf
    unfold fM_X8_burns_243 at hf
    refine zj_iconst (v := 1) hC dX8_burns_243 (by decide) ?_
    refine zj_goto 248 hC dX8_burns_244 (by decide) ?_
    exact (hJ248 1 s0 x3 g hf)
  have hJ247 : ∀ (s0 : Int32) (x3 : Int32) (g : z_G), fM_X8_burns_247 s0 x3 g = some (r, g') → J 247 [(3, .int x3)] [.int s0, .ref (q 5)] g := by
    intro s0 x3 g hf
    unfold fM_X8_burns_247 at hf
    refine zj_iconst (v := 0) hC dX8_burns_247 (by decide) ?_
    exact (hJ248 0 s0 x3 g hf)
  have hJ211 : ∀ (x1 : Int32) (x3 : Int32) (g : z_G), fM_X8_burns_211 x1 x3 g = some (r, g') → J 211 [(0, .ref (q 0)), (1, .int x1), (3, .int x3)] [] g := by
    intro x1 x3 g hf
    unfold fM_X8_burns_211 at hf
    refine zj_aload_n 0 hC dX8_burns_211 rfl ?_
    refine mg_0_7 hC hX8 (List.mem_of_getElem? (i := 15) rfl) dX8_burns_212 ?_
    refine zj_iload_n 1 hC dX8_burns_215 rfl ?_
    refine zj_aload_n 0 hC dX8_burns_216 rfl ?_
    refine mg_0_6 hC hX8 (List.mem_of_getElem? (i := 2) rfl) dX8_burns_217 ?_
    refine zj_iload_n 1 hC dX8_burns_220 rfl ?_
    obtain ⟨hq3, hf⟩ := z_ckE hf
    refine ma_4 hC hq3 dX8_burns_221 ?_
    refine zj_if_le 247 hC dX8_burns_222 (by decide) (fun c4 => ?_) (fun c4 => ?_)
    · have hf := z_iteT hf c4
      exact zj_sub hC [2] rfl (hJ247 x1 x3 g hf)
    · have hf := z_iteF hf c4
      refine zj_aload_n 0 hC dX8_burns_225 rfl ?_
      refine mg_0_3 hC hX8 (List.mem_of_getElem? (i := 8) rfl) dX8_burns_226 ?_
      refine zj_iload_n 1 hC dX8_burns_229 rfl ?_
      obtain ⟨hq5, hf⟩ := z_ckE hf
      refine ma_1 hC hq5 dX8_burns_230 ?_
      refine zj_if_gt 243 hC dX8_burns_231 (by decide) (fun c6 => ?_) (fun c6 => ?_)
      · have hf := z_iteT hf c6
        exact zj_sub hC [2] rfl (hJ243 x1 x3 g hf)
      · have hf := z_iteF hf c6
        refine zj_aload_n 0 hC dX8_burns_234 rfl ?_
        refine mg_0_4 hC hX8 (List.mem_of_getElem? (i := 13) rfl) dX8_burns_235 ?_
        refine zj_iload_n 1 hC dX8_burns_238 rfl ?_
        obtain ⟨hq7, hf⟩ := z_ckE hf
        refine ma_2 hC hq7 dX8_burns_239 ?_
        refine zj_if_le 247 hC dX8_burns_240 (by decide) (fun c8 => ?_) (fun c8 => ?_)
        · have hf := z_iteT hf c8
          exact zj_sub hC [2] rfl (hJ247 x1 x3 g hf)
        · have hf := z_iteF hf c8
          exact zj_sub hC [2] rfl (hJ243 x1 x3 g hf)
  unfold fM_X8_burns at hf
  refine zj_aload_n 0 hC dX8_burns_0 rfl ?_
  refine mg_0_11 hC hX8 (List.mem_of_getElem? (i := 1) rfl) dX8_burns_1 ?_
  refine zj_iload_n 1 hC dX8_burns_4 rfl ?_
  obtain ⟨hq9, hf⟩ := z_ckE hf
  refine ma_9 hC hq9 dX8_burns_5 ?_
  refine zj_top (fun y10 ey10 => ?_)
  have hf := z_letE hf ey10
  refine zj_istore_n (lv1 := [(2, .int y10), (0, .ref (q 0)), (1, .int a0)]) hC dX8_burns_6 (by decide) rfl ?_
  refine zj_iconst (v := 0) hC dX8_burns_7 (by decide) ?_
  refine zj_istore_n (lv1 := [(3, .int 0), (2, .int y10), (0, .ref (q 0)), (1, .int a0)]) hC dX8_burns_8 (by decide) rfl ?_
  refine zj_iload_n 1 hC dX8_burns_9 rfl ?_
  refine zj_if_ne 35 hC dX8_burns_10 (by decide) (fun c11 => ?_) (fun c11 => ?_)
  · have hf := z_iteF hf c11
    refine zj_aload_n 2 hC dX8_burns_35 rfl ?_
    refine mg_0_5 hC hX8 (List.mem_of_getElem? (i := 7) rfl) dX8_burns_36 ?_
    refine zj_iload_n 3 hC dX8_burns_39 rfl ?_
    obtain ⟨hq12, hf⟩ := z_ckE hf
    refine ma_3 hC hq12 dX8_burns_40 ?_
    refine zj_if_le 68 hC dX8_burns_41 (by decide) (fun c13 => ?_) (fun c13 => ?_)
    · have hf := z_iteT hf c13
      refine zj_aload_n 2 hC dX8_burns_68 rfl ?_
      refine mg_0_3 hC hX8 (List.mem_of_getElem? (i := 8) rfl) dX8_burns_69 ?_
      refine zj_iload_n 3 hC dX8_burns_72 rfl ?_
      obtain ⟨hq14, hf⟩ := z_ckE hf
      refine ma_1 hC hq14 dX8_burns_73 ?_
      refine zj_aload_n 2 hC dX8_burns_74 rfl ?_
      refine mg_0_8 hC hX8 (List.mem_of_getElem? (i := 9) rfl) dX8_burns_75 ?_
      refine zj_iload_n 3 hC dX8_burns_78 rfl ?_
      obtain ⟨hq15, hf⟩ := z_ckE hf
      refine ma_6 hC hq15 dX8_burns_79 ?_
      obtain ⟨r16, g17, hq18, hf⟩ := z_bindE hf
      refine zj_callSi [.int (g 6 (Int32.toNatClampNeg a0))] hC (cM_X8_rate l dC dI ca q Zt hZt (g 6 (Int32.toNatClampNeg a0)) g r16 g17 hq18) gX8_burns_X8_rate rfl nM_X8_rate ⟨Nat.le_of_ble_eq_true rfl, Nat.le_of_ble_eq_true rfl⟩ rfl (Nat.le_of_ble_eq_true rfl) dX8_burns_80 rfl ?_
      refine zj_iload_n 1 hC dX8_burns_83 rfl ?_
      refine zj_imul hC dX8_burns_84 ?_
      refine zj_iload_n 3 hC dX8_burns_85 rfl ?_
      obtain ⟨r19, g20, hq21, hf⟩ := z_bindE hf
      refine zj_callSi [.int a0] hC (cM_X8_share l dC dI ca q Zt hZt a0 g17 r19 g20 hq21) gX8_burns_X8_share rfl nM_X8_share ⟨Nat.le_of_ble_eq_true rfl, Nat.le_of_ble_eq_true rfl⟩ rfl (Nat.le_of_ble_eq_true rfl) dX8_burns_86 rfl ?_
      refine zj_imul hC dX8_burns_89 ?_
      refine zj_min hC (List.mem_of_getElem? (i := 10) rfl) (List.mem_of_getElem? (i := 11) rfl) (List.mem_of_getElem? (i := 5) rfl) (List.mem_of_getElem? (i := 12) rfl) (Nat.le_of_ble_eq_true rfl) (Nat.le_of_ble_eq_true rfl) dX8_burns_90 ?_
      refine zj_top (fun y22 ey22 => ?_)
      have hf := z_letE hf ey22
      refine zj_istore (lv1 := [(4, .int y22), (3, .int 0), (2, .int y10), (0, .ref (q 0)), (1, .int a0)]) hC dX8_burns_93 (by decide) rfl ?_
      refine zj_iload 0 hC dX8_burns_95 rfl ?_
      refine zj_aload_n 3 hC dX8_burns_97 rfl ?_
      refine mg_0_8 hC hX8 (List.mem_of_getElem? (i := 9) rfl) dX8_burns_98 ?_
      refine zj_iload_n 4 hC dX8_burns_101 rfl ?_
      obtain ⟨hq23, hf⟩ := z_ckE hf
      refine ma_6 hC hq23 dX8_burns_102 ?_
      obtain ⟨r24, g25, hq26, hf⟩ := z_bindE hf
      refine zj_callSi [.int (g20 6 (Int32.toNatClampNeg a0))] hC (cM_X8_yieldOf l dC dI ca q Zt hZt (g20 6 (Int32.toNatClampNeg a0)) g20 r24 g25 hq26) gX8_burns_X8_yieldOf rfl nM_X8_yieldOf ⟨Nat.le_of_ble_eq_true rfl, Nat.le_of_ble_eq_true rfl⟩ rfl (Nat.le_of_ble_eq_true rfl) dX8_burns_103 rfl ?_
      refine zj_imul hC dX8_burns_106 ?_
      refine zj_bipush (v := 100) hC dX8_burns_107 (by decide) ?_
      refine zj_idiv hC dX8_burns_109 (by decide) ?_
      refine zj_top (fun y27 ey27 => ?_)
      have hf := z_letE hf ey27
      refine zj_istore (lv1 := [(5, .int y27), (4, .int y22), (3, .int 0), (2, .int y10), (0, .ref (q 0)), (1, .int a0)]) hC dX8_burns_110 (by decide) rfl ?_
      refine zj_aload_n 4 hC dX8_burns_112 rfl ?_
      refine mg_0_3 hC hX8 (List.mem_of_getElem? (i := 8) rfl) dX8_burns_113 ?_
      refine zj_iload_n 5 hC dX8_burns_116 rfl ?_
      refine zj_dup2 hC dX8_burns_117 rfl rfl ?_
      obtain ⟨hq28, hf⟩ := z_ckE hf
      refine ma_1 hC hq28 dX8_burns_118 ?_
      refine zj_iload 1 hC dX8_burns_119 rfl ?_
      refine zj_isub hC dX8_burns_121 ?_
      obtain ⟨hq29, hf⟩ := z_ckE hf
      refine ms_1 hC hq29 dX8_burns_122 (fun g30 eg30 => ?_)
      have hf := z_letE hf eg30
      refine zj_aload_n 4 hC dX8_burns_123 rfl ?_
      refine mg_0_4 hC hX8 (List.mem_of_getElem? (i := 13) rfl) dX8_burns_124 ?_
      refine zj_iload_n 5 hC dX8_burns_127 rfl ?_
      refine zj_dup2 hC dX8_burns_128 rfl rfl ?_
      obtain ⟨hq31, hf⟩ := z_ckE hf
      refine ma_2 hC hq31 dX8_burns_129 ?_
      refine zj_iload 0 hC dX8_burns_130 rfl ?_
      refine zj_iadd hC dX8_burns_132 ?_
      obtain ⟨hq32, hf⟩ := z_ckE hf
      refine ms_2 hC hq32 dX8_burns_133 (fun g33 eg33 => ?_)
      have hf := z_letE hf eg33
      refine zj_iload 1 hC dX8_burns_134 rfl ?_
      refine zj_iload 0 hC dX8_burns_136 rfl ?_
      refine zj_isub hC dX8_burns_138 ?_
      refine zj_top (fun y34 ey34 => ?_)
      have hf := z_letE hf ey34
      refine zj_istore_n (lv1 := [(3, .int y34), (5, .int y27), (4, .int y22), (2, .int y10), (0, .ref (q 0)), (1, .int a0)]) hC dX8_burns_139 (by decide) rfl ?_
      refine zj_aload_n 4 hC dX8_burns_140 rfl ?_
      refine mg_0_6 hC hX8 (List.mem_of_getElem? (i := 2) rfl) dX8_burns_141 ?_
      refine zj_iload_n 5 hC dX8_burns_144 rfl ?_
      refine zj_sipush (v := 1000) hC dX8_burns_145 (by decide) ?_
      refine zj_aload_n 4 hC dX8_burns_148 rfl ?_
      refine mg_0_6 hC hX8 (List.mem_of_getElem? (i := 2) rfl) dX8_burns_149 ?_
      refine zj_iload_n 5 hC dX8_burns_152 rfl ?_
      obtain ⟨hq35, hf⟩ := z_ckE hf
      refine ma_4 hC hq35 dX8_burns_153 ?_
      refine zj_bipush (v := 40) hC dX8_burns_154 (by decide) ?_
      refine zj_iload_n 3 hC dX8_burns_156 rfl ?_
      refine zj_imul hC dX8_burns_157 ?_
      refine zj_iadd hC dX8_burns_158 ?_
      refine zj_min hC (List.mem_of_getElem? (i := 10) rfl) (List.mem_of_getElem? (i := 11) rfl) (List.mem_of_getElem? (i := 5) rfl) (List.mem_of_getElem? (i := 12) rfl) (Nat.le_of_ble_eq_true rfl) (Nat.le_of_ble_eq_true rfl) dX8_burns_159 ?_
      refine zj_top (fun y36 ey36 => ?_)
      have hf := z_letE hf ey36
      obtain ⟨hq37, hf⟩ := z_ckE hf
      refine ms_4 hC hq37 dX8_burns_162 (fun g38 eg38 => ?_)
      have hf := z_letE hf eg38
      refine zj_iload_n 3 hC dX8_burns_163 rfl ?_
      refine zj_iconst (v := 3) hC dX8_burns_164 (by decide) ?_
      refine zj_icmp_le 211 hC dX8_burns_165 (by decide) (fun c39 => ?_) (fun c39 => ?_)
      · have hf := z_iteT hf c39
        exact zj_sub hC [4, 5, 0] rfl (hJ211 a0 y34 g38 hf)
      · have hf := z_iteF hf c39
        refine zj_aload_n 4 hC dX8_burns_168 rfl ?_
        refine mg_0_4 hC hX8 (List.mem_of_getElem? (i := 13) rfl) dX8_burns_169 ?_
        refine zj_iload_n 5 hC dX8_burns_172 rfl ?_
        obtain ⟨hq40, hf⟩ := z_ckE hf
        refine ma_2 hC hq40 dX8_burns_173 ?_
        refine zj_iconst (v := 5) hC dX8_burns_174 (by decide) ?_
        refine zj_iload_n 5 hC dX8_burns_175 rfl ?_
        obtain ⟨r41, g42, hq43, hf⟩ := z_bindE hf
        refine zj_callSi [.int a0] hC (cM_X8_share l dC dI ca q Zt hZt a0 g38 r41 g42 hq43) gX8_burns_X8_share rfl nM_X8_share ⟨Nat.le_of_ble_eq_true rfl, Nat.le_of_ble_eq_true rfl⟩ rfl (Nat.le_of_ble_eq_true rfl) dX8_burns_176 rfl ?_
        refine zj_imul hC dX8_burns_179 ?_
        refine zj_iload_n 3 hC dX8_burns_180 rfl ?_
        refine zj_iconst (v := 3) hC dX8_burns_181 (by decide) ?_
        refine zj_isub hC dX8_burns_182 ?_
        refine zj_imul hC dX8_burns_183 ?_
        refine zj_min hC (List.mem_of_getElem? (i := 10) rfl) (List.mem_of_getElem? (i := 11) rfl) (List.mem_of_getElem? (i := 5) rfl) (List.mem_of_getElem? (i := 12) rfl) (Nat.le_of_ble_eq_true rfl) (Nat.le_of_ble_eq_true rfl) dX8_burns_184 ?_
        refine zj_top (fun y44 ey44 => ?_)
        have hf := z_letE hf ey44
        refine zj_istore (lv1 := [(6, .int y44), (3, .int y34), (5, .int y27), (4, .int y22), (2, .int y10), (0, .ref (q 0)), (1, .int a0)]) hC dX8_burns_187 (by decide) rfl ?_
        refine zj_aload_n 5 hC dX8_burns_189 rfl ?_
        refine mg_0_4 hC hX8 (List.mem_of_getElem? (i := 13) rfl) dX8_burns_190 ?_
        refine zj_iload_n 6 hC dX8_burns_193 rfl ?_
        refine zj_dup2 hC dX8_burns_194 rfl rfl ?_
        obtain ⟨hq45, hf⟩ := z_ckE hf
        refine ma_2 hC hq45 dX8_burns_195 ?_
        refine zj_iload 0 hC dX8_burns_196 rfl ?_
        refine zj_isub hC dX8_burns_198 ?_
        obtain ⟨hq46, hf⟩ := z_ckE hf
        refine ms_2 hC hq46 dX8_burns_199 (fun g47 eg47 => ?_)
        have hf := z_letE hf eg47
        refine zj_aload_n 5 hC dX8_burns_200 rfl ?_
        refine zj_dup hC dX8_burns_201 rfl ?_
        refine mg_0_23 hC hX8 (List.mem_of_getElem? (i := 14) rfl) dX8_burns_202 ?_
        refine zj_iload 0 hC dX8_burns_205 rfl ?_
        refine zj_iadd hC dX8_burns_207 ?_
        refine mp_0_23 hC hX8 (List.mem_of_getElem? (i := 14) rfl) dX8_burns_208 (fun g48 eg48 => ?_)
        have hf := z_letE hf eg48
        exact zj_sub hC [5, 6, 1] rfl (hJ211 a0 y34 g48 hf)
    · have hf := z_iteF hf c13
      refine zj_aload_n 2 hC dX8_burns_44 rfl ?_
      refine mg_0_5 hC hX8 (List.mem_of_getElem? (i := 7) rfl) dX8_burns_45 ?_
      refine zj_iload_n 3 hC dX8_burns_48 rfl ?_
      refine zj_iconst (v := 0) hC dX8_burns_49 (by decide) ?_
      refine zj_aload_n 2 hC dX8_burns_50 rfl ?_
      refine mg_0_5 hC hX8 (List.mem_of_getElem? (i := 7) rfl) dX8_burns_51 ?_
      refine zj_iload_n 3 hC dX8_burns_54 rfl ?_
      obtain ⟨hq49, hf⟩ := z_ckE hf
      refine ma_3 hC hq49 dX8_burns_55 ?_
      refine zj_bipush (v := 10) hC dX8_burns_56 (by decide) ?_
      refine zj_iload_n 1 hC dX8_burns_58 rfl ?_
      refine zj_imul hC dX8_burns_59 ?_
      refine zj_isub hC dX8_burns_60 ?_
      refine zj_max hC (List.mem_of_getElem? (i := 3) rfl) (List.mem_of_getElem? (i := 4) rfl) (List.mem_of_getElem? (i := 5) rfl) (List.mem_of_getElem? (i := 6) rfl) (Nat.le_of_ble_eq_true rfl) (Nat.le_of_ble_eq_true rfl) dX8_burns_61 ?_
      refine zj_top (fun y50 ey50 => ?_)
      have hf := z_letE hf ey50
      obtain ⟨hq51, hf⟩ := z_ckE hf
      refine ms_3 hC hq51 dX8_burns_64 (fun g52 eg52 => ?_)
      have hf := z_letE hf eg52
      refine zj_goto 211 hC dX8_burns_65 (by decide) ?_
      exact zj_sub hC [2, 3, 0] rfl (hJ211 a0 0 g52 hf)
  · have hf := z_iteT hf c11
    refine zj_aload_n 2 hC dX8_burns_13 rfl ?_
    refine mg_0_6 hC hX8 (List.mem_of_getElem? (i := 2) rfl) dX8_burns_14 ?_
    refine zj_iload_n 3 hC dX8_burns_17 rfl ?_
    refine zj_iconst (v := 0) hC dX8_burns_18 (by decide) ?_
    refine zj_aload_n 2 hC dX8_burns_19 rfl ?_
    refine mg_0_6 hC hX8 (List.mem_of_getElem? (i := 2) rfl) dX8_burns_20 ?_
    refine zj_iload_n 3 hC dX8_burns_23 rfl ?_
    obtain ⟨hq53, hf⟩ := z_ckE hf
    refine ma_4 hC hq53 dX8_burns_24 ?_
    refine zj_bipush (v := 50) hC dX8_burns_25 (by decide) ?_
    refine zj_isub hC dX8_burns_27 ?_
    refine zj_max hC (List.mem_of_getElem? (i := 3) rfl) (List.mem_of_getElem? (i := 4) rfl) (List.mem_of_getElem? (i := 5) rfl) (List.mem_of_getElem? (i := 6) rfl) (Nat.le_of_ble_eq_true rfl) (Nat.le_of_ble_eq_true rfl) dX8_burns_28 ?_
    refine zj_top (fun y54 ey54 => ?_)
    have hf := z_letE hf ey54
    obtain ⟨hq55, hf⟩ := z_ckE hf
    refine ms_4 hC hq55 dX8_burns_31 (fun g56 eg56 => ?_)
    have hf := z_letE hf eg56
    refine zj_goto 211 hC dX8_burns_32 (by decide) ?_
    exact zj_sub hC [2, 3, 0] rfl (hJ211 a0 0 g56 hf)

def fM_X8_warms_47 (k4 : Int32 × Int32 × Int32 × z_G → Option (Int32 × z_G)) (s0 : Int32) (s1 : Int32) (x1 : Int32) (x3 : Int32) (g : z_G) : Option (Int32 × z_G) := z_let (s1 + s0) (fun y1 => z_let (x3 + 1) (fun y2 => k4 (x1, y1, y2, g)))
def fM_X8_warms_46 (k4 : Int32 × Int32 × Int32 × z_G → Option (Int32 × z_G)) (s0 : Int32) (x1 : Int32) (x3 : Int32) (g : z_G) : Option (Int32 × z_G) := fM_X8_warms_47 k4 0 s0 x1 x3 g
def fM_X8_warms_100 (s0 : Int32) (s1 : Int32) (g : z_G) : Option (Int32 × z_G) := z_ck s1 64 (z_let (z_up g 5 (Int32.toNatClampNeg s1) (vp_nar .boolean s0)) (fun g4 => some (0, g4)))
def fM_X8_warms_4 (k4 : Int32 × Int32 × Int32 × z_G → Option (Int32 × z_G)) (x1 : Int32) (x2 : Int32) (x3 : Int32) (g : z_G) : Option (Int32 × z_G) := (if 64 ≤ x3 then z_ck x1 64 (z_let (if ((g 4 (Int32.toNatClampNeg x1)) + (x2 / 20)) < 1000 then (g 4 (Int32.toNatClampNeg x1)) + (x2 / 20) else 1000) (fun y7 => z_ck x1 64 (z_let (z_up g 4 (Int32.toNatClampNeg x1) y7) (fun g9 => z_ck x1 64 ((if (g9 4 (Int32.toNatClampNeg x1)) < 300 then fM_X8_warms_100 0 x1 g9 else fM_X8_warms_100 1 x1 g9)))))) else z_bind (fM_X8_isInside x3 g) (fun r12 g13 => (if r12 = 0 then fM_X8_warms_46 k4 x2 x1 x3 g13 else z_bind (fM_X8_away x1 x3 g13) (fun r16 g17 => (if r16 = 1 then z_ck x3 64 ((if (g17 27 (Int32.toNatClampNeg x3)) = 0 then fM_X8_warms_46 k4 x2 x1 x3 g17 else z_ck x3 64 (fM_X8_warms_47 k4 (g17 26 (Int32.toNatClampNeg x3)) x2 x1 x3 g17))) else fM_X8_warms_46 k4 x2 x1 x3 g17)))))
def fM_X8_warms_4_go (x1 : Int32) (x2 : Int32) (x3 : Int32) (g : z_G) : Option (Int32 × z_G) := z_loop (fun k (w : Int32 × Int32 × Int32 × z_G) => fM_X8_warms_4 k w.1 w.2.1 w.2.2.1 w.2.2.2) z_fuel (x1, x2, x3, g)
def fM_X8_warms (a0 : Int32) (g : z_G) : Option (Int32 × z_G) := fM_X8_warms_4_go a0 0 0 g
theorem nM_X8_warms : yX8_warms.cls = RX8 ∧ yX8_warms.cls ≠ "java/lang/invoke/MethodHandle" ∧ yX8_warms.cls ≠ "java/lang/invoke/VarHandle" ∧ (parseMethodDescriptor yX8_warms.desc).map (fun d => d.parameters.length) = some 1 := by decide +kernel
set_option maxRecDepth 100000 in
set_option maxHeartbeats 4000000 in
theorem cM_X8_warms (l : Launch) (dC : Nat → ClassId) (dI : Nat → Nat → Nat) (ca : Nat → ClassId) (q : Nat → Nat) (Zt : z_ZT) (hZt : z_Zok Zt) (a0 : Int32) (g : z_G) (r : Int32) (g' : z_G) (hf : fM_X8_warms a0 g = some (r, g')) : z_C l yX8_warms wsX8_warms { frames := 2, cells := 0, slots := 0, locals := 42 } (dC, dI) (tyM ca) (wM ca q) Zt [.ref (q 0), .int a0] g none g' := by
  refine z_enter (wM_ok ca q) hZt (by decide +kernel) rfl (Nat.le_of_ble_eq_true rfl) (fun J hC => ?_)
  have hC : z_Cx J l cX8_warms 4 wsX8_warms RX8 none { frames := 2, cells := 0, slots := 0, locals := 42 } (dC, dI) (tyM ca) (wM ca q) Zt (z_QI (dC, dI) (tyM ca) (wM ca q) none g') z_X0 := hC
  show J 0 [(0, .ref (q 0)), (1, .int a0)] [] g
  have hX8 : ∀ w ∈ wsX80, w ∈ wsX8_warms := fun _ h => List.mem_cons_of_mem _ (List.mem_append_right _ (h))
  have hJ47 : ∀ (k4 : Int32 × Int32 × Int32 × z_G → Option (Int32 × z_G)) (_ : ∀ w : Int32 × Int32 × Int32 × z_G, k4 w = some (r, g') → J 4 [(0, .ref (q 0)), (1, .int w.1), (2, .int w.2.1), (3, .int w.2.2.1)] [] w.2.2.2) (s0 : Int32) (s1 : Int32) (x1 : Int32) (x3 : Int32) (g : z_G), fM_X8_warms_47 k4 s0 s1 x1 x3 g = some (r, g') → J 47 [(0, .ref (q 0)), (1, .int x1), (3, .int x3)] [.int s0, .int s1] g := by
    intro k4 hk4 s0 s1 x1 x3 g hf
    unfold fM_X8_warms_47 at hf
    refine zj_iadd hC dX8_warms_47 ?_
    refine zj_top (fun y1 ey1 => ?_)
    have hf := z_letE hf ey1
    refine zj_istore_n (lv1 := [(2, .int y1), (0, .ref (q 0)), (1, .int x1), (3, .int x3)]) hC dX8_warms_48 (by decide) rfl ?_
    refine zj_iinc (lv1 := fun v => [(3, .int v), (2, .int y1), (0, .ref (q 0)), (1, .int x1)]) 3 hC dX8_warms_49 rfl (by decide) (fun _ => rfl) (fun y2 ey2 => ?_)
    have hf := z_letE hf (show y2 = x3 + 1 from ey2)
    refine zj_goto 4 hC dX8_warms_52 (by decide) ?_
    exact zj_sub hC [2, 3, 1, 0] rfl (hk4 (x1, y1, y2, g) hf)
  have hJ46 : ∀ (k4 : Int32 × Int32 × Int32 × z_G → Option (Int32 × z_G)) (_ : ∀ w : Int32 × Int32 × Int32 × z_G, k4 w = some (r, g') → J 4 [(0, .ref (q 0)), (1, .int w.1), (2, .int w.2.1), (3, .int w.2.2.1)] [] w.2.2.2) (s0 : Int32) (x1 : Int32) (x3 : Int32) (g : z_G), fM_X8_warms_46 k4 s0 x1 x3 g = some (r, g') → J 46 [(0, .ref (q 0)), (1, .int x1), (3, .int x3)] [.int s0] g := by
    intro k4 hk4 s0 x1 x3 g hf
    unfold fM_X8_warms_46 at hf
    refine zj_iconst (v := 0) hC dX8_warms_46 (by decide) ?_
    exact (hJ47 k4 hk4 0 s0 x1 x3 g hf)
  have hJ100 : ∀ (s0 : Int32) (s1 : Int32) (g : z_G), fM_X8_warms_100 s0 s1 g = some (r, g') → J 100 [] [.int s0, .int s1, .ref (q 5)] g := by
    intro s0 s1 g hf
    unfold fM_X8_warms_100 at hf
    obtain ⟨hq3, hf⟩ := z_ckE hf
    refine ms_5 hC hq3 dX8_warms_100 (fun g4 eg4 => ?_)
    have hf := z_letE hf eg4
    exact zj_vreturn hC hf dX8_warms_101
  have hJ4 : ∀ (x1 : Int32) (x2 : Int32) (x3 : Int32) (g : z_G), fM_X8_warms_4_go x1 x2 x3 g = some (r, g') → J 4 [(0, .ref (q 0)), (1, .int x1), (2, .int x2), (3, .int x3)] [] g := by
    intro x1 x2 x3 g hf
    refine z_loopE (P := fun w : Int32 × Int32 × Int32 × z_G => J 4 [(0, .ref (q 0)), (1, .int w.1), (2, .int w.2.1), (3, .int w.2.2.1)] [] w.2.2.2) (fun k4 hk4 w hf => ?_) z_fuel (x1, x2, x3, g) hf
    obtain ⟨x1, x2, x3, g⟩ := w
    have hf : fM_X8_warms_4 k4 x1 x2 x3 g = some (r, g') := hf
    show J 4 [(0, .ref (q 0)), (1, .int x1), (2, .int x2), (3, .int x3)] [] g
    unfold fM_X8_warms_4 at hf
    refine zj_iload_n 3 hC dX8_warms_4 rfl ?_
    refine zj_bipush (v := 64) hC dX8_warms_5 (by decide) ?_
    refine zj_icmp_ge 55 hC dX8_warms_7 (by decide) (fun c5 => ?_) (fun c5 => ?_)
    · have hf := z_iteT hf c5
      refine zj_aload_n 0 hC dX8_warms_55 rfl ?_
      refine mg_0_6 hC hX8 (List.mem_of_getElem? (i := 3) rfl) dX8_warms_56 ?_
      refine zj_iload_n 1 hC dX8_warms_59 rfl ?_
      refine zj_sipush (v := 1000) hC dX8_warms_60 (by decide) ?_
      refine zj_aload_n 0 hC dX8_warms_63 rfl ?_
      refine mg_0_6 hC hX8 (List.mem_of_getElem? (i := 3) rfl) dX8_warms_64 ?_
      refine zj_iload_n 1 hC dX8_warms_67 rfl ?_
      obtain ⟨hq6, hf⟩ := z_ckE hf
      refine ma_4 hC hq6 dX8_warms_68 ?_
      refine zj_iload_n 2 hC dX8_warms_69 rfl ?_
      refine zj_bipush (v := 20) hC dX8_warms_70 (by decide) ?_
      refine zj_idiv hC dX8_warms_72 (by decide) ?_
      refine zj_iadd hC dX8_warms_73 ?_
      refine zj_min hC (List.mem_of_getElem? (i := 4) rfl) (List.mem_of_getElem? (i := 5) rfl) (List.mem_of_getElem? (i := 6) rfl) (List.mem_of_getElem? (i := 7) rfl) (Nat.le_of_ble_eq_true rfl) (Nat.le_of_ble_eq_true rfl) dX8_warms_74 ?_
      refine zj_top (fun y7 ey7 => ?_)
      have hf := z_letE hf ey7
      obtain ⟨hq8, hf⟩ := z_ckE hf
      refine ms_4 hC hq8 dX8_warms_77 (fun g9 eg9 => ?_)
      have hf := z_letE hf eg9
      refine zj_aload_n 0 hC dX8_warms_78 rfl ?_
      refine mg_0_7 hC hX8 (List.mem_of_getElem? (i := 8) rfl) dX8_warms_79 ?_
      refine zj_iload_n 1 hC dX8_warms_82 rfl ?_
      refine zj_aload_n 0 hC dX8_warms_83 rfl ?_
      refine mg_0_6 hC hX8 (List.mem_of_getElem? (i := 3) rfl) dX8_warms_84 ?_
      refine zj_iload_n 1 hC dX8_warms_87 rfl ?_
      obtain ⟨hq10, hf⟩ := z_ckE hf
      refine ma_4 hC hq10 dX8_warms_88 ?_
      refine zj_sipush (v := 300) hC dX8_warms_89 (by decide) ?_
      refine zj_icmp_lt 99 hC dX8_warms_92 (by decide) (fun c11 => ?_) (fun c11 => ?_)
      · have hf := z_iteT hf c11
        refine zj_iconst (v := 0) hC dX8_warms_99 (by decide) ?_
        exact zj_sub hC [] rfl (hJ100 0 x1 g9 hf)
      · have hf := z_iteF hf c11
        refine zj_iconst (v := 1) hC dX8_warms_95 (by decide) ?_
        refine zj_goto 100 hC dX8_warms_96 (by decide) ?_
        exact zj_sub hC [] rfl (hJ100 1 x1 g9 hf)
    · have hf := z_iteF hf c5
      refine zj_iload_n 2 hC dX8_warms_10 rfl ?_
      refine zj_aload_n 0 hC dX8_warms_11 rfl ?_
      refine zj_iload_n 3 hC dX8_warms_12 rfl ?_
      obtain ⟨r12, g13, hq14, hf⟩ := z_bindE hf
      refine zj_callVi [.int x3] hC (cM_X8_isInside l dC dI ca q Zt hZt x3 g r12 g13 hq14) gX8_warms_X8_isInside rfl nM_X8_isInside ⟨Nat.le_of_ble_eq_true rfl, Nat.le_of_ble_eq_true rfl⟩ 0 mo_0 rfl rfl rfl (Nat.le_of_ble_eq_true rfl) dX8_warms_13 rfl ?_
      refine zj_if_eq 46 hC dX8_warms_16 (by decide) (fun c15 => ?_) (fun c15 => ?_)
      · have hf := z_iteT hf c15
        exact zj_sub hC [0, 1, 3] rfl (hJ46 k4 hk4 x2 x1 x3 g13 hf)
      · have hf := z_iteF hf c15
        refine zj_iload_n 1 hC dX8_warms_19 rfl ?_
        refine zj_iload_n 3 hC dX8_warms_20 rfl ?_
        obtain ⟨r16, g17, hq18, hf⟩ := z_bindE hf
        refine zj_callSi [.int x1, .int x3] hC (cM_X8_away l dC dI ca q Zt hZt x1 x3 g13 r16 g17 hq18) gX8_warms_X8_away rfl nM_X8_away ⟨Nat.le_of_ble_eq_true rfl, Nat.le_of_ble_eq_true rfl⟩ rfl (Nat.le_of_ble_eq_true rfl) dX8_warms_21 rfl ?_
        refine zj_iconst (v := 1) hC dX8_warms_24 (by decide) ?_
        refine zj_icmp_ne 46 hC dX8_warms_25 (by decide) (fun c19 => ?_) (fun c19 => ?_)
        · have hf := z_iteF hf c19
          exact zj_sub hC [0, 1, 3] rfl (hJ46 k4 hk4 x2 x1 x3 g17 hf)
        · have hf := z_iteT hf c19
          refine zj_aload_n 0 hC dX8_warms_28 rfl ?_
          refine mg_0_37 hC hX8 (List.mem_of_getElem? (i := 1) rfl) dX8_warms_29 ?_
          refine zj_iload_n 3 hC dX8_warms_32 rfl ?_
          obtain ⟨hq20, hf⟩ := z_ckE hf
          refine ma_27 hC hq20 dX8_warms_33 ?_
          refine zj_if_eq 46 hC dX8_warms_34 (by decide) (fun c21 => ?_) (fun c21 => ?_)
          · have hf := z_iteT hf c21
            exact zj_sub hC [0, 1, 3] rfl (hJ46 k4 hk4 x2 x1 x3 g17 hf)
          · have hf := z_iteF hf c21
            refine zj_aload_n 0 hC dX8_warms_37 rfl ?_
            refine mg_0_36 hC hX8 (List.mem_of_getElem? (i := 2) rfl) dX8_warms_38 ?_
            refine zj_iload_n 3 hC dX8_warms_41 rfl ?_
            obtain ⟨hq22, hf⟩ := z_ckE hf
            refine ma_26 hC hq22 dX8_warms_42 ?_
            refine zj_goto 47 hC dX8_warms_43 (by decide) ?_
            exact zj_sub hC [0, 1, 3] rfl (hJ47 k4 hk4 (g17 26 (Int32.toNatClampNeg x3)) x2 x1 x3 g17 hf)
  unfold fM_X8_warms at hf
  refine zj_iconst (v := 0) hC dX8_warms_0 (by decide) ?_
  refine zj_istore_n (lv1 := [(2, .int 0), (0, .ref (q 0)), (1, .int a0)]) hC dX8_warms_1 (by decide) rfl ?_
  refine zj_iconst (v := 0) hC dX8_warms_2 (by decide) ?_
  refine zj_istore_n (lv1 := [(3, .int 0), (2, .int 0), (0, .ref (q 0)), (1, .int a0)]) hC dX8_warms_3 (by decide) rfl ?_
  exact zj_sub hC [2, 3, 1, 0] rfl (hJ4 a0 0 0 g hf)

def fM_X8_opened_27 (k4 : Int32 × Int32 × z_G → Option (Int32 × z_G)) (s0 : Int32) (s1 : Int32) (x2 : Int32) (g : z_G) : Option (Int32 × z_G) := z_let (s1 + s0) (fun y1 => z_let (x2 + 1) (fun y2 => k4 (y1, y2, g)))
def fM_X8_opened_4 (k4 : Int32 × Int32 × z_G → Option (Int32 × z_G)) (x1 : Int32) (x2 : Int32) (g : z_G) : Option (Int32 × z_G) := (if (g 0 13) ≤ x2 then some (x1, g) else z_ck x2 12 ((if (g 12 (Int32.toNatClampNeg x2)) = 0 then fM_X8_opened_27 k4 0 x1 x2 g else fM_X8_opened_27 k4 1 x1 x2 g)))
def fM_X8_opened_4_go (x1 : Int32) (x2 : Int32) (g : z_G) : Option (Int32 × z_G) := z_loop (fun k (w : Int32 × Int32 × z_G) => fM_X8_opened_4 k w.1 w.2.1 w.2.2) z_fuel (x1, x2, g)
def fM_X8_opened (g : z_G) : Option (Int32 × z_G) := fM_X8_opened_4_go 0 0 g
theorem nM_X8_opened : yX8_opened.cls = RX8 ∧ yX8_opened.cls ≠ "java/lang/invoke/MethodHandle" ∧ yX8_opened.cls ≠ "java/lang/invoke/VarHandle" ∧ (parseMethodDescriptor yX8_opened.desc).map (fun d => d.parameters.length) = some 0 := by decide +kernel
set_option maxRecDepth 100000 in
set_option maxHeartbeats 4000000 in
theorem cM_X8_opened (l : Launch) (dC : Nat → ClassId) (dI : Nat → Nat → Nat) (ca : Nat → ClassId) (q : Nat → Nat) (Zt : z_ZT) (hZt : z_Zok Zt) (g : z_G) (r : Int32) (g' : z_G) (hf : fM_X8_opened g = some (r, g')) : z_C l yX8_opened wsX8_opened { frames := 0, cells := 0, slots := 0, locals := 0 } (dC, dI) (tyM ca) (wM ca q) Zt [.ref (q 0)] g (some r) g' := by
  refine z_enter (wM_ok ca q) hZt (by decide +kernel) rfl (Nat.le_of_ble_eq_true rfl) (fun J hC => ?_)
  have hC : z_Cx J l cX8_opened 3 wsX8_opened RX8 (some .int) { frames := 0, cells := 0, slots := 0, locals := 0 } (dC, dI) (tyM ca) (wM ca q) Zt (z_QI (dC, dI) (tyM ca) (wM ca q) (some r) g') z_X0 := hC
  show J 0 [(0, .ref (q 0))] [] g
  have hX8 : ∀ w ∈ wsX80, w ∈ wsX8_opened := fun _ h => List.mem_cons_of_mem _ (List.mem_append_right _ (h))
  have hJ27 : ∀ (k4 : Int32 × Int32 × z_G → Option (Int32 × z_G)) (_ : ∀ w : Int32 × Int32 × z_G, k4 w = some (r, g') → J 4 [(0, .ref (q 0)), (1, .int w.1), (2, .int w.2.1)] [] w.2.2) (s0 : Int32) (s1 : Int32) (x2 : Int32) (g : z_G), fM_X8_opened_27 k4 s0 s1 x2 g = some (r, g') → J 27 [(0, .ref (q 0)), (2, .int x2)] [.int s0, .int s1] g := by
    intro k4 hk4 s0 s1 x2 g hf
    unfold fM_X8_opened_27 at hf
    refine zj_iadd hC dX8_opened_27 ?_
    refine zj_top (fun y1 ey1 => ?_)
    have hf := z_letE hf ey1
    refine zj_istore_n (lv1 := [(1, .int y1), (0, .ref (q 0)), (2, .int x2)]) hC dX8_opened_28 (by decide) rfl ?_
    refine zj_iinc (lv1 := fun v => [(2, .int v), (1, .int y1), (0, .ref (q 0))]) 2 hC dX8_opened_29 rfl (by decide) (fun _ => rfl) (fun y2 ey2 => ?_)
    have hf := z_letE hf (show y2 = x2 + 1 from ey2)
    refine zj_goto 4 hC dX8_opened_32 (by decide) ?_
    exact zj_sub hC [2, 1, 0] rfl (hk4 (y1, y2, g) hf)
  have hJ4 : ∀ (x1 : Int32) (x2 : Int32) (g : z_G), fM_X8_opened_4_go x1 x2 g = some (r, g') → J 4 [(0, .ref (q 0)), (1, .int x1), (2, .int x2)] [] g := by
    intro x1 x2 g hf
    refine z_loopE (P := fun w : Int32 × Int32 × z_G => J 4 [(0, .ref (q 0)), (1, .int w.1), (2, .int w.2.1)] [] w.2.2) (fun k4 hk4 w hf => ?_) z_fuel (x1, x2, g) hf
    obtain ⟨x1, x2, g⟩ := w
    have hf : fM_X8_opened_4 k4 x1 x2 g = some (r, g') := hf
    show J 4 [(0, .ref (q 0)), (1, .int x1), (2, .int x2)] [] g
    unfold fM_X8_opened_4 at hf
    refine zj_iload_n 2 hC dX8_opened_4 rfl ?_
    refine zj_aload_n 0 hC dX8_opened_5 rfl ?_
    refine mg_0_13 hC hX8 (List.mem_of_getElem? (i := 1) rfl) dX8_opened_6 ?_
    refine zj_icmp_ge 35 hC dX8_opened_9 (by decide) (fun c3 => ?_) (fun c3 => ?_)
    · have hf := z_iteT hf c3
      refine zj_iload_n 1 hC dX8_opened_35 rfl ?_
      exact zj_ireturn hC hf dX8_opened_36
    · have hf := z_iteF hf c3
      refine zj_iload_n 1 hC dX8_opened_12 rfl ?_
      refine zj_aload_n 0 hC dX8_opened_13 rfl ?_
      refine mg_0_15 hC hX8 (List.mem_of_getElem? (i := 2) rfl) dX8_opened_14 ?_
      refine zj_iload_n 2 hC dX8_opened_17 rfl ?_
      obtain ⟨hq4, hf⟩ := z_ckE hf
      refine ma_12 hC hq4 dX8_opened_18 ?_
      refine zj_if_eq 26 hC dX8_opened_19 (by decide) (fun c5 => ?_) (fun c5 => ?_)
      · have hf := z_iteT hf c5
        refine zj_iconst (v := 0) hC dX8_opened_26 (by decide) ?_
        exact zj_sub hC [0, 2] rfl (hJ27 k4 hk4 0 x1 x2 g hf)
      · have hf := z_iteF hf c5
        refine zj_iconst (v := 1) hC dX8_opened_22 (by decide) ?_
        refine zj_goto 27 hC dX8_opened_23 (by decide) ?_
        exact zj_sub hC [0, 2] rfl (hJ27 k4 hk4 1 x1 x2 g hf)
  unfold fM_X8_opened at hf
  refine zj_iconst (v := 0) hC dX8_opened_0 (by decide) ?_
  refine zj_istore_n (lv1 := [(1, .int 0), (0, .ref (q 0))]) hC dX8_opened_1 (by decide) rfl ?_
  refine zj_iconst (v := 0) hC dX8_opened_2 (by decide) ?_
  refine zj_istore_n (lv1 := [(2, .int 0), (1, .int 0), (0, .ref (q 0))]) hC dX8_opened_3 (by decide) rfl ?_
  exact zj_sub hC [2, 1, 0] rfl (hJ4 0 0 g hf)

def fM_X8_bareCells_41 (k4 : Int32 × Int32 × z_G → Option (Int32 × z_G)) (s0 : Int32) (s1 : Int32) (x2 : Int32) (g : z_G) : Option (Int32 × z_G) := z_let (s1 + s0) (fun y1 => z_let (x2 + 1) (fun y2 => k4 (y1, y2, g)))
def fM_X8_bareCells_40 (k4 : Int32 × Int32 × z_G → Option (Int32 × z_G)) (s0 : Int32) (x2 : Int32) (g : z_G) : Option (Int32 × z_G) := fM_X8_bareCells_41 k4 0 s0 x2 g
def fM_X8_bareCells_4 (k4 : Int32 × Int32 × z_G → Option (Int32 × z_G)) (x1 : Int32) (x2 : Int32) (g : z_G) : Option (Int32 × z_G) := (if 64 ≤ x2 then some (x1, g) else z_bind (fM_X8_isInside x2 g) (fun r4 g5 => (if r4 = 0 then fM_X8_bareCells_40 k4 x1 x2 g5 else z_bind (fM_X8_isOutside x2 g5) (fun r8 g9 => (if r8 = 0 then fM_X8_bareCells_40 k4 x1 x2 g9 else z_ck x2 64 ((if (g9 8 (Int32.toNatClampNeg x2)) = 0 then fM_X8_bareCells_41 k4 1 x1 x2 g9 else fM_X8_bareCells_40 k4 x1 x2 g9)))))))
def fM_X8_bareCells_4_go (x1 : Int32) (x2 : Int32) (g : z_G) : Option (Int32 × z_G) := z_loop (fun k (w : Int32 × Int32 × z_G) => fM_X8_bareCells_4 k w.1 w.2.1 w.2.2) z_fuel (x1, x2, g)
def fM_X8_bareCells (g : z_G) : Option (Int32 × z_G) := fM_X8_bareCells_4_go 0 0 g
theorem nM_X8_bareCells : yX8_bareCells.cls = RX8 ∧ yX8_bareCells.cls ≠ "java/lang/invoke/MethodHandle" ∧ yX8_bareCells.cls ≠ "java/lang/invoke/VarHandle" ∧ (parseMethodDescriptor yX8_bareCells.desc).map (fun d => d.parameters.length) = some 0 := by decide +kernel
set_option maxRecDepth 100000 in
set_option maxHeartbeats 4000000 in
theorem cM_X8_bareCells (l : Launch) (dC : Nat → ClassId) (dI : Nat → Nat → Nat) (ca : Nat → ClassId) (q : Nat → Nat) (Zt : z_ZT) (hZt : z_Zok Zt) (g : z_G) (r : Int32) (g' : z_G) (hf : fM_X8_bareCells g = some (r, g')) : z_C l yX8_bareCells wsX8_bareCells { frames := 2, cells := 0, slots := 0, locals := 42 } (dC, dI) (tyM ca) (wM ca q) Zt [.ref (q 0)] g (some r) g' := by
  refine z_enter (wM_ok ca q) hZt (by decide +kernel) rfl (Nat.le_of_ble_eq_true rfl) (fun J hC => ?_)
  have hC : z_Cx J l cX8_bareCells 3 wsX8_bareCells RX8 (some .int) { frames := 2, cells := 0, slots := 0, locals := 42 } (dC, dI) (tyM ca) (wM ca q) Zt (z_QI (dC, dI) (tyM ca) (wM ca q) (some r) g') z_X0 := hC
  show J 0 [(0, .ref (q 0))] [] g
  have hX8 : ∀ w ∈ wsX80, w ∈ wsX8_bareCells := fun _ h => List.mem_cons_of_mem _ (List.mem_append_right _ (h))
  have hJ41 : ∀ (k4 : Int32 × Int32 × z_G → Option (Int32 × z_G)) (_ : ∀ w : Int32 × Int32 × z_G, k4 w = some (r, g') → J 4 [(0, .ref (q 0)), (1, .int w.1), (2, .int w.2.1)] [] w.2.2) (s0 : Int32) (s1 : Int32) (x2 : Int32) (g : z_G), fM_X8_bareCells_41 k4 s0 s1 x2 g = some (r, g') → J 41 [(0, .ref (q 0)), (2, .int x2)] [.int s0, .int s1] g := by
    intro k4 hk4 s0 s1 x2 g hf
    unfold fM_X8_bareCells_41 at hf
    refine zj_iadd hC dX8_bareCells_41 ?_
    refine zj_top (fun y1 ey1 => ?_)
    have hf := z_letE hf ey1
    refine zj_istore_n (lv1 := [(1, .int y1), (0, .ref (q 0)), (2, .int x2)]) hC dX8_bareCells_42 (by decide) rfl ?_
    refine zj_iinc (lv1 := fun v => [(2, .int v), (1, .int y1), (0, .ref (q 0))]) 2 hC dX8_bareCells_43 rfl (by decide) (fun _ => rfl) (fun y2 ey2 => ?_)
    have hf := z_letE hf (show y2 = x2 + 1 from ey2)
    refine zj_goto 4 hC dX8_bareCells_46 (by decide) ?_
    exact zj_sub hC [2, 1, 0] rfl (hk4 (y1, y2, g) hf)
  have hJ40 : ∀ (k4 : Int32 × Int32 × z_G → Option (Int32 × z_G)) (_ : ∀ w : Int32 × Int32 × z_G, k4 w = some (r, g') → J 4 [(0, .ref (q 0)), (1, .int w.1), (2, .int w.2.1)] [] w.2.2) (s0 : Int32) (x2 : Int32) (g : z_G), fM_X8_bareCells_40 k4 s0 x2 g = some (r, g') → J 40 [(0, .ref (q 0)), (2, .int x2)] [.int s0] g := by
    intro k4 hk4 s0 x2 g hf
    unfold fM_X8_bareCells_40 at hf
    refine zj_iconst (v := 0) hC dX8_bareCells_40 (by decide) ?_
    exact (hJ41 k4 hk4 0 s0 x2 g hf)
  have hJ4 : ∀ (x1 : Int32) (x2 : Int32) (g : z_G), fM_X8_bareCells_4_go x1 x2 g = some (r, g') → J 4 [(0, .ref (q 0)), (1, .int x1), (2, .int x2)] [] g := by
    intro x1 x2 g hf
    refine z_loopE (P := fun w : Int32 × Int32 × z_G => J 4 [(0, .ref (q 0)), (1, .int w.1), (2, .int w.2.1)] [] w.2.2) (fun k4 hk4 w hf => ?_) z_fuel (x1, x2, g) hf
    obtain ⟨x1, x2, g⟩ := w
    have hf : fM_X8_bareCells_4 k4 x1 x2 g = some (r, g') := hf
    show J 4 [(0, .ref (q 0)), (1, .int x1), (2, .int x2)] [] g
    unfold fM_X8_bareCells_4 at hf
    refine zj_iload_n 2 hC dX8_bareCells_4 rfl ?_
    refine zj_bipush (v := 64) hC dX8_bareCells_5 (by decide) ?_
    refine zj_icmp_ge 49 hC dX8_bareCells_7 (by decide) (fun c3 => ?_) (fun c3 => ?_)
    · have hf := z_iteT hf c3
      refine zj_iload_n 1 hC dX8_bareCells_49 rfl ?_
      exact zj_ireturn hC hf dX8_bareCells_50
    · have hf := z_iteF hf c3
      refine zj_iload_n 1 hC dX8_bareCells_10 rfl ?_
      refine zj_aload_n 0 hC dX8_bareCells_11 rfl ?_
      refine zj_iload_n 2 hC dX8_bareCells_12 rfl ?_
      obtain ⟨r4, g5, hq6, hf⟩ := z_bindE hf
      refine zj_callVi [.int x2] hC (cM_X8_isInside l dC dI ca q Zt hZt x2 g r4 g5 hq6) gX8_bareCells_X8_isInside rfl nM_X8_isInside ⟨Nat.le_of_ble_eq_true rfl, Nat.le_of_ble_eq_true rfl⟩ 0 mo_0 rfl rfl rfl (Nat.le_of_ble_eq_true rfl) dX8_bareCells_13 rfl ?_
      refine zj_if_eq 40 hC dX8_bareCells_16 (by decide) (fun c7 => ?_) (fun c7 => ?_)
      · have hf := z_iteT hf c7
        exact zj_sub hC [0, 2] rfl (hJ40 k4 hk4 x1 x2 g5 hf)
      · have hf := z_iteF hf c7
        refine zj_aload_n 0 hC dX8_bareCells_19 rfl ?_
        refine zj_iload_n 2 hC dX8_bareCells_20 rfl ?_
        obtain ⟨r8, g9, hq10, hf⟩ := z_bindE hf
        refine zj_callVi [.int x2] hC (cM_X8_isOutside l dC dI ca q Zt hZt x2 g5 r8 g9 hq10) gX8_bareCells_X8_isOutside rfl nM_X8_isOutside ⟨Nat.le_of_ble_eq_true rfl, Nat.le_of_ble_eq_true rfl⟩ 0 mo_0 rfl rfl rfl (Nat.le_of_ble_eq_true rfl) dX8_bareCells_21 rfl ?_
        refine zj_if_eq 40 hC dX8_bareCells_24 (by decide) (fun c11 => ?_) (fun c11 => ?_)
        · have hf := z_iteT hf c11
          exact zj_sub hC [0, 2] rfl (hJ40 k4 hk4 x1 x2 g9 hf)
        · have hf := z_iteF hf c11
          refine zj_aload_n 0 hC dX8_bareCells_27 rfl ?_
          refine mg_0_10 hC hX8 (List.mem_of_getElem? (i := 1) rfl) dX8_bareCells_28 ?_
          refine zj_iload_n 2 hC dX8_bareCells_31 rfl ?_
          obtain ⟨hq12, hf⟩ := z_ckE hf
          refine ma_8 hC hq12 dX8_bareCells_32 ?_
          refine zj_if_ne 40 hC dX8_bareCells_33 (by decide) (fun c13 => ?_) (fun c13 => ?_)
          · have hf := z_iteF hf c13
            exact zj_sub hC [0, 2] rfl (hJ40 k4 hk4 x1 x2 g9 hf)
          · have hf := z_iteT hf c13
            refine zj_iconst (v := 1) hC dX8_bareCells_36 (by decide) ?_
            refine zj_goto 41 hC dX8_bareCells_37 (by decide) ?_
            exact zj_sub hC [0, 2] rfl (hJ41 k4 hk4 1 x1 x2 g9 hf)
  unfold fM_X8_bareCells at hf
  refine zj_iconst (v := 0) hC dX8_bareCells_0 (by decide) ?_
  refine zj_istore_n (lv1 := [(1, .int 0), (0, .ref (q 0))]) hC dX8_bareCells_1 (by decide) rfl ?_
  refine zj_iconst (v := 0) hC dX8_bareCells_2 (by decide) ?_
  refine zj_istore_n (lv1 := [(2, .int 0), (1, .int 0), (0, .ref (q 0))]) hC dX8_bareCells_3 (by decide) rfl ?_
  exact zj_sub hC [2, 1, 0] rfl (hJ4 0 0 g hf)

def fM_X8_holds_188 (k9 : Int32 × Int32 × Int32 × Int32 × Int32 × Int32 × Int32 × Int32 × z_G → Option (Int32 × z_G)) (s0 : Int32) (x1 : Int32) (x2 : Int32) (x3 : Int32) (x4 : Int32) (x5 : Int32) (x6 : Int32) (x8 : Int32) (g : z_G) : Option (Int32 × z_G) := z_let (x8 + 1) (fun y1 => k9 (x1, x2, x3, x4, x5, x6, s0, y1, g))
def fM_X8_holds_183 (k9 : Int32 × Int32 × Int32 × Int32 × Int32 × Int32 × Int32 × Int32 × z_G → Option (Int32 × z_G)) (x1 : Int32) (x2 : Int32) (x3 : Int32) (x4 : Int32) (x5 : Int32) (x6 : Int32) (x8 : Int32) (g : z_G) : Option (Int32 × z_G) := fM_X8_holds_188 k9 1 x1 x2 x3 x4 x5 x6 x8 g
def fM_X8_holds_187 (k9 : Int32 × Int32 × Int32 × Int32 × Int32 × Int32 × Int32 × Int32 × z_G → Option (Int32 × z_G)) (x1 : Int32) (x2 : Int32) (x3 : Int32) (x4 : Int32) (x5 : Int32) (x6 : Int32) (x8 : Int32) (g : z_G) : Option (Int32 × z_G) := fM_X8_holds_188 k9 0 x1 x2 x3 x4 x5 x6 x8 g
def fM_X8_holds_110 (k9 : Int32 × Int32 × Int32 × Int32 × Int32 × Int32 × Int32 × Int32 × z_G → Option (Int32 × z_G)) (s0 : Int32) (x1 : Int32) (x2 : Int32) (x3 : Int32) (x4 : Int32) (x5 : Int32) (x6 : Int32) (x7 : Int32) (x8 : Int32) (g : z_G) : Option (Int32 × z_G) := (if x7 = 0 then fM_X8_holds_187 k9 x1 x2 x3 x4 x5 x6 x8 g else z_ck x8 168 ((if (g 36 (Int32.toNatClampNeg x8)) = 60 then z_ck x8 168 ((if (g 37 (Int32.toNatClampNeg x8)) ≤ s0 then fM_X8_holds_187 k9 x1 x2 x3 x4 x5 x6 x8 g else fM_X8_holds_183 k9 x1 x2 x3 x4 x5 x6 x8 g)) else z_ck x8 168 ((if (g 36 (Int32.toNatClampNeg x8)) = 62 then z_ck x8 168 ((if s0 ≤ (g 37 (Int32.toNatClampNeg x8)) then fM_X8_holds_187 k9 x1 x2 x3 x4 x5 x6 x8 g else fM_X8_holds_183 k9 x1 x2 x3 x4 x5 x6 x8 g)) else z_ck x8 168 ((if s0 = (g 37 (Int32.toNatClampNeg x8)) then fM_X8_holds_183 k9 x1 x2 x3 x4 x5 x6 x8 g else fM_X8_holds_187 k9 x1 x2 x3 x4 x5 x6 x8 g)))))))
def fM_X8_holds_9 (k9 : Int32 × Int32 × Int32 × Int32 × Int32 × Int32 × Int32 × Int32 × z_G → Option (Int32 × z_G)) (x1 : Int32) (x2 : Int32) (x3 : Int32) (x4 : Int32) (x5 : Int32) (x6 : Int32) (x7 : Int32) (x8 : Int32) (g : z_G) : Option (Int32 × z_G) := z_ck x1 8 ((if ((21 * x1) + (g 34 (Int32.toNatClampNeg x1))) ≤ x8 then z_bo x7 (some (x7, g)) else z_ck x8 168 (z_let (g 35 (Int32.toNatClampNeg x8)) (fun y16 => (if y16 = 115 then fM_X8_holds_110 k9 x2 x1 x2 x3 x4 x5 x6 x7 x8 g else (if y16 = 107 then fM_X8_holds_110 k9 x3 x1 x2 x3 x4 x5 x6 x7 x8 g else (if y16 = 99 then fM_X8_holds_110 k9 x4 x1 x2 x3 x4 x5 x6 x7 x8 g else (if y16 = 116 then fM_X8_holds_110 k9 (g 0 21) x1 x2 x3 x4 x5 x6 x7 x8 g else (if y16 = 111 then z_bind (fM_X8_opened g) (fun r23 g24 => fM_X8_holds_110 k9 r23 x1 x2 x3 x4 x5 x6 x7 x8 g24) else (if y16 = 114 then fM_X8_holds_110 k9 x5 x1 x2 x3 x4 x5 x6 x7 x8 g else fM_X8_holds_110 k9 x6 x1 x2 x3 x4 x5 x6 x7 x8 g))))))))))
def fM_X8_holds_9_go (x1 : Int32) (x2 : Int32) (x3 : Int32) (x4 : Int32) (x5 : Int32) (x6 : Int32) (x7 : Int32) (x8 : Int32) (g : z_G) : Option (Int32 × z_G) := z_loop (fun k (w : Int32 × Int32 × Int32 × Int32 × Int32 × Int32 × Int32 × Int32 × z_G) => fM_X8_holds_9 k w.1 w.2.1 w.2.2.1 w.2.2.2.1 w.2.2.2.2.1 w.2.2.2.2.2.1 w.2.2.2.2.2.2.1 w.2.2.2.2.2.2.2.1 w.2.2.2.2.2.2.2.2) z_fuel (x1, x2, x3, x4, x5, x6, x7, x8, g)
def fM_X8_holds (a0 : Int32) (a1 : Int32) (a2 : Int32) (a3 : Int32) (a4 : Int32) (a5 : Int32) (g : z_G) : Option (Int32 × z_G) := z_let (21 * a0) (fun y26 => fM_X8_holds_9_go a0 a1 a2 a3 a4 a5 1 y26 g)
theorem nM_X8_holds : yX8_holds.cls = RX8 ∧ yX8_holds.cls ≠ "java/lang/invoke/MethodHandle" ∧ yX8_holds.cls ≠ "java/lang/invoke/VarHandle" ∧ (parseMethodDescriptor yX8_holds.desc).map (fun d => d.parameters.length) = some 6 := by decide +kernel
set_option maxRecDepth 100000 in
set_option maxHeartbeats 4000000 in
theorem cM_X8_holds (l : Launch) (dC : Nat → ClassId) (dI : Nat → Nat → Nat) (ca : Nat → ClassId) (q : Nat → Nat) (Zt : z_ZT) (hZt : z_Zok Zt) (a0 : Int32) (a1 : Int32) (a2 : Int32) (a3 : Int32) (a4 : Int32) (a5 : Int32) (g : z_G) (r : Int32) (g' : z_G) (hf : fM_X8_holds a0 a1 a2 a3 a4 a5 g = some (r, g')) : z_C l yX8_holds wsX8_holds { frames := 1, cells := 0, slots := 0, locals := 22 } (dC, dI) (tyM ca) (wM ca q) Zt [.ref (q 0), .int a0, .int a1, .int a2, .int a3, .int a4, .int a5] g (some r) g' := by
  refine z_enter (wM_ok ca q) hZt (by decide +kernel) rfl (Nat.le_of_ble_eq_true rfl) (fun J hC => ?_)
  have hC : z_Cx J l cX8_holds 11 wsX8_holds RX8 (some .boolean) { frames := 1, cells := 0, slots := 0, locals := 22 } (dC, dI) (tyM ca) (wM ca q) Zt (z_QI (dC, dI) (tyM ca) (wM ca q) (some r) g') z_X0 := hC
  show J 0 [(0, .ref (q 0)), (1, .int a0), (2, .int a1), (3, .int a2), (4, .int a3), (5, .int a4), (6, .int a5)] [] g
  have hX8 : ∀ w ∈ wsX80, w ∈ wsX8_holds := fun _ h => List.mem_cons_of_mem _ (List.mem_append_right _ (h))
  have hJ188 : ∀ (k9 : Int32 × Int32 × Int32 × Int32 × Int32 × Int32 × Int32 × Int32 × z_G → Option (Int32 × z_G)) (_ : ∀ w : Int32 × Int32 × Int32 × Int32 × Int32 × Int32 × Int32 × Int32 × z_G, k9 w = some (r, g') → J 9 [(0, .ref (q 0)), (1, .int w.1), (2, .int w.2.1), (3, .int w.2.2.1), (4, .int w.2.2.2.1), (5, .int w.2.2.2.2.1), (6, .int w.2.2.2.2.2.1), (7, .int w.2.2.2.2.2.2.1), (8, .int w.2.2.2.2.2.2.2.1)] [] w.2.2.2.2.2.2.2.2) (s0 : Int32) (x1 : Int32) (x2 : Int32) (x3 : Int32) (x4 : Int32) (x5 : Int32) (x6 : Int32) (x8 : Int32) (g : z_G), fM_X8_holds_188 k9 s0 x1 x2 x3 x4 x5 x6 x8 g = some (r, g') → J 188 [(0, .ref (q 0)), (1, .int x1), (2, .int x2), (3, .int x3), (4, .int x4), (5, .int x5), (6, .int x6), (8, .int x8)] [.int s0] g := by
    intro k9 hk9 s0 x1 x2 x3 x4 x5 x6 x8 g hf
    unfold fM_X8_holds_188 at hf
    refine zj_istore (lv1 := [(7, .int s0), (0, .ref (q 0)), (1, .int x1), (2, .int x2), (3, .int x3), (4, .int x4), (5, .int x5), (6, .int x6), (8, .int x8)]) hC dX8_holds_188 (by decide) rfl ?_
    refine zj_iinc (lv1 := fun v => [(8, .int v), (7, .int s0), (0, .ref (q 0)), (1, .int x1), (2, .int x2), (3, .int x3), (4, .int x4), (5, .int x5), (6, .int x6)]) 8 hC dX8_holds_190 rfl (by decide) (fun _ => rfl) (fun y1 ey1 => ?_)
    have hf := z_letE hf (show y1 = x8 + 1 from ey1)
    refine zj_goto 9 hC dX8_holds_193 (by decide) ?_
    exact zj_sub hC [2, 3, 4, 5, 6, 7, 8, 1, 0] rfl (hk9 (x1, x2, x3, x4, x5, x6, s0, y1, g) hf)
  have hJ183 : ∀ (k9 : Int32 × Int32 × Int32 × Int32 × Int32 × Int32 × Int32 × Int32 × z_G → Option (Int32 × z_G)) (_ : ∀ w : Int32 × Int32 × Int32 × Int32 × Int32 × Int32 × Int32 × Int32 × z_G, k9 w = some (r, g') → J 9 [(0, .ref (q 0)), (1, .int w.1), (2, .int w.2.1), (3, .int w.2.2.1), (4, .int w.2.2.2.1), (5, .int w.2.2.2.2.1), (6, .int w.2.2.2.2.2.1), (7, .int w.2.2.2.2.2.2.1), (8, .int w.2.2.2.2.2.2.2.1)] [] w.2.2.2.2.2.2.2.2) (x1 : Int32) (x2 : Int32) (x3 : Int32) (x4 : Int32) (x5 : Int32) (x6 : Int32) (x8 : Int32) (g : z_G), fM_X8_holds_183 k9 x1 x2 x3 x4 x5 x6 x8 g = some (r, g') → J 183 [(0, .ref (q 0)), (1, .int x1), (2, .int x2), (3, .int x3), (4, .int x4), (5, .int x5), (6, .int x6), (8, .int x8)] [] g := by
    intro k9 hk9 x1 x2 x3 x4 x5 x6 x8 g hf
    unfold fM_X8_holds_183 at hf
    refine zj_iconst (v := 1) hC dX8_holds_183 (by decide) ?_
    refine zj_goto 188 hC dX8_holds_184 (by decide) ?_
    exact (hJ188 k9 hk9 1 x1 x2 x3 x4 x5 x6 x8 g hf)
  have hJ187 : ∀ (k9 : Int32 × Int32 × Int32 × Int32 × Int32 × Int32 × Int32 × Int32 × z_G → Option (Int32 × z_G)) (_ : ∀ w : Int32 × Int32 × Int32 × Int32 × Int32 × Int32 × Int32 × Int32 × z_G, k9 w = some (r, g') → J 9 [(0, .ref (q 0)), (1, .int w.1), (2, .int w.2.1), (3, .int w.2.2.1), (4, .int w.2.2.2.1), (5, .int w.2.2.2.2.1), (6, .int w.2.2.2.2.2.1), (7, .int w.2.2.2.2.2.2.1), (8, .int w.2.2.2.2.2.2.2.1)] [] w.2.2.2.2.2.2.2.2) (x1 : Int32) (x2 : Int32) (x3 : Int32) (x4 : Int32) (x5 : Int32) (x6 : Int32) (x8 : Int32) (g : z_G), fM_X8_holds_187 k9 x1 x2 x3 x4 x5 x6 x8 g = some (r, g') → J 187 [(0, .ref (q 0)), (1, .int x1), (2, .int x2), (3, .int x3), (4, .int x4), (5, .int x5), (6, .int x6), (8, .int x8)] [] g := by
    intro k9 hk9 x1 x2 x3 x4 x5 x6 x8 g hf
    unfold fM_X8_holds_187 at hf
    refine zj_iconst (v := 0) hC dX8_holds_187 (by decide) ?_
    exact (hJ188 k9 hk9 0 x1 x2 x3 x4 x5 x6 x8 g hf)
  have hJ110 : ∀ (k9 : Int32 × Int32 × Int32 × Int32 × Int32 × Int32 × Int32 × Int32 × z_G → Option (Int32 × z_G)) (_ : ∀ w : Int32 × Int32 × Int32 × Int32 × Int32 × Int32 × Int32 × Int32 × z_G, k9 w = some (r, g') → J 9 [(0, .ref (q 0)), (1, .int w.1), (2, .int w.2.1), (3, .int w.2.2.1), (4, .int w.2.2.2.1), (5, .int w.2.2.2.2.1), (6, .int w.2.2.2.2.2.1), (7, .int w.2.2.2.2.2.2.1), (8, .int w.2.2.2.2.2.2.2.1)] [] w.2.2.2.2.2.2.2.2) (s0 : Int32) (x1 : Int32) (x2 : Int32) (x3 : Int32) (x4 : Int32) (x5 : Int32) (x6 : Int32) (x7 : Int32) (x8 : Int32) (g : z_G), fM_X8_holds_110 k9 s0 x1 x2 x3 x4 x5 x6 x7 x8 g = some (r, g') → J 110 [(0, .ref (q 0)), (1, .int x1), (2, .int x2), (3, .int x3), (4, .int x4), (5, .int x5), (6, .int x6), (7, .int x7), (8, .int x8)] [.int s0] g := by
    intro k9 hk9 s0 x1 x2 x3 x4 x5 x6 x7 x8 g hf
    unfold fM_X8_holds_110 at hf
    refine zj_istore (lv1 := [(10, .int s0), (0, .ref (q 0)), (1, .int x1), (2, .int x2), (3, .int x3), (4, .int x4), (5, .int x5), (6, .int x6), (7, .int x7), (8, .int x8)]) hC dX8_holds_110 (by decide) rfl ?_
    refine zj_iload 8 hC dX8_holds_112 rfl ?_
    refine zj_if_eq 187 hC dX8_holds_114 (by decide) (fun c2 => ?_) (fun c2 => ?_)
    · have hf := z_iteT hf c2
      exact zj_sub hC [1, 2, 3, 4, 5, 6, 7, 9] rfl (hJ187 k9 hk9 x1 x2 x3 x4 x5 x6 x8 g hf)
    · have hf := z_iteF hf c2
      refine zj_aload_n 1 hC dX8_holds_117 rfl ?_
      refine mg_0_48 hC hX8 (List.mem_of_getElem? (i := 4) rfl) dX8_holds_118 ?_
      refine zj_iload 9 hC dX8_holds_121 rfl ?_
      obtain ⟨hq3, hf⟩ := z_ckE hf
      refine ma_36 hC hq3 dX8_holds_123 ?_
      refine zj_bipush (v := 60) hC dX8_holds_124 (by decide) ?_
      refine zj_icmp_ne 144 hC dX8_holds_126 (by decide) (fun c4 => ?_) (fun c4 => ?_)
      · have hf := z_iteF hf c4
        refine zj_aload_n 1 hC dX8_holds_144 rfl ?_
        refine mg_0_48 hC hX8 (List.mem_of_getElem? (i := 4) rfl) dX8_holds_145 ?_
        refine zj_iload 9 hC dX8_holds_148 rfl ?_
        obtain ⟨hq5, hf⟩ := z_ckE hf
        refine ma_36 hC hq5 dX8_holds_150 ?_
        refine zj_bipush (v := 62) hC dX8_holds_151 (by decide) ?_
        refine zj_icmp_ne 171 hC dX8_holds_153 (by decide) (fun c6 => ?_) (fun c6 => ?_)
        · have hf := z_iteF hf c6
          refine zj_iload 0 hC dX8_holds_171 rfl ?_
          refine zj_aload_n 1 hC dX8_holds_173 rfl ?_
          refine mg_0_49 hC hX8 (List.mem_of_getElem? (i := 5) rfl) dX8_holds_174 ?_
          refine zj_iload 9 hC dX8_holds_177 rfl ?_
          obtain ⟨hq7, hf⟩ := z_ckE hf
          refine ma_37 hC hq7 dX8_holds_179 ?_
          refine zj_icmp_ne 187 hC dX8_holds_180 (by decide) (fun c8 => ?_) (fun c8 => ?_)
          · have hf := z_iteF hf c8
            exact zj_sub hC [1, 2, 3, 4, 5, 6, 7, 9] rfl (hJ187 k9 hk9 x1 x2 x3 x4 x5 x6 x8 g hf)
          · have hf := z_iteT hf c8
            exact zj_sub hC [1, 2, 3, 4, 5, 6, 7, 9] rfl (hJ183 k9 hk9 x1 x2 x3 x4 x5 x6 x8 g hf)
        · have hf := z_iteT hf c6
          refine zj_iload 0 hC dX8_holds_156 rfl ?_
          refine zj_aload_n 1 hC dX8_holds_158 rfl ?_
          refine mg_0_49 hC hX8 (List.mem_of_getElem? (i := 5) rfl) dX8_holds_159 ?_
          refine zj_iload 9 hC dX8_holds_162 rfl ?_
          obtain ⟨hq9, hf⟩ := z_ckE hf
          refine ma_37 hC hq9 dX8_holds_164 ?_
          refine zj_icmp_le 187 hC dX8_holds_165 (by decide) (fun c10 => ?_) (fun c10 => ?_)
          · have hf := z_iteT hf c10
            exact zj_sub hC [1, 2, 3, 4, 5, 6, 7, 9] rfl (hJ187 k9 hk9 x1 x2 x3 x4 x5 x6 x8 g hf)
          · have hf := z_iteF hf c10
            refine zj_goto 183 hC dX8_holds_168 (by decide) ?_
            exact zj_sub hC [1, 2, 3, 4, 5, 6, 7, 9] rfl (hJ183 k9 hk9 x1 x2 x3 x4 x5 x6 x8 g hf)
      · have hf := z_iteT hf c4
        refine zj_iload 0 hC dX8_holds_129 rfl ?_
        refine zj_aload_n 1 hC dX8_holds_131 rfl ?_
        refine mg_0_49 hC hX8 (List.mem_of_getElem? (i := 5) rfl) dX8_holds_132 ?_
        refine zj_iload 9 hC dX8_holds_135 rfl ?_
        obtain ⟨hq11, hf⟩ := z_ckE hf
        refine ma_37 hC hq11 dX8_holds_137 ?_
        refine zj_icmp_ge 187 hC dX8_holds_138 (by decide) (fun c12 => ?_) (fun c12 => ?_)
        · have hf := z_iteT hf c12
          exact zj_sub hC [1, 2, 3, 4, 5, 6, 7, 9] rfl (hJ187 k9 hk9 x1 x2 x3 x4 x5 x6 x8 g hf)
        · have hf := z_iteF hf c12
          refine zj_goto 183 hC dX8_holds_141 (by decide) ?_
          exact zj_sub hC [1, 2, 3, 4, 5, 6, 7, 9] rfl (hJ183 k9 hk9 x1 x2 x3 x4 x5 x6 x8 g hf)
  have hJ9 : ∀ (x1 : Int32) (x2 : Int32) (x3 : Int32) (x4 : Int32) (x5 : Int32) (x6 : Int32) (x7 : Int32) (x8 : Int32) (g : z_G), fM_X8_holds_9_go x1 x2 x3 x4 x5 x6 x7 x8 g = some (r, g') → J 9 [(0, .ref (q 0)), (1, .int x1), (2, .int x2), (3, .int x3), (4, .int x4), (5, .int x5), (6, .int x6), (7, .int x7), (8, .int x8)] [] g := by
    intro x1 x2 x3 x4 x5 x6 x7 x8 g hf
    refine z_loopE (P := fun w : Int32 × Int32 × Int32 × Int32 × Int32 × Int32 × Int32 × Int32 × z_G => J 9 [(0, .ref (q 0)), (1, .int w.1), (2, .int w.2.1), (3, .int w.2.2.1), (4, .int w.2.2.2.1), (5, .int w.2.2.2.2.1), (6, .int w.2.2.2.2.2.1), (7, .int w.2.2.2.2.2.2.1), (8, .int w.2.2.2.2.2.2.2.1)] [] w.2.2.2.2.2.2.2.2) (fun k9 hk9 w hf => ?_) z_fuel (x1, x2, x3, x4, x5, x6, x7, x8, g) hf
    obtain ⟨x1, x2, x3, x4, x5, x6, x7, x8, g⟩ := w
    have hf : fM_X8_holds_9 k9 x1 x2 x3 x4 x5 x6 x7 x8 g = some (r, g') := hf
    show J 9 [(0, .ref (q 0)), (1, .int x1), (2, .int x2), (3, .int x3), (4, .int x4), (5, .int x5), (6, .int x6), (7, .int x7), (8, .int x8)] [] g
    unfold fM_X8_holds_9 at hf
    refine zj_iload 8 hC dX8_holds_9 rfl ?_
    refine zj_bipush (v := 21) hC dX8_holds_11 (by decide) ?_
    refine zj_iload_n 1 hC dX8_holds_13 rfl ?_
    refine zj_imul hC dX8_holds_14 ?_
    refine zj_aload_n 0 hC dX8_holds_15 rfl ?_
    refine mg_0_46 hC hX8 (List.mem_of_getElem? (i := 1) rfl) dX8_holds_16 ?_
    refine zj_iload_n 1 hC dX8_holds_19 rfl ?_
    obtain ⟨hq13, hf⟩ := z_ckE hf
    refine ma_34 hC hq13 dX8_holds_20 ?_
    refine zj_iadd hC dX8_holds_21 ?_
    refine zj_icmp_ge 196 hC dX8_holds_22 (by decide) (fun c14 => ?_) (fun c14 => ?_)
    · have hf := z_iteT hf c14
      refine zj_iload 7 hC dX8_holds_196 rfl ?_
      exact zj_zreturn hC hf dX8_holds_198
    · have hf := z_iteF hf c14
      refine zj_aload_n 0 hC dX8_holds_25 rfl ?_
      refine mg_0_47 hC hX8 (List.mem_of_getElem? (i := 2) rfl) dX8_holds_26 ?_
      refine zj_iload 8 hC dX8_holds_29 rfl ?_
      obtain ⟨hq15, hf⟩ := z_ckE hf
      refine ma_35 hC hq15 dX8_holds_31 ?_
      refine zj_top (fun y16 ey16 => ?_)
      have hf := z_letE hf ey16
      refine zj_istore (lv1 := [(9, .int y16), (0, .ref (q 0)), (1, .int x1), (2, .int x2), (3, .int x3), (4, .int x4), (5, .int x5), (6, .int x6), (7, .int x7), (8, .int x8)]) hC dX8_holds_32 (by decide) rfl ?_
      refine zj_iload 0 hC dX8_holds_34 rfl ?_
      refine zj_bipush (v := 115) hC dX8_holds_36 (by decide) ?_
      refine zj_icmp_ne 45 hC dX8_holds_38 (by decide) (fun c17 => ?_) (fun c17 => ?_)
      · have hf := z_iteF hf c17
        refine zj_iload 0 hC dX8_holds_45 rfl ?_
        refine zj_bipush (v := 107) hC dX8_holds_47 (by decide) ?_
        refine zj_icmp_ne 56 hC dX8_holds_49 (by decide) (fun c18 => ?_) (fun c18 => ?_)
        · have hf := z_iteF hf c18
          refine zj_iload 0 hC dX8_holds_56 rfl ?_
          refine zj_bipush (v := 99) hC dX8_holds_58 (by decide) ?_
          refine zj_icmp_ne 68 hC dX8_holds_60 (by decide) (fun c19 => ?_) (fun c19 => ?_)
          · have hf := z_iteF hf c19
            refine zj_iload 0 hC dX8_holds_68 rfl ?_
            refine zj_bipush (v := 116) hC dX8_holds_70 (by decide) ?_
            refine zj_icmp_ne 82 hC dX8_holds_72 (by decide) (fun c20 => ?_) (fun c20 => ?_)
            · have hf := z_iteF hf c20
              refine zj_iload 0 hC dX8_holds_82 rfl ?_
              refine zj_bipush (v := 111) hC dX8_holds_84 (by decide) ?_
              refine zj_icmp_ne 96 hC dX8_holds_86 (by decide) (fun c21 => ?_) (fun c21 => ?_)
              · have hf := z_iteF hf c21
                refine zj_iload 0 hC dX8_holds_96 rfl ?_
                refine zj_bipush (v := 114) hC dX8_holds_98 (by decide) ?_
                refine zj_icmp_ne 108 hC dX8_holds_100 (by decide) (fun c22 => ?_) (fun c22 => ?_)
                · have hf := z_iteF hf c22
                  refine zj_iload 7 hC dX8_holds_108 rfl ?_
                  exact zj_sub hC [1, 2, 3, 4, 5, 6, 7, 8, 9] rfl (hJ110 k9 hk9 x6 x1 x2 x3 x4 x5 x6 x7 x8 g hf)
                · have hf := z_iteT hf c22
                  refine zj_iload 6 hC dX8_holds_103 rfl ?_
                  refine zj_goto 110 hC dX8_holds_105 (by decide) ?_
                  exact zj_sub hC [1, 2, 3, 4, 5, 6, 7, 8, 9] rfl (hJ110 k9 hk9 x5 x1 x2 x3 x4 x5 x6 x7 x8 g hf)
              · have hf := z_iteT hf c21
                refine zj_aload_n 1 hC dX8_holds_89 rfl ?_
                obtain ⟨r23, g24, hq25, hf⟩ := z_bindE hf
                refine zj_callVi [] hC (cM_X8_opened l dC dI ca q Zt hZt g r23 g24 hq25) gX8_holds_X8_opened rfl nM_X8_opened ⟨Nat.le_of_ble_eq_true rfl, Nat.le_of_ble_eq_true rfl⟩ 0 mo_0 rfl rfl rfl (Nat.le_of_ble_eq_true rfl) dX8_holds_90 rfl ?_
                refine zj_goto 110 hC dX8_holds_93 (by decide) ?_
                exact zj_sub hC [1, 2, 3, 4, 5, 6, 7, 8, 9] rfl (hJ110 k9 hk9 r23 x1 x2 x3 x4 x5 x6 x7 x8 g24 hf)
            · have hf := z_iteT hf c20
              refine zj_aload_n 1 hC dX8_holds_75 rfl ?_
              refine mg_0_21 hC hX8 (List.mem_of_getElem? (i := 3) rfl) dX8_holds_76 ?_
              refine zj_goto 110 hC dX8_holds_79 (by decide) ?_
              exact zj_sub hC [1, 2, 3, 4, 5, 6, 7, 8, 9] rfl (hJ110 k9 hk9 (g 0 21) x1 x2 x3 x4 x5 x6 x7 x8 g hf)
          · have hf := z_iteT hf c19
            refine zj_iload 5 hC dX8_holds_63 rfl ?_
            refine zj_goto 110 hC dX8_holds_65 (by decide) ?_
            exact zj_sub hC [1, 2, 3, 4, 5, 6, 7, 8, 9] rfl (hJ110 k9 hk9 x4 x1 x2 x3 x4 x5 x6 x7 x8 g hf)
        · have hf := z_iteT hf c18
          refine zj_iload_n 4 hC dX8_holds_52 rfl ?_
          refine zj_goto 110 hC dX8_holds_53 (by decide) ?_
          exact zj_sub hC [1, 2, 3, 4, 5, 6, 7, 8, 9] rfl (hJ110 k9 hk9 x3 x1 x2 x3 x4 x5 x6 x7 x8 g hf)
      · have hf := z_iteT hf c17
        refine zj_iload_n 3 hC dX8_holds_41 rfl ?_
        refine zj_goto 110 hC dX8_holds_42 (by decide) ?_
        exact zj_sub hC [1, 2, 3, 4, 5, 6, 7, 8, 9] rfl (hJ110 k9 hk9 x2 x1 x2 x3 x4 x5 x6 x7 x8 g hf)
  unfold fM_X8_holds at hf
  refine zj_iconst (v := 1) hC dX8_holds_0 (by decide) ?_
  refine zj_istore (lv1 := [(7, .int 1), (0, .ref (q 0)), (1, .int a0), (2, .int a1), (3, .int a2), (4, .int a3), (5, .int a4), (6, .int a5)]) hC dX8_holds_1 (by decide) rfl ?_
  refine zj_bipush (v := 21) hC dX8_holds_3 (by decide) ?_
  refine zj_iload_n 2 hC dX8_holds_5 rfl ?_
  refine zj_imul hC dX8_holds_6 ?_
  refine zj_top (fun y26 ey26 => ?_)
  have hf := z_letE hf ey26
  refine zj_istore (lv1 := [(8, .int y26), (7, .int 1), (0, .ref (q 0)), (1, .int a0), (2, .int a1), (3, .int a2), (4, .int a3), (5, .int a4), (6, .int a5)]) hC dX8_holds_7 (by decide) rfl ?_
  exact zj_sub hC [2, 3, 4, 5, 6, 7, 8, 1, 0] rfl (hJ9 a0 a1 a2 a3 a4 a5 1 y26 g hf)

def fM_X8_leastCovered_62 (k14 : Int32 × Int32 × Int32 × z_G → Option (Int32 × z_G)) (x1 : Int32) (x2 : Int32) (x3 : Int32) (g : z_G) : Option (Int32 × z_G) := z_let (x3 + 1) (fun y1 => k14 (x1, x2, y1, g))
def fM_X8_leastCovered_59 (k14 : Int32 × Int32 × Int32 × z_G → Option (Int32 × z_G)) (x2 : Int32) (x3 : Int32) (x4 : Int32) (g : z_G) : Option (Int32 × z_G) := fM_X8_leastCovered_62 k14 x4 x2 x3 g
def fM_X8_leastCovered_14 (k4 : Int32 × Int32 × z_G → Option (Int32 × z_G)) (k14 : Int32 × Int32 × Int32 × z_G → Option (Int32 × z_G)) (x1 : Int32) (x2 : Int32) (x3 : Int32) (g : z_G) : Option (Int32 × z_G) := (if (g 0 2) ≤ x3 then z_let (x2 + 1) (fun y3 => k4 (x1, y3, g)) else z_let ((x3 * 8) + x2) (fun y4 => z_bind (fM_X8_isOutside y4 g) (fun r5 g6 => (if r5 = 0 then fM_X8_leastCovered_62 k14 x1 x2 x3 g6 else (if x1 < 0 then fM_X8_leastCovered_59 k14 x2 x3 y4 g6 else z_ck y4 64 (z_ck x1 64 ((if (g6 8 (Int32.toNatClampNeg x1)) ≤ (g6 8 (Int32.toNatClampNeg y4)) then fM_X8_leastCovered_62 k14 x1 x2 x3 g6 else fM_X8_leastCovered_59 k14 x2 x3 y4 g6))))))))
def fM_X8_leastCovered_14_go (k4 : Int32 × Int32 × z_G → Option (Int32 × z_G)) (x1 : Int32) (x2 : Int32) (x3 : Int32) (g : z_G) : Option (Int32 × z_G) := z_loop (fun k (w : Int32 × Int32 × Int32 × z_G) => fM_X8_leastCovered_14 k4 k w.1 w.2.1 w.2.2.1 w.2.2.2) z_fuel (x1, x2, x3, g)
def fM_X8_leastCovered_4 (k4 : Int32 × Int32 × z_G → Option (Int32 × z_G)) (x1 : Int32) (x2 : Int32) (g : z_G) : Option (Int32 × z_G) := (if (g 0 1) ≤ x2 then some (x1, g) else fM_X8_leastCovered_14_go k4 x1 x2 0 g)
def fM_X8_leastCovered_4_go (x1 : Int32) (x2 : Int32) (g : z_G) : Option (Int32 × z_G) := z_loop (fun k (w : Int32 × Int32 × z_G) => fM_X8_leastCovered_4 k w.1 w.2.1 w.2.2) z_fuel (x1, x2, g)
def fM_X8_leastCovered (g : z_G) : Option (Int32 × z_G) := fM_X8_leastCovered_4_go (-1) 0 g
theorem nM_X8_leastCovered : yX8_leastCovered.cls = RX8 ∧ yX8_leastCovered.cls ≠ "java/lang/invoke/MethodHandle" ∧ yX8_leastCovered.cls ≠ "java/lang/invoke/VarHandle" ∧ (parseMethodDescriptor yX8_leastCovered.desc).map (fun d => d.parameters.length) = some 0 := by decide +kernel
set_option maxRecDepth 100000 in
set_option maxHeartbeats 4000000 in
theorem cM_X8_leastCovered (l : Launch) (dC : Nat → ClassId) (dI : Nat → Nat → Nat) (ca : Nat → ClassId) (q : Nat → Nat) (Zt : z_ZT) (hZt : z_Zok Zt) (g : z_G) (r : Int32) (g' : z_G) (hf : fM_X8_leastCovered g = some (r, g')) : z_C l yX8_leastCovered wsX8_leastCovered { frames := 2, cells := 0, slots := 0, locals := 42 } (dC, dI) (tyM ca) (wM ca q) Zt [.ref (q 0)] g (some r) g' := by
  refine z_enter (wM_ok ca q) hZt (by decide +kernel) rfl (Nat.le_of_ble_eq_true rfl) (fun J hC => ?_)
  have hC : z_Cx J l cX8_leastCovered 5 wsX8_leastCovered RX8 (some .int) { frames := 2, cells := 0, slots := 0, locals := 42 } (dC, dI) (tyM ca) (wM ca q) Zt (z_QI (dC, dI) (tyM ca) (wM ca q) (some r) g') z_X0 := hC
  show J 0 [(0, .ref (q 0))] [] g
  have hX8 : ∀ w ∈ wsX80, w ∈ wsX8_leastCovered := fun _ h => List.mem_cons_of_mem _ (List.mem_append_right _ (h))
  have hJ62 : ∀ (k14 : Int32 × Int32 × Int32 × z_G → Option (Int32 × z_G)) (_ : ∀ w : Int32 × Int32 × Int32 × z_G, k14 w = some (r, g') → J 14 [(0, .ref (q 0)), (1, .int w.1), (2, .int w.2.1), (3, .int w.2.2.1)] [] w.2.2.2) (x1 : Int32) (x2 : Int32) (x3 : Int32) (g : z_G), fM_X8_leastCovered_62 k14 x1 x2 x3 g = some (r, g') → J 62 [(0, .ref (q 0)), (1, .int x1), (2, .int x2), (3, .int x3)] [] g := by
    intro k14 hk14 x1 x2 x3 g hf
    unfold fM_X8_leastCovered_62 at hf
    refine zj_iinc (lv1 := fun v => [(3, .int v), (0, .ref (q 0)), (1, .int x1), (2, .int x2)]) 3 hC dX8_leastCovered_62 rfl (by decide) (fun _ => rfl) (fun y1 ey1 => ?_)
    have hf := z_letE hf (show y1 = x3 + 1 from ey1)
    refine zj_goto 14 hC dX8_leastCovered_65 (by decide) ?_
    exact zj_sub hC [1, 2, 3, 0] rfl (hk14 (x1, x2, y1, g) hf)
  have hJ59 : ∀ (k14 : Int32 × Int32 × Int32 × z_G → Option (Int32 × z_G)) (_ : ∀ w : Int32 × Int32 × Int32 × z_G, k14 w = some (r, g') → J 14 [(0, .ref (q 0)), (1, .int w.1), (2, .int w.2.1), (3, .int w.2.2.1)] [] w.2.2.2) (x2 : Int32) (x3 : Int32) (x4 : Int32) (g : z_G), fM_X8_leastCovered_59 k14 x2 x3 x4 g = some (r, g') → J 59 [(0, .ref (q 0)), (2, .int x2), (3, .int x3), (4, .int x4)] [] g := by
    intro k14 hk14 x2 x3 x4 g hf
    unfold fM_X8_leastCovered_59 at hf
    refine zj_iload 3 hC dX8_leastCovered_59 rfl ?_
    refine zj_istore_n (lv1 := [(1, .int x4), (0, .ref (q 0)), (2, .int x2), (3, .int x3), (4, .int x4)]) hC dX8_leastCovered_61 (by decide) rfl ?_
    exact zj_sub hC [1, 0, 2, 3] rfl (hJ62 k14 hk14 x4 x2 x3 g hf)
  have hJ14 : ∀ (k4 : Int32 × Int32 × z_G → Option (Int32 × z_G)) (_ : ∀ w : Int32 × Int32 × z_G, k4 w = some (r, g') → J 4 [(0, .ref (q 0)), (1, .int w.1), (2, .int w.2.1)] [] w.2.2) (x1 : Int32) (x2 : Int32) (x3 : Int32) (g : z_G), fM_X8_leastCovered_14_go k4 x1 x2 x3 g = some (r, g') → J 14 [(0, .ref (q 0)), (1, .int x1), (2, .int x2), (3, .int x3)] [] g := by
    intro k4 hk4 x1 x2 x3 g hf
    refine z_loopE (P := fun w : Int32 × Int32 × Int32 × z_G => J 14 [(0, .ref (q 0)), (1, .int w.1), (2, .int w.2.1), (3, .int w.2.2.1)] [] w.2.2.2) (fun k14 hk14 w hf => ?_) z_fuel (x1, x2, x3, g) hf
    obtain ⟨x1, x2, x3, g⟩ := w
    have hf : fM_X8_leastCovered_14 k4 k14 x1 x2 x3 g = some (r, g') := hf
    show J 14 [(0, .ref (q 0)), (1, .int x1), (2, .int x2), (3, .int x3)] [] g
    unfold fM_X8_leastCovered_14 at hf
    refine zj_iload_n 3 hC dX8_leastCovered_14 rfl ?_
    refine zj_aload_n 0 hC dX8_leastCovered_15 rfl ?_
    refine mg_0_2 hC hX8 (List.mem_of_getElem? (i := 2) rfl) dX8_leastCovered_16 ?_
    refine zj_icmp_ge 68 hC dX8_leastCovered_19 (by decide) (fun c2 => ?_) (fun c2 => ?_)
    · have hf := z_iteT hf c2
      refine zj_iinc (lv1 := fun v => [(2, .int v), (0, .ref (q 0)), (1, .int x1), (3, .int x3)]) 2 hC dX8_leastCovered_68 rfl (by decide) (fun _ => rfl) (fun y3 ey3 => ?_)
      have hf := z_letE hf (show y3 = x2 + 1 from ey3)
      refine zj_goto 4 hC dX8_leastCovered_71 (by decide) ?_
      exact zj_sub hC [1, 2, 0] rfl (hk4 (x1, y3, g) hf)
    · have hf := z_iteF hf c2
      refine zj_iload_n 3 hC dX8_leastCovered_22 rfl ?_
      refine zj_bipush (v := 8) hC dX8_leastCovered_23 (by decide) ?_
      refine zj_imul hC dX8_leastCovered_25 ?_
      refine zj_iload_n 2 hC dX8_leastCovered_26 rfl ?_
      refine zj_iadd hC dX8_leastCovered_27 ?_
      refine zj_top (fun y4 ey4 => ?_)
      have hf := z_letE hf ey4
      refine zj_istore (lv1 := [(4, .int y4), (0, .ref (q 0)), (1, .int x1), (2, .int x2), (3, .int x3)]) hC dX8_leastCovered_28 (by decide) rfl ?_
      refine zj_aload_n 1 hC dX8_leastCovered_30 rfl ?_
      refine zj_iload 0 hC dX8_leastCovered_31 rfl ?_
      obtain ⟨r5, g6, hq7, hf⟩ := z_bindE hf
      refine zj_callVi [.int y4] hC (cM_X8_isOutside l dC dI ca q Zt hZt y4 g r5 g6 hq7) gX8_leastCovered_X8_isOutside rfl nM_X8_isOutside ⟨Nat.le_of_ble_eq_true rfl, Nat.le_of_ble_eq_true rfl⟩ 0 mo_0 rfl rfl rfl (Nat.le_of_ble_eq_true rfl) dX8_leastCovered_33 rfl ?_
      refine zj_if_eq 62 hC dX8_leastCovered_36 (by decide) (fun c8 => ?_) (fun c8 => ?_)
      · have hf := z_iteT hf c8
        exact zj_sub hC [1, 2, 3, 4] rfl (hJ62 k14 hk14 x1 x2 x3 g6 hf)
      · have hf := z_iteF hf c8
        refine zj_iload_n 2 hC dX8_leastCovered_39 rfl ?_
        refine zj_if_lt 59 hC dX8_leastCovered_40 (by decide) (fun c9 => ?_) (fun c9 => ?_)
        · have hf := z_iteT hf c9
          exact zj_sub hC [1, 3, 4, 0] rfl (hJ59 k14 hk14 x2 x3 y4 g6 hf)
        · have hf := z_iteF hf c9
          refine zj_aload_n 1 hC dX8_leastCovered_43 rfl ?_
          refine mg_0_10 hC hX8 (List.mem_of_getElem? (i := 3) rfl) dX8_leastCovered_44 ?_
          refine zj_iload 0 hC dX8_leastCovered_47 rfl ?_
          obtain ⟨hq10, hf⟩ := z_ckE hf
          refine ma_8 hC hq10 dX8_leastCovered_49 ?_
          refine zj_aload_n 1 hC dX8_leastCovered_50 rfl ?_
          refine mg_0_10 hC hX8 (List.mem_of_getElem? (i := 3) rfl) dX8_leastCovered_51 ?_
          refine zj_iload_n 2 hC dX8_leastCovered_54 rfl ?_
          obtain ⟨hq11, hf⟩ := z_ckE hf
          refine ma_8 hC hq11 dX8_leastCovered_55 ?_
          refine zj_icmp_ge 62 hC dX8_leastCovered_56 (by decide) (fun c12 => ?_) (fun c12 => ?_)
          · have hf := z_iteT hf c12
            exact zj_sub hC [1, 2, 3, 4] rfl (hJ62 k14 hk14 x1 x2 x3 g6 hf)
          · have hf := z_iteF hf c12
            exact zj_sub hC [1, 3, 4, 0] rfl (hJ59 k14 hk14 x2 x3 y4 g6 hf)
  have hJ4 : ∀ (x1 : Int32) (x2 : Int32) (g : z_G), fM_X8_leastCovered_4_go x1 x2 g = some (r, g') → J 4 [(0, .ref (q 0)), (1, .int x1), (2, .int x2)] [] g := by
    intro x1 x2 g hf
    refine z_loopE (P := fun w : Int32 × Int32 × z_G => J 4 [(0, .ref (q 0)), (1, .int w.1), (2, .int w.2.1)] [] w.2.2) (fun k4 hk4 w hf => ?_) z_fuel (x1, x2, g) hf
    obtain ⟨x1, x2, g⟩ := w
    have hf : fM_X8_leastCovered_4 k4 x1 x2 g = some (r, g') := hf
    show J 4 [(0, .ref (q 0)), (1, .int x1), (2, .int x2)] [] g
    unfold fM_X8_leastCovered_4 at hf
    refine zj_iload_n 2 hC dX8_leastCovered_4 rfl ?_
    refine zj_aload_n 0 hC dX8_leastCovered_5 rfl ?_
    refine mg_0_1 hC hX8 (List.mem_of_getElem? (i := 1) rfl) dX8_leastCovered_6 ?_
    refine zj_icmp_ge 74 hC dX8_leastCovered_9 (by decide) (fun c13 => ?_) (fun c13 => ?_)
    · have hf := z_iteT hf c13
      refine zj_iload_n 1 hC dX8_leastCovered_74 rfl ?_
      exact zj_ireturn hC hf dX8_leastCovered_75
    · have hf := z_iteF hf c13
      refine zj_iconst (v := 0) hC dX8_leastCovered_12 (by decide) ?_
      refine zj_istore_n (lv1 := [(3, .int 0), (0, .ref (q 0)), (1, .int x1), (2, .int x2)]) hC dX8_leastCovered_13 (by decide) rfl ?_
      exact zj_sub hC [1, 2, 3, 0] rfl (hJ14 k4 hk4 x1 x2 0 g hf)
  unfold fM_X8_leastCovered at hf
  refine zj_iconst (v := (-1)) hC dX8_leastCovered_0 (by decide) ?_
  refine zj_istore_n (lv1 := [(1, .int (-1)), (0, .ref (q 0))]) hC dX8_leastCovered_1 (by decide) rfl ?_
  refine zj_iconst (v := 0) hC dX8_leastCovered_2 (by decide) ?_
  refine zj_istore_n (lv1 := [(2, .int 0), (1, .int (-1)), (0, .ref (q 0))]) hC dX8_leastCovered_3 (by decide) rfl ?_
  exact zj_sub hC [2, 1, 0] rfl (hJ4 (-1) 0 g hf)

def fM_X8_goes_107  (g : z_G) : Option (Int32 × z_G) := some (0, g)
def fM_X8_goes_48 (k48 : Int32 × z_G → Option (Int32 × z_G)) (x3 : Int32) (g : z_G) : Option (Int32 × z_G) := (if (g 0 13) ≤ x3 then fM_X8_goes_107 g else z_ck x3 12 (z_let (z_up g 12 (Int32.toNatClampNeg x3) (vp_nar .boolean 0)) (fun g3 => z_let (x3 + 1) (fun y4 => k48 (y4, g3)))))
def fM_X8_goes_48_go (x3 : Int32) (g : z_G) : Option (Int32 × z_G) := z_loop (fun k (w : Int32 × z_G) => fM_X8_goes_48 k w.1 w.2) z_fuel (x3, g)
def fM_X8_goes_106 (s0 : Int32) (s1 : Int32) (g : z_G) : Option (Int32 × z_G) := z_ck s1 12 (z_let (z_up g 12 (Int32.toNatClampNeg s1) (vp_nar .boolean s0)) (fun g6 => fM_X8_goes_107 g6))
def fM_X8_goes (a0 : Int32) (g : z_G) : Option (Int32 × z_G) := z_ck a0 8 (z_let (g 32 (Int32.toNatClampNeg a0)) (fun y8 => (if y8 = 94 then z_bind (fM_X8_leastCovered g) (fun r15 g16 => z_ck r15 64 (z_let (if ((g16 8 (Int32.toNatClampNeg r15)) + 3) < 9 then (g16 8 (Int32.toNatClampNeg r15)) + 3 else 9) (fun y19 => z_ck r15 64 (z_let (z_up g16 8 (Int32.toNatClampNeg r15) y19) (fun g21 => fM_X8_goes_107 g21))))) else (if y8 = 126 then fM_X8_goes_48_go 0 g else z_ck a0 8 ((if (g 0 13) ≤ (g 33 (Int32.toNatClampNeg a0)) then fM_X8_goes_107 g else z_ck a0 8 ((if y8 = 43 then fM_X8_goes_106 1 (g 33 (Int32.toNatClampNeg a0)) g else fM_X8_goes_106 0 (g 33 (Int32.toNatClampNeg a0)) g))))))))
theorem nM_X8_goes : yX8_goes.cls = RX8 ∧ yX8_goes.cls ≠ "java/lang/invoke/MethodHandle" ∧ yX8_goes.cls ≠ "java/lang/invoke/VarHandle" ∧ (parseMethodDescriptor yX8_goes.desc).map (fun d => d.parameters.length) = some 1 := by decide +kernel
set_option maxRecDepth 100000 in
set_option maxHeartbeats 4000000 in
theorem cM_X8_goes (l : Launch) (dC : Nat → ClassId) (dI : Nat → Nat → Nat) (ca : Nat → ClassId) (q : Nat → Nat) (Zt : z_ZT) (hZt : z_Zok Zt) (a0 : Int32) (g : z_G) (r : Int32) (g' : z_G) (hf : fM_X8_goes a0 g = some (r, g')) : z_C l yX8_goes wsX8_goes { frames := 3, cells := 0, slots := 0, locals := 66 } (dC, dI) (tyM ca) (wM ca q) Zt [.ref (q 0), .int a0] g none g' := by
  refine z_enter (wM_ok ca q) hZt (by decide +kernel) rfl (Nat.le_of_ble_eq_true rfl) (fun J hC => ?_)
  have hC : z_Cx J l cX8_goes 4 wsX8_goes RX8 none { frames := 3, cells := 0, slots := 0, locals := 66 } (dC, dI) (tyM ca) (wM ca q) Zt (z_QI (dC, dI) (tyM ca) (wM ca q) none g') z_X0 := hC
  show J 0 [(0, .ref (q 0)), (1, .int a0)] [] g
  have hX8 : ∀ w ∈ wsX80, w ∈ wsX8_goes := fun _ h => List.mem_cons_of_mem _ (List.mem_append_right _ (h))
  have hJ107 : ∀ (g : z_G), fM_X8_goes_107 g = some (r, g') → J 107 [] [] g := by
    intro g hf
    unfold fM_X8_goes_107 at hf
    exact zj_vreturn hC hf dX8_goes_107
  have hJ48 : ∀ (x3 : Int32) (g : z_G), fM_X8_goes_48_go x3 g = some (r, g') → J 48 [(0, .ref (q 0)), (3, .int x3)] [] g := by
    intro x3 g hf
    refine z_loopE (P := fun w : Int32 × z_G => J 48 [(0, .ref (q 0)), (3, .int w.1)] [] w.2) (fun k48 hk48 w hf => ?_) z_fuel (x3, g) hf
    obtain ⟨x3, g⟩ := w
    have hf : fM_X8_goes_48 k48 x3 g = some (r, g') := hf
    show J 48 [(0, .ref (q 0)), (3, .int x3)] [] g
    unfold fM_X8_goes_48 at hf
    refine zj_iload_n 1 hC dX8_goes_48 rfl ?_
    refine zj_aload_n 0 hC dX8_goes_49 rfl ?_
    refine mg_0_13 hC hX8 (List.mem_of_getElem? (i := 7) rfl) dX8_goes_50 ?_
    refine zj_icmp_ge 69 hC dX8_goes_53 (by decide) (fun c1 => ?_) (fun c1 => ?_)
    · have hf := z_iteT hf c1
      refine zj_goto 107 hC dX8_goes_69 (by decide) ?_
      exact zj_sub hC [] rfl (hJ107 g hf)
    · have hf := z_iteF hf c1
      refine zj_aload_n 0 hC dX8_goes_56 rfl ?_
      refine mg_0_15 hC hX8 (List.mem_of_getElem? (i := 8) rfl) dX8_goes_57 ?_
      refine zj_iload_n 1 hC dX8_goes_60 rfl ?_
      refine zj_iconst (v := 0) hC dX8_goes_61 (by decide) ?_
      obtain ⟨hq2, hf⟩ := z_ckE hf
      refine ms_12 hC hq2 dX8_goes_62 (fun g3 eg3 => ?_)
      have hf := z_letE hf eg3
      refine zj_iinc (lv1 := fun v => [(3, .int v), (0, .ref (q 0))]) 1 hC dX8_goes_63 rfl (by decide) (fun _ => rfl) (fun y4 ey4 => ?_)
      have hf := z_letE hf (show y4 = x3 + 1 from ey4)
      refine zj_goto 48 hC dX8_goes_66 (by decide) ?_
      exact zj_sub hC [1, 0] rfl (hk48 (y4, g3) hf)
  have hJ106 : ∀ (s0 : Int32) (s1 : Int32) (g : z_G), fM_X8_goes_106 s0 s1 g = some (r, g') → J 106 [] [.int s0, .int s1, .ref (q 12)] g := by
    intro s0 s1 g hf
    unfold fM_X8_goes_106 at hf
    obtain ⟨hq5, hf⟩ := z_ckE hf
    refine ms_12 hC hq5 dX8_goes_106 (fun g6 eg6 => ?_)
    have hf := z_letE hf eg6
    exact (hJ107 g6 hf)
  unfold fM_X8_goes at hf
  refine zj_aload_n 0 hC dX8_goes_0 rfl ?_
  refine mg_0_44 hC hX8 (List.mem_of_getElem? (i := 1) rfl) dX8_goes_1 ?_
  refine zj_iload_n 1 hC dX8_goes_4 rfl ?_
  obtain ⟨hq7, hf⟩ := z_ckE hf
  refine ma_32 hC hq7 dX8_goes_5 ?_
  refine zj_top (fun y8 ey8 => ?_)
  have hf := z_letE hf ey8
  refine zj_istore_n (lv1 := [(2, .int y8), (0, .ref (q 0)), (1, .int a0)]) hC dX8_goes_6 (by decide) rfl ?_
  refine zj_iload_n 0 hC dX8_goes_7 rfl ?_
  refine zj_bipush (v := 94) hC dX8_goes_8 (by decide) ?_
  refine zj_icmp_ne 40 hC dX8_goes_10 (by decide) (fun c9 => ?_) (fun c9 => ?_)
  · have hf := z_iteF hf c9
    refine zj_iload_n 0 hC dX8_goes_40 rfl ?_
    refine zj_bipush (v := 126) hC dX8_goes_41 (by decide) ?_
    refine zj_icmp_ne 72 hC dX8_goes_43 (by decide) (fun c10 => ?_) (fun c10 => ?_)
    · have hf := z_iteF hf c10
      refine zj_aload_n 1 hC dX8_goes_72 rfl ?_
      refine mg_0_45 hC hX8 (List.mem_of_getElem? (i := 9) rfl) dX8_goes_73 ?_
      refine zj_iload_n 2 hC dX8_goes_76 rfl ?_
      obtain ⟨hq11, hf⟩ := z_ckE hf
      refine ma_33 hC hq11 dX8_goes_77 ?_
      refine zj_aload_n 1 hC dX8_goes_78 rfl ?_
      refine mg_0_13 hC hX8 (List.mem_of_getElem? (i := 7) rfl) dX8_goes_79 ?_
      refine zj_icmp_ge 107 hC dX8_goes_82 (by decide) (fun c12 => ?_) (fun c12 => ?_)
      · have hf := z_iteT hf c12
        exact zj_sub hC [] rfl (hJ107 g hf)
      · have hf := z_iteF hf c12
        refine zj_aload_n 1 hC dX8_goes_85 rfl ?_
        refine mg_0_15 hC hX8 (List.mem_of_getElem? (i := 8) rfl) dX8_goes_86 ?_
        refine zj_aload_n 1 hC dX8_goes_89 rfl ?_
        refine mg_0_45 hC hX8 (List.mem_of_getElem? (i := 9) rfl) dX8_goes_90 ?_
        refine zj_iload_n 2 hC dX8_goes_93 rfl ?_
        obtain ⟨hq13, hf⟩ := z_ckE hf
        refine ma_33 hC hq13 dX8_goes_94 ?_
        refine zj_iload_n 0 hC dX8_goes_95 rfl ?_
        refine zj_bipush (v := 43) hC dX8_goes_96 (by decide) ?_
        refine zj_icmp_ne 105 hC dX8_goes_98 (by decide) (fun c14 => ?_) (fun c14 => ?_)
        · have hf := z_iteF hf c14
          refine zj_iconst (v := 0) hC dX8_goes_105 (by decide) ?_
          exact zj_sub hC [] rfl (hJ106 0 (g 33 (Int32.toNatClampNeg a0)) g hf)
        · have hf := z_iteT hf c14
          refine zj_iconst (v := 1) hC dX8_goes_101 (by decide) ?_
          refine zj_goto 106 hC dX8_goes_102 (by decide) ?_
          exact zj_sub hC [] rfl (hJ106 1 (g 33 (Int32.toNatClampNeg a0)) g hf)
    · have hf := z_iteT hf c10
      refine zj_iconst (v := 0) hC dX8_goes_46 (by decide) ?_
      refine zj_istore_n (lv1 := [(3, .int 0), (2, .int y8), (0, .ref (q 0)), (1, .int a0)]) hC dX8_goes_47 (by decide) rfl ?_
      exact zj_sub hC [2, 0] rfl (hJ48 0 g hf)
  · have hf := z_iteT hf c9
    refine zj_aload_n 1 hC dX8_goes_13 rfl ?_
    obtain ⟨r15, g16, hq17, hf⟩ := z_bindE hf
    refine zj_callVi [] hC (cM_X8_leastCovered l dC dI ca q Zt hZt g r15 g16 hq17) gX8_goes_X8_leastCovered rfl nM_X8_leastCovered ⟨Nat.le_of_ble_eq_true rfl, Nat.le_of_ble_eq_true rfl⟩ 0 mo_0 rfl rfl rfl (Nat.le_of_ble_eq_true rfl) dX8_goes_14 rfl ?_
    refine zj_istore_n (lv1 := [(3, .int r15), (2, .int y8), (0, .ref (q 0)), (1, .int a0)]) hC dX8_goes_17 (by decide) rfl ?_
    refine zj_aload_n 2 hC dX8_goes_18 rfl ?_
    refine mg_0_10 hC hX8 (List.mem_of_getElem? (i := 2) rfl) dX8_goes_19 ?_
    refine zj_iload_n 0 hC dX8_goes_22 rfl ?_
    refine zj_bipush (v := 9) hC dX8_goes_23 (by decide) ?_
    refine zj_aload_n 2 hC dX8_goes_25 rfl ?_
    refine mg_0_10 hC hX8 (List.mem_of_getElem? (i := 2) rfl) dX8_goes_26 ?_
    refine zj_iload_n 0 hC dX8_goes_29 rfl ?_
    obtain ⟨hq18, hf⟩ := z_ckE hf
    refine ma_8 hC hq18 dX8_goes_30 ?_
    refine zj_iconst (v := 3) hC dX8_goes_31 (by decide) ?_
    refine zj_iadd hC dX8_goes_32 ?_
    refine zj_min hC (List.mem_of_getElem? (i := 3) rfl) (List.mem_of_getElem? (i := 4) rfl) (List.mem_of_getElem? (i := 5) rfl) (List.mem_of_getElem? (i := 6) rfl) (Nat.le_of_ble_eq_true rfl) (Nat.le_of_ble_eq_true rfl) dX8_goes_33 ?_
    refine zj_top (fun y19 ey19 => ?_)
    have hf := z_letE hf ey19
    obtain ⟨hq20, hf⟩ := z_ckE hf
    refine ms_8 hC hq20 dX8_goes_36 (fun g21 eg21 => ?_)
    have hf := z_letE hf eg21
    refine zj_goto 107 hC dX8_goes_37 (by decide) ?_
    exact zj_sub hC [] rfl (hJ107 g21 hf)

def fM_X8_watchers_139 (k81 : Int32 × Int32 × Int32 × Int32 × Int32 × Int32 × Int32 × z_G → Option (Int32 × z_G)) (x2 : Int32) (x3 : Int32) (x5 : Int32) (x6 : Int32) (x7 : Int32) (x8 : Int32) (x9 : Int32) (g : z_G) : Option (Int32 × z_G) := z_let (x9 + 1) (fun y1 => k81 (x2, x3, x5, x6, x7, x8, y1, g))
def fM_X8_watchers_81 (k81 : Int32 × Int32 × Int32 × Int32 × Int32 × Int32 × Int32 × z_G → Option (Int32 × z_G)) (x2 : Int32) (x3 : Int32) (x5 : Int32) (x6 : Int32) (x7 : Int32) (x8 : Int32) (x9 : Int32) (g : z_G) : Option (Int32 × z_G) := (if (g 0 42) ≤ x9 then some (x8, g) else z_ck x9 8 ((if (g 0 21) < (g 31 (Int32.toNatClampNeg x9)) then fM_X8_watchers_139 k81 x2 x3 x5 x6 x7 x8 x9 g else z_bind (fM_X8_holds x9 x5 x6 x7 x2 x3 g) (fun r5 g6 => (if r5 = 0 then fM_X8_watchers_139 k81 x2 x3 x5 x6 x7 x8 x9 g6 else z_let (x8 ||| (1 <<< (x9 &&& 31))) (fun y9 => z_bind (fM_X8_goes x9 g6) (fun r10 g11 => fM_X8_watchers_139 k81 x2 x3 x5 x6 x7 y9 x9 g11)))))))
def fM_X8_watchers_81_go (x2 : Int32) (x3 : Int32) (x5 : Int32) (x6 : Int32) (x7 : Int32) (x8 : Int32) (x9 : Int32) (g : z_G) : Option (Int32 × z_G) := z_loop (fun k (w : Int32 × Int32 × Int32 × Int32 × Int32 × Int32 × Int32 × z_G) => fM_X8_watchers_81 k w.1 w.2.1 w.2.2.1 w.2.2.2.1 w.2.2.2.2.1 w.2.2.2.2.2.1 w.2.2.2.2.2.2.1 w.2.2.2.2.2.2.2) z_fuel (x2, x3, x5, x6, x7, x8, x9, g)
def fM_X8_watchers_73 (s0 : Int32) (x2 : Int32) (x3 : Int32) (x5 : Int32) (x6 : Int32) (g : z_G) : Option (Int32 × z_G) := fM_X8_watchers_81_go x2 x3 x5 x6 s0 0 0 g
def fM_X8_watchers_53 (s0 : Int32) (x2 : Int32) (x3 : Int32) (x4 : Int32) (x5 : Int32) (g : z_G) : Option (Int32 × z_G) := (if x4 = 0 then fM_X8_watchers_73 0 x2 x3 x5 s0 g else z_bind (fM_X8_leastCovered g) (fun r14 g15 => z_ck r14 64 (fM_X8_watchers_73 (g15 8 (Int32.toNatClampNeg r14)) x2 x3 x5 s0 g15)))
def fM_X8_watchers_37 (s0 : Int32) (x2 : Int32) (x3 : Int32) (x4 : Int32) (g : z_G) : Option (Int32 × z_G) := (if x4 = 0 then fM_X8_watchers_53 99 x2 x3 x4 s0 g else z_bind (fM_X8_bareCells g) (fun r19 g20 => fM_X8_watchers_53 r19 x2 x3 x4 s0 g20))
def fM_X8_watchers_23 (s0 : Int32) (x1 : Int32) (x2 : Int32) (x3 : Int32) (g : z_G) : Option (Int32 × z_G) := (if s0 = 0 then fM_X8_watchers_37 9999 x2 x3 s0 g else fM_X8_watchers_37 x1 x2 x3 s0 g)
def fM_X8_watchers (a0 : Int32) (a1 : Int32) (a2 : Int32) (g : z_G) : Option (Int32 × z_G) := (if (((g 0 24) >>> (((g 0 21) - (g 0 21) / 24 * 24) &&& 31)) &&& 1) = 1 then fM_X8_watchers_23 1 a0 a1 a2 g else fM_X8_watchers_23 0 a0 a1 a2 g)
theorem nM_X8_watchers : yX8_watchers.cls = RX8 ∧ yX8_watchers.cls ≠ "java/lang/invoke/MethodHandle" ∧ yX8_watchers.cls ≠ "java/lang/invoke/VarHandle" ∧ (parseMethodDescriptor yX8_watchers.desc).map (fun d => d.parameters.length) = some 3 := by decide +kernel
set_option maxRecDepth 100000 in
set_option maxHeartbeats 4000000 in
theorem cM_X8_watchers (l : Launch) (dC : Nat → ClassId) (dI : Nat → Nat → Nat) (ca : Nat → ClassId) (q : Nat → Nat) (Zt : z_ZT) (hZt : z_Zok Zt) (a0 : Int32) (a1 : Int32) (a2 : Int32) (g : z_G) (r : Int32) (g' : z_G) (hf : fM_X8_watchers a0 a1 a2 g = some (r, g')) : z_C l yX8_watchers wsX8_watchers { frames := 4, cells := 0, slots := 0, locals := 89 } (dC, dI) (tyM ca) (wM ca q) Zt [.ref (q 0), .int a0, .int a1, .int a2] g (some r) g' := by
  refine z_enter (wM_ok ca q) hZt (by decide +kernel) rfl (Nat.le_of_ble_eq_true rfl) (fun J hC => ?_)
  have hC : z_Cx J l cX8_watchers 10 wsX8_watchers RX8 (some .int) { frames := 4, cells := 0, slots := 0, locals := 89 } (dC, dI) (tyM ca) (wM ca q) Zt (z_QI (dC, dI) (tyM ca) (wM ca q) (some r) g') z_X0 := hC
  show J 0 [(0, .ref (q 0)), (1, .int a0), (2, .int a1), (3, .int a2)] [] g
  have hX8 : ∀ w ∈ wsX80, w ∈ wsX8_watchers := fun _ h => List.mem_cons_of_mem _ (List.mem_append_right _ (h))
  have hJ139 : ∀ (k81 : Int32 × Int32 × Int32 × Int32 × Int32 × Int32 × Int32 × z_G → Option (Int32 × z_G)) (_ : ∀ w : Int32 × Int32 × Int32 × Int32 × Int32 × Int32 × Int32 × z_G, k81 w = some (r, g') → J 81 [(0, .ref (q 0)), (2, .int w.1), (3, .int w.2.1), (5, .int w.2.2.1), (6, .int w.2.2.2.1), (7, .int w.2.2.2.2.1), (8, .int w.2.2.2.2.2.1), (9, .int w.2.2.2.2.2.2.1)] [] w.2.2.2.2.2.2.2) (x2 : Int32) (x3 : Int32) (x5 : Int32) (x6 : Int32) (x7 : Int32) (x8 : Int32) (x9 : Int32) (g : z_G), fM_X8_watchers_139 k81 x2 x3 x5 x6 x7 x8 x9 g = some (r, g') → J 139 [(0, .ref (q 0)), (2, .int x2), (3, .int x3), (5, .int x5), (6, .int x6), (7, .int x7), (8, .int x8), (9, .int x9)] [] g := by
    intro k81 hk81 x2 x3 x5 x6 x7 x8 x9 g hf
    unfold fM_X8_watchers_139 at hf
    refine zj_iinc (lv1 := fun v => [(9, .int v), (0, .ref (q 0)), (2, .int x2), (3, .int x3), (5, .int x5), (6, .int x6), (7, .int x7), (8, .int x8)]) 7 hC dX8_watchers_139 rfl (by decide) (fun _ => rfl) (fun y1 ey1 => ?_)
    have hf := z_letE hf (show y1 = x9 + 1 from ey1)
    refine zj_goto 81 hC dX8_watchers_142 (by decide) ?_
    exact zj_sub hC [1, 2, 3, 4, 5, 6, 7, 0] rfl (hk81 (x2, x3, x5, x6, x7, x8, y1, g) hf)
  have hJ81 : ∀ (x2 : Int32) (x3 : Int32) (x5 : Int32) (x6 : Int32) (x7 : Int32) (x8 : Int32) (x9 : Int32) (g : z_G), fM_X8_watchers_81_go x2 x3 x5 x6 x7 x8 x9 g = some (r, g') → J 81 [(0, .ref (q 0)), (2, .int x2), (3, .int x3), (5, .int x5), (6, .int x6), (7, .int x7), (8, .int x8), (9, .int x9)] [] g := by
    intro x2 x3 x5 x6 x7 x8 x9 g hf
    refine z_loopE (P := fun w : Int32 × Int32 × Int32 × Int32 × Int32 × Int32 × Int32 × z_G => J 81 [(0, .ref (q 0)), (2, .int w.1), (3, .int w.2.1), (5, .int w.2.2.1), (6, .int w.2.2.2.1), (7, .int w.2.2.2.2.1), (8, .int w.2.2.2.2.2.1), (9, .int w.2.2.2.2.2.2.1)] [] w.2.2.2.2.2.2.2) (fun k81 hk81 w hf => ?_) z_fuel (x2, x3, x5, x6, x7, x8, x9, g) hf
    obtain ⟨x2, x3, x5, x6, x7, x8, x9, g⟩ := w
    have hf : fM_X8_watchers_81 k81 x2 x3 x5 x6 x7 x8 x9 g = some (r, g') := hf
    show J 81 [(0, .ref (q 0)), (2, .int x2), (3, .int x3), (5, .int x5), (6, .int x6), (7, .int x7), (8, .int x8), (9, .int x9)] [] g
    unfold fM_X8_watchers_81 at hf
    refine zj_iload 7 hC dX8_watchers_81 rfl ?_
    refine zj_aload_n 0 hC dX8_watchers_83 rfl ?_
    refine mg_0_42 hC hX8 (List.mem_of_getElem? (i := 4) rfl) dX8_watchers_84 ?_
    refine zj_icmp_ge 145 hC dX8_watchers_87 (by decide) (fun c2 => ?_) (fun c2 => ?_)
    · have hf := z_iteT hf c2
      refine zj_iload 6 hC dX8_watchers_145 rfl ?_
      exact zj_ireturn hC hf dX8_watchers_147
    · have hf := z_iteF hf c2
      refine zj_aload_n 0 hC dX8_watchers_90 rfl ?_
      refine mg_0_43 hC hX8 (List.mem_of_getElem? (i := 5) rfl) dX8_watchers_91 ?_
      refine zj_iload 7 hC dX8_watchers_94 rfl ?_
      obtain ⟨hq3, hf⟩ := z_ckE hf
      refine ma_31 hC hq3 dX8_watchers_96 ?_
      refine zj_aload_n 0 hC dX8_watchers_97 rfl ?_
      refine mg_0_21 hC hX8 (List.mem_of_getElem? (i := 2) rfl) dX8_watchers_98 ?_
      refine zj_icmp_gt 139 hC dX8_watchers_101 (by decide) (fun c4 => ?_) (fun c4 => ?_)
      · have hf := z_iteT hf c4
        exact (hJ139 k81 hk81 x2 x3 x5 x6 x7 x8 x9 g hf)
      · have hf := z_iteF hf c4
        refine zj_aload_n 0 hC dX8_watchers_104 rfl ?_
        refine zj_iload 7 hC dX8_watchers_105 rfl ?_
        refine zj_iload 3 hC dX8_watchers_107 rfl ?_
        refine zj_iload 4 hC dX8_watchers_109 rfl ?_
        refine zj_iload 5 hC dX8_watchers_111 rfl ?_
        refine zj_iload_n 1 hC dX8_watchers_113 rfl ?_
        refine zj_iload_n 2 hC dX8_watchers_114 rfl ?_
        obtain ⟨r5, g6, hq7, hf⟩ := z_bindE hf
        refine zj_callVi [.int x9, .int x5, .int x6, .int x7, .int x2, .int x3] hC (cM_X8_holds l dC dI ca q Zt hZt x9 x5 x6 x7 x2 x3 g r5 g6 hq7) gX8_watchers_X8_holds rfl nM_X8_holds ⟨Nat.le_of_ble_eq_true rfl, Nat.le_of_ble_eq_true rfl⟩ 0 mo_0 rfl rfl rfl (Nat.le_of_ble_eq_true rfl) dX8_watchers_115 rfl ?_
        refine zj_if_ne 124 hC dX8_watchers_118 (by decide) (fun c8 => ?_) (fun c8 => ?_)
        · have hf := z_iteF hf c8
          refine zj_iload 6 hC dX8_watchers_124 rfl ?_
          refine zj_iconst (v := 1) hC dX8_watchers_126 (by decide) ?_
          refine zj_iload 7 hC dX8_watchers_127 rfl ?_
          refine zj_ishl hC dX8_watchers_129 ?_
          refine zj_ior hC dX8_watchers_130 ?_
          refine zj_top (fun y9 ey9 => ?_)
          have hf := z_letE hf ey9
          refine zj_istore (lv1 := [(8, .int y9), (0, .ref (q 0)), (2, .int x2), (3, .int x3), (5, .int x5), (6, .int x6), (7, .int x7), (9, .int x9)]) hC dX8_watchers_131 (by decide) rfl ?_
          refine zj_aload_n 1 hC dX8_watchers_133 rfl ?_
          refine zj_iload 7 hC dX8_watchers_134 rfl ?_
          obtain ⟨r10, g11, hq12, hf⟩ := z_bindE hf
          refine zj_callVv [.int x9] hC (cM_X8_goes l dC dI ca q Zt hZt x9 g6 r10 g11 hq12) gX8_watchers_X8_goes rfl nM_X8_goes ⟨Nat.le_of_ble_eq_true rfl, Nat.le_of_ble_eq_true rfl⟩ 0 mo_0 rfl rfl rfl (Nat.le_of_ble_eq_true rfl) dX8_watchers_136 rfl ?_
          exact zj_sub hC [1, 2, 3, 4, 5, 6, 0, 7] rfl (hJ139 k81 hk81 x2 x3 x5 x6 x7 y9 x9 g11 hf)
        · have hf := z_iteT hf c8
          refine zj_goto 139 hC dX8_watchers_121 (by decide) ?_
          exact (hJ139 k81 hk81 x2 x3 x5 x6 x7 x8 x9 g6 hf)
  have hJ73 : ∀ (s0 : Int32) (x2 : Int32) (x3 : Int32) (x5 : Int32) (x6 : Int32) (g : z_G), fM_X8_watchers_73 s0 x2 x3 x5 x6 g = some (r, g') → J 73 [(0, .ref (q 0)), (2, .int x2), (3, .int x3), (5, .int x5), (6, .int x6)] [.int s0] g := by
    intro s0 x2 x3 x5 x6 g hf
    unfold fM_X8_watchers_73 at hf
    refine zj_istore (lv1 := [(7, .int s0), (0, .ref (q 0)), (2, .int x2), (3, .int x3), (5, .int x5), (6, .int x6)]) hC dX8_watchers_73 (by decide) rfl ?_
    refine zj_iconst (v := 0) hC dX8_watchers_75 (by decide) ?_
    refine zj_istore (lv1 := [(8, .int 0), (7, .int s0), (0, .ref (q 0)), (2, .int x2), (3, .int x3), (5, .int x5), (6, .int x6)]) hC dX8_watchers_76 (by decide) rfl ?_
    refine zj_iconst (v := 0) hC dX8_watchers_78 (by decide) ?_
    refine zj_istore (lv1 := [(9, .int 0), (8, .int 0), (7, .int s0), (0, .ref (q 0)), (2, .int x2), (3, .int x3), (5, .int x5), (6, .int x6)]) hC dX8_watchers_79 (by decide) rfl ?_
    exact zj_sub hC [3, 4, 5, 6, 7, 2, 1, 0] rfl (hJ81 x2 x3 x5 x6 s0 0 0 g hf)
  have hJ53 : ∀ (s0 : Int32) (x2 : Int32) (x3 : Int32) (x4 : Int32) (x5 : Int32) (g : z_G), fM_X8_watchers_53 s0 x2 x3 x4 x5 g = some (r, g') → J 53 [(0, .ref (q 0)), (2, .int x2), (3, .int x3), (4, .int x4), (5, .int x5)] [.int s0] g := by
    intro s0 x2 x3 x4 x5 g hf
    unfold fM_X8_watchers_53 at hf
    refine zj_istore (lv1 := [(6, .int s0), (0, .ref (q 0)), (2, .int x2), (3, .int x3), (4, .int x4), (5, .int x5)]) hC dX8_watchers_53 (by decide) rfl ?_
    refine zj_iload 4 hC dX8_watchers_55 rfl ?_
    refine zj_if_eq 72 hC dX8_watchers_57 (by decide) (fun c13 => ?_) (fun c13 => ?_)
    · have hf := z_iteT hf c13
      refine zj_iconst (v := 0) hC dX8_watchers_72 (by decide) ?_
      exact zj_sub hC [1, 2, 3, 5, 0] rfl (hJ73 0 x2 x3 x5 s0 g hf)
    · have hf := z_iteF hf c13
      refine zj_aload_n 1 hC dX8_watchers_60 rfl ?_
      refine mg_0_10 hC hX8 (List.mem_of_getElem? (i := 3) rfl) dX8_watchers_61 ?_
      refine zj_aload_n 1 hC dX8_watchers_64 rfl ?_
      obtain ⟨r14, g15, hq16, hf⟩ := z_bindE hf
      refine zj_callVi [] hC (cM_X8_leastCovered l dC dI ca q Zt hZt g r14 g15 hq16) gX8_watchers_X8_leastCovered rfl nM_X8_leastCovered ⟨Nat.le_of_ble_eq_true rfl, Nat.le_of_ble_eq_true rfl⟩ 0 mo_0 rfl rfl rfl (Nat.le_of_ble_eq_true rfl) dX8_watchers_65 rfl ?_
      obtain ⟨hq17, hf⟩ := z_ckE hf
      refine ma_8 hC hq17 dX8_watchers_68 ?_
      refine zj_goto 73 hC dX8_watchers_69 (by decide) ?_
      exact zj_sub hC [1, 2, 3, 5, 0] rfl (hJ73 (g15 8 (Int32.toNatClampNeg r14)) x2 x3 x5 s0 g15 hf)
  have hJ37 : ∀ (s0 : Int32) (x2 : Int32) (x3 : Int32) (x4 : Int32) (g : z_G), fM_X8_watchers_37 s0 x2 x3 x4 g = some (r, g') → J 37 [(0, .ref (q 0)), (2, .int x2), (3, .int x3), (4, .int x4)] [.int s0] g := by
    intro s0 x2 x3 x4 g hf
    unfold fM_X8_watchers_37 at hf
    refine zj_istore (lv1 := [(5, .int s0), (0, .ref (q 0)), (2, .int x2), (3, .int x3), (4, .int x4)]) hC dX8_watchers_37 (by decide) rfl ?_
    refine zj_iload 4 hC dX8_watchers_39 rfl ?_
    refine zj_if_eq 51 hC dX8_watchers_41 (by decide) (fun c18 => ?_) (fun c18 => ?_)
    · have hf := z_iteT hf c18
      refine zj_bipush (v := 99) hC dX8_watchers_51 (by decide) ?_
      exact zj_sub hC [1, 2, 3, 4, 0] rfl (hJ53 99 x2 x3 x4 s0 g hf)
    · have hf := z_iteF hf c18
      refine zj_aload_n 1 hC dX8_watchers_44 rfl ?_
      obtain ⟨r19, g20, hq21, hf⟩ := z_bindE hf
      refine zj_callVi [] hC (cM_X8_bareCells l dC dI ca q Zt hZt g r19 g20 hq21) gX8_watchers_X8_bareCells rfl nM_X8_bareCells ⟨Nat.le_of_ble_eq_true rfl, Nat.le_of_ble_eq_true rfl⟩ 0 mo_0 rfl rfl rfl (Nat.le_of_ble_eq_true rfl) dX8_watchers_45 rfl ?_
      refine zj_goto 53 hC dX8_watchers_48 (by decide) ?_
      exact zj_sub hC [1, 2, 3, 4, 0] rfl (hJ53 r19 x2 x3 x4 s0 g20 hf)
  have hJ23 : ∀ (s0 : Int32) (x1 : Int32) (x2 : Int32) (x3 : Int32) (g : z_G), fM_X8_watchers_23 s0 x1 x2 x3 g = some (r, g') → J 23 [(0, .ref (q 0)), (1, .int x1), (2, .int x2), (3, .int x3)] [.int s0] g := by
    intro s0 x1 x2 x3 g hf
    unfold fM_X8_watchers_23 at hf
    refine zj_istore (lv1 := [(4, .int s0), (0, .ref (q 0)), (1, .int x1), (2, .int x2), (3, .int x3)]) hC dX8_watchers_23 (by decide) rfl ?_
    refine zj_iload 0 hC dX8_watchers_25 rfl ?_
    refine zj_if_eq 34 hC dX8_watchers_27 (by decide) (fun c22 => ?_) (fun c22 => ?_)
    · have hf := z_iteT hf c22
      refine zj_sipush (v := 9999) hC dX8_watchers_34 (by decide) ?_
      exact zj_sub hC [1, 3, 4, 0] rfl (hJ37 9999 x2 x3 s0 g hf)
    · have hf := z_iteF hf c22
      refine zj_iload_n 2 hC dX8_watchers_30 rfl ?_
      refine zj_goto 37 hC dX8_watchers_31 (by decide) ?_
      exact zj_sub hC [1, 3, 4, 0] rfl (hJ37 x1 x2 x3 s0 g hf)
  unfold fM_X8_watchers at hf
  refine zj_aload_n 0 hC dX8_watchers_0 rfl ?_
  refine mg_0_24 hC hX8 (List.mem_of_getElem? (i := 1) rfl) dX8_watchers_1 ?_
  refine zj_aload_n 0 hC dX8_watchers_4 rfl ?_
  refine mg_0_21 hC hX8 (List.mem_of_getElem? (i := 2) rfl) dX8_watchers_5 ?_
  refine zj_bipush (v := 24) hC dX8_watchers_8 (by decide) ?_
  refine zj_irem hC dX8_watchers_10 (by decide) ?_
  refine zj_ishr hC dX8_watchers_11 ?_
  refine zj_iconst (v := 1) hC dX8_watchers_12 (by decide) ?_
  refine zj_iand hC dX8_watchers_13 ?_
  refine zj_iconst (v := 1) hC dX8_watchers_14 (by decide) ?_
  refine zj_icmp_ne 22 hC dX8_watchers_15 (by decide) (fun c23 => ?_) (fun c23 => ?_)
  · have hf := z_iteF hf c23
    refine zj_iconst (v := 0) hC dX8_watchers_22 (by decide) ?_
    exact (hJ23 0 a0 a1 a2 g hf)
  · have hf := z_iteT hf c23
    refine zj_iconst (v := 1) hC dX8_watchers_18 (by decide) ?_
    refine zj_goto 23 hC dX8_watchers_19 (by decide) ?_
    exact (hJ23 1 a0 a1 a2 g hf)

def fM_X8_burning_25 (k4 : Int32 × Int32 × z_G → Option (Int32 × z_G)) (s0 : Int32) (s1 : Int32) (x2 : Int32) (g : z_G) : Option (Int32 × z_G) := z_let (s1 + s0) (fun y1 => z_let (x2 + 1) (fun y2 => k4 (y1, y2, g)))
def fM_X8_burning_4 (k4 : Int32 × Int32 × z_G → Option (Int32 × z_G)) (x1 : Int32) (x2 : Int32) (g : z_G) : Option (Int32 × z_G) := (if 64 ≤ x2 then some (x1, g) else z_ck x2 64 ((if (g 5 (Int32.toNatClampNeg x2)) = 0 then fM_X8_burning_25 k4 0 x1 x2 g else fM_X8_burning_25 k4 1 x1 x2 g)))
def fM_X8_burning_4_go (x1 : Int32) (x2 : Int32) (g : z_G) : Option (Int32 × z_G) := z_loop (fun k (w : Int32 × Int32 × z_G) => fM_X8_burning_4 k w.1 w.2.1 w.2.2) z_fuel (x1, x2, g)
def fM_X8_burning (g : z_G) : Option (Int32 × z_G) := fM_X8_burning_4_go 0 0 g
theorem nM_X8_burning : yX8_burning.cls = RX8 ∧ yX8_burning.cls ≠ "java/lang/invoke/MethodHandle" ∧ yX8_burning.cls ≠ "java/lang/invoke/VarHandle" ∧ (parseMethodDescriptor yX8_burning.desc).map (fun d => d.parameters.length) = some 0 := by decide +kernel
set_option maxRecDepth 100000 in
set_option maxHeartbeats 4000000 in
theorem cM_X8_burning (l : Launch) (dC : Nat → ClassId) (dI : Nat → Nat → Nat) (ca : Nat → ClassId) (q : Nat → Nat) (Zt : z_ZT) (hZt : z_Zok Zt) (g : z_G) (r : Int32) (g' : z_G) (hf : fM_X8_burning g = some (r, g')) : z_C l yX8_burning wsX8_burning { frames := 0, cells := 0, slots := 0, locals := 0 } (dC, dI) (tyM ca) (wM ca q) Zt [.ref (q 0)] g (some r) g' := by
  refine z_enter (wM_ok ca q) hZt (by decide +kernel) rfl (Nat.le_of_ble_eq_true rfl) (fun J hC => ?_)
  have hC : z_Cx J l cX8_burning 3 wsX8_burning RX8 (some .int) { frames := 0, cells := 0, slots := 0, locals := 0 } (dC, dI) (tyM ca) (wM ca q) Zt (z_QI (dC, dI) (tyM ca) (wM ca q) (some r) g') z_X0 := hC
  show J 0 [(0, .ref (q 0))] [] g
  have hX8 : ∀ w ∈ wsX80, w ∈ wsX8_burning := fun _ h => List.mem_cons_of_mem _ (List.mem_append_right _ (h))
  have hJ25 : ∀ (k4 : Int32 × Int32 × z_G → Option (Int32 × z_G)) (_ : ∀ w : Int32 × Int32 × z_G, k4 w = some (r, g') → J 4 [(0, .ref (q 0)), (1, .int w.1), (2, .int w.2.1)] [] w.2.2) (s0 : Int32) (s1 : Int32) (x2 : Int32) (g : z_G), fM_X8_burning_25 k4 s0 s1 x2 g = some (r, g') → J 25 [(0, .ref (q 0)), (2, .int x2)] [.int s0, .int s1] g := by
    intro k4 hk4 s0 s1 x2 g hf
    unfold fM_X8_burning_25 at hf
    refine zj_iadd hC dX8_burning_25 ?_
    refine zj_top (fun y1 ey1 => ?_)
    have hf := z_letE hf ey1
    refine zj_istore_n (lv1 := [(1, .int y1), (0, .ref (q 0)), (2, .int x2)]) hC dX8_burning_26 (by decide) rfl ?_
    refine zj_iinc (lv1 := fun v => [(2, .int v), (1, .int y1), (0, .ref (q 0))]) 2 hC dX8_burning_27 rfl (by decide) (fun _ => rfl) (fun y2 ey2 => ?_)
    have hf := z_letE hf (show y2 = x2 + 1 from ey2)
    refine zj_goto 4 hC dX8_burning_30 (by decide) ?_
    exact zj_sub hC [2, 1, 0] rfl (hk4 (y1, y2, g) hf)
  have hJ4 : ∀ (x1 : Int32) (x2 : Int32) (g : z_G), fM_X8_burning_4_go x1 x2 g = some (r, g') → J 4 [(0, .ref (q 0)), (1, .int x1), (2, .int x2)] [] g := by
    intro x1 x2 g hf
    refine z_loopE (P := fun w : Int32 × Int32 × z_G => J 4 [(0, .ref (q 0)), (1, .int w.1), (2, .int w.2.1)] [] w.2.2) (fun k4 hk4 w hf => ?_) z_fuel (x1, x2, g) hf
    obtain ⟨x1, x2, g⟩ := w
    have hf : fM_X8_burning_4 k4 x1 x2 g = some (r, g') := hf
    show J 4 [(0, .ref (q 0)), (1, .int x1), (2, .int x2)] [] g
    unfold fM_X8_burning_4 at hf
    refine zj_iload_n 2 hC dX8_burning_4 rfl ?_
    refine zj_bipush (v := 64) hC dX8_burning_5 (by decide) ?_
    refine zj_icmp_ge 33 hC dX8_burning_7 (by decide) (fun c3 => ?_) (fun c3 => ?_)
    · have hf := z_iteT hf c3
      refine zj_iload_n 1 hC dX8_burning_33 rfl ?_
      exact zj_ireturn hC hf dX8_burning_34
    · have hf := z_iteF hf c3
      refine zj_iload_n 1 hC dX8_burning_10 rfl ?_
      refine zj_aload_n 0 hC dX8_burning_11 rfl ?_
      refine mg_0_7 hC hX8 (List.mem_of_getElem? (i := 1) rfl) dX8_burning_12 ?_
      refine zj_iload_n 2 hC dX8_burning_15 rfl ?_
      obtain ⟨hq4, hf⟩ := z_ckE hf
      refine ma_5 hC hq4 dX8_burning_16 ?_
      refine zj_if_eq 24 hC dX8_burning_17 (by decide) (fun c5 => ?_) (fun c5 => ?_)
      · have hf := z_iteT hf c5
        refine zj_iconst (v := 0) hC dX8_burning_24 (by decide) ?_
        exact zj_sub hC [0, 2] rfl (hJ25 k4 hk4 0 x1 x2 g hf)
      · have hf := z_iteF hf c5
        refine zj_iconst (v := 1) hC dX8_burning_20 (by decide) ?_
        refine zj_goto 25 hC dX8_burning_21 (by decide) ?_
        exact zj_sub hC [0, 2] rfl (hJ25 k4 hk4 1 x1 x2 g hf)
  unfold fM_X8_burning at hf
  refine zj_iconst (v := 0) hC dX8_burning_0 (by decide) ?_
  refine zj_istore_n (lv1 := [(1, .int 0), (0, .ref (q 0))]) hC dX8_burning_1 (by decide) rfl ?_
  refine zj_iconst (v := 0) hC dX8_burning_2 (by decide) ?_
  refine zj_istore_n (lv1 := [(2, .int 0), (1, .int 0), (0, .ref (q 0))]) hC dX8_burning_3 (by decide) rfl ?_
  exact zj_sub hC [2, 1, 0] rfl (hJ4 0 0 g hf)

def fM_X8_sinks_115 (k2 : Int32 × z_G → Option (Int32 × z_G)) (x1 : Int32) (g : z_G) : Option (Int32 × z_G) := z_let (x1 + 1) (fun y1 => k2 (y1, g))
def fM_X8_sinks_114 (k2 : Int32 × z_G → Option (Int32 × z_G)) (s0 : Int32) (s1 : Int32) (x1 : Int32) (g : z_G) : Option (Int32 × z_G) := z_ck s1 64 (z_let (z_up g 10 (Int32.toNatClampNeg s1) s0) (fun g3 => fM_X8_sinks_115 k2 x1 g3))
def fM_X8_sinks_108 (k2 : Int32 × z_G → Option (Int32 × z_G)) (s0 : Int32) (x1 : Int32) (g : z_G) : Option (Int32 × z_G) := z_ck x1 64 (fM_X8_sinks_114 k2 (g 10 (Int32.toNatClampNeg x1)) s0 x1 g)
def fM_X8_sinks_2 (k2 : Int32 × z_G → Option (Int32 × z_G)) (x1 : Int32) (g : z_G) : Option (Int32 × z_G) := (if 64 ≤ x1 then some (0, g) else z_bind (fM_X8_isInside x1 g) (fun r6 g7 => (if r6 = 0 then fM_X8_sinks_115 k2 x1 g7 else z_bind (fM_X8_isOutside x1 g7) (fun r10 g11 => (if r10 = 0 then fM_X8_sinks_115 k2 x1 g11 else z_ck x1 64 ((if (g11 7 (Int32.toNatClampNeg x1)) ≤ 0 then fM_X8_sinks_115 k2 x1 g11 else z_ck x1 64 (z_ck x1 64 (z_ck x1 64 ((if (g11 7 (Int32.toNatClampNeg x1)) ≤ (2 * ((g11 1 (Int32.toNatClampNeg x1)) + (2 * (g11 2 (Int32.toNatClampNeg x1))))) then fM_X8_sinks_115 k2 x1 g11 else z_ck x1 64 ((if (g11 8 (Int32.toNatClampNeg x1)) ≤ 0 then fM_X8_sinks_115 k2 x1 g11 else z_ck x1 64 (z_ck x1 64 (z_let (z_up g11 8 (Int32.toNatClampNeg x1) ((g11 8 (Int32.toNatClampNeg x1)) - 1)) (fun g24 => z_ck x1 64 ((if (g24 8 (Int32.toNatClampNeg x1)) = 0 then z_ck x1 64 ((if 0 ≤ (g24 10 (Int32.toNatClampNeg x1)) then fM_X8_sinks_108 k2 x1 x1 g24 else fM_X8_sinks_114 k2 (g24 0 21) x1 x1 g24)) else fM_X8_sinks_108 k2 x1 x1 g24))))))))))))))))))
def fM_X8_sinks_2_go (x1 : Int32) (g : z_G) : Option (Int32 × z_G) := z_loop (fun k (w : Int32 × z_G) => fM_X8_sinks_2 k w.1 w.2) z_fuel (x1, g)
def fM_X8_sinks (g : z_G) : Option (Int32 × z_G) := fM_X8_sinks_2_go 0 g
theorem nM_X8_sinks : yX8_sinks.cls = RX8 ∧ yX8_sinks.cls ≠ "java/lang/invoke/MethodHandle" ∧ yX8_sinks.cls ≠ "java/lang/invoke/VarHandle" ∧ (parseMethodDescriptor yX8_sinks.desc).map (fun d => d.parameters.length) = some 0 := by decide +kernel
set_option maxRecDepth 100000 in
set_option maxHeartbeats 4000000 in
theorem cM_X8_sinks (l : Launch) (dC : Nat → ClassId) (dI : Nat → Nat → Nat) (ca : Nat → ClassId) (q : Nat → Nat) (Zt : z_ZT) (hZt : z_Zok Zt) (g : z_G) (r : Int32) (g' : z_G) (hf : fM_X8_sinks g = some (r, g')) : z_C l yX8_sinks wsX8_sinks { frames := 2, cells := 0, slots := 0, locals := 42 } (dC, dI) (tyM ca) (wM ca q) Zt [.ref (q 0)] g none g' := by
  refine z_enter (wM_ok ca q) hZt (by decide +kernel) rfl (Nat.le_of_ble_eq_true rfl) (fun J hC => ?_)
  have hC : z_Cx J l cX8_sinks 2 wsX8_sinks RX8 none { frames := 2, cells := 0, slots := 0, locals := 42 } (dC, dI) (tyM ca) (wM ca q) Zt (z_QI (dC, dI) (tyM ca) (wM ca q) none g') z_X0 := hC
  show J 0 [(0, .ref (q 0))] [] g
  have hX8 : ∀ w ∈ wsX80, w ∈ wsX8_sinks := fun _ h => List.mem_cons_of_mem _ (List.mem_append_right _ (h))
  have hJ115 : ∀ (k2 : Int32 × z_G → Option (Int32 × z_G)) (_ : ∀ w : Int32 × z_G, k2 w = some (r, g') → J 2 [(0, .ref (q 0)), (1, .int w.1)] [] w.2) (x1 : Int32) (g : z_G), fM_X8_sinks_115 k2 x1 g = some (r, g') → J 115 [(0, .ref (q 0)), (1, .int x1)] [] g := by
    intro k2 hk2 x1 g hf
    unfold fM_X8_sinks_115 at hf
    refine zj_iinc (lv1 := fun v => [(1, .int v), (0, .ref (q 0))]) 1 hC dX8_sinks_115 rfl (by decide) (fun _ => rfl) (fun y1 ey1 => ?_)
    have hf := z_letE hf (show y1 = x1 + 1 from ey1)
    refine zj_goto 2 hC dX8_sinks_118 (by decide) ?_
    exact zj_sub hC [1, 0] rfl (hk2 (y1, g) hf)
  have hJ114 : ∀ (k2 : Int32 × z_G → Option (Int32 × z_G)) (_ : ∀ w : Int32 × z_G, k2 w = some (r, g') → J 2 [(0, .ref (q 0)), (1, .int w.1)] [] w.2) (s0 : Int32) (s1 : Int32) (x1 : Int32) (g : z_G), fM_X8_sinks_114 k2 s0 s1 x1 g = some (r, g') → J 114 [(0, .ref (q 0)), (1, .int x1)] [.int s0, .int s1, .ref (q 10)] g := by
    intro k2 hk2 s0 s1 x1 g hf
    unfold fM_X8_sinks_114 at hf
    obtain ⟨hq2, hf⟩ := z_ckE hf
    refine ms_10 hC hq2 dX8_sinks_114 (fun g3 eg3 => ?_)
    have hf := z_letE hf eg3
    exact (hJ115 k2 hk2 x1 g3 hf)
  have hJ108 : ∀ (k2 : Int32 × z_G → Option (Int32 × z_G)) (_ : ∀ w : Int32 × z_G, k2 w = some (r, g') → J 2 [(0, .ref (q 0)), (1, .int w.1)] [] w.2) (s0 : Int32) (x1 : Int32) (g : z_G), fM_X8_sinks_108 k2 s0 x1 g = some (r, g') → J 108 [(0, .ref (q 0)), (1, .int x1)] [.int s0, .ref (q 10)] g := by
    intro k2 hk2 s0 x1 g hf
    unfold fM_X8_sinks_108 at hf
    refine zj_aload_n 0 hC dX8_sinks_108 rfl ?_
    refine mg_0_12 hC hX8 (List.mem_of_getElem? (i := 5) rfl) dX8_sinks_109 ?_
    refine zj_iload_n 1 hC dX8_sinks_112 rfl ?_
    obtain ⟨hq4, hf⟩ := z_ckE hf
    refine ma_10 hC hq4 dX8_sinks_113 ?_
    exact (hJ114 k2 hk2 (g 10 (Int32.toNatClampNeg x1)) s0 x1 g hf)
  have hJ2 : ∀ (x1 : Int32) (g : z_G), fM_X8_sinks_2_go x1 g = some (r, g') → J 2 [(0, .ref (q 0)), (1, .int x1)] [] g := by
    intro x1 g hf
    refine z_loopE (P := fun w : Int32 × z_G => J 2 [(0, .ref (q 0)), (1, .int w.1)] [] w.2) (fun k2 hk2 w hf => ?_) z_fuel (x1, g) hf
    obtain ⟨x1, g⟩ := w
    have hf : fM_X8_sinks_2 k2 x1 g = some (r, g') := hf
    show J 2 [(0, .ref (q 0)), (1, .int x1)] [] g
    unfold fM_X8_sinks_2 at hf
    refine zj_iload_n 1 hC dX8_sinks_2 rfl ?_
    refine zj_bipush (v := 64) hC dX8_sinks_3 (by decide) ?_
    refine zj_icmp_ge 121 hC dX8_sinks_5 (by decide) (fun c5 => ?_) (fun c5 => ?_)
    · have hf := z_iteT hf c5
      exact zj_vreturn hC hf dX8_sinks_121
    · have hf := z_iteF hf c5
      refine zj_aload_n 0 hC dX8_sinks_8 rfl ?_
      refine zj_iload_n 1 hC dX8_sinks_9 rfl ?_
      obtain ⟨r6, g7, hq8, hf⟩ := z_bindE hf
      refine zj_callVi [.int x1] hC (cM_X8_isInside l dC dI ca q Zt hZt x1 g r6 g7 hq8) gX8_sinks_X8_isInside rfl nM_X8_isInside ⟨Nat.le_of_ble_eq_true rfl, Nat.le_of_ble_eq_true rfl⟩ 0 mo_0 rfl rfl rfl (Nat.le_of_ble_eq_true rfl) dX8_sinks_10 rfl ?_
      refine zj_if_eq 115 hC dX8_sinks_13 (by decide) (fun c9 => ?_) (fun c9 => ?_)
      · have hf := z_iteT hf c9
        exact (hJ115 k2 hk2 x1 g7 hf)
      · have hf := z_iteF hf c9
        refine zj_aload_n 0 hC dX8_sinks_16 rfl ?_
        refine zj_iload_n 1 hC dX8_sinks_17 rfl ?_
        obtain ⟨r10, g11, hq12, hf⟩ := z_bindE hf
        refine zj_callVi [.int x1] hC (cM_X8_isOutside l dC dI ca q Zt hZt x1 g7 r10 g11 hq12) gX8_sinks_X8_isOutside rfl nM_X8_isOutside ⟨Nat.le_of_ble_eq_true rfl, Nat.le_of_ble_eq_true rfl⟩ 0 mo_0 rfl rfl rfl (Nat.le_of_ble_eq_true rfl) dX8_sinks_18 rfl ?_
        refine zj_if_eq 115 hC dX8_sinks_21 (by decide) (fun c13 => ?_) (fun c13 => ?_)
        · have hf := z_iteT hf c13
          exact (hJ115 k2 hk2 x1 g11 hf)
        · have hf := z_iteF hf c13
          refine zj_aload_n 0 hC dX8_sinks_24 rfl ?_
          refine mg_0_9 hC hX8 (List.mem_of_getElem? (i := 1) rfl) dX8_sinks_25 ?_
          refine zj_iload_n 1 hC dX8_sinks_28 rfl ?_
          obtain ⟨hq14, hf⟩ := z_ckE hf
          refine ma_7 hC hq14 dX8_sinks_29 ?_
          refine zj_if_le 115 hC dX8_sinks_30 (by decide) (fun c15 => ?_) (fun c15 => ?_)
          · have hf := z_iteT hf c15
            exact (hJ115 k2 hk2 x1 g11 hf)
          · have hf := z_iteF hf c15
            refine zj_iconst (v := 2) hC dX8_sinks_33 (by decide) ?_
            refine zj_aload_n 0 hC dX8_sinks_34 rfl ?_
            refine mg_0_3 hC hX8 (List.mem_of_getElem? (i := 2) rfl) dX8_sinks_35 ?_
            refine zj_iload_n 1 hC dX8_sinks_38 rfl ?_
            obtain ⟨hq16, hf⟩ := z_ckE hf
            refine ma_1 hC hq16 dX8_sinks_39 ?_
            refine zj_iconst (v := 2) hC dX8_sinks_40 (by decide) ?_
            refine zj_aload_n 0 hC dX8_sinks_41 rfl ?_
            refine mg_0_4 hC hX8 (List.mem_of_getElem? (i := 3) rfl) dX8_sinks_42 ?_
            refine zj_iload_n 1 hC dX8_sinks_45 rfl ?_
            obtain ⟨hq17, hf⟩ := z_ckE hf
            refine ma_2 hC hq17 dX8_sinks_46 ?_
            refine zj_imul hC dX8_sinks_47 ?_
            refine zj_iadd hC dX8_sinks_48 ?_
            refine zj_imul hC dX8_sinks_49 ?_
            refine zj_aload_n 0 hC dX8_sinks_50 rfl ?_
            refine mg_0_9 hC hX8 (List.mem_of_getElem? (i := 1) rfl) dX8_sinks_51 ?_
            refine zj_iload_n 1 hC dX8_sinks_54 rfl ?_
            obtain ⟨hq18, hf⟩ := z_ckE hf
            refine ma_7 hC hq18 dX8_sinks_55 ?_
            refine zj_icmp_ge 115 hC dX8_sinks_56 (by decide) (fun c19 => ?_) (fun c19 => ?_)
            · have hf := z_iteT hf c19
              exact (hJ115 k2 hk2 x1 g11 hf)
            · have hf := z_iteF hf c19
              refine zj_aload_n 0 hC dX8_sinks_59 rfl ?_
              refine mg_0_10 hC hX8 (List.mem_of_getElem? (i := 4) rfl) dX8_sinks_60 ?_
              refine zj_iload_n 1 hC dX8_sinks_63 rfl ?_
              obtain ⟨hq20, hf⟩ := z_ckE hf
              refine ma_8 hC hq20 dX8_sinks_64 ?_
              refine zj_if_le 115 hC dX8_sinks_65 (by decide) (fun c21 => ?_) (fun c21 => ?_)
              · have hf := z_iteT hf c21
                exact (hJ115 k2 hk2 x1 g11 hf)
              · have hf := z_iteF hf c21
                refine zj_aload_n 0 hC dX8_sinks_68 rfl ?_
                refine mg_0_10 hC hX8 (List.mem_of_getElem? (i := 4) rfl) dX8_sinks_69 ?_
                refine zj_iload_n 1 hC dX8_sinks_72 rfl ?_
                refine zj_dup2 hC dX8_sinks_73 rfl rfl ?_
                obtain ⟨hq22, hf⟩ := z_ckE hf
                refine ma_8 hC hq22 dX8_sinks_74 ?_
                refine zj_iconst (v := 1) hC dX8_sinks_75 (by decide) ?_
                refine zj_isub hC dX8_sinks_76 ?_
                obtain ⟨hq23, hf⟩ := z_ckE hf
                refine ms_8 hC hq23 dX8_sinks_77 (fun g24 eg24 => ?_)
                have hf := z_letE hf eg24
                refine zj_aload_n 0 hC dX8_sinks_78 rfl ?_
                refine mg_0_12 hC hX8 (List.mem_of_getElem? (i := 5) rfl) dX8_sinks_79 ?_
                refine zj_iload_n 1 hC dX8_sinks_82 rfl ?_
                refine zj_aload_n 0 hC dX8_sinks_83 rfl ?_
                refine mg_0_10 hC hX8 (List.mem_of_getElem? (i := 4) rfl) dX8_sinks_84 ?_
                refine zj_iload_n 1 hC dX8_sinks_87 rfl ?_
                obtain ⟨hq25, hf⟩ := z_ckE hf
                refine ma_8 hC hq25 dX8_sinks_88 ?_
                refine zj_if_ne 108 hC dX8_sinks_89 (by decide) (fun c26 => ?_) (fun c26 => ?_)
                · have hf := z_iteF hf c26
                  exact (hJ108 k2 hk2 x1 x1 g24 hf)
                · have hf := z_iteT hf c26
                  refine zj_aload_n 0 hC dX8_sinks_92 rfl ?_
                  refine mg_0_12 hC hX8 (List.mem_of_getElem? (i := 5) rfl) dX8_sinks_93 ?_
                  refine zj_iload_n 1 hC dX8_sinks_96 rfl ?_
                  obtain ⟨hq27, hf⟩ := z_ckE hf
                  refine ma_10 hC hq27 dX8_sinks_97 ?_
                  refine zj_if_ge 108 hC dX8_sinks_98 (by decide) (fun c28 => ?_) (fun c28 => ?_)
                  · have hf := z_iteT hf c28
                    exact (hJ108 k2 hk2 x1 x1 g24 hf)
                  · have hf := z_iteF hf c28
                    refine zj_aload_n 0 hC dX8_sinks_101 rfl ?_
                    refine mg_0_21 hC hX8 (List.mem_of_getElem? (i := 6) rfl) dX8_sinks_102 ?_
                    refine zj_goto 114 hC dX8_sinks_105 (by decide) ?_
                    exact (hJ114 k2 hk2 (g24 0 21) x1 x1 g24 hf)
  unfold fM_X8_sinks at hf
  refine zj_iconst (v := 0) hC dX8_sinks_0 (by decide) ?_
  refine zj_istore_n (lv1 := [(1, .int 0), (0, .ref (q 0))]) hC dX8_sinks_1 (by decide) rfl ?_
  exact zj_sub hC [1, 0] rfl (hJ2 0 g hf)

def fM_X8_works_38 (k5 : Int32 × Int32 × Int32 × Int32 × z_G → Option (Int32 × z_G)) (s0 : Int32) (s1 : Int32) (x1 : Int32) (x2 : Int32) (x3 : Int32) (x4 : Int32) (g : z_G) : Option (Int32 × z_G) := z_ck s1 64 (z_let (z_up g 9 (Int32.toNatClampNeg s1) s0) (fun g2 => z_ck x4 64 (z_ck x4 64 (z_let (z_up g2 26 (Int32.toNatClampNeg x4) (g2 4 (Int32.toNatClampNeg x4))) (fun g5 => z_ck x4 64 (z_ck x4 64 (z_let (z_up g5 27 (Int32.toNatClampNeg x4) (vp_nar .boolean (g5 5 (Int32.toNatClampNeg x4)))) (fun g8 => z_let (x4 + 1) (fun y9 => k5 (x1, x2, x3, y9, g8))))))))))
def fM_X8_works_102 (k76 : Int32 × Int32 × Int32 × Int32 × z_G → Option (Int32 × z_G)) (x1 : Int32) (x2 : Int32) (x3 : Int32) (x4 : Int32) (g : z_G) : Option (Int32 × z_G) := z_let (x4 + 1) (fun y10 => k76 (x1, x2, x3, y10, g))
def fM_X8_works_163 (k111 : Int32 × Int32 × Int32 × Int32 × z_G → Option (Int32 × z_G)) (x1 : Int32) (x2 : Int32) (x3 : Int32) (x4 : Int32) (g : z_G) : Option (Int32 × z_G) := z_let (x4 + 1) (fun y11 => k111 (x1, x2, x3, y11, g))
def fM_X8_works_157 (k111 : Int32 × Int32 × Int32 × Int32 × z_G → Option (Int32 × z_G)) (x1 : Int32) (x2 : Int32) (x3 : Int32) (x4 : Int32) (g : z_G) : Option (Int32 × z_G) := z_bind (fM_X8_warms x4 g) (fun r12 g13 => fM_X8_works_163 k111 x1 x2 x3 x4 g13)
def fM_X8_works_186 (k186 : Int32 × Int32 × Int32 × Int32 × z_G → Option (Int32 × z_G)) (x1 : Int32) (x2 : Int32) (x3 : Int32) (x4 : Int32) (g : z_G) : Option (Int32 × z_G) := (if (g 0 1) ≤ x4 then z_ck (g 0 21) 300 (z_let (z_up g 20 (Int32.toNatClampNeg (g 0 21)) x1) (fun g17 => z_ck (g17 0 21) 300 (z_let (z_up g17 21 (Int32.toNatClampNeg (g17 0 21)) x2) (fun g19 => z_ck (g19 0 21) 300 (z_let (z_up g19 22 (Int32.toNatClampNeg (g19 0 21)) x3) (fun g21 => z_bind (fM_X8_bareCells g21) (fun r22 g23 => z_ck (g21 0 21) 300 (z_let (z_up g23 25 (Int32.toNatClampNeg (g21 0 21)) r22) (fun g26 => z_bind (fM_X8_watchers x3 x1 x2 g26) (fun r27 g28 => z_ck (g26 0 21) 300 (z_let (z_up g28 23 (Int32.toNatClampNeg (g26 0 21)) r27) (fun g31 => z_bind (fM_X8_burning g31) (fun r32 g33 => z_ck (g31 0 21) 300 (z_let (z_up g33 24 (Int32.toNatClampNeg (g31 0 21)) r32) (fun g36 => z_let (z_up g36 0 21 ((g36 0 21) + 1)) (fun g37 => some (x3, g37))))))))))))))))) else z_let ((((g 0 2) - 1) * 8) + x4) (fun y38 => z_bind (fM_X8_share y38 g) (fun r39 g40 => z_ck y38 64 (z_bind (fM_X8_share y38 g40) (fun r43 g44 => z_let (if ((g40 3 (Int32.toNatClampNeg y38)) + (x1 * r43)) < (100 * r39) then (g40 3 (Int32.toNatClampNeg y38)) + (x1 * r43) else 100 * r39) (fun y46 => z_ck y38 64 (z_let (z_up g44 3 (Int32.toNatClampNeg y38) y46) (fun g48 => z_let (x4 + 1) (fun y49 => k186 (x1, x2, x3, y49, g48))))))))))
def fM_X8_works_186_go (x1 : Int32) (x2 : Int32) (x3 : Int32) (x4 : Int32) (g : z_G) : Option (Int32 × z_G) := z_loop (fun k (w : Int32 × Int32 × Int32 × Int32 × z_G) => fM_X8_works_186 k w.1 w.2.1 w.2.2.1 w.2.2.2.1 w.2.2.2.2) z_fuel (x1, x2, x3, x4, g)
def fM_X8_works_111 (k111 : Int32 × Int32 × Int32 × Int32 × z_G → Option (Int32 × z_G)) (x1 : Int32) (x2 : Int32) (x3 : Int32) (x4 : Int32) (g : z_G) : Option (Int32 × z_G) := (if 64 ≤ x4 then z_let (z_up g 0 22 ((g 0 22) + x3)) (fun g51 => z_bind (fM_X8_sinks g51) (fun r52 g53 => fM_X8_works_186_go x1 x2 x3 0 g53)) else z_bind (fM_X8_isInside x4 g) (fun r55 g56 => (if r55 = 0 then fM_X8_works_163 k111 x1 x2 x3 x4 g56 else z_ck x4 64 ((if (g56 27 (Int32.toNatClampNeg x4)) = 0 then z_ck x4 64 ((if 0 < (g56 1 (Int32.toNatClampNeg x4)) then fM_X8_works_157 k111 x1 x2 x3 x4 g56 else z_ck x4 64 ((if (g56 2 (Int32.toNatClampNeg x4)) ≤ 0 then fM_X8_works_163 k111 x1 x2 x3 x4 g56 else fM_X8_works_157 k111 x1 x2 x3 x4 g56)))) else fM_X8_works_163 k111 x1 x2 x3 x4 g56)))))
def fM_X8_works_111_go (x1 : Int32) (x2 : Int32) (x3 : Int32) (x4 : Int32) (g : z_G) : Option (Int32 × z_G) := z_loop (fun k (w : Int32 × Int32 × Int32 × Int32 × z_G) => fM_X8_works_111 k w.1 w.2.1 w.2.2.1 w.2.2.2.1 w.2.2.2.2) z_fuel (x1, x2, x3, x4, g)
def fM_X8_works_76 (k76 : Int32 × Int32 × Int32 × Int32 × z_G → Option (Int32 × z_G)) (x1 : Int32) (x2 : Int32) (x3 : Int32) (x4 : Int32) (g : z_G) : Option (Int32 × z_G) := (if 64 ≤ x4 then fM_X8_works_111_go x1 x2 x3 0 g else z_ck x4 64 ((if (g 27 (Int32.toNatClampNeg x4)) = 0 then fM_X8_works_102 k76 x1 x2 x3 x4 g else z_bind (fM_X8_burns x4 g) (fun r68 g69 => z_let (x3 + r68) (fun y71 => fM_X8_works_102 k76 x1 x2 y71 x4 g69)))))
def fM_X8_works_76_go (x1 : Int32) (x2 : Int32) (x3 : Int32) (x4 : Int32) (g : z_G) : Option (Int32 × z_G) := z_loop (fun k (w : Int32 × Int32 × Int32 × Int32 × z_G) => fM_X8_works_76 k w.1 w.2.1 w.2.2.1 w.2.2.2.1 w.2.2.2.2) z_fuel (x1, x2, x3, x4, g)
def fM_X8_works_5 (k5 : Int32 × Int32 × Int32 × Int32 × z_G → Option (Int32 × z_G)) (x1 : Int32) (x2 : Int32) (x3 : Int32) (x4 : Int32) (g : z_G) : Option (Int32 × z_G) := (if 64 ≤ x4 then fM_X8_works_76_go x1 x2 x3 0 g else z_bind (fM_X8_isInside x4 g) (fun r73 g74 => (if r73 = 0 then fM_X8_works_38 k5 0 x4 x1 x2 x3 x4 g74 else z_bind (fM_X8_airOf x4 x2 g74) (fun r77 g78 => fM_X8_works_38 k5 r77 x4 x1 x2 x3 x4 g78))))
def fM_X8_works_5_go (x1 : Int32) (x2 : Int32) (x3 : Int32) (x4 : Int32) (g : z_G) : Option (Int32 × z_G) := z_loop (fun k (w : Int32 × Int32 × Int32 × Int32 × z_G) => fM_X8_works_5 k w.1 w.2.1 w.2.2.1 w.2.2.2.1 w.2.2.2.2) z_fuel (x1, x2, x3, x4, g)
def fM_X8_works (a0 : Int32) (a1 : Int32) (g : z_G) : Option (Int32 × z_G) := fM_X8_works_5_go a0 a1 0 0 g
theorem nM_X8_works : yX8_works.cls = RX8 ∧ yX8_works.cls ≠ "java/lang/invoke/MethodHandle" ∧ yX8_works.cls ≠ "java/lang/invoke/VarHandle" ∧ (parseMethodDescriptor yX8_works.desc).map (fun d => d.parameters.length) = some 2 := by decide +kernel
set_option maxRecDepth 100000 in
set_option maxHeartbeats 4000000 in
theorem cM_X8_works (l : Launch) (dC : Nat → ClassId) (dI : Nat → Nat → Nat) (ca : Nat → ClassId) (q : Nat → Nat) (Zt : z_ZT) (hZt : z_Zok Zt) (a0 : Int32) (a1 : Int32) (g : z_G) (r : Int32) (g' : z_G) (hf : fM_X8_works a0 a1 g = some (r, g')) : z_C l yX8_works wsX8_works { frames := 5, cells := 0, slots := 0, locals := 118 } (dC, dI) (tyM ca) (wM ca q) Zt [.ref (q 0), .int a0, .int a1] g (some r) g' := by
  refine z_enter (wM_ok ca q) hZt (by decide +kernel) rfl (Nat.le_of_ble_eq_true rfl) (fun J hC => ?_)
  have hC : z_Cx J l cX8_works 6 wsX8_works RX8 (some .int) { frames := 5, cells := 0, slots := 0, locals := 118 } (dC, dI) (tyM ca) (wM ca q) Zt (z_QI (dC, dI) (tyM ca) (wM ca q) (some r) g') z_X0 := hC
  show J 0 [(0, .ref (q 0)), (1, .int a0), (2, .int a1)] [] g
  have hX8 : ∀ w ∈ wsX80, w ∈ wsX8_works := fun _ h => List.mem_cons_of_mem _ (List.mem_append_right _ (h))
  have hJ38 : ∀ (k5 : Int32 × Int32 × Int32 × Int32 × z_G → Option (Int32 × z_G)) (_ : ∀ w : Int32 × Int32 × Int32 × Int32 × z_G, k5 w = some (r, g') → J 5 [(0, .ref (q 0)), (1, .int w.1), (2, .int w.2.1), (3, .int w.2.2.1), (4, .int w.2.2.2.1)] [] w.2.2.2.2) (s0 : Int32) (s1 : Int32) (x1 : Int32) (x2 : Int32) (x3 : Int32) (x4 : Int32) (g : z_G), fM_X8_works_38 k5 s0 s1 x1 x2 x3 x4 g = some (r, g') → J 38 [(0, .ref (q 0)), (1, .int x1), (2, .int x2), (3, .int x3), (4, .int x4)] [.int s0, .int s1, .ref (q 9)] g := by
    intro k5 hk5 s0 s1 x1 x2 x3 x4 g hf
    unfold fM_X8_works_38 at hf
    obtain ⟨hq1, hf⟩ := z_ckE hf
    refine ms_9 hC hq1 dX8_works_38 (fun g2 eg2 => ?_)
    have hf := z_letE hf eg2
    refine zj_aload_n 0 hC dX8_works_39 rfl ?_
    refine mg_0_36 hC hX8 (List.mem_of_getElem? (i := 2) rfl) dX8_works_40 ?_
    refine zj_iload 4 hC dX8_works_43 rfl ?_
    refine zj_aload_n 0 hC dX8_works_45 rfl ?_
    refine mg_0_6 hC hX8 (List.mem_of_getElem? (i := 3) rfl) dX8_works_46 ?_
    refine zj_iload 4 hC dX8_works_49 rfl ?_
    obtain ⟨hq3, hf⟩ := z_ckE hf
    refine ma_4 hC hq3 dX8_works_51 ?_
    obtain ⟨hq4, hf⟩ := z_ckE hf
    refine ms_26 hC hq4 dX8_works_52 (fun g5 eg5 => ?_)
    have hf := z_letE hf eg5
    refine zj_aload_n 0 hC dX8_works_53 rfl ?_
    refine mg_0_37 hC hX8 (List.mem_of_getElem? (i := 4) rfl) dX8_works_54 ?_
    refine zj_iload 4 hC dX8_works_57 rfl ?_
    refine zj_aload_n 0 hC dX8_works_59 rfl ?_
    refine mg_0_7 hC hX8 (List.mem_of_getElem? (i := 5) rfl) dX8_works_60 ?_
    refine zj_iload 4 hC dX8_works_63 rfl ?_
    obtain ⟨hq6, hf⟩ := z_ckE hf
    refine ma_5 hC hq6 dX8_works_65 ?_
    obtain ⟨hq7, hf⟩ := z_ckE hf
    refine ms_27 hC hq7 dX8_works_66 (fun g8 eg8 => ?_)
    have hf := z_letE hf eg8
    refine zj_iinc (lv1 := fun v => [(4, .int v), (0, .ref (q 0)), (1, .int x1), (2, .int x2), (3, .int x3)]) 4 hC dX8_works_67 rfl (by decide) (fun _ => rfl) (fun y9 ey9 => ?_)
    have hf := z_letE hf (show y9 = x4 + 1 from ey9)
    refine zj_goto 5 hC dX8_works_70 (by decide) ?_
    exact zj_sub hC [1, 2, 3, 4, 0] rfl (hk5 (x1, x2, x3, y9, g8) hf)
  have hJ102 : ∀ (k76 : Int32 × Int32 × Int32 × Int32 × z_G → Option (Int32 × z_G)) (_ : ∀ w : Int32 × Int32 × Int32 × Int32 × z_G, k76 w = some (r, g') → J 76 [(0, .ref (q 0)), (1, .int w.1), (2, .int w.2.1), (3, .int w.2.2.1), (4, .int w.2.2.2.1)] [] w.2.2.2.2) (x1 : Int32) (x2 : Int32) (x3 : Int32) (x4 : Int32) (g : z_G), fM_X8_works_102 k76 x1 x2 x3 x4 g = some (r, g') → J 102 [(0, .ref (q 0)), (1, .int x1), (2, .int x2), (3, .int x3), (4, .int x4)] [] g := by
    intro k76 hk76 x1 x2 x3 x4 g hf
    unfold fM_X8_works_102 at hf
    refine zj_iinc (lv1 := fun v => [(4, .int v), (0, .ref (q 0)), (1, .int x1), (2, .int x2), (3, .int x3)]) 4 hC dX8_works_102 rfl (by decide) (fun _ => rfl) (fun y10 ey10 => ?_)
    have hf := z_letE hf (show y10 = x4 + 1 from ey10)
    refine zj_goto 76 hC dX8_works_105 (by decide) ?_
    exact zj_sub hC [1, 2, 3, 4, 0] rfl (hk76 (x1, x2, x3, y10, g) hf)
  have hJ163 : ∀ (k111 : Int32 × Int32 × Int32 × Int32 × z_G → Option (Int32 × z_G)) (_ : ∀ w : Int32 × Int32 × Int32 × Int32 × z_G, k111 w = some (r, g') → J 111 [(0, .ref (q 0)), (1, .int w.1), (2, .int w.2.1), (3, .int w.2.2.1), (4, .int w.2.2.2.1)] [] w.2.2.2.2) (x1 : Int32) (x2 : Int32) (x3 : Int32) (x4 : Int32) (g : z_G), fM_X8_works_163 k111 x1 x2 x3 x4 g = some (r, g') → J 163 [(0, .ref (q 0)), (1, .int x1), (2, .int x2), (3, .int x3), (4, .int x4)] [] g := by
    intro k111 hk111 x1 x2 x3 x4 g hf
    unfold fM_X8_works_163 at hf
    refine zj_iinc (lv1 := fun v => [(4, .int v), (0, .ref (q 0)), (1, .int x1), (2, .int x2), (3, .int x3)]) 4 hC dX8_works_163 rfl (by decide) (fun _ => rfl) (fun y11 ey11 => ?_)
    have hf := z_letE hf (show y11 = x4 + 1 from ey11)
    refine zj_goto 111 hC dX8_works_166 (by decide) ?_
    exact zj_sub hC [1, 2, 3, 4, 0] rfl (hk111 (x1, x2, x3, y11, g) hf)
  have hJ157 : ∀ (k111 : Int32 × Int32 × Int32 × Int32 × z_G → Option (Int32 × z_G)) (_ : ∀ w : Int32 × Int32 × Int32 × Int32 × z_G, k111 w = some (r, g') → J 111 [(0, .ref (q 0)), (1, .int w.1), (2, .int w.2.1), (3, .int w.2.2.1), (4, .int w.2.2.2.1)] [] w.2.2.2.2) (x1 : Int32) (x2 : Int32) (x3 : Int32) (x4 : Int32) (g : z_G), fM_X8_works_157 k111 x1 x2 x3 x4 g = some (r, g') → J 157 [(0, .ref (q 0)), (1, .int x1), (2, .int x2), (3, .int x3), (4, .int x4)] [] g := by
    intro k111 hk111 x1 x2 x3 x4 g hf
    unfold fM_X8_works_157 at hf
    refine zj_aload_n 0 hC dX8_works_157 rfl ?_
    refine zj_iload 4 hC dX8_works_158 rfl ?_
    obtain ⟨r12, g13, hq14, hf⟩ := z_bindE hf
    refine zj_callVv [.int x4] hC (cM_X8_warms l dC dI ca q Zt hZt x4 g r12 g13 hq14) gX8_works_X8_warms rfl nM_X8_warms ⟨Nat.le_of_ble_eq_true rfl, Nat.le_of_ble_eq_true rfl⟩ 0 mo_0 rfl rfl rfl (Nat.le_of_ble_eq_true rfl) dX8_works_160 rfl ?_
    exact (hJ163 k111 hk111 x1 x2 x3 x4 g13 hf)
  have hJ186 : ∀ (x1 : Int32) (x2 : Int32) (x3 : Int32) (x4 : Int32) (g : z_G), fM_X8_works_186_go x1 x2 x3 x4 g = some (r, g') → J 186 [(0, .ref (q 0)), (1, .int x1), (2, .int x2), (3, .int x3), (4, .int x4)] [] g := by
    intro x1 x2 x3 x4 g hf
    refine z_loopE (P := fun w : Int32 × Int32 × Int32 × Int32 × z_G => J 186 [(0, .ref (q 0)), (1, .int w.1), (2, .int w.2.1), (3, .int w.2.2.1), (4, .int w.2.2.2.1)] [] w.2.2.2.2) (fun k186 hk186 w hf => ?_) z_fuel (x1, x2, x3, x4, g) hf
    obtain ⟨x1, x2, x3, x4, g⟩ := w
    have hf : fM_X8_works_186 k186 x1 x2 x3 x4 g = some (r, g') := hf
    show J 186 [(0, .ref (q 0)), (1, .int x1), (2, .int x2), (3, .int x3), (4, .int x4)] [] g
    unfold fM_X8_works_186 at hf
    refine zj_iload 4 hC dX8_works_186 rfl ?_
    refine zj_aload_n 0 hC dX8_works_188 rfl ?_
    refine mg_0_1 hC hX8 (List.mem_of_getElem? (i := 9) rfl) dX8_works_189 ?_
    refine zj_icmp_ge 248 hC dX8_works_192 (by decide) (fun c15 => ?_) (fun c15 => ?_)
    · have hf := z_iteT hf c15
      refine zj_aload_n 0 hC dX8_works_248 rfl ?_
      refine mg_0_30 hC hX8 (List.mem_of_getElem? (i := 16) rfl) dX8_works_249 ?_
      refine zj_aload_n 0 hC dX8_works_252 rfl ?_
      refine mg_0_21 hC hX8 (List.mem_of_getElem? (i := 17) rfl) dX8_works_253 ?_
      refine zj_iload_n 1 hC dX8_works_256 rfl ?_
      obtain ⟨hq16, hf⟩ := z_ckE hf
      refine ms_20 hC hq16 dX8_works_257 (fun g17 eg17 => ?_)
      have hf := z_letE hf eg17
      refine zj_aload_n 0 hC dX8_works_258 rfl ?_
      refine mg_0_31 hC hX8 (List.mem_of_getElem? (i := 18) rfl) dX8_works_259 ?_
      refine zj_aload_n 0 hC dX8_works_262 rfl ?_
      refine mg_0_21 hC hX8 (List.mem_of_getElem? (i := 17) rfl) dX8_works_263 ?_
      refine zj_iload_n 2 hC dX8_works_266 rfl ?_
      obtain ⟨hq18, hf⟩ := z_ckE hf
      refine ms_21 hC hq18 dX8_works_267 (fun g19 eg19 => ?_)
      have hf := z_letE hf eg19
      refine zj_aload_n 0 hC dX8_works_268 rfl ?_
      refine mg_0_32 hC hX8 (List.mem_of_getElem? (i := 19) rfl) dX8_works_269 ?_
      refine zj_aload_n 0 hC dX8_works_272 rfl ?_
      refine mg_0_21 hC hX8 (List.mem_of_getElem? (i := 17) rfl) dX8_works_273 ?_
      refine zj_iload_n 3 hC dX8_works_276 rfl ?_
      obtain ⟨hq20, hf⟩ := z_ckE hf
      refine ms_22 hC hq20 dX8_works_277 (fun g21 eg21 => ?_)
      have hf := z_letE hf eg21
      refine zj_aload_n 0 hC dX8_works_278 rfl ?_
      refine mg_0_35 hC hX8 (List.mem_of_getElem? (i := 20) rfl) dX8_works_279 ?_
      refine zj_aload_n 0 hC dX8_works_282 rfl ?_
      refine mg_0_21 hC hX8 (List.mem_of_getElem? (i := 17) rfl) dX8_works_283 ?_
      refine zj_aload_n 0 hC dX8_works_286 rfl ?_
      obtain ⟨r22, g23, hq24, hf⟩ := z_bindE hf
      refine zj_callVi [] hC (cM_X8_bareCells l dC dI ca q Zt hZt g21 r22 g23 hq24) gX8_works_X8_bareCells rfl nM_X8_bareCells ⟨Nat.le_of_ble_eq_true rfl, Nat.le_of_ble_eq_true rfl⟩ 0 mo_0 rfl rfl rfl (Nat.le_of_ble_eq_true rfl) dX8_works_287 rfl ?_
      obtain ⟨hq25, hf⟩ := z_ckE hf
      refine ms_25 hC hq25 dX8_works_290 (fun g26 eg26 => ?_)
      have hf := z_letE hf eg26
      refine zj_aload_n 0 hC dX8_works_291 rfl ?_
      refine mg_0_33 hC hX8 (List.mem_of_getElem? (i := 21) rfl) dX8_works_292 ?_
      refine zj_aload_n 0 hC dX8_works_295 rfl ?_
      refine mg_0_21 hC hX8 (List.mem_of_getElem? (i := 17) rfl) dX8_works_296 ?_
      refine zj_aload_n 0 hC dX8_works_299 rfl ?_
      refine zj_iload_n 3 hC dX8_works_300 rfl ?_
      refine zj_iload_n 1 hC dX8_works_301 rfl ?_
      refine zj_iload_n 2 hC dX8_works_302 rfl ?_
      obtain ⟨r27, g28, hq29, hf⟩ := z_bindE hf
      refine zj_callVi [.int x3, .int x1, .int x2] hC (cM_X8_watchers l dC dI ca q Zt hZt x3 x1 x2 g26 r27 g28 hq29) gX8_works_X8_watchers rfl nM_X8_watchers ⟨Nat.le_of_ble_eq_true rfl, Nat.le_of_ble_eq_true rfl⟩ 0 mo_0 rfl rfl rfl (Nat.le_of_ble_eq_true rfl) dX8_works_303 rfl ?_
      obtain ⟨hq30, hf⟩ := z_ckE hf
      refine ms_23 hC hq30 dX8_works_306 (fun g31 eg31 => ?_)
      have hf := z_letE hf eg31
      refine zj_aload_n 0 hC dX8_works_307 rfl ?_
      refine mg_0_34 hC hX8 (List.mem_of_getElem? (i := 22) rfl) dX8_works_308 ?_
      refine zj_aload_n 0 hC dX8_works_311 rfl ?_
      refine mg_0_21 hC hX8 (List.mem_of_getElem? (i := 17) rfl) dX8_works_312 ?_
      refine zj_aload_n 0 hC dX8_works_315 rfl ?_
      obtain ⟨r32, g33, hq34, hf⟩ := z_bindE hf
      refine zj_callVi [] hC (cM_X8_burning l dC dI ca q Zt hZt g31 r32 g33 hq34) gX8_works_X8_burning rfl nM_X8_burning ⟨Nat.le_of_ble_eq_true rfl, Nat.le_of_ble_eq_true rfl⟩ 0 mo_0 rfl rfl rfl (Nat.le_of_ble_eq_true rfl) dX8_works_316 rfl ?_
      obtain ⟨hq35, hf⟩ := z_ckE hf
      refine ms_24 hC hq35 dX8_works_319 (fun g36 eg36 => ?_)
      have hf := z_letE hf eg36
      refine zj_aload_n 0 hC dX8_works_320 rfl ?_
      refine zj_dup hC dX8_works_321 rfl ?_
      refine mg_0_21 hC hX8 (List.mem_of_getElem? (i := 17) rfl) dX8_works_322 ?_
      refine zj_iconst (v := 1) hC dX8_works_325 (by decide) ?_
      refine zj_iadd hC dX8_works_326 ?_
      refine mp_0_21 hC hX8 (List.mem_of_getElem? (i := 17) rfl) dX8_works_327 (fun g37 eg37 => ?_)
      have hf := z_letE hf eg37
      refine zj_iload_n 3 hC dX8_works_330 rfl ?_
      exact zj_ireturn hC hf dX8_works_331
    · have hf := z_iteF hf c15
      refine zj_aload_n 0 hC dX8_works_195 rfl ?_
      refine mg_0_2 hC hX8 (List.mem_of_getElem? (i := 10) rfl) dX8_works_196 ?_
      refine zj_iconst (v := 1) hC dX8_works_199 (by decide) ?_
      refine zj_isub hC dX8_works_200 ?_
      refine zj_bipush (v := 8) hC dX8_works_201 (by decide) ?_
      refine zj_imul hC dX8_works_203 ?_
      refine zj_iload 4 hC dX8_works_204 rfl ?_
      refine zj_iadd hC dX8_works_206 ?_
      refine zj_top (fun y38 ey38 => ?_)
      have hf := z_letE hf ey38
      refine zj_istore (lv1 := [(5, .int y38), (0, .ref (q 0)), (1, .int x1), (2, .int x2), (3, .int x3), (4, .int x4)]) hC dX8_works_207 (by decide) rfl ?_
      refine zj_aload_n 1 hC dX8_works_209 rfl ?_
      refine mg_0_5 hC hX8 (List.mem_of_getElem? (i := 11) rfl) dX8_works_210 ?_
      refine zj_iload 0 hC dX8_works_213 rfl ?_
      refine zj_bipush (v := 100) hC dX8_works_215 (by decide) ?_
      refine zj_iload 0 hC dX8_works_217 rfl ?_
      obtain ⟨r39, g40, hq41, hf⟩ := z_bindE hf
      refine zj_callSi [.int y38] hC (cM_X8_share l dC dI ca q Zt hZt y38 g r39 g40 hq41) gX8_works_X8_share rfl nM_X8_share ⟨Nat.le_of_ble_eq_true rfl, Nat.le_of_ble_eq_true rfl⟩ rfl (Nat.le_of_ble_eq_true rfl) dX8_works_219 rfl ?_
      refine zj_imul hC dX8_works_222 ?_
      refine zj_aload_n 1 hC dX8_works_223 rfl ?_
      refine mg_0_5 hC hX8 (List.mem_of_getElem? (i := 11) rfl) dX8_works_224 ?_
      refine zj_iload 0 hC dX8_works_227 rfl ?_
      obtain ⟨hq42, hf⟩ := z_ckE hf
      refine ma_3 hC hq42 dX8_works_229 ?_
      refine zj_iload_n 2 hC dX8_works_230 rfl ?_
      refine zj_iload 0 hC dX8_works_231 rfl ?_
      obtain ⟨r43, g44, hq45, hf⟩ := z_bindE hf
      refine zj_callSi [.int y38] hC (cM_X8_share l dC dI ca q Zt hZt y38 g40 r43 g44 hq45) gX8_works_X8_share rfl nM_X8_share ⟨Nat.le_of_ble_eq_true rfl, Nat.le_of_ble_eq_true rfl⟩ rfl (Nat.le_of_ble_eq_true rfl) dX8_works_233 rfl ?_
      refine zj_imul hC dX8_works_236 ?_
      refine zj_iadd hC dX8_works_237 ?_
      refine zj_min hC (List.mem_of_getElem? (i := 12) rfl) (List.mem_of_getElem? (i := 13) rfl) (List.mem_of_getElem? (i := 14) rfl) (List.mem_of_getElem? (i := 15) rfl) (Nat.le_of_ble_eq_true rfl) (Nat.le_of_ble_eq_true rfl) dX8_works_238 ?_
      refine zj_top (fun y46 ey46 => ?_)
      have hf := z_letE hf ey46
      obtain ⟨hq47, hf⟩ := z_ckE hf
      refine ms_3 hC hq47 dX8_works_241 (fun g48 eg48 => ?_)
      have hf := z_letE hf eg48
      refine zj_iinc (lv1 := fun v => [(4, .int v), (5, .int y38), (0, .ref (q 0)), (1, .int x1), (2, .int x2), (3, .int x3)]) 5 hC dX8_works_242 rfl (by decide) (fun _ => rfl) (fun y49 ey49 => ?_)
      have hf := z_letE hf (show y49 = x4 + 1 from ey49)
      refine zj_goto 186 hC dX8_works_245 (by decide) ?_
      exact zj_sub hC [2, 3, 4, 5, 0] rfl (hk186 (x1, x2, x3, y49, g48) hf)
  have hJ111 : ∀ (x1 : Int32) (x2 : Int32) (x3 : Int32) (x4 : Int32) (g : z_G), fM_X8_works_111_go x1 x2 x3 x4 g = some (r, g') → J 111 [(0, .ref (q 0)), (1, .int x1), (2, .int x2), (3, .int x3), (4, .int x4)] [] g := by
    intro x1 x2 x3 x4 g hf
    refine z_loopE (P := fun w : Int32 × Int32 × Int32 × Int32 × z_G => J 111 [(0, .ref (q 0)), (1, .int w.1), (2, .int w.2.1), (3, .int w.2.2.1), (4, .int w.2.2.2.1)] [] w.2.2.2.2) (fun k111 hk111 w hf => ?_) z_fuel (x1, x2, x3, x4, g) hf
    obtain ⟨x1, x2, x3, x4, g⟩ := w
    have hf : fM_X8_works_111 k111 x1 x2 x3 x4 g = some (r, g') := hf
    show J 111 [(0, .ref (q 0)), (1, .int x1), (2, .int x2), (3, .int x3), (4, .int x4)] [] g
    unfold fM_X8_works_111 at hf
    refine zj_iload 4 hC dX8_works_111 rfl ?_
    refine zj_bipush (v := 64) hC dX8_works_113 (by decide) ?_
    refine zj_icmp_ge 169 hC dX8_works_115 (by decide) (fun c50 => ?_) (fun c50 => ?_)
    · have hf := z_iteT hf c50
      refine zj_aload_n 0 hC dX8_works_169 rfl ?_
      refine zj_dup hC dX8_works_170 rfl ?_
      refine mg_0_22 hC hX8 (List.mem_of_getElem? (i := 8) rfl) dX8_works_171 ?_
      refine zj_iload_n 3 hC dX8_works_174 rfl ?_
      refine zj_iadd hC dX8_works_175 ?_
      refine mp_0_22 hC hX8 (List.mem_of_getElem? (i := 8) rfl) dX8_works_176 (fun g51 eg51 => ?_)
      have hf := z_letE hf eg51
      refine zj_aload_n 0 hC dX8_works_179 rfl ?_
      obtain ⟨r52, g53, hq54, hf⟩ := z_bindE hf
      refine zj_callVv [] hC (cM_X8_sinks l dC dI ca q Zt hZt g51 r52 g53 hq54) gX8_works_X8_sinks rfl nM_X8_sinks ⟨Nat.le_of_ble_eq_true rfl, Nat.le_of_ble_eq_true rfl⟩ 0 mo_0 rfl rfl rfl (Nat.le_of_ble_eq_true rfl) dX8_works_180 rfl ?_
      refine zj_iconst (v := 0) hC dX8_works_183 (by decide) ?_
      refine zj_istore (lv1 := [(4, .int 0), (0, .ref (q 0)), (1, .int x1), (2, .int x2), (3, .int x3)]) hC dX8_works_184 (by decide) rfl ?_
      exact zj_sub hC [1, 2, 3, 4, 0] rfl (hJ186 x1 x2 x3 0 g53 hf)
    · have hf := z_iteF hf c50
      refine zj_aload_n 0 hC dX8_works_118 rfl ?_
      refine zj_iload 4 hC dX8_works_119 rfl ?_
      obtain ⟨r55, g56, hq57, hf⟩ := z_bindE hf
      refine zj_callVi [.int x4] hC (cM_X8_isInside l dC dI ca q Zt hZt x4 g r55 g56 hq57) gX8_works_X8_isInside rfl nM_X8_isInside ⟨Nat.le_of_ble_eq_true rfl, Nat.le_of_ble_eq_true rfl⟩ 0 mo_0 rfl rfl rfl (Nat.le_of_ble_eq_true rfl) dX8_works_121 rfl ?_
      refine zj_if_eq 163 hC dX8_works_124 (by decide) (fun c58 => ?_) (fun c58 => ?_)
      · have hf := z_iteT hf c58
        exact (hJ163 k111 hk111 x1 x2 x3 x4 g56 hf)
      · have hf := z_iteF hf c58
        refine zj_aload_n 0 hC dX8_works_127 rfl ?_
        refine mg_0_37 hC hX8 (List.mem_of_getElem? (i := 4) rfl) dX8_works_128 ?_
        refine zj_iload 4 hC dX8_works_131 rfl ?_
        obtain ⟨hq59, hf⟩ := z_ckE hf
        refine ma_27 hC hq59 dX8_works_133 ?_
        refine zj_if_ne 163 hC dX8_works_134 (by decide) (fun c60 => ?_) (fun c60 => ?_)
        · have hf := z_iteF hf c60
          exact (hJ163 k111 hk111 x1 x2 x3 x4 g56 hf)
        · have hf := z_iteT hf c60
          refine zj_aload_n 0 hC dX8_works_137 rfl ?_
          refine mg_0_3 hC hX8 (List.mem_of_getElem? (i := 6) rfl) dX8_works_138 ?_
          refine zj_iload 4 hC dX8_works_141 rfl ?_
          obtain ⟨hq61, hf⟩ := z_ckE hf
          refine ma_1 hC hq61 dX8_works_143 ?_
          refine zj_if_gt 157 hC dX8_works_144 (by decide) (fun c62 => ?_) (fun c62 => ?_)
          · have hf := z_iteT hf c62
            exact (hJ157 k111 hk111 x1 x2 x3 x4 g56 hf)
          · have hf := z_iteF hf c62
            refine zj_aload_n 0 hC dX8_works_147 rfl ?_
            refine mg_0_4 hC hX8 (List.mem_of_getElem? (i := 7) rfl) dX8_works_148 ?_
            refine zj_iload 4 hC dX8_works_151 rfl ?_
            obtain ⟨hq63, hf⟩ := z_ckE hf
            refine ma_2 hC hq63 dX8_works_153 ?_
            refine zj_if_le 163 hC dX8_works_154 (by decide) (fun c64 => ?_) (fun c64 => ?_)
            · have hf := z_iteT hf c64
              exact (hJ163 k111 hk111 x1 x2 x3 x4 g56 hf)
            · have hf := z_iteF hf c64
              exact (hJ157 k111 hk111 x1 x2 x3 x4 g56 hf)
  have hJ76 : ∀ (x1 : Int32) (x2 : Int32) (x3 : Int32) (x4 : Int32) (g : z_G), fM_X8_works_76_go x1 x2 x3 x4 g = some (r, g') → J 76 [(0, .ref (q 0)), (1, .int x1), (2, .int x2), (3, .int x3), (4, .int x4)] [] g := by
    intro x1 x2 x3 x4 g hf
    refine z_loopE (P := fun w : Int32 × Int32 × Int32 × Int32 × z_G => J 76 [(0, .ref (q 0)), (1, .int w.1), (2, .int w.2.1), (3, .int w.2.2.1), (4, .int w.2.2.2.1)] [] w.2.2.2.2) (fun k76 hk76 w hf => ?_) z_fuel (x1, x2, x3, x4, g) hf
    obtain ⟨x1, x2, x3, x4, g⟩ := w
    have hf : fM_X8_works_76 k76 x1 x2 x3 x4 g = some (r, g') := hf
    show J 76 [(0, .ref (q 0)), (1, .int x1), (2, .int x2), (3, .int x3), (4, .int x4)] [] g
    unfold fM_X8_works_76 at hf
    refine zj_iload 4 hC dX8_works_76 rfl ?_
    refine zj_bipush (v := 64) hC dX8_works_78 (by decide) ?_
    refine zj_icmp_ge 108 hC dX8_works_80 (by decide) (fun c65 => ?_) (fun c65 => ?_)
    · have hf := z_iteT hf c65
      refine zj_iconst (v := 0) hC dX8_works_108 (by decide) ?_
      refine zj_istore (lv1 := [(4, .int 0), (0, .ref (q 0)), (1, .int x1), (2, .int x2), (3, .int x3)]) hC dX8_works_109 (by decide) rfl ?_
      exact zj_sub hC [1, 2, 3, 4, 0] rfl (hJ111 x1 x2 x3 0 g hf)
    · have hf := z_iteF hf c65
      refine zj_aload_n 0 hC dX8_works_83 rfl ?_
      refine mg_0_37 hC hX8 (List.mem_of_getElem? (i := 4) rfl) dX8_works_84 ?_
      refine zj_iload 4 hC dX8_works_87 rfl ?_
      obtain ⟨hq66, hf⟩ := z_ckE hf
      refine ma_27 hC hq66 dX8_works_89 ?_
      refine zj_if_eq 102 hC dX8_works_90 (by decide) (fun c67 => ?_) (fun c67 => ?_)
      · have hf := z_iteT hf c67
        exact (hJ102 k76 hk76 x1 x2 x3 x4 g hf)
      · have hf := z_iteF hf c67
        refine zj_iload_n 3 hC dX8_works_93 rfl ?_
        refine zj_aload_n 0 hC dX8_works_94 rfl ?_
        refine zj_iload 4 hC dX8_works_95 rfl ?_
        obtain ⟨r68, g69, hq70, hf⟩ := z_bindE hf
        refine zj_callVi [.int x4] hC (cM_X8_burns l dC dI ca q Zt hZt x4 g r68 g69 hq70) gX8_works_X8_burns rfl nM_X8_burns ⟨Nat.le_of_ble_eq_true rfl, Nat.le_of_ble_eq_true rfl⟩ 0 mo_0 rfl rfl rfl (Nat.le_of_ble_eq_true rfl) dX8_works_97 rfl ?_
        refine zj_iadd hC dX8_works_100 ?_
        refine zj_top (fun y71 ey71 => ?_)
        have hf := z_letE hf ey71
        refine zj_istore_n (lv1 := [(3, .int y71), (0, .ref (q 0)), (1, .int x1), (2, .int x2), (4, .int x4)]) hC dX8_works_101 (by decide) rfl ?_
        exact zj_sub hC [1, 2, 3, 0, 4] rfl (hJ102 k76 hk76 x1 x2 y71 x4 g69 hf)
  have hJ5 : ∀ (x1 : Int32) (x2 : Int32) (x3 : Int32) (x4 : Int32) (g : z_G), fM_X8_works_5_go x1 x2 x3 x4 g = some (r, g') → J 5 [(0, .ref (q 0)), (1, .int x1), (2, .int x2), (3, .int x3), (4, .int x4)] [] g := by
    intro x1 x2 x3 x4 g hf
    refine z_loopE (P := fun w : Int32 × Int32 × Int32 × Int32 × z_G => J 5 [(0, .ref (q 0)), (1, .int w.1), (2, .int w.2.1), (3, .int w.2.2.1), (4, .int w.2.2.2.1)] [] w.2.2.2.2) (fun k5 hk5 w hf => ?_) z_fuel (x1, x2, x3, x4, g) hf
    obtain ⟨x1, x2, x3, x4, g⟩ := w
    have hf : fM_X8_works_5 k5 x1 x2 x3 x4 g = some (r, g') := hf
    show J 5 [(0, .ref (q 0)), (1, .int x1), (2, .int x2), (3, .int x3), (4, .int x4)] [] g
    unfold fM_X8_works_5 at hf
    refine zj_iload 4 hC dX8_works_5 rfl ?_
    refine zj_bipush (v := 64) hC dX8_works_7 (by decide) ?_
    refine zj_icmp_ge 73 hC dX8_works_9 (by decide) (fun c72 => ?_) (fun c72 => ?_)
    · have hf := z_iteT hf c72
      refine zj_iconst (v := 0) hC dX8_works_73 (by decide) ?_
      refine zj_istore (lv1 := [(4, .int 0), (0, .ref (q 0)), (1, .int x1), (2, .int x2), (3, .int x3)]) hC dX8_works_74 (by decide) rfl ?_
      exact zj_sub hC [1, 2, 3, 4, 0] rfl (hJ76 x1 x2 x3 0 g hf)
    · have hf := z_iteF hf c72
      refine zj_aload_n 0 hC dX8_works_12 rfl ?_
      refine mg_0_11 hC hX8 (List.mem_of_getElem? (i := 1) rfl) dX8_works_13 ?_
      refine zj_iload 4 hC dX8_works_16 rfl ?_
      refine zj_aload_n 0 hC dX8_works_18 rfl ?_
      refine zj_iload 4 hC dX8_works_19 rfl ?_
      obtain ⟨r73, g74, hq75, hf⟩ := z_bindE hf
      refine zj_callVi [.int x4] hC (cM_X8_isInside l dC dI ca q Zt hZt x4 g r73 g74 hq75) gX8_works_X8_isInside rfl nM_X8_isInside ⟨Nat.le_of_ble_eq_true rfl, Nat.le_of_ble_eq_true rfl⟩ 0 mo_0 rfl rfl rfl (Nat.le_of_ble_eq_true rfl) dX8_works_21 rfl ?_
      refine zj_if_eq 37 hC dX8_works_24 (by decide) (fun c76 => ?_) (fun c76 => ?_)
      · have hf := z_iteT hf c76
        refine zj_iconst (v := 0) hC dX8_works_37 (by decide) ?_
        exact (hJ38 k5 hk5 0 x4 x1 x2 x3 x4 g74 hf)
      · have hf := z_iteF hf c76
        refine zj_aload_n 0 hC dX8_works_27 rfl ?_
        refine zj_iload 4 hC dX8_works_28 rfl ?_
        refine zj_iload_n 2 hC dX8_works_30 rfl ?_
        obtain ⟨r77, g78, hq79, hf⟩ := z_bindE hf
        refine zj_callVi [.int x4, .int x2] hC (cM_X8_airOf l dC dI ca q Zt hZt x4 x2 g74 r77 g78 hq79) gX8_works_X8_airOf rfl nM_X8_airOf ⟨Nat.le_of_ble_eq_true rfl, Nat.le_of_ble_eq_true rfl⟩ 0 mo_0 rfl rfl rfl (Nat.le_of_ble_eq_true rfl) dX8_works_31 rfl ?_
        refine zj_goto 38 hC dX8_works_34 (by decide) ?_
        exact (hJ38 k5 hk5 r77 x4 x1 x2 x3 x4 g78 hf)
  unfold fM_X8_works at hf
  refine zj_iconst (v := 0) hC dX8_works_0 (by decide) ?_
  refine zj_istore_n (lv1 := [(3, .int 0), (0, .ref (q 0)), (1, .int a0), (2, .int a1)]) hC dX8_works_1 (by decide) rfl ?_
  refine zj_iconst (v := 0) hC dX8_works_2 (by decide) ?_
  refine zj_istore (lv1 := [(4, .int 0), (3, .int 0), (0, .ref (q 0)), (1, .int a0), (2, .int a1)]) hC dX8_works_3 (by decide) rfl ?_
  exact zj_sub hC [2, 3, 4, 1, 0] rfl (hJ5 a0 a1 0 0 g hf)

def fM_X8_hour_46  (g : z_G) : Option (Int32 × z_G) := some ((-1), g)
def fM_X8_hour (a0 : Int32) (a1 : Int32) (g : z_G) : Option (Int32 × z_G) := z_let (z_up g 0 0 0) (fun g1 => z_bind (fM_X8_in ((a0 : Int32).toInt64) 0 9 g1) (fun r2 g3 => (if r2 = 0 then fM_X8_hour_46 g3 else z_bind (fM_X8_in ((a1 : Int32).toInt64) 0 3 g3) (fun r6 g7 => (if r6 = 0 then fM_X8_hour_46 g7 else (if (g7 0 20) = 0 then fM_X8_hour_46 g7 else (if (g7 0 21) = 300 then fM_X8_hour_46 g7 else z_bind (fM_X8_works a0 a1 g7) (fun r12 g13 => some (r12, g13)))))))))
theorem nM_X8_hour : yX8_hour.cls = RX8 ∧ yX8_hour.cls ≠ "java/lang/invoke/MethodHandle" ∧ yX8_hour.cls ≠ "java/lang/invoke/VarHandle" ∧ (parseMethodDescriptor yX8_hour.desc).map (fun d => d.parameters.length) = some 2 := by decide +kernel
set_option maxRecDepth 100000 in
set_option maxHeartbeats 4000000 in
theorem cM_X8_hour (l : Launch) (dC : Nat → ClassId) (dI : Nat → Nat → Nat) (ca : Nat → ClassId) (q : Nat → Nat) (Zt : z_ZT) (hZt : z_Zok Zt) (a0 : Int32) (a1 : Int32) (g : z_G) (r : Int32) (g' : z_G) (hf : fM_X8_hour a0 a1 g = some (r, g')) : z_C l yX8_hour wsX8_hour { frames := 6, cells := 0, slots := 0, locals := 143 } (dC, dI) (tyM ca) (wM ca q) Zt [.ref (q 0), .int a0, .int a1] g (some r) g' := by
  refine z_enter (wM_ok ca q) hZt (by decide +kernel) rfl (Nat.le_of_ble_eq_true rfl) (fun J hC => ?_)
  have hC : z_Cx J l cX8_hour 3 wsX8_hour RX8 (some .int) { frames := 6, cells := 0, slots := 0, locals := 143 } (dC, dI) (tyM ca) (wM ca q) Zt (z_QI (dC, dI) (tyM ca) (wM ca q) (some r) g') z_X0 := hC
  show J 0 [(0, .ref (q 0)), (1, .int a0), (2, .int a1)] [] g
  have hX8 : ∀ w ∈ wsX80, w ∈ wsX8_hour := fun _ h => List.mem_cons_of_mem _ (List.mem_append_right _ (h))
  have hJ46 : ∀ (g : z_G), fM_X8_hour_46 g = some (r, g') → J 46 [] [] g := by
    intro g hf
    unfold fM_X8_hour_46 at hf
    refine zj_iconst (v := (-1)) hC dX8_hour_46 (by decide) ?_
    exact zj_ireturn hC hf dX8_hour_47
  unfold fM_X8_hour at hf
  refine zj_aload_n 0 hC dX8_hour_0 rfl ?_
  refine zj_iconst (v := 0) hC dX8_hour_1 (by decide) ?_
  refine mp_0_0 hC hX8 (List.mem_of_getElem? (i := 1) rfl) dX8_hour_2 (fun g1 eg1 => ?_)
  have hf := z_letE hf eg1
  refine zj_iload_n 1 hC dX8_hour_5 rfl ?_
  refine zj_i2l hC dX8_hour_6 ?_
  refine zj_lconst (v := 0) hC dX8_hour_7 (by decide) ?_
  refine zj_ldc2 (v := 9) hC (List.mem_of_getElem? (i := 2) rfl) dX8_hour_8 ?_
  obtain ⟨r2, g3, hq4, hf⟩ := z_bindE hf
  refine zj_callSi [.long ((a0 : Int32).toInt64), .long 0, .long 9] hC (cM_X8_in l dC dI ca q Zt hZt ((a0 : Int32).toInt64) 0 9 g1 r2 g3 hq4) gX8_hour_X8_in rfl nM_X8_in ⟨Nat.le_of_ble_eq_true rfl, Nat.le_of_ble_eq_true rfl⟩ rfl (Nat.le_of_ble_eq_true rfl) dX8_hour_11 rfl ?_
  refine zj_if_eq 46 hC dX8_hour_14 (by decide) (fun c5 => ?_) (fun c5 => ?_)
  · have hf := z_iteT hf c5
    exact zj_sub hC [] rfl (hJ46 g3 hf)
  · have hf := z_iteF hf c5
    refine zj_iload_n 2 hC dX8_hour_17 rfl ?_
    refine zj_i2l hC dX8_hour_18 ?_
    refine zj_lconst (v := 0) hC dX8_hour_19 (by decide) ?_
    refine zj_ldc2 (v := 3) hC (List.mem_of_getElem? (i := 3) rfl) dX8_hour_20 ?_
    obtain ⟨r6, g7, hq8, hf⟩ := z_bindE hf
    refine zj_callSi [.long ((a1 : Int32).toInt64), .long 0, .long 3] hC (cM_X8_in l dC dI ca q Zt hZt ((a1 : Int32).toInt64) 0 3 g3 r6 g7 hq8) gX8_hour_X8_in rfl nM_X8_in ⟨Nat.le_of_ble_eq_true rfl, Nat.le_of_ble_eq_true rfl⟩ rfl (Nat.le_of_ble_eq_true rfl) dX8_hour_23 rfl ?_
    refine zj_if_eq 46 hC dX8_hour_26 (by decide) (fun c9 => ?_) (fun c9 => ?_)
    · have hf := z_iteT hf c9
      exact zj_sub hC [] rfl (hJ46 g7 hf)
    · have hf := z_iteF hf c9
      refine zj_aload_n 0 hC dX8_hour_29 rfl ?_
      refine mg_0_20 hC hX8 (List.mem_of_getElem? (i := 4) rfl) dX8_hour_30 ?_
      refine zj_if_eq 46 hC dX8_hour_33 (by decide) (fun c10 => ?_) (fun c10 => ?_)
      · have hf := z_iteT hf c10
        exact zj_sub hC [] rfl (hJ46 g7 hf)
      · have hf := z_iteF hf c10
        refine zj_aload_n 0 hC dX8_hour_36 rfl ?_
        refine mg_0_21 hC hX8 (List.mem_of_getElem? (i := 5) rfl) dX8_hour_37 ?_
        refine zj_sipush (v := 300) hC dX8_hour_40 (by decide) ?_
        refine zj_icmp_ne 48 hC dX8_hour_43 (by decide) (fun c11 => ?_) (fun c11 => ?_)
        · have hf := z_iteF hf c11
          refine zj_aload_n 0 hC dX8_hour_48 rfl ?_
          refine zj_iload_n 1 hC dX8_hour_49 rfl ?_
          refine zj_iload_n 2 hC dX8_hour_50 rfl ?_
          obtain ⟨r12, g13, hq14, hf⟩ := z_bindE hf
          refine zj_callVi [.int a0, .int a1] hC (cM_X8_works l dC dI ca q Zt hZt a0 a1 g7 r12 g13 hq14) gX8_hour_X8_works rfl nM_X8_works ⟨Nat.le_of_ble_eq_true rfl, Nat.le_of_ble_eq_true rfl⟩ 0 mo_0 rfl rfl rfl (Nat.le_of_ble_eq_true rfl) dX8_hour_51 rfl ?_
          exact zj_ireturn hC hf dX8_hour_54
        · have hf := z_iteT hf c11
          exact zj_sub hC [] rfl (hJ46 g7 hf)

def fM_X8_sum_r2_4 (k4 : Int32 × Int32 × z_G → Option (Int32 × z_G)) (x1 : Int32) (x2 : Int32) (g : z_G) : Option (Int32 × z_G) := (if 64 ≤ x2 then some (x1, g) else z_ck x2 64 (z_let (x1 + (g 2 (Int32.toNatClampNeg x2))) (fun y3 => z_let (x2 + 1) (fun y4 => k4 (y3, y4, g)))))
def fM_X8_sum_r2_4_go (x1 : Int32) (x2 : Int32) (g : z_G) : Option (Int32 × z_G) := z_loop (fun k (w : Int32 × Int32 × z_G) => fM_X8_sum_r2_4 k w.1 w.2.1 w.2.2) z_fuel (x1, x2, g)
def fM_X8_sum_r2 (g : z_G) : Option (Int32 × z_G) := fM_X8_sum_r2_4_go 0 0 g
theorem nM_X8_sum_r2 : yX8_sum.cls ≠ "java/lang/invoke/MethodHandle" ∧ yX8_sum.cls ≠ "java/lang/invoke/VarHandle" ∧ (parseMethodDescriptor yX8_sum.desc).map (fun d => d.parameters.length) = some 1 := by decide +kernel
set_option maxRecDepth 100000 in
set_option maxHeartbeats 4000000 in
theorem cM_X8_sum_r2 (l : Launch) (dC : Nat → ClassId) (dI : Nat → Nat → Nat) (ca : Nat → ClassId) (q : Nat → Nat) (Zt : z_ZT) (hZt : z_Zok Zt) (g : z_G) (r : Int32) (g' : z_G) (hf : fM_X8_sum_r2 g = some (r, g')) : z_C l yX8_sum wsX8_sum { frames := 0, cells := 0, slots := 0, locals := 0 } (dC, dI) (tyM ca) (wM ca q) Zt [.ref (q 2)] g (some r) g' := by
  refine z_enter (wM_ok ca q) hZt (by decide +kernel) rfl (Nat.le_of_ble_eq_true rfl) (fun J hC => ?_)
  have hC : z_Cx J l cX8_sum 3 wsX8_sum RX8 (some .int) { frames := 0, cells := 0, slots := 0, locals := 0 } (dC, dI) (tyM ca) (wM ca q) Zt (z_QI (dC, dI) (tyM ca) (wM ca q) (some r) g') z_X0 := hC
  show J 0 [(0, .ref (q 2))] [] g
  have hJ4 : ∀ (x1 : Int32) (x2 : Int32) (g : z_G), fM_X8_sum_r2_4_go x1 x2 g = some (r, g') → J 4 [(0, .ref (q 2)), (1, .int x1), (2, .int x2)] [] g := by
    intro x1 x2 g hf
    refine z_loopE (P := fun w : Int32 × Int32 × z_G => J 4 [(0, .ref (q 2)), (1, .int w.1), (2, .int w.2.1)] [] w.2.2) (fun k4 hk4 w hf => ?_) z_fuel (x1, x2, g) hf
    obtain ⟨x1, x2, g⟩ := w
    have hf : fM_X8_sum_r2_4 k4 x1 x2 g = some (r, g') := hf
    show J 4 [(0, .ref (q 2)), (1, .int x1), (2, .int x2)] [] g
    unfold fM_X8_sum_r2_4 at hf
    refine zj_iload_n 2 hC dX8_sum_4 rfl ?_
    refine zj_aload_n 0 hC dX8_sum_5 rfl ?_
    refine ml_2 hC dX8_sum_6 ?_
    refine zj_icmp_ge 22 hC dX8_sum_7 (by decide) (fun c1 => ?_) (fun c1 => ?_)
    · have hf := z_iteT hf c1
      refine zj_iload_n 1 hC dX8_sum_22 rfl ?_
      exact zj_ireturn hC hf dX8_sum_23
    · have hf := z_iteF hf c1
      refine zj_iload_n 1 hC dX8_sum_10 rfl ?_
      refine zj_aload_n 0 hC dX8_sum_11 rfl ?_
      refine zj_iload_n 2 hC dX8_sum_12 rfl ?_
      obtain ⟨hq2, hf⟩ := z_ckE hf
      refine ma_2 hC hq2 dX8_sum_13 ?_
      refine zj_iadd hC dX8_sum_14 ?_
      refine zj_top (fun y3 ey3 => ?_)
      have hf := z_letE hf ey3
      refine zj_istore_n (lv1 := [(1, .int y3), (0, .ref (q 2)), (2, .int x2)]) hC dX8_sum_15 (by decide) rfl ?_
      refine zj_iinc (lv1 := fun v => [(2, .int v), (1, .int y3), (0, .ref (q 2))]) 2 hC dX8_sum_16 rfl (by decide) (fun _ => rfl) (fun y4 ey4 => ?_)
      have hf := z_letE hf (show y4 = x2 + 1 from ey4)
      refine zj_goto 4 hC dX8_sum_19 (by decide) ?_
      exact zj_sub hC [2, 1, 0] rfl (hk4 (y3, y4, g) hf)
  unfold fM_X8_sum_r2 at hf
  refine zj_iconst (v := 0) hC dX8_sum_0 (by decide) ?_
  refine zj_istore_n (lv1 := [(1, .int 0), (0, .ref (q 2))]) hC dX8_sum_1 (by decide) rfl ?_
  refine zj_iconst (v := 0) hC dX8_sum_2 (by decide) ?_
  refine zj_istore_n (lv1 := [(2, .int 0), (1, .int 0), (0, .ref (q 2))]) hC dX8_sum_3 (by decide) rfl ?_
  exact zj_sub hC [2, 1, 0] rfl (hJ4 0 0 g hf)

def fM_X8_again_52  (g : z_G) : Option (Int32 × z_G) := some ((-1), g)
def fM_X8_again_117 (k63 : Int32 × Int32 × Int32 × Int32 × Int32 × z_G → Option (Int32 × z_G)) (s0 : Int32) (s1 : Int32) (x1 : Int32) (x2 : Int32) (x3 : Int32) (x4 : Int32) (x5 : Int32) (g : z_G) : Option (Int32 × z_G) := z_ck s1 300 (z_let (z_up g 29 (Int32.toNatClampNeg s1) s0) (fun g2 => z_let (x5 + 1) (fun y3 => k63 (x1, x2, x3, x4, y3, g2))))
def fM_X8_again_93 (k63 : Int32 × Int32 × Int32 × Int32 × Int32 × z_G → Option (Int32 × z_G)) (s0 : Int32) (s1 : Int32) (x1 : Int32) (x2 : Int32) (x3 : Int32) (x4 : Int32) (x5 : Int32) (g : z_G) : Option (Int32 × z_G) := z_ck s1 300 (z_let (z_up g 28 (Int32.toNatClampNeg s1) s0) (fun g5 => (if x5 = x1 then fM_X8_again_117 k63 x3 x5 x1 x2 x3 x4 x5 g5 else z_ck x5 300 (fM_X8_again_117 k63 (g5 21 (Int32.toNatClampNeg x5)) x5 x1 x2 x3 x4 x5 g5))))
def fM_X8_again_343 (k264 : Int32 × Int32 × Int32 × z_G → Option (Int32 × z_G)) (x4 : Int32) (x5 : Int32) (x6 : Int32) (g : z_G) : Option (Int32 × z_G) := z_let (x6 + 1) (fun y8 => k264 (x4, x5, y8, g))
def fM_X8_again_316 (k264 : Int32 × Int32 × Int32 × z_G → Option (Int32 × z_G)) (x4 : Int32) (x5 : Int32) (x6 : Int32) (g : z_G) : Option (Int32 × z_G) := (if x4 ≤ x6 then fM_X8_again_343 k264 x4 x5 x6 g else z_ck x6 300 (z_ck x6 300 (z_bind (fM_X8_works (g 28 (Int32.toNatClampNeg x6)) (g 29 (Int32.toNatClampNeg x6)) g) (fun r12 g13 => fM_X8_again_343 k264 x4 x5 x6 g13))))
def fM_X8_again_271 (k264 : Int32 × Int32 × Int32 × z_G → Option (Int32 × z_G)) (k271 : Int32 × Int32 × Int32 × z_G → Option (Int32 × z_G)) (x4 : Int32) (x5 : Int32) (x6 : Int32) (g : z_G) : Option (Int32 × z_G) := (if (g 0 26) ≤ x5 then fM_X8_again_316 k264 x4 x5 x6 g else z_ck x5 100 ((if (g 19 (Int32.toNatClampNeg x5)) = x6 then z_ck x5 100 (z_ck x5 100 (z_bind (fM_X8_does (g 17 (Int32.toNatClampNeg x5)) (g 18 (Int32.toNatClampNeg x5)) g) (fun r20 g21 => z_let (x5 + 1) (fun y23 => k271 (x4, y23, x6, g21))))) else fM_X8_again_316 k264 x4 x5 x6 g)))
def fM_X8_again_271_go (k264 : Int32 × Int32 × Int32 × z_G → Option (Int32 × z_G)) (x4 : Int32) (x5 : Int32) (x6 : Int32) (g : z_G) : Option (Int32 × z_G) := z_loop (fun k (w : Int32 × Int32 × Int32 × z_G) => fM_X8_again_271 k264 k w.1 w.2.1 w.2.2.1 w.2.2.2) z_fuel (x4, x5, x6, g)
def fM_X8_again_264 (k264 : Int32 × Int32 × Int32 × z_G → Option (Int32 × z_G)) (x4 : Int32) (x5 : Int32) (x6 : Int32) (g : z_G) : Option (Int32 × z_G) := (if x4 < x6 then z_bind (fM_X8_sum_r2 g) (fun r25 g26 => some (r25, g26)) else fM_X8_again_271_go k264 x4 x5 x6 g)
def fM_X8_again_264_go (x4 : Int32) (x5 : Int32) (x6 : Int32) (g : z_G) : Option (Int32 × z_G) := z_loop (fun k (w : Int32 × Int32 × Int32 × z_G) => fM_X8_again_264 k w.1 w.2.1 w.2.2.1 w.2.2.2) z_fuel (x4, x5, x6, g)
def fM_X8_again_225 (k225 : Int32 × Int32 × z_G → Option (Int32 × z_G)) (x4 : Int32) (x5 : Int32) (g : z_G) : Option (Int32 × z_G) := (if (g 0 13) ≤ x5 then z_bind (fM_X8_lights g) (fun r29 g30 => fM_X8_again_264_go x4 0 0 g30) else z_ck x5 12 (z_ck x5 12 (z_let (z_up g 12 (Int32.toNatClampNeg x5) (vp_nar .boolean (g 16 (Int32.toNatClampNeg x5)))) (fun g34 => z_let (x5 + 1) (fun y35 => k225 (x4, y35, g34))))))
def fM_X8_again_225_go (x4 : Int32) (x5 : Int32) (g : z_G) : Option (Int32 × z_G) := z_loop (fun k (w : Int32 × Int32 × z_G) => fM_X8_again_225 k w.1 w.2.1 w.2.2) z_fuel (x4, x5, g)
def fM_X8_again_127 (k127 : Int32 × Int32 × z_G → Option (Int32 × z_G)) (x4 : Int32) (x5 : Int32) (g : z_G) : Option (Int32 × z_G) := (if 64 ≤ x5 then fM_X8_again_225_go x4 0 g else z_ck x5 64 (z_ck x5 64 (z_let (z_up g 1 (Int32.toNatClampNeg x5) (g 13 (Int32.toNatClampNeg x5))) (fun g39 => z_ck x5 64 (z_ck x5 64 (z_let (z_up g39 3 (Int32.toNatClampNeg x5) (g39 14 (Int32.toNatClampNeg x5))) (fun g42 => z_ck x5 64 (z_ck x5 64 (z_let (z_up g42 8 (Int32.toNatClampNeg x5) (g42 15 (Int32.toNatClampNeg x5))) (fun g45 => z_ck x5 64 (z_let (z_up g45 2 (Int32.toNatClampNeg x5) 0) (fun g47 => z_ck x5 64 (z_let (z_up g47 4 (Int32.toNatClampNeg x5) 0) (fun g49 => z_ck x5 64 (z_let (z_up g49 5 (Int32.toNatClampNeg x5) (vp_nar .boolean 0)) (fun g51 => z_ck x5 64 (z_let (z_up g51 9 (Int32.toNatClampNeg x5) 0) (fun g53 => z_ck x5 64 (z_let (z_up g53 10 (Int32.toNatClampNeg x5) (-1)) (fun g55 => z_let (x5 + 1) (fun y56 => k127 (x4, y56, g55))))))))))))))))))))))
def fM_X8_again_127_go (x4 : Int32) (x5 : Int32) (g : z_G) : Option (Int32 × z_G) := z_loop (fun k (w : Int32 × Int32 × z_G) => fM_X8_again_127 k w.1 w.2.1 w.2.2) z_fuel (x4, x5, g)
def fM_X8_again_63 (k63 : Int32 × Int32 × Int32 × Int32 × Int32 × z_G → Option (Int32 × z_G)) (x1 : Int32) (x2 : Int32) (x3 : Int32) (x4 : Int32) (x5 : Int32) (g : z_G) : Option (Int32 × z_G) := (if x4 ≤ x5 then fM_X8_again_127_go x4 0 g else (if x5 = x1 then fM_X8_again_93 k63 x2 x5 x1 x2 x3 x4 x5 g else z_ck x5 300 (fM_X8_again_93 k63 (g 20 (Int32.toNatClampNeg x5)) x5 x1 x2 x3 x4 x5 g)))
def fM_X8_again_63_go (x1 : Int32) (x2 : Int32) (x3 : Int32) (x4 : Int32) (x5 : Int32) (g : z_G) : Option (Int32 × z_G) := z_loop (fun k (w : Int32 × Int32 × Int32 × Int32 × Int32 × z_G) => fM_X8_again_63 k w.1 w.2.1 w.2.2.1 w.2.2.2.1 w.2.2.2.2.1 w.2.2.2.2.2) z_fuel (x1, x2, x3, x4, x5, g)
def fM_X8_again (a0 : Int32) (a1 : Int32) (a2 : Int32) (g : z_G) : Option (Int32 × z_G) := z_let (z_up g 0 0 0) (fun g60 => (if (g60 0 20) = 0 then fM_X8_again_52 g60 else z_bind (fM_X8_in ((a0 : Int32).toInt64) 0 (((g60 0 21) - 1 : Int32).toInt64) g60) (fun r62 g63 => (if r62 = 0 then fM_X8_again_52 g63 else z_bind (fM_X8_in ((a1 : Int32).toInt64) 0 9 g63) (fun r66 g67 => (if r66 = 0 then fM_X8_again_52 g67 else z_bind (fM_X8_in ((a2 : Int32).toInt64) 0 3 g67) (fun r70 g71 => (if r70 = 0 then fM_X8_again_52 g71 else z_let (g71 0 21) (fun y74 => fM_X8_again_63_go a0 a1 a2 y74 0 g71)))))))))
theorem nM_X8_again : yX8_again.cls = RX8 ∧ yX8_again.cls ≠ "java/lang/invoke/MethodHandle" ∧ yX8_again.cls ≠ "java/lang/invoke/VarHandle" ∧ (parseMethodDescriptor yX8_again.desc).map (fun d => d.parameters.length) = some 3 := by decide +kernel
set_option maxRecDepth 100000 in
set_option maxHeartbeats 4000000 in
theorem cM_X8_again (l : Launch) (dC : Nat → ClassId) (dI : Nat → Nat → Nat) (ca : Nat → ClassId) (q : Nat → Nat) (Zt : z_ZT) (hZt : z_Zok Zt) (a0 : Int32) (a1 : Int32) (a2 : Int32) (g : z_G) (r : Int32) (g' : z_G) (hf : fM_X8_again a0 a1 a2 g = some (r, g')) : z_C l yX8_again wsX8_again { frames := 6, cells := 0, slots := 0, locals := 143 } (dC, dI) (tyM ca) (wM ca q) Zt [.ref (q 0), .int a0, .int a1, .int a2] g (some r) g' := by
  refine z_enter (wM_ok ca q) hZt (by decide +kernel) rfl (Nat.le_of_ble_eq_true rfl) (fun J hC => ?_)
  have hC : z_Cx J l cX8_again 8 wsX8_again RX8 (some .int) { frames := 6, cells := 0, slots := 0, locals := 143 } (dC, dI) (tyM ca) (wM ca q) Zt (z_QI (dC, dI) (tyM ca) (wM ca q) (some r) g') z_X0 := hC
  show J 0 [(0, .ref (q 0)), (1, .int a0), (2, .int a1), (3, .int a2)] [] g
  have hX8 : ∀ w ∈ wsX80, w ∈ wsX8_again := fun _ h => List.mem_cons_of_mem _ (List.mem_append_right _ (h))
  have hJ52 : ∀ (g : z_G), fM_X8_again_52 g = some (r, g') → J 52 [] [] g := by
    intro g hf
    unfold fM_X8_again_52 at hf
    refine zj_iconst (v := (-1)) hC dX8_again_52 (by decide) ?_
    exact zj_ireturn hC hf dX8_again_53
  have hJ117 : ∀ (k63 : Int32 × Int32 × Int32 × Int32 × Int32 × z_G → Option (Int32 × z_G)) (_ : ∀ w : Int32 × Int32 × Int32 × Int32 × Int32 × z_G, k63 w = some (r, g') → J 63 [(0, .ref (q 0)), (1, .int w.1), (2, .int w.2.1), (3, .int w.2.2.1), (4, .int w.2.2.2.1), (5, .int w.2.2.2.2.1)] [] w.2.2.2.2.2) (s0 : Int32) (s1 : Int32) (x1 : Int32) (x2 : Int32) (x3 : Int32) (x4 : Int32) (x5 : Int32) (g : z_G), fM_X8_again_117 k63 s0 s1 x1 x2 x3 x4 x5 g = some (r, g') → J 117 [(0, .ref (q 0)), (1, .int x1), (2, .int x2), (3, .int x3), (4, .int x4), (5, .int x5)] [.int s0, .int s1, .ref (q 29)] g := by
    intro k63 hk63 s0 s1 x1 x2 x3 x4 x5 g hf
    unfold fM_X8_again_117 at hf
    obtain ⟨hq1, hf⟩ := z_ckE hf
    refine ms_29 hC hq1 dX8_again_117 (fun g2 eg2 => ?_)
    have hf := z_letE hf eg2
    refine zj_iinc (lv1 := fun v => [(5, .int v), (0, .ref (q 0)), (1, .int x1), (2, .int x2), (3, .int x3), (4, .int x4)]) 5 hC dX8_again_118 rfl (by decide) (fun _ => rfl) (fun y3 ey3 => ?_)
    have hf := z_letE hf (show y3 = x5 + 1 from ey3)
    refine zj_goto 63 hC dX8_again_121 (by decide) ?_
    exact zj_sub hC [1, 2, 3, 4, 5, 0] rfl (hk63 (x1, x2, x3, x4, y3, g2) hf)
  have hJ93 : ∀ (k63 : Int32 × Int32 × Int32 × Int32 × Int32 × z_G → Option (Int32 × z_G)) (_ : ∀ w : Int32 × Int32 × Int32 × Int32 × Int32 × z_G, k63 w = some (r, g') → J 63 [(0, .ref (q 0)), (1, .int w.1), (2, .int w.2.1), (3, .int w.2.2.1), (4, .int w.2.2.2.1), (5, .int w.2.2.2.2.1)] [] w.2.2.2.2.2) (s0 : Int32) (s1 : Int32) (x1 : Int32) (x2 : Int32) (x3 : Int32) (x4 : Int32) (x5 : Int32) (g : z_G), fM_X8_again_93 k63 s0 s1 x1 x2 x3 x4 x5 g = some (r, g') → J 93 [(0, .ref (q 0)), (1, .int x1), (2, .int x2), (3, .int x3), (4, .int x4), (5, .int x5)] [.int s0, .int s1, .ref (q 28)] g := by
    intro k63 hk63 s0 s1 x1 x2 x3 x4 x5 g hf
    unfold fM_X8_again_93 at hf
    obtain ⟨hq4, hf⟩ := z_ckE hf
    refine ms_28 hC hq4 dX8_again_93 (fun g5 eg5 => ?_)
    have hf := z_letE hf eg5
    refine zj_aload_n 0 hC dX8_again_94 rfl ?_
    refine mg_0_39 hC hX8 (List.mem_of_getElem? (i := 8) rfl) dX8_again_95 ?_
    refine zj_iload 5 hC dX8_again_98 rfl ?_
    refine zj_iload 5 hC dX8_again_100 rfl ?_
    refine zj_iload_n 1 hC dX8_again_102 rfl ?_
    refine zj_icmp_ne 110 hC dX8_again_103 (by decide) (fun c6 => ?_) (fun c6 => ?_)
    · have hf := z_iteF hf c6
      refine zj_aload_n 0 hC dX8_again_110 rfl ?_
      refine mg_0_31 hC hX8 (List.mem_of_getElem? (i := 9) rfl) dX8_again_111 ?_
      refine zj_iload 5 hC dX8_again_114 rfl ?_
      obtain ⟨hq7, hf⟩ := z_ckE hf
      refine ma_21 hC hq7 dX8_again_116 ?_
      exact (hJ117 k63 hk63 (g5 21 (Int32.toNatClampNeg x5)) x5 x1 x2 x3 x4 x5 g5 hf)
    · have hf := z_iteT hf c6
      refine zj_iload_n 3 hC dX8_again_106 rfl ?_
      refine zj_goto 117 hC dX8_again_107 (by decide) ?_
      exact (hJ117 k63 hk63 x3 x5 x1 x2 x3 x4 x5 g5 hf)
  have hJ343 : ∀ (k264 : Int32 × Int32 × Int32 × z_G → Option (Int32 × z_G)) (_ : ∀ w : Int32 × Int32 × Int32 × z_G, k264 w = some (r, g') → J 264 [(0, .ref (q 0)), (4, .int w.1), (5, .int w.2.1), (6, .int w.2.2.1)] [] w.2.2.2) (x4 : Int32) (x5 : Int32) (x6 : Int32) (g : z_G), fM_X8_again_343 k264 x4 x5 x6 g = some (r, g') → J 343 [(0, .ref (q 0)), (4, .int x4), (5, .int x5), (6, .int x6)] [] g := by
    intro k264 hk264 x4 x5 x6 g hf
    unfold fM_X8_again_343 at hf
    refine zj_iinc (lv1 := fun v => [(6, .int v), (0, .ref (q 0)), (4, .int x4), (5, .int x5)]) 3 hC dX8_again_343 rfl (by decide) (fun _ => rfl) (fun y8 ey8 => ?_)
    have hf := z_letE hf (show y8 = x6 + 1 from ey8)
    refine zj_goto 264 hC dX8_again_346 (by decide) ?_
    exact zj_sub hC [1, 2, 3, 0] rfl (hk264 (x4, x5, y8, g) hf)
  have hJ316 : ∀ (k264 : Int32 × Int32 × Int32 × z_G → Option (Int32 × z_G)) (_ : ∀ w : Int32 × Int32 × Int32 × z_G, k264 w = some (r, g') → J 264 [(0, .ref (q 0)), (4, .int w.1), (5, .int w.2.1), (6, .int w.2.2.1)] [] w.2.2.2) (x4 : Int32) (x5 : Int32) (x6 : Int32) (g : z_G), fM_X8_again_316 k264 x4 x5 x6 g = some (r, g') → J 316 [(0, .ref (q 0)), (4, .int x4), (5, .int x5), (6, .int x6)] [] g := by
    intro k264 hk264 x4 x5 x6 g hf
    unfold fM_X8_again_316 at hf
    refine zj_iload 3 hC dX8_again_316 rfl ?_
    refine zj_iload 1 hC dX8_again_318 rfl ?_
    refine zj_icmp_ge 343 hC dX8_again_320 (by decide) (fun c9 => ?_) (fun c9 => ?_)
    · have hf := z_iteT hf c9
      exact (hJ343 k264 hk264 x4 x5 x6 g hf)
    · have hf := z_iteF hf c9
      refine zj_aload_n 0 hC dX8_again_323 rfl ?_
      refine zj_aload_n 0 hC dX8_again_324 rfl ?_
      refine mg_0_38 hC hX8 (List.mem_of_getElem? (i := 6) rfl) dX8_again_325 ?_
      refine zj_iload 3 hC dX8_again_328 rfl ?_
      obtain ⟨hq10, hf⟩ := z_ckE hf
      refine ma_28 hC hq10 dX8_again_330 ?_
      refine zj_aload_n 0 hC dX8_again_331 rfl ?_
      refine mg_0_39 hC hX8 (List.mem_of_getElem? (i := 8) rfl) dX8_again_332 ?_
      refine zj_iload 3 hC dX8_again_335 rfl ?_
      obtain ⟨hq11, hf⟩ := z_ckE hf
      refine ma_29 hC hq11 dX8_again_337 ?_
      obtain ⟨r12, g13, hq14, hf⟩ := z_bindE hf
      refine zj_callVi [.int (g 28 (Int32.toNatClampNeg x6)), .int (g 29 (Int32.toNatClampNeg x6))] hC (cM_X8_works l dC dI ca q Zt hZt (g 28 (Int32.toNatClampNeg x6)) (g 29 (Int32.toNatClampNeg x6)) g r12 g13 hq14) gX8_again_X8_works rfl nM_X8_works ⟨Nat.le_of_ble_eq_true rfl, Nat.le_of_ble_eq_true rfl⟩ 0 mo_0 rfl rfl rfl (Nat.le_of_ble_eq_true rfl) dX8_again_338 rfl ?_
      refine zj_istore (lv1 := [(7, .int r12), (0, .ref (q 0)), (4, .int x4), (5, .int x5), (6, .int x6)]) hC dX8_again_341 (by decide) rfl ?_
      exact zj_sub hC [1, 2, 3, 4] rfl (hJ343 k264 hk264 x4 x5 x6 g13 hf)
  have hJ271 : ∀ (k264 : Int32 × Int32 × Int32 × z_G → Option (Int32 × z_G)) (_ : ∀ w : Int32 × Int32 × Int32 × z_G, k264 w = some (r, g') → J 264 [(0, .ref (q 0)), (4, .int w.1), (5, .int w.2.1), (6, .int w.2.2.1)] [] w.2.2.2) (x4 : Int32) (x5 : Int32) (x6 : Int32) (g : z_G), fM_X8_again_271_go k264 x4 x5 x6 g = some (r, g') → J 271 [(0, .ref (q 0)), (4, .int x4), (5, .int x5), (6, .int x6)] [] g := by
    intro k264 hk264 x4 x5 x6 g hf
    refine z_loopE (P := fun w : Int32 × Int32 × Int32 × z_G => J 271 [(0, .ref (q 0)), (4, .int w.1), (5, .int w.2.1), (6, .int w.2.2.1)] [] w.2.2.2) (fun k271 hk271 w hf => ?_) z_fuel (x4, x5, x6, g) hf
    obtain ⟨x4, x5, x6, g⟩ := w
    have hf : fM_X8_again_271 k264 k271 x4 x5 x6 g = some (r, g') := hf
    show J 271 [(0, .ref (q 0)), (4, .int x4), (5, .int x5), (6, .int x6)] [] g
    unfold fM_X8_again_271 at hf
    refine zj_iload 2 hC dX8_again_271 rfl ?_
    refine zj_aload_n 0 hC dX8_again_273 rfl ?_
    refine mg_0_26 hC hX8 (List.mem_of_getElem? (i := 24) rfl) dX8_again_274 ?_
    refine zj_icmp_ge 316 hC dX8_again_277 (by decide) (fun c15 => ?_) (fun c15 => ?_)
    · have hf := z_iteT hf c15
      exact (hJ316 k264 hk264 x4 x5 x6 g hf)
    · have hf := z_iteF hf c15
      refine zj_aload_n 0 hC dX8_again_280 rfl ?_
      refine mg_0_29 hC hX8 (List.mem_of_getElem? (i := 25) rfl) dX8_again_281 ?_
      refine zj_iload 2 hC dX8_again_284 rfl ?_
      obtain ⟨hq16, hf⟩ := z_ckE hf
      refine ma_19 hC hq16 dX8_again_286 ?_
      refine zj_iload 3 hC dX8_again_287 rfl ?_
      refine zj_icmp_ne 316 hC dX8_again_289 (by decide) (fun c17 => ?_) (fun c17 => ?_)
      · have hf := z_iteF hf c17
        exact (hJ316 k264 hk264 x4 x5 x6 g hf)
      · have hf := z_iteT hf c17
        refine zj_aload_n 0 hC dX8_again_292 rfl ?_
        refine zj_aload_n 0 hC dX8_again_293 rfl ?_
        refine mg_0_27 hC hX8 (List.mem_of_getElem? (i := 26) rfl) dX8_again_294 ?_
        refine zj_iload 2 hC dX8_again_297 rfl ?_
        obtain ⟨hq18, hf⟩ := z_ckE hf
        refine ma_17 hC hq18 dX8_again_299 ?_
        refine zj_aload_n 0 hC dX8_again_300 rfl ?_
        refine mg_0_28 hC hX8 (List.mem_of_getElem? (i := 27) rfl) dX8_again_301 ?_
        refine zj_iload 2 hC dX8_again_304 rfl ?_
        obtain ⟨hq19, hf⟩ := z_ckE hf
        refine ma_18 hC hq19 dX8_again_306 ?_
        obtain ⟨r20, g21, hq22, hf⟩ := z_bindE hf
        refine zj_callVv [.int (g 17 (Int32.toNatClampNeg x5)), .int (g 18 (Int32.toNatClampNeg x5))] hC (cM_X8_does l dC dI ca q Zt hZt (g 17 (Int32.toNatClampNeg x5)) (g 18 (Int32.toNatClampNeg x5)) g r20 g21 hq22) gX8_again_X8_does rfl nM_X8_does ⟨Nat.le_of_ble_eq_true rfl, Nat.le_of_ble_eq_true rfl⟩ 0 mo_0 rfl rfl rfl (Nat.le_of_ble_eq_true rfl) dX8_again_307 rfl ?_
        refine zj_iinc (lv1 := fun v => [(5, .int v), (0, .ref (q 0)), (4, .int x4), (6, .int x6)]) 2 hC dX8_again_310 rfl (by decide) (fun _ => rfl) (fun y23 ey23 => ?_)
        have hf := z_letE hf (show y23 = x5 + 1 from ey23)
        refine zj_goto 271 hC dX8_again_313 (by decide) ?_
        exact zj_sub hC [1, 2, 0, 3] rfl (hk271 (x4, y23, x6, g21) hf)
  have hJ264 : ∀ (x4 : Int32) (x5 : Int32) (x6 : Int32) (g : z_G), fM_X8_again_264_go x4 x5 x6 g = some (r, g') → J 264 [(0, .ref (q 0)), (4, .int x4), (5, .int x5), (6, .int x6)] [] g := by
    intro x4 x5 x6 g hf
    refine z_loopE (P := fun w : Int32 × Int32 × Int32 × z_G => J 264 [(0, .ref (q 0)), (4, .int w.1), (5, .int w.2.1), (6, .int w.2.2.1)] [] w.2.2.2) (fun k264 hk264 w hf => ?_) z_fuel (x4, x5, x6, g) hf
    obtain ⟨x4, x5, x6, g⟩ := w
    have hf : fM_X8_again_264 k264 x4 x5 x6 g = some (r, g') := hf
    show J 264 [(0, .ref (q 0)), (4, .int x4), (5, .int x5), (6, .int x6)] [] g
    unfold fM_X8_again_264 at hf
    refine zj_iload 3 hC dX8_again_264 rfl ?_
    refine zj_iload 1 hC dX8_again_266 rfl ?_
    refine zj_icmp_gt 349 hC dX8_again_268 (by decide) (fun c24 => ?_) (fun c24 => ?_)
    · have hf := z_iteT hf c24
      refine zj_aload_n 0 hC dX8_again_349 rfl ?_
      refine mg_0_4 hC hX8 (List.mem_of_getElem? (i := 16) rfl) dX8_again_350 ?_
      obtain ⟨r25, g26, hq27, hf⟩ := z_bindE hf
      refine zj_callSi [.ref (q 2)] hC (cM_X8_sum_r2 l dC dI ca q Zt hZt g r25 g26 hq27) gX8_again_X8_sum rfl nM_X8_sum_r2 ⟨Nat.le_of_ble_eq_true rfl, Nat.le_of_ble_eq_true rfl⟩ rfl (Nat.le_of_ble_eq_true rfl) dX8_again_353 rfl ?_
      exact zj_ireturn hC hf dX8_again_356
    · have hf := z_iteF hf c24
      exact (hJ271 k264 hk264 x4 x5 x6 g hf)
  have hJ225 : ∀ (x4 : Int32) (x5 : Int32) (g : z_G), fM_X8_again_225_go x4 x5 g = some (r, g') → J 225 [(0, .ref (q 0)), (4, .int x4), (5, .int x5)] [] g := by
    intro x4 x5 g hf
    refine z_loopE (P := fun w : Int32 × Int32 × z_G => J 225 [(0, .ref (q 0)), (4, .int w.1), (5, .int w.2.1)] [] w.2.2) (fun k225 hk225 w hf => ?_) z_fuel (x4, x5, g) hf
    obtain ⟨x4, x5, g⟩ := w
    have hf : fM_X8_again_225 k225 x4 x5 g = some (r, g') := hf
    show J 225 [(0, .ref (q 0)), (4, .int x4), (5, .int x5)] [] g
    unfold fM_X8_again_225 at hf
    refine zj_iload 2 hC dX8_again_225 rfl ?_
    refine zj_aload_n 0 hC dX8_again_227 rfl ?_
    refine mg_0_13 hC hX8 (List.mem_of_getElem? (i := 21) rfl) dX8_again_228 ?_
    refine zj_icmp_ge 254 hC dX8_again_231 (by decide) (fun c28 => ?_) (fun c28 => ?_)
    · have hf := z_iteT hf c28
      refine zj_aload_n 0 hC dX8_again_254 rfl ?_
      obtain ⟨r29, g30, hq31, hf⟩ := z_bindE hf
      refine zj_callVv [] hC (cM_X8_lights l dC dI ca q Zt hZt g r29 g30 hq31) gX8_again_X8_lights rfl nM_X8_lights ⟨Nat.le_of_ble_eq_true rfl, Nat.le_of_ble_eq_true rfl⟩ 0 mo_0 rfl rfl rfl (Nat.le_of_ble_eq_true rfl) dX8_again_255 rfl ?_
      refine zj_iconst (v := 0) hC dX8_again_258 (by decide) ?_
      refine zj_istore (lv1 := [(5, .int 0), (0, .ref (q 0)), (4, .int x4)]) hC dX8_again_259 (by decide) rfl ?_
      refine zj_iconst (v := 0) hC dX8_again_261 (by decide) ?_
      refine zj_istore (lv1 := [(6, .int 0), (5, .int 0), (0, .ref (q 0)), (4, .int x4)]) hC dX8_again_262 (by decide) rfl ?_
      exact zj_sub hC [2, 3, 1, 0] rfl (hJ264 x4 0 0 g30 hf)
    · have hf := z_iteF hf c28
      refine zj_aload_n 0 hC dX8_again_234 rfl ?_
      refine mg_0_15 hC hX8 (List.mem_of_getElem? (i := 22) rfl) dX8_again_235 ?_
      refine zj_iload 2 hC dX8_again_238 rfl ?_
      refine zj_aload_n 0 hC dX8_again_240 rfl ?_
      refine mg_0_19 hC hX8 (List.mem_of_getElem? (i := 23) rfl) dX8_again_241 ?_
      refine zj_iload 2 hC dX8_again_244 rfl ?_
      obtain ⟨hq32, hf⟩ := z_ckE hf
      refine ma_16 hC hq32 dX8_again_246 ?_
      obtain ⟨hq33, hf⟩ := z_ckE hf
      refine ms_12 hC hq33 dX8_again_247 (fun g34 eg34 => ?_)
      have hf := z_letE hf eg34
      refine zj_iinc (lv1 := fun v => [(5, .int v), (0, .ref (q 0)), (4, .int x4)]) 2 hC dX8_again_248 rfl (by decide) (fun _ => rfl) (fun y35 ey35 => ?_)
      have hf := z_letE hf (show y35 = x5 + 1 from ey35)
      refine zj_goto 225 hC dX8_again_251 (by decide) ?_
      exact zj_sub hC [1, 2, 0] rfl (hk225 (x4, y35, g34) hf)
  have hJ127 : ∀ (x4 : Int32) (x5 : Int32) (g : z_G), fM_X8_again_127_go x4 x5 g = some (r, g') → J 127 [(0, .ref (q 0)), (4, .int x4), (5, .int x5)] [] g := by
    intro x4 x5 g hf
    refine z_loopE (P := fun w : Int32 × Int32 × z_G => J 127 [(0, .ref (q 0)), (4, .int w.1), (5, .int w.2.1)] [] w.2.2) (fun k127 hk127 w hf => ?_) z_fuel (x4, x5, g) hf
    obtain ⟨x4, x5, g⟩ := w
    have hf : fM_X8_again_127 k127 x4 x5 g = some (r, g') := hf
    show J 127 [(0, .ref (q 0)), (4, .int x4), (5, .int x5)] [] g
    unfold fM_X8_again_127 at hf
    refine zj_iload 2 hC dX8_again_127 rfl ?_
    refine zj_bipush (v := 64) hC dX8_again_129 (by decide) ?_
    refine zj_icmp_ge 222 hC dX8_again_131 (by decide) (fun c36 => ?_) (fun c36 => ?_)
    · have hf := z_iteT hf c36
      refine zj_iconst (v := 0) hC dX8_again_222 (by decide) ?_
      refine zj_istore (lv1 := [(5, .int 0), (0, .ref (q 0)), (4, .int x4)]) hC dX8_again_223 (by decide) rfl ?_
      exact zj_sub hC [1, 2, 0] rfl (hJ225 x4 0 g hf)
    · have hf := z_iteF hf c36
      refine zj_aload_n 0 hC dX8_again_134 rfl ?_
      refine mg_0_3 hC hX8 (List.mem_of_getElem? (i := 10) rfl) dX8_again_135 ?_
      refine zj_iload 2 hC dX8_again_138 rfl ?_
      refine zj_aload_n 0 hC dX8_again_140 rfl ?_
      refine mg_0_16 hC hX8 (List.mem_of_getElem? (i := 11) rfl) dX8_again_141 ?_
      refine zj_iload 2 hC dX8_again_144 rfl ?_
      obtain ⟨hq37, hf⟩ := z_ckE hf
      refine ma_13 hC hq37 dX8_again_146 ?_
      obtain ⟨hq38, hf⟩ := z_ckE hf
      refine ms_1 hC hq38 dX8_again_147 (fun g39 eg39 => ?_)
      have hf := z_letE hf eg39
      refine zj_aload_n 0 hC dX8_again_148 rfl ?_
      refine mg_0_5 hC hX8 (List.mem_of_getElem? (i := 12) rfl) dX8_again_149 ?_
      refine zj_iload 2 hC dX8_again_152 rfl ?_
      refine zj_aload_n 0 hC dX8_again_154 rfl ?_
      refine mg_0_17 hC hX8 (List.mem_of_getElem? (i := 13) rfl) dX8_again_155 ?_
      refine zj_iload 2 hC dX8_again_158 rfl ?_
      obtain ⟨hq40, hf⟩ := z_ckE hf
      refine ma_14 hC hq40 dX8_again_160 ?_
      obtain ⟨hq41, hf⟩ := z_ckE hf
      refine ms_3 hC hq41 dX8_again_161 (fun g42 eg42 => ?_)
      have hf := z_letE hf eg42
      refine zj_aload_n 0 hC dX8_again_162 rfl ?_
      refine mg_0_10 hC hX8 (List.mem_of_getElem? (i := 14) rfl) dX8_again_163 ?_
      refine zj_iload 2 hC dX8_again_166 rfl ?_
      refine zj_aload_n 0 hC dX8_again_168 rfl ?_
      refine mg_0_18 hC hX8 (List.mem_of_getElem? (i := 15) rfl) dX8_again_169 ?_
      refine zj_iload 2 hC dX8_again_172 rfl ?_
      obtain ⟨hq43, hf⟩ := z_ckE hf
      refine ma_15 hC hq43 dX8_again_174 ?_
      obtain ⟨hq44, hf⟩ := z_ckE hf
      refine ms_8 hC hq44 dX8_again_175 (fun g45 eg45 => ?_)
      have hf := z_letE hf eg45
      refine zj_aload_n 0 hC dX8_again_176 rfl ?_
      refine mg_0_4 hC hX8 (List.mem_of_getElem? (i := 16) rfl) dX8_again_177 ?_
      refine zj_iload 2 hC dX8_again_180 rfl ?_
      refine zj_iconst (v := 0) hC dX8_again_182 (by decide) ?_
      obtain ⟨hq46, hf⟩ := z_ckE hf
      refine ms_2 hC hq46 dX8_again_183 (fun g47 eg47 => ?_)
      have hf := z_letE hf eg47
      refine zj_aload_n 0 hC dX8_again_184 rfl ?_
      refine mg_0_6 hC hX8 (List.mem_of_getElem? (i := 17) rfl) dX8_again_185 ?_
      refine zj_iload 2 hC dX8_again_188 rfl ?_
      refine zj_iconst (v := 0) hC dX8_again_190 (by decide) ?_
      obtain ⟨hq48, hf⟩ := z_ckE hf
      refine ms_4 hC hq48 dX8_again_191 (fun g49 eg49 => ?_)
      have hf := z_letE hf eg49
      refine zj_aload_n 0 hC dX8_again_192 rfl ?_
      refine mg_0_7 hC hX8 (List.mem_of_getElem? (i := 18) rfl) dX8_again_193 ?_
      refine zj_iload 2 hC dX8_again_196 rfl ?_
      refine zj_iconst (v := 0) hC dX8_again_198 (by decide) ?_
      obtain ⟨hq50, hf⟩ := z_ckE hf
      refine ms_5 hC hq50 dX8_again_199 (fun g51 eg51 => ?_)
      have hf := z_letE hf eg51
      refine zj_aload_n 0 hC dX8_again_200 rfl ?_
      refine mg_0_11 hC hX8 (List.mem_of_getElem? (i := 19) rfl) dX8_again_201 ?_
      refine zj_iload 2 hC dX8_again_204 rfl ?_
      refine zj_iconst (v := 0) hC dX8_again_206 (by decide) ?_
      obtain ⟨hq52, hf⟩ := z_ckE hf
      refine ms_9 hC hq52 dX8_again_207 (fun g53 eg53 => ?_)
      have hf := z_letE hf eg53
      refine zj_aload_n 0 hC dX8_again_208 rfl ?_
      refine mg_0_12 hC hX8 (List.mem_of_getElem? (i := 20) rfl) dX8_again_209 ?_
      refine zj_iload 2 hC dX8_again_212 rfl ?_
      refine zj_iconst (v := (-1)) hC dX8_again_214 (by decide) ?_
      obtain ⟨hq54, hf⟩ := z_ckE hf
      refine ms_10 hC hq54 dX8_again_215 (fun g55 eg55 => ?_)
      have hf := z_letE hf eg55
      refine zj_iinc (lv1 := fun v => [(5, .int v), (0, .ref (q 0)), (4, .int x4)]) 2 hC dX8_again_216 rfl (by decide) (fun _ => rfl) (fun y56 ey56 => ?_)
      have hf := z_letE hf (show y56 = x5 + 1 from ey56)
      refine zj_goto 127 hC dX8_again_219 (by decide) ?_
      exact zj_sub hC [1, 2, 0] rfl (hk127 (x4, y56, g55) hf)
  have hJ63 : ∀ (x1 : Int32) (x2 : Int32) (x3 : Int32) (x4 : Int32) (x5 : Int32) (g : z_G), fM_X8_again_63_go x1 x2 x3 x4 x5 g = some (r, g') → J 63 [(0, .ref (q 0)), (1, .int x1), (2, .int x2), (3, .int x3), (4, .int x4), (5, .int x5)] [] g := by
    intro x1 x2 x3 x4 x5 g hf
    refine z_loopE (P := fun w : Int32 × Int32 × Int32 × Int32 × Int32 × z_G => J 63 [(0, .ref (q 0)), (1, .int w.1), (2, .int w.2.1), (3, .int w.2.2.1), (4, .int w.2.2.2.1), (5, .int w.2.2.2.2.1)] [] w.2.2.2.2.2) (fun k63 hk63 w hf => ?_) z_fuel (x1, x2, x3, x4, x5, g) hf
    obtain ⟨x1, x2, x3, x4, x5, g⟩ := w
    have hf : fM_X8_again_63 k63 x1 x2 x3 x4 x5 g = some (r, g') := hf
    show J 63 [(0, .ref (q 0)), (1, .int x1), (2, .int x2), (3, .int x3), (4, .int x4), (5, .int x5)] [] g
    unfold fM_X8_again_63 at hf
    refine zj_iload 5 hC dX8_again_63 rfl ?_
    refine zj_iload 4 hC dX8_again_65 rfl ?_
    refine zj_icmp_ge 124 hC dX8_again_67 (by decide) (fun c57 => ?_) (fun c57 => ?_)
    · have hf := z_iteT hf c57
      refine zj_iconst (v := 0) hC dX8_again_124 (by decide) ?_
      refine zj_istore (lv1 := [(5, .int 0), (0, .ref (q 0)), (1, .int x1), (2, .int x2), (3, .int x3), (4, .int x4)]) hC dX8_again_125 (by decide) rfl ?_
      exact zj_sub hC [1, 5, 0] rfl (hJ127 x4 0 g hf)
    · have hf := z_iteF hf c57
      refine zj_aload_n 0 hC dX8_again_70 rfl ?_
      refine mg_0_38 hC hX8 (List.mem_of_getElem? (i := 6) rfl) dX8_again_71 ?_
      refine zj_iload 5 hC dX8_again_74 rfl ?_
      refine zj_iload 5 hC dX8_again_76 rfl ?_
      refine zj_iload_n 1 hC dX8_again_78 rfl ?_
      refine zj_icmp_ne 86 hC dX8_again_79 (by decide) (fun c58 => ?_) (fun c58 => ?_)
      · have hf := z_iteF hf c58
        refine zj_aload_n 0 hC dX8_again_86 rfl ?_
        refine mg_0_30 hC hX8 (List.mem_of_getElem? (i := 7) rfl) dX8_again_87 ?_
        refine zj_iload 5 hC dX8_again_90 rfl ?_
        obtain ⟨hq59, hf⟩ := z_ckE hf
        refine ma_20 hC hq59 dX8_again_92 ?_
        exact (hJ93 k63 hk63 (g 20 (Int32.toNatClampNeg x5)) x5 x1 x2 x3 x4 x5 g hf)
      · have hf := z_iteT hf c58
        refine zj_iload_n 2 hC dX8_again_82 rfl ?_
        refine zj_goto 93 hC dX8_again_83 (by decide) ?_
        exact (hJ93 k63 hk63 x2 x5 x1 x2 x3 x4 x5 g hf)
  unfold fM_X8_again at hf
  refine zj_aload_n 0 hC dX8_again_0 rfl ?_
  refine zj_iconst (v := 0) hC dX8_again_1 (by decide) ?_
  refine mp_0_0 hC hX8 (List.mem_of_getElem? (i := 1) rfl) dX8_again_2 (fun g60 eg60 => ?_)
  have hf := z_letE hf eg60
  refine zj_aload_n 0 hC dX8_again_5 rfl ?_
  refine mg_0_20 hC hX8 (List.mem_of_getElem? (i := 2) rfl) dX8_again_6 ?_
  refine zj_if_eq 52 hC dX8_again_9 (by decide) (fun c61 => ?_) (fun c61 => ?_)
  · have hf := z_iteT hf c61
    exact zj_sub hC [] rfl (hJ52 g60 hf)
  · have hf := z_iteF hf c61
    refine zj_iload_n 1 hC dX8_again_12 rfl ?_
    refine zj_i2l hC dX8_again_13 ?_
    refine zj_lconst (v := 0) hC dX8_again_14 (by decide) ?_
    refine zj_aload_n 0 hC dX8_again_15 rfl ?_
    refine mg_0_21 hC hX8 (List.mem_of_getElem? (i := 3) rfl) dX8_again_16 ?_
    refine zj_iconst (v := 1) hC dX8_again_19 (by decide) ?_
    refine zj_isub hC dX8_again_20 ?_
    refine zj_i2l hC dX8_again_21 ?_
    obtain ⟨r62, g63, hq64, hf⟩ := z_bindE hf
    refine zj_callSi [.long ((a0 : Int32).toInt64), .long 0, .long (((g60 0 21) - 1 : Int32).toInt64)] hC (cM_X8_in l dC dI ca q Zt hZt ((a0 : Int32).toInt64) 0 (((g60 0 21) - 1 : Int32).toInt64) g60 r62 g63 hq64) gX8_again_X8_in rfl nM_X8_in ⟨Nat.le_of_ble_eq_true rfl, Nat.le_of_ble_eq_true rfl⟩ rfl (Nat.le_of_ble_eq_true rfl) dX8_again_22 rfl ?_
    refine zj_if_eq 52 hC dX8_again_25 (by decide) (fun c65 => ?_) (fun c65 => ?_)
    · have hf := z_iteT hf c65
      exact zj_sub hC [] rfl (hJ52 g63 hf)
    · have hf := z_iteF hf c65
      refine zj_iload_n 2 hC dX8_again_28 rfl ?_
      refine zj_i2l hC dX8_again_29 ?_
      refine zj_lconst (v := 0) hC dX8_again_30 (by decide) ?_
      refine zj_ldc2 (v := 9) hC (List.mem_of_getElem? (i := 4) rfl) dX8_again_31 ?_
      obtain ⟨r66, g67, hq68, hf⟩ := z_bindE hf
      refine zj_callSi [.long ((a1 : Int32).toInt64), .long 0, .long 9] hC (cM_X8_in l dC dI ca q Zt hZt ((a1 : Int32).toInt64) 0 9 g63 r66 g67 hq68) gX8_again_X8_in rfl nM_X8_in ⟨Nat.le_of_ble_eq_true rfl, Nat.le_of_ble_eq_true rfl⟩ rfl (Nat.le_of_ble_eq_true rfl) dX8_again_34 rfl ?_
      refine zj_if_eq 52 hC dX8_again_37 (by decide) (fun c69 => ?_) (fun c69 => ?_)
      · have hf := z_iteT hf c69
        exact zj_sub hC [] rfl (hJ52 g67 hf)
      · have hf := z_iteF hf c69
        refine zj_iload_n 3 hC dX8_again_40 rfl ?_
        refine zj_i2l hC dX8_again_41 ?_
        refine zj_lconst (v := 0) hC dX8_again_42 (by decide) ?_
        refine zj_ldc2 (v := 3) hC (List.mem_of_getElem? (i := 5) rfl) dX8_again_43 ?_
        obtain ⟨r70, g71, hq72, hf⟩ := z_bindE hf
        refine zj_callSi [.long ((a2 : Int32).toInt64), .long 0, .long 3] hC (cM_X8_in l dC dI ca q Zt hZt ((a2 : Int32).toInt64) 0 3 g67 r70 g71 hq72) gX8_again_X8_in rfl nM_X8_in ⟨Nat.le_of_ble_eq_true rfl, Nat.le_of_ble_eq_true rfl⟩ rfl (Nat.le_of_ble_eq_true rfl) dX8_again_46 rfl ?_
        refine zj_if_ne 54 hC dX8_again_49 (by decide) (fun c73 => ?_) (fun c73 => ?_)
        · have hf := z_iteF hf c73
          refine zj_aload_n 0 hC dX8_again_54 rfl ?_
          refine mg_0_21 hC hX8 (List.mem_of_getElem? (i := 3) rfl) dX8_again_55 ?_
          refine zj_top (fun y74 ey74 => ?_)
          have hf := z_letE hf ey74
          refine zj_istore (lv1 := [(4, .int y74), (0, .ref (q 0)), (1, .int a0), (2, .int a1), (3, .int a2)]) hC dX8_again_58 (by decide) rfl ?_
          refine zj_iconst (v := 0) hC dX8_again_60 (by decide) ?_
          refine zj_istore (lv1 := [(5, .int 0), (4, .int y74), (0, .ref (q 0)), (1, .int a0), (2, .int a1), (3, .int a2)]) hC dX8_again_61 (by decide) rfl ?_
          exact zj_sub hC [2, 3, 4, 5, 1, 0] rfl (hJ63 a0 a1 a2 y74 0 g71 hf)
        · have hf := z_iteT hf c73
          exact zj_sub hC [] rfl (hJ52 g71 hf)

def fM_X8_rake_41 (k41 : Int32 × Int32 × z_G → Option (Int32 × z_G)) (x1 : Int32) (x2 : Int32) (g : z_G) : Option (Int32 × z_G) := (if (g 0 13) ≤ x2 then some (x1, g) else z_ck x2 12 (z_let (z_up g 12 (Int32.toNatClampNeg x2) (vp_nar .boolean 0)) (fun g3 => z_let (x2 + 1) (fun y4 => k41 (x1, y4, g3)))))
def fM_X8_rake_41_go (x1 : Int32) (x2 : Int32) (g : z_G) : Option (Int32 × z_G) := z_loop (fun k (w : Int32 × Int32 × z_G) => fM_X8_rake_41 k w.1 w.2.1 w.2.2) z_fuel (x1, x2, g)
def fM_X8_rake (g : z_G) : Option (Int32 × z_G) := z_let (z_up g 0 0 0) (fun g5 => (if (g5 0 20) = 0 then some ((-1), g5) else z_bind (fM_X8_sum_r2 g5) (fun r7 g8 => z_let (r7 / 25) (fun y10 => z_let (z_up g8 0 25 ((g8 0 25) + y10)) (fun g11 => z_bind (fM_X8_empties g11) (fun r12 g13 => fM_X8_rake_41_go y10 0 g13))))))
theorem nM_X8_rake : yX8_rake.cls = RX8 ∧ yX8_rake.cls ≠ "java/lang/invoke/MethodHandle" ∧ yX8_rake.cls ≠ "java/lang/invoke/VarHandle" ∧ (parseMethodDescriptor yX8_rake.desc).map (fun d => d.parameters.length) = some 0 := by decide +kernel
set_option maxRecDepth 100000 in
set_option maxHeartbeats 4000000 in
theorem cM_X8_rake (l : Launch) (dC : Nat → ClassId) (dI : Nat → Nat → Nat) (ca : Nat → ClassId) (q : Nat → Nat) (Zt : z_ZT) (hZt : z_Zok Zt) (g : z_G) (r : Int32) (g' : z_G) (hf : fM_X8_rake g = some (r, g')) : z_C l yX8_rake wsX8_rake { frames := 1, cells := 0, slots := 0, locals := 22 } (dC, dI) (tyM ca) (wM ca q) Zt [.ref (q 0)] g (some r) g' := by
  refine z_enter (wM_ok ca q) hZt (by decide +kernel) rfl (Nat.le_of_ble_eq_true rfl) (fun J hC => ?_)
  have hC : z_Cx J l cX8_rake 3 wsX8_rake RX8 (some .int) { frames := 1, cells := 0, slots := 0, locals := 22 } (dC, dI) (tyM ca) (wM ca q) Zt (z_QI (dC, dI) (tyM ca) (wM ca q) (some r) g') z_X0 := hC
  show J 0 [(0, .ref (q 0))] [] g
  have hX8 : ∀ w ∈ wsX80, w ∈ wsX8_rake := fun _ h => List.mem_cons_of_mem _ (List.mem_append_right _ (h))
  have hJ41 : ∀ (x1 : Int32) (x2 : Int32) (g : z_G), fM_X8_rake_41_go x1 x2 g = some (r, g') → J 41 [(0, .ref (q 0)), (1, .int x1), (2, .int x2)] [] g := by
    intro x1 x2 g hf
    refine z_loopE (P := fun w : Int32 × Int32 × z_G => J 41 [(0, .ref (q 0)), (1, .int w.1), (2, .int w.2.1)] [] w.2.2) (fun k41 hk41 w hf => ?_) z_fuel (x1, x2, g) hf
    obtain ⟨x1, x2, g⟩ := w
    have hf : fM_X8_rake_41 k41 x1 x2 g = some (r, g') := hf
    show J 41 [(0, .ref (q 0)), (1, .int x1), (2, .int x2)] [] g
    unfold fM_X8_rake_41 at hf
    refine zj_iload_n 2 hC dX8_rake_41 rfl ?_
    refine zj_aload_n 0 hC dX8_rake_42 rfl ?_
    refine mg_0_13 hC hX8 (List.mem_of_getElem? (i := 5) rfl) dX8_rake_43 ?_
    refine zj_icmp_ge 62 hC dX8_rake_46 (by decide) (fun c1 => ?_) (fun c1 => ?_)
    · have hf := z_iteT hf c1
      refine zj_iload_n 1 hC dX8_rake_62 rfl ?_
      exact zj_ireturn hC hf dX8_rake_63
    · have hf := z_iteF hf c1
      refine zj_aload_n 0 hC dX8_rake_49 rfl ?_
      refine mg_0_15 hC hX8 (List.mem_of_getElem? (i := 6) rfl) dX8_rake_50 ?_
      refine zj_iload_n 2 hC dX8_rake_53 rfl ?_
      refine zj_iconst (v := 0) hC dX8_rake_54 (by decide) ?_
      obtain ⟨hq2, hf⟩ := z_ckE hf
      refine ms_12 hC hq2 dX8_rake_55 (fun g3 eg3 => ?_)
      have hf := z_letE hf eg3
      refine zj_iinc (lv1 := fun v => [(2, .int v), (0, .ref (q 0)), (1, .int x1)]) 2 hC dX8_rake_56 rfl (by decide) (fun _ => rfl) (fun y4 ey4 => ?_)
      have hf := z_letE hf (show y4 = x2 + 1 from ey4)
      refine zj_goto 41 hC dX8_rake_59 (by decide) ?_
      exact zj_sub hC [1, 2, 0] rfl (hk41 (x1, y4, g3) hf)
  unfold fM_X8_rake at hf
  refine zj_aload_n 0 hC dX8_rake_0 rfl ?_
  refine zj_iconst (v := 0) hC dX8_rake_1 (by decide) ?_
  refine mp_0_0 hC hX8 (List.mem_of_getElem? (i := 1) rfl) dX8_rake_2 (fun g5 eg5 => ?_)
  have hf := z_letE hf eg5
  refine zj_aload_n 0 hC dX8_rake_5 rfl ?_
  refine mg_0_20 hC hX8 (List.mem_of_getElem? (i := 2) rfl) dX8_rake_6 ?_
  refine zj_if_ne 14 hC dX8_rake_9 (by decide) (fun c6 => ?_) (fun c6 => ?_)
  · have hf := z_iteF hf c6
    refine zj_aload_n 0 hC dX8_rake_14 rfl ?_
    refine mg_0_4 hC hX8 (List.mem_of_getElem? (i := 3) rfl) dX8_rake_15 ?_
    obtain ⟨r7, g8, hq9, hf⟩ := z_bindE hf
    refine zj_callSi [.ref (q 2)] hC (cM_X8_sum_r2 l dC dI ca q Zt hZt g5 r7 g8 hq9) gX8_rake_X8_sum rfl nM_X8_sum_r2 ⟨Nat.le_of_ble_eq_true rfl, Nat.le_of_ble_eq_true rfl⟩ rfl (Nat.le_of_ble_eq_true rfl) dX8_rake_18 rfl ?_
    refine zj_bipush (v := 25) hC dX8_rake_21 (by decide) ?_
    refine zj_idiv hC dX8_rake_23 (by decide) ?_
    refine zj_top (fun y10 ey10 => ?_)
    have hf := z_letE hf ey10
    refine zj_istore_n (lv1 := [(1, .int y10), (0, .ref (q 0))]) hC dX8_rake_24 (by decide) rfl ?_
    refine zj_aload_n 1 hC dX8_rake_25 rfl ?_
    refine zj_dup hC dX8_rake_26 rfl ?_
    refine mg_0_25 hC hX8 (List.mem_of_getElem? (i := 4) rfl) dX8_rake_27 ?_
    refine zj_iload_n 0 hC dX8_rake_30 rfl ?_
    refine zj_iadd hC dX8_rake_31 ?_
    refine mp_0_25 hC hX8 (List.mem_of_getElem? (i := 4) rfl) dX8_rake_32 (fun g11 eg11 => ?_)
    have hf := z_letE hf eg11
    refine zj_aload_n 1 hC dX8_rake_35 rfl ?_
    obtain ⟨r12, g13, hq14, hf⟩ := z_bindE hf
    refine zj_callVv [] hC (cM_X8_empties l dC dI ca q Zt hZt g11 r12 g13 hq14) gX8_rake_X8_empties rfl nM_X8_empties ⟨Nat.le_of_ble_eq_true rfl, Nat.le_of_ble_eq_true rfl⟩ 0 mo_0 rfl rfl rfl (Nat.le_of_ble_eq_true rfl) dX8_rake_36 rfl ?_
    refine zj_iconst (v := 0) hC dX8_rake_39 (by decide) ?_
    refine zj_istore_n (lv1 := [(2, .int 0), (1, .int y10), (0, .ref (q 0))]) hC dX8_rake_40 (by decide) rfl ?_
    exact zj_sub hC [2, 1, 0] rfl (hJ41 y10 0 g13 hf)
  · have hf := z_iteT hf c6
    refine zj_iconst (v := (-1)) hC dX8_rake_12 (by decide) ?_
    exact zj_ireturn hC hf dX8_rake_13

def fM_X8_count_110 (s0 : Int32) (g : z_G) : Option (Int32 × z_G) := some (s0, g)
def fM_X8_count (a0 : Int32) (g : z_G) : Option (Int32 × z_G) := z_let (z_up g 0 0 0) (fun g1 => (if a0 = 0 then some (g1 0 1, g1) else (if a0 = 1 then some (g1 0 2, g1) else (if a0 = 2 then some (g1 0 13, g1) else (if a0 = 3 then z_bind (fM_X8_opened g1) (fun r6 g7 => some (r6, g7)) else (if a0 = 4 then some (g1 0 42, g1) else (if a0 = 5 then some (g1 0 21, g1) else (if a0 = 6 then (if (g1 0 20) = 0 then fM_X8_count_110 0 g1 else fM_X8_count_110 1 g1) else (if a0 = 7 then z_bind (fM_X8_burning g1) (fun r14 g15 => some (r14, g15)) else (if a0 = 8 then some (g1 0 26, g1) else (if a0 = 9 then some (g1 0 52, g1) else (if a0 = 10 then some (g1 0 41, g1) else (if a0 = 11 then some (g1 0 25, g1) else some ((-1), g1))))))))))))))
theorem nM_X8_count : yX8_count.cls = RX8 ∧ yX8_count.cls ≠ "java/lang/invoke/MethodHandle" ∧ yX8_count.cls ≠ "java/lang/invoke/VarHandle" ∧ (parseMethodDescriptor yX8_count.desc).map (fun d => d.parameters.length) = some 1 := by decide +kernel
set_option maxRecDepth 100000 in
set_option maxHeartbeats 4000000 in
theorem cM_X8_count (l : Launch) (dC : Nat → ClassId) (dI : Nat → Nat → Nat) (ca : Nat → ClassId) (q : Nat → Nat) (Zt : z_ZT) (hZt : z_Zok Zt) (a0 : Int32) (g : z_G) (r : Int32) (g' : z_G) (hf : fM_X8_count a0 g = some (r, g')) : z_C l yX8_count wsX8_count { frames := 1, cells := 0, slots := 0, locals := 22 } (dC, dI) (tyM ca) (wM ca q) Zt [.ref (q 0), .int a0] g (some r) g' := by
  refine z_enter (wM_ok ca q) hZt (by decide +kernel) rfl (Nat.le_of_ble_eq_true rfl) (fun J hC => ?_)
  have hC : z_Cx J l cX8_count 2 wsX8_count RX8 (some .int) { frames := 1, cells := 0, slots := 0, locals := 22 } (dC, dI) (tyM ca) (wM ca q) Zt (z_QI (dC, dI) (tyM ca) (wM ca q) (some r) g') z_X0 := hC
  show J 0 [(0, .ref (q 0)), (1, .int a0)] [] g
  have hX8 : ∀ w ∈ wsX80, w ∈ wsX8_count := fun _ h => List.mem_cons_of_mem _ (List.mem_append_right _ (h))
  have hJ110 : ∀ (s0 : Int32) (g : z_G), fM_X8_count_110 s0 g = some (r, g') → J 110 [] [.int s0] g := by
    intro s0 g hf
    unfold fM_X8_count_110 at hf
    exact zj_ireturn hC hf dX8_count_110
  unfold fM_X8_count at hf
  refine zj_aload_n 0 hC dX8_count_0 rfl ?_
  refine zj_iconst (v := 0) hC dX8_count_1 (by decide) ?_
  refine mp_0_0 hC hX8 (List.mem_of_getElem? (i := 1) rfl) dX8_count_2 (fun g1 eg1 => ?_)
  have hf := z_letE hf eg1
  refine zj_iload_n 1 hC dX8_count_5 rfl ?_
  by_cases c2 : a0 = 0
  · have hf := z_iteT hf c2
    refine zj_tabIn 68 hC dX8_count_6 c2 (by decide) (by decide) rfl (by decide) ?_
    refine zj_aload_n 0 hC dX8_count_68 rfl ?_
    refine mg_0_1 hC hX8 (List.mem_of_getElem? (i := 2) rfl) dX8_count_69 ?_
    exact zj_ireturn hC hf dX8_count_72
  have hf := z_iteF hf c2
  by_cases c3 : a0 = 1
  · have hf := z_iteT hf c3
    refine zj_tabIn 73 hC dX8_count_6 c3 (by decide) (by decide) rfl (by decide) ?_
    refine zj_aload_n 0 hC dX8_count_73 rfl ?_
    refine mg_0_2 hC hX8 (List.mem_of_getElem? (i := 3) rfl) dX8_count_74 ?_
    exact zj_ireturn hC hf dX8_count_77
  have hf := z_iteF hf c3
  by_cases c4 : a0 = 2
  · have hf := z_iteT hf c4
    refine zj_tabIn 78 hC dX8_count_6 c4 (by decide) (by decide) rfl (by decide) ?_
    refine zj_aload_n 0 hC dX8_count_78 rfl ?_
    refine mg_0_13 hC hX8 (List.mem_of_getElem? (i := 4) rfl) dX8_count_79 ?_
    exact zj_ireturn hC hf dX8_count_82
  have hf := z_iteF hf c4
  by_cases c5 : a0 = 3
  · have hf := z_iteT hf c5
    refine zj_tabIn 83 hC dX8_count_6 c5 (by decide) (by decide) rfl (by decide) ?_
    refine zj_aload_n 0 hC dX8_count_83 rfl ?_
    obtain ⟨r6, g7, hq8, hf⟩ := z_bindE hf
    refine zj_callVi [] hC (cM_X8_opened l dC dI ca q Zt hZt g1 r6 g7 hq8) gX8_count_X8_opened rfl nM_X8_opened ⟨Nat.le_of_ble_eq_true rfl, Nat.le_of_ble_eq_true rfl⟩ 0 mo_0 rfl rfl rfl (Nat.le_of_ble_eq_true rfl) dX8_count_84 rfl ?_
    exact zj_ireturn hC hf dX8_count_87
  have hf := z_iteF hf c5
  by_cases c9 : a0 = 4
  · have hf := z_iteT hf c9
    refine zj_tabIn 88 hC dX8_count_6 c9 (by decide) (by decide) rfl (by decide) ?_
    refine zj_aload_n 0 hC dX8_count_88 rfl ?_
    refine mg_0_42 hC hX8 (List.mem_of_getElem? (i := 5) rfl) dX8_count_89 ?_
    exact zj_ireturn hC hf dX8_count_92
  have hf := z_iteF hf c9
  by_cases c10 : a0 = 5
  · have hf := z_iteT hf c10
    refine zj_tabIn 93 hC dX8_count_6 c10 (by decide) (by decide) rfl (by decide) ?_
    refine zj_aload_n 0 hC dX8_count_93 rfl ?_
    refine mg_0_21 hC hX8 (List.mem_of_getElem? (i := 6) rfl) dX8_count_94 ?_
    exact zj_ireturn hC hf dX8_count_97
  have hf := z_iteF hf c10
  by_cases c11 : a0 = 6
  · have hf := z_iteT hf c11
    refine zj_tabIn 98 hC dX8_count_6 c11 (by decide) (by decide) rfl (by decide) ?_
    refine zj_aload_n 0 hC dX8_count_98 rfl ?_
    refine mg_0_20 hC hX8 (List.mem_of_getElem? (i := 7) rfl) dX8_count_99 ?_
    refine zj_if_eq 109 hC dX8_count_102 (by decide) (fun c12 => ?_) (fun c12 => ?_)
    · have hf := z_iteT hf c12
      refine zj_iconst (v := 0) hC dX8_count_109 (by decide) ?_
      exact zj_sub hC [] rfl (hJ110 0 g1 hf)
    · have hf := z_iteF hf c12
      refine zj_iconst (v := 1) hC dX8_count_105 (by decide) ?_
      refine zj_goto 110 hC dX8_count_106 (by decide) ?_
      exact zj_sub hC [] rfl (hJ110 1 g1 hf)
  have hf := z_iteF hf c11
  by_cases c13 : a0 = 7
  · have hf := z_iteT hf c13
    refine zj_tabIn 111 hC dX8_count_6 c13 (by decide) (by decide) rfl (by decide) ?_
    refine zj_aload_n 0 hC dX8_count_111 rfl ?_
    obtain ⟨r14, g15, hq16, hf⟩ := z_bindE hf
    refine zj_callVi [] hC (cM_X8_burning l dC dI ca q Zt hZt g1 r14 g15 hq16) gX8_count_X8_burning rfl nM_X8_burning ⟨Nat.le_of_ble_eq_true rfl, Nat.le_of_ble_eq_true rfl⟩ 0 mo_0 rfl rfl rfl (Nat.le_of_ble_eq_true rfl) dX8_count_112 rfl ?_
    exact zj_ireturn hC hf dX8_count_115
  have hf := z_iteF hf c13
  by_cases c17 : a0 = 8
  · have hf := z_iteT hf c17
    refine zj_tabIn 116 hC dX8_count_6 c17 (by decide) (by decide) rfl (by decide) ?_
    refine zj_aload_n 0 hC dX8_count_116 rfl ?_
    refine mg_0_26 hC hX8 (List.mem_of_getElem? (i := 8) rfl) dX8_count_117 ?_
    exact zj_ireturn hC hf dX8_count_120
  have hf := z_iteF hf c17
  by_cases c18 : a0 = 9
  · have hf := z_iteT hf c18
    refine zj_tabIn 121 hC dX8_count_6 c18 (by decide) (by decide) rfl (by decide) ?_
    refine zj_aload_n 0 hC dX8_count_121 rfl ?_
    refine mg_0_52 hC hX8 (List.mem_of_getElem? (i := 9) rfl) dX8_count_122 ?_
    exact zj_ireturn hC hf dX8_count_125
  have hf := z_iteF hf c18
  by_cases c19 : a0 = 10
  · have hf := z_iteT hf c19
    refine zj_tabIn 126 hC dX8_count_6 c19 (by decide) (by decide) rfl (by decide) ?_
    refine zj_aload_n 0 hC dX8_count_126 rfl ?_
    refine mg_0_41 hC hX8 (List.mem_of_getElem? (i := 10) rfl) dX8_count_127 ?_
    exact zj_ireturn hC hf dX8_count_130
  have hf := z_iteF hf c19
  by_cases c20 : a0 = 11
  · have hf := z_iteT hf c20
    refine zj_tabIn 131 hC dX8_count_6 c20 (by decide) (by decide) rfl (by decide) ?_
    refine zj_aload_n 0 hC dX8_count_131 rfl ?_
    refine mg_0_25 hC hX8 (List.mem_of_getElem? (i := 11) rfl) dX8_count_132 ?_
    exact zj_ireturn hC hf dX8_count_135
  have hf := z_iteF hf c20
  refine zj_tabOut 136 hC dX8_count_6 (by have ec2 := lv_neT (a := 0) c2 rfl; have ec3 := lv_neT (a := 1) c3 rfl; have ec4 := lv_neT (a := 2) c4 rfl; have ec5 := lv_neT (a := 3) c5 rfl; have ec9 := lv_neT (a := 4) c9 rfl; have ec10 := lv_neT (a := 5) c10 rfl; have ec11 := lv_neT (a := 6) c11 rfl; have ec13 := lv_neT (a := 7) c13 rfl; have ec17 := lv_neT (a := 8) c17 rfl; have ec18 := lv_neT (a := 9) c18 rfl; have ec19 := lv_neT (a := 10) c19 rfl; have ec20 := lv_neT (a := 11) c20 rfl; omega) (by decide) ?_
  refine zj_iconst (v := (-1)) hC dX8_count_136 (by decide) ?_
  exact zj_ireturn hC hf dX8_count_137

def fM_X8_cell_26  (g : z_G) : Option (Int32 × z_G) := z_bind (fM_X8_refuse g) (fun r1 g2 => some (r1, g2))
def fM_X8_cell_135 (s0 : Int32) (g : z_G) : Option (Int32 × z_G) := some (s0, g)
def fM_X8_cell_156 (s0 : Int32) (g : z_G) : Option (Int32 × z_G) := some (s0, g)
def fM_X8_cell (a0 : Int32) (a1 : Int32) (a2 : Int32) (g : z_G) : Option (Int32 × z_G) := z_let (z_up g 0 0 0) (fun g4 => z_bind (fM_X8_isCell a0 a1 g4) (fun r5 g6 => (if r5 = 0 then fM_X8_cell_26 g6 else z_bind (fM_X8_in ((a2 : Int32).toInt64) 0 8 g6) (fun r9 g10 => (if r9 = 0 then fM_X8_cell_26 g10 else z_let ((a1 * 8) + a0) (fun y13 => (if a2 = 0 then z_ck y13 64 (some (g10 1 (Int32.toNatClampNeg y13), g10)) else (if a2 = 1 then z_ck y13 64 (some (g10 2 (Int32.toNatClampNeg y13), g10)) else (if a2 = 2 then z_ck y13 64 (some (g10 3 (Int32.toNatClampNeg y13), g10)) else (if a2 = 3 then z_ck y13 64 (some (g10 4 (Int32.toNatClampNeg y13), g10)) else (if a2 = 4 then z_ck y13 64 ((if (g10 5 (Int32.toNatClampNeg y13)) = 0 then fM_X8_cell_135 0 g10 else fM_X8_cell_135 1 g10)) else (if a2 = 5 then z_bind (fM_X8_isOutside y13 g10) (fun r26 g27 => (if r26 = 0 then fM_X8_cell_156 (-1) g27 else z_ck y13 64 (fM_X8_cell_156 (g27 8 (Int32.toNatClampNeg y13)) g27))) else (if a2 = 6 then z_ck y13 64 (some (g10 9 (Int32.toNatClampNeg y13), g10)) else (if a2 = 7 then z_ck y13 64 (some (g10 7 (Int32.toNatClampNeg y13), g10)) else z_ck y13 64 (some (g10 6 (Int32.toNatClampNeg y13), g10))))))))))))))))
theorem nM_X8_cell : yX8_cell.cls = RX8 ∧ yX8_cell.cls ≠ "java/lang/invoke/MethodHandle" ∧ yX8_cell.cls ≠ "java/lang/invoke/VarHandle" ∧ (parseMethodDescriptor yX8_cell.desc).map (fun d => d.parameters.length) = some 3 := by decide +kernel
set_option maxRecDepth 100000 in
set_option maxHeartbeats 4000000 in
theorem cM_X8_cell (l : Launch) (dC : Nat → ClassId) (dI : Nat → Nat → Nat) (ca : Nat → ClassId) (q : Nat → Nat) (Zt : z_ZT) (hZt : z_Zok Zt) (a0 : Int32) (a1 : Int32) (a2 : Int32) (g : z_G) (r : Int32) (g' : z_G) (hf : fM_X8_cell a0 a1 a2 g = some (r, g')) : z_C l yX8_cell wsX8_cell { frames := 2, cells := 0, slots := 0, locals := 47 } (dC, dI) (tyM ca) (wM ca q) Zt [.ref (q 0), .int a0, .int a1, .int a2] g (some r) g' := by
  refine z_enter (wM_ok ca q) hZt (by decide +kernel) rfl (Nat.le_of_ble_eq_true rfl) (fun J hC => ?_)
  have hC : z_Cx J l cX8_cell 5 wsX8_cell RX8 (some .int) { frames := 2, cells := 0, slots := 0, locals := 47 } (dC, dI) (tyM ca) (wM ca q) Zt (z_QI (dC, dI) (tyM ca) (wM ca q) (some r) g') z_X0 := hC
  show J 0 [(0, .ref (q 0)), (1, .int a0), (2, .int a1), (3, .int a2)] [] g
  have hX8 : ∀ w ∈ wsX80, w ∈ wsX8_cell := fun _ h => List.mem_cons_of_mem _ (List.mem_append_right _ (h))
  have hJ26 : ∀ (g : z_G), fM_X8_cell_26 g = some (r, g') → J 26 [(0, .ref (q 0))] [] g := by
    intro g hf
    unfold fM_X8_cell_26 at hf
    refine zj_aload_n 0 hC dX8_cell_26 rfl ?_
    obtain ⟨r1, g2, hq3, hf⟩ := z_bindE hf
    refine zj_callVi [] hC (cM_X8_refuse l dC dI ca q Zt hZt g r1 g2 hq3) gX8_cell_X8_refuse rfl nM_X8_refuse ⟨Nat.le_of_ble_eq_true rfl, Nat.le_of_ble_eq_true rfl⟩ 0 mo_0 rfl rfl rfl (Nat.le_of_ble_eq_true rfl) dX8_cell_27 rfl ?_
    exact zj_ireturn hC hf dX8_cell_30
  have hJ135 : ∀ (s0 : Int32) (g : z_G), fM_X8_cell_135 s0 g = some (r, g') → J 135 [] [.int s0] g := by
    intro s0 g hf
    unfold fM_X8_cell_135 at hf
    exact zj_ireturn hC hf dX8_cell_135
  have hJ156 : ∀ (s0 : Int32) (g : z_G), fM_X8_cell_156 s0 g = some (r, g') → J 156 [] [.int s0] g := by
    intro s0 g hf
    unfold fM_X8_cell_156 at hf
    exact zj_ireturn hC hf dX8_cell_156
  unfold fM_X8_cell at hf
  refine zj_aload_n 0 hC dX8_cell_0 rfl ?_
  refine zj_iconst (v := 0) hC dX8_cell_1 (by decide) ?_
  refine mp_0_0 hC hX8 (List.mem_of_getElem? (i := 1) rfl) dX8_cell_2 (fun g4 eg4 => ?_)
  have hf := z_letE hf eg4
  refine zj_aload_n 0 hC dX8_cell_5 rfl ?_
  refine zj_iload_n 1 hC dX8_cell_6 rfl ?_
  refine zj_iload_n 2 hC dX8_cell_7 rfl ?_
  obtain ⟨r5, g6, hq7, hf⟩ := z_bindE hf
  refine zj_callVi [.int a0, .int a1] hC (cM_X8_isCell l dC dI ca q Zt hZt a0 a1 g4 r5 g6 hq7) gX8_cell_X8_isCell rfl nM_X8_isCell ⟨Nat.le_of_ble_eq_true rfl, Nat.le_of_ble_eq_true rfl⟩ 0 mo_0 rfl rfl rfl (Nat.le_of_ble_eq_true rfl) dX8_cell_8 rfl ?_
  refine zj_if_eq 26 hC dX8_cell_11 (by decide) (fun c8 => ?_) (fun c8 => ?_)
  · have hf := z_iteT hf c8
    exact zj_sub hC [0] rfl (hJ26 g6 hf)
  · have hf := z_iteF hf c8
    refine zj_iload_n 3 hC dX8_cell_14 rfl ?_
    refine zj_i2l hC dX8_cell_15 ?_
    refine zj_lconst (v := 0) hC dX8_cell_16 (by decide) ?_
    refine zj_ldc2 (v := 8) hC (List.mem_of_getElem? (i := 2) rfl) dX8_cell_17 ?_
    obtain ⟨r9, g10, hq11, hf⟩ := z_bindE hf
    refine zj_callSi [.long ((a2 : Int32).toInt64), .long 0, .long 8] hC (cM_X8_in l dC dI ca q Zt hZt ((a2 : Int32).toInt64) 0 8 g6 r9 g10 hq11) gX8_cell_X8_in rfl nM_X8_in ⟨Nat.le_of_ble_eq_true rfl, Nat.le_of_ble_eq_true rfl⟩ rfl (Nat.le_of_ble_eq_true rfl) dX8_cell_20 rfl ?_
    refine zj_if_ne 31 hC dX8_cell_23 (by decide) (fun c12 => ?_) (fun c12 => ?_)
    · have hf := z_iteF hf c12
      refine zj_iload_n 2 hC dX8_cell_31 rfl ?_
      refine zj_bipush (v := 8) hC dX8_cell_32 (by decide) ?_
      refine zj_imul hC dX8_cell_34 ?_
      refine zj_iload_n 1 hC dX8_cell_35 rfl ?_
      refine zj_iadd hC dX8_cell_36 ?_
      refine zj_top (fun y13 ey13 => ?_)
      have hf := z_letE hf ey13
      refine zj_istore (lv1 := [(4, .int y13), (0, .ref (q 0)), (1, .int a0), (2, .int a1), (3, .int a2)]) hC dX8_cell_37 (by decide) rfl ?_
      refine zj_iload_n 4 hC dX8_cell_39 rfl ?_
      by_cases c14 : a2 = 0
      · have hf := z_iteT hf c14
        refine zj_tabIn 88 hC dX8_cell_40 c14 (by decide) (by decide) rfl (by decide) ?_
        refine zj_aload_n 1 hC dX8_cell_88 rfl ?_
        refine mg_0_3 hC hX8 (List.mem_of_getElem? (i := 3) rfl) dX8_cell_89 ?_
        refine zj_iload 0 hC dX8_cell_92 rfl ?_
        obtain ⟨hq15, hf⟩ := z_ckE hf
        refine ma_1 hC hq15 dX8_cell_94 ?_
        exact zj_ireturn hC hf dX8_cell_95
      have hf := z_iteF hf c14
      by_cases c16 : a2 = 1
      · have hf := z_iteT hf c16
        refine zj_tabIn 96 hC dX8_cell_40 c16 (by decide) (by decide) rfl (by decide) ?_
        refine zj_aload_n 1 hC dX8_cell_96 rfl ?_
        refine mg_0_4 hC hX8 (List.mem_of_getElem? (i := 4) rfl) dX8_cell_97 ?_
        refine zj_iload 0 hC dX8_cell_100 rfl ?_
        obtain ⟨hq17, hf⟩ := z_ckE hf
        refine ma_2 hC hq17 dX8_cell_102 ?_
        exact zj_ireturn hC hf dX8_cell_103
      have hf := z_iteF hf c16
      by_cases c18 : a2 = 2
      · have hf := z_iteT hf c18
        refine zj_tabIn 104 hC dX8_cell_40 c18 (by decide) (by decide) rfl (by decide) ?_
        refine zj_aload_n 1 hC dX8_cell_104 rfl ?_
        refine mg_0_5 hC hX8 (List.mem_of_getElem? (i := 5) rfl) dX8_cell_105 ?_
        refine zj_iload 0 hC dX8_cell_108 rfl ?_
        obtain ⟨hq19, hf⟩ := z_ckE hf
        refine ma_3 hC hq19 dX8_cell_110 ?_
        exact zj_ireturn hC hf dX8_cell_111
      have hf := z_iteF hf c18
      by_cases c20 : a2 = 3
      · have hf := z_iteT hf c20
        refine zj_tabIn 112 hC dX8_cell_40 c20 (by decide) (by decide) rfl (by decide) ?_
        refine zj_aload_n 1 hC dX8_cell_112 rfl ?_
        refine mg_0_6 hC hX8 (List.mem_of_getElem? (i := 6) rfl) dX8_cell_113 ?_
        refine zj_iload 0 hC dX8_cell_116 rfl ?_
        obtain ⟨hq21, hf⟩ := z_ckE hf
        refine ma_4 hC hq21 dX8_cell_118 ?_
        exact zj_ireturn hC hf dX8_cell_119
      have hf := z_iteF hf c20
      by_cases c22 : a2 = 4
      · have hf := z_iteT hf c22
        refine zj_tabIn 120 hC dX8_cell_40 c22 (by decide) (by decide) rfl (by decide) ?_
        refine zj_aload_n 1 hC dX8_cell_120 rfl ?_
        refine mg_0_7 hC hX8 (List.mem_of_getElem? (i := 7) rfl) dX8_cell_121 ?_
        refine zj_iload 0 hC dX8_cell_124 rfl ?_
        obtain ⟨hq23, hf⟩ := z_ckE hf
        refine ma_5 hC hq23 dX8_cell_126 ?_
        refine zj_if_eq 134 hC dX8_cell_127 (by decide) (fun c24 => ?_) (fun c24 => ?_)
        · have hf := z_iteT hf c24
          refine zj_iconst (v := 0) hC dX8_cell_134 (by decide) ?_
          exact zj_sub hC [] rfl (hJ135 0 g10 hf)
        · have hf := z_iteF hf c24
          refine zj_iconst (v := 1) hC dX8_cell_130 (by decide) ?_
          refine zj_goto 135 hC dX8_cell_131 (by decide) ?_
          exact zj_sub hC [] rfl (hJ135 1 g10 hf)
      have hf := z_iteF hf c22
      by_cases c25 : a2 = 5
      · have hf := z_iteT hf c25
        refine zj_tabIn 136 hC dX8_cell_40 c25 (by decide) (by decide) rfl (by decide) ?_
        refine zj_aload_n 1 hC dX8_cell_136 rfl ?_
        refine zj_iload 0 hC dX8_cell_137 rfl ?_
        obtain ⟨r26, g27, hq28, hf⟩ := z_bindE hf
        refine zj_callVi [.int y13] hC (cM_X8_isOutside l dC dI ca q Zt hZt y13 g10 r26 g27 hq28) gX8_cell_X8_isOutside rfl nM_X8_isOutside ⟨Nat.le_of_ble_eq_true rfl, Nat.le_of_ble_eq_true rfl⟩ 0 mo_0 rfl rfl rfl (Nat.le_of_ble_eq_true rfl) dX8_cell_139 rfl ?_
        refine zj_if_eq 155 hC dX8_cell_142 (by decide) (fun c29 => ?_) (fun c29 => ?_)
        · have hf := z_iteT hf c29
          refine zj_iconst (v := (-1)) hC dX8_cell_155 (by decide) ?_
          exact zj_sub hC [] rfl (hJ156 (-1) g27 hf)
        · have hf := z_iteF hf c29
          refine zj_aload_n 1 hC dX8_cell_145 rfl ?_
          refine mg_0_10 hC hX8 (List.mem_of_getElem? (i := 8) rfl) dX8_cell_146 ?_
          refine zj_iload 0 hC dX8_cell_149 rfl ?_
          obtain ⟨hq30, hf⟩ := z_ckE hf
          refine ma_8 hC hq30 dX8_cell_151 ?_
          refine zj_goto 156 hC dX8_cell_152 (by decide) ?_
          exact zj_sub hC [] rfl (hJ156 (g27 8 (Int32.toNatClampNeg y13)) g27 hf)
      have hf := z_iteF hf c25
      by_cases c31 : a2 = 6
      · have hf := z_iteT hf c31
        refine zj_tabIn 157 hC dX8_cell_40 c31 (by decide) (by decide) rfl (by decide) ?_
        refine zj_aload_n 1 hC dX8_cell_157 rfl ?_
        refine mg_0_11 hC hX8 (List.mem_of_getElem? (i := 9) rfl) dX8_cell_158 ?_
        refine zj_iload 0 hC dX8_cell_161 rfl ?_
        obtain ⟨hq32, hf⟩ := z_ckE hf
        refine ma_9 hC hq32 dX8_cell_163 ?_
        exact zj_ireturn hC hf dX8_cell_164
      have hf := z_iteF hf c31
      by_cases c33 : a2 = 7
      · have hf := z_iteT hf c33
        refine zj_tabIn 165 hC dX8_cell_40 c33 (by decide) (by decide) rfl (by decide) ?_
        refine zj_aload_n 1 hC dX8_cell_165 rfl ?_
        refine mg_0_9 hC hX8 (List.mem_of_getElem? (i := 10) rfl) dX8_cell_166 ?_
        refine zj_iload 0 hC dX8_cell_169 rfl ?_
        obtain ⟨hq34, hf⟩ := z_ckE hf
        refine ma_7 hC hq34 dX8_cell_171 ?_
        exact zj_ireturn hC hf dX8_cell_172
      have hf := z_iteF hf c33
      refine zj_tabOut 173 hC dX8_cell_40 (by have ec14 := lv_neT (a := 0) c14 rfl; have ec16 := lv_neT (a := 1) c16 rfl; have ec18 := lv_neT (a := 2) c18 rfl; have ec20 := lv_neT (a := 3) c20 rfl; have ec22 := lv_neT (a := 4) c22 rfl; have ec25 := lv_neT (a := 5) c25 rfl; have ec31 := lv_neT (a := 6) c31 rfl; have ec33 := lv_neT (a := 7) c33 rfl; omega) (by decide) ?_
      refine zj_aload_n 1 hC dX8_cell_173 rfl ?_
      refine mg_0_8 hC hX8 (List.mem_of_getElem? (i := 11) rfl) dX8_cell_174 ?_
      refine zj_iload 0 hC dX8_cell_177 rfl ?_
      obtain ⟨hq35, hf⟩ := z_ckE hf
      refine ma_6 hC hq35 dX8_cell_179 ?_
      exact zj_ireturn hC hf dX8_cell_180
    · have hf := z_iteT hf c12
      exact zj_sub hC [0] rfl (hJ26 g10 hf)

def fM_X8_sum_r7_4 (k4 : Int32 × Int32 × z_G → Option (Int32 × z_G)) (x1 : Int32) (x2 : Int32) (g : z_G) : Option (Int32 × z_G) := (if 64 ≤ x2 then some (x1, g) else z_ck x2 64 (z_let (x1 + (g 7 (Int32.toNatClampNeg x2))) (fun y3 => z_let (x2 + 1) (fun y4 => k4 (y3, y4, g)))))
def fM_X8_sum_r7_4_go (x1 : Int32) (x2 : Int32) (g : z_G) : Option (Int32 × z_G) := z_loop (fun k (w : Int32 × Int32 × z_G) => fM_X8_sum_r7_4 k w.1 w.2.1 w.2.2) z_fuel (x1, x2, g)
def fM_X8_sum_r7 (g : z_G) : Option (Int32 × z_G) := fM_X8_sum_r7_4_go 0 0 g
theorem nM_X8_sum_r7 : yX8_sum.cls ≠ "java/lang/invoke/MethodHandle" ∧ yX8_sum.cls ≠ "java/lang/invoke/VarHandle" ∧ (parseMethodDescriptor yX8_sum.desc).map (fun d => d.parameters.length) = some 1 := by decide +kernel
set_option maxRecDepth 100000 in
set_option maxHeartbeats 4000000 in
theorem cM_X8_sum_r7 (l : Launch) (dC : Nat → ClassId) (dI : Nat → Nat → Nat) (ca : Nat → ClassId) (q : Nat → Nat) (Zt : z_ZT) (hZt : z_Zok Zt) (g : z_G) (r : Int32) (g' : z_G) (hf : fM_X8_sum_r7 g = some (r, g')) : z_C l yX8_sum wsX8_sum { frames := 0, cells := 0, slots := 0, locals := 0 } (dC, dI) (tyM ca) (wM ca q) Zt [.ref (q 7)] g (some r) g' := by
  refine z_enter (wM_ok ca q) hZt (by decide +kernel) rfl (Nat.le_of_ble_eq_true rfl) (fun J hC => ?_)
  have hC : z_Cx J l cX8_sum 3 wsX8_sum RX8 (some .int) { frames := 0, cells := 0, slots := 0, locals := 0 } (dC, dI) (tyM ca) (wM ca q) Zt (z_QI (dC, dI) (tyM ca) (wM ca q) (some r) g') z_X0 := hC
  show J 0 [(0, .ref (q 7))] [] g
  have hJ4 : ∀ (x1 : Int32) (x2 : Int32) (g : z_G), fM_X8_sum_r7_4_go x1 x2 g = some (r, g') → J 4 [(0, .ref (q 7)), (1, .int x1), (2, .int x2)] [] g := by
    intro x1 x2 g hf
    refine z_loopE (P := fun w : Int32 × Int32 × z_G => J 4 [(0, .ref (q 7)), (1, .int w.1), (2, .int w.2.1)] [] w.2.2) (fun k4 hk4 w hf => ?_) z_fuel (x1, x2, g) hf
    obtain ⟨x1, x2, g⟩ := w
    have hf : fM_X8_sum_r7_4 k4 x1 x2 g = some (r, g') := hf
    show J 4 [(0, .ref (q 7)), (1, .int x1), (2, .int x2)] [] g
    unfold fM_X8_sum_r7_4 at hf
    refine zj_iload_n 2 hC dX8_sum_4 rfl ?_
    refine zj_aload_n 0 hC dX8_sum_5 rfl ?_
    refine ml_7 hC dX8_sum_6 ?_
    refine zj_icmp_ge 22 hC dX8_sum_7 (by decide) (fun c1 => ?_) (fun c1 => ?_)
    · have hf := z_iteT hf c1
      refine zj_iload_n 1 hC dX8_sum_22 rfl ?_
      exact zj_ireturn hC hf dX8_sum_23
    · have hf := z_iteF hf c1
      refine zj_iload_n 1 hC dX8_sum_10 rfl ?_
      refine zj_aload_n 0 hC dX8_sum_11 rfl ?_
      refine zj_iload_n 2 hC dX8_sum_12 rfl ?_
      obtain ⟨hq2, hf⟩ := z_ckE hf
      refine ma_7 hC hq2 dX8_sum_13 ?_
      refine zj_iadd hC dX8_sum_14 ?_
      refine zj_top (fun y3 ey3 => ?_)
      have hf := z_letE hf ey3
      refine zj_istore_n (lv1 := [(1, .int y3), (0, .ref (q 7)), (2, .int x2)]) hC dX8_sum_15 (by decide) rfl ?_
      refine zj_iinc (lv1 := fun v => [(2, .int v), (1, .int y3), (0, .ref (q 7))]) 2 hC dX8_sum_16 rfl (by decide) (fun _ => rfl) (fun y4 ey4 => ?_)
      have hf := z_letE hf (show y4 = x2 + 1 from ey4)
      refine zj_goto 4 hC dX8_sum_19 (by decide) ?_
      exact zj_sub hC [2, 1, 0] rfl (hk4 (y3, y4, g) hf)
  unfold fM_X8_sum_r7 at hf
  refine zj_iconst (v := 0) hC dX8_sum_0 (by decide) ?_
  refine zj_istore_n (lv1 := [(1, .int 0), (0, .ref (q 7))]) hC dX8_sum_1 (by decide) rfl ?_
  refine zj_iconst (v := 0) hC dX8_sum_2 (by decide) ?_
  refine zj_istore_n (lv1 := [(2, .int 0), (1, .int 0), (0, .ref (q 7))]) hC dX8_sum_3 (by decide) rfl ?_
  exact zj_sub hC [2, 1, 0] rfl (hJ4 0 0 g hf)

def fM_X8_sum_r1_4 (k4 : Int32 × Int32 × z_G → Option (Int32 × z_G)) (x1 : Int32) (x2 : Int32) (g : z_G) : Option (Int32 × z_G) := (if 64 ≤ x2 then some (x1, g) else z_ck x2 64 (z_let (x1 + (g 1 (Int32.toNatClampNeg x2))) (fun y3 => z_let (x2 + 1) (fun y4 => k4 (y3, y4, g)))))
def fM_X8_sum_r1_4_go (x1 : Int32) (x2 : Int32) (g : z_G) : Option (Int32 × z_G) := z_loop (fun k (w : Int32 × Int32 × z_G) => fM_X8_sum_r1_4 k w.1 w.2.1 w.2.2) z_fuel (x1, x2, g)
def fM_X8_sum_r1 (g : z_G) : Option (Int32 × z_G) := fM_X8_sum_r1_4_go 0 0 g
theorem nM_X8_sum_r1 : yX8_sum.cls ≠ "java/lang/invoke/MethodHandle" ∧ yX8_sum.cls ≠ "java/lang/invoke/VarHandle" ∧ (parseMethodDescriptor yX8_sum.desc).map (fun d => d.parameters.length) = some 1 := by decide +kernel
set_option maxRecDepth 100000 in
set_option maxHeartbeats 4000000 in
theorem cM_X8_sum_r1 (l : Launch) (dC : Nat → ClassId) (dI : Nat → Nat → Nat) (ca : Nat → ClassId) (q : Nat → Nat) (Zt : z_ZT) (hZt : z_Zok Zt) (g : z_G) (r : Int32) (g' : z_G) (hf : fM_X8_sum_r1 g = some (r, g')) : z_C l yX8_sum wsX8_sum { frames := 0, cells := 0, slots := 0, locals := 0 } (dC, dI) (tyM ca) (wM ca q) Zt [.ref (q 1)] g (some r) g' := by
  refine z_enter (wM_ok ca q) hZt (by decide +kernel) rfl (Nat.le_of_ble_eq_true rfl) (fun J hC => ?_)
  have hC : z_Cx J l cX8_sum 3 wsX8_sum RX8 (some .int) { frames := 0, cells := 0, slots := 0, locals := 0 } (dC, dI) (tyM ca) (wM ca q) Zt (z_QI (dC, dI) (tyM ca) (wM ca q) (some r) g') z_X0 := hC
  show J 0 [(0, .ref (q 1))] [] g
  have hJ4 : ∀ (x1 : Int32) (x2 : Int32) (g : z_G), fM_X8_sum_r1_4_go x1 x2 g = some (r, g') → J 4 [(0, .ref (q 1)), (1, .int x1), (2, .int x2)] [] g := by
    intro x1 x2 g hf
    refine z_loopE (P := fun w : Int32 × Int32 × z_G => J 4 [(0, .ref (q 1)), (1, .int w.1), (2, .int w.2.1)] [] w.2.2) (fun k4 hk4 w hf => ?_) z_fuel (x1, x2, g) hf
    obtain ⟨x1, x2, g⟩ := w
    have hf : fM_X8_sum_r1_4 k4 x1 x2 g = some (r, g') := hf
    show J 4 [(0, .ref (q 1)), (1, .int x1), (2, .int x2)] [] g
    unfold fM_X8_sum_r1_4 at hf
    refine zj_iload_n 2 hC dX8_sum_4 rfl ?_
    refine zj_aload_n 0 hC dX8_sum_5 rfl ?_
    refine ml_1 hC dX8_sum_6 ?_
    refine zj_icmp_ge 22 hC dX8_sum_7 (by decide) (fun c1 => ?_) (fun c1 => ?_)
    · have hf := z_iteT hf c1
      refine zj_iload_n 1 hC dX8_sum_22 rfl ?_
      exact zj_ireturn hC hf dX8_sum_23
    · have hf := z_iteF hf c1
      refine zj_iload_n 1 hC dX8_sum_10 rfl ?_
      refine zj_aload_n 0 hC dX8_sum_11 rfl ?_
      refine zj_iload_n 2 hC dX8_sum_12 rfl ?_
      obtain ⟨hq2, hf⟩ := z_ckE hf
      refine ma_1 hC hq2 dX8_sum_13 ?_
      refine zj_iadd hC dX8_sum_14 ?_
      refine zj_top (fun y3 ey3 => ?_)
      have hf := z_letE hf ey3
      refine zj_istore_n (lv1 := [(1, .int y3), (0, .ref (q 1)), (2, .int x2)]) hC dX8_sum_15 (by decide) rfl ?_
      refine zj_iinc (lv1 := fun v => [(2, .int v), (1, .int y3), (0, .ref (q 1))]) 2 hC dX8_sum_16 rfl (by decide) (fun _ => rfl) (fun y4 ey4 => ?_)
      have hf := z_letE hf (show y4 = x2 + 1 from ey4)
      refine zj_goto 4 hC dX8_sum_19 (by decide) ?_
      exact zj_sub hC [2, 1, 0] rfl (hk4 (y3, y4, g) hf)
  unfold fM_X8_sum_r1 at hf
  refine zj_iconst (v := 0) hC dX8_sum_0 (by decide) ?_
  refine zj_istore_n (lv1 := [(1, .int 0), (0, .ref (q 1))]) hC dX8_sum_1 (by decide) rfl ?_
  refine zj_iconst (v := 0) hC dX8_sum_2 (by decide) ?_
  refine zj_istore_n (lv1 := [(2, .int 0), (1, .int 0), (0, .ref (q 1))]) hC dX8_sum_3 (by decide) rfl ?_
  exact zj_sub hC [2, 1, 0] rfl (hJ4 0 0 g hf)

def fM_X8_all (a0 : Int32) (g : z_G) : Option (Int32 × z_G) := z_let (z_up g 0 0 0) (fun g1 => (if a0 = 0 then z_bind (fM_X8_sum_r7 g1) (fun r3 g4 => some (r3, g4)) else (if a0 = 1 then z_bind (fM_X8_sum_r1 g1) (fun r7 g8 => some (r7, g8)) else (if a0 = 2 then z_bind (fM_X8_sum_r2 g1) (fun r11 g12 => some (r11, g12)) else (if a0 = 3 then some (g1 0 22, g1) else (if a0 = 4 then some (g1 0 23, g1) else some ((-1), g1)))))))
theorem nM_X8_all : yX8_all.cls = RX8 ∧ yX8_all.cls ≠ "java/lang/invoke/MethodHandle" ∧ yX8_all.cls ≠ "java/lang/invoke/VarHandle" ∧ (parseMethodDescriptor yX8_all.desc).map (fun d => d.parameters.length) = some 1 := by decide +kernel
set_option maxRecDepth 100000 in
set_option maxHeartbeats 4000000 in
theorem cM_X8_all (l : Launch) (dC : Nat → ClassId) (dI : Nat → Nat → Nat) (ca : Nat → ClassId) (q : Nat → Nat) (Zt : z_ZT) (hZt : z_Zok Zt) (a0 : Int32) (g : z_G) (r : Int32) (g' : z_G) (hf : fM_X8_all a0 g = some (r, g')) : z_C l yX8_all wsX8_all { frames := 1, cells := 0, slots := 0, locals := 22 } (dC, dI) (tyM ca) (wM ca q) Zt [.ref (q 0), .int a0] g (some r) g' := by
  refine z_enter (wM_ok ca q) hZt (by decide +kernel) rfl (Nat.le_of_ble_eq_true rfl) (fun J hC => ?_)
  have hC : z_Cx J l cX8_all 2 wsX8_all RX8 (some .int) { frames := 1, cells := 0, slots := 0, locals := 22 } (dC, dI) (tyM ca) (wM ca q) Zt (z_QI (dC, dI) (tyM ca) (wM ca q) (some r) g') z_X0 := hC
  show J 0 [(0, .ref (q 0)), (1, .int a0)] [] g
  have hX8 : ∀ w ∈ wsX80, w ∈ wsX8_all := fun _ h => List.mem_cons_of_mem _ (List.mem_append_right _ (h))
  unfold fM_X8_all at hf
  refine zj_aload_n 0 hC dX8_all_0 rfl ?_
  refine zj_iconst (v := 0) hC dX8_all_1 (by decide) ?_
  refine mp_0_0 hC hX8 (List.mem_of_getElem? (i := 1) rfl) dX8_all_2 (fun g1 eg1 => ?_)
  have hf := z_letE hf eg1
  refine zj_iload_n 1 hC dX8_all_5 rfl ?_
  by_cases c2 : a0 = 0
  · have hf := z_iteT hf c2
    refine zj_tabIn 40 hC dX8_all_6 c2 (by decide) (by decide) rfl (by decide) ?_
    refine zj_aload_n 0 hC dX8_all_40 rfl ?_
    refine mg_0_9 hC hX8 (List.mem_of_getElem? (i := 2) rfl) dX8_all_41 ?_
    obtain ⟨r3, g4, hq5, hf⟩ := z_bindE hf
    refine zj_callSi [.ref (q 7)] hC (cM_X8_sum_r7 l dC dI ca q Zt hZt g1 r3 g4 hq5) gX8_all_X8_sum rfl nM_X8_sum_r7 ⟨Nat.le_of_ble_eq_true rfl, Nat.le_of_ble_eq_true rfl⟩ rfl (Nat.le_of_ble_eq_true rfl) dX8_all_44 rfl ?_
    exact zj_ireturn hC hf dX8_all_47
  have hf := z_iteF hf c2
  by_cases c6 : a0 = 1
  · have hf := z_iteT hf c6
    refine zj_tabIn 48 hC dX8_all_6 c6 (by decide) (by decide) rfl (by decide) ?_
    refine zj_aload_n 0 hC dX8_all_48 rfl ?_
    refine mg_0_3 hC hX8 (List.mem_of_getElem? (i := 3) rfl) dX8_all_49 ?_
    obtain ⟨r7, g8, hq9, hf⟩ := z_bindE hf
    refine zj_callSi [.ref (q 1)] hC (cM_X8_sum_r1 l dC dI ca q Zt hZt g1 r7 g8 hq9) gX8_all_X8_sum rfl nM_X8_sum_r1 ⟨Nat.le_of_ble_eq_true rfl, Nat.le_of_ble_eq_true rfl⟩ rfl (Nat.le_of_ble_eq_true rfl) dX8_all_52 rfl ?_
    exact zj_ireturn hC hf dX8_all_55
  have hf := z_iteF hf c6
  by_cases c10 : a0 = 2
  · have hf := z_iteT hf c10
    refine zj_tabIn 56 hC dX8_all_6 c10 (by decide) (by decide) rfl (by decide) ?_
    refine zj_aload_n 0 hC dX8_all_56 rfl ?_
    refine mg_0_4 hC hX8 (List.mem_of_getElem? (i := 4) rfl) dX8_all_57 ?_
    obtain ⟨r11, g12, hq13, hf⟩ := z_bindE hf
    refine zj_callSi [.ref (q 2)] hC (cM_X8_sum_r2 l dC dI ca q Zt hZt g1 r11 g12 hq13) gX8_all_X8_sum rfl nM_X8_sum_r2 ⟨Nat.le_of_ble_eq_true rfl, Nat.le_of_ble_eq_true rfl⟩ rfl (Nat.le_of_ble_eq_true rfl) dX8_all_60 rfl ?_
    exact zj_ireturn hC hf dX8_all_63
  have hf := z_iteF hf c10
  by_cases c14 : a0 = 3
  · have hf := z_iteT hf c14
    refine zj_tabIn 64 hC dX8_all_6 c14 (by decide) (by decide) rfl (by decide) ?_
    refine zj_aload_n 0 hC dX8_all_64 rfl ?_
    refine mg_0_22 hC hX8 (List.mem_of_getElem? (i := 5) rfl) dX8_all_65 ?_
    exact zj_ireturn hC hf dX8_all_68
  have hf := z_iteF hf c14
  by_cases c15 : a0 = 4
  · have hf := z_iteT hf c15
    refine zj_tabIn 69 hC dX8_all_6 c15 (by decide) (by decide) rfl (by decide) ?_
    refine zj_aload_n 0 hC dX8_all_69 rfl ?_
    refine mg_0_23 hC hX8 (List.mem_of_getElem? (i := 6) rfl) dX8_all_70 ?_
    exact zj_ireturn hC hf dX8_all_73
  have hf := z_iteF hf c15
  refine zj_tabOut 74 hC dX8_all_6 (by have ec2 := lv_neT (a := 0) c2 rfl; have ec6 := lv_neT (a := 1) c6 rfl; have ec10 := lv_neT (a := 2) c10 rfl; have ec14 := lv_neT (a := 3) c14 rfl; have ec15 := lv_neT (a := 4) c15 rfl; omega) (by decide) ?_
  refine zj_iconst (v := (-1)) hC dX8_all_74 (by decide) ?_
  exact zj_ireturn hC hf dX8_all_75

def fM_X8_told (a0 : Int32) (a1 : Int32) (g : z_G) : Option (Int32 × z_G) := z_let (z_up g 0 0 0) (fun g1 => z_bind (fM_X8_in ((a0 : Int32).toInt64) 0 (((g1 0 21) - 1 : Int32).toInt64) g1) (fun r2 g3 => (if r2 = 0 then some ((-1), g3) else (if a1 = 0 then z_ck a0 300 (some (g3 20 (Int32.toNatClampNeg a0), g3)) else (if a1 = 1 then z_ck a0 300 (some (g3 21 (Int32.toNatClampNeg a0), g3)) else (if a1 = 2 then z_ck a0 300 (some (g3 22 (Int32.toNatClampNeg a0), g3)) else (if a1 = 3 then z_ck a0 300 (some (g3 23 (Int32.toNatClampNeg a0), g3)) else (if a1 = 4 then z_ck a0 300 (some (g3 24 (Int32.toNatClampNeg a0), g3)) else (if a1 = 5 then z_ck a0 300 (some (g3 25 (Int32.toNatClampNeg a0), g3)) else some ((-1), g3))))))))))
theorem nM_X8_told : yX8_told.cls = RX8 ∧ yX8_told.cls ≠ "java/lang/invoke/MethodHandle" ∧ yX8_told.cls ≠ "java/lang/invoke/VarHandle" ∧ (parseMethodDescriptor yX8_told.desc).map (fun d => d.parameters.length) = some 2 := by decide +kernel
set_option maxRecDepth 100000 in
set_option maxHeartbeats 4000000 in
theorem cM_X8_told (l : Launch) (dC : Nat → ClassId) (dI : Nat → Nat → Nat) (ca : Nat → ClassId) (q : Nat → Nat) (Zt : z_ZT) (hZt : z_Zok Zt) (a0 : Int32) (a1 : Int32) (g : z_G) (r : Int32) (g' : z_G) (hf : fM_X8_told a0 a1 g = some (r, g')) : z_C l yX8_told wsX8_told { frames := 1, cells := 0, slots := 0, locals := 25 } (dC, dI) (tyM ca) (wM ca q) Zt [.ref (q 0), .int a0, .int a1] g (some r) g' := by
  refine z_enter (wM_ok ca q) hZt (by decide +kernel) rfl (Nat.le_of_ble_eq_true rfl) (fun J hC => ?_)
  have hC : z_Cx J l cX8_told 3 wsX8_told RX8 (some .int) { frames := 1, cells := 0, slots := 0, locals := 25 } (dC, dI) (tyM ca) (wM ca q) Zt (z_QI (dC, dI) (tyM ca) (wM ca q) (some r) g') z_X0 := hC
  show J 0 [(0, .ref (q 0)), (1, .int a0), (2, .int a1)] [] g
  have hX8 : ∀ w ∈ wsX80, w ∈ wsX8_told := fun _ h => List.mem_cons_of_mem _ (List.mem_append_right _ (h))
  unfold fM_X8_told at hf
  refine zj_aload_n 0 hC dX8_told_0 rfl ?_
  refine zj_iconst (v := 0) hC dX8_told_1 (by decide) ?_
  refine mp_0_0 hC hX8 (List.mem_of_getElem? (i := 1) rfl) dX8_told_2 (fun g1 eg1 => ?_)
  have hf := z_letE hf eg1
  refine zj_iload_n 1 hC dX8_told_5 rfl ?_
  refine zj_i2l hC dX8_told_6 ?_
  refine zj_lconst (v := 0) hC dX8_told_7 (by decide) ?_
  refine zj_aload_n 0 hC dX8_told_8 rfl ?_
  refine mg_0_21 hC hX8 (List.mem_of_getElem? (i := 2) rfl) dX8_told_9 ?_
  refine zj_iconst (v := 1) hC dX8_told_12 (by decide) ?_
  refine zj_isub hC dX8_told_13 ?_
  refine zj_i2l hC dX8_told_14 ?_
  obtain ⟨r2, g3, hq4, hf⟩ := z_bindE hf
  refine zj_callSi [.long ((a0 : Int32).toInt64), .long 0, .long (((g1 0 21) - 1 : Int32).toInt64)] hC (cM_X8_in l dC dI ca q Zt hZt ((a0 : Int32).toInt64) 0 (((g1 0 21) - 1 : Int32).toInt64) g1 r2 g3 hq4) gX8_told_X8_in rfl nM_X8_in ⟨Nat.le_of_ble_eq_true rfl, Nat.le_of_ble_eq_true rfl⟩ rfl (Nat.le_of_ble_eq_true rfl) dX8_told_15 rfl ?_
  refine zj_if_ne 23 hC dX8_told_18 (by decide) (fun c5 => ?_) (fun c5 => ?_)
  · have hf := z_iteF hf c5
    refine zj_iload_n 2 hC dX8_told_23 rfl ?_
    by_cases c6 : a1 = 0
    · have hf := z_iteT hf c6
      refine zj_tabIn 64 hC dX8_told_24 c6 (by decide) (by decide) rfl (by decide) ?_
      refine zj_aload_n 0 hC dX8_told_64 rfl ?_
      refine mg_0_30 hC hX8 (List.mem_of_getElem? (i := 3) rfl) dX8_told_65 ?_
      refine zj_iload_n 1 hC dX8_told_68 rfl ?_
      obtain ⟨hq7, hf⟩ := z_ckE hf
      refine ma_20 hC hq7 dX8_told_69 ?_
      exact zj_ireturn hC hf dX8_told_70
    have hf := z_iteF hf c6
    by_cases c8 : a1 = 1
    · have hf := z_iteT hf c8
      refine zj_tabIn 71 hC dX8_told_24 c8 (by decide) (by decide) rfl (by decide) ?_
      refine zj_aload_n 0 hC dX8_told_71 rfl ?_
      refine mg_0_31 hC hX8 (List.mem_of_getElem? (i := 4) rfl) dX8_told_72 ?_
      refine zj_iload_n 1 hC dX8_told_75 rfl ?_
      obtain ⟨hq9, hf⟩ := z_ckE hf
      refine ma_21 hC hq9 dX8_told_76 ?_
      exact zj_ireturn hC hf dX8_told_77
    have hf := z_iteF hf c8
    by_cases c10 : a1 = 2
    · have hf := z_iteT hf c10
      refine zj_tabIn 78 hC dX8_told_24 c10 (by decide) (by decide) rfl (by decide) ?_
      refine zj_aload_n 0 hC dX8_told_78 rfl ?_
      refine mg_0_32 hC hX8 (List.mem_of_getElem? (i := 5) rfl) dX8_told_79 ?_
      refine zj_iload_n 1 hC dX8_told_82 rfl ?_
      obtain ⟨hq11, hf⟩ := z_ckE hf
      refine ma_22 hC hq11 dX8_told_83 ?_
      exact zj_ireturn hC hf dX8_told_84
    have hf := z_iteF hf c10
    by_cases c12 : a1 = 3
    · have hf := z_iteT hf c12
      refine zj_tabIn 85 hC dX8_told_24 c12 (by decide) (by decide) rfl (by decide) ?_
      refine zj_aload_n 0 hC dX8_told_85 rfl ?_
      refine mg_0_33 hC hX8 (List.mem_of_getElem? (i := 6) rfl) dX8_told_86 ?_
      refine zj_iload_n 1 hC dX8_told_89 rfl ?_
      obtain ⟨hq13, hf⟩ := z_ckE hf
      refine ma_23 hC hq13 dX8_told_90 ?_
      exact zj_ireturn hC hf dX8_told_91
    have hf := z_iteF hf c12
    by_cases c14 : a1 = 4
    · have hf := z_iteT hf c14
      refine zj_tabIn 92 hC dX8_told_24 c14 (by decide) (by decide) rfl (by decide) ?_
      refine zj_aload_n 0 hC dX8_told_92 rfl ?_
      refine mg_0_34 hC hX8 (List.mem_of_getElem? (i := 7) rfl) dX8_told_93 ?_
      refine zj_iload_n 1 hC dX8_told_96 rfl ?_
      obtain ⟨hq15, hf⟩ := z_ckE hf
      refine ma_24 hC hq15 dX8_told_97 ?_
      exact zj_ireturn hC hf dX8_told_98
    have hf := z_iteF hf c14
    by_cases c16 : a1 = 5
    · have hf := z_iteT hf c16
      refine zj_tabIn 99 hC dX8_told_24 c16 (by decide) (by decide) rfl (by decide) ?_
      refine zj_aload_n 0 hC dX8_told_99 rfl ?_
      refine mg_0_35 hC hX8 (List.mem_of_getElem? (i := 8) rfl) dX8_told_100 ?_
      refine zj_iload_n 1 hC dX8_told_103 rfl ?_
      obtain ⟨hq17, hf⟩ := z_ckE hf
      refine ma_25 hC hq17 dX8_told_104 ?_
      exact zj_ireturn hC hf dX8_told_105
    have hf := z_iteF hf c16
    refine zj_tabOut 106 hC dX8_told_24 (by have ec6 := lv_neT (a := 0) c6 rfl; have ec8 := lv_neT (a := 1) c8 rfl; have ec10 := lv_neT (a := 2) c10 rfl; have ec12 := lv_neT (a := 3) c12 rfl; have ec14 := lv_neT (a := 4) c14 rfl; have ec16 := lv_neT (a := 5) c16 rfl; omega) (by decide) ?_
    refine zj_iconst (v := (-1)) hC dX8_told_106 (by decide) ?_
    exact zj_ireturn hC hf dX8_told_107
  · have hf := z_iteT hf c5
    refine zj_iconst (v := (-1)) hC dX8_told_21 (by decide) ?_
    exact zj_ireturn hC hf dX8_told_22

def fM_X8_breach_29 (s0 : Int32) (g : z_G) : Option (Int32 × z_G) := some (s0, g)
def fM_X8_breach (a0 : Int32) (a1 : Int32) (g : z_G) : Option (Int32 × z_G) := z_let (z_up g 0 0 0) (fun g1 => z_bind (fM_X8_isCell a0 a1 g1) (fun r2 g3 => (if r2 = 0 then fM_X8_breach_29 (-1) g3 else z_ck ((a1 * 8) + a0) 64 (fM_X8_breach_29 (g3 10 (Int32.toNatClampNeg ((a1 * 8) + a0))) g3))))
theorem nM_X8_breach : yX8_breach.cls = RX8 ∧ yX8_breach.cls ≠ "java/lang/invoke/MethodHandle" ∧ yX8_breach.cls ≠ "java/lang/invoke/VarHandle" ∧ (parseMethodDescriptor yX8_breach.desc).map (fun d => d.parameters.length) = some 2 := by decide +kernel
set_option maxRecDepth 100000 in
set_option maxHeartbeats 4000000 in
theorem cM_X8_breach (l : Launch) (dC : Nat → ClassId) (dI : Nat → Nat → Nat) (ca : Nat → ClassId) (q : Nat → Nat) (Zt : z_ZT) (hZt : z_Zok Zt) (a0 : Int32) (a1 : Int32) (g : z_G) (r : Int32) (g' : z_G) (hf : fM_X8_breach a0 a1 g = some (r, g')) : z_C l yX8_breach wsX8_breach { frames := 2, cells := 0, slots := 0, locals := 47 } (dC, dI) (tyM ca) (wM ca q) Zt [.ref (q 0), .int a0, .int a1] g (some r) g' := by
  refine z_enter (wM_ok ca q) hZt (by decide +kernel) rfl (Nat.le_of_ble_eq_true rfl) (fun J hC => ?_)
  have hC : z_Cx J l cX8_breach 3 wsX8_breach RX8 (some .int) { frames := 2, cells := 0, slots := 0, locals := 47 } (dC, dI) (tyM ca) (wM ca q) Zt (z_QI (dC, dI) (tyM ca) (wM ca q) (some r) g') z_X0 := hC
  show J 0 [(0, .ref (q 0)), (1, .int a0), (2, .int a1)] [] g
  have hX8 : ∀ w ∈ wsX80, w ∈ wsX8_breach := fun _ h => List.mem_cons_of_mem _ (List.mem_append_right _ (h))
  have hJ29 : ∀ (s0 : Int32) (g : z_G), fM_X8_breach_29 s0 g = some (r, g') → J 29 [] [.int s0] g := by
    intro s0 g hf
    unfold fM_X8_breach_29 at hf
    exact zj_ireturn hC hf dX8_breach_29
  unfold fM_X8_breach at hf
  refine zj_aload_n 0 hC dX8_breach_0 rfl ?_
  refine zj_iconst (v := 0) hC dX8_breach_1 (by decide) ?_
  refine mp_0_0 hC hX8 (List.mem_of_getElem? (i := 1) rfl) dX8_breach_2 (fun g1 eg1 => ?_)
  have hf := z_letE hf eg1
  refine zj_aload_n 0 hC dX8_breach_5 rfl ?_
  refine zj_iload_n 1 hC dX8_breach_6 rfl ?_
  refine zj_iload_n 2 hC dX8_breach_7 rfl ?_
  obtain ⟨r2, g3, hq4, hf⟩ := z_bindE hf
  refine zj_callVi [.int a0, .int a1] hC (cM_X8_isCell l dC dI ca q Zt hZt a0 a1 g1 r2 g3 hq4) gX8_breach_X8_isCell rfl nM_X8_isCell ⟨Nat.le_of_ble_eq_true rfl, Nat.le_of_ble_eq_true rfl⟩ 0 mo_0 rfl rfl rfl (Nat.le_of_ble_eq_true rfl) dX8_breach_8 rfl ?_
  refine zj_if_eq 28 hC dX8_breach_11 (by decide) (fun c5 => ?_) (fun c5 => ?_)
  · have hf := z_iteT hf c5
    refine zj_iconst (v := (-1)) hC dX8_breach_28 (by decide) ?_
    exact zj_sub hC [] rfl (hJ29 (-1) g3 hf)
  · have hf := z_iteF hf c5
    refine zj_aload_n 0 hC dX8_breach_14 rfl ?_
    refine mg_0_12 hC hX8 (List.mem_of_getElem? (i := 2) rfl) dX8_breach_15 ?_
    refine zj_iload_n 2 hC dX8_breach_18 rfl ?_
    refine zj_bipush (v := 8) hC dX8_breach_19 (by decide) ?_
    refine zj_imul hC dX8_breach_21 ?_
    refine zj_iload_n 1 hC dX8_breach_22 rfl ?_
    refine zj_iadd hC dX8_breach_23 ?_
    obtain ⟨hq6, hf⟩ := z_ckE hf
    refine ma_10 hC hq6 dX8_breach_24 ?_
    refine zj_goto 29 hC dX8_breach_25 (by decide) ?_
    exact zj_sub hC [] rfl (hJ29 (g3 10 (Int32.toNatClampNeg ((a1 * 8) + a0))) g3 hf)

def fM_X8_sign_18 (k18 : Int32 × Int32 × z_G → Option (Int32 × z_G)) (x1 : Int32) (x2 : Int32) (g : z_G) : Option (Int32 × z_G) := (if 4 ≤ x2 then z_let (z_up g 0 41 ((g 0 41) + 4)) (fun g2 => some (g2 0 41, g2)) else z_ck ((g 0 41) + x2) 100 (z_let (z_up g 30 (Int32.toNatClampNeg ((g 0 41) + x2)) ((x1 >>> ((24 - (8 * x2)) &&& 31)) &&& 255)) (fun g4 => z_let (x2 + 1) (fun y5 => k18 (x1, y5, g4)))))
def fM_X8_sign_18_go (x1 : Int32) (x2 : Int32) (g : z_G) : Option (Int32 × z_G) := z_loop (fun k (w : Int32 × Int32 × z_G) => fM_X8_sign_18 k w.1 w.2.1 w.2.2) z_fuel (x1, x2, g)
def fM_X8_sign (a0 : Int32) (g : z_G) : Option (Int32 × z_G) := z_let (z_up g 0 0 0) (fun g6 => (if (g6 0 41) ≤ 96 then fM_X8_sign_18_go a0 0 g6 else some ((-1), g6)))
theorem nM_X8_sign : yX8_sign.cls = RX8 ∧ yX8_sign.cls ≠ "java/lang/invoke/MethodHandle" ∧ yX8_sign.cls ≠ "java/lang/invoke/VarHandle" ∧ (parseMethodDescriptor yX8_sign.desc).map (fun d => d.parameters.length) = some 1 := by decide +kernel
set_option maxRecDepth 100000 in
set_option maxHeartbeats 4000000 in
theorem cM_X8_sign (l : Launch) (dC : Nat → ClassId) (dI : Nat → Nat → Nat) (ca : Nat → ClassId) (q : Nat → Nat) (Zt : z_ZT) (hZt : z_Zok Zt) (a0 : Int32) (g : z_G) (r : Int32) (g' : z_G) (hf : fM_X8_sign a0 g = some (r, g')) : z_C l yX8_sign wsX8_sign { frames := 0, cells := 0, slots := 0, locals := 0 } (dC, dI) (tyM ca) (wM ca q) Zt [.ref (q 0), .int a0] g (some r) g' := by
  refine z_enter (wM_ok ca q) hZt (by decide +kernel) rfl (Nat.le_of_ble_eq_true rfl) (fun J hC => ?_)
  have hC : z_Cx J l cX8_sign 3 wsX8_sign RX8 (some .int) { frames := 0, cells := 0, slots := 0, locals := 0 } (dC, dI) (tyM ca) (wM ca q) Zt (z_QI (dC, dI) (tyM ca) (wM ca q) (some r) g') z_X0 := hC
  show J 0 [(0, .ref (q 0)), (1, .int a0)] [] g
  have hX8 : ∀ w ∈ wsX80, w ∈ wsX8_sign := fun _ h => List.mem_cons_of_mem _ (List.mem_append_right _ (h))
  have hJ18 : ∀ (x1 : Int32) (x2 : Int32) (g : z_G), fM_X8_sign_18_go x1 x2 g = some (r, g') → J 18 [(0, .ref (q 0)), (1, .int x1), (2, .int x2)] [] g := by
    intro x1 x2 g hf
    refine z_loopE (P := fun w : Int32 × Int32 × z_G => J 18 [(0, .ref (q 0)), (1, .int w.1), (2, .int w.2.1)] [] w.2.2) (fun k18 hk18 w hf => ?_) z_fuel (x1, x2, g) hf
    obtain ⟨x1, x2, g⟩ := w
    have hf : fM_X8_sign_18 k18 x1 x2 g = some (r, g') := hf
    show J 18 [(0, .ref (q 0)), (1, .int x1), (2, .int x2)] [] g
    unfold fM_X8_sign_18 at hf
    refine zj_iload_n 2 hC dX8_sign_18 rfl ?_
    refine zj_iconst (v := 4) hC dX8_sign_19 (by decide) ?_
    refine zj_icmp_ge 53 hC dX8_sign_20 (by decide) (fun c1 => ?_) (fun c1 => ?_)
    · have hf := z_iteT hf c1
      refine zj_aload_n 0 hC dX8_sign_53 rfl ?_
      refine zj_dup hC dX8_sign_54 rfl ?_
      refine mg_0_41 hC hX8 (List.mem_of_getElem? (i := 2) rfl) dX8_sign_55 ?_
      refine zj_iconst (v := 4) hC dX8_sign_58 (by decide) ?_
      refine zj_iadd hC dX8_sign_59 ?_
      refine mp_0_41 hC hX8 (List.mem_of_getElem? (i := 2) rfl) dX8_sign_60 (fun g2 eg2 => ?_)
      have hf := z_letE hf eg2
      refine zj_aload_n 0 hC dX8_sign_63 rfl ?_
      refine mg_0_41 hC hX8 (List.mem_of_getElem? (i := 2) rfl) dX8_sign_64 ?_
      exact zj_ireturn hC hf dX8_sign_67
    · have hf := z_iteF hf c1
      refine zj_aload_n 0 hC dX8_sign_23 rfl ?_
      refine mg_0_40 hC hX8 (List.mem_of_getElem? (i := 3) rfl) dX8_sign_24 ?_
      refine zj_aload_n 0 hC dX8_sign_27 rfl ?_
      refine mg_0_41 hC hX8 (List.mem_of_getElem? (i := 2) rfl) dX8_sign_28 ?_
      refine zj_iload_n 2 hC dX8_sign_31 rfl ?_
      refine zj_iadd hC dX8_sign_32 ?_
      refine zj_iload_n 1 hC dX8_sign_33 rfl ?_
      refine zj_bipush (v := 24) hC dX8_sign_34 (by decide) ?_
      refine zj_bipush (v := 8) hC dX8_sign_36 (by decide) ?_
      refine zj_iload_n 2 hC dX8_sign_38 rfl ?_
      refine zj_imul hC dX8_sign_39 ?_
      refine zj_isub hC dX8_sign_40 ?_
      refine zj_ishr hC dX8_sign_41 ?_
      refine zj_sipush (v := 255) hC dX8_sign_42 (by decide) ?_
      refine zj_iand hC dX8_sign_45 ?_
      obtain ⟨hq3, hf⟩ := z_ckE hf
      refine ms_30 hC hq3 dX8_sign_46 (fun g4 eg4 => ?_)
      have hf := z_letE hf eg4
      refine zj_iinc (lv1 := fun v => [(2, .int v), (0, .ref (q 0)), (1, .int x1)]) 2 hC dX8_sign_47 rfl (by decide) (fun _ => rfl) (fun y5 ey5 => ?_)
      have hf := z_letE hf (show y5 = x2 + 1 from ey5)
      refine zj_goto 18 hC dX8_sign_50 (by decide) ?_
      exact zj_sub hC [1, 2, 0] rfl (hk18 (x1, y5, g4) hf)
  unfold fM_X8_sign at hf
  refine zj_aload_n 0 hC dX8_sign_0 rfl ?_
  refine zj_iconst (v := 0) hC dX8_sign_1 (by decide) ?_
  refine mp_0_0 hC hX8 (List.mem_of_getElem? (i := 1) rfl) dX8_sign_2 (fun g6 eg6 => ?_)
  have hf := z_letE hf eg6
  refine zj_aload_n 0 hC dX8_sign_5 rfl ?_
  refine mg_0_41 hC hX8 (List.mem_of_getElem? (i := 2) rfl) dX8_sign_6 ?_
  refine zj_bipush (v := 96) hC dX8_sign_9 (by decide) ?_
  refine zj_icmp_le 16 hC dX8_sign_11 (by decide) (fun c7 => ?_) (fun c7 => ?_)
  · have hf := z_iteT hf c7
    refine zj_iconst (v := 0) hC dX8_sign_16 (by decide) ?_
    refine zj_istore_n (lv1 := [(2, .int 0), (0, .ref (q 0)), (1, .int a0)]) hC dX8_sign_17 (by decide) rfl ?_
    exact zj_sub hC [1, 2, 0] rfl (hJ18 a0 0 g6 hf)
  · have hf := z_iteF hf c7
    refine zj_iconst (v := (-1)) hC dX8_sign_14 (by decide) ?_
    exact zj_ireturn hC hf dX8_sign_15

def fM_X8_end (a0 : Int32) (g : z_G) : Option (Int32 × z_G) := z_let (z_up g 0 0 0) (fun g1 => z_bind (fM_X8_in ((a0 : Int32).toInt64) 0 ((g1 0 41 : Int32).toInt64) g1) (fun r2 g3 => (if r2 = 0 then z_bo 0 (some (0, g3)) else z_let (z_up g3 0 41 a0) (fun g6 => z_bo 1 (some (1, g6))))))
theorem nM_X8_end : yX8_end.cls = RX8 ∧ yX8_end.cls ≠ "java/lang/invoke/MethodHandle" ∧ yX8_end.cls ≠ "java/lang/invoke/VarHandle" ∧ (parseMethodDescriptor yX8_end.desc).map (fun d => d.parameters.length) = some 1 := by decide +kernel
set_option maxRecDepth 100000 in
set_option maxHeartbeats 4000000 in
theorem cM_X8_end (l : Launch) (dC : Nat → ClassId) (dI : Nat → Nat → Nat) (ca : Nat → ClassId) (q : Nat → Nat) (Zt : z_ZT) (hZt : z_Zok Zt) (a0 : Int32) (g : z_G) (r : Int32) (g' : z_G) (hf : fM_X8_end a0 g = some (r, g')) : z_C l yX8_end wsX8_end { frames := 1, cells := 0, slots := 0, locals := 25 } (dC, dI) (tyM ca) (wM ca q) Zt [.ref (q 0), .int a0] g (some r) g' := by
  refine z_enter (wM_ok ca q) hZt (by decide +kernel) rfl (Nat.le_of_ble_eq_true rfl) (fun J hC => ?_)
  have hC : z_Cx J l cX8_end 2 wsX8_end RX8 (some .boolean) { frames := 1, cells := 0, slots := 0, locals := 25 } (dC, dI) (tyM ca) (wM ca q) Zt (z_QI (dC, dI) (tyM ca) (wM ca q) (some r) g') z_X0 := hC
  show J 0 [(0, .ref (q 0)), (1, .int a0)] [] g
  have hX8 : ∀ w ∈ wsX80, w ∈ wsX8_end := fun _ h => List.mem_cons_of_mem _ (List.mem_append_right _ (h))
  unfold fM_X8_end at hf
  refine zj_aload_n 0 hC dX8_end_0 rfl ?_
  refine zj_iconst (v := 0) hC dX8_end_1 (by decide) ?_
  refine mp_0_0 hC hX8 (List.mem_of_getElem? (i := 1) rfl) dX8_end_2 (fun g1 eg1 => ?_)
  have hf := z_letE hf eg1
  refine zj_iload_n 1 hC dX8_end_5 rfl ?_
  refine zj_i2l hC dX8_end_6 ?_
  refine zj_lconst (v := 0) hC dX8_end_7 (by decide) ?_
  refine zj_aload_n 0 hC dX8_end_8 rfl ?_
  refine mg_0_41 hC hX8 (List.mem_of_getElem? (i := 2) rfl) dX8_end_9 ?_
  refine zj_i2l hC dX8_end_12 ?_
  obtain ⟨r2, g3, hq4, hf⟩ := z_bindE hf
  refine zj_callSi [.long ((a0 : Int32).toInt64), .long 0, .long ((g1 0 41 : Int32).toInt64)] hC (cM_X8_in l dC dI ca q Zt hZt ((a0 : Int32).toInt64) 0 ((g1 0 41 : Int32).toInt64) g1 r2 g3 hq4) gX8_end_X8_in rfl nM_X8_in ⟨Nat.le_of_ble_eq_true rfl, Nat.le_of_ble_eq_true rfl⟩ rfl (Nat.le_of_ble_eq_true rfl) dX8_end_13 rfl ?_
  refine zj_if_ne 21 hC dX8_end_16 (by decide) (fun c5 => ?_) (fun c5 => ?_)
  · have hf := z_iteF hf c5
    refine zj_aload_n 0 hC dX8_end_21 rfl ?_
    refine zj_iload_n 1 hC dX8_end_22 rfl ?_
    refine mp_0_41 hC hX8 (List.mem_of_getElem? (i := 2) rfl) dX8_end_23 (fun g6 eg6 => ?_)
    have hf := z_letE hf eg6
    refine zj_iconst (v := 1) hC dX8_end_26 (by decide) ?_
    exact zj_zreturn hC hf dX8_end_27
  · have hf := z_iteT hf c5
    refine zj_iconst (v := 0) hC dX8_end_19 (by decide) ?_
    exact zj_zreturn hC hf dX8_end_20

def fM_X8_repeal (g : z_G) : Option (Int32 × z_G) := z_let (z_up g 0 0 0) (fun g1 => (if (g1 0 20) = 0 then z_let (g1 0 42) (fun y3 => z_let (z_up g1 0 42 0) (fun g4 => some (y3, g4))) else some ((-1), g1)))
theorem nM_X8_repeal : yX8_repeal.cls = RX8 ∧ yX8_repeal.cls ≠ "java/lang/invoke/MethodHandle" ∧ yX8_repeal.cls ≠ "java/lang/invoke/VarHandle" ∧ (parseMethodDescriptor yX8_repeal.desc).map (fun d => d.parameters.length) = some 0 := by decide +kernel
set_option maxRecDepth 100000 in
set_option maxHeartbeats 4000000 in
theorem cM_X8_repeal (l : Launch) (dC : Nat → ClassId) (dI : Nat → Nat → Nat) (ca : Nat → ClassId) (q : Nat → Nat) (Zt : z_ZT) (hZt : z_Zok Zt) (g : z_G) (r : Int32) (g' : z_G) (hf : fM_X8_repeal g = some (r, g')) : z_C l yX8_repeal wsX8_repeal { frames := 0, cells := 0, slots := 0, locals := 0 } (dC, dI) (tyM ca) (wM ca q) Zt [.ref (q 0)] g (some r) g' := by
  refine z_enter (wM_ok ca q) hZt (by decide +kernel) rfl (Nat.le_of_ble_eq_true rfl) (fun J hC => ?_)
  have hC : z_Cx J l cX8_repeal 2 wsX8_repeal RX8 (some .int) { frames := 0, cells := 0, slots := 0, locals := 0 } (dC, dI) (tyM ca) (wM ca q) Zt (z_QI (dC, dI) (tyM ca) (wM ca q) (some r) g') z_X0 := hC
  show J 0 [(0, .ref (q 0))] [] g
  have hX8 : ∀ w ∈ wsX80, w ∈ wsX8_repeal := fun _ h => List.mem_cons_of_mem _ (List.mem_append_right _ (h))
  unfold fM_X8_repeal at hf
  refine zj_aload_n 0 hC dX8_repeal_0 rfl ?_
  refine zj_iconst (v := 0) hC dX8_repeal_1 (by decide) ?_
  refine mp_0_0 hC hX8 (List.mem_of_getElem? (i := 1) rfl) dX8_repeal_2 (fun g1 eg1 => ?_)
  have hf := z_letE hf eg1
  refine zj_aload_n 0 hC dX8_repeal_5 rfl ?_
  refine mg_0_20 hC hX8 (List.mem_of_getElem? (i := 2) rfl) dX8_repeal_6 ?_
  refine zj_if_eq 14 hC dX8_repeal_9 (by decide) (fun c2 => ?_) (fun c2 => ?_)
  · have hf := z_iteT hf c2
    refine zj_aload_n 0 hC dX8_repeal_14 rfl ?_
    refine mg_0_42 hC hX8 (List.mem_of_getElem? (i := 3) rfl) dX8_repeal_15 ?_
    refine zj_top (fun y3 ey3 => ?_)
    have hf := z_letE hf ey3
    refine zj_istore_n (lv1 := [(1, .int y3), (0, .ref (q 0))]) hC dX8_repeal_18 (by decide) rfl ?_
    refine zj_aload_n 1 hC dX8_repeal_19 rfl ?_
    refine zj_iconst (v := 0) hC dX8_repeal_20 (by decide) ?_
    refine mp_0_42 hC hX8 (List.mem_of_getElem? (i := 3) rfl) dX8_repeal_21 (fun g4 eg4 => ?_)
    have hf := z_letE hf eg4
    refine zj_iload_n 0 hC dX8_repeal_24 rfl ?_
    exact zj_ireturn hC hf dX8_repeal_25
  · have hf := z_iteF hf c2
    refine zj_iconst (v := (-1)) hC dX8_repeal_12 (by decide) ?_
    exact zj_ireturn hC hf dX8_repeal_13

def fM_X8_wood_50  (g : z_G) : Option (Int32 × z_G) := some ((-1), g)
def fM_X8_wood (a0 : Int32) (a1 : Int32) (a2 : Int32) (g : z_G) : Option (Int32 × z_G) := z_let (z_up g 0 0 0) (fun g1 => z_bind (fM_X8_in ((a0 : Int32).toInt64) 0 200 g1) (fun r2 g3 => (if r2 = 0 then fM_X8_wood_50 g3 else z_bind (fM_X8_in ((a1 : Int32).toInt64) 1 100 g3) (fun r6 g7 => (if r6 = 0 then fM_X8_wood_50 g7 else z_bind (fM_X8_in ((a2 : Int32).toInt64) 1 1000 g7) (fun r10 g11 => (if r10 = 0 then fM_X8_wood_50 g11 else (if (g11 0 52) = 12 then fM_X8_wood_50 g11 else z_ck (g11 0 52) 12 (z_let (z_up g11 38 (Int32.toNatClampNeg (g11 0 52)) a0) (fun g16 => z_ck (g16 0 52) 12 (z_let (z_up g16 39 (Int32.toNatClampNeg (g16 0 52)) a1) (fun g18 => z_ck (g18 0 52) 12 (z_let (z_up g18 40 (Int32.toNatClampNeg (g18 0 52)) a2) (fun g20 => z_let (z_up g20 0 52 ((g20 0 52) + 1)) (fun g21 => some ((g21 0 52) - 1, g21))))))))))))))))
theorem nM_X8_wood : yX8_wood.cls = RX8 ∧ yX8_wood.cls ≠ "java/lang/invoke/MethodHandle" ∧ yX8_wood.cls ≠ "java/lang/invoke/VarHandle" ∧ (parseMethodDescriptor yX8_wood.desc).map (fun d => d.parameters.length) = some 3 := by decide +kernel
set_option maxRecDepth 100000 in
set_option maxHeartbeats 4000000 in
theorem cM_X8_wood (l : Launch) (dC : Nat → ClassId) (dI : Nat → Nat → Nat) (ca : Nat → ClassId) (q : Nat → Nat) (Zt : z_ZT) (hZt : z_Zok Zt) (a0 : Int32) (a1 : Int32) (a2 : Int32) (g : z_G) (r : Int32) (g' : z_G) (hf : fM_X8_wood a0 a1 a2 g = some (r, g')) : z_C l yX8_wood wsX8_wood { frames := 1, cells := 0, slots := 0, locals := 25 } (dC, dI) (tyM ca) (wM ca q) Zt [.ref (q 0), .int a0, .int a1, .int a2] g (some r) g' := by
  refine z_enter (wM_ok ca q) hZt (by decide +kernel) rfl (Nat.le_of_ble_eq_true rfl) (fun J hC => ?_)
  have hC : z_Cx J l cX8_wood 4 wsX8_wood RX8 (some .int) { frames := 1, cells := 0, slots := 0, locals := 25 } (dC, dI) (tyM ca) (wM ca q) Zt (z_QI (dC, dI) (tyM ca) (wM ca q) (some r) g') z_X0 := hC
  show J 0 [(0, .ref (q 0)), (1, .int a0), (2, .int a1), (3, .int a2)] [] g
  have hX8 : ∀ w ∈ wsX80, w ∈ wsX8_wood := fun _ h => List.mem_cons_of_mem _ (List.mem_append_right _ (h))
  have hJ50 : ∀ (g : z_G), fM_X8_wood_50 g = some (r, g') → J 50 [] [] g := by
    intro g hf
    unfold fM_X8_wood_50 at hf
    refine zj_iconst (v := (-1)) hC dX8_wood_50 (by decide) ?_
    exact zj_ireturn hC hf dX8_wood_51
  unfold fM_X8_wood at hf
  refine zj_aload_n 0 hC dX8_wood_0 rfl ?_
  refine zj_iconst (v := 0) hC dX8_wood_1 (by decide) ?_
  refine mp_0_0 hC hX8 (List.mem_of_getElem? (i := 1) rfl) dX8_wood_2 (fun g1 eg1 => ?_)
  have hf := z_letE hf eg1
  refine zj_iload_n 1 hC dX8_wood_5 rfl ?_
  refine zj_i2l hC dX8_wood_6 ?_
  refine zj_lconst (v := 0) hC dX8_wood_7 (by decide) ?_
  refine zj_ldc2 (v := 200) hC (List.mem_of_getElem? (i := 2) rfl) dX8_wood_8 ?_
  obtain ⟨r2, g3, hq4, hf⟩ := z_bindE hf
  refine zj_callSi [.long ((a0 : Int32).toInt64), .long 0, .long 200] hC (cM_X8_in l dC dI ca q Zt hZt ((a0 : Int32).toInt64) 0 200 g1 r2 g3 hq4) gX8_wood_X8_in rfl nM_X8_in ⟨Nat.le_of_ble_eq_true rfl, Nat.le_of_ble_eq_true rfl⟩ rfl (Nat.le_of_ble_eq_true rfl) dX8_wood_11 rfl ?_
  refine zj_if_eq 50 hC dX8_wood_14 (by decide) (fun c5 => ?_) (fun c5 => ?_)
  · have hf := z_iteT hf c5
    exact zj_sub hC [] rfl (hJ50 g3 hf)
  · have hf := z_iteF hf c5
    refine zj_iload_n 2 hC dX8_wood_17 rfl ?_
    refine zj_i2l hC dX8_wood_18 ?_
    refine zj_lconst (v := 1) hC dX8_wood_19 (by decide) ?_
    refine zj_ldc2 (v := 100) hC (List.mem_of_getElem? (i := 3) rfl) dX8_wood_20 ?_
    obtain ⟨r6, g7, hq8, hf⟩ := z_bindE hf
    refine zj_callSi [.long ((a1 : Int32).toInt64), .long 1, .long 100] hC (cM_X8_in l dC dI ca q Zt hZt ((a1 : Int32).toInt64) 1 100 g3 r6 g7 hq8) gX8_wood_X8_in rfl nM_X8_in ⟨Nat.le_of_ble_eq_true rfl, Nat.le_of_ble_eq_true rfl⟩ rfl (Nat.le_of_ble_eq_true rfl) dX8_wood_23 rfl ?_
    refine zj_if_eq 50 hC dX8_wood_26 (by decide) (fun c9 => ?_) (fun c9 => ?_)
    · have hf := z_iteT hf c9
      exact zj_sub hC [] rfl (hJ50 g7 hf)
    · have hf := z_iteF hf c9
      refine zj_iload_n 3 hC dX8_wood_29 rfl ?_
      refine zj_i2l hC dX8_wood_30 ?_
      refine zj_lconst (v := 1) hC dX8_wood_31 (by decide) ?_
      refine zj_ldc2 (v := 1000) hC (List.mem_of_getElem? (i := 4) rfl) dX8_wood_32 ?_
      obtain ⟨r10, g11, hq12, hf⟩ := z_bindE hf
      refine zj_callSi [.long ((a2 : Int32).toInt64), .long 1, .long 1000] hC (cM_X8_in l dC dI ca q Zt hZt ((a2 : Int32).toInt64) 1 1000 g7 r10 g11 hq12) gX8_wood_X8_in rfl nM_X8_in ⟨Nat.le_of_ble_eq_true rfl, Nat.le_of_ble_eq_true rfl⟩ rfl (Nat.le_of_ble_eq_true rfl) dX8_wood_35 rfl ?_
      refine zj_if_eq 50 hC dX8_wood_38 (by decide) (fun c13 => ?_) (fun c13 => ?_)
      · have hf := z_iteT hf c13
        exact zj_sub hC [] rfl (hJ50 g11 hf)
      · have hf := z_iteF hf c13
        refine zj_aload_n 0 hC dX8_wood_41 rfl ?_
        refine mg_0_52 hC hX8 (List.mem_of_getElem? (i := 5) rfl) dX8_wood_42 ?_
        refine zj_bipush (v := 12) hC dX8_wood_45 (by decide) ?_
        refine zj_icmp_ne 52 hC dX8_wood_47 (by decide) (fun c14 => ?_) (fun c14 => ?_)
        · have hf := z_iteF hf c14
          refine zj_aload_n 0 hC dX8_wood_52 rfl ?_
          refine mg_0_53 hC hX8 (List.mem_of_getElem? (i := 6) rfl) dX8_wood_53 ?_
          refine zj_aload_n 0 hC dX8_wood_56 rfl ?_
          refine mg_0_52 hC hX8 (List.mem_of_getElem? (i := 5) rfl) dX8_wood_57 ?_
          refine zj_iload_n 1 hC dX8_wood_60 rfl ?_
          obtain ⟨hq15, hf⟩ := z_ckE hf
          refine ms_38 hC hq15 dX8_wood_61 (fun g16 eg16 => ?_)
          have hf := z_letE hf eg16
          refine zj_aload_n 0 hC dX8_wood_62 rfl ?_
          refine mg_0_54 hC hX8 (List.mem_of_getElem? (i := 7) rfl) dX8_wood_63 ?_
          refine zj_aload_n 0 hC dX8_wood_66 rfl ?_
          refine mg_0_52 hC hX8 (List.mem_of_getElem? (i := 5) rfl) dX8_wood_67 ?_
          refine zj_iload_n 2 hC dX8_wood_70 rfl ?_
          obtain ⟨hq17, hf⟩ := z_ckE hf
          refine ms_39 hC hq17 dX8_wood_71 (fun g18 eg18 => ?_)
          have hf := z_letE hf eg18
          refine zj_aload_n 0 hC dX8_wood_72 rfl ?_
          refine mg_0_55 hC hX8 (List.mem_of_getElem? (i := 8) rfl) dX8_wood_73 ?_
          refine zj_aload_n 0 hC dX8_wood_76 rfl ?_
          refine mg_0_52 hC hX8 (List.mem_of_getElem? (i := 5) rfl) dX8_wood_77 ?_
          refine zj_iload_n 3 hC dX8_wood_80 rfl ?_
          obtain ⟨hq19, hf⟩ := z_ckE hf
          refine ms_40 hC hq19 dX8_wood_81 (fun g20 eg20 => ?_)
          have hf := z_letE hf eg20
          refine zj_aload_n 0 hC dX8_wood_82 rfl ?_
          refine zj_dup hC dX8_wood_83 rfl ?_
          refine mg_0_52 hC hX8 (List.mem_of_getElem? (i := 5) rfl) dX8_wood_84 ?_
          refine zj_iconst (v := 1) hC dX8_wood_87 (by decide) ?_
          refine zj_iadd hC dX8_wood_88 ?_
          refine mp_0_52 hC hX8 (List.mem_of_getElem? (i := 5) rfl) dX8_wood_89 (fun g21 eg21 => ?_)
          have hf := z_letE hf eg21
          refine zj_aload_n 0 hC dX8_wood_92 rfl ?_
          refine mg_0_52 hC hX8 (List.mem_of_getElem? (i := 5) rfl) dX8_wood_93 ?_
          refine zj_iconst (v := 1) hC dX8_wood_96 (by decide) ?_
          refine zj_isub hC dX8_wood_97 ?_
          exact zj_ireturn hC hf dX8_wood_98
        · have hf := z_iteT hf c14
          exact zj_sub hC [] rfl (hJ50 g11 hf)

def fM_X8_years_21 (k21 : Int32 × Int32 × z_G → Option (Int32 × z_G)) (x1 : Int32) (x2 : Int32) (g : z_G) : Option (Int32 × z_G) := (if (g 0 52) ≤ x2 then z_bo 1 (some (1, g)) else z_ck x2 12 (z_let (if ((g 38 (Int32.toNatClampNeg x2)) + x1) < 10000 then (g 38 (Int32.toNatClampNeg x2)) + x1 else 10000) (fun y3 => z_ck x2 12 (z_let (z_up g 38 (Int32.toNatClampNeg x2) y3) (fun g5 => z_let (x2 + 1) (fun y6 => k21 (x1, y6, g5)))))))
def fM_X8_years_21_go (x1 : Int32) (x2 : Int32) (g : z_G) : Option (Int32 × z_G) := z_loop (fun k (w : Int32 × Int32 × z_G) => fM_X8_years_21 k w.1 w.2.1 w.2.2) z_fuel (x1, x2, g)
def fM_X8_years (a0 : Int32) (g : z_G) : Option (Int32 × z_G) := z_let (z_up g 0 0 0) (fun g7 => z_bind (fM_X8_in ((a0 : Int32).toInt64) 0 200 g7) (fun r8 g9 => (if r8 = 0 then z_bo 0 (some (0, g9)) else fM_X8_years_21_go a0 0 g9)))
theorem nM_X8_years : yX8_years.cls = RX8 ∧ yX8_years.cls ≠ "java/lang/invoke/MethodHandle" ∧ yX8_years.cls ≠ "java/lang/invoke/VarHandle" ∧ (parseMethodDescriptor yX8_years.desc).map (fun d => d.parameters.length) = some 1 := by decide +kernel
set_option maxRecDepth 100000 in
set_option maxHeartbeats 4000000 in
theorem cM_X8_years (l : Launch) (dC : Nat → ClassId) (dI : Nat → Nat → Nat) (ca : Nat → ClassId) (q : Nat → Nat) (Zt : z_ZT) (hZt : z_Zok Zt) (a0 : Int32) (g : z_G) (r : Int32) (g' : z_G) (hf : fM_X8_years a0 g = some (r, g')) : z_C l yX8_years wsX8_years { frames := 1, cells := 0, slots := 0, locals := 25 } (dC, dI) (tyM ca) (wM ca q) Zt [.ref (q 0), .int a0] g (some r) g' := by
  refine z_enter (wM_ok ca q) hZt (by decide +kernel) rfl (Nat.le_of_ble_eq_true rfl) (fun J hC => ?_)
  have hC : z_Cx J l cX8_years 3 wsX8_years RX8 (some .boolean) { frames := 1, cells := 0, slots := 0, locals := 25 } (dC, dI) (tyM ca) (wM ca q) Zt (z_QI (dC, dI) (tyM ca) (wM ca q) (some r) g') z_X0 := hC
  show J 0 [(0, .ref (q 0)), (1, .int a0)] [] g
  have hX8 : ∀ w ∈ wsX80, w ∈ wsX8_years := fun _ h => List.mem_cons_of_mem _ (List.mem_append_right _ (h))
  have hJ21 : ∀ (x1 : Int32) (x2 : Int32) (g : z_G), fM_X8_years_21_go x1 x2 g = some (r, g') → J 21 [(0, .ref (q 0)), (1, .int x1), (2, .int x2)] [] g := by
    intro x1 x2 g hf
    refine z_loopE (P := fun w : Int32 × Int32 × z_G => J 21 [(0, .ref (q 0)), (1, .int w.1), (2, .int w.2.1)] [] w.2.2) (fun k21 hk21 w hf => ?_) z_fuel (x1, x2, g) hf
    obtain ⟨x1, x2, g⟩ := w
    have hf : fM_X8_years_21 k21 x1 x2 g = some (r, g') := hf
    show J 21 [(0, .ref (q 0)), (1, .int x1), (2, .int x2)] [] g
    unfold fM_X8_years_21 at hf
    refine zj_iload_n 2 hC dX8_years_21 rfl ?_
    refine zj_aload_n 0 hC dX8_years_22 rfl ?_
    refine mg_0_52 hC hX8 (List.mem_of_getElem? (i := 3) rfl) dX8_years_23 ?_
    refine zj_icmp_ge 55 hC dX8_years_26 (by decide) (fun c1 => ?_) (fun c1 => ?_)
    · have hf := z_iteT hf c1
      refine zj_iconst (v := 1) hC dX8_years_55 (by decide) ?_
      exact zj_zreturn hC hf dX8_years_56
    · have hf := z_iteF hf c1
      refine zj_aload_n 0 hC dX8_years_29 rfl ?_
      refine mg_0_53 hC hX8 (List.mem_of_getElem? (i := 4) rfl) dX8_years_30 ?_
      refine zj_iload_n 2 hC dX8_years_33 rfl ?_
      refine zj_sipush (v := 10000) hC dX8_years_34 (by decide) ?_
      refine zj_aload_n 0 hC dX8_years_37 rfl ?_
      refine mg_0_53 hC hX8 (List.mem_of_getElem? (i := 4) rfl) dX8_years_38 ?_
      refine zj_iload_n 2 hC dX8_years_41 rfl ?_
      obtain ⟨hq2, hf⟩ := z_ckE hf
      refine ma_38 hC hq2 dX8_years_42 ?_
      refine zj_iload_n 1 hC dX8_years_43 rfl ?_
      refine zj_iadd hC dX8_years_44 ?_
      refine zj_min hC (List.mem_of_getElem? (i := 5) rfl) (List.mem_of_getElem? (i := 6) rfl) (List.mem_of_getElem? (i := 7) rfl) (List.mem_of_getElem? (i := 8) rfl) (Nat.le_of_ble_eq_true rfl) (Nat.le_of_ble_eq_true rfl) dX8_years_45 ?_
      refine zj_top (fun y3 ey3 => ?_)
      have hf := z_letE hf ey3
      obtain ⟨hq4, hf⟩ := z_ckE hf
      refine ms_38 hC hq4 dX8_years_48 (fun g5 eg5 => ?_)
      have hf := z_letE hf eg5
      refine zj_iinc (lv1 := fun v => [(2, .int v), (0, .ref (q 0)), (1, .int x1)]) 2 hC dX8_years_49 rfl (by decide) (fun _ => rfl) (fun y6 ey6 => ?_)
      have hf := z_letE hf (show y6 = x2 + 1 from ey6)
      refine zj_goto 21 hC dX8_years_52 (by decide) ?_
      exact zj_sub hC [1, 2, 0] rfl (hk21 (x1, y6, g5) hf)
  unfold fM_X8_years at hf
  refine zj_aload_n 0 hC dX8_years_0 rfl ?_
  refine zj_iconst (v := 0) hC dX8_years_1 (by decide) ?_
  refine mp_0_0 hC hX8 (List.mem_of_getElem? (i := 1) rfl) dX8_years_2 (fun g7 eg7 => ?_)
  have hf := z_letE hf eg7
  refine zj_iload_n 1 hC dX8_years_5 rfl ?_
  refine zj_i2l hC dX8_years_6 ?_
  refine zj_lconst (v := 0) hC dX8_years_7 (by decide) ?_
  refine zj_ldc2 (v := 200) hC (List.mem_of_getElem? (i := 2) rfl) dX8_years_8 ?_
  obtain ⟨r8, g9, hq10, hf⟩ := z_bindE hf
  refine zj_callSi [.long ((a0 : Int32).toInt64), .long 0, .long 200] hC (cM_X8_in l dC dI ca q Zt hZt ((a0 : Int32).toInt64) 0 200 g7 r8 g9 hq10) gX8_years_X8_in rfl nM_X8_in ⟨Nat.le_of_ble_eq_true rfl, Nat.le_of_ble_eq_true rfl⟩ rfl (Nat.le_of_ble_eq_true rfl) dX8_years_11 rfl ?_
  refine zj_if_ne 19 hC dX8_years_14 (by decide) (fun c11 => ?_) (fun c11 => ?_)
  · have hf := z_iteF hf c11
    refine zj_iconst (v := 0) hC dX8_years_19 (by decide) ?_
    refine zj_istore_n (lv1 := [(2, .int 0), (0, .ref (q 0)), (1, .int a0)]) hC dX8_years_20 (by decide) rfl ?_
    exact zj_sub hC [1, 2, 0] rfl (hJ21 a0 0 g9 hf)
  · have hf := z_iteT hf c11
    refine zj_iconst (v := 0) hC dX8_years_17 (by decide) ?_
    exact zj_zreturn hC hf dX8_years_18

def fM_X8_cut_36  (g : z_G) : Option (Int32 × z_G) := some ((-1), g)
def fM_X8_cut (a0 : Int32) (g : z_G) : Option (Int32 × z_G) := z_let (z_up g 0 0 0) (fun g1 => z_bind (fM_X8_in ((a0 : Int32).toInt64) 0 (((g1 0 52) - 1 : Int32).toInt64) g1) (fun r2 g3 => (if r2 = 0 then fM_X8_cut_36 g3 else z_ck a0 12 (z_ck a0 12 ((if (g3 39 (Int32.toNatClampNeg a0)) ≤ (g3 38 (Int32.toNatClampNeg a0)) then z_ck a0 12 (z_let (z_up g3 38 (Int32.toNatClampNeg a0) 0) (fun g10 => z_ck a0 12 (some (g10 40 (Int32.toNatClampNeg a0), g10)))) else fM_X8_cut_36 g3))))))
theorem nM_X8_cut : yX8_cut.cls = RX8 ∧ yX8_cut.cls ≠ "java/lang/invoke/MethodHandle" ∧ yX8_cut.cls ≠ "java/lang/invoke/VarHandle" ∧ (parseMethodDescriptor yX8_cut.desc).map (fun d => d.parameters.length) = some 1 := by decide +kernel
set_option maxRecDepth 100000 in
set_option maxHeartbeats 4000000 in
theorem cM_X8_cut (l : Launch) (dC : Nat → ClassId) (dI : Nat → Nat → Nat) (ca : Nat → ClassId) (q : Nat → Nat) (Zt : z_ZT) (hZt : z_Zok Zt) (a0 : Int32) (g : z_G) (r : Int32) (g' : z_G) (hf : fM_X8_cut a0 g = some (r, g')) : z_C l yX8_cut wsX8_cut { frames := 1, cells := 0, slots := 0, locals := 25 } (dC, dI) (tyM ca) (wM ca q) Zt [.ref (q 0), .int a0] g (some r) g' := by
  refine z_enter (wM_ok ca q) hZt (by decide +kernel) rfl (Nat.le_of_ble_eq_true rfl) (fun J hC => ?_)
  have hC : z_Cx J l cX8_cut 2 wsX8_cut RX8 (some .int) { frames := 1, cells := 0, slots := 0, locals := 25 } (dC, dI) (tyM ca) (wM ca q) Zt (z_QI (dC, dI) (tyM ca) (wM ca q) (some r) g') z_X0 := hC
  show J 0 [(0, .ref (q 0)), (1, .int a0)] [] g
  have hX8 : ∀ w ∈ wsX80, w ∈ wsX8_cut := fun _ h => List.mem_cons_of_mem _ (List.mem_append_right _ (h))
  have hJ36 : ∀ (g : z_G), fM_X8_cut_36 g = some (r, g') → J 36 [] [] g := by
    intro g hf
    unfold fM_X8_cut_36 at hf
    refine zj_iconst (v := (-1)) hC dX8_cut_36 (by decide) ?_
    exact zj_ireturn hC hf dX8_cut_37
  unfold fM_X8_cut at hf
  refine zj_aload_n 0 hC dX8_cut_0 rfl ?_
  refine zj_iconst (v := 0) hC dX8_cut_1 (by decide) ?_
  refine mp_0_0 hC hX8 (List.mem_of_getElem? (i := 1) rfl) dX8_cut_2 (fun g1 eg1 => ?_)
  have hf := z_letE hf eg1
  refine zj_iload_n 1 hC dX8_cut_5 rfl ?_
  refine zj_i2l hC dX8_cut_6 ?_
  refine zj_lconst (v := 0) hC dX8_cut_7 (by decide) ?_
  refine zj_aload_n 0 hC dX8_cut_8 rfl ?_
  refine mg_0_52 hC hX8 (List.mem_of_getElem? (i := 2) rfl) dX8_cut_9 ?_
  refine zj_iconst (v := 1) hC dX8_cut_12 (by decide) ?_
  refine zj_isub hC dX8_cut_13 ?_
  refine zj_i2l hC dX8_cut_14 ?_
  obtain ⟨r2, g3, hq4, hf⟩ := z_bindE hf
  refine zj_callSi [.long ((a0 : Int32).toInt64), .long 0, .long (((g1 0 52) - 1 : Int32).toInt64)] hC (cM_X8_in l dC dI ca q Zt hZt ((a0 : Int32).toInt64) 0 (((g1 0 52) - 1 : Int32).toInt64) g1 r2 g3 hq4) gX8_cut_X8_in rfl nM_X8_in ⟨Nat.le_of_ble_eq_true rfl, Nat.le_of_ble_eq_true rfl⟩ rfl (Nat.le_of_ble_eq_true rfl) dX8_cut_15 rfl ?_
  refine zj_if_eq 36 hC dX8_cut_18 (by decide) (fun c5 => ?_) (fun c5 => ?_)
  · have hf := z_iteT hf c5
    exact zj_sub hC [] rfl (hJ36 g3 hf)
  · have hf := z_iteF hf c5
    refine zj_aload_n 0 hC dX8_cut_21 rfl ?_
    refine mg_0_53 hC hX8 (List.mem_of_getElem? (i := 3) rfl) dX8_cut_22 ?_
    refine zj_iload_n 1 hC dX8_cut_25 rfl ?_
    obtain ⟨hq6, hf⟩ := z_ckE hf
    refine ma_38 hC hq6 dX8_cut_26 ?_
    refine zj_aload_n 0 hC dX8_cut_27 rfl ?_
    refine mg_0_54 hC hX8 (List.mem_of_getElem? (i := 4) rfl) dX8_cut_28 ?_
    refine zj_iload_n 1 hC dX8_cut_31 rfl ?_
    obtain ⟨hq7, hf⟩ := z_ckE hf
    refine ma_39 hC hq7 dX8_cut_32 ?_
    refine zj_icmp_ge 38 hC dX8_cut_33 (by decide) (fun c8 => ?_) (fun c8 => ?_)
    · have hf := z_iteT hf c8
      refine zj_aload_n 0 hC dX8_cut_38 rfl ?_
      refine mg_0_53 hC hX8 (List.mem_of_getElem? (i := 3) rfl) dX8_cut_39 ?_
      refine zj_iload_n 1 hC dX8_cut_42 rfl ?_
      refine zj_iconst (v := 0) hC dX8_cut_43 (by decide) ?_
      obtain ⟨hq9, hf⟩ := z_ckE hf
      refine ms_38 hC hq9 dX8_cut_44 (fun g10 eg10 => ?_)
      have hf := z_letE hf eg10
      refine zj_aload_n 0 hC dX8_cut_45 rfl ?_
      refine mg_0_55 hC hX8 (List.mem_of_getElem? (i := 5) rfl) dX8_cut_46 ?_
      refine zj_iload_n 1 hC dX8_cut_49 rfl ?_
      obtain ⟨hq11, hf⟩ := z_ckE hf
      refine ma_40 hC hq11 dX8_cut_50 ?_
      exact zj_ireturn hC hf dX8_cut_51
    · have hf := z_iteF hf c8
      exact zj_sub hC [] rfl (hJ36 g3 hf)

def fM_X8_loadsOf_47 (k4 : Int32 × Int32 × Int32 × z_G → Option (Int32 × z_G)) (x1 : Int32) (x2 : Int32) (x3 : Int32) (g : z_G) : Option (Int32 × z_G) := z_let (x3 + 1) (fun y1 => k4 (x1, x2, y1, g))
def fM_X8_loadsOf_4 (k4 : Int32 × Int32 × Int32 × z_G → Option (Int32 × z_G)) (x1 : Int32) (x2 : Int32) (x3 : Int32) (g : z_G) : Option (Int32 × z_G) := (if (g 0 52) ≤ x3 then some (x2, g) else (if ((x1 >>> (x3 &&& 31)) &&& 1) = 1 then z_ck x3 12 (z_ck x3 12 ((if (g 39 (Int32.toNatClampNeg x3)) ≤ (g 38 (Int32.toNatClampNeg x3)) then z_ck x3 12 (z_let (x2 + (g 40 (Int32.toNatClampNeg x3))) (fun y8 => fM_X8_loadsOf_47 k4 x1 y8 x3 g)) else some ((-1), g)))) else fM_X8_loadsOf_47 k4 x1 x2 x3 g))
def fM_X8_loadsOf_4_go (x1 : Int32) (x2 : Int32) (x3 : Int32) (g : z_G) : Option (Int32 × z_G) := z_loop (fun k (w : Int32 × Int32 × Int32 × z_G) => fM_X8_loadsOf_4 k w.1 w.2.1 w.2.2.1 w.2.2.2) z_fuel (x1, x2, x3, g)
def fM_X8_loadsOf (a0 : Int32) (g : z_G) : Option (Int32 × z_G) := fM_X8_loadsOf_4_go a0 0 0 g
theorem nM_X8_loadsOf : yX8_loadsOf.cls = RX8 ∧ yX8_loadsOf.cls ≠ "java/lang/invoke/MethodHandle" ∧ yX8_loadsOf.cls ≠ "java/lang/invoke/VarHandle" ∧ (parseMethodDescriptor yX8_loadsOf.desc).map (fun d => d.parameters.length) = some 1 := by decide +kernel
set_option maxRecDepth 100000 in
set_option maxHeartbeats 4000000 in
theorem cM_X8_loadsOf (l : Launch) (dC : Nat → ClassId) (dI : Nat → Nat → Nat) (ca : Nat → ClassId) (q : Nat → Nat) (Zt : z_ZT) (hZt : z_Zok Zt) (a0 : Int32) (g : z_G) (r : Int32) (g' : z_G) (hf : fM_X8_loadsOf a0 g = some (r, g')) : z_C l yX8_loadsOf wsX8_loadsOf { frames := 0, cells := 0, slots := 0, locals := 0 } (dC, dI) (tyM ca) (wM ca q) Zt [.ref (q 0), .int a0] g (some r) g' := by
  refine z_enter (wM_ok ca q) hZt (by decide +kernel) rfl (Nat.le_of_ble_eq_true rfl) (fun J hC => ?_)
  have hC : z_Cx J l cX8_loadsOf 4 wsX8_loadsOf RX8 (some .int) { frames := 0, cells := 0, slots := 0, locals := 0 } (dC, dI) (tyM ca) (wM ca q) Zt (z_QI (dC, dI) (tyM ca) (wM ca q) (some r) g') z_X0 := hC
  show J 0 [(0, .ref (q 0)), (1, .int a0)] [] g
  have hX8 : ∀ w ∈ wsX80, w ∈ wsX8_loadsOf := fun _ h => List.mem_cons_of_mem _ (List.mem_append_right _ (h))
  have hJ47 : ∀ (k4 : Int32 × Int32 × Int32 × z_G → Option (Int32 × z_G)) (_ : ∀ w : Int32 × Int32 × Int32 × z_G, k4 w = some (r, g') → J 4 [(0, .ref (q 0)), (1, .int w.1), (2, .int w.2.1), (3, .int w.2.2.1)] [] w.2.2.2) (x1 : Int32) (x2 : Int32) (x3 : Int32) (g : z_G), fM_X8_loadsOf_47 k4 x1 x2 x3 g = some (r, g') → J 47 [(0, .ref (q 0)), (1, .int x1), (2, .int x2), (3, .int x3)] [] g := by
    intro k4 hk4 x1 x2 x3 g hf
    unfold fM_X8_loadsOf_47 at hf
    refine zj_iinc (lv1 := fun v => [(3, .int v), (0, .ref (q 0)), (1, .int x1), (2, .int x2)]) 3 hC dX8_loadsOf_47 rfl (by decide) (fun _ => rfl) (fun y1 ey1 => ?_)
    have hf := z_letE hf (show y1 = x3 + 1 from ey1)
    refine zj_goto 4 hC dX8_loadsOf_50 (by decide) ?_
    exact zj_sub hC [1, 2, 3, 0] rfl (hk4 (x1, x2, y1, g) hf)
  have hJ4 : ∀ (x1 : Int32) (x2 : Int32) (x3 : Int32) (g : z_G), fM_X8_loadsOf_4_go x1 x2 x3 g = some (r, g') → J 4 [(0, .ref (q 0)), (1, .int x1), (2, .int x2), (3, .int x3)] [] g := by
    intro x1 x2 x3 g hf
    refine z_loopE (P := fun w : Int32 × Int32 × Int32 × z_G => J 4 [(0, .ref (q 0)), (1, .int w.1), (2, .int w.2.1), (3, .int w.2.2.1)] [] w.2.2.2) (fun k4 hk4 w hf => ?_) z_fuel (x1, x2, x3, g) hf
    obtain ⟨x1, x2, x3, g⟩ := w
    have hf : fM_X8_loadsOf_4 k4 x1 x2 x3 g = some (r, g') := hf
    show J 4 [(0, .ref (q 0)), (1, .int x1), (2, .int x2), (3, .int x3)] [] g
    unfold fM_X8_loadsOf_4 at hf
    refine zj_iload_n 3 hC dX8_loadsOf_4 rfl ?_
    refine zj_aload_n 0 hC dX8_loadsOf_5 rfl ?_
    refine mg_0_52 hC hX8 (List.mem_of_getElem? (i := 1) rfl) dX8_loadsOf_6 ?_
    refine zj_icmp_ge 53 hC dX8_loadsOf_9 (by decide) (fun c2 => ?_) (fun c2 => ?_)
    · have hf := z_iteT hf c2
      refine zj_iload_n 2 hC dX8_loadsOf_53 rfl ?_
      exact zj_ireturn hC hf dX8_loadsOf_54
    · have hf := z_iteF hf c2
      refine zj_iload_n 1 hC dX8_loadsOf_12 rfl ?_
      refine zj_iload_n 3 hC dX8_loadsOf_13 rfl ?_
      refine zj_ishr hC dX8_loadsOf_14 ?_
      refine zj_iconst (v := 1) hC dX8_loadsOf_15 (by decide) ?_
      refine zj_iand hC dX8_loadsOf_16 ?_
      refine zj_iconst (v := 1) hC dX8_loadsOf_17 (by decide) ?_
      refine zj_icmp_ne 47 hC dX8_loadsOf_18 (by decide) (fun c3 => ?_) (fun c3 => ?_)
      · have hf := z_iteF hf c3
        exact (hJ47 k4 hk4 x1 x2 x3 g hf)
      · have hf := z_iteT hf c3
        refine zj_aload_n 0 hC dX8_loadsOf_21 rfl ?_
        refine mg_0_53 hC hX8 (List.mem_of_getElem? (i := 2) rfl) dX8_loadsOf_22 ?_
        refine zj_iload_n 3 hC dX8_loadsOf_25 rfl ?_
        obtain ⟨hq4, hf⟩ := z_ckE hf
        refine ma_38 hC hq4 dX8_loadsOf_26 ?_
        refine zj_aload_n 0 hC dX8_loadsOf_27 rfl ?_
        refine mg_0_54 hC hX8 (List.mem_of_getElem? (i := 3) rfl) dX8_loadsOf_28 ?_
        refine zj_iload_n 3 hC dX8_loadsOf_31 rfl ?_
        obtain ⟨hq5, hf⟩ := z_ckE hf
        refine ma_39 hC hq5 dX8_loadsOf_32 ?_
        refine zj_icmp_ge 38 hC dX8_loadsOf_33 (by decide) (fun c6 => ?_) (fun c6 => ?_)
        · have hf := z_iteT hf c6
          refine zj_iload_n 2 hC dX8_loadsOf_38 rfl ?_
          refine zj_aload_n 0 hC dX8_loadsOf_39 rfl ?_
          refine mg_0_55 hC hX8 (List.mem_of_getElem? (i := 4) rfl) dX8_loadsOf_40 ?_
          refine zj_iload_n 3 hC dX8_loadsOf_43 rfl ?_
          obtain ⟨hq7, hf⟩ := z_ckE hf
          refine ma_40 hC hq7 dX8_loadsOf_44 ?_
          refine zj_iadd hC dX8_loadsOf_45 ?_
          refine zj_top (fun y8 ey8 => ?_)
          have hf := z_letE hf ey8
          refine zj_istore_n (lv1 := [(2, .int y8), (0, .ref (q 0)), (1, .int x1), (3, .int x3)]) hC dX8_loadsOf_46 (by decide) rfl ?_
          exact zj_sub hC [1, 2, 0, 3] rfl (hJ47 k4 hk4 x1 y8 x3 g hf)
        · have hf := z_iteF hf c6
          refine zj_iconst (v := (-1)) hC dX8_loadsOf_36 (by decide) ?_
          exact zj_ireturn hC hf dX8_loadsOf_37
  unfold fM_X8_loadsOf at hf
  refine zj_iconst (v := 0) hC dX8_loadsOf_0 (by decide) ?_
  refine zj_istore_n (lv1 := [(2, .int 0), (0, .ref (q 0)), (1, .int a0)]) hC dX8_loadsOf_1 (by decide) rfl ?_
  refine zj_iconst (v := 0) hC dX8_loadsOf_2 (by decide) ?_
  refine zj_istore_n (lv1 := [(3, .int 0), (2, .int 0), (0, .ref (q 0)), (1, .int a0)]) hC dX8_loadsOf_3 (by decide) rfl ?_
  exact zj_sub hC [2, 3, 1, 0] rfl (hJ4 a0 0 0 g hf)

def fM_J6_bitCount_0f7a4 (a0 : Int32) (g : z_G) : Option (Int32 × z_G) := z_let (a0 - ((((a0 : Int32).toUInt32 >>> ((1 : Int32).toUInt32 &&& Int32.toUInt32 31)).toInt32) &&& 1431655765)) (fun y1 => z_let ((y1 &&& 858993459) + ((((y1 : Int32).toUInt32 >>> ((2 : Int32).toUInt32 &&& Int32.toUInt32 31)).toInt32) &&& 858993459)) (fun y2 => z_let ((y2 + (((y2 : Int32).toUInt32 >>> ((4 : Int32).toUInt32 &&& Int32.toUInt32 31)).toInt32)) &&& 252645135) (fun y3 => z_let (y3 + (((y3 : Int32).toUInt32 >>> ((8 : Int32).toUInt32 &&& Int32.toUInt32 31)).toInt32)) (fun y4 => z_let (y4 + (((y4 : Int32).toUInt32 >>> ((16 : Int32).toUInt32 &&& Int32.toUInt32 31)).toInt32)) (fun y5 => some (y5 &&& 63, g))))))
theorem nM_J6_bitCount_0f7a4 : yJ6_bitCount_0f7a4.cls ≠ "java/lang/invoke/MethodHandle" ∧ yJ6_bitCount_0f7a4.cls ≠ "java/lang/invoke/VarHandle" ∧ (parseMethodDescriptor yJ6_bitCount_0f7a4.desc).map (fun d => d.parameters.length) = some 1 := by decide +kernel
set_option maxRecDepth 100000 in
set_option maxHeartbeats 4000000 in
theorem cM_J6_bitCount_0f7a4 (l : Launch) (dC : Nat → ClassId) (dI : Nat → Nat → Nat) (ca : Nat → ClassId) (q : Nat → Nat) (Zt : z_ZT) (hZt : z_Zok Zt) (a0 : Int32) (g : z_G) (r : Int32) (g' : z_G) (hf : fM_J6_bitCount_0f7a4 a0 g = some (r, g')) : z_C l yJ6_bitCount_0f7a4 wsJ6_bitCount_0f7a4 { frames := 0, cells := 0, slots := 0, locals := 0 } (dC, dI) (tyM ca) (wM ca q) Zt [.int a0] g (some r) g' := by
  refine z_enter (wM_ok ca q) hZt (by decide +kernel) rfl (Nat.le_of_ble_eq_true rfl) (fun J hC => ?_)
  have hC : z_Cx J l cJ6_bitCount_0f7a4 1 wsJ6_bitCount_0f7a4 RJ6 (some .int) { frames := 0, cells := 0, slots := 0, locals := 0 } (dC, dI) (tyM ca) (wM ca q) Zt (z_QI (dC, dI) (tyM ca) (wM ca q) (some r) g') z_X0 := hC
  show J 0 [(0, .int a0)] [] g
  unfold fM_J6_bitCount_0f7a4 at hf
  refine zj_iload_n 0 hC dJ6_bitCount_0f7a4_0 rfl ?_
  refine zj_iload_n 0 hC dJ6_bitCount_0f7a4_1 rfl ?_
  refine zj_iconst (v := 1) hC dJ6_bitCount_0f7a4_2 (by decide) ?_
  refine zj_iushr hC dJ6_bitCount_0f7a4_3 ?_
  refine zj_ldcw (v := 1431655765) hC (List.mem_of_getElem? (i := 1) rfl) dJ6_bitCount_0f7a4_4 ?_
  refine zj_iand hC dJ6_bitCount_0f7a4_7 ?_
  refine zj_isub hC dJ6_bitCount_0f7a4_8 ?_
  refine zj_top (fun y1 ey1 => ?_)
  have hf := z_letE hf ey1
  refine zj_istore_n (lv1 := [(0, .int y1)]) hC dJ6_bitCount_0f7a4_9 (by decide) rfl ?_
  refine zj_iload_n 0 hC dJ6_bitCount_0f7a4_10 rfl ?_
  refine zj_ldcw (v := 858993459) hC (List.mem_of_getElem? (i := 2) rfl) dJ6_bitCount_0f7a4_11 ?_
  refine zj_iand hC dJ6_bitCount_0f7a4_14 ?_
  refine zj_iload_n 0 hC dJ6_bitCount_0f7a4_15 rfl ?_
  refine zj_iconst (v := 2) hC dJ6_bitCount_0f7a4_16 (by decide) ?_
  refine zj_iushr hC dJ6_bitCount_0f7a4_17 ?_
  refine zj_ldcw (v := 858993459) hC (List.mem_of_getElem? (i := 2) rfl) dJ6_bitCount_0f7a4_18 ?_
  refine zj_iand hC dJ6_bitCount_0f7a4_21 ?_
  refine zj_iadd hC dJ6_bitCount_0f7a4_22 ?_
  refine zj_top (fun y2 ey2 => ?_)
  have hf := z_letE hf ey2
  refine zj_istore_n (lv1 := [(0, .int y2)]) hC dJ6_bitCount_0f7a4_23 (by decide) rfl ?_
  refine zj_iload_n 0 hC dJ6_bitCount_0f7a4_24 rfl ?_
  refine zj_iload_n 0 hC dJ6_bitCount_0f7a4_25 rfl ?_
  refine zj_iconst (v := 4) hC dJ6_bitCount_0f7a4_26 (by decide) ?_
  refine zj_iushr hC dJ6_bitCount_0f7a4_27 ?_
  refine zj_iadd hC dJ6_bitCount_0f7a4_28 ?_
  refine zj_ldcw (v := 252645135) hC (List.mem_of_getElem? (i := 3) rfl) dJ6_bitCount_0f7a4_29 ?_
  refine zj_iand hC dJ6_bitCount_0f7a4_32 ?_
  refine zj_top (fun y3 ey3 => ?_)
  have hf := z_letE hf ey3
  refine zj_istore_n (lv1 := [(0, .int y3)]) hC dJ6_bitCount_0f7a4_33 (by decide) rfl ?_
  refine zj_iload_n 0 hC dJ6_bitCount_0f7a4_34 rfl ?_
  refine zj_iload_n 0 hC dJ6_bitCount_0f7a4_35 rfl ?_
  refine zj_bipush (v := 8) hC dJ6_bitCount_0f7a4_36 (by decide) ?_
  refine zj_iushr hC dJ6_bitCount_0f7a4_38 ?_
  refine zj_iadd hC dJ6_bitCount_0f7a4_39 ?_
  refine zj_top (fun y4 ey4 => ?_)
  have hf := z_letE hf ey4
  refine zj_istore_n (lv1 := [(0, .int y4)]) hC dJ6_bitCount_0f7a4_40 (by decide) rfl ?_
  refine zj_iload_n 0 hC dJ6_bitCount_0f7a4_41 rfl ?_
  refine zj_iload_n 0 hC dJ6_bitCount_0f7a4_42 rfl ?_
  refine zj_bipush (v := 16) hC dJ6_bitCount_0f7a4_43 (by decide) ?_
  refine zj_iushr hC dJ6_bitCount_0f7a4_45 ?_
  refine zj_iadd hC dJ6_bitCount_0f7a4_46 ?_
  refine zj_top (fun y5 ey5 => ?_)
  have hf := z_letE hf ey5
  refine zj_istore_n (lv1 := [(0, .int y5)]) hC dJ6_bitCount_0f7a4_47 (by decide) rfl ?_
  refine zj_iload_n 0 hC dJ6_bitCount_0f7a4_48 rfl ?_
  refine zj_bipush (v := 63) hC dJ6_bitCount_0f7a4_49 (by decide) ?_
  refine zj_iand hC dJ6_bitCount_0f7a4_51 ?_
  exact zj_ireturn hC hf dJ6_bitCount_0f7a4_52

def fM_X8_plan_97 (k27 : Int32 × Int32 × Int32 × Int32 × z_G → Option (Int32 × z_G)) (x1 : Int32) (x2 : Int32) (x3 : Int32) (x4 : Int32) (g : z_G) : Option (Int32 × z_G) := z_let (x4 + 1) (fun y1 => k27 (x1, x2, x3, y1, g))
def fM_X8_plan_91 (k27 : Int32 × Int32 × Int32 × Int32 × z_G → Option (Int32 × z_G)) (x1 : Int32) (x4 : Int32) (x5 : Int32) (g : z_G) : Option (Int32 × z_G) := fM_X8_plan_97 k27 x1 x4 x5 x4 g
def fM_X8_plan_73 (k27 : Int32 × Int32 × Int32 × Int32 × z_G → Option (Int32 × z_G)) (s0 : Int32) (x1 : Int32) (x2 : Int32) (x3 : Int32) (x4 : Int32) (x5 : Int32) (g : z_G) : Option (Int32 × z_G) := (if s0 < 0 then fM_X8_plan_91 k27 x1 x4 x5 g else (if s0 = 0 then (if x3 ≤ x5 then fM_X8_plan_97 k27 x1 x2 x3 x4 g else fM_X8_plan_91 k27 x1 x4 x5 g) else fM_X8_plan_97 k27 x1 x2 x3 x4 g))
def fM_X8_plan_27 (k27 : Int32 × Int32 × Int32 × Int32 × z_G → Option (Int32 × z_G)) (x1 : Int32) (x2 : Int32) (x3 : Int32) (x4 : Int32) (g : z_G) : Option (Int32 × z_G) := (if (1 <<< ((g 0 52) &&& 31)) ≤ x4 then some (x2, g) else z_bind (fM_X8_loadsOf x4 g) (fun r6 g7 => (if x1 ≤ r6 then (if 0 ≤ x2 then z_bind (fM_J6_bitCount_0f7a4 x4 g7) (fun r11 g12 => z_bind (fM_J6_bitCount_0f7a4 x2 g12) (fun r14 g15 => fM_X8_plan_73 k27 (r11 - r14) x1 x2 x3 x4 r6 g15)) else fM_X8_plan_73 k27 (-1) x1 x2 x3 x4 r6 g7) else fM_X8_plan_97 k27 x1 x2 x3 x4 g7)))
def fM_X8_plan_27_go (x1 : Int32) (x2 : Int32) (x3 : Int32) (x4 : Int32) (g : z_G) : Option (Int32 × z_G) := z_loop (fun k (w : Int32 × Int32 × Int32 × Int32 × z_G) => fM_X8_plan_27 k w.1 w.2.1 w.2.2.1 w.2.2.2.1 w.2.2.2.2) z_fuel (x1, x2, x3, x4, g)
def fM_X8_plan (a0 : Int32) (g : z_G) : Option (Int32 × z_G) := z_let (z_up g 0 0 0) (fun g17 => z_bind (fM_X8_in ((a0 : Int32).toInt64) 1 20000 g17) (fun r18 g19 => (if r18 = 0 then some ((-1), g19) else fM_X8_plan_27_go a0 (-3) 0 0 g19)))
theorem nM_X8_plan : yX8_plan.cls = RX8 ∧ yX8_plan.cls ≠ "java/lang/invoke/MethodHandle" ∧ yX8_plan.cls ≠ "java/lang/invoke/VarHandle" ∧ (parseMethodDescriptor yX8_plan.desc).map (fun d => d.parameters.length) = some 1 := by decide +kernel
set_option maxRecDepth 100000 in
set_option maxHeartbeats 4000000 in
theorem cM_X8_plan (l : Launch) (dC : Nat → ClassId) (dI : Nat → Nat → Nat) (ca : Nat → ClassId) (q : Nat → Nat) (Zt : z_ZT) (hZt : z_Zok Zt) (a0 : Int32) (g : z_G) (r : Int32) (g' : z_G) (hf : fM_X8_plan a0 g = some (r, g')) : z_C l yX8_plan wsX8_plan { frames := 1, cells := 0, slots := 0, locals := 25 } (dC, dI) (tyM ca) (wM ca q) Zt [.ref (q 0), .int a0] g (some r) g' := by
  refine z_enter (wM_ok ca q) hZt (by decide +kernel) rfl (Nat.le_of_ble_eq_true rfl) (fun J hC => ?_)
  have hC : z_Cx J l cX8_plan 7 wsX8_plan RX8 (some .int) { frames := 1, cells := 0, slots := 0, locals := 25 } (dC, dI) (tyM ca) (wM ca q) Zt (z_QI (dC, dI) (tyM ca) (wM ca q) (some r) g') z_X0 := hC
  show J 0 [(0, .ref (q 0)), (1, .int a0)] [] g
  have hX8 : ∀ w ∈ wsX80, w ∈ wsX8_plan := fun _ h => List.mem_cons_of_mem _ (List.mem_append_right _ (h))
  have hJ97 : ∀ (k27 : Int32 × Int32 × Int32 × Int32 × z_G → Option (Int32 × z_G)) (_ : ∀ w : Int32 × Int32 × Int32 × Int32 × z_G, k27 w = some (r, g') → J 27 [(0, .ref (q 0)), (1, .int w.1), (2, .int w.2.1), (3, .int w.2.2.1), (4, .int w.2.2.2.1)] [] w.2.2.2.2) (x1 : Int32) (x2 : Int32) (x3 : Int32) (x4 : Int32) (g : z_G), fM_X8_plan_97 k27 x1 x2 x3 x4 g = some (r, g') → J 97 [(0, .ref (q 0)), (1, .int x1), (2, .int x2), (3, .int x3), (4, .int x4)] [] g := by
    intro k27 hk27 x1 x2 x3 x4 g hf
    unfold fM_X8_plan_97 at hf
    refine zj_iinc (lv1 := fun v => [(4, .int v), (0, .ref (q 0)), (1, .int x1), (2, .int x2), (3, .int x3)]) 4 hC dX8_plan_97 rfl (by decide) (fun _ => rfl) (fun y1 ey1 => ?_)
    have hf := z_letE hf (show y1 = x4 + 1 from ey1)
    refine zj_goto 27 hC dX8_plan_100 (by decide) ?_
    exact zj_sub hC [1, 2, 3, 4, 0] rfl (hk27 (x1, x2, x3, y1, g) hf)
  have hJ91 : ∀ (k27 : Int32 × Int32 × Int32 × Int32 × z_G → Option (Int32 × z_G)) (_ : ∀ w : Int32 × Int32 × Int32 × Int32 × z_G, k27 w = some (r, g') → J 27 [(0, .ref (q 0)), (1, .int w.1), (2, .int w.2.1), (3, .int w.2.2.1), (4, .int w.2.2.2.1)] [] w.2.2.2.2) (x1 : Int32) (x4 : Int32) (x5 : Int32) (g : z_G), fM_X8_plan_91 k27 x1 x4 x5 g = some (r, g') → J 91 [(0, .ref (q 0)), (1, .int x1), (4, .int x4), (5, .int x5)] [] g := by
    intro k27 hk27 x1 x4 x5 g hf
    unfold fM_X8_plan_91 at hf
    refine zj_iload 2 hC dX8_plan_91 rfl ?_
    refine zj_istore_n (lv1 := [(2, .int x4), (0, .ref (q 0)), (1, .int x1), (4, .int x4), (5, .int x5)]) hC dX8_plan_93 (by decide) rfl ?_
    refine zj_iload 4 hC dX8_plan_94 rfl ?_
    refine zj_istore_n (lv1 := [(3, .int x5), (2, .int x4), (0, .ref (q 0)), (1, .int x1), (4, .int x4), (5, .int x5)]) hC dX8_plan_96 (by decide) rfl ?_
    exact zj_sub hC [2, 3, 1, 0, 4] rfl (hJ97 k27 hk27 x1 x4 x5 x4 g hf)
  have hJ73 : ∀ (k27 : Int32 × Int32 × Int32 × Int32 × z_G → Option (Int32 × z_G)) (_ : ∀ w : Int32 × Int32 × Int32 × Int32 × z_G, k27 w = some (r, g') → J 27 [(0, .ref (q 0)), (1, .int w.1), (2, .int w.2.1), (3, .int w.2.2.1), (4, .int w.2.2.2.1)] [] w.2.2.2.2) (s0 : Int32) (x1 : Int32) (x2 : Int32) (x3 : Int32) (x4 : Int32) (x5 : Int32) (g : z_G), fM_X8_plan_73 k27 s0 x1 x2 x3 x4 x5 g = some (r, g') → J 73 [(0, .ref (q 0)), (1, .int x1), (2, .int x2), (3, .int x3), (4, .int x4), (5, .int x5)] [.int s0] g := by
    intro k27 hk27 s0 x1 x2 x3 x4 x5 g hf
    unfold fM_X8_plan_73 at hf
    refine zj_istore (lv1 := [(6, .int s0), (0, .ref (q 0)), (1, .int x1), (2, .int x2), (3, .int x3), (4, .int x4), (5, .int x5)]) hC dX8_plan_73 (by decide) rfl ?_
    refine zj_iload 0 hC dX8_plan_75 rfl ?_
    refine zj_if_lt 91 hC dX8_plan_77 (by decide) (fun c2 => ?_) (fun c2 => ?_)
    · have hf := z_iteT hf c2
      exact zj_sub hC [1, 2, 5, 6] rfl (hJ91 k27 hk27 x1 x4 x5 g hf)
    · have hf := z_iteF hf c2
      refine zj_iload 0 hC dX8_plan_80 rfl ?_
      refine zj_if_ne 97 hC dX8_plan_82 (by decide) (fun c3 => ?_) (fun c3 => ?_)
      · have hf := z_iteF hf c3
        exact zj_sub hC [1, 2, 3, 4, 5] rfl (hJ97 k27 hk27 x1 x2 x3 x4 g hf)
      · have hf := z_iteT hf c3
        refine zj_iload 6 hC dX8_plan_85 rfl ?_
        refine zj_iload_n 4 hC dX8_plan_87 rfl ?_
        refine zj_icmp_ge 97 hC dX8_plan_88 (by decide) (fun c4 => ?_) (fun c4 => ?_)
        · have hf := z_iteT hf c4
          exact zj_sub hC [1, 2, 3, 4, 5] rfl (hJ97 k27 hk27 x1 x2 x3 x4 g hf)
        · have hf := z_iteF hf c4
          exact zj_sub hC [1, 2, 5, 6] rfl (hJ91 k27 hk27 x1 x4 x5 g hf)
  have hJ27 : ∀ (x1 : Int32) (x2 : Int32) (x3 : Int32) (x4 : Int32) (g : z_G), fM_X8_plan_27_go x1 x2 x3 x4 g = some (r, g') → J 27 [(0, .ref (q 0)), (1, .int x1), (2, .int x2), (3, .int x3), (4, .int x4)] [] g := by
    intro x1 x2 x3 x4 g hf
    refine z_loopE (P := fun w : Int32 × Int32 × Int32 × Int32 × z_G => J 27 [(0, .ref (q 0)), (1, .int w.1), (2, .int w.2.1), (3, .int w.2.2.1), (4, .int w.2.2.2.1)] [] w.2.2.2.2) (fun k27 hk27 w hf => ?_) z_fuel (x1, x2, x3, x4, g) hf
    obtain ⟨x1, x2, x3, x4, g⟩ := w
    have hf : fM_X8_plan_27 k27 x1 x2 x3 x4 g = some (r, g') := hf
    show J 27 [(0, .ref (q 0)), (1, .int x1), (2, .int x2), (3, .int x3), (4, .int x4)] [] g
    unfold fM_X8_plan_27 at hf
    refine zj_iload 4 hC dX8_plan_27 rfl ?_
    refine zj_iconst (v := 1) hC dX8_plan_29 (by decide) ?_
    refine zj_aload_n 0 hC dX8_plan_30 rfl ?_
    refine mg_0_52 hC hX8 (List.mem_of_getElem? (i := 3) rfl) dX8_plan_31 ?_
    refine zj_ishl hC dX8_plan_34 ?_
    refine zj_icmp_ge 103 hC dX8_plan_35 (by decide) (fun c5 => ?_) (fun c5 => ?_)
    · have hf := z_iteT hf c5
      refine zj_iload_n 2 hC dX8_plan_103 rfl ?_
      exact zj_ireturn hC hf dX8_plan_104
    · have hf := z_iteF hf c5
      refine zj_aload_n 0 hC dX8_plan_38 rfl ?_
      refine zj_iload 4 hC dX8_plan_39 rfl ?_
      obtain ⟨r6, g7, hq8, hf⟩ := z_bindE hf
      refine zj_callVi [.int x4] hC (cM_X8_loadsOf l dC dI ca q Zt hZt x4 g r6 g7 hq8) gX8_plan_X8_loadsOf rfl nM_X8_loadsOf ⟨Nat.le_of_ble_eq_true rfl, Nat.le_of_ble_eq_true rfl⟩ 0 mo_0 rfl rfl rfl (Nat.le_of_ble_eq_true rfl) dX8_plan_41 rfl ?_
      refine zj_istore (lv1 := [(5, .int r6), (0, .ref (q 0)), (1, .int x1), (2, .int x2), (3, .int x3), (4, .int x4)]) hC dX8_plan_44 (by decide) rfl ?_
      refine zj_iload 0 hC dX8_plan_46 rfl ?_
      refine zj_iload_n 2 hC dX8_plan_48 rfl ?_
      refine zj_icmp_ge 55 hC dX8_plan_49 (by decide) (fun c9 => ?_) (fun c9 => ?_)
      · have hf := z_iteT hf c9
        refine zj_iload_n 3 hC dX8_plan_55 rfl ?_
        refine zj_if_ge 63 hC dX8_plan_56 (by decide) (fun c10 => ?_) (fun c10 => ?_)
        · have hf := z_iteT hf c10
          refine zj_iload 5 hC dX8_plan_63 rfl ?_
          obtain ⟨r11, g12, hq13, hf⟩ := z_bindE hf
          refine zj_callSi [.int x4] hC (cM_J6_bitCount_0f7a4 l dC dI ca q Zt hZt x4 g7 r11 g12 hq13) gX8_plan_J6_bitCount_0f7a4 rfl nM_J6_bitCount_0f7a4 ⟨Nat.le_of_ble_eq_true rfl, Nat.le_of_ble_eq_true rfl⟩ rfl (Nat.le_of_ble_eq_true rfl) dX8_plan_65 rfl ?_
          refine zj_iload_n 3 hC dX8_plan_68 rfl ?_
          obtain ⟨r14, g15, hq16, hf⟩ := z_bindE hf
          refine zj_callSi [.int x2] hC (cM_J6_bitCount_0f7a4 l dC dI ca q Zt hZt x2 g12 r14 g15 hq16) gX8_plan_J6_bitCount_0f7a4 rfl nM_J6_bitCount_0f7a4 ⟨Nat.le_of_ble_eq_true rfl, Nat.le_of_ble_eq_true rfl⟩ rfl (Nat.le_of_ble_eq_true rfl) dX8_plan_69 rfl ?_
          refine zj_isub hC dX8_plan_72 ?_
          exact zj_sub hC [1, 2, 3, 4, 5, 0] rfl (hJ73 k27 hk27 (r11 - r14) x1 x2 x3 x4 r6 g15 hf)
        · have hf := z_iteF hf c10
          refine zj_iconst (v := (-1)) hC dX8_plan_59 (by decide) ?_
          refine zj_goto 73 hC dX8_plan_60 (by decide) ?_
          exact zj_sub hC [1, 2, 3, 4, 5, 0] rfl (hJ73 k27 hk27 (-1) x1 x2 x3 x4 r6 g7 hf)
      · have hf := z_iteF hf c9
        refine zj_goto 97 hC dX8_plan_52 (by decide) ?_
        exact zj_sub hC [1, 2, 3, 4, 5] rfl (hJ97 k27 hk27 x1 x2 x3 x4 g7 hf)
  unfold fM_X8_plan at hf
  refine zj_aload_n 0 hC dX8_plan_0 rfl ?_
  refine zj_iconst (v := 0) hC dX8_plan_1 (by decide) ?_
  refine mp_0_0 hC hX8 (List.mem_of_getElem? (i := 1) rfl) dX8_plan_2 (fun g17 eg17 => ?_)
  have hf := z_letE hf eg17
  refine zj_iload_n 1 hC dX8_plan_5 rfl ?_
  refine zj_i2l hC dX8_plan_6 ?_
  refine zj_lconst (v := 1) hC dX8_plan_7 (by decide) ?_
  refine zj_ldc2 (v := 20000) hC (List.mem_of_getElem? (i := 2) rfl) dX8_plan_8 ?_
  obtain ⟨r18, g19, hq20, hf⟩ := z_bindE hf
  refine zj_callSi [.long ((a0 : Int32).toInt64), .long 1, .long 20000] hC (cM_X8_in l dC dI ca q Zt hZt ((a0 : Int32).toInt64) 1 20000 g17 r18 g19 hq20) gX8_plan_X8_in rfl nM_X8_in ⟨Nat.le_of_ble_eq_true rfl, Nat.le_of_ble_eq_true rfl⟩ rfl (Nat.le_of_ble_eq_true rfl) dX8_plan_11 rfl ?_
  refine zj_if_ne 19 hC dX8_plan_14 (by decide) (fun c21 => ?_) (fun c21 => ?_)
  · have hf := z_iteF hf c21
    refine zj_bipush (v := (-3)) hC dX8_plan_19 (by decide) ?_
    refine zj_istore_n (lv1 := [(2, .int (-3)), (0, .ref (q 0)), (1, .int a0)]) hC dX8_plan_21 (by decide) rfl ?_
    refine zj_iconst (v := 0) hC dX8_plan_22 (by decide) ?_
    refine zj_istore_n (lv1 := [(3, .int 0), (2, .int (-3)), (0, .ref (q 0)), (1, .int a0)]) hC dX8_plan_23 (by decide) rfl ?_
    refine zj_iconst (v := 0) hC dX8_plan_24 (by decide) ?_
    refine zj_istore (lv1 := [(4, .int 0), (3, .int 0), (2, .int (-3)), (0, .ref (q 0)), (1, .int a0)]) hC dX8_plan_25 (by decide) rfl ?_
    exact zj_sub hC [3, 4, 2, 1, 0] rfl (hJ27 a0 (-3) 0 0 g19 hf)
  · have hf := z_iteT hf c21
    refine zj_iconst (v := (-1)) hC dX8_plan_17 (by decide) ?_
    exact zj_ireturn hC hf dX8_plan_18

def fM_X8_stand_33  (g : z_G) : Option (Int32 × z_G) := z_bind (fM_X8_refuse g) (fun r1 g2 => some (r1, g2))
def fM_X8_stand_96 (s0 : Int32) (g : z_G) : Option (Int32 × z_G) := some (s0, g)
def fM_X8_stand (a0 : Int32) (a1 : Int32) (g : z_G) : Option (Int32 × z_G) := z_let (z_up g 0 0 0) (fun g4 => z_bind (fM_X8_in ((a0 : Int32).toInt64) 0 (((g4 0 52) - 1 : Int32).toInt64) g4) (fun r5 g6 => (if r5 = 0 then fM_X8_stand_33 g6 else z_bind (fM_X8_in ((a1 : Int32).toInt64) 0 3 g6) (fun r9 g10 => (if r9 = 0 then fM_X8_stand_33 g10 else (if a1 = 0 then z_ck a0 12 (fM_X8_stand_96 (g10 38 (Int32.toNatClampNeg a0)) g10) else (if a1 = 1 then z_ck a0 12 (fM_X8_stand_96 (g10 39 (Int32.toNatClampNeg a0)) g10) else (if a1 = 2 then z_ck a0 12 (fM_X8_stand_96 (g10 40 (Int32.toNatClampNeg a0)) g10) else z_ck a0 12 (z_ck a0 12 (z_let (if 0 < ((g10 39 (Int32.toNatClampNeg a0)) - (g10 38 (Int32.toNatClampNeg a0))) then (g10 39 (Int32.toNatClampNeg a0)) - (g10 38 (Int32.toNatClampNeg a0)) else 0) (fun y18 => fM_X8_stand_96 y18 g10)))))))))))
theorem nM_X8_stand : yX8_stand.cls = RX8 ∧ yX8_stand.cls ≠ "java/lang/invoke/MethodHandle" ∧ yX8_stand.cls ≠ "java/lang/invoke/VarHandle" ∧ (parseMethodDescriptor yX8_stand.desc).map (fun d => d.parameters.length) = some 2 := by decide +kernel
set_option maxRecDepth 100000 in
set_option maxHeartbeats 4000000 in
theorem cM_X8_stand (l : Launch) (dC : Nat → ClassId) (dI : Nat → Nat → Nat) (ca : Nat → ClassId) (q : Nat → Nat) (Zt : z_ZT) (hZt : z_Zok Zt) (a0 : Int32) (a1 : Int32) (g : z_G) (r : Int32) (g' : z_G) (hf : fM_X8_stand a0 a1 g = some (r, g')) : z_C l yX8_stand wsX8_stand { frames := 1, cells := 0, slots := 0, locals := 25 } (dC, dI) (tyM ca) (wM ca q) Zt [.ref (q 0), .int a0, .int a1] g (some r) g' := by
  refine z_enter (wM_ok ca q) hZt (by decide +kernel) rfl (Nat.le_of_ble_eq_true rfl) (fun J hC => ?_)
  have hC : z_Cx J l cX8_stand 3 wsX8_stand RX8 (some .int) { frames := 1, cells := 0, slots := 0, locals := 25 } (dC, dI) (tyM ca) (wM ca q) Zt (z_QI (dC, dI) (tyM ca) (wM ca q) (some r) g') z_X0 := hC
  show J 0 [(0, .ref (q 0)), (1, .int a0), (2, .int a1)] [] g
  have hX8 : ∀ w ∈ wsX80, w ∈ wsX8_stand := fun _ h => List.mem_cons_of_mem _ (List.mem_append_right _ (h))
  have hJ33 : ∀ (g : z_G), fM_X8_stand_33 g = some (r, g') → J 33 [(0, .ref (q 0))] [] g := by
    intro g hf
    unfold fM_X8_stand_33 at hf
    refine zj_aload_n 0 hC dX8_stand_33 rfl ?_
    obtain ⟨r1, g2, hq3, hf⟩ := z_bindE hf
    refine zj_callVi [] hC (cM_X8_refuse l dC dI ca q Zt hZt g r1 g2 hq3) gX8_stand_X8_refuse rfl nM_X8_refuse ⟨Nat.le_of_ble_eq_true rfl, Nat.le_of_ble_eq_true rfl⟩ 0 mo_0 rfl rfl rfl (Nat.le_of_ble_eq_true rfl) dX8_stand_34 rfl ?_
    exact zj_ireturn hC hf dX8_stand_37
  have hJ96 : ∀ (s0 : Int32) (g : z_G), fM_X8_stand_96 s0 g = some (r, g') → J 96 [] [.int s0] g := by
    intro s0 g hf
    unfold fM_X8_stand_96 at hf
    exact zj_ireturn hC hf dX8_stand_96
  unfold fM_X8_stand at hf
  refine zj_aload_n 0 hC dX8_stand_0 rfl ?_
  refine zj_iconst (v := 0) hC dX8_stand_1 (by decide) ?_
  refine mp_0_0 hC hX8 (List.mem_of_getElem? (i := 1) rfl) dX8_stand_2 (fun g4 eg4 => ?_)
  have hf := z_letE hf eg4
  refine zj_iload_n 1 hC dX8_stand_5 rfl ?_
  refine zj_i2l hC dX8_stand_6 ?_
  refine zj_lconst (v := 0) hC dX8_stand_7 (by decide) ?_
  refine zj_aload_n 0 hC dX8_stand_8 rfl ?_
  refine mg_0_52 hC hX8 (List.mem_of_getElem? (i := 2) rfl) dX8_stand_9 ?_
  refine zj_iconst (v := 1) hC dX8_stand_12 (by decide) ?_
  refine zj_isub hC dX8_stand_13 ?_
  refine zj_i2l hC dX8_stand_14 ?_
  obtain ⟨r5, g6, hq7, hf⟩ := z_bindE hf
  refine zj_callSi [.long ((a0 : Int32).toInt64), .long 0, .long (((g4 0 52) - 1 : Int32).toInt64)] hC (cM_X8_in l dC dI ca q Zt hZt ((a0 : Int32).toInt64) 0 (((g4 0 52) - 1 : Int32).toInt64) g4 r5 g6 hq7) gX8_stand_X8_in rfl nM_X8_in ⟨Nat.le_of_ble_eq_true rfl, Nat.le_of_ble_eq_true rfl⟩ rfl (Nat.le_of_ble_eq_true rfl) dX8_stand_15 rfl ?_
  refine zj_if_eq 33 hC dX8_stand_18 (by decide) (fun c8 => ?_) (fun c8 => ?_)
  · have hf := z_iteT hf c8
    exact zj_sub hC [0] rfl (hJ33 g6 hf)
  · have hf := z_iteF hf c8
    refine zj_iload_n 2 hC dX8_stand_21 rfl ?_
    refine zj_i2l hC dX8_stand_22 ?_
    refine zj_lconst (v := 0) hC dX8_stand_23 (by decide) ?_
    refine zj_ldc2 (v := 3) hC (List.mem_of_getElem? (i := 3) rfl) dX8_stand_24 ?_
    obtain ⟨r9, g10, hq11, hf⟩ := z_bindE hf
    refine zj_callSi [.long ((a1 : Int32).toInt64), .long 0, .long 3] hC (cM_X8_in l dC dI ca q Zt hZt ((a1 : Int32).toInt64) 0 3 g6 r9 g10 hq11) gX8_stand_X8_in rfl nM_X8_in ⟨Nat.le_of_ble_eq_true rfl, Nat.le_of_ble_eq_true rfl⟩ rfl (Nat.le_of_ble_eq_true rfl) dX8_stand_27 rfl ?_
    refine zj_if_ne 38 hC dX8_stand_30 (by decide) (fun c12 => ?_) (fun c12 => ?_)
    · have hf := z_iteF hf c12
      refine zj_iload_n 2 hC dX8_stand_38 rfl ?_
      refine zj_if_ne 51 hC dX8_stand_39 (by decide) (fun c13 => ?_) (fun c13 => ?_)
      · have hf := z_iteF hf c13
        refine zj_iload_n 2 hC dX8_stand_51 rfl ?_
        refine zj_iconst (v := 1) hC dX8_stand_52 (by decide) ?_
        refine zj_icmp_ne 65 hC dX8_stand_53 (by decide) (fun c14 => ?_) (fun c14 => ?_)
        · have hf := z_iteF hf c14
          refine zj_iload_n 2 hC dX8_stand_65 rfl ?_
          refine zj_iconst (v := 2) hC dX8_stand_66 (by decide) ?_
          refine zj_icmp_ne 79 hC dX8_stand_67 (by decide) (fun c15 => ?_) (fun c15 => ?_)
          · have hf := z_iteF hf c15
            refine zj_iconst (v := 0) hC dX8_stand_79 (by decide) ?_
            refine zj_aload_n 0 hC dX8_stand_80 rfl ?_
            refine mg_0_54 hC hX8 (List.mem_of_getElem? (i := 5) rfl) dX8_stand_81 ?_
            refine zj_iload_n 1 hC dX8_stand_84 rfl ?_
            obtain ⟨hq16, hf⟩ := z_ckE hf
            refine ma_39 hC hq16 dX8_stand_85 ?_
            refine zj_aload_n 0 hC dX8_stand_86 rfl ?_
            refine mg_0_53 hC hX8 (List.mem_of_getElem? (i := 4) rfl) dX8_stand_87 ?_
            refine zj_iload_n 1 hC dX8_stand_90 rfl ?_
            obtain ⟨hq17, hf⟩ := z_ckE hf
            refine ma_38 hC hq17 dX8_stand_91 ?_
            refine zj_isub hC dX8_stand_92 ?_
            refine zj_max hC (List.mem_of_getElem? (i := 7) rfl) (List.mem_of_getElem? (i := 8) rfl) (List.mem_of_getElem? (i := 9) rfl) (List.mem_of_getElem? (i := 10) rfl) (Nat.le_of_ble_eq_true rfl) (Nat.le_of_ble_eq_true rfl) dX8_stand_93 ?_
            refine zj_top (fun y18 ey18 => ?_)
            have hf := z_letE hf ey18
            exact zj_sub hC [] rfl (hJ96 y18 g10 hf)
          · have hf := z_iteT hf c15
            refine zj_aload_n 0 hC dX8_stand_70 rfl ?_
            refine mg_0_55 hC hX8 (List.mem_of_getElem? (i := 6) rfl) dX8_stand_71 ?_
            refine zj_iload_n 1 hC dX8_stand_74 rfl ?_
            obtain ⟨hq19, hf⟩ := z_ckE hf
            refine ma_40 hC hq19 dX8_stand_75 ?_
            refine zj_goto 96 hC dX8_stand_76 (by decide) ?_
            exact zj_sub hC [] rfl (hJ96 (g10 40 (Int32.toNatClampNeg a0)) g10 hf)
        · have hf := z_iteT hf c14
          refine zj_aload_n 0 hC dX8_stand_56 rfl ?_
          refine mg_0_54 hC hX8 (List.mem_of_getElem? (i := 5) rfl) dX8_stand_57 ?_
          refine zj_iload_n 1 hC dX8_stand_60 rfl ?_
          obtain ⟨hq20, hf⟩ := z_ckE hf
          refine ma_39 hC hq20 dX8_stand_61 ?_
          refine zj_goto 96 hC dX8_stand_62 (by decide) ?_
          exact zj_sub hC [] rfl (hJ96 (g10 39 (Int32.toNatClampNeg a0)) g10 hf)
      · have hf := z_iteT hf c13
        refine zj_aload_n 0 hC dX8_stand_42 rfl ?_
        refine mg_0_53 hC hX8 (List.mem_of_getElem? (i := 4) rfl) dX8_stand_43 ?_
        refine zj_iload_n 1 hC dX8_stand_46 rfl ?_
        obtain ⟨hq21, hf⟩ := z_ckE hf
        refine ma_38 hC hq21 dX8_stand_47 ?_
        refine zj_goto 96 hC dX8_stand_48 (by decide) ?_
        exact zj_sub hC [] rfl (hJ96 (g10 38 (Int32.toNatClampNeg a0)) g10 hf)
    · have hf := z_iteT hf c12
      exact zj_sub hC [0] rfl (hJ33 g10 hf)
