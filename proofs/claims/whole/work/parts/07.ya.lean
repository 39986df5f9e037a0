def fY_X0_forget (g : z_G) : Option (Int32 × z_G) := z_let (z_up g 3 0 0) (fun g1 => z_let (z_up g1 3 7 0) (fun g2 => some (0, g2)))
theorem nY_X0_forget : yX0_forget.cls = RX0 ∧ yX0_forget.cls ≠ "java/lang/invoke/MethodHandle" ∧ yX0_forget.cls ≠ "java/lang/invoke/VarHandle" ∧ (parseMethodDescriptor yX0_forget.desc).map (fun d => d.parameters.length) = some 0 := by decide +kernel
set_option maxRecDepth 100000 in
set_option maxHeartbeats 4000000 in
theorem cY_X0_forget (l : Launch) (dC : Nat → ClassId) (dI : Nat → Nat → Nat) (ca : Nat → ClassId) (q : Nat → Nat) (tt : Nat → Nat) (g : z_G) (r : Int32) (g' : z_G) (hf : fY_X0_forget g = some (r, g')) : z_C l yX0_forget wsX0_forget { frames := 0, cells := 0, slots := 0, locals := 0 } (dC, dI) (tyY ca) (wY ca q) (zY tt) [.ref (q 3)] g none g' := by
  refine z_enter (wY_ok ca q) (zY_ok tt) (by decide +kernel) rfl (Nat.le_of_ble_eq_true rfl) (fun J hC => ?_)
  have hC : z_Cx J l cX0_forget 1 wsX0_forget RX0 none { frames := 0, cells := 0, slots := 0, locals := 0 } (dC, dI) (tyY ca) (wY ca q) (zY tt) (z_QI (dC, dI) (tyY ca) (wY ca q) none g') z_X0 := hC
  show J 0 [(0, .ref (q 3))] [] g
  have hX0 : ∀ w ∈ wsX00, w ∈ wsX0_forget := fun _ h => List.mem_cons_of_mem _ (List.mem_append_right _ (h))
  unfold fY_X0_forget at hf
  refine zj_aload_n 0 hC dX0_forget_0 rfl ?_
  refine zj_iconst (v := 0) hC dX0_forget_1 (by decide) ?_
  refine yp_3_0 hC hX0 (List.mem_of_getElem? (i := 1) rfl) dX0_forget_2 (fun g1 eg1 => ?_)
  have hf := z_letE hf eg1
  refine zj_aload_n 0 hC dX0_forget_5 rfl ?_
  refine zj_iconst (v := 0) hC dX0_forget_6 (by decide) ?_
  refine yp_3_7 hC hX0 (List.mem_of_getElem? (i := 2) rfl) dX0_forget_7 (fun g2 eg2 => ?_)
  have hf := z_letE hf eg2
  exact zj_vreturn hC hf dX0_forget_10

def fY_X0_has_17 (s0 : Int32) (g : z_G) : Option (Int32 × z_G) := z_bo s0 (some (s0, g))
def fY_X0_has_16  (g : z_G) : Option (Int32 × z_G) := fY_X0_has_17 0 g
def fY_X0_has (a0 : Int32) (g : z_G) : Option (Int32 × z_G) := (if a0 < 0 then fY_X0_has_16 g else (if (g 3 0) ≤ a0 then fY_X0_has_16 g else fY_X0_has_17 1 g))
theorem nY_X0_has : yX0_has.cls = RX0 ∧ yX0_has.cls ≠ "java/lang/invoke/MethodHandle" ∧ yX0_has.cls ≠ "java/lang/invoke/VarHandle" ∧ (parseMethodDescriptor yX0_has.desc).map (fun d => d.parameters.length) = some 1 := by decide +kernel
set_option maxRecDepth 100000 in
set_option maxHeartbeats 4000000 in
theorem cY_X0_has (l : Launch) (dC : Nat → ClassId) (dI : Nat → Nat → Nat) (ca : Nat → ClassId) (q : Nat → Nat) (tt : Nat → Nat) (a0 : Int32) (g : z_G) (r : Int32) (g' : z_G) (hf : fY_X0_has a0 g = some (r, g')) : z_C l yX0_has wsX0_has { frames := 0, cells := 0, slots := 0, locals := 0 } (dC, dI) (tyY ca) (wY ca q) (zY tt) [.ref (q 3), .int a0] g (some r) g' := by
  refine z_enter (wY_ok ca q) (zY_ok tt) (by decide +kernel) rfl (Nat.le_of_ble_eq_true rfl) (fun J hC => ?_)
  have hC : z_Cx J l cX0_has 2 wsX0_has RX0 (some .boolean) { frames := 0, cells := 0, slots := 0, locals := 0 } (dC, dI) (tyY ca) (wY ca q) (zY tt) (z_QI (dC, dI) (tyY ca) (wY ca q) (some r) g') z_X0 := hC
  show J 0 [(0, .ref (q 3)), (1, .int a0)] [] g
  have hX0 : ∀ w ∈ wsX00, w ∈ wsX0_has := fun _ h => List.mem_cons_of_mem _ (List.mem_append_right _ (h))
  have hJ17 : ∀ (s0 : Int32) (g : z_G), fY_X0_has_17 s0 g = some (r, g') → J 17 [] [.int s0] g := by
    intro s0 g hf
    unfold fY_X0_has_17 at hf
    exact zj_zreturn hC hf dX0_has_17
  have hJ16 : ∀ (g : z_G), fY_X0_has_16 g = some (r, g') → J 16 [] [] g := by
    intro g hf
    unfold fY_X0_has_16 at hf
    refine zj_iconst (v := 0) hC dX0_has_16 (by decide) ?_
    exact (hJ17 0 g hf)
  unfold fY_X0_has at hf
  refine zj_iload_n 1 hC dX0_has_0 rfl ?_
  refine zj_if_lt 16 hC dX0_has_1 (by decide) (fun c1 => ?_) (fun c1 => ?_)
  · have hf := z_iteT hf c1
    exact zj_sub hC [] rfl (hJ16 g hf)
  · have hf := z_iteF hf c1
    refine zj_iload_n 1 hC dX0_has_4 rfl ?_
    refine zj_aload_n 0 hC dX0_has_5 rfl ?_
    refine yg_3_0 hC hX0 (List.mem_of_getElem? (i := 1) rfl) dX0_has_6 ?_
    refine zj_icmp_ge 16 hC dX0_has_9 (by decide) (fun c2 => ?_) (fun c2 => ?_)
    · have hf := z_iteT hf c2
      exact zj_sub hC [] rfl (hJ16 g hf)
    · have hf := z_iteF hf c2
      refine zj_iconst (v := 1) hC dX0_has_12 (by decide) ?_
      refine zj_goto 17 hC dX0_has_13 (by decide) ?_
      exact zj_sub hC [] rfl (hJ17 1 g hf)

def fY_X0_isFull_15 (s0 : Int32) (g : z_G) : Option (Int32 × z_G) := z_bo s0 (some (s0, g))
def fY_X0_isFull (g : z_G) : Option (Int32 × z_G) := (if (g 3 0) < 300 then fY_X0_isFull_15 0 g else fY_X0_isFull_15 1 g)
theorem nY_X0_isFull : yX0_isFull.cls = RX0 ∧ yX0_isFull.cls ≠ "java/lang/invoke/MethodHandle" ∧ yX0_isFull.cls ≠ "java/lang/invoke/VarHandle" ∧ (parseMethodDescriptor yX0_isFull.desc).map (fun d => d.parameters.length) = some 0 := by decide +kernel
set_option maxRecDepth 100000 in
set_option maxHeartbeats 4000000 in
theorem cY_X0_isFull (l : Launch) (dC : Nat → ClassId) (dI : Nat → Nat → Nat) (ca : Nat → ClassId) (q : Nat → Nat) (tt : Nat → Nat) (g : z_G) (r : Int32) (g' : z_G) (hf : fY_X0_isFull g = some (r, g')) : z_C l yX0_isFull wsX0_isFull { frames := 0, cells := 0, slots := 0, locals := 0 } (dC, dI) (tyY ca) (wY ca q) (zY tt) [.ref (q 3)] g (some r) g' := by
  refine z_enter (wY_ok ca q) (zY_ok tt) (by decide +kernel) rfl (Nat.le_of_ble_eq_true rfl) (fun J hC => ?_)
  have hC : z_Cx J l cX0_isFull 1 wsX0_isFull RX0 (some .boolean) { frames := 0, cells := 0, slots := 0, locals := 0 } (dC, dI) (tyY ca) (wY ca q) (zY tt) (z_QI (dC, dI) (tyY ca) (wY ca q) (some r) g') z_X0 := hC
  show J 0 [(0, .ref (q 3))] [] g
  have hX0 : ∀ w ∈ wsX00, w ∈ wsX0_isFull := fun _ h => List.mem_cons_of_mem _ (List.mem_append_right _ (h))
  have hJ15 : ∀ (s0 : Int32) (g : z_G), fY_X0_isFull_15 s0 g = some (r, g') → J 15 [] [.int s0] g := by
    intro s0 g hf
    unfold fY_X0_isFull_15 at hf
    exact zj_zreturn hC hf dX0_isFull_15
  unfold fY_X0_isFull at hf
  refine zj_aload_n 0 hC dX0_isFull_0 rfl ?_
  refine yg_3_0 hC hX0 (List.mem_of_getElem? (i := 1) rfl) dX0_isFull_1 ?_
  refine zj_sipush (v := 300) hC dX0_isFull_4 (by decide) ?_
  refine zj_icmp_lt 14 hC dX0_isFull_7 (by decide) (fun c1 => ?_) (fun c1 => ?_)
  · have hf := z_iteT hf c1
    refine zj_iconst (v := 0) hC dX0_isFull_14 (by decide) ?_
    exact zj_sub hC [] rfl (hJ15 0 g hf)
  · have hf := z_iteF hf c1
    refine zj_iconst (v := 1) hC dX0_isFull_10 (by decide) ?_
    refine zj_goto 15 hC dX0_isFull_11 (by decide) ?_
    exact zj_sub hC [] rfl (hJ15 1 g hf)

def fY_X0_note (a0 : Int32) (a1 : Int32) (a2 : Int32) (a3 : Int32) (a4 : Int32) (a5 : Int32) (g : z_G) : Option (Int32 × z_G) := z_bind (fY_X0_isFull g) (fun r1 g2 => (if r1 = 0 then z_ck (g2 3 0) 300 (z_let (z_up g2 25 (Int32.toNatClampNeg (g2 3 0)) a0) (fun g6 => z_ck (g6 3 0) 300 (z_let (z_up g6 26 (Int32.toNatClampNeg (g6 3 0)) a1) (fun g8 => z_ck (g8 3 0) 300 (z_let (z_up g8 27 (Int32.toNatClampNeg (g8 3 0)) a2) (fun g10 => z_ck (g10 3 0) 300 (z_let (z_up g10 28 (Int32.toNatClampNeg (g10 3 0)) a3) (fun g12 => z_ck (g12 3 0) 300 (z_let (z_up g12 29 (Int32.toNatClampNeg (g12 3 0)) a4) (fun g14 => z_ck (g14 3 0) 300 (z_let (z_up g14 30 (Int32.toNatClampNeg (g14 3 0)) a5) (fun g16 => z_let (z_up g16 3 0 ((g16 3 0) + 1)) (fun g17 => some (0, g17)))))))))))))) else some (0, g2)))
theorem nY_X0_note : yX0_note.cls = RX0 ∧ yX0_note.cls ≠ "java/lang/invoke/MethodHandle" ∧ yX0_note.cls ≠ "java/lang/invoke/VarHandle" ∧ (parseMethodDescriptor yX0_note.desc).map (fun d => d.parameters.length) = some 6 := by decide +kernel
set_option maxRecDepth 100000 in
set_option maxHeartbeats 4000000 in
theorem cY_X0_note (l : Launch) (dC : Nat → ClassId) (dI : Nat → Nat → Nat) (ca : Nat → ClassId) (q : Nat → Nat) (tt : Nat → Nat) (a0 : Int32) (a1 : Int32) (a2 : Int32) (a3 : Int32) (a4 : Int32) (a5 : Int32) (g : z_G) (r : Int32) (g' : z_G) (hf : fY_X0_note a0 a1 a2 a3 a4 a5 g = some (r, g')) : z_C l yX0_note wsX0_note { frames := 1, cells := 0, slots := 0, locals := 20 } (dC, dI) (tyY ca) (wY ca q) (zY tt) [.ref (q 3), .int a0, .int a1, .int a2, .int a3, .int a4, .int a5] g none g' := by
  refine z_enter (wY_ok ca q) (zY_ok tt) (by decide +kernel) rfl (Nat.le_of_ble_eq_true rfl) (fun J hC => ?_)
  have hC : z_Cx J l cX0_note 7 wsX0_note RX0 none { frames := 1, cells := 0, slots := 0, locals := 20 } (dC, dI) (tyY ca) (wY ca q) (zY tt) (z_QI (dC, dI) (tyY ca) (wY ca q) none g') z_X0 := hC
  show J 0 [(0, .ref (q 3)), (1, .int a0), (2, .int a1), (3, .int a2), (4, .int a3), (5, .int a4), (6, .int a5)] [] g
  have hX0 : ∀ w ∈ wsX00, w ∈ wsX0_note := fun _ h => List.mem_cons_of_mem _ (List.mem_append_right _ (h))
  unfold fY_X0_note at hf
  refine zj_aload_n 0 hC dX0_note_0 rfl ?_
  obtain ⟨r1, g2, hq3, hf⟩ := z_bindE hf
  refine zj_callVi [] hC (cY_X0_isFull l dC dI ca q tt g r1 g2 hq3) gX0_note_X0_isFull rfl nY_X0_isFull ⟨Nat.le_of_ble_eq_true rfl, Nat.le_of_ble_eq_true rfl⟩ 3 yo_3 rfl rfl rfl (Nat.le_of_ble_eq_true rfl) dX0_note_1 rfl ?_
  refine zj_if_eq 8 hC dX0_note_4 (by decide) (fun c4 => ?_) (fun c4 => ?_)
  · have hf := z_iteT hf c4
    refine zj_aload_n 0 hC dX0_note_8 rfl ?_
    refine yg_3_1 hC hX0 (List.mem_of_getElem? (i := 1) rfl) dX0_note_9 ?_
    refine zj_aload_n 0 hC dX0_note_12 rfl ?_
    refine yg_3_0 hC hX0 (List.mem_of_getElem? (i := 2) rfl) dX0_note_13 ?_
    refine zj_iload_n 1 hC dX0_note_16 rfl ?_
    obtain ⟨hq5, hf⟩ := z_ckE hf
    refine ys_25 hC hq5 dX0_note_17 (fun g6 eg6 => ?_)
    have hf := z_letE hf eg6
    refine zj_aload_n 0 hC dX0_note_18 rfl ?_
    refine yg_3_2 hC hX0 (List.mem_of_getElem? (i := 3) rfl) dX0_note_19 ?_
    refine zj_aload_n 0 hC dX0_note_22 rfl ?_
    refine yg_3_0 hC hX0 (List.mem_of_getElem? (i := 2) rfl) dX0_note_23 ?_
    refine zj_iload_n 2 hC dX0_note_26 rfl ?_
    obtain ⟨hq7, hf⟩ := z_ckE hf
    refine ys_26 hC hq7 dX0_note_27 (fun g8 eg8 => ?_)
    have hf := z_letE hf eg8
    refine zj_aload_n 0 hC dX0_note_28 rfl ?_
    refine yg_3_3 hC hX0 (List.mem_of_getElem? (i := 4) rfl) dX0_note_29 ?_
    refine zj_aload_n 0 hC dX0_note_32 rfl ?_
    refine yg_3_0 hC hX0 (List.mem_of_getElem? (i := 2) rfl) dX0_note_33 ?_
    refine zj_iload_n 3 hC dX0_note_36 rfl ?_
    obtain ⟨hq9, hf⟩ := z_ckE hf
    refine ys_27 hC hq9 dX0_note_37 (fun g10 eg10 => ?_)
    have hf := z_letE hf eg10
    refine zj_aload_n 0 hC dX0_note_38 rfl ?_
    refine yg_3_4 hC hX0 (List.mem_of_getElem? (i := 5) rfl) dX0_note_39 ?_
    refine zj_aload_n 0 hC dX0_note_42 rfl ?_
    refine yg_3_0 hC hX0 (List.mem_of_getElem? (i := 2) rfl) dX0_note_43 ?_
    refine zj_iload 4 hC dX0_note_46 rfl ?_
    obtain ⟨hq11, hf⟩ := z_ckE hf
    refine ys_28 hC hq11 dX0_note_48 (fun g12 eg12 => ?_)
    have hf := z_letE hf eg12
    refine zj_aload_n 0 hC dX0_note_49 rfl ?_
    refine yg_3_5 hC hX0 (List.mem_of_getElem? (i := 6) rfl) dX0_note_50 ?_
    refine zj_aload_n 0 hC dX0_note_53 rfl ?_
    refine yg_3_0 hC hX0 (List.mem_of_getElem? (i := 2) rfl) dX0_note_54 ?_
    refine zj_iload 5 hC dX0_note_57 rfl ?_
    obtain ⟨hq13, hf⟩ := z_ckE hf
    refine ys_29 hC hq13 dX0_note_59 (fun g14 eg14 => ?_)
    have hf := z_letE hf eg14
    refine zj_aload_n 0 hC dX0_note_60 rfl ?_
    refine yg_3_6 hC hX0 (List.mem_of_getElem? (i := 7) rfl) dX0_note_61 ?_
    refine zj_aload_n 0 hC dX0_note_64 rfl ?_
    refine yg_3_0 hC hX0 (List.mem_of_getElem? (i := 2) rfl) dX0_note_65 ?_
    refine zj_iload 6 hC dX0_note_68 rfl ?_
    obtain ⟨hq15, hf⟩ := z_ckE hf
    refine ys_30 hC hq15 dX0_note_70 (fun g16 eg16 => ?_)
    have hf := z_letE hf eg16
    refine zj_aload_n 0 hC dX0_note_71 rfl ?_
    refine zj_dup hC dX0_note_72 rfl ?_
    refine yg_3_0 hC hX0 (List.mem_of_getElem? (i := 2) rfl) dX0_note_73 ?_
    refine zj_iconst (v := 1) hC dX0_note_76 (by decide) ?_
    refine zj_iadd hC dX0_note_77 ?_
    refine yp_3_0 hC hX0 (List.mem_of_getElem? (i := 2) rfl) dX0_note_78 (fun g17 eg17 => ?_)
    have hf := z_letE hf eg17
    exact zj_vreturn hC hf dX0_note_81
  · have hf := z_iteF hf c4
    exact zj_vreturn hC hf dX0_note_7

def fY_X0_keepAct (a0 : Int32) (a1 : Int32) (a2 : Int32) (g : z_G) : Option (Int32 × z_G) := (if (g 3 7) < 100 then z_ck (g 3 7) 100 (z_let (z_up g 31 (Int32.toNatClampNeg (g 3 7)) (g 3 0)) (fun g3 => z_ck (g3 3 7) 100 (z_let (z_up g3 32 (Int32.toNatClampNeg (g3 3 7)) a0) (fun g5 => z_ck (g5 3 7) 100 (z_let (z_up g5 33 (Int32.toNatClampNeg (g5 3 7)) a1) (fun g7 => z_ck (g7 3 7) 100 (z_let (z_up g7 34 (Int32.toNatClampNeg (g7 3 7)) a2) (fun g9 => z_let (z_up g9 3 7 ((g9 3 7) + 1)) (fun g10 => z_bo 1 (some (1, g10))))))))))) else z_bo 0 (some (0, g)))
theorem nY_X0_keepAct : yX0_keepAct.cls = RX0 ∧ yX0_keepAct.cls ≠ "java/lang/invoke/MethodHandle" ∧ yX0_keepAct.cls ≠ "java/lang/invoke/VarHandle" ∧ (parseMethodDescriptor yX0_keepAct.desc).map (fun d => d.parameters.length) = some 3 := by decide +kernel
set_option maxRecDepth 100000 in
set_option maxHeartbeats 4000000 in
theorem cY_X0_keepAct (l : Launch) (dC : Nat → ClassId) (dI : Nat → Nat → Nat) (ca : Nat → ClassId) (q : Nat → Nat) (tt : Nat → Nat) (a0 : Int32) (a1 : Int32) (a2 : Int32) (g : z_G) (r : Int32) (g' : z_G) (hf : fY_X0_keepAct a0 a1 a2 g = some (r, g')) : z_C l yX0_keepAct wsX0_keepAct { frames := 0, cells := 0, slots := 0, locals := 0 } (dC, dI) (tyY ca) (wY ca q) (zY tt) [.ref (q 3), .int a0, .int a1, .int a2] g (some r) g' := by
  refine z_enter (wY_ok ca q) (zY_ok tt) (by decide +kernel) rfl (Nat.le_of_ble_eq_true rfl) (fun J hC => ?_)
  have hC : z_Cx J l cX0_keepAct 4 wsX0_keepAct RX0 (some .boolean) { frames := 0, cells := 0, slots := 0, locals := 0 } (dC, dI) (tyY ca) (wY ca q) (zY tt) (z_QI (dC, dI) (tyY ca) (wY ca q) (some r) g') z_X0 := hC
  show J 0 [(0, .ref (q 3)), (1, .int a0), (2, .int a1), (3, .int a2)] [] g
  have hX0 : ∀ w ∈ wsX00, w ∈ wsX0_keepAct := fun _ h => List.mem_cons_of_mem _ (List.mem_append_right _ (h))
  unfold fY_X0_keepAct at hf
  refine zj_aload_n 0 hC dX0_keepAct_0 rfl ?_
  refine yg_3_7 hC hX0 (List.mem_of_getElem? (i := 1) rfl) dX0_keepAct_1 ?_
  refine zj_bipush (v := 100) hC dX0_keepAct_4 (by decide) ?_
  refine zj_icmp_lt 11 hC dX0_keepAct_6 (by decide) (fun c1 => ?_) (fun c1 => ?_)
  · have hf := z_iteT hf c1
    refine zj_aload_n 0 hC dX0_keepAct_11 rfl ?_
    refine yg_3_8 hC hX0 (List.mem_of_getElem? (i := 2) rfl) dX0_keepAct_12 ?_
    refine zj_aload_n 0 hC dX0_keepAct_15 rfl ?_
    refine yg_3_7 hC hX0 (List.mem_of_getElem? (i := 1) rfl) dX0_keepAct_16 ?_
    refine zj_aload_n 0 hC dX0_keepAct_19 rfl ?_
    refine yg_3_0 hC hX0 (List.mem_of_getElem? (i := 3) rfl) dX0_keepAct_20 ?_
    obtain ⟨hq2, hf⟩ := z_ckE hf
    refine ys_31 hC hq2 dX0_keepAct_23 (fun g3 eg3 => ?_)
    have hf := z_letE hf eg3
    refine zj_aload_n 0 hC dX0_keepAct_24 rfl ?_
    refine yg_3_9 hC hX0 (List.mem_of_getElem? (i := 4) rfl) dX0_keepAct_25 ?_
    refine zj_aload_n 0 hC dX0_keepAct_28 rfl ?_
    refine yg_3_7 hC hX0 (List.mem_of_getElem? (i := 1) rfl) dX0_keepAct_29 ?_
    refine zj_iload_n 1 hC dX0_keepAct_32 rfl ?_
    obtain ⟨hq4, hf⟩ := z_ckE hf
    refine ys_32 hC hq4 dX0_keepAct_33 (fun g5 eg5 => ?_)
    have hf := z_letE hf eg5
    refine zj_aload_n 0 hC dX0_keepAct_34 rfl ?_
    refine yg_3_10 hC hX0 (List.mem_of_getElem? (i := 5) rfl) dX0_keepAct_35 ?_
    refine zj_aload_n 0 hC dX0_keepAct_38 rfl ?_
    refine yg_3_7 hC hX0 (List.mem_of_getElem? (i := 1) rfl) dX0_keepAct_39 ?_
    refine zj_iload_n 2 hC dX0_keepAct_42 rfl ?_
    obtain ⟨hq6, hf⟩ := z_ckE hf
    refine ys_33 hC hq6 dX0_keepAct_43 (fun g7 eg7 => ?_)
    have hf := z_letE hf eg7
    refine zj_aload_n 0 hC dX0_keepAct_44 rfl ?_
    refine yg_3_11 hC hX0 (List.mem_of_getElem? (i := 6) rfl) dX0_keepAct_45 ?_
    refine zj_aload_n 0 hC dX0_keepAct_48 rfl ?_
    refine yg_3_7 hC hX0 (List.mem_of_getElem? (i := 1) rfl) dX0_keepAct_49 ?_
    refine zj_iload_n 3 hC dX0_keepAct_52 rfl ?_
    obtain ⟨hq8, hf⟩ := z_ckE hf
    refine ys_34 hC hq8 dX0_keepAct_53 (fun g9 eg9 => ?_)
    have hf := z_letE hf eg9
    refine zj_aload_n 0 hC dX0_keepAct_54 rfl ?_
    refine zj_dup hC dX0_keepAct_55 rfl ?_
    refine yg_3_7 hC hX0 (List.mem_of_getElem? (i := 1) rfl) dX0_keepAct_56 ?_
    refine zj_iconst (v := 1) hC dX0_keepAct_59 (by decide) ?_
    refine zj_iadd hC dX0_keepAct_60 ?_
    refine yp_3_7 hC hX0 (List.mem_of_getElem? (i := 1) rfl) dX0_keepAct_61 (fun g10 eg10 => ?_)
    have hf := z_letE hf eg10
    refine zj_iconst (v := 1) hC dX0_keepAct_64 (by decide) ?_
    exact zj_zreturn hC hf dX0_keepAct_65
  · have hf := z_iteF hf c1
    refine zj_iconst (v := 0) hC dX0_keepAct_9 (by decide) ?_
    exact zj_zreturn hC hf dX0_keepAct_10

def fY_X1_forget (g : z_G) : Option (Int32 × z_G) := z_let (z_up g 2 0 0) (fun g1 => some (0, g1))
theorem nY_X1_forget : yX1_forget.cls = RX1 ∧ yX1_forget.cls ≠ "java/lang/invoke/MethodHandle" ∧ yX1_forget.cls ≠ "java/lang/invoke/VarHandle" ∧ (parseMethodDescriptor yX1_forget.desc).map (fun d => d.parameters.length) = some 0 := by decide +kernel
set_option maxRecDepth 100000 in
set_option maxHeartbeats 4000000 in
theorem cY_X1_forget (l : Launch) (dC : Nat → ClassId) (dI : Nat → Nat → Nat) (ca : Nat → ClassId) (q : Nat → Nat) (tt : Nat → Nat) (g : z_G) (r : Int32) (g' : z_G) (hf : fY_X1_forget g = some (r, g')) : z_C l yX1_forget wsX1_forget { frames := 0, cells := 0, slots := 0, locals := 0 } (dC, dI) (tyY ca) (wY ca q) (zY tt) [.ref (q 2)] g none g' := by
  refine z_enter (wY_ok ca q) (zY_ok tt) (by decide +kernel) rfl (Nat.le_of_ble_eq_true rfl) (fun J hC => ?_)
  have hC : z_Cx J l cX1_forget 1 wsX1_forget RX1 none { frames := 0, cells := 0, slots := 0, locals := 0 } (dC, dI) (tyY ca) (wY ca q) (zY tt) (z_QI (dC, dI) (tyY ca) (wY ca q) none g') z_X0 := hC
  show J 0 [(0, .ref (q 2))] [] g
  have hX1 : ∀ w ∈ wsX10, w ∈ wsX1_forget := fun _ h => List.mem_cons_of_mem _ (List.mem_append_right _ (h))
  unfold fY_X1_forget at hf
  refine zj_aload_n 0 hC dX1_forget_0 rfl ?_
  refine zj_iconst (v := 0) hC dX1_forget_1 (by decide) ?_
  refine yp_2_0 hC hX1 (List.mem_of_getElem? (i := 1) rfl) dX1_forget_2 (fun g1 eg1 => ?_)
  have hf := z_letE hf eg1
  exact zj_vreturn hC hf dX1_forget_5

def fY_X1_has_17 (s0 : Int32) (g : z_G) : Option (Int32 × z_G) := z_bo s0 (some (s0, g))
def fY_X1_has_16  (g : z_G) : Option (Int32 × z_G) := fY_X1_has_17 0 g
def fY_X1_has (a0 : Int32) (g : z_G) : Option (Int32 × z_G) := (if a0 < 0 then fY_X1_has_16 g else (if (g 2 0) ≤ a0 then fY_X1_has_16 g else fY_X1_has_17 1 g))
theorem nY_X1_has : yX1_has.cls = RX1 ∧ yX1_has.cls ≠ "java/lang/invoke/MethodHandle" ∧ yX1_has.cls ≠ "java/lang/invoke/VarHandle" ∧ (parseMethodDescriptor yX1_has.desc).map (fun d => d.parameters.length) = some 1 := by decide +kernel
set_option maxRecDepth 100000 in
set_option maxHeartbeats 4000000 in
theorem cY_X1_has (l : Launch) (dC : Nat → ClassId) (dI : Nat → Nat → Nat) (ca : Nat → ClassId) (q : Nat → Nat) (tt : Nat → Nat) (a0 : Int32) (g : z_G) (r : Int32) (g' : z_G) (hf : fY_X1_has a0 g = some (r, g')) : z_C l yX1_has wsX1_has { frames := 0, cells := 0, slots := 0, locals := 0 } (dC, dI) (tyY ca) (wY ca q) (zY tt) [.ref (q 2), .int a0] g (some r) g' := by
  refine z_enter (wY_ok ca q) (zY_ok tt) (by decide +kernel) rfl (Nat.le_of_ble_eq_true rfl) (fun J hC => ?_)
  have hC : z_Cx J l cX1_has 2 wsX1_has RX1 (some .boolean) { frames := 0, cells := 0, slots := 0, locals := 0 } (dC, dI) (tyY ca) (wY ca q) (zY tt) (z_QI (dC, dI) (tyY ca) (wY ca q) (some r) g') z_X0 := hC
  show J 0 [(0, .ref (q 2)), (1, .int a0)] [] g
  have hX1 : ∀ w ∈ wsX10, w ∈ wsX1_has := fun _ h => List.mem_cons_of_mem _ (List.mem_append_right _ (h))
  have hJ17 : ∀ (s0 : Int32) (g : z_G), fY_X1_has_17 s0 g = some (r, g') → J 17 [] [.int s0] g := by
    intro s0 g hf
    unfold fY_X1_has_17 at hf
    exact zj_zreturn hC hf dX1_has_17
  have hJ16 : ∀ (g : z_G), fY_X1_has_16 g = some (r, g') → J 16 [] [] g := by
    intro g hf
    unfold fY_X1_has_16 at hf
    refine zj_iconst (v := 0) hC dX1_has_16 (by decide) ?_
    exact (hJ17 0 g hf)
  unfold fY_X1_has at hf
  refine zj_iload_n 1 hC dX1_has_0 rfl ?_
  refine zj_if_lt 16 hC dX1_has_1 (by decide) (fun c1 => ?_) (fun c1 => ?_)
  · have hf := z_iteT hf c1
    exact zj_sub hC [] rfl (hJ16 g hf)
  · have hf := z_iteF hf c1
    refine zj_iload_n 1 hC dX1_has_4 rfl ?_
    refine zj_aload_n 0 hC dX1_has_5 rfl ?_
    refine yg_2_0 hC hX1 (List.mem_of_getElem? (i := 1) rfl) dX1_has_6 ?_
    refine zj_icmp_ge 16 hC dX1_has_9 (by decide) (fun c2 => ?_) (fun c2 => ?_)
    · have hf := z_iteT hf c2
      exact zj_sub hC [] rfl (hJ16 g hf)
    · have hf := z_iteF hf c2
      refine zj_iconst (v := 1) hC dX1_has_12 (by decide) ?_
      refine zj_goto 17 hC dX1_has_13 (by decide) ?_
      exact zj_sub hC [] rfl (hJ17 1 g hf)

def fY_X1_bore (a0 : Int32) (g : z_G) : Option (Int32 × z_G) := (if (g 2 0) < 12 then z_ck (g 2 0) 12 (z_let (z_up g 22 (Int32.toNatClampNeg (g 2 0)) a0) (fun g3 => z_ck (g3 2 0) 12 (z_let (z_up g3 23 (Int32.toNatClampNeg (g3 2 0)) (vp_nar .boolean 0)) (fun g5 => z_let (z_up g5 2 0 ((g5 2 0) + 1)) (fun g6 => some ((g6 2 0) - 1, g6)))))) else some ((-1), g))
theorem nY_X1_bore : yX1_bore.cls = RX1 ∧ yX1_bore.cls ≠ "java/lang/invoke/MethodHandle" ∧ yX1_bore.cls ≠ "java/lang/invoke/VarHandle" ∧ (parseMethodDescriptor yX1_bore.desc).map (fun d => d.parameters.length) = some 1 := by decide +kernel
set_option maxRecDepth 100000 in
set_option maxHeartbeats 4000000 in
theorem cY_X1_bore (l : Launch) (dC : Nat → ClassId) (dI : Nat → Nat → Nat) (ca : Nat → ClassId) (q : Nat → Nat) (tt : Nat → Nat) (a0 : Int32) (g : z_G) (r : Int32) (g' : z_G) (hf : fY_X1_bore a0 g = some (r, g')) : z_C l yX1_bore wsX1_bore { frames := 0, cells := 0, slots := 0, locals := 0 } (dC, dI) (tyY ca) (wY ca q) (zY tt) [.ref (q 2), .int a0] g (some r) g' := by
  refine z_enter (wY_ok ca q) (zY_ok tt) (by decide +kernel) rfl (Nat.le_of_ble_eq_true rfl) (fun J hC => ?_)
  have hC : z_Cx J l cX1_bore 2 wsX1_bore RX1 (some .int) { frames := 0, cells := 0, slots := 0, locals := 0 } (dC, dI) (tyY ca) (wY ca q) (zY tt) (z_QI (dC, dI) (tyY ca) (wY ca q) (some r) g') z_X0 := hC
  show J 0 [(0, .ref (q 2)), (1, .int a0)] [] g
  have hX1 : ∀ w ∈ wsX10, w ∈ wsX1_bore := fun _ h => List.mem_cons_of_mem _ (List.mem_append_right _ (h))
  unfold fY_X1_bore at hf
  refine zj_aload_n 0 hC dX1_bore_0 rfl ?_
  refine yg_2_0 hC hX1 (List.mem_of_getElem? (i := 1) rfl) dX1_bore_1 ?_
  refine zj_bipush (v := 12) hC dX1_bore_4 (by decide) ?_
  refine zj_icmp_lt 11 hC dX1_bore_6 (by decide) (fun c1 => ?_) (fun c1 => ?_)
  · have hf := z_iteT hf c1
    refine zj_aload_n 0 hC dX1_bore_11 rfl ?_
    refine yg_2_1 hC hX1 (List.mem_of_getElem? (i := 2) rfl) dX1_bore_12 ?_
    refine zj_aload_n 0 hC dX1_bore_15 rfl ?_
    refine yg_2_0 hC hX1 (List.mem_of_getElem? (i := 1) rfl) dX1_bore_16 ?_
    refine zj_iload_n 1 hC dX1_bore_19 rfl ?_
    obtain ⟨hq2, hf⟩ := z_ckE hf
    refine ys_22 hC hq2 dX1_bore_20 (fun g3 eg3 => ?_)
    have hf := z_letE hf eg3
    refine zj_aload_n 0 hC dX1_bore_21 rfl ?_
    refine yg_2_2 hC hX1 (List.mem_of_getElem? (i := 3) rfl) dX1_bore_22 ?_
    refine zj_aload_n 0 hC dX1_bore_25 rfl ?_
    refine yg_2_0 hC hX1 (List.mem_of_getElem? (i := 1) rfl) dX1_bore_26 ?_
    refine zj_iconst (v := 0) hC dX1_bore_29 (by decide) ?_
    obtain ⟨hq4, hf⟩ := z_ckE hf
    refine ys_23 hC hq4 dX1_bore_30 (fun g5 eg5 => ?_)
    have hf := z_letE hf eg5
    refine zj_aload_n 0 hC dX1_bore_31 rfl ?_
    refine zj_dup hC dX1_bore_32 rfl ?_
    refine yg_2_0 hC hX1 (List.mem_of_getElem? (i := 1) rfl) dX1_bore_33 ?_
    refine zj_iconst (v := 1) hC dX1_bore_36 (by decide) ?_
    refine zj_iadd hC dX1_bore_37 ?_
    refine yp_2_0 hC hX1 (List.mem_of_getElem? (i := 1) rfl) dX1_bore_38 (fun g6 eg6 => ?_)
    have hf := z_letE hf eg6
    refine zj_aload_n 0 hC dX1_bore_41 rfl ?_
    refine yg_2_0 hC hX1 (List.mem_of_getElem? (i := 1) rfl) dX1_bore_42 ?_
    refine zj_iconst (v := 1) hC dX1_bore_45 (by decide) ?_
    refine zj_isub hC dX1_bore_46 ?_
    exact zj_ireturn hC hf dX1_bore_47
  · have hf := z_iteF hf c1
    refine zj_iconst (v := (-1)) hC dX1_bore_9 (by decide) ?_
    exact zj_ireturn hC hf dX1_bore_10

def fY_X1_turn_15  (g : z_G) : Option (Int32 × z_G) := some (0, g)
def fY_X1_turn (a0 : Int32) (a1 : Int32) (g : z_G) : Option (Int32 × z_G) := z_bind (fY_X1_has a0 g) (fun r1 g2 => (if r1 = 0 then fY_X1_turn_15 g2 else z_ck a0 12 (z_let (z_up g2 23 (Int32.toNatClampNeg a0) (vp_nar .boolean a1)) (fun g6 => fY_X1_turn_15 g6))))
theorem nY_X1_turn : yX1_turn.cls = RX1 ∧ yX1_turn.cls ≠ "java/lang/invoke/MethodHandle" ∧ yX1_turn.cls ≠ "java/lang/invoke/VarHandle" ∧ (parseMethodDescriptor yX1_turn.desc).map (fun d => d.parameters.length) = some 2 := by decide +kernel
set_option maxRecDepth 100000 in
set_option maxHeartbeats 4000000 in
theorem cY_X1_turn (l : Launch) (dC : Nat → ClassId) (dI : Nat → Nat → Nat) (ca : Nat → ClassId) (q : Nat → Nat) (tt : Nat → Nat) (a0 : Int32) (a1 : Int32) (g : z_G) (r : Int32) (g' : z_G) (hf : fY_X1_turn a0 a1 g = some (r, g')) : z_C l yX1_turn wsX1_turn { frames := 1, cells := 0, slots := 0, locals := 21 } (dC, dI) (tyY ca) (wY ca q) (zY tt) [.ref (q 2), .int a0, .int a1] g none g' := by
  refine z_enter (wY_ok ca q) (zY_ok tt) (by decide +kernel) rfl (Nat.le_of_ble_eq_true rfl) (fun J hC => ?_)
  have hC : z_Cx J l cX1_turn 3 wsX1_turn RX1 none { frames := 1, cells := 0, slots := 0, locals := 21 } (dC, dI) (tyY ca) (wY ca q) (zY tt) (z_QI (dC, dI) (tyY ca) (wY ca q) none g') z_X0 := hC
  show J 0 [(0, .ref (q 2)), (1, .int a0), (2, .int a1)] [] g
  have hX1 : ∀ w ∈ wsX10, w ∈ wsX1_turn := fun _ h => List.mem_cons_of_mem _ (List.mem_append_right _ (h))
  have hJ15 : ∀ (g : z_G), fY_X1_turn_15 g = some (r, g') → J 15 [] [] g := by
    intro g hf
    unfold fY_X1_turn_15 at hf
    exact zj_vreturn hC hf dX1_turn_15
  unfold fY_X1_turn at hf
  refine zj_aload_n 0 hC dX1_turn_0 rfl ?_
  refine zj_iload_n 1 hC dX1_turn_1 rfl ?_
  obtain ⟨r1, g2, hq3, hf⟩ := z_bindE hf
  refine zj_callVi [.int a0] hC (cY_X1_has l dC dI ca q tt a0 g r1 g2 hq3) gX1_turn_X1_has rfl nY_X1_has ⟨Nat.le_of_ble_eq_true rfl, Nat.le_of_ble_eq_true rfl⟩ 2 yo_2 rfl rfl rfl (Nat.le_of_ble_eq_true rfl) dX1_turn_2 rfl ?_
  refine zj_if_eq 15 hC dX1_turn_5 (by decide) (fun c4 => ?_) (fun c4 => ?_)
  · have hf := z_iteT hf c4
    exact zj_sub hC [] rfl (hJ15 g2 hf)
  · have hf := z_iteF hf c4
    refine zj_aload_n 0 hC dX1_turn_8 rfl ?_
    refine yg_2_2 hC hX1 (List.mem_of_getElem? (i := 1) rfl) dX1_turn_9 ?_
    refine zj_iload_n 1 hC dX1_turn_12 rfl ?_
    refine zj_iload_n 2 hC dX1_turn_13 rfl ?_
    obtain ⟨hq5, hf⟩ := z_ckE hf
    refine ys_23 hC hq5 dX1_turn_14 (fun g6 eg6 => ?_)
    have hf := z_letE hf eg6
    exact zj_sub hC [] rfl (hJ15 g6 hf)

def fY_X1_shutAll_2 (k2 : Int32 × z_G → Option (Int32 × z_G)) (x1 : Int32) (g : z_G) : Option (Int32 × z_G) := (if (g 2 0) ≤ x1 then some (0, g) else z_ck x1 12 (z_let (z_up g 23 (Int32.toNatClampNeg x1) (vp_nar .boolean 0)) (fun g3 => z_let (x1 + 1) (fun y4 => k2 (y4, g3)))))
def fY_X1_shutAll_2_go (x1 : Int32) (g : z_G) : Option (Int32 × z_G) := z_loop (fun k (w : Int32 × z_G) => fY_X1_shutAll_2 k w.1 w.2) z_fuel (x1, g)
def fY_X1_shutAll (g : z_G) : Option (Int32 × z_G) := fY_X1_shutAll_2_go 0 g
theorem nY_X1_shutAll : yX1_shutAll.cls = RX1 ∧ yX1_shutAll.cls ≠ "java/lang/invoke/MethodHandle" ∧ yX1_shutAll.cls ≠ "java/lang/invoke/VarHandle" ∧ (parseMethodDescriptor yX1_shutAll.desc).map (fun d => d.parameters.length) = some 0 := by decide +kernel
set_option maxRecDepth 100000 in
set_option maxHeartbeats 4000000 in
theorem cY_X1_shutAll (l : Launch) (dC : Nat → ClassId) (dI : Nat → Nat → Nat) (ca : Nat → ClassId) (q : Nat → Nat) (tt : Nat → Nat) (g : z_G) (r : Int32) (g' : z_G) (hf : fY_X1_shutAll g = some (r, g')) : z_C l yX1_shutAll wsX1_shutAll { frames := 0, cells := 0, slots := 0, locals := 0 } (dC, dI) (tyY ca) (wY ca q) (zY tt) [.ref (q 2)] g none g' := by
  refine z_enter (wY_ok ca q) (zY_ok tt) (by decide +kernel) rfl (Nat.le_of_ble_eq_true rfl) (fun J hC => ?_)
  have hC : z_Cx J l cX1_shutAll 2 wsX1_shutAll RX1 none { frames := 0, cells := 0, slots := 0, locals := 0 } (dC, dI) (tyY ca) (wY ca q) (zY tt) (z_QI (dC, dI) (tyY ca) (wY ca q) none g') z_X0 := hC
  show J 0 [(0, .ref (q 2))] [] g
  have hX1 : ∀ w ∈ wsX10, w ∈ wsX1_shutAll := fun _ h => List.mem_cons_of_mem _ (List.mem_append_right _ (h))
  have hJ2 : ∀ (x1 : Int32) (g : z_G), fY_X1_shutAll_2_go x1 g = some (r, g') → J 2 [(0, .ref (q 2)), (1, .int x1)] [] g := by
    intro x1 g hf
    refine z_loopE (P := fun w : Int32 × z_G => J 2 [(0, .ref (q 2)), (1, .int w.1)] [] w.2) (fun k2 hk2 w hf => ?_) z_fuel (x1, g) hf
    obtain ⟨x1, g⟩ := w
    have hf : fY_X1_shutAll_2 k2 x1 g = some (r, g') := hf
    show J 2 [(0, .ref (q 2)), (1, .int x1)] [] g
    unfold fY_X1_shutAll_2 at hf
    refine zj_iload_n 1 hC dX1_shutAll_2 rfl ?_
    refine zj_aload_n 0 hC dX1_shutAll_3 rfl ?_
    refine yg_2_0 hC hX1 (List.mem_of_getElem? (i := 1) rfl) dX1_shutAll_4 ?_
    refine zj_icmp_ge 23 hC dX1_shutAll_7 (by decide) (fun c1 => ?_) (fun c1 => ?_)
    · have hf := z_iteT hf c1
      exact zj_vreturn hC hf dX1_shutAll_23
    · have hf := z_iteF hf c1
      refine zj_aload_n 0 hC dX1_shutAll_10 rfl ?_
      refine yg_2_2 hC hX1 (List.mem_of_getElem? (i := 2) rfl) dX1_shutAll_11 ?_
      refine zj_iload_n 1 hC dX1_shutAll_14 rfl ?_
      refine zj_iconst (v := 0) hC dX1_shutAll_15 (by decide) ?_
      obtain ⟨hq2, hf⟩ := z_ckE hf
      refine ys_23 hC hq2 dX1_shutAll_16 (fun g3 eg3 => ?_)
      have hf := z_letE hf eg3
      refine zj_iinc (lv1 := fun v => [(1, .int v), (0, .ref (q 2))]) 1 hC dX1_shutAll_17 rfl (by decide) (fun _ => rfl) (fun y4 ey4 => ?_)
      have hf := z_letE hf (show y4 = x1 + 1 from ey4)
      refine zj_goto 2 hC dX1_shutAll_20 (by decide) ?_
      exact zj_sub hC [1, 0] rfl (hk2 (y4, g3) hf)
  unfold fY_X1_shutAll at hf
  refine zj_iconst (v := 0) hC dX1_shutAll_0 (by decide) ?_
  refine zj_istore_n (lv1 := [(1, .int 0), (0, .ref (q 2))]) hC dX1_shutAll_1 (by decide) rfl ?_
  exact zj_sub hC [1, 0] rfl (hJ2 0 g hf)

def fY_X1_countOpen_24 (k4 : Int32 × Int32 × z_G → Option (Int32 × z_G)) (x1 : Int32) (x2 : Int32) (g : z_G) : Option (Int32 × z_G) := z_let (x2 + 1) (fun y1 => k4 (x1, y1, g))
def fY_X1_countOpen_4 (k4 : Int32 × Int32 × z_G → Option (Int32 × z_G)) (x1 : Int32) (x2 : Int32) (g : z_G) : Option (Int32 × z_G) := (if (g 2 0) ≤ x2 then some (x1, g) else z_ck x2 12 ((if (g 23 (Int32.toNatClampNeg x2)) = 0 then fY_X1_countOpen_24 k4 x1 x2 g else z_let (x1 + 1) (fun y5 => fY_X1_countOpen_24 k4 y5 x2 g))))
def fY_X1_countOpen_4_go (x1 : Int32) (x2 : Int32) (g : z_G) : Option (Int32 × z_G) := z_loop (fun k (w : Int32 × Int32 × z_G) => fY_X1_countOpen_4 k w.1 w.2.1 w.2.2) z_fuel (x1, x2, g)
def fY_X1_countOpen (g : z_G) : Option (Int32 × z_G) := fY_X1_countOpen_4_go 0 0 g
theorem nY_X1_countOpen : yX1_countOpen.cls = RX1 ∧ yX1_countOpen.cls ≠ "java/lang/invoke/MethodHandle" ∧ yX1_countOpen.cls ≠ "java/lang/invoke/VarHandle" ∧ (parseMethodDescriptor yX1_countOpen.desc).map (fun d => d.parameters.length) = some 0 := by decide +kernel
set_option maxRecDepth 100000 in
set_option maxHeartbeats 4000000 in
theorem cY_X1_countOpen (l : Launch) (dC : Nat → ClassId) (dI : Nat → Nat → Nat) (ca : Nat → ClassId) (q : Nat → Nat) (tt : Nat → Nat) (g : z_G) (r : Int32) (g' : z_G) (hf : fY_X1_countOpen g = some (r, g')) : z_C l yX1_countOpen wsX1_countOpen { frames := 0, cells := 0, slots := 0, locals := 0 } (dC, dI) (tyY ca) (wY ca q) (zY tt) [.ref (q 2)] g (some r) g' := by
  refine z_enter (wY_ok ca q) (zY_ok tt) (by decide +kernel) rfl (Nat.le_of_ble_eq_true rfl) (fun J hC => ?_)
  have hC : z_Cx J l cX1_countOpen 3 wsX1_countOpen RX1 (some .int) { frames := 0, cells := 0, slots := 0, locals := 0 } (dC, dI) (tyY ca) (wY ca q) (zY tt) (z_QI (dC, dI) (tyY ca) (wY ca q) (some r) g') z_X0 := hC
  show J 0 [(0, .ref (q 2))] [] g
  have hX1 : ∀ w ∈ wsX10, w ∈ wsX1_countOpen := fun _ h => List.mem_cons_of_mem _ (List.mem_append_right _ (h))
  have hJ24 : ∀ (k4 : Int32 × Int32 × z_G → Option (Int32 × z_G)) (_ : ∀ w : Int32 × Int32 × z_G, k4 w = some (r, g') → J 4 [(0, .ref (q 2)), (1, .int w.1), (2, .int w.2.1)] [] w.2.2) (x1 : Int32) (x2 : Int32) (g : z_G), fY_X1_countOpen_24 k4 x1 x2 g = some (r, g') → J 24 [(0, .ref (q 2)), (1, .int x1), (2, .int x2)] [] g := by
    intro k4 hk4 x1 x2 g hf
    unfold fY_X1_countOpen_24 at hf
    refine zj_iinc (lv1 := fun v => [(2, .int v), (0, .ref (q 2)), (1, .int x1)]) 2 hC dX1_countOpen_24 rfl (by decide) (fun _ => rfl) (fun y1 ey1 => ?_)
    have hf := z_letE hf (show y1 = x2 + 1 from ey1)
    refine zj_goto 4 hC dX1_countOpen_27 (by decide) ?_
    exact zj_sub hC [1, 2, 0] rfl (hk4 (x1, y1, g) hf)
  have hJ4 : ∀ (x1 : Int32) (x2 : Int32) (g : z_G), fY_X1_countOpen_4_go x1 x2 g = some (r, g') → J 4 [(0, .ref (q 2)), (1, .int x1), (2, .int x2)] [] g := by
    intro x1 x2 g hf
    refine z_loopE (P := fun w : Int32 × Int32 × z_G => J 4 [(0, .ref (q 2)), (1, .int w.1), (2, .int w.2.1)] [] w.2.2) (fun k4 hk4 w hf => ?_) z_fuel (x1, x2, g) hf
    obtain ⟨x1, x2, g⟩ := w
    have hf : fY_X1_countOpen_4 k4 x1 x2 g = some (r, g') := hf
    show J 4 [(0, .ref (q 2)), (1, .int x1), (2, .int x2)] [] g
    unfold fY_X1_countOpen_4 at hf
    refine zj_iload_n 2 hC dX1_countOpen_4 rfl ?_
    refine zj_aload_n 0 hC dX1_countOpen_5 rfl ?_
    refine yg_2_0 hC hX1 (List.mem_of_getElem? (i := 1) rfl) dX1_countOpen_6 ?_
    refine zj_icmp_ge 30 hC dX1_countOpen_9 (by decide) (fun c2 => ?_) (fun c2 => ?_)
    · have hf := z_iteT hf c2
      refine zj_iload_n 1 hC dX1_countOpen_30 rfl ?_
      exact zj_ireturn hC hf dX1_countOpen_31
    · have hf := z_iteF hf c2
      refine zj_aload_n 0 hC dX1_countOpen_12 rfl ?_
      refine yg_2_2 hC hX1 (List.mem_of_getElem? (i := 2) rfl) dX1_countOpen_13 ?_
      refine zj_iload_n 2 hC dX1_countOpen_16 rfl ?_
      obtain ⟨hq3, hf⟩ := z_ckE hf
      refine ya_23 hC hq3 dX1_countOpen_17 ?_
      refine zj_if_eq 24 hC dX1_countOpen_18 (by decide) (fun c4 => ?_) (fun c4 => ?_)
      · have hf := z_iteT hf c4
        exact (hJ24 k4 hk4 x1 x2 g hf)
      · have hf := z_iteF hf c4
        refine zj_iinc (lv1 := fun v => [(1, .int v), (0, .ref (q 2)), (2, .int x2)]) 1 hC dX1_countOpen_21 rfl (by decide) (fun _ => rfl) (fun y5 ey5 => ?_)
        have hf := z_letE hf (show y5 = x1 + 1 from ey5)
        exact zj_sub hC [1, 0, 2] rfl (hJ24 k4 hk4 y5 x2 g hf)
  unfold fY_X1_countOpen at hf
  refine zj_iconst (v := 0) hC dX1_countOpen_0 (by decide) ?_
  refine zj_istore_n (lv1 := [(1, .int 0), (0, .ref (q 2))]) hC dX1_countOpen_1 (by decide) rfl ?_
  refine zj_iconst (v := 0) hC dX1_countOpen_2 (by decide) ?_
  refine zj_istore_n (lv1 := [(2, .int 0), (1, .int 0), (0, .ref (q 2))]) hC dX1_countOpen_3 (by decide) rfl ?_
  exact zj_sub hC [2, 1, 0] rfl (hJ4 0 0 g hf)

def fY_X1_keepOpen_2 (k2 : Int32 × z_G → Option (Int32 × z_G)) (x1 : Int32) (g : z_G) : Option (Int32 × z_G) := (if (g 2 0) ≤ x1 then some (0, g) else z_ck x1 12 (z_ck x1 12 (z_let (z_up g 24 (Int32.toNatClampNeg x1) (vp_nar .boolean (g 23 (Int32.toNatClampNeg x1)))) (fun g4 => z_let (x1 + 1) (fun y5 => k2 (y5, g4))))))
def fY_X1_keepOpen_2_go (x1 : Int32) (g : z_G) : Option (Int32 × z_G) := z_loop (fun k (w : Int32 × z_G) => fY_X1_keepOpen_2 k w.1 w.2) z_fuel (x1, g)
def fY_X1_keepOpen (g : z_G) : Option (Int32 × z_G) := fY_X1_keepOpen_2_go 0 g
theorem nY_X1_keepOpen : yX1_keepOpen.cls = RX1 ∧ yX1_keepOpen.cls ≠ "java/lang/invoke/MethodHandle" ∧ yX1_keepOpen.cls ≠ "java/lang/invoke/VarHandle" ∧ (parseMethodDescriptor yX1_keepOpen.desc).map (fun d => d.parameters.length) = some 0 := by decide +kernel
set_option maxRecDepth 100000 in
set_option maxHeartbeats 4000000 in
theorem cY_X1_keepOpen (l : Launch) (dC : Nat → ClassId) (dI : Nat → Nat → Nat) (ca : Nat → ClassId) (q : Nat → Nat) (tt : Nat → Nat) (g : z_G) (r : Int32) (g' : z_G) (hf : fY_X1_keepOpen g = some (r, g')) : z_C l yX1_keepOpen wsX1_keepOpen { frames := 0, cells := 0, slots := 0, locals := 0 } (dC, dI) (tyY ca) (wY ca q) (zY tt) [.ref (q 2)] g none g' := by
  refine z_enter (wY_ok ca q) (zY_ok tt) (by decide +kernel) rfl (Nat.le_of_ble_eq_true rfl) (fun J hC => ?_)
  have hC : z_Cx J l cX1_keepOpen 2 wsX1_keepOpen RX1 none { frames := 0, cells := 0, slots := 0, locals := 0 } (dC, dI) (tyY ca) (wY ca q) (zY tt) (z_QI (dC, dI) (tyY ca) (wY ca q) none g') z_X0 := hC
  show J 0 [(0, .ref (q 2))] [] g
  have hX1 : ∀ w ∈ wsX10, w ∈ wsX1_keepOpen := fun _ h => List.mem_cons_of_mem _ (List.mem_append_right _ (h))
  have hJ2 : ∀ (x1 : Int32) (g : z_G), fY_X1_keepOpen_2_go x1 g = some (r, g') → J 2 [(0, .ref (q 2)), (1, .int x1)] [] g := by
    intro x1 g hf
    refine z_loopE (P := fun w : Int32 × z_G => J 2 [(0, .ref (q 2)), (1, .int w.1)] [] w.2) (fun k2 hk2 w hf => ?_) z_fuel (x1, g) hf
    obtain ⟨x1, g⟩ := w
    have hf : fY_X1_keepOpen_2 k2 x1 g = some (r, g') := hf
    show J 2 [(0, .ref (q 2)), (1, .int x1)] [] g
    unfold fY_X1_keepOpen_2 at hf
    refine zj_iload_n 1 hC dX1_keepOpen_2 rfl ?_
    refine zj_aload_n 0 hC dX1_keepOpen_3 rfl ?_
    refine yg_2_0 hC hX1 (List.mem_of_getElem? (i := 1) rfl) dX1_keepOpen_4 ?_
    refine zj_icmp_ge 28 hC dX1_keepOpen_7 (by decide) (fun c1 => ?_) (fun c1 => ?_)
    · have hf := z_iteT hf c1
      exact zj_vreturn hC hf dX1_keepOpen_28
    · have hf := z_iteF hf c1
      refine zj_aload_n 0 hC dX1_keepOpen_10 rfl ?_
      refine yg_2_3 hC hX1 (List.mem_of_getElem? (i := 2) rfl) dX1_keepOpen_11 ?_
      refine zj_iload_n 1 hC dX1_keepOpen_14 rfl ?_
      refine zj_aload_n 0 hC dX1_keepOpen_15 rfl ?_
      refine yg_2_2 hC hX1 (List.mem_of_getElem? (i := 3) rfl) dX1_keepOpen_16 ?_
      refine zj_iload_n 1 hC dX1_keepOpen_19 rfl ?_
      obtain ⟨hq2, hf⟩ := z_ckE hf
      refine ya_23 hC hq2 dX1_keepOpen_20 ?_
      obtain ⟨hq3, hf⟩ := z_ckE hf
      refine ys_24 hC hq3 dX1_keepOpen_21 (fun g4 eg4 => ?_)
      have hf := z_letE hf eg4
      refine zj_iinc (lv1 := fun v => [(1, .int v), (0, .ref (q 2))]) 1 hC dX1_keepOpen_22 rfl (by decide) (fun _ => rfl) (fun y5 ey5 => ?_)
      have hf := z_letE hf (show y5 = x1 + 1 from ey5)
      refine zj_goto 2 hC dX1_keepOpen_25 (by decide) ?_
      exact zj_sub hC [1, 0] rfl (hk2 (y5, g4) hf)
  unfold fY_X1_keepOpen at hf
  refine zj_iconst (v := 0) hC dX1_keepOpen_0 (by decide) ?_
  refine zj_istore_n (lv1 := [(1, .int 0), (0, .ref (q 2))]) hC dX1_keepOpen_1 (by decide) rfl ?_
  exact zj_sub hC [1, 0] rfl (hJ2 0 g hf)

def fY_X1_backToLight_2 (k2 : Int32 × z_G → Option (Int32 × z_G)) (x1 : Int32) (g : z_G) : Option (Int32 × z_G) := (if (g 2 0) ≤ x1 then some (0, g) else z_ck x1 12 (z_ck x1 12 (z_let (z_up g 23 (Int32.toNatClampNeg x1) (vp_nar .boolean (g 24 (Int32.toNatClampNeg x1)))) (fun g4 => z_let (x1 + 1) (fun y5 => k2 (y5, g4))))))
def fY_X1_backToLight_2_go (x1 : Int32) (g : z_G) : Option (Int32 × z_G) := z_loop (fun k (w : Int32 × z_G) => fY_X1_backToLight_2 k w.1 w.2) z_fuel (x1, g)
def fY_X1_backToLight (g : z_G) : Option (Int32 × z_G) := fY_X1_backToLight_2_go 0 g
theorem nY_X1_backToLight : yX1_backToLight.cls = RX1 ∧ yX1_backToLight.cls ≠ "java/lang/invoke/MethodHandle" ∧ yX1_backToLight.cls ≠ "java/lang/invoke/VarHandle" ∧ (parseMethodDescriptor yX1_backToLight.desc).map (fun d => d.parameters.length) = some 0 := by decide +kernel
set_option maxRecDepth 100000 in
set_option maxHeartbeats 4000000 in
theorem cY_X1_backToLight (l : Launch) (dC : Nat → ClassId) (dI : Nat → Nat → Nat) (ca : Nat → ClassId) (q : Nat → Nat) (tt : Nat → Nat) (g : z_G) (r : Int32) (g' : z_G) (hf : fY_X1_backToLight g = some (r, g')) : z_C l yX1_backToLight wsX1_backToLight { frames := 0, cells := 0, slots := 0, locals := 0 } (dC, dI) (tyY ca) (wY ca q) (zY tt) [.ref (q 2)] g none g' := by
  refine z_enter (wY_ok ca q) (zY_ok tt) (by decide +kernel) rfl (Nat.le_of_ble_eq_true rfl) (fun J hC => ?_)
  have hC : z_Cx J l cX1_backToLight 2 wsX1_backToLight RX1 none { frames := 0, cells := 0, slots := 0, locals := 0 } (dC, dI) (tyY ca) (wY ca q) (zY tt) (z_QI (dC, dI) (tyY ca) (wY ca q) none g') z_X0 := hC
  show J 0 [(0, .ref (q 2))] [] g
  have hX1 : ∀ w ∈ wsX10, w ∈ wsX1_backToLight := fun _ h => List.mem_cons_of_mem _ (List.mem_append_right _ (h))
  have hJ2 : ∀ (x1 : Int32) (g : z_G), fY_X1_backToLight_2_go x1 g = some (r, g') → J 2 [(0, .ref (q 2)), (1, .int x1)] [] g := by
    intro x1 g hf
    refine z_loopE (P := fun w : Int32 × z_G => J 2 [(0, .ref (q 2)), (1, .int w.1)] [] w.2) (fun k2 hk2 w hf => ?_) z_fuel (x1, g) hf
    obtain ⟨x1, g⟩ := w
    have hf : fY_X1_backToLight_2 k2 x1 g = some (r, g') := hf
    show J 2 [(0, .ref (q 2)), (1, .int x1)] [] g
    unfold fY_X1_backToLight_2 at hf
    refine zj_iload_n 1 hC dX1_backToLight_2 rfl ?_
    refine zj_aload_n 0 hC dX1_backToLight_3 rfl ?_
    refine yg_2_0 hC hX1 (List.mem_of_getElem? (i := 1) rfl) dX1_backToLight_4 ?_
    refine zj_icmp_ge 28 hC dX1_backToLight_7 (by decide) (fun c1 => ?_) (fun c1 => ?_)
    · have hf := z_iteT hf c1
      exact zj_vreturn hC hf dX1_backToLight_28
    · have hf := z_iteF hf c1
      refine zj_aload_n 0 hC dX1_backToLight_10 rfl ?_
      refine yg_2_2 hC hX1 (List.mem_of_getElem? (i := 2) rfl) dX1_backToLight_11 ?_
      refine zj_iload_n 1 hC dX1_backToLight_14 rfl ?_
      refine zj_aload_n 0 hC dX1_backToLight_15 rfl ?_
      refine yg_2_3 hC hX1 (List.mem_of_getElem? (i := 3) rfl) dX1_backToLight_16 ?_
      refine zj_iload_n 1 hC dX1_backToLight_19 rfl ?_
      obtain ⟨hq2, hf⟩ := z_ckE hf
      refine ya_24 hC hq2 dX1_backToLight_20 ?_
      obtain ⟨hq3, hf⟩ := z_ckE hf
      refine ys_23 hC hq3 dX1_backToLight_21 (fun g4 eg4 => ?_)
      have hf := z_letE hf eg4
      refine zj_iinc (lv1 := fun v => [(1, .int v), (0, .ref (q 2))]) 1 hC dX1_backToLight_22 rfl (by decide) (fun _ => rfl) (fun y5 ey5 => ?_)
      have hf := z_letE hf (show y5 = x1 + 1 from ey5)
      refine zj_goto 2 hC dX1_backToLight_25 (by decide) ?_
      exact zj_sub hC [1, 0] rfl (hk2 (y5, g4) hf)
  unfold fY_X1_backToLight at hf
  refine zj_iconst (v := 0) hC dX1_backToLight_0 (by decide) ?_
  refine zj_istore_n (lv1 := [(1, .int 0), (0, .ref (q 2))]) hC dX1_backToLight_1 (by decide) rfl ?_
  exact zj_sub hC [1, 0] rfl (hJ2 0 g hf)

def fY_X5_addFour_16 (k16 : Int32 × Int32 × z_G → Option (Int32 × z_G)) (x1 : Int32) (x2 : Int32) (g : z_G) : Option (Int32 × z_G) := (if x2 < 0 then some (g 4 0, g) else z_ck (g 4 0) 100 (z_let (z_up g 35 (Int32.toNatClampNeg (g 4 0)) ((((x1 : Int32).toUInt32 >>> ((x2 : Int32).toUInt32 &&& Int32.toUInt32 31)).toInt32) &&& 255)) (fun g3 => z_let (z_up g3 4 0 ((g3 4 0) + 1)) (fun g4 => z_let (x2 + (-8)) (fun y5 => k16 (x1, y5, g4))))))
def fY_X5_addFour_16_go (x1 : Int32) (x2 : Int32) (g : z_G) : Option (Int32 × z_G) := z_loop (fun k (w : Int32 × Int32 × z_G) => fY_X5_addFour_16 k w.1 w.2.1 w.2.2) z_fuel (x1, x2, g)
def fY_X5_addFour (a0 : Int32) (g : z_G) : Option (Int32 × z_G) := (if ((g 4 0) + 4) ≤ 100 then fY_X5_addFour_16_go a0 24 g else some ((-1), g))
theorem nY_X5_addFour : yX5_addFour.cls = RX5 ∧ yX5_addFour.cls ≠ "java/lang/invoke/MethodHandle" ∧ yX5_addFour.cls ≠ "java/lang/invoke/VarHandle" ∧ (parseMethodDescriptor yX5_addFour.desc).map (fun d => d.parameters.length) = some 1 := by decide +kernel
set_option maxRecDepth 100000 in
set_option maxHeartbeats 4000000 in
theorem cY_X5_addFour (l : Launch) (dC : Nat → ClassId) (dI : Nat → Nat → Nat) (ca : Nat → ClassId) (q : Nat → Nat) (tt : Nat → Nat) (a0 : Int32) (g : z_G) (r : Int32) (g' : z_G) (hf : fY_X5_addFour a0 g = some (r, g')) : z_C l yX5_addFour wsX5_addFour { frames := 0, cells := 0, slots := 0, locals := 0 } (dC, dI) (tyY ca) (wY ca q) (zY tt) [.ref (q 4), .int a0] g (some r) g' := by
  refine z_enter (wY_ok ca q) (zY_ok tt) (by decide +kernel) rfl (Nat.le_of_ble_eq_true rfl) (fun J hC => ?_)
  have hC : z_Cx J l cX5_addFour 3 wsX5_addFour RX5 (some .int) { frames := 0, cells := 0, slots := 0, locals := 0 } (dC, dI) (tyY ca) (wY ca q) (zY tt) (z_QI (dC, dI) (tyY ca) (wY ca q) (some r) g') z_X0 := hC
  show J 0 [(0, .ref (q 4)), (1, .int a0)] [] g
  have hX5 : ∀ w ∈ wsX50, w ∈ wsX5_addFour := fun _ h => List.mem_cons_of_mem _ (List.mem_append_right _ (h))
  have hJ16 : ∀ (x1 : Int32) (x2 : Int32) (g : z_G), fY_X5_addFour_16_go x1 x2 g = some (r, g') → J 16 [(0, .ref (q 4)), (1, .int x1), (2, .int x2)] [] g := by
    intro x1 x2 g hf
    refine z_loopE (P := fun w : Int32 × Int32 × z_G => J 16 [(0, .ref (q 4)), (1, .int w.1), (2, .int w.2.1)] [] w.2.2) (fun k16 hk16 w hf => ?_) z_fuel (x1, x2, g) hf
    obtain ⟨x1, x2, g⟩ := w
    have hf : fY_X5_addFour_16 k16 x1 x2 g = some (r, g') := hf
    show J 16 [(0, .ref (q 4)), (1, .int x1), (2, .int x2)] [] g
    unfold fY_X5_addFour_16 at hf
    refine zj_iload_n 2 hC dX5_addFour_16 rfl ?_
    refine zj_if_lt 52 hC dX5_addFour_17 (by decide) (fun c1 => ?_) (fun c1 => ?_)
    · have hf := z_iteT hf c1
      refine zj_aload_n 0 hC dX5_addFour_52 rfl ?_
      refine yg_4_0 hC hX5 (List.mem_of_getElem? (i := 1) rfl) dX5_addFour_53 ?_
      exact zj_ireturn hC hf dX5_addFour_56
    · have hf := z_iteF hf c1
      refine zj_aload_n 0 hC dX5_addFour_20 rfl ?_
      refine yg_4_1 hC hX5 (List.mem_of_getElem? (i := 2) rfl) dX5_addFour_21 ?_
      refine zj_aload_n 0 hC dX5_addFour_24 rfl ?_
      refine yg_4_0 hC hX5 (List.mem_of_getElem? (i := 1) rfl) dX5_addFour_25 ?_
      refine zj_iload_n 1 hC dX5_addFour_28 rfl ?_
      refine zj_iload_n 2 hC dX5_addFour_29 rfl ?_
      refine zj_iushr hC dX5_addFour_30 ?_
      refine zj_sipush (v := 255) hC dX5_addFour_31 (by decide) ?_
      refine zj_iand hC dX5_addFour_34 ?_
      obtain ⟨hq2, hf⟩ := z_ckE hf
      refine ys_35 hC hq2 dX5_addFour_35 (fun g3 eg3 => ?_)
      have hf := z_letE hf eg3
      refine zj_aload_n 0 hC dX5_addFour_36 rfl ?_
      refine zj_dup hC dX5_addFour_37 rfl ?_
      refine yg_4_0 hC hX5 (List.mem_of_getElem? (i := 1) rfl) dX5_addFour_38 ?_
      refine zj_iconst (v := 1) hC dX5_addFour_41 (by decide) ?_
      refine zj_iadd hC dX5_addFour_42 ?_
      refine yp_4_0 hC hX5 (List.mem_of_getElem? (i := 1) rfl) dX5_addFour_43 (fun g4 eg4 => ?_)
      have hf := z_letE hf eg4
      refine zj_iinc (lv1 := fun v => [(2, .int v), (0, .ref (q 4)), (1, .int x1)]) 2 hC dX5_addFour_46 rfl (by decide) (fun _ => rfl) (fun y5 ey5 => ?_)
      have hf := z_letE hf (show y5 = x2 + (-8) from ey5)
      refine zj_goto 16 hC dX5_addFour_49 (by decide) ?_
      exact zj_sub hC [1, 2, 0] rfl (hk16 (x1, y5, g4) hf)
  unfold fY_X5_addFour at hf
  refine zj_aload_n 0 hC dX5_addFour_0 rfl ?_
  refine yg_4_0 hC hX5 (List.mem_of_getElem? (i := 1) rfl) dX5_addFour_1 ?_
  refine zj_iconst (v := 4) hC dX5_addFour_4 (by decide) ?_
  refine zj_iadd hC dX5_addFour_5 ?_
  refine zj_bipush (v := 100) hC dX5_addFour_6 (by decide) ?_
  refine zj_icmp_le 13 hC dX5_addFour_8 (by decide) (fun c6 => ?_) (fun c6 => ?_)
  · have hf := z_iteT hf c6
    refine zj_bipush (v := 24) hC dX5_addFour_13 (by decide) ?_
    refine zj_istore_n (lv1 := [(2, .int 24), (0, .ref (q 4)), (1, .int a0)]) hC dX5_addFour_15 (by decide) rfl ?_
    exact zj_sub hC [1, 2, 0] rfl (hJ16 a0 24 g hf)
  · have hf := z_iteF hf c6
    refine zj_iconst (v := (-1)) hC dX5_addFour_11 (by decide) ?_
    exact zj_ireturn hC hf dX5_addFour_12

def fY_X5_signAt_22 (s0 : Int32) (g : z_G) : Option (Int32 × z_G) := some (s0, g)
def fY_X5_signAt_21  (g : z_G) : Option (Int32 × z_G) := fY_X5_signAt_22 (-1) g
def fY_X5_signAt (a0 : Int32) (g : z_G) : Option (Int32 × z_G) := (if a0 < 0 then fY_X5_signAt_21 g else (if (g 4 0) ≤ a0 then fY_X5_signAt_21 g else z_ck a0 100 (fY_X5_signAt_22 (g 35 (Int32.toNatClampNeg a0)) g)))
theorem nY_X5_signAt : yX5_signAt.cls = RX5 ∧ yX5_signAt.cls ≠ "java/lang/invoke/MethodHandle" ∧ yX5_signAt.cls ≠ "java/lang/invoke/VarHandle" ∧ (parseMethodDescriptor yX5_signAt.desc).map (fun d => d.parameters.length) = some 1 := by decide +kernel
set_option maxRecDepth 100000 in
set_option maxHeartbeats 4000000 in
theorem cY_X5_signAt (l : Launch) (dC : Nat → ClassId) (dI : Nat → Nat → Nat) (ca : Nat → ClassId) (q : Nat → Nat) (tt : Nat → Nat) (a0 : Int32) (g : z_G) (r : Int32) (g' : z_G) (hf : fY_X5_signAt a0 g = some (r, g')) : z_C l yX5_signAt wsX5_signAt { frames := 0, cells := 0, slots := 0, locals := 0 } (dC, dI) (tyY ca) (wY ca q) (zY tt) [.ref (q 4), .int a0] g (some r) g' := by
  refine z_enter (wY_ok ca q) (zY_ok tt) (by decide +kernel) rfl (Nat.le_of_ble_eq_true rfl) (fun J hC => ?_)
  have hC : z_Cx J l cX5_signAt 2 wsX5_signAt RX5 (some .int) { frames := 0, cells := 0, slots := 0, locals := 0 } (dC, dI) (tyY ca) (wY ca q) (zY tt) (z_QI (dC, dI) (tyY ca) (wY ca q) (some r) g') z_X0 := hC
  show J 0 [(0, .ref (q 4)), (1, .int a0)] [] g
  have hX5 : ∀ w ∈ wsX50, w ∈ wsX5_signAt := fun _ h => List.mem_cons_of_mem _ (List.mem_append_right _ (h))
  have hJ22 : ∀ (s0 : Int32) (g : z_G), fY_X5_signAt_22 s0 g = some (r, g') → J 22 [] [.int s0] g := by
    intro s0 g hf
    unfold fY_X5_signAt_22 at hf
    exact zj_ireturn hC hf dX5_signAt_22
  have hJ21 : ∀ (g : z_G), fY_X5_signAt_21 g = some (r, g') → J 21 [] [] g := by
    intro g hf
    unfold fY_X5_signAt_21 at hf
    refine zj_iconst (v := (-1)) hC dX5_signAt_21 (by decide) ?_
    exact (hJ22 (-1) g hf)
  unfold fY_X5_signAt at hf
  refine zj_iload_n 1 hC dX5_signAt_0 rfl ?_
  refine zj_if_lt 21 hC dX5_signAt_1 (by decide) (fun c1 => ?_) (fun c1 => ?_)
  · have hf := z_iteT hf c1
    exact zj_sub hC [] rfl (hJ21 g hf)
  · have hf := z_iteF hf c1
    refine zj_iload_n 1 hC dX5_signAt_4 rfl ?_
    refine zj_aload_n 0 hC dX5_signAt_5 rfl ?_
    refine yg_4_0 hC hX5 (List.mem_of_getElem? (i := 1) rfl) dX5_signAt_6 ?_
    refine zj_icmp_ge 21 hC dX5_signAt_9 (by decide) (fun c2 => ?_) (fun c2 => ?_)
    · have hf := z_iteT hf c2
      exact zj_sub hC [] rfl (hJ21 g hf)
    · have hf := z_iteF hf c2
      refine zj_aload_n 0 hC dX5_signAt_12 rfl ?_
      refine yg_4_1 hC hX5 (List.mem_of_getElem? (i := 2) rfl) dX5_signAt_13 ?_
      refine zj_iload_n 1 hC dX5_signAt_16 rfl ?_
      obtain ⟨hq3, hf⟩ := z_ckE hf
      refine ya_35 hC hq3 dX5_signAt_17 ?_
      refine zj_goto 22 hC dX5_signAt_18 (by decide) ?_
      exact zj_sub hC [] rfl (hJ22 (g 35 (Int32.toNatClampNeg a0)) g hf)
