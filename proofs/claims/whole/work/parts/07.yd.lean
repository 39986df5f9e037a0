def fY_X2_isKind_17 (s0 : Int32) (g : z_G) : Option (Int32 × z_G) := z_bo s0 (some (s0, g))
def fY_X2_isKind_16  (g : z_G) : Option (Int32 × z_G) := fY_X2_isKind_17 0 g
def fY_X2_isKind (a0 : Int32) (g : z_G) : Option (Int32 × z_G) := (if a0 < 0 then fY_X2_isKind_16 g else (if 4 ≤ a0 then fY_X2_isKind_16 g else fY_X2_isKind_17 1 g))
theorem nY_X2_isKind : yX2_isKind.cls ≠ "java/lang/invoke/MethodHandle" ∧ yX2_isKind.cls ≠ "java/lang/invoke/VarHandle" ∧ (parseMethodDescriptor yX2_isKind.desc).map (fun d => d.parameters.length) = some 1 := by decide +kernel
set_option maxRecDepth 100000 in
set_option maxHeartbeats 4000000 in
theorem cY_X2_isKind (l : Launch) (dC : Nat → ClassId) (dI : Nat → Nat → Nat) (ca : Nat → ClassId) (q : Nat → Nat) (tt : Nat → Nat) (a0 : Int32) (g : z_G) (r : Int32) (g' : z_G) (hf : fY_X2_isKind a0 g = some (r, g')) : z_C l yX2_isKind wsX2_isKind { frames := 0, cells := 0, slots := 0, locals := 0 } (dC, dI) (tyY ca) (wY ca q) (zY tt) [.int a0] g (some r) g' := by
  refine z_enter (wY_ok ca q) (zY_ok tt) (by decide +kernel) rfl (Nat.le_of_ble_eq_true rfl) (fun J hC => ?_)
  have hC : z_Cx J l cX2_isKind 1 wsX2_isKind RX2 (some .boolean) { frames := 0, cells := 0, slots := 0, locals := 0 } (dC, dI) (tyY ca) (wY ca q) (zY tt) (z_QI (dC, dI) (tyY ca) (wY ca q) (some r) g') z_X0 := hC
  show J 0 [(0, .int a0)] [] g
  have hJ17 : ∀ (s0 : Int32) (g : z_G), fY_X2_isKind_17 s0 g = some (r, g') → J 17 [] [.int s0] g := by
    intro s0 g hf
    unfold fY_X2_isKind_17 at hf
    exact zj_zreturn hC hf dX2_isKind_17
  have hJ16 : ∀ (g : z_G), fY_X2_isKind_16 g = some (r, g') → J 16 [] [] g := by
    intro g hf
    unfold fY_X2_isKind_16 at hf
    refine zj_iconst (v := 0) hC dX2_isKind_16 (by decide) ?_
    exact (hJ17 0 g hf)
  unfold fY_X2_isKind at hf
  refine zj_iload_n 0 hC dX2_isKind_0 rfl ?_
  refine zj_if_lt 16 hC dX2_isKind_1 (by decide) (fun c1 => ?_) (fun c1 => ?_)
  · have hf := z_iteT hf c1
    exact zj_sub hC [] rfl (hJ16 g hf)
  · have hf := z_iteF hf c1
    refine zj_iload_n 0 hC dX2_isKind_4 rfl ?_
    refine zj_gets (C := "CharcoalYard$Pile") (v := .ref (tt 0)) hC (fun A U H h => h.1.1) (List.mem_of_getElem? (i := 1) rfl) rfl dX2_isKind_5 ?_
    refine zj_tlen (v := 4) hC (fun A U H h => h.1.2) rfl dX2_isKind_8 ?_
    refine zj_icmp_ge 16 hC dX2_isKind_9 (by decide) (fun c2 => ?_) (fun c2 => ?_)
    · have hf := z_iteT hf c2
      exact zj_sub hC [] rfl (hJ16 g hf)
    · have hf := z_iteF hf c2
      refine zj_iconst (v := 1) hC dX2_isKind_12 (by decide) ?_
      refine zj_goto 17 hC dX2_isKind_13 (by decide) ?_
      exact zj_sub hC [] rfl (hJ17 1 g hf)

def fY_X2_holds_29 (s0 : Int32) (g : z_G) : Option (Int32 × z_G) := z_bo s0 (some (s0, g))
def fY_X2_holds_28  (g : z_G) : Option (Int32 × z_G) := fY_X2_holds_29 0 g
def fY_X2_holds (a0 : Int32) (a1 : Int32) (g : z_G) : Option (Int32 × z_G) := (if a0 < 0 then fY_X2_holds_28 g else (if (g 1 0) ≤ a0 then fY_X2_holds_28 g else (if a1 < 0 then fY_X2_holds_28 g else (if (g 1 1) ≤ a1 then fY_X2_holds_28 g else fY_X2_holds_29 1 g))))
theorem nY_X2_holds : yX2_holds.cls = RX2 ∧ yX2_holds.cls ≠ "java/lang/invoke/MethodHandle" ∧ yX2_holds.cls ≠ "java/lang/invoke/VarHandle" ∧ (parseMethodDescriptor yX2_holds.desc).map (fun d => d.parameters.length) = some 2 := by decide +kernel
set_option maxRecDepth 100000 in
set_option maxHeartbeats 4000000 in
theorem cY_X2_holds (l : Launch) (dC : Nat → ClassId) (dI : Nat → Nat → Nat) (ca : Nat → ClassId) (q : Nat → Nat) (tt : Nat → Nat) (a0 : Int32) (a1 : Int32) (g : z_G) (r : Int32) (g' : z_G) (hf : fY_X2_holds a0 a1 g = some (r, g')) : z_C l yX2_holds wsX2_holds { frames := 0, cells := 0, slots := 0, locals := 0 } (dC, dI) (tyY ca) (wY ca q) (zY tt) [.ref (q 1), .int a0, .int a1] g (some r) g' := by
  refine z_enter (wY_ok ca q) (zY_ok tt) (by decide +kernel) rfl (Nat.le_of_ble_eq_true rfl) (fun J hC => ?_)
  have hC : z_Cx J l cX2_holds 3 wsX2_holds RX2 (some .boolean) { frames := 0, cells := 0, slots := 0, locals := 0 } (dC, dI) (tyY ca) (wY ca q) (zY tt) (z_QI (dC, dI) (tyY ca) (wY ca q) (some r) g') z_X0 := hC
  show J 0 [(0, .ref (q 1)), (1, .int a0), (2, .int a1)] [] g
  have hX2 : ∀ w ∈ wsX20, w ∈ wsX2_holds := fun _ h => List.mem_cons_of_mem _ (List.mem_append_right _ (h))
  have hJ29 : ∀ (s0 : Int32) (g : z_G), fY_X2_holds_29 s0 g = some (r, g') → J 29 [] [.int s0] g := by
    intro s0 g hf
    unfold fY_X2_holds_29 at hf
    exact zj_zreturn hC hf dX2_holds_29
  have hJ28 : ∀ (g : z_G), fY_X2_holds_28 g = some (r, g') → J 28 [] [] g := by
    intro g hf
    unfold fY_X2_holds_28 at hf
    refine zj_iconst (v := 0) hC dX2_holds_28 (by decide) ?_
    exact (hJ29 0 g hf)
  unfold fY_X2_holds at hf
  refine zj_iload_n 1 hC dX2_holds_0 rfl ?_
  refine zj_if_lt 28 hC dX2_holds_1 (by decide) (fun c1 => ?_) (fun c1 => ?_)
  · have hf := z_iteT hf c1
    exact zj_sub hC [] rfl (hJ28 g hf)
  · have hf := z_iteF hf c1
    refine zj_iload_n 1 hC dX2_holds_4 rfl ?_
    refine zj_aload_n 0 hC dX2_holds_5 rfl ?_
    refine yg_1_0 hC hX2 (List.mem_of_getElem? (i := 1) rfl) dX2_holds_6 ?_
    refine zj_icmp_ge 28 hC dX2_holds_9 (by decide) (fun c2 => ?_) (fun c2 => ?_)
    · have hf := z_iteT hf c2
      exact zj_sub hC [] rfl (hJ28 g hf)
    · have hf := z_iteF hf c2
      refine zj_iload_n 2 hC dX2_holds_12 rfl ?_
      refine zj_if_lt 28 hC dX2_holds_13 (by decide) (fun c3 => ?_) (fun c3 => ?_)
      · have hf := z_iteT hf c3
        exact zj_sub hC [] rfl (hJ28 g hf)
      · have hf := z_iteF hf c3
        refine zj_iload_n 2 hC dX2_holds_16 rfl ?_
        refine zj_aload_n 0 hC dX2_holds_17 rfl ?_
        refine yg_1_1 hC hX2 (List.mem_of_getElem? (i := 2) rfl) dX2_holds_18 ?_
        refine zj_icmp_ge 28 hC dX2_holds_21 (by decide) (fun c4 => ?_) (fun c4 => ?_)
        · have hf := z_iteT hf c4
          exact zj_sub hC [] rfl (hJ28 g hf)
        · have hf := z_iteF hf c4
          refine zj_iconst (v := 1) hC dX2_holds_24 (by decide) ?_
          refine zj_goto 29 hC dX2_holds_25 (by decide) ?_
          exact zj_sub hC [] rfl (hJ29 1 g hf)

def fY_X2_at (a0 : Int32) (a1 : Int32) (g : z_G) : Option (Int32 × z_G) := some ((a0 * (g 1 1)) + a1, g)
theorem nY_X2_at : yX2_at.cls = RX2 ∧ yX2_at.cls ≠ "java/lang/invoke/MethodHandle" ∧ yX2_at.cls ≠ "java/lang/invoke/VarHandle" ∧ (parseMethodDescriptor yX2_at.desc).map (fun d => d.parameters.length) = some 2 := by decide +kernel
set_option maxRecDepth 100000 in
set_option maxHeartbeats 4000000 in
theorem cY_X2_at (l : Launch) (dC : Nat → ClassId) (dI : Nat → Nat → Nat) (ca : Nat → ClassId) (q : Nat → Nat) (tt : Nat → Nat) (a0 : Int32) (a1 : Int32) (g : z_G) (r : Int32) (g' : z_G) (hf : fY_X2_at a0 a1 g = some (r, g')) : z_C l yX2_at wsX2_at { frames := 0, cells := 0, slots := 0, locals := 0 } (dC, dI) (tyY ca) (wY ca q) (zY tt) [.ref (q 1), .int a0, .int a1] g (some r) g' := by
  refine z_enter (wY_ok ca q) (zY_ok tt) (by decide +kernel) rfl (Nat.le_of_ble_eq_true rfl) (fun J hC => ?_)
  have hC : z_Cx J l cX2_at 3 wsX2_at RX2 (some .int) { frames := 0, cells := 0, slots := 0, locals := 0 } (dC, dI) (tyY ca) (wY ca q) (zY tt) (z_QI (dC, dI) (tyY ca) (wY ca q) (some r) g') z_X0 := hC
  show J 0 [(0, .ref (q 1)), (1, .int a0), (2, .int a1)] [] g
  have hX2 : ∀ w ∈ wsX20, w ∈ wsX2_at := fun _ h => List.mem_cons_of_mem _ (List.mem_append_right _ (h))
  unfold fY_X2_at at hf
  refine zj_iload_n 1 hC dX2_at_0 rfl ?_
  refine zj_aload_n 0 hC dX2_at_1 rfl ?_
  refine yg_1_1 hC hX2 (List.mem_of_getElem? (i := 1) rfl) dX2_at_2 ?_
  refine zj_imul hC dX2_at_5 ?_
  refine zj_iload_n 2 hC dX2_at_6 rfl ?_
  refine zj_iadd hC dX2_at_7 ?_
  exact zj_ireturn hC hf dX2_at_8

def fY_X2_isOutsideAt_28 (s0 : Int32) (g : z_G) : Option (Int32 × z_G) := z_bo s0 (some (s0, g))
def fY_X2_isOutsideAt_27  (g : z_G) : Option (Int32 × z_G) := fY_X2_isOutsideAt_28 0 g
def fY_X2_isOutsideAt (a0 : Int32) (a1 : Int32) (g : z_G) : Option (Int32 × z_G) := z_bind (fY_X2_holds a0 a1 g) (fun r1 g2 => (if r1 = 0 then fY_X2_isOutsideAt_27 g2 else z_bind (fY_X2_at a0 a1 g2) (fun r5 g6 => z_ck r5 64 ((if (g6 9 (Int32.toNatClampNeg r5)) = 0 then fY_X2_isOutsideAt_27 g6 else fY_X2_isOutsideAt_28 1 g6)))))
theorem nY_X2_isOutsideAt : yX2_isOutsideAt.cls = RX2 ∧ yX2_isOutsideAt.cls ≠ "java/lang/invoke/MethodHandle" ∧ yX2_isOutsideAt.cls ≠ "java/lang/invoke/VarHandle" ∧ (parseMethodDescriptor yX2_isOutsideAt.desc).map (fun d => d.parameters.length) = some 2 := by decide +kernel
set_option maxRecDepth 100000 in
set_option maxHeartbeats 4000000 in
theorem cY_X2_isOutsideAt (l : Launch) (dC : Nat → ClassId) (dI : Nat → Nat → Nat) (ca : Nat → ClassId) (q : Nat → Nat) (tt : Nat → Nat) (a0 : Int32) (a1 : Int32) (g : z_G) (r : Int32) (g' : z_G) (hf : fY_X2_isOutsideAt a0 a1 g = some (r, g')) : z_C l yX2_isOutsideAt wsX2_isOutsideAt { frames := 1, cells := 0, slots := 0, locals := 22 } (dC, dI) (tyY ca) (wY ca q) (zY tt) [.ref (q 1), .int a0, .int a1] g (some r) g' := by
  refine z_enter (wY_ok ca q) (zY_ok tt) (by decide +kernel) rfl (Nat.le_of_ble_eq_true rfl) (fun J hC => ?_)
  have hC : z_Cx J l cX2_isOutsideAt 3 wsX2_isOutsideAt RX2 (some .boolean) { frames := 1, cells := 0, slots := 0, locals := 22 } (dC, dI) (tyY ca) (wY ca q) (zY tt) (z_QI (dC, dI) (tyY ca) (wY ca q) (some r) g') z_X0 := hC
  show J 0 [(0, .ref (q 1)), (1, .int a0), (2, .int a1)] [] g
  have hX2 : ∀ w ∈ wsX20, w ∈ wsX2_isOutsideAt := fun _ h => List.mem_cons_of_mem _ (List.mem_append_right _ (h))
  have hJ28 : ∀ (s0 : Int32) (g : z_G), fY_X2_isOutsideAt_28 s0 g = some (r, g') → J 28 [] [.int s0] g := by
    intro s0 g hf
    unfold fY_X2_isOutsideAt_28 at hf
    exact zj_zreturn hC hf dX2_isOutsideAt_28
  have hJ27 : ∀ (g : z_G), fY_X2_isOutsideAt_27 g = some (r, g') → J 27 [] [] g := by
    intro g hf
    unfold fY_X2_isOutsideAt_27 at hf
    refine zj_iconst (v := 0) hC dX2_isOutsideAt_27 (by decide) ?_
    exact (hJ28 0 g hf)
  unfold fY_X2_isOutsideAt at hf
  refine zj_aload_n 0 hC dX2_isOutsideAt_0 rfl ?_
  refine zj_iload_n 1 hC dX2_isOutsideAt_1 rfl ?_
  refine zj_iload_n 2 hC dX2_isOutsideAt_2 rfl ?_
  obtain ⟨r1, g2, hq3, hf⟩ := z_bindE hf
  refine zj_callVi [.int a0, .int a1] hC (cY_X2_holds l dC dI ca q tt a0 a1 g r1 g2 hq3) gX2_isOutsideAt_X2_holds rfl nY_X2_holds ⟨Nat.le_of_ble_eq_true rfl, Nat.le_of_ble_eq_true rfl⟩ 1 yo_1 rfl rfl rfl (Nat.le_of_ble_eq_true rfl) dX2_isOutsideAt_3 rfl ?_
  refine zj_if_eq 27 hC dX2_isOutsideAt_6 (by decide) (fun c4 => ?_) (fun c4 => ?_)
  · have hf := z_iteT hf c4
    exact zj_sub hC [] rfl (hJ27 g2 hf)
  · have hf := z_iteF hf c4
    refine zj_aload_n 0 hC dX2_isOutsideAt_9 rfl ?_
    refine yg_1_6 hC hX2 (List.mem_of_getElem? (i := 1) rfl) dX2_isOutsideAt_10 ?_
    refine zj_aload_n 0 hC dX2_isOutsideAt_13 rfl ?_
    refine zj_iload_n 1 hC dX2_isOutsideAt_14 rfl ?_
    refine zj_iload_n 2 hC dX2_isOutsideAt_15 rfl ?_
    obtain ⟨r5, g6, hq7, hf⟩ := z_bindE hf
    refine zj_callVi [.int a0, .int a1] hC (cY_X2_at l dC dI ca q tt a0 a1 g2 r5 g6 hq7) gX2_isOutsideAt_X2_at rfl nY_X2_at ⟨Nat.le_of_ble_eq_true rfl, Nat.le_of_ble_eq_true rfl⟩ 1 yo_1 rfl rfl rfl (Nat.le_of_ble_eq_true rfl) dX2_isOutsideAt_16 rfl ?_
    obtain ⟨hq8, hf⟩ := z_ckE hf
    refine ya_9 hC hq8 dX2_isOutsideAt_19 ?_
    refine zj_if_eq 27 hC dX2_isOutsideAt_20 (by decide) (fun c9 => ?_) (fun c9 => ?_)
    · have hf := z_iteT hf c9
      exact zj_sub hC [] rfl (hJ27 g6 hf)
    · have hf := z_iteF hf c9
      refine zj_iconst (v := 1) hC dX2_isOutsideAt_23 (by decide) ?_
      refine zj_goto 28 hC dX2_isOutsideAt_24 (by decide) ?_
      exact zj_sub hC [] rfl (hJ28 1 g6 hf)

def fY_X2_dampOf_30 (s0 : Int32) (g : z_G) : Option (Int32 × z_G) := some (s0, g)
def fY_X2_dampOf (a0 : Int32) (g : z_G) : Option (Int32 × z_G) := z_ck a0 64 ((if (g 17 (Int32.toNatClampNeg a0)) ≤ 0 then fY_X2_dampOf_30 0 g else z_ck a0 64 (z_ck (g 18 (Int32.toNatClampNeg a0)) 4 (z_ck a0 64 (fY_X2_dampOf_30 ((kDAMP (Int32.toNatClampNeg (g 18 (Int32.toNatClampNeg a0)))) * (g 8 (Int32.toNatClampNeg a0))) g)))))
theorem nY_X2_dampOf : yX2_dampOf.cls = RX2 ∧ yX2_dampOf.cls ≠ "java/lang/invoke/MethodHandle" ∧ yX2_dampOf.cls ≠ "java/lang/invoke/VarHandle" ∧ (parseMethodDescriptor yX2_dampOf.desc).map (fun d => d.parameters.length) = some 1 := by decide +kernel
set_option maxRecDepth 100000 in
set_option maxHeartbeats 4000000 in
theorem cY_X2_dampOf (l : Launch) (dC : Nat → ClassId) (dI : Nat → Nat → Nat) (ca : Nat → ClassId) (q : Nat → Nat) (tt : Nat → Nat) (a0 : Int32) (g : z_G) (r : Int32) (g' : z_G) (hf : fY_X2_dampOf a0 g = some (r, g')) : z_C l yX2_dampOf wsX2_dampOf { frames := 0, cells := 0, slots := 0, locals := 0 } (dC, dI) (tyY ca) (wY ca q) (zY tt) [.ref (q 1), .int a0] g (some r) g' := by
  refine z_enter (wY_ok ca q) (zY_ok tt) (by decide +kernel) rfl (Nat.le_of_ble_eq_true rfl) (fun J hC => ?_)
  have hC : z_Cx J l cX2_dampOf 2 wsX2_dampOf RX2 (some .int) { frames := 0, cells := 0, slots := 0, locals := 0 } (dC, dI) (tyY ca) (wY ca q) (zY tt) (z_QI (dC, dI) (tyY ca) (wY ca q) (some r) g') z_X0 := hC
  show J 0 [(0, .ref (q 1)), (1, .int a0)] [] g
  have hX2 : ∀ w ∈ wsX20, w ∈ wsX2_dampOf := fun _ h => List.mem_cons_of_mem _ (List.mem_append_right _ (h))
  have hJ30 : ∀ (s0 : Int32) (g : z_G), fY_X2_dampOf_30 s0 g = some (r, g') → J 30 [] [.int s0] g := by
    intro s0 g hf
    unfold fY_X2_dampOf_30 at hf
    exact zj_ireturn hC hf dX2_dampOf_30
  unfold fY_X2_dampOf at hf
  refine zj_aload_n 0 hC dX2_dampOf_0 rfl ?_
  refine yg_1_14 hC hX2 (List.mem_of_getElem? (i := 1) rfl) dX2_dampOf_1 ?_
  refine zj_iload_n 1 hC dX2_dampOf_4 rfl ?_
  obtain ⟨hq1, hf⟩ := z_ckE hf
  refine ya_17 hC hq1 dX2_dampOf_5 ?_
  refine zj_if_le 29 hC dX2_dampOf_6 (by decide) (fun c2 => ?_) (fun c2 => ?_)
  · have hf := z_iteT hf c2
    refine zj_iconst (v := 0) hC dX2_dampOf_29 (by decide) ?_
    exact zj_sub hC [] rfl (hJ30 0 g hf)
  · have hf := z_iteF hf c2
    refine zj_gets (C := "CharcoalYard$Pile") (v := .ref (tt 0)) hC (fun A U H h => h.1.1) (List.mem_of_getElem? (i := 2) rfl) rfl dX2_dampOf_9 ?_
    refine zj_aload_n 0 hC dX2_dampOf_12 rfl ?_
    refine yg_1_15 hC hX2 (List.mem_of_getElem? (i := 3) rfl) dX2_dampOf_13 ?_
    refine zj_iload_n 1 hC dX2_dampOf_16 rfl ?_
    obtain ⟨hq3, hf⟩ := z_ckE hf
    refine ya_18 hC hq3 dX2_dampOf_17 ?_
    obtain ⟨hq4, hf⟩ := z_ckE hf
    refine zj_ti (f := kDAMP) hC (fun A U H h => h.1.2) hq4 dX2_dampOf_18 ?_
    refine zj_aload_n 0 hC dX2_dampOf_19 rfl ?_
    refine yg_1_5 hC hX2 (List.mem_of_getElem? (i := 4) rfl) dX2_dampOf_20 ?_
    refine zj_iload_n 1 hC dX2_dampOf_23 rfl ?_
    obtain ⟨hq5, hf⟩ := z_ckE hf
    refine ya_8 hC hq5 dX2_dampOf_24 ?_
    refine zj_imul hC dX2_dampOf_25 ?_
    refine zj_goto 30 hC dX2_dampOf_26 (by decide) ?_
    exact zj_sub hC [] rfl (hJ30 ((kDAMP (Int32.toNatClampNeg (g 18 (Int32.toNatClampNeg a0)))) * (g 8 (Int32.toNatClampNeg a0))) g hf)

def fY_X2_backToLaid_12 (k12 : Int32 × z_G → Option (Int32 × z_G)) (x1 : Int32) (g : z_G) : Option (Int32 × z_G) := (if (g 1 4) ≤ x1 then some (0, g) else z_ck x1 64 (z_ck x1 64 (z_let (z_up g 10 (Int32.toNatClampNeg x1) (g 17 (Int32.toNatClampNeg x1))) (fun g4 => z_ck x1 64 (z_let (z_up g4 11 (Int32.toNatClampNeg x1) 0) (fun g6 => z_bind (fY_X2_dampOf x1 g6) (fun r7 g8 => z_ck x1 64 (z_let (z_up g8 12 (Int32.toNatClampNeg x1) r7) (fun g11 => z_ck x1 64 (z_let (z_up g11 13 (Int32.toNatClampNeg x1) 0) (fun g13 => z_ck x1 64 (z_let (z_up g13 14 (Int32.toNatClampNeg x1) 0) (fun g15 => z_ck x1 64 (z_ck x1 64 (z_let (z_up g15 15 (Int32.toNatClampNeg x1) (g15 20 (Int32.toNatClampNeg x1))) (fun g18 => z_ck x1 64 (z_let (z_up g18 16 (Int32.toNatClampNeg x1) 0) (fun g20 => z_ck x1 64 (z_let (z_up g20 19 (Int32.toNatClampNeg x1) (-1)) (fun g22 => z_let (x1 + 1) (fun y23 => k12 (y23, g22))))))))))))))))))))))
def fY_X2_backToLaid_12_go (x1 : Int32) (g : z_G) : Option (Int32 × z_G) := z_loop (fun k (w : Int32 × z_G) => fY_X2_backToLaid_12 k w.1 w.2) z_fuel (x1, g)
def fY_X2_backToLaid (g : z_G) : Option (Int32 × z_G) := z_let (z_up g 1 2 0) (fun g24 => z_let (z_up g24 1 3 0) (fun g25 => fY_X2_backToLaid_12_go 0 g25))
theorem nY_X2_backToLaid : yX2_backToLaid.cls = RX2 ∧ yX2_backToLaid.cls ≠ "java/lang/invoke/MethodHandle" ∧ yX2_backToLaid.cls ≠ "java/lang/invoke/VarHandle" ∧ (parseMethodDescriptor yX2_backToLaid.desc).map (fun d => d.parameters.length) = some 0 := by decide +kernel
set_option maxRecDepth 100000 in
set_option maxHeartbeats 4000000 in
theorem cY_X2_backToLaid (l : Launch) (dC : Nat → ClassId) (dI : Nat → Nat → Nat) (ca : Nat → ClassId) (q : Nat → Nat) (tt : Nat → Nat) (g : z_G) (r : Int32) (g' : z_G) (hf : fY_X2_backToLaid g = some (r, g')) : z_C l yX2_backToLaid wsX2_backToLaid { frames := 1, cells := 0, slots := 0, locals := 21 } (dC, dI) (tyY ca) (wY ca q) (zY tt) [.ref (q 1)] g none g' := by
  refine z_enter (wY_ok ca q) (zY_ok tt) (by decide +kernel) rfl (Nat.le_of_ble_eq_true rfl) (fun J hC => ?_)
  have hC : z_Cx J l cX2_backToLaid 2 wsX2_backToLaid RX2 none { frames := 1, cells := 0, slots := 0, locals := 21 } (dC, dI) (tyY ca) (wY ca q) (zY tt) (z_QI (dC, dI) (tyY ca) (wY ca q) none g') z_X0 := hC
  show J 0 [(0, .ref (q 1))] [] g
  have hX2 : ∀ w ∈ wsX20, w ∈ wsX2_backToLaid := fun _ h => List.mem_cons_of_mem _ (List.mem_append_right _ (h))
  have hJ12 : ∀ (x1 : Int32) (g : z_G), fY_X2_backToLaid_12_go x1 g = some (r, g') → J 12 [(0, .ref (q 1)), (1, .int x1)] [] g := by
    intro x1 g hf
    refine z_loopE (P := fun w : Int32 × z_G => J 12 [(0, .ref (q 1)), (1, .int w.1)] [] w.2) (fun k12 hk12 w hf => ?_) z_fuel (x1, g) hf
    obtain ⟨x1, g⟩ := w
    have hf : fY_X2_backToLaid_12 k12 x1 g = some (r, g') := hf
    show J 12 [(0, .ref (q 1)), (1, .int x1)] [] g
    unfold fY_X2_backToLaid_12 at hf
    refine zj_iload_n 1 hC dX2_backToLaid_12 rfl ?_
    refine zj_aload_n 0 hC dX2_backToLaid_13 rfl ?_
    refine yg_1_4 hC hX2 (List.mem_of_getElem? (i := 3) rfl) dX2_backToLaid_14 ?_
    refine zj_icmp_ge 96 hC dX2_backToLaid_17 (by decide) (fun c1 => ?_) (fun c1 => ?_)
    · have hf := z_iteT hf c1
      exact zj_vreturn hC hf dX2_backToLaid_96
    · have hf := z_iteF hf c1
      refine zj_aload_n 0 hC dX2_backToLaid_20 rfl ?_
      refine yg_1_7 hC hX2 (List.mem_of_getElem? (i := 4) rfl) dX2_backToLaid_21 ?_
      refine zj_iload_n 1 hC dX2_backToLaid_24 rfl ?_
      refine zj_aload_n 0 hC dX2_backToLaid_25 rfl ?_
      refine yg_1_14 hC hX2 (List.mem_of_getElem? (i := 5) rfl) dX2_backToLaid_26 ?_
      refine zj_iload_n 1 hC dX2_backToLaid_29 rfl ?_
      obtain ⟨hq2, hf⟩ := z_ckE hf
      refine ya_17 hC hq2 dX2_backToLaid_30 ?_
      obtain ⟨hq3, hf⟩ := z_ckE hf
      refine ys_10 hC hq3 dX2_backToLaid_31 (fun g4 eg4 => ?_)
      have hf := z_letE hf eg4
      refine zj_aload_n 0 hC dX2_backToLaid_32 rfl ?_
      refine yg_1_8 hC hX2 (List.mem_of_getElem? (i := 6) rfl) dX2_backToLaid_33 ?_
      refine zj_iload_n 1 hC dX2_backToLaid_36 rfl ?_
      refine zj_iconst (v := 0) hC dX2_backToLaid_37 (by decide) ?_
      obtain ⟨hq5, hf⟩ := z_ckE hf
      refine ys_11 hC hq5 dX2_backToLaid_38 (fun g6 eg6 => ?_)
      have hf := z_letE hf eg6
      refine zj_aload_n 0 hC dX2_backToLaid_39 rfl ?_
      refine yg_1_9 hC hX2 (List.mem_of_getElem? (i := 7) rfl) dX2_backToLaid_40 ?_
      refine zj_iload_n 1 hC dX2_backToLaid_43 rfl ?_
      refine zj_aload_n 0 hC dX2_backToLaid_44 rfl ?_
      refine zj_iload_n 1 hC dX2_backToLaid_45 rfl ?_
      obtain ⟨r7, g8, hq9, hf⟩ := z_bindE hf
      refine zj_callVi [.int x1] hC (cY_X2_dampOf l dC dI ca q tt x1 g6 r7 g8 hq9) gX2_backToLaid_X2_dampOf rfl nY_X2_dampOf ⟨Nat.le_of_ble_eq_true rfl, Nat.le_of_ble_eq_true rfl⟩ 1 yo_1 rfl rfl rfl (Nat.le_of_ble_eq_true rfl) dX2_backToLaid_46 rfl ?_
      obtain ⟨hq10, hf⟩ := z_ckE hf
      refine ys_12 hC hq10 dX2_backToLaid_49 (fun g11 eg11 => ?_)
      have hf := z_letE hf eg11
      refine zj_aload_n 0 hC dX2_backToLaid_50 rfl ?_
      refine yg_1_10 hC hX2 (List.mem_of_getElem? (i := 8) rfl) dX2_backToLaid_51 ?_
      refine zj_iload_n 1 hC dX2_backToLaid_54 rfl ?_
      refine zj_iconst (v := 0) hC dX2_backToLaid_55 (by decide) ?_
      obtain ⟨hq12, hf⟩ := z_ckE hf
      refine ys_13 hC hq12 dX2_backToLaid_56 (fun g13 eg13 => ?_)
      have hf := z_letE hf eg13
      refine zj_aload_n 0 hC dX2_backToLaid_57 rfl ?_
      refine yg_1_11 hC hX2 (List.mem_of_getElem? (i := 9) rfl) dX2_backToLaid_58 ?_
      refine zj_iload_n 1 hC dX2_backToLaid_61 rfl ?_
      refine zj_iconst (v := 0) hC dX2_backToLaid_62 (by decide) ?_
      obtain ⟨hq14, hf⟩ := z_ckE hf
      refine ys_14 hC hq14 dX2_backToLaid_63 (fun g15 eg15 => ?_)
      have hf := z_letE hf eg15
      refine zj_aload_n 0 hC dX2_backToLaid_64 rfl ?_
      refine yg_1_12 hC hX2 (List.mem_of_getElem? (i := 10) rfl) dX2_backToLaid_65 ?_
      refine zj_iload_n 1 hC dX2_backToLaid_68 rfl ?_
      refine zj_aload_n 0 hC dX2_backToLaid_69 rfl ?_
      refine yg_1_17 hC hX2 (List.mem_of_getElem? (i := 11) rfl) dX2_backToLaid_70 ?_
      refine zj_iload_n 1 hC dX2_backToLaid_73 rfl ?_
      obtain ⟨hq16, hf⟩ := z_ckE hf
      refine ya_20 hC hq16 dX2_backToLaid_74 ?_
      obtain ⟨hq17, hf⟩ := z_ckE hf
      refine ys_15 hC hq17 dX2_backToLaid_75 (fun g18 eg18 => ?_)
      have hf := z_letE hf eg18
      refine zj_aload_n 0 hC dX2_backToLaid_76 rfl ?_
      refine yg_1_13 hC hX2 (List.mem_of_getElem? (i := 12) rfl) dX2_backToLaid_77 ?_
      refine zj_iload_n 1 hC dX2_backToLaid_80 rfl ?_
      refine zj_iconst (v := 0) hC dX2_backToLaid_81 (by decide) ?_
      obtain ⟨hq19, hf⟩ := z_ckE hf
      refine ys_16 hC hq19 dX2_backToLaid_82 (fun g20 eg20 => ?_)
      have hf := z_letE hf eg20
      refine zj_aload_n 0 hC dX2_backToLaid_83 rfl ?_
      refine yg_1_16 hC hX2 (List.mem_of_getElem? (i := 13) rfl) dX2_backToLaid_84 ?_
      refine zj_iload_n 1 hC dX2_backToLaid_87 rfl ?_
      refine zj_iconst (v := (-1)) hC dX2_backToLaid_88 (by decide) ?_
      obtain ⟨hq21, hf⟩ := z_ckE hf
      refine ys_19 hC hq21 dX2_backToLaid_89 (fun g22 eg22 => ?_)
      have hf := z_letE hf eg22
      refine zj_iinc (lv1 := fun v => [(1, .int v), (0, .ref (q 1))]) 1 hC dX2_backToLaid_90 rfl (by decide) (fun _ => rfl) (fun y23 ey23 => ?_)
      have hf := z_letE hf (show y23 = x1 + 1 from ey23)
      refine zj_goto 12 hC dX2_backToLaid_93 (by decide) ?_
      exact zj_sub hC [1, 0] rfl (hk12 (y23, g22) hf)
  unfold fY_X2_backToLaid at hf
  refine zj_aload_n 0 hC dX2_backToLaid_0 rfl ?_
  refine zj_iconst (v := 0) hC dX2_backToLaid_1 (by decide) ?_
  refine yp_1_2 hC hX2 (List.mem_of_getElem? (i := 1) rfl) dX2_backToLaid_2 (fun g24 eg24 => ?_)
  have hf := z_letE hf eg24
  refine zj_aload_n 0 hC dX2_backToLaid_5 rfl ?_
  refine zj_iconst (v := 0) hC dX2_backToLaid_6 (by decide) ?_
  refine yp_1_3 hC hX2 (List.mem_of_getElem? (i := 2) rfl) dX2_backToLaid_7 (fun g25 eg25 => ?_)
  have hf := z_letE hf eg25
  refine zj_iconst (v := 0) hC dX2_backToLaid_10 (by decide) ?_
  refine zj_istore_n (lv1 := [(1, .int 0), (0, .ref (q 1))]) hC dX2_backToLaid_11 (by decide) rfl ?_
  exact zj_sub hC [1, 0] rfl (hJ12 0 g25 hf)

def fY_J7_fill_53178_r17_5 (k5 : Int32 × Int32 × Int32 × z_G → Option (Int32 × z_G)) (x1 : Int32) (x2 : Int32) (x3 : Int32) (g : z_G) : Option (Int32 × z_G) := (if x3 ≤ x2 then some (0, g) else z_ck x2 64 (z_let (z_up g 17 (Int32.toNatClampNeg x2) x1) (fun g3 => z_let (x2 + 1) (fun y4 => k5 (x1, y4, x3, g3)))))
def fY_J7_fill_53178_r17_5_go (x1 : Int32) (x2 : Int32) (x3 : Int32) (g : z_G) : Option (Int32 × z_G) := z_loop (fun k (w : Int32 × Int32 × Int32 × z_G) => fY_J7_fill_53178_r17_5 k w.1 w.2.1 w.2.2.1 w.2.2.2) z_fuel (x1, x2, x3, g)
def fY_J7_fill_53178_r17 (a1 : Int32) (g : z_G) : Option (Int32 × z_G) := fY_J7_fill_53178_r17_5_go a1 0 64 g
theorem nY_J7_fill_53178_r17 : yJ7_fill_53178.cls ≠ "java/lang/invoke/MethodHandle" ∧ yJ7_fill_53178.cls ≠ "java/lang/invoke/VarHandle" ∧ (parseMethodDescriptor yJ7_fill_53178.desc).map (fun d => d.parameters.length) = some 2 := by decide +kernel
set_option maxRecDepth 100000 in
set_option maxHeartbeats 4000000 in
theorem cY_J7_fill_53178_r17 (l : Launch) (dC : Nat → ClassId) (dI : Nat → Nat → Nat) (ca : Nat → ClassId) (q : Nat → Nat) (tt : Nat → Nat) (a1 : Int32) (g : z_G) (r : Int32) (g' : z_G) (hf : fY_J7_fill_53178_r17 a1 g = some (r, g')) : z_C l yJ7_fill_53178 wsJ7_fill_53178 { frames := 0, cells := 0, slots := 0, locals := 0 } (dC, dI) (tyY ca) (wY ca q) (zY tt) [.ref (q 17), .int a1] g none g' := by
  refine z_enter (wY_ok ca q) (zY_ok tt) (by decide +kernel) rfl (Nat.le_of_ble_eq_true rfl) (fun J hC => ?_)
  have hC : z_Cx J l cJ7_fill_53178 4 wsJ7_fill_53178 RJ7 none { frames := 0, cells := 0, slots := 0, locals := 0 } (dC, dI) (tyY ca) (wY ca q) (zY tt) (z_QI (dC, dI) (tyY ca) (wY ca q) none g') z_X0 := hC
  show J 0 [(0, .ref (q 17)), (1, .int a1)] [] g
  have hJ5 : ∀ (x1 : Int32) (x2 : Int32) (x3 : Int32) (g : z_G), fY_J7_fill_53178_r17_5_go x1 x2 x3 g = some (r, g') → J 5 [(0, .ref (q 17)), (1, .int x1), (2, .int x2), (3, .int x3)] [] g := by
    intro x1 x2 x3 g hf
    refine z_loopE (P := fun w : Int32 × Int32 × Int32 × z_G => J 5 [(0, .ref (q 17)), (1, .int w.1), (2, .int w.2.1), (3, .int w.2.2.1)] [] w.2.2.2) (fun k5 hk5 w hf => ?_) z_fuel (x1, x2, x3, g) hf
    obtain ⟨x1, x2, x3, g⟩ := w
    have hf : fY_J7_fill_53178_r17_5 k5 x1 x2 x3 g = some (r, g') := hf
    show J 5 [(0, .ref (q 17)), (1, .int x1), (2, .int x2), (3, .int x3)] [] g
    unfold fY_J7_fill_53178_r17_5 at hf
    refine zj_iload_n 2 hC dJ7_fill_53178_5 rfl ?_
    refine zj_iload_n 3 hC dJ7_fill_53178_6 rfl ?_
    refine zj_icmp_ge 20 hC dJ7_fill_53178_7 (by decide) (fun c1 => ?_) (fun c1 => ?_)
    · have hf := z_iteT hf c1
      exact zj_vreturn hC hf dJ7_fill_53178_20
    · have hf := z_iteF hf c1
      refine zj_aload_n 0 hC dJ7_fill_53178_10 rfl ?_
      refine zj_iload_n 2 hC dJ7_fill_53178_11 rfl ?_
      refine zj_iload_n 1 hC dJ7_fill_53178_12 rfl ?_
      obtain ⟨hq2, hf⟩ := z_ckE hf
      refine ys_17 hC hq2 dJ7_fill_53178_13 (fun g3 eg3 => ?_)
      have hf := z_letE hf eg3
      refine zj_iinc (lv1 := fun v => [(2, .int v), (0, .ref (q 17)), (1, .int x1), (3, .int x3)]) 2 hC dJ7_fill_53178_14 rfl (by decide) (fun _ => rfl) (fun y4 ey4 => ?_)
      have hf := z_letE hf (show y4 = x2 + 1 from ey4)
      refine zj_goto 5 hC dJ7_fill_53178_17 (by decide) ?_
      exact zj_sub hC [1, 2, 0, 3] rfl (hk5 (x1, y4, x3, g3) hf)
  unfold fY_J7_fill_53178_r17 at hf
  refine zj_iconst (v := 0) hC dJ7_fill_53178_0 (by decide) ?_
  refine zj_istore_n (lv1 := [(2, .int 0), (0, .ref (q 17)), (1, .int a1)]) hC dJ7_fill_53178_1 (by decide) rfl ?_
  refine zj_aload_n 1 hC dJ7_fill_53178_2 rfl ?_
  refine yl_17 hC dJ7_fill_53178_3 ?_
  refine zj_istore_n (lv1 := [(3, .int 64), (2, .int 0), (0, .ref (q 17)), (1, .int a1)]) hC dJ7_fill_53178_4 (by decide) rfl ?_
  exact zj_sub hC [2, 3, 1, 0] rfl (hJ5 a1 0 64 g hf)

def fY_J7_fill_53178_r18_5 (k5 : Int32 × Int32 × Int32 × z_G → Option (Int32 × z_G)) (x1 : Int32) (x2 : Int32) (x3 : Int32) (g : z_G) : Option (Int32 × z_G) := (if x3 ≤ x2 then some (0, g) else z_ck x2 64 (z_let (z_up g 18 (Int32.toNatClampNeg x2) x1) (fun g3 => z_let (x2 + 1) (fun y4 => k5 (x1, y4, x3, g3)))))
def fY_J7_fill_53178_r18_5_go (x1 : Int32) (x2 : Int32) (x3 : Int32) (g : z_G) : Option (Int32 × z_G) := z_loop (fun k (w : Int32 × Int32 × Int32 × z_G) => fY_J7_fill_53178_r18_5 k w.1 w.2.1 w.2.2.1 w.2.2.2) z_fuel (x1, x2, x3, g)
def fY_J7_fill_53178_r18 (a1 : Int32) (g : z_G) : Option (Int32 × z_G) := fY_J7_fill_53178_r18_5_go a1 0 64 g
theorem nY_J7_fill_53178_r18 : yJ7_fill_53178.cls ≠ "java/lang/invoke/MethodHandle" ∧ yJ7_fill_53178.cls ≠ "java/lang/invoke/VarHandle" ∧ (parseMethodDescriptor yJ7_fill_53178.desc).map (fun d => d.parameters.length) = some 2 := by decide +kernel
set_option maxRecDepth 100000 in
set_option maxHeartbeats 4000000 in
theorem cY_J7_fill_53178_r18 (l : Launch) (dC : Nat → ClassId) (dI : Nat → Nat → Nat) (ca : Nat → ClassId) (q : Nat → Nat) (tt : Nat → Nat) (a1 : Int32) (g : z_G) (r : Int32) (g' : z_G) (hf : fY_J7_fill_53178_r18 a1 g = some (r, g')) : z_C l yJ7_fill_53178 wsJ7_fill_53178 { frames := 0, cells := 0, slots := 0, locals := 0 } (dC, dI) (tyY ca) (wY ca q) (zY tt) [.ref (q 18), .int a1] g none g' := by
  refine z_enter (wY_ok ca q) (zY_ok tt) (by decide +kernel) rfl (Nat.le_of_ble_eq_true rfl) (fun J hC => ?_)
  have hC : z_Cx J l cJ7_fill_53178 4 wsJ7_fill_53178 RJ7 none { frames := 0, cells := 0, slots := 0, locals := 0 } (dC, dI) (tyY ca) (wY ca q) (zY tt) (z_QI (dC, dI) (tyY ca) (wY ca q) none g') z_X0 := hC
  show J 0 [(0, .ref (q 18)), (1, .int a1)] [] g
  have hJ5 : ∀ (x1 : Int32) (x2 : Int32) (x3 : Int32) (g : z_G), fY_J7_fill_53178_r18_5_go x1 x2 x3 g = some (r, g') → J 5 [(0, .ref (q 18)), (1, .int x1), (2, .int x2), (3, .int x3)] [] g := by
    intro x1 x2 x3 g hf
    refine z_loopE (P := fun w : Int32 × Int32 × Int32 × z_G => J 5 [(0, .ref (q 18)), (1, .int w.1), (2, .int w.2.1), (3, .int w.2.2.1)] [] w.2.2.2) (fun k5 hk5 w hf => ?_) z_fuel (x1, x2, x3, g) hf
    obtain ⟨x1, x2, x3, g⟩ := w
    have hf : fY_J7_fill_53178_r18_5 k5 x1 x2 x3 g = some (r, g') := hf
    show J 5 [(0, .ref (q 18)), (1, .int x1), (2, .int x2), (3, .int x3)] [] g
    unfold fY_J7_fill_53178_r18_5 at hf
    refine zj_iload_n 2 hC dJ7_fill_53178_5 rfl ?_
    refine zj_iload_n 3 hC dJ7_fill_53178_6 rfl ?_
    refine zj_icmp_ge 20 hC dJ7_fill_53178_7 (by decide) (fun c1 => ?_) (fun c1 => ?_)
    · have hf := z_iteT hf c1
      exact zj_vreturn hC hf dJ7_fill_53178_20
    · have hf := z_iteF hf c1
      refine zj_aload_n 0 hC dJ7_fill_53178_10 rfl ?_
      refine zj_iload_n 2 hC dJ7_fill_53178_11 rfl ?_
      refine zj_iload_n 1 hC dJ7_fill_53178_12 rfl ?_
      obtain ⟨hq2, hf⟩ := z_ckE hf
      refine ys_18 hC hq2 dJ7_fill_53178_13 (fun g3 eg3 => ?_)
      have hf := z_letE hf eg3
      refine zj_iinc (lv1 := fun v => [(2, .int v), (0, .ref (q 18)), (1, .int x1), (3, .int x3)]) 2 hC dJ7_fill_53178_14 rfl (by decide) (fun _ => rfl) (fun y4 ey4 => ?_)
      have hf := z_letE hf (show y4 = x2 + 1 from ey4)
      refine zj_goto 5 hC dJ7_fill_53178_17 (by decide) ?_
      exact zj_sub hC [1, 2, 0, 3] rfl (hk5 (x1, y4, x3, g3) hf)
  unfold fY_J7_fill_53178_r18 at hf
  refine zj_iconst (v := 0) hC dJ7_fill_53178_0 (by decide) ?_
  refine zj_istore_n (lv1 := [(2, .int 0), (0, .ref (q 18)), (1, .int a1)]) hC dJ7_fill_53178_1 (by decide) rfl ?_
  refine zj_aload_n 1 hC dJ7_fill_53178_2 rfl ?_
  refine yl_18 hC dJ7_fill_53178_3 ?_
  refine zj_istore_n (lv1 := [(3, .int 64), (2, .int 0), (0, .ref (q 18)), (1, .int a1)]) hC dJ7_fill_53178_4 (by decide) rfl ?_
  exact zj_sub hC [2, 3, 1, 0] rfl (hJ5 a1 0 64 g hf)

def fY_J7_fill_53178_r20_5 (k5 : Int32 × Int32 × Int32 × z_G → Option (Int32 × z_G)) (x1 : Int32) (x2 : Int32) (x3 : Int32) (g : z_G) : Option (Int32 × z_G) := (if x3 ≤ x2 then some (0, g) else z_ck x2 64 (z_let (z_up g 20 (Int32.toNatClampNeg x2) x1) (fun g3 => z_let (x2 + 1) (fun y4 => k5 (x1, y4, x3, g3)))))
def fY_J7_fill_53178_r20_5_go (x1 : Int32) (x2 : Int32) (x3 : Int32) (g : z_G) : Option (Int32 × z_G) := z_loop (fun k (w : Int32 × Int32 × Int32 × z_G) => fY_J7_fill_53178_r20_5 k w.1 w.2.1 w.2.2.1 w.2.2.2) z_fuel (x1, x2, x3, g)
def fY_J7_fill_53178_r20 (a1 : Int32) (g : z_G) : Option (Int32 × z_G) := fY_J7_fill_53178_r20_5_go a1 0 64 g
theorem nY_J7_fill_53178_r20 : yJ7_fill_53178.cls ≠ "java/lang/invoke/MethodHandle" ∧ yJ7_fill_53178.cls ≠ "java/lang/invoke/VarHandle" ∧ (parseMethodDescriptor yJ7_fill_53178.desc).map (fun d => d.parameters.length) = some 2 := by decide +kernel
set_option maxRecDepth 100000 in
set_option maxHeartbeats 4000000 in
theorem cY_J7_fill_53178_r20 (l : Launch) (dC : Nat → ClassId) (dI : Nat → Nat → Nat) (ca : Nat → ClassId) (q : Nat → Nat) (tt : Nat → Nat) (a1 : Int32) (g : z_G) (r : Int32) (g' : z_G) (hf : fY_J7_fill_53178_r20 a1 g = some (r, g')) : z_C l yJ7_fill_53178 wsJ7_fill_53178 { frames := 0, cells := 0, slots := 0, locals := 0 } (dC, dI) (tyY ca) (wY ca q) (zY tt) [.ref (q 20), .int a1] g none g' := by
  refine z_enter (wY_ok ca q) (zY_ok tt) (by decide +kernel) rfl (Nat.le_of_ble_eq_true rfl) (fun J hC => ?_)
  have hC : z_Cx J l cJ7_fill_53178 4 wsJ7_fill_53178 RJ7 none { frames := 0, cells := 0, slots := 0, locals := 0 } (dC, dI) (tyY ca) (wY ca q) (zY tt) (z_QI (dC, dI) (tyY ca) (wY ca q) none g') z_X0 := hC
  show J 0 [(0, .ref (q 20)), (1, .int a1)] [] g
  have hJ5 : ∀ (x1 : Int32) (x2 : Int32) (x3 : Int32) (g : z_G), fY_J7_fill_53178_r20_5_go x1 x2 x3 g = some (r, g') → J 5 [(0, .ref (q 20)), (1, .int x1), (2, .int x2), (3, .int x3)] [] g := by
    intro x1 x2 x3 g hf
    refine z_loopE (P := fun w : Int32 × Int32 × Int32 × z_G => J 5 [(0, .ref (q 20)), (1, .int w.1), (2, .int w.2.1), (3, .int w.2.2.1)] [] w.2.2.2) (fun k5 hk5 w hf => ?_) z_fuel (x1, x2, x3, g) hf
    obtain ⟨x1, x2, x3, g⟩ := w
    have hf : fY_J7_fill_53178_r20_5 k5 x1 x2 x3 g = some (r, g') := hf
    show J 5 [(0, .ref (q 20)), (1, .int x1), (2, .int x2), (3, .int x3)] [] g
    unfold fY_J7_fill_53178_r20_5 at hf
    refine zj_iload_n 2 hC dJ7_fill_53178_5 rfl ?_
    refine zj_iload_n 3 hC dJ7_fill_53178_6 rfl ?_
    refine zj_icmp_ge 20 hC dJ7_fill_53178_7 (by decide) (fun c1 => ?_) (fun c1 => ?_)
    · have hf := z_iteT hf c1
      exact zj_vreturn hC hf dJ7_fill_53178_20
    · have hf := z_iteF hf c1
      refine zj_aload_n 0 hC dJ7_fill_53178_10 rfl ?_
      refine zj_iload_n 2 hC dJ7_fill_53178_11 rfl ?_
      refine zj_iload_n 1 hC dJ7_fill_53178_12 rfl ?_
      obtain ⟨hq2, hf⟩ := z_ckE hf
      refine ys_20 hC hq2 dJ7_fill_53178_13 (fun g3 eg3 => ?_)
      have hf := z_letE hf eg3
      refine zj_iinc (lv1 := fun v => [(2, .int v), (0, .ref (q 20)), (1, .int x1), (3, .int x3)]) 2 hC dJ7_fill_53178_14 rfl (by decide) (fun _ => rfl) (fun y4 ey4 => ?_)
      have hf := z_letE hf (show y4 = x2 + 1 from ey4)
      refine zj_goto 5 hC dJ7_fill_53178_17 (by decide) ?_
      exact zj_sub hC [1, 2, 0, 3] rfl (hk5 (x1, y4, x3, g3) hf)
  unfold fY_J7_fill_53178_r20 at hf
  refine zj_iconst (v := 0) hC dJ7_fill_53178_0 (by decide) ?_
  refine zj_istore_n (lv1 := [(2, .int 0), (0, .ref (q 20)), (1, .int a1)]) hC dJ7_fill_53178_1 (by decide) rfl ?_
  refine zj_aload_n 1 hC dJ7_fill_53178_2 rfl ?_
  refine yl_20 hC dJ7_fill_53178_3 ?_
  refine zj_istore_n (lv1 := [(3, .int 64), (2, .int 0), (0, .ref (q 20)), (1, .int a1)]) hC dJ7_fill_53178_4 (by decide) rfl ?_
  exact zj_sub hC [2, 3, 1, 0] rfl (hJ5 a1 0 64 g hf)

def fY_X2_build_116 (k54 : Int32 × Int32 × z_G → Option (Int32 × z_G)) (s0 : Int32) (s1 : Int32) (x3 : Int32) (x4 : Int32) (g : z_G) : Option (Int32 × z_G) := z_ck s1 64 (z_let (z_up g 9 (Int32.toNatClampNeg s1) (vp_nar .boolean s0)) (fun g2 => z_let (x4 + 1) (fun y3 => k54 (x3, y3, g2))))
def fY_X2_build_111 (k54 : Int32 × Int32 × z_G → Option (Int32 × z_G)) (s0 : Int32) (x3 : Int32) (x4 : Int32) (g : z_G) : Option (Int32 × z_G) := fY_X2_build_116 k54 1 s0 x3 x4 g
def fY_X2_build_54 (k43 : Int32 × z_G → Option (Int32 × z_G)) (k54 : Int32 × Int32 × z_G → Option (Int32 × z_G)) (x3 : Int32) (x4 : Int32) (g : z_G) : Option (Int32 × z_G) := (if (g 1 1) ≤ x4 then z_let (x3 + 1) (fun y5 => k43 (y5, g)) else z_bind (fY_X2_at x3 x4 g) (fun r6 g7 => z_ck r6 64 (z_let (z_up g7 8 (Int32.toNatClampNeg r6) ((2 * x3) + 1)) (fun g10 => (if x3 = ((g10 1 0) - 1) then fY_X2_build_111 k54 r6 x3 x4 g10 else (if x4 = ((g10 1 1) - 1) then fY_X2_build_111 k54 r6 x3 x4 g10 else fY_X2_build_116 k54 0 r6 x3 x4 g10))))))
def fY_X2_build_54_go (k43 : Int32 × z_G → Option (Int32 × z_G)) (x3 : Int32) (x4 : Int32) (g : z_G) : Option (Int32 × z_G) := z_loop (fun k (w : Int32 × Int32 × z_G) => fY_X2_build_54 k43 k w.1 w.2.1 w.2.2) z_fuel (x3, x4, g)
def fY_X2_build_43 (k43 : Int32 × z_G → Option (Int32 × z_G)) (x3 : Int32) (g : z_G) : Option (Int32 × z_G) := (if (g 1 0) ≤ x3 then z_bind (fY_X2_backToLaid g) (fun r14 g15 => some (0, g15)) else fY_X2_build_54_go k43 x3 0 g)
def fY_X2_build_43_go (x3 : Int32) (g : z_G) : Option (Int32 × z_G) := z_loop (fun k (w : Int32 × z_G) => fY_X2_build_43 k w.1 w.2) z_fuel (x3, g)
def fY_X2_build (a0 : Int32) (a1 : Int32) (g : z_G) : Option (Int32 × z_G) := z_let (z_up g 1 0 a0) (fun g17 => z_let (z_up g17 1 1 a1) (fun g18 => z_let (z_up g18 1 4 (a0 * a1)) (fun g19 => z_bind (fY_J7_fill_53178_r17 0 g19) (fun r20 g21 => z_bind (fY_J7_fill_53178_r18 0 g21) (fun r23 g24 => z_bind (fY_J7_fill_53178_r20 5 g24) (fun r26 g27 => fY_X2_build_43_go 0 g27))))))
theorem nY_X2_build : yX2_build.cls = RX2 ∧ yX2_build.cls ≠ "java/lang/invoke/MethodHandle" ∧ yX2_build.cls ≠ "java/lang/invoke/VarHandle" ∧ (parseMethodDescriptor yX2_build.desc).map (fun d => d.parameters.length) = some 2 := by decide +kernel
set_option maxRecDepth 100000 in
set_option maxHeartbeats 4000000 in
theorem cY_X2_build (l : Launch) (dC : Nat → ClassId) (dI : Nat → Nat → Nat) (ca : Nat → ClassId) (q : Nat → Nat) (tt : Nat → Nat) (a0 : Int32) (a1 : Int32) (g : z_G) (r : Int32) (g' : z_G) (hf : fY_X2_build a0 a1 g = some (r, g')) : z_C l yX2_build wsX2_build { frames := 2, cells := 0, slots := 0, locals := 42 } (dC, dI) (tyY ca) (wY ca q) (zY tt) [.ref (q 1), .int a0, .int a1] g none g' := by
  refine z_enter (wY_ok ca q) (zY_ok tt) (by decide +kernel) rfl (Nat.le_of_ble_eq_true rfl) (fun J hC => ?_)
  have hC : z_Cx J l cX2_build 6 wsX2_build RX2 none { frames := 2, cells := 0, slots := 0, locals := 42 } (dC, dI) (tyY ca) (wY ca q) (zY tt) (z_QI (dC, dI) (tyY ca) (wY ca q) none g') z_X0 := hC
  show J 0 [(0, .ref (q 1)), (1, .int a0), (2, .int a1)] [] g
  have hX2 : ∀ w ∈ wsX20, w ∈ wsX2_build := fun _ h => List.mem_cons_of_mem _ (List.mem_append_right _ (h))
  have hJ116 : ∀ (k54 : Int32 × Int32 × z_G → Option (Int32 × z_G)) (_ : ∀ w : Int32 × Int32 × z_G, k54 w = some (r, g') → J 54 [(0, .ref (q 1)), (3, .int w.1), (4, .int w.2.1)] [] w.2.2) (s0 : Int32) (s1 : Int32) (x3 : Int32) (x4 : Int32) (g : z_G), fY_X2_build_116 k54 s0 s1 x3 x4 g = some (r, g') → J 116 [(0, .ref (q 1)), (3, .int x3), (4, .int x4)] [.int s0, .int s1, .ref (q 9)] g := by
    intro k54 hk54 s0 s1 x3 x4 g hf
    unfold fY_X2_build_116 at hf
    obtain ⟨hq1, hf⟩ := z_ckE hf
    refine ys_9 hC hq1 dX2_build_116 (fun g2 eg2 => ?_)
    have hf := z_letE hf eg2
    refine zj_iinc (lv1 := fun v => [(4, .int v), (0, .ref (q 1)), (3, .int x3)]) 2 hC dX2_build_117 rfl (by decide) (fun _ => rfl) (fun y3 ey3 => ?_)
    have hf := z_letE hf (show y3 = x4 + 1 from ey3)
    refine zj_goto 54 hC dX2_build_120 (by decide) ?_
    exact zj_sub hC [1, 2, 0] rfl (hk54 (x3, y3, g2) hf)
  have hJ111 : ∀ (k54 : Int32 × Int32 × z_G → Option (Int32 × z_G)) (_ : ∀ w : Int32 × Int32 × z_G, k54 w = some (r, g') → J 54 [(0, .ref (q 1)), (3, .int w.1), (4, .int w.2.1)] [] w.2.2) (s0 : Int32) (x3 : Int32) (x4 : Int32) (g : z_G), fY_X2_build_111 k54 s0 x3 x4 g = some (r, g') → J 111 [(0, .ref (q 1)), (3, .int x3), (4, .int x4)] [.int s0, .ref (q 9)] g := by
    intro k54 hk54 s0 x3 x4 g hf
    unfold fY_X2_build_111 at hf
    refine zj_iconst (v := 1) hC dX2_build_111 (by decide) ?_
    refine zj_goto 116 hC dX2_build_112 (by decide) ?_
    exact (hJ116 k54 hk54 1 s0 x3 x4 g hf)
  have hJ54 : ∀ (k43 : Int32 × z_G → Option (Int32 × z_G)) (_ : ∀ w : Int32 × z_G, k43 w = some (r, g') → J 43 [(0, .ref (q 1)), (3, .int w.1)] [] w.2) (x3 : Int32) (x4 : Int32) (g : z_G), fY_X2_build_54_go k43 x3 x4 g = some (r, g') → J 54 [(0, .ref (q 1)), (3, .int x3), (4, .int x4)] [] g := by
    intro k43 hk43 x3 x4 g hf
    refine z_loopE (P := fun w : Int32 × Int32 × z_G => J 54 [(0, .ref (q 1)), (3, .int w.1), (4, .int w.2.1)] [] w.2.2) (fun k54 hk54 w hf => ?_) z_fuel (x3, x4, g) hf
    obtain ⟨x3, x4, g⟩ := w
    have hf : fY_X2_build_54 k43 k54 x3 x4 g = some (r, g') := hf
    show J 54 [(0, .ref (q 1)), (3, .int x3), (4, .int x4)] [] g
    unfold fY_X2_build_54 at hf
    refine zj_iload 2 hC dX2_build_54 rfl ?_
    refine zj_aload_n 0 hC dX2_build_56 rfl ?_
    refine yg_1_1 hC hX2 (List.mem_of_getElem? (i := 2) rfl) dX2_build_57 ?_
    refine zj_icmp_ge 123 hC dX2_build_60 (by decide) (fun c4 => ?_) (fun c4 => ?_)
    · have hf := z_iteT hf c4
      refine zj_iinc (lv1 := fun v => [(3, .int v), (0, .ref (q 1)), (4, .int x4)]) 1 hC dX2_build_123 rfl (by decide) (fun _ => rfl) (fun y5 ey5 => ?_)
      have hf := z_letE hf (show y5 = x3 + 1 from ey5)
      refine zj_goto 43 hC dX2_build_126 (by decide) ?_
      exact zj_sub hC [1, 0] rfl (hk43 (y5, g) hf)
    · have hf := z_iteF hf c4
      refine zj_aload_n 0 hC dX2_build_63 rfl ?_
      refine zj_iload_n 1 hC dX2_build_64 rfl ?_
      refine zj_iload 2 hC dX2_build_65 rfl ?_
      obtain ⟨r6, g7, hq8, hf⟩ := z_bindE hf
      refine zj_callVi [.int x3, .int x4] hC (cY_X2_at l dC dI ca q tt x3 x4 g r6 g7 hq8) gX2_build_X2_at rfl nY_X2_at ⟨Nat.le_of_ble_eq_true rfl, Nat.le_of_ble_eq_true rfl⟩ 1 yo_1 rfl rfl rfl (Nat.le_of_ble_eq_true rfl) dX2_build_67 rfl ?_
      refine zj_istore (lv1 := [(5, .int r6), (0, .ref (q 1)), (3, .int x3), (4, .int x4)]) hC dX2_build_70 (by decide) rfl ?_
      refine zj_aload_n 1 hC dX2_build_72 rfl ?_
      refine yg_1_5 hC hX2 (List.mem_of_getElem? (i := 7) rfl) dX2_build_73 ?_
      refine zj_iload 0 hC dX2_build_76 rfl ?_
      refine zj_iconst (v := 2) hC dX2_build_78 (by decide) ?_
      refine zj_iload_n 2 hC dX2_build_79 rfl ?_
      refine zj_imul hC dX2_build_80 ?_
      refine zj_iconst (v := 1) hC dX2_build_81 (by decide) ?_
      refine zj_iadd hC dX2_build_82 ?_
      obtain ⟨hq9, hf⟩ := z_ckE hf
      refine ys_8 hC hq9 dX2_build_83 (fun g10 eg10 => ?_)
      have hf := z_letE hf eg10
      refine zj_aload_n 1 hC dX2_build_84 rfl ?_
      refine yg_1_6 hC hX2 (List.mem_of_getElem? (i := 8) rfl) dX2_build_85 ?_
      refine zj_iload 0 hC dX2_build_88 rfl ?_
      refine zj_iload_n 2 hC dX2_build_90 rfl ?_
      refine zj_aload_n 1 hC dX2_build_91 rfl ?_
      refine yg_1_0 hC hX2 (List.mem_of_getElem? (i := 1) rfl) dX2_build_92 ?_
      refine zj_iconst (v := 1) hC dX2_build_95 (by decide) ?_
      refine zj_isub hC dX2_build_96 ?_
      refine zj_icmp_eq 111 hC dX2_build_97 (by decide) (fun c11 => ?_) (fun c11 => ?_)
      · have hf := z_iteT hf c11
        exact zj_sub hC [1, 2, 3] rfl (hJ111 k54 hk54 r6 x3 x4 g10 hf)
      · have hf := z_iteF hf c11
        refine zj_iload 3 hC dX2_build_100 rfl ?_
        refine zj_aload_n 1 hC dX2_build_102 rfl ?_
        refine yg_1_1 hC hX2 (List.mem_of_getElem? (i := 2) rfl) dX2_build_103 ?_
        refine zj_iconst (v := 1) hC dX2_build_106 (by decide) ?_
        refine zj_isub hC dX2_build_107 ?_
        refine zj_icmp_ne 115 hC dX2_build_108 (by decide) (fun c12 => ?_) (fun c12 => ?_)
        · have hf := z_iteF hf c12
          refine zj_iconst (v := 0) hC dX2_build_115 (by decide) ?_
          exact zj_sub hC [1, 2, 3] rfl (hJ116 k54 hk54 0 r6 x3 x4 g10 hf)
        · have hf := z_iteT hf c12
          exact zj_sub hC [1, 2, 3] rfl (hJ111 k54 hk54 r6 x3 x4 g10 hf)
  have hJ43 : ∀ (x3 : Int32) (g : z_G), fY_X2_build_43_go x3 g = some (r, g') → J 43 [(0, .ref (q 1)), (3, .int x3)] [] g := by
    intro x3 g hf
    refine z_loopE (P := fun w : Int32 × z_G => J 43 [(0, .ref (q 1)), (3, .int w.1)] [] w.2) (fun k43 hk43 w hf => ?_) z_fuel (x3, g) hf
    obtain ⟨x3, g⟩ := w
    have hf : fY_X2_build_43 k43 x3 g = some (r, g') := hf
    show J 43 [(0, .ref (q 1)), (3, .int x3)] [] g
    unfold fY_X2_build_43 at hf
    refine zj_iload_n 1 hC dX2_build_43 rfl ?_
    refine zj_aload_n 0 hC dX2_build_44 rfl ?_
    refine yg_1_0 hC hX2 (List.mem_of_getElem? (i := 1) rfl) dX2_build_45 ?_
    refine zj_icmp_ge 129 hC dX2_build_48 (by decide) (fun c13 => ?_) (fun c13 => ?_)
    · have hf := z_iteT hf c13
      refine zj_aload_n 0 hC dX2_build_129 rfl ?_
      obtain ⟨r14, g15, hq16, hf⟩ := z_bindE hf
      refine zj_callVv [] hC (cY_X2_backToLaid l dC dI ca q tt g r14 g15 hq16) gX2_build_X2_backToLaid rfl nY_X2_backToLaid ⟨Nat.le_of_ble_eq_true rfl, Nat.le_of_ble_eq_true rfl⟩ 1 yo_1 rfl rfl rfl (Nat.le_of_ble_eq_true rfl) dX2_build_130 rfl ?_
      exact zj_vreturn hC hf dX2_build_133
    · have hf := z_iteF hf c13
      refine zj_iconst (v := 0) hC dX2_build_51 (by decide) ?_
      refine zj_istore (lv1 := [(4, .int 0), (0, .ref (q 1)), (3, .int x3)]) hC dX2_build_52 (by decide) rfl ?_
      exact zj_sub hC [1, 2, 0] rfl (hJ54 k43 hk43 x3 0 g hf)
  unfold fY_X2_build at hf
  refine zj_aload_n 0 hC dX2_build_0 rfl ?_
  refine zj_iload_n 1 hC dX2_build_1 rfl ?_
  refine yp_1_0 hC hX2 (List.mem_of_getElem? (i := 1) rfl) dX2_build_2 (fun g17 eg17 => ?_)
  have hf := z_letE hf eg17
  refine zj_aload_n 0 hC dX2_build_5 rfl ?_
  refine zj_iload_n 2 hC dX2_build_6 rfl ?_
  refine yp_1_1 hC hX2 (List.mem_of_getElem? (i := 2) rfl) dX2_build_7 (fun g18 eg18 => ?_)
  have hf := z_letE hf eg18
  refine zj_aload_n 0 hC dX2_build_10 rfl ?_
  refine zj_iload_n 1 hC dX2_build_11 rfl ?_
  refine zj_iload_n 2 hC dX2_build_12 rfl ?_
  refine zj_imul hC dX2_build_13 ?_
  refine yp_1_4 hC hX2 (List.mem_of_getElem? (i := 3) rfl) dX2_build_14 (fun g19 eg19 => ?_)
  have hf := z_letE hf eg19
  refine zj_aload_n 0 hC dX2_build_17 rfl ?_
  refine yg_1_14 hC hX2 (List.mem_of_getElem? (i := 4) rfl) dX2_build_18 ?_
  refine zj_iconst (v := 0) hC dX2_build_21 (by decide) ?_
  obtain ⟨r20, g21, hq22, hf⟩ := z_bindE hf
  refine zj_callSv [.ref (q 17), .int 0] hC (cY_J7_fill_53178_r17 l dC dI ca q tt 0 g19 r20 g21 hq22) gX2_build_J7_fill_53178 rfl nY_J7_fill_53178_r17 ⟨Nat.le_of_ble_eq_true rfl, Nat.le_of_ble_eq_true rfl⟩ rfl (Nat.le_of_ble_eq_true rfl) dX2_build_22 rfl ?_
  refine zj_aload_n 0 hC dX2_build_25 rfl ?_
  refine yg_1_15 hC hX2 (List.mem_of_getElem? (i := 5) rfl) dX2_build_26 ?_
  refine zj_iconst (v := 0) hC dX2_build_29 (by decide) ?_
  obtain ⟨r23, g24, hq25, hf⟩ := z_bindE hf
  refine zj_callSv [.ref (q 18), .int 0] hC (cY_J7_fill_53178_r18 l dC dI ca q tt 0 g21 r23 g24 hq25) gX2_build_J7_fill_53178 rfl nY_J7_fill_53178_r18 ⟨Nat.le_of_ble_eq_true rfl, Nat.le_of_ble_eq_true rfl⟩ rfl (Nat.le_of_ble_eq_true rfl) dX2_build_30 rfl ?_
  refine zj_aload_n 0 hC dX2_build_33 rfl ?_
  refine yg_1_17 hC hX2 (List.mem_of_getElem? (i := 6) rfl) dX2_build_34 ?_
  refine zj_iconst (v := 5) hC dX2_build_37 (by decide) ?_
  obtain ⟨r26, g27, hq28, hf⟩ := z_bindE hf
  refine zj_callSv [.ref (q 20), .int 5] hC (cY_J7_fill_53178_r20 l dC dI ca q tt 5 g24 r26 g27 hq28) gX2_build_J7_fill_53178 rfl nY_J7_fill_53178_r20 ⟨Nat.le_of_ble_eq_true rfl, Nat.le_of_ble_eq_true rfl⟩ rfl (Nat.le_of_ble_eq_true rfl) dX2_build_38 rfl ?_
  refine zj_iconst (v := 0) hC dX2_build_41 (by decide) ?_
  refine zj_istore_n (lv1 := [(3, .int 0), (0, .ref (q 1)), (1, .int a0), (2, .int a1)]) hC dX2_build_42 (by decide) rfl ?_
  exact zj_sub hC [1, 0] rfl (hJ43 0 g27 hf)

def fY_X2_fill (a0 : Int32) (a1 : Int32) (g : z_G) : Option (Int32 × z_G) := z_ck a0 64 (z_let (z_up g 18 (Int32.toNatClampNeg a0) a1) (fun g2 => z_ck a0 64 (z_ck a0 64 (z_let (z_up g2 17 (Int32.toNatClampNeg a0) (100 * (g2 8 (Int32.toNatClampNeg a0)))) (fun g5 => z_ck a0 64 (z_ck a0 64 (z_let (z_up g5 10 (Int32.toNatClampNeg a0) (g5 17 (Int32.toNatClampNeg a0))) (fun g8 => z_bind (fY_X2_dampOf a0 g8) (fun r9 g10 => z_ck a0 64 (z_let (z_up g10 12 (Int32.toNatClampNeg a0) r9) (fun g13 => z_ck a0 64 (z_let (z_up g13 11 (Int32.toNatClampNeg a0) 0) (fun g15 => z_ck a0 64 (z_let (z_up g15 13 (Int32.toNatClampNeg a0) 0) (fun g17 => z_ck a0 64 (some (g17 10 (Int32.toNatClampNeg a0), g17)))))))))))))))))
theorem nY_X2_fill : yX2_fill.cls = RX2 ∧ yX2_fill.cls ≠ "java/lang/invoke/MethodHandle" ∧ yX2_fill.cls ≠ "java/lang/invoke/VarHandle" ∧ (parseMethodDescriptor yX2_fill.desc).map (fun d => d.parameters.length) = some 2 := by decide +kernel
set_option maxRecDepth 100000 in
set_option maxHeartbeats 4000000 in
theorem cY_X2_fill (l : Launch) (dC : Nat → ClassId) (dI : Nat → Nat → Nat) (ca : Nat → ClassId) (q : Nat → Nat) (tt : Nat → Nat) (a0 : Int32) (a1 : Int32) (g : z_G) (r : Int32) (g' : z_G) (hf : fY_X2_fill a0 a1 g = some (r, g')) : z_C l yX2_fill wsX2_fill { frames := 1, cells := 0, slots := 0, locals := 21 } (dC, dI) (tyY ca) (wY ca q) (zY tt) [.ref (q 1), .int a0, .int a1] g (some r) g' := by
  refine z_enter (wY_ok ca q) (zY_ok tt) (by decide +kernel) rfl (Nat.le_of_ble_eq_true rfl) (fun J hC => ?_)
  have hC : z_Cx J l cX2_fill 3 wsX2_fill RX2 (some .int) { frames := 1, cells := 0, slots := 0, locals := 21 } (dC, dI) (tyY ca) (wY ca q) (zY tt) (z_QI (dC, dI) (tyY ca) (wY ca q) (some r) g') z_X0 := hC
  show J 0 [(0, .ref (q 1)), (1, .int a0), (2, .int a1)] [] g
  have hX2 : ∀ w ∈ wsX20, w ∈ wsX2_fill := fun _ h => List.mem_cons_of_mem _ (List.mem_append_right _ (h))
  unfold fY_X2_fill at hf
  refine zj_aload_n 0 hC dX2_fill_0 rfl ?_
  refine yg_1_15 hC hX2 (List.mem_of_getElem? (i := 1) rfl) dX2_fill_1 ?_
  refine zj_iload_n 1 hC dX2_fill_4 rfl ?_
  refine zj_iload_n 2 hC dX2_fill_5 rfl ?_
  obtain ⟨hq1, hf⟩ := z_ckE hf
  refine ys_18 hC hq1 dX2_fill_6 (fun g2 eg2 => ?_)
  have hf := z_letE hf eg2
  refine zj_aload_n 0 hC dX2_fill_7 rfl ?_
  refine yg_1_14 hC hX2 (List.mem_of_getElem? (i := 2) rfl) dX2_fill_8 ?_
  refine zj_iload_n 1 hC dX2_fill_11 rfl ?_
  refine zj_bipush (v := 100) hC dX2_fill_12 (by decide) ?_
  refine zj_aload_n 0 hC dX2_fill_14 rfl ?_
  refine yg_1_5 hC hX2 (List.mem_of_getElem? (i := 3) rfl) dX2_fill_15 ?_
  refine zj_iload_n 1 hC dX2_fill_18 rfl ?_
  obtain ⟨hq3, hf⟩ := z_ckE hf
  refine ya_8 hC hq3 dX2_fill_19 ?_
  refine zj_imul hC dX2_fill_20 ?_
  obtain ⟨hq4, hf⟩ := z_ckE hf
  refine ys_17 hC hq4 dX2_fill_21 (fun g5 eg5 => ?_)
  have hf := z_letE hf eg5
  refine zj_aload_n 0 hC dX2_fill_22 rfl ?_
  refine yg_1_7 hC hX2 (List.mem_of_getElem? (i := 4) rfl) dX2_fill_23 ?_
  refine zj_iload_n 1 hC dX2_fill_26 rfl ?_
  refine zj_aload_n 0 hC dX2_fill_27 rfl ?_
  refine yg_1_14 hC hX2 (List.mem_of_getElem? (i := 2) rfl) dX2_fill_28 ?_
  refine zj_iload_n 1 hC dX2_fill_31 rfl ?_
  obtain ⟨hq6, hf⟩ := z_ckE hf
  refine ya_17 hC hq6 dX2_fill_32 ?_
  obtain ⟨hq7, hf⟩ := z_ckE hf
  refine ys_10 hC hq7 dX2_fill_33 (fun g8 eg8 => ?_)
  have hf := z_letE hf eg8
  refine zj_aload_n 0 hC dX2_fill_34 rfl ?_
  refine yg_1_9 hC hX2 (List.mem_of_getElem? (i := 5) rfl) dX2_fill_35 ?_
  refine zj_iload_n 1 hC dX2_fill_38 rfl ?_
  refine zj_aload_n 0 hC dX2_fill_39 rfl ?_
  refine zj_iload_n 1 hC dX2_fill_40 rfl ?_
  obtain ⟨r9, g10, hq11, hf⟩ := z_bindE hf
  refine zj_callVi [.int a0] hC (cY_X2_dampOf l dC dI ca q tt a0 g8 r9 g10 hq11) gX2_fill_X2_dampOf rfl nY_X2_dampOf ⟨Nat.le_of_ble_eq_true rfl, Nat.le_of_ble_eq_true rfl⟩ 1 yo_1 rfl rfl rfl (Nat.le_of_ble_eq_true rfl) dX2_fill_41 rfl ?_
  obtain ⟨hq12, hf⟩ := z_ckE hf
  refine ys_12 hC hq12 dX2_fill_44 (fun g13 eg13 => ?_)
  have hf := z_letE hf eg13
  refine zj_aload_n 0 hC dX2_fill_45 rfl ?_
  refine yg_1_8 hC hX2 (List.mem_of_getElem? (i := 6) rfl) dX2_fill_46 ?_
  refine zj_iload_n 1 hC dX2_fill_49 rfl ?_
  refine zj_iconst (v := 0) hC dX2_fill_50 (by decide) ?_
  obtain ⟨hq14, hf⟩ := z_ckE hf
  refine ys_11 hC hq14 dX2_fill_51 (fun g15 eg15 => ?_)
  have hf := z_letE hf eg15
  refine zj_aload_n 0 hC dX2_fill_52 rfl ?_
  refine yg_1_10 hC hX2 (List.mem_of_getElem? (i := 7) rfl) dX2_fill_53 ?_
  refine zj_iload_n 1 hC dX2_fill_56 rfl ?_
  refine zj_iconst (v := 0) hC dX2_fill_57 (by decide) ?_
  obtain ⟨hq16, hf⟩ := z_ckE hf
  refine ys_13 hC hq16 dX2_fill_58 (fun g17 eg17 => ?_)
  have hf := z_letE hf eg17
  refine zj_aload_n 0 hC dX2_fill_59 rfl ?_
  refine yg_1_7 hC hX2 (List.mem_of_getElem? (i := 4) rfl) dX2_fill_60 ?_
  refine zj_iload_n 1 hC dX2_fill_63 rfl ?_
  obtain ⟨hq18, hf⟩ := z_ckE hf
  refine ya_10 hC hq18 dX2_fill_64 ?_
  exact zj_ireturn hC hf dX2_fill_65

def fY_X2_keepCover (g : z_G) : Option (Int32 × z_G) := z_let (z_row g 20 (va_cpy (g 15) (g 20) 0 0 64)) (fun g1 => some (0, g1))
theorem nY_X2_keepCover : yX2_keepCover.cls = RX2 ∧ yX2_keepCover.cls ≠ "java/lang/invoke/MethodHandle" ∧ yX2_keepCover.cls ≠ "java/lang/invoke/VarHandle" ∧ (parseMethodDescriptor yX2_keepCover.desc).map (fun d => d.parameters.length) = some 0 := by decide +kernel
set_option maxRecDepth 100000 in
set_option maxHeartbeats 4000000 in
theorem cY_X2_keepCover (l : Launch) (dC : Nat → ClassId) (dI : Nat → Nat → Nat) (ca : Nat → ClassId) (q : Nat → Nat) (tt : Nat → Nat) (g : z_G) (r : Int32) (g' : z_G) (hf : fY_X2_keepCover g = some (r, g')) : z_C l yX2_keepCover wsX2_keepCover { frames := 1, cells := 0, slots := 0, locals := 40 } (dC, dI) (tyY ca) (wY ca q) (zY tt) [.ref (q 1)] g none g' := by
  refine z_enter (wY_ok ca q) (zY_ok tt) (by decide +kernel) rfl (Nat.le_of_ble_eq_true rfl) (fun J hC => ?_)
  have hC : z_Cx J l cX2_keepCover 1 wsX2_keepCover RX2 none { frames := 1, cells := 0, slots := 0, locals := 40 } (dC, dI) (tyY ca) (wY ca q) (zY tt) (z_QI (dC, dI) (tyY ca) (wY ca q) none g') z_X0 := hC
  show J 0 [(0, .ref (q 1))] [] g
  have hX2 : ∀ w ∈ wsX20, w ∈ wsX2_keepCover := fun _ h => List.mem_cons_of_mem _ (List.mem_append_right _ (h))
  unfold fY_X2_keepCover at hf
  refine zj_aload_n 0 hC dX2_keepCover_0 rfl ?_
  refine yg_1_12 hC hX2 (List.mem_of_getElem? (i := 1) rfl) dX2_keepCover_1 ?_
  refine zj_iconst (v := 0) hC dX2_keepCover_4 (by decide) ?_
  refine zj_aload_n 0 hC dX2_keepCover_5 rfl ?_
  refine yg_1_17 hC hX2 (List.mem_of_getElem? (i := 2) rfl) dX2_keepCover_6 ?_
  refine zj_iconst (v := 0) hC dX2_keepCover_9 (by decide) ?_
  refine zj_bipush (v := 64) hC dX2_keepCover_10 (by decide) ?_
  refine zj_copy (n0 := 64) (n1 := 64) hC (List.mem_of_getElem? (i := 3) rfl) (List.mem_of_getElem? (i := 4) rfl) (List.mem_of_getElem? (i := 5) rfl) (List.mem_of_getElem? (i := 6) rfl) 15 20 7 12 rfl rfl rfl rfl rfl (by decide) (by decide) (by decide) (by decide) (by decide) (fun _ _ => rfl) (Nat.le_of_ble_eq_true rfl) (by decide) rfl dX2_keepCover_12 (fun g1 eg1 => ?_)
  have hf := z_letE hf eg1
  exact zj_vreturn hC hf dX2_keepCover_15

def fY_X2_setAlight (g : z_G) : Option (Int32 × z_G) := z_ck 0 64 (z_let (z_up g 14 (Int32.toNatClampNeg 0) 1) (fun g2 => z_ck 0 64 (z_let (z_up g2 13 (Int32.toNatClampNeg 0) 500) (fun g4 => some (0, g4)))))
theorem nY_X2_setAlight : yX2_setAlight.cls = RX2 ∧ yX2_setAlight.cls ≠ "java/lang/invoke/MethodHandle" ∧ yX2_setAlight.cls ≠ "java/lang/invoke/VarHandle" ∧ (parseMethodDescriptor yX2_setAlight.desc).map (fun d => d.parameters.length) = some 0 := by decide +kernel
set_option maxRecDepth 100000 in
set_option maxHeartbeats 4000000 in
theorem cY_X2_setAlight (l : Launch) (dC : Nat → ClassId) (dI : Nat → Nat → Nat) (ca : Nat → ClassId) (q : Nat → Nat) (tt : Nat → Nat) (g : z_G) (r : Int32) (g' : z_G) (hf : fY_X2_setAlight g = some (r, g')) : z_C l yX2_setAlight wsX2_setAlight { frames := 0, cells := 0, slots := 0, locals := 0 } (dC, dI) (tyY ca) (wY ca q) (zY tt) [.ref (q 1)] g none g' := by
  refine z_enter (wY_ok ca q) (zY_ok tt) (by decide +kernel) rfl (Nat.le_of_ble_eq_true rfl) (fun J hC => ?_)
  have hC : z_Cx J l cX2_setAlight 1 wsX2_setAlight RX2 none { frames := 0, cells := 0, slots := 0, locals := 0 } (dC, dI) (tyY ca) (wY ca q) (zY tt) (z_QI (dC, dI) (tyY ca) (wY ca q) none g') z_X0 := hC
  show J 0 [(0, .ref (q 1))] [] g
  have hX2 : ∀ w ∈ wsX20, w ∈ wsX2_setAlight := fun _ h => List.mem_cons_of_mem _ (List.mem_append_right _ (h))
  unfold fY_X2_setAlight at hf
  refine zj_aload_n 0 hC dX2_setAlight_0 rfl ?_
  refine yg_1_11 hC hX2 (List.mem_of_getElem? (i := 1) rfl) dX2_setAlight_1 ?_
  refine zj_iconst (v := 0) hC dX2_setAlight_4 (by decide) ?_
  refine zj_iconst (v := 1) hC dX2_setAlight_5 (by decide) ?_
  obtain ⟨hq1, hf⟩ := z_ckE hf
  refine ys_14 hC hq1 dX2_setAlight_6 (fun g2 eg2 => ?_)
  have hf := z_letE hf eg2
  refine zj_aload_n 0 hC dX2_setAlight_7 rfl ?_
  refine yg_1_10 hC hX2 (List.mem_of_getElem? (i := 2) rfl) dX2_setAlight_8 ?_
  refine zj_iconst (v := 0) hC dX2_setAlight_11 (by decide) ?_
  refine zj_sipush (v := 500) hC dX2_setAlight_12 (by decide) ?_
  obtain ⟨hq3, hf⟩ := z_ckE hf
  refine ys_13 hC hq3 dX2_setAlight_15 (fun g4 eg4 => ?_)
  have hf := z_letE hf eg4
  exact zj_vreturn hC hf dX2_setAlight_16

def fY_X2_backToLight (g : z_G) : Option (Int32 × z_G) := z_bind (fY_X2_backToLaid g) (fun r1 g2 => z_bind (fY_X2_setAlight g2) (fun r4 g5 => some (0, g5)))
theorem nY_X2_backToLight : yX2_backToLight.cls = RX2 ∧ yX2_backToLight.cls ≠ "java/lang/invoke/MethodHandle" ∧ yX2_backToLight.cls ≠ "java/lang/invoke/VarHandle" ∧ (parseMethodDescriptor yX2_backToLight.desc).map (fun d => d.parameters.length) = some 0 := by decide +kernel
set_option maxRecDepth 100000 in
set_option maxHeartbeats 4000000 in
theorem cY_X2_backToLight (l : Launch) (dC : Nat → ClassId) (dI : Nat → Nat → Nat) (ca : Nat → ClassId) (q : Nat → Nat) (tt : Nat → Nat) (g : z_G) (r : Int32) (g' : z_G) (hf : fY_X2_backToLight g = some (r, g')) : z_C l yX2_backToLight wsX2_backToLight { frames := 2, cells := 0, slots := 0, locals := 42 } (dC, dI) (tyY ca) (wY ca q) (zY tt) [.ref (q 1)] g none g' := by
  refine z_enter (wY_ok ca q) (zY_ok tt) (by decide +kernel) rfl (Nat.le_of_ble_eq_true rfl) (fun J hC => ?_)
  have hC : z_Cx J l cX2_backToLight 1 wsX2_backToLight RX2 none { frames := 2, cells := 0, slots := 0, locals := 42 } (dC, dI) (tyY ca) (wY ca q) (zY tt) (z_QI (dC, dI) (tyY ca) (wY ca q) none g') z_X0 := hC
  show J 0 [(0, .ref (q 1))] [] g
  unfold fY_X2_backToLight at hf
  refine zj_aload_n 0 hC dX2_backToLight_0 rfl ?_
  obtain ⟨r1, g2, hq3, hf⟩ := z_bindE hf
  refine zj_callVv [] hC (cY_X2_backToLaid l dC dI ca q tt g r1 g2 hq3) gX2_backToLight_X2_backToLaid rfl nY_X2_backToLaid ⟨Nat.le_of_ble_eq_true rfl, Nat.le_of_ble_eq_true rfl⟩ 1 yo_1 rfl rfl rfl (Nat.le_of_ble_eq_true rfl) dX2_backToLight_1 rfl ?_
  refine zj_aload_n 0 hC dX2_backToLight_4 rfl ?_
  obtain ⟨r4, g5, hq6, hf⟩ := z_bindE hf
  refine zj_callVv [] hC (cY_X2_setAlight l dC dI ca q tt g2 r4 g5 hq6) gX2_backToLight_X2_setAlight rfl nY_X2_setAlight ⟨Nat.le_of_ble_eq_true rfl, Nat.le_of_ble_eq_true rfl⟩ 1 yo_1 rfl rfl rfl (Nat.le_of_ble_eq_true rfl) dX2_backToLight_5 rfl ?_
  exact zj_vreturn hC hf dX2_backToLight_8

def fY_X2_spreadOutwards_64 (k12 : Int32 × Int32 × z_G → Option (Int32 × z_G)) (s0 : Int32) (x1 : Int32) (x2 : Int32) (x3 : Int32) (x4 : Int32) (g : z_G) : Option (Int32 × z_G) := z_ck x3 64 (z_let (if x4 < s0 then s0 else x4) (fun y2 => z_let (if (g 16 (Int32.toNatClampNeg x3)) < (y2 - 1) then y2 - 1 else g 16 (Int32.toNatClampNeg x3)) (fun y3 => z_ck x3 64 (z_let (z_up g 16 (Int32.toNatClampNeg x3) y3) (fun g5 => z_let (x2 + 1) (fun y6 => k12 (x1, y6, g5)))))))
def fY_X2_spreadOutwards_43 (k12 : Int32 × Int32 × z_G → Option (Int32 × z_G)) (s0 : Int32) (x1 : Int32) (x2 : Int32) (x3 : Int32) (g : z_G) : Option (Int32 × z_G) := (if x1 ≤ 0 then fY_X2_spreadOutwards_64 k12 0 x1 x2 x3 s0 g else z_ck (x3 - (g 1 1)) 64 (fY_X2_spreadOutwards_64 k12 (g 16 (Int32.toNatClampNeg (x3 - (g 1 1)))) x1 x2 x3 s0 g))
def fY_X2_spreadOutwards_12 (k2 : Int32 × z_G → Option (Int32 × z_G)) (k12 : Int32 × Int32 × z_G → Option (Int32 × z_G)) (x1 : Int32) (x2 : Int32) (g : z_G) : Option (Int32 × z_G) := (if (g 1 1) ≤ x2 then z_let (x1 + 1) (fun y10 => k2 (y10, g)) else z_bind (fY_X2_at x1 x2 g) (fun r11 g12 => (if x2 ≤ 0 then fY_X2_spreadOutwards_43 k12 0 x1 x2 r11 g12 else z_ck (r11 - 1) 64 (fY_X2_spreadOutwards_43 k12 (g12 16 (Int32.toNatClampNeg (r11 - 1))) x1 x2 r11 g12))))
def fY_X2_spreadOutwards_12_go (k2 : Int32 × z_G → Option (Int32 × z_G)) (x1 : Int32) (x2 : Int32) (g : z_G) : Option (Int32 × z_G) := z_loop (fun k (w : Int32 × Int32 × z_G) => fY_X2_spreadOutwards_12 k2 k w.1 w.2.1 w.2.2) z_fuel (x1, x2, g)
def fY_X2_spreadOutwards_2 (k2 : Int32 × z_G → Option (Int32 × z_G)) (x1 : Int32) (g : z_G) : Option (Int32 × z_G) := (if (g 1 0) ≤ x1 then some (0, g) else fY_X2_spreadOutwards_12_go k2 x1 0 g)
def fY_X2_spreadOutwards_2_go (x1 : Int32) (g : z_G) : Option (Int32 × z_G) := z_loop (fun k (w : Int32 × z_G) => fY_X2_spreadOutwards_2 k w.1 w.2) z_fuel (x1, g)
def fY_X2_spreadOutwards (g : z_G) : Option (Int32 × z_G) := fY_X2_spreadOutwards_2_go 0 g
theorem nY_X2_spreadOutwards : yX2_spreadOutwards.cls = RX2 ∧ yX2_spreadOutwards.cls ≠ "java/lang/invoke/MethodHandle" ∧ yX2_spreadOutwards.cls ≠ "java/lang/invoke/VarHandle" ∧ (parseMethodDescriptor yX2_spreadOutwards.desc).map (fun d => d.parameters.length) = some 0 := by decide +kernel
set_option maxRecDepth 100000 in
set_option maxHeartbeats 4000000 in
theorem cY_X2_spreadOutwards (l : Launch) (dC : Nat → ClassId) (dI : Nat → Nat → Nat) (ca : Nat → ClassId) (q : Nat → Nat) (tt : Nat → Nat) (g : z_G) (r : Int32) (g' : z_G) (hf : fY_X2_spreadOutwards g = some (r, g')) : z_C l yX2_spreadOutwards wsX2_spreadOutwards { frames := 1, cells := 0, slots := 0, locals := 22 } (dC, dI) (tyY ca) (wY ca q) (zY tt) [.ref (q 1)] g none g' := by
  refine z_enter (wY_ok ca q) (zY_ok tt) (by decide +kernel) rfl (Nat.le_of_ble_eq_true rfl) (fun J hC => ?_)
  have hC : z_Cx J l cX2_spreadOutwards 6 wsX2_spreadOutwards RX2 none { frames := 1, cells := 0, slots := 0, locals := 22 } (dC, dI) (tyY ca) (wY ca q) (zY tt) (z_QI (dC, dI) (tyY ca) (wY ca q) none g') z_X0 := hC
  show J 0 [(0, .ref (q 1))] [] g
  have hX2 : ∀ w ∈ wsX20, w ∈ wsX2_spreadOutwards := fun _ h => List.mem_cons_of_mem _ (List.mem_append_right _ (h))
  have hJ64 : ∀ (k12 : Int32 × Int32 × z_G → Option (Int32 × z_G)) (_ : ∀ w : Int32 × Int32 × z_G, k12 w = some (r, g') → J 12 [(0, .ref (q 1)), (1, .int w.1), (2, .int w.2.1)] [] w.2.2) (s0 : Int32) (x1 : Int32) (x2 : Int32) (x3 : Int32) (x4 : Int32) (g : z_G), fY_X2_spreadOutwards_64 k12 s0 x1 x2 x3 x4 g = some (r, g') → J 64 [(0, .ref (q 1)), (1, .int x1), (2, .int x2), (3, .int x3), (4, .int x4)] [.int s0] g := by
    intro k12 hk12 s0 x1 x2 x3 x4 g hf
    unfold fY_X2_spreadOutwards_64 at hf
    refine zj_istore (lv1 := [(5, .int s0), (0, .ref (q 1)), (1, .int x1), (2, .int x2), (3, .int x3), (4, .int x4)]) hC dX2_spreadOutwards_64 (by decide) rfl ?_
    refine zj_aload_n 1 hC dX2_spreadOutwards_66 rfl ?_
    refine yg_1_13 hC hX2 (List.mem_of_getElem? (i := 3) rfl) dX2_spreadOutwards_67 ?_
    refine zj_iload_n 4 hC dX2_spreadOutwards_70 rfl ?_
    refine zj_aload_n 1 hC dX2_spreadOutwards_71 rfl ?_
    refine yg_1_13 hC hX2 (List.mem_of_getElem? (i := 3) rfl) dX2_spreadOutwards_72 ?_
    refine zj_iload_n 4 hC dX2_spreadOutwards_75 rfl ?_
    obtain ⟨hq1, hf⟩ := z_ckE hf
    refine ya_16 hC hq1 dX2_spreadOutwards_76 ?_
    refine zj_iload 5 hC dX2_spreadOutwards_77 rfl ?_
    refine zj_iload 0 hC dX2_spreadOutwards_79 rfl ?_
    refine zj_max hC (List.mem_of_getElem? (i := 4) rfl) (List.mem_of_getElem? (i := 5) rfl) (List.mem_of_getElem? (i := 6) rfl) (List.mem_of_getElem? (i := 7) rfl) (Nat.le_of_ble_eq_true rfl) (Nat.le_of_ble_eq_true rfl) dX2_spreadOutwards_81 ?_
    refine zj_top (fun y2 ey2 => ?_)
    have hf := z_letE hf ey2
    refine zj_iconst (v := 1) hC dX2_spreadOutwards_84 (by decide) ?_
    refine zj_isub hC dX2_spreadOutwards_85 ?_
    refine zj_max hC (List.mem_of_getElem? (i := 4) rfl) (List.mem_of_getElem? (i := 5) rfl) (List.mem_of_getElem? (i := 6) rfl) (List.mem_of_getElem? (i := 7) rfl) (Nat.le_of_ble_eq_true rfl) (Nat.le_of_ble_eq_true rfl) dX2_spreadOutwards_86 ?_
    refine zj_top (fun y3 ey3 => ?_)
    have hf := z_letE hf ey3
    obtain ⟨hq4, hf⟩ := z_ckE hf
    refine ys_16 hC hq4 dX2_spreadOutwards_89 (fun g5 eg5 => ?_)
    have hf := z_letE hf eg5
    refine zj_iinc (lv1 := fun v => [(2, .int v), (5, .int s0), (0, .ref (q 1)), (1, .int x1), (3, .int x3), (4, .int x4)]) 3 hC dX2_spreadOutwards_90 rfl (by decide) (fun _ => rfl) (fun y6 ey6 => ?_)
    have hf := z_letE hf (show y6 = x2 + 1 from ey6)
    refine zj_goto 12 hC dX2_spreadOutwards_93 (by decide) ?_
    exact zj_sub hC [2, 3, 0] rfl (hk12 (x1, y6, g5) hf)
  have hJ43 : ∀ (k12 : Int32 × Int32 × z_G → Option (Int32 × z_G)) (_ : ∀ w : Int32 × Int32 × z_G, k12 w = some (r, g') → J 12 [(0, .ref (q 1)), (1, .int w.1), (2, .int w.2.1)] [] w.2.2) (s0 : Int32) (x1 : Int32) (x2 : Int32) (x3 : Int32) (g : z_G), fY_X2_spreadOutwards_43 k12 s0 x1 x2 x3 g = some (r, g') → J 43 [(0, .ref (q 1)), (1, .int x1), (2, .int x2), (3, .int x3)] [.int s0] g := by
    intro k12 hk12 s0 x1 x2 x3 g hf
    unfold fY_X2_spreadOutwards_43 at hf
    refine zj_istore (lv1 := [(4, .int s0), (0, .ref (q 1)), (1, .int x1), (2, .int x2), (3, .int x3)]) hC dX2_spreadOutwards_43 (by decide) rfl ?_
    refine zj_iload_n 2 hC dX2_spreadOutwards_45 rfl ?_
    refine zj_if_le 63 hC dX2_spreadOutwards_46 (by decide) (fun c7 => ?_) (fun c7 => ?_)
    · have hf := z_iteT hf c7
      refine zj_iconst (v := 0) hC dX2_spreadOutwards_63 (by decide) ?_
      exact zj_sub hC [1, 2, 3, 4, 0] rfl (hJ64 k12 hk12 0 x1 x2 x3 s0 g hf)
    · have hf := z_iteF hf c7
      refine zj_aload_n 1 hC dX2_spreadOutwards_49 rfl ?_
      refine yg_1_13 hC hX2 (List.mem_of_getElem? (i := 3) rfl) dX2_spreadOutwards_50 ?_
      refine zj_iload_n 4 hC dX2_spreadOutwards_53 rfl ?_
      refine zj_aload_n 1 hC dX2_spreadOutwards_54 rfl ?_
      refine yg_1_1 hC hX2 (List.mem_of_getElem? (i := 2) rfl) dX2_spreadOutwards_55 ?_
      refine zj_isub hC dX2_spreadOutwards_58 ?_
      obtain ⟨hq8, hf⟩ := z_ckE hf
      refine ya_16 hC hq8 dX2_spreadOutwards_59 ?_
      refine zj_goto 64 hC dX2_spreadOutwards_60 (by decide) ?_
      exact zj_sub hC [1, 2, 3, 4, 0] rfl (hJ64 k12 hk12 (g 16 (Int32.toNatClampNeg (x3 - (g 1 1)))) x1 x2 x3 s0 g hf)
  have hJ12 : ∀ (k2 : Int32 × z_G → Option (Int32 × z_G)) (_ : ∀ w : Int32 × z_G, k2 w = some (r, g') → J 2 [(0, .ref (q 1)), (1, .int w.1)] [] w.2) (x1 : Int32) (x2 : Int32) (g : z_G), fY_X2_spreadOutwards_12_go k2 x1 x2 g = some (r, g') → J 12 [(0, .ref (q 1)), (1, .int x1), (2, .int x2)] [] g := by
    intro k2 hk2 x1 x2 g hf
    refine z_loopE (P := fun w : Int32 × Int32 × z_G => J 12 [(0, .ref (q 1)), (1, .int w.1), (2, .int w.2.1)] [] w.2.2) (fun k12 hk12 w hf => ?_) z_fuel (x1, x2, g) hf
    obtain ⟨x1, x2, g⟩ := w
    have hf : fY_X2_spreadOutwards_12 k2 k12 x1 x2 g = some (r, g') := hf
    show J 12 [(0, .ref (q 1)), (1, .int x1), (2, .int x2)] [] g
    unfold fY_X2_spreadOutwards_12 at hf
    refine zj_iload_n 2 hC dX2_spreadOutwards_12 rfl ?_
    refine zj_aload_n 0 hC dX2_spreadOutwards_13 rfl ?_
    refine yg_1_1 hC hX2 (List.mem_of_getElem? (i := 2) rfl) dX2_spreadOutwards_14 ?_
    refine zj_icmp_ge 96 hC dX2_spreadOutwards_17 (by decide) (fun c9 => ?_) (fun c9 => ?_)
    · have hf := z_iteT hf c9
      refine zj_iinc (lv1 := fun v => [(1, .int v), (0, .ref (q 1)), (2, .int x2)]) 1 hC dX2_spreadOutwards_96 rfl (by decide) (fun _ => rfl) (fun y10 ey10 => ?_)
      have hf := z_letE hf (show y10 = x1 + 1 from ey10)
      refine zj_goto 2 hC dX2_spreadOutwards_99 (by decide) ?_
      exact zj_sub hC [1, 0] rfl (hk2 (y10, g) hf)
    · have hf := z_iteF hf c9
      refine zj_aload_n 0 hC dX2_spreadOutwards_20 rfl ?_
      refine zj_iload_n 1 hC dX2_spreadOutwards_21 rfl ?_
      refine zj_iload_n 2 hC dX2_spreadOutwards_22 rfl ?_
      obtain ⟨r11, g12, hq13, hf⟩ := z_bindE hf
      refine zj_callVi [.int x1, .int x2] hC (cY_X2_at l dC dI ca q tt x1 x2 g r11 g12 hq13) gX2_spreadOutwards_X2_at rfl nY_X2_at ⟨Nat.le_of_ble_eq_true rfl, Nat.le_of_ble_eq_true rfl⟩ 1 yo_1 rfl rfl rfl (Nat.le_of_ble_eq_true rfl) dX2_spreadOutwards_23 rfl ?_
      refine zj_istore_n (lv1 := [(3, .int r11), (0, .ref (q 1)), (1, .int x1), (2, .int x2)]) hC dX2_spreadOutwards_26 (by decide) rfl ?_
      refine zj_iload_n 3 hC dX2_spreadOutwards_27 rfl ?_
      refine zj_if_le 42 hC dX2_spreadOutwards_28 (by decide) (fun c14 => ?_) (fun c14 => ?_)
      · have hf := z_iteT hf c14
        refine zj_iconst (v := 0) hC dX2_spreadOutwards_42 (by decide) ?_
        exact zj_sub hC [1, 2, 3, 0] rfl (hJ43 k12 hk12 0 x1 x2 r11 g12 hf)
      · have hf := z_iteF hf c14
        refine zj_aload_n 1 hC dX2_spreadOutwards_31 rfl ?_
        refine yg_1_13 hC hX2 (List.mem_of_getElem? (i := 3) rfl) dX2_spreadOutwards_32 ?_
        refine zj_iload_n 0 hC dX2_spreadOutwards_35 rfl ?_
        refine zj_iconst (v := 1) hC dX2_spreadOutwards_36 (by decide) ?_
        refine zj_isub hC dX2_spreadOutwards_37 ?_
        obtain ⟨hq15, hf⟩ := z_ckE hf
        refine ya_16 hC hq15 dX2_spreadOutwards_38 ?_
        refine zj_goto 43 hC dX2_spreadOutwards_39 (by decide) ?_
        exact zj_sub hC [1, 2, 3, 0] rfl (hJ43 k12 hk12 (g12 16 (Int32.toNatClampNeg (r11 - 1))) x1 x2 r11 g12 hf)
  have hJ2 : ∀ (x1 : Int32) (g : z_G), fY_X2_spreadOutwards_2_go x1 g = some (r, g') → J 2 [(0, .ref (q 1)), (1, .int x1)] [] g := by
    intro x1 g hf
    refine z_loopE (P := fun w : Int32 × z_G => J 2 [(0, .ref (q 1)), (1, .int w.1)] [] w.2) (fun k2 hk2 w hf => ?_) z_fuel (x1, g) hf
    obtain ⟨x1, g⟩ := w
    have hf : fY_X2_spreadOutwards_2 k2 x1 g = some (r, g') := hf
    show J 2 [(0, .ref (q 1)), (1, .int x1)] [] g
    unfold fY_X2_spreadOutwards_2 at hf
    refine zj_iload_n 1 hC dX2_spreadOutwards_2 rfl ?_
    refine zj_aload_n 0 hC dX2_spreadOutwards_3 rfl ?_
    refine yg_1_0 hC hX2 (List.mem_of_getElem? (i := 1) rfl) dX2_spreadOutwards_4 ?_
    refine zj_icmp_ge 102 hC dX2_spreadOutwards_7 (by decide) (fun c16 => ?_) (fun c16 => ?_)
    · have hf := z_iteT hf c16
      exact zj_vreturn hC hf dX2_spreadOutwards_102
    · have hf := z_iteF hf c16
      refine zj_iconst (v := 0) hC dX2_spreadOutwards_10 (by decide) ?_
      refine zj_istore_n (lv1 := [(2, .int 0), (0, .ref (q 1)), (1, .int x1)]) hC dX2_spreadOutwards_11 (by decide) rfl ?_
      exact zj_sub hC [1, 2, 0] rfl (hJ12 k2 hk2 x1 0 g hf)
  unfold fY_X2_spreadOutwards at hf
  refine zj_iconst (v := 0) hC dX2_spreadOutwards_0 (by decide) ?_
  refine zj_istore_n (lv1 := [(1, .int 0), (0, .ref (q 1))]) hC dX2_spreadOutwards_1 (by decide) rfl ?_
  exact zj_sub hC [1, 0] rfl (hJ2 0 g hf)

def fY_X2_spreadInwards_78 (k18 : Int32 × Int32 × z_G → Option (Int32 × z_G)) (s0 : Int32) (x1 : Int32) (x2 : Int32) (x3 : Int32) (x4 : Int32) (g : z_G) : Option (Int32 × z_G) := z_ck x3 64 (z_let (if x4 < s0 then s0 else x4) (fun y2 => z_let (if (g 16 (Int32.toNatClampNeg x3)) < (y2 - 1) then y2 - 1 else g 16 (Int32.toNatClampNeg x3)) (fun y3 => z_ck x3 64 (z_let (z_up g 16 (Int32.toNatClampNeg x3) y3) (fun g5 => z_let (x2 + (-1)) (fun y6 => k18 (x1, y6, g5)))))))
def fY_X2_spreadInwards_51 (k18 : Int32 × Int32 × z_G → Option (Int32 × z_G)) (s0 : Int32) (x1 : Int32) (x2 : Int32) (x3 : Int32) (g : z_G) : Option (Int32 × z_G) := (if ((g 1 0) - 1) ≤ x1 then fY_X2_spreadInwards_78 k18 0 x1 x2 x3 s0 g else z_ck (x3 + (g 1 1)) 64 (fY_X2_spreadInwards_78 k18 (g 16 (Int32.toNatClampNeg (x3 + (g 1 1)))) x1 x2 x3 s0 g))
def fY_X2_spreadInwards_18 (k7 : Int32 × z_G → Option (Int32 × z_G)) (k18 : Int32 × Int32 × z_G → Option (Int32 × z_G)) (x1 : Int32) (x2 : Int32) (g : z_G) : Option (Int32 × z_G) := (if x2 < 0 then z_let (x1 + (-1)) (fun y10 => k7 (y10, g)) else z_bind (fY_X2_at x1 x2 g) (fun r11 g12 => (if ((g12 1 1) - 1) ≤ x2 then fY_X2_spreadInwards_51 k18 0 x1 x2 r11 g12 else z_ck (r11 + 1) 64 (fY_X2_spreadInwards_51 k18 (g12 16 (Int32.toNatClampNeg (r11 + 1))) x1 x2 r11 g12))))
def fY_X2_spreadInwards_18_go (k7 : Int32 × z_G → Option (Int32 × z_G)) (x1 : Int32) (x2 : Int32) (g : z_G) : Option (Int32 × z_G) := z_loop (fun k (w : Int32 × Int32 × z_G) => fY_X2_spreadInwards_18 k7 k w.1 w.2.1 w.2.2) z_fuel (x1, x2, g)
def fY_X2_spreadInwards_7 (k7 : Int32 × z_G → Option (Int32 × z_G)) (x1 : Int32) (g : z_G) : Option (Int32 × z_G) := (if x1 < 0 then some (0, g) else z_let ((g 1 1) - 1) (fun y17 => fY_X2_spreadInwards_18_go k7 x1 y17 g))
def fY_X2_spreadInwards_7_go (x1 : Int32) (g : z_G) : Option (Int32 × z_G) := z_loop (fun k (w : Int32 × z_G) => fY_X2_spreadInwards_7 k w.1 w.2) z_fuel (x1, g)
def fY_X2_spreadInwards (g : z_G) : Option (Int32 × z_G) := z_let ((g 1 0) - 1) (fun y18 => fY_X2_spreadInwards_7_go y18 g)
theorem nY_X2_spreadInwards : yX2_spreadInwards.cls = RX2 ∧ yX2_spreadInwards.cls ≠ "java/lang/invoke/MethodHandle" ∧ yX2_spreadInwards.cls ≠ "java/lang/invoke/VarHandle" ∧ (parseMethodDescriptor yX2_spreadInwards.desc).map (fun d => d.parameters.length) = some 0 := by decide +kernel
set_option maxRecDepth 100000 in
set_option maxHeartbeats 4000000 in
theorem cY_X2_spreadInwards (l : Launch) (dC : Nat → ClassId) (dI : Nat → Nat → Nat) (ca : Nat → ClassId) (q : Nat → Nat) (tt : Nat → Nat) (g : z_G) (r : Int32) (g' : z_G) (hf : fY_X2_spreadInwards g = some (r, g')) : z_C l yX2_spreadInwards wsX2_spreadInwards { frames := 1, cells := 0, slots := 0, locals := 22 } (dC, dI) (tyY ca) (wY ca q) (zY tt) [.ref (q 1)] g none g' := by
  refine z_enter (wY_ok ca q) (zY_ok tt) (by decide +kernel) rfl (Nat.le_of_ble_eq_true rfl) (fun J hC => ?_)
  have hC : z_Cx J l cX2_spreadInwards 6 wsX2_spreadInwards RX2 none { frames := 1, cells := 0, slots := 0, locals := 22 } (dC, dI) (tyY ca) (wY ca q) (zY tt) (z_QI (dC, dI) (tyY ca) (wY ca q) none g') z_X0 := hC
  show J 0 [(0, .ref (q 1))] [] g
  have hX2 : ∀ w ∈ wsX20, w ∈ wsX2_spreadInwards := fun _ h => List.mem_cons_of_mem _ (List.mem_append_right _ (h))
  have hJ78 : ∀ (k18 : Int32 × Int32 × z_G → Option (Int32 × z_G)) (_ : ∀ w : Int32 × Int32 × z_G, k18 w = some (r, g') → J 18 [(0, .ref (q 1)), (1, .int w.1), (2, .int w.2.1)] [] w.2.2) (s0 : Int32) (x1 : Int32) (x2 : Int32) (x3 : Int32) (x4 : Int32) (g : z_G), fY_X2_spreadInwards_78 k18 s0 x1 x2 x3 x4 g = some (r, g') → J 78 [(0, .ref (q 1)), (1, .int x1), (2, .int x2), (3, .int x3), (4, .int x4)] [.int s0] g := by
    intro k18 hk18 s0 x1 x2 x3 x4 g hf
    unfold fY_X2_spreadInwards_78 at hf
    refine zj_istore (lv1 := [(5, .int s0), (0, .ref (q 1)), (1, .int x1), (2, .int x2), (3, .int x3), (4, .int x4)]) hC dX2_spreadInwards_78 (by decide) rfl ?_
    refine zj_aload_n 1 hC dX2_spreadInwards_80 rfl ?_
    refine yg_1_13 hC hX2 (List.mem_of_getElem? (i := 3) rfl) dX2_spreadInwards_81 ?_
    refine zj_iload_n 4 hC dX2_spreadInwards_84 rfl ?_
    refine zj_aload_n 1 hC dX2_spreadInwards_85 rfl ?_
    refine yg_1_13 hC hX2 (List.mem_of_getElem? (i := 3) rfl) dX2_spreadInwards_86 ?_
    refine zj_iload_n 4 hC dX2_spreadInwards_89 rfl ?_
    obtain ⟨hq1, hf⟩ := z_ckE hf
    refine ya_16 hC hq1 dX2_spreadInwards_90 ?_
    refine zj_iload 5 hC dX2_spreadInwards_91 rfl ?_
    refine zj_iload 0 hC dX2_spreadInwards_93 rfl ?_
    refine zj_max hC (List.mem_of_getElem? (i := 4) rfl) (List.mem_of_getElem? (i := 5) rfl) (List.mem_of_getElem? (i := 6) rfl) (List.mem_of_getElem? (i := 7) rfl) (Nat.le_of_ble_eq_true rfl) (Nat.le_of_ble_eq_true rfl) dX2_spreadInwards_95 ?_
    refine zj_top (fun y2 ey2 => ?_)
    have hf := z_letE hf ey2
    refine zj_iconst (v := 1) hC dX2_spreadInwards_98 (by decide) ?_
    refine zj_isub hC dX2_spreadInwards_99 ?_
    refine zj_max hC (List.mem_of_getElem? (i := 4) rfl) (List.mem_of_getElem? (i := 5) rfl) (List.mem_of_getElem? (i := 6) rfl) (List.mem_of_getElem? (i := 7) rfl) (Nat.le_of_ble_eq_true rfl) (Nat.le_of_ble_eq_true rfl) dX2_spreadInwards_100 ?_
    refine zj_top (fun y3 ey3 => ?_)
    have hf := z_letE hf ey3
    obtain ⟨hq4, hf⟩ := z_ckE hf
    refine ys_16 hC hq4 dX2_spreadInwards_103 (fun g5 eg5 => ?_)
    have hf := z_letE hf eg5
    refine zj_iinc (lv1 := fun v => [(2, .int v), (5, .int s0), (0, .ref (q 1)), (1, .int x1), (3, .int x3), (4, .int x4)]) 3 hC dX2_spreadInwards_104 rfl (by decide) (fun _ => rfl) (fun y6 ey6 => ?_)
    have hf := z_letE hf (show y6 = x2 + (-1) from ey6)
    refine zj_goto 18 hC dX2_spreadInwards_107 (by decide) ?_
    exact zj_sub hC [2, 3, 0] rfl (hk18 (x1, y6, g5) hf)
  have hJ51 : ∀ (k18 : Int32 × Int32 × z_G → Option (Int32 × z_G)) (_ : ∀ w : Int32 × Int32 × z_G, k18 w = some (r, g') → J 18 [(0, .ref (q 1)), (1, .int w.1), (2, .int w.2.1)] [] w.2.2) (s0 : Int32) (x1 : Int32) (x2 : Int32) (x3 : Int32) (g : z_G), fY_X2_spreadInwards_51 k18 s0 x1 x2 x3 g = some (r, g') → J 51 [(0, .ref (q 1)), (1, .int x1), (2, .int x2), (3, .int x3)] [.int s0] g := by
    intro k18 hk18 s0 x1 x2 x3 g hf
    unfold fY_X2_spreadInwards_51 at hf
    refine zj_istore (lv1 := [(4, .int s0), (0, .ref (q 1)), (1, .int x1), (2, .int x2), (3, .int x3)]) hC dX2_spreadInwards_51 (by decide) rfl ?_
    refine zj_iload_n 2 hC dX2_spreadInwards_53 rfl ?_
    refine zj_aload_n 1 hC dX2_spreadInwards_54 rfl ?_
    refine yg_1_0 hC hX2 (List.mem_of_getElem? (i := 1) rfl) dX2_spreadInwards_55 ?_
    refine zj_iconst (v := 1) hC dX2_spreadInwards_58 (by decide) ?_
    refine zj_isub hC dX2_spreadInwards_59 ?_
    refine zj_icmp_ge 77 hC dX2_spreadInwards_60 (by decide) (fun c7 => ?_) (fun c7 => ?_)
    · have hf := z_iteT hf c7
      refine zj_iconst (v := 0) hC dX2_spreadInwards_77 (by decide) ?_
      exact zj_sub hC [1, 2, 3, 4, 0] rfl (hJ78 k18 hk18 0 x1 x2 x3 s0 g hf)
    · have hf := z_iteF hf c7
      refine zj_aload_n 1 hC dX2_spreadInwards_63 rfl ?_
      refine yg_1_13 hC hX2 (List.mem_of_getElem? (i := 3) rfl) dX2_spreadInwards_64 ?_
      refine zj_iload_n 4 hC dX2_spreadInwards_67 rfl ?_
      refine zj_aload_n 1 hC dX2_spreadInwards_68 rfl ?_
      refine yg_1_1 hC hX2 (List.mem_of_getElem? (i := 2) rfl) dX2_spreadInwards_69 ?_
      refine zj_iadd hC dX2_spreadInwards_72 ?_
      obtain ⟨hq8, hf⟩ := z_ckE hf
      refine ya_16 hC hq8 dX2_spreadInwards_73 ?_
      refine zj_goto 78 hC dX2_spreadInwards_74 (by decide) ?_
      exact zj_sub hC [1, 2, 3, 4, 0] rfl (hJ78 k18 hk18 (g 16 (Int32.toNatClampNeg (x3 + (g 1 1)))) x1 x2 x3 s0 g hf)
  have hJ18 : ∀ (k7 : Int32 × z_G → Option (Int32 × z_G)) (_ : ∀ w : Int32 × z_G, k7 w = some (r, g') → J 7 [(0, .ref (q 1)), (1, .int w.1)] [] w.2) (x1 : Int32) (x2 : Int32) (g : z_G), fY_X2_spreadInwards_18_go k7 x1 x2 g = some (r, g') → J 18 [(0, .ref (q 1)), (1, .int x1), (2, .int x2)] [] g := by
    intro k7 hk7 x1 x2 g hf
    refine z_loopE (P := fun w : Int32 × Int32 × z_G => J 18 [(0, .ref (q 1)), (1, .int w.1), (2, .int w.2.1)] [] w.2.2) (fun k18 hk18 w hf => ?_) z_fuel (x1, x2, g) hf
    obtain ⟨x1, x2, g⟩ := w
    have hf : fY_X2_spreadInwards_18 k7 k18 x1 x2 g = some (r, g') := hf
    show J 18 [(0, .ref (q 1)), (1, .int x1), (2, .int x2)] [] g
    unfold fY_X2_spreadInwards_18 at hf
    refine zj_iload_n 2 hC dX2_spreadInwards_18 rfl ?_
    refine zj_if_lt 110 hC dX2_spreadInwards_19 (by decide) (fun c9 => ?_) (fun c9 => ?_)
    · have hf := z_iteT hf c9
      refine zj_iinc (lv1 := fun v => [(1, .int v), (0, .ref (q 1)), (2, .int x2)]) 1 hC dX2_spreadInwards_110 rfl (by decide) (fun _ => rfl) (fun y10 ey10 => ?_)
      have hf := z_letE hf (show y10 = x1 + (-1) from ey10)
      refine zj_goto 7 hC dX2_spreadInwards_113 (by decide) ?_
      exact zj_sub hC [1, 0] rfl (hk7 (y10, g) hf)
    · have hf := z_iteF hf c9
      refine zj_aload_n 0 hC dX2_spreadInwards_22 rfl ?_
      refine zj_iload_n 1 hC dX2_spreadInwards_23 rfl ?_
      refine zj_iload_n 2 hC dX2_spreadInwards_24 rfl ?_
      obtain ⟨r11, g12, hq13, hf⟩ := z_bindE hf
      refine zj_callVi [.int x1, .int x2] hC (cY_X2_at l dC dI ca q tt x1 x2 g r11 g12 hq13) gX2_spreadInwards_X2_at rfl nY_X2_at ⟨Nat.le_of_ble_eq_true rfl, Nat.le_of_ble_eq_true rfl⟩ 1 yo_1 rfl rfl rfl (Nat.le_of_ble_eq_true rfl) dX2_spreadInwards_25 rfl ?_
      refine zj_istore_n (lv1 := [(3, .int r11), (0, .ref (q 1)), (1, .int x1), (2, .int x2)]) hC dX2_spreadInwards_28 (by decide) rfl ?_
      refine zj_iload_n 3 hC dX2_spreadInwards_29 rfl ?_
      refine zj_aload_n 1 hC dX2_spreadInwards_30 rfl ?_
      refine yg_1_1 hC hX2 (List.mem_of_getElem? (i := 2) rfl) dX2_spreadInwards_31 ?_
      refine zj_iconst (v := 1) hC dX2_spreadInwards_34 (by decide) ?_
      refine zj_isub hC dX2_spreadInwards_35 ?_
      refine zj_icmp_ge 50 hC dX2_spreadInwards_36 (by decide) (fun c14 => ?_) (fun c14 => ?_)
      · have hf := z_iteT hf c14
        refine zj_iconst (v := 0) hC dX2_spreadInwards_50 (by decide) ?_
        exact zj_sub hC [1, 2, 3, 0] rfl (hJ51 k18 hk18 0 x1 x2 r11 g12 hf)
      · have hf := z_iteF hf c14
        refine zj_aload_n 1 hC dX2_spreadInwards_39 rfl ?_
        refine yg_1_13 hC hX2 (List.mem_of_getElem? (i := 3) rfl) dX2_spreadInwards_40 ?_
        refine zj_iload_n 0 hC dX2_spreadInwards_43 rfl ?_
        refine zj_iconst (v := 1) hC dX2_spreadInwards_44 (by decide) ?_
        refine zj_iadd hC dX2_spreadInwards_45 ?_
        obtain ⟨hq15, hf⟩ := z_ckE hf
        refine ya_16 hC hq15 dX2_spreadInwards_46 ?_
        refine zj_goto 51 hC dX2_spreadInwards_47 (by decide) ?_
        exact zj_sub hC [1, 2, 3, 0] rfl (hJ51 k18 hk18 (g12 16 (Int32.toNatClampNeg (r11 + 1))) x1 x2 r11 g12 hf)
  have hJ7 : ∀ (x1 : Int32) (g : z_G), fY_X2_spreadInwards_7_go x1 g = some (r, g') → J 7 [(0, .ref (q 1)), (1, .int x1)] [] g := by
    intro x1 g hf
    refine z_loopE (P := fun w : Int32 × z_G => J 7 [(0, .ref (q 1)), (1, .int w.1)] [] w.2) (fun k7 hk7 w hf => ?_) z_fuel (x1, g) hf
    obtain ⟨x1, g⟩ := w
    have hf : fY_X2_spreadInwards_7 k7 x1 g = some (r, g') := hf
    show J 7 [(0, .ref (q 1)), (1, .int x1)] [] g
    unfold fY_X2_spreadInwards_7 at hf
    refine zj_iload_n 1 hC dX2_spreadInwards_7 rfl ?_
    refine zj_if_lt 116 hC dX2_spreadInwards_8 (by decide) (fun c16 => ?_) (fun c16 => ?_)
    · have hf := z_iteT hf c16
      exact zj_vreturn hC hf dX2_spreadInwards_116
    · have hf := z_iteF hf c16
      refine zj_aload_n 0 hC dX2_spreadInwards_11 rfl ?_
      refine yg_1_1 hC hX2 (List.mem_of_getElem? (i := 2) rfl) dX2_spreadInwards_12 ?_
      refine zj_iconst (v := 1) hC dX2_spreadInwards_15 (by decide) ?_
      refine zj_isub hC dX2_spreadInwards_16 ?_
      refine zj_top (fun y17 ey17 => ?_)
      have hf := z_letE hf ey17
      refine zj_istore_n (lv1 := [(2, .int y17), (0, .ref (q 1)), (1, .int x1)]) hC dX2_spreadInwards_17 (by decide) rfl ?_
      exact zj_sub hC [1, 2, 0] rfl (hJ18 k7 hk7 x1 y17 g hf)
  unfold fY_X2_spreadInwards at hf
  refine zj_aload_n 0 hC dX2_spreadInwards_0 rfl ?_
  refine yg_1_0 hC hX2 (List.mem_of_getElem? (i := 1) rfl) dX2_spreadInwards_1 ?_
  refine zj_iconst (v := 1) hC dX2_spreadInwards_4 (by decide) ?_
  refine zj_isub hC dX2_spreadInwards_5 ?_
  refine zj_top (fun y18 ey18 => ?_)
  have hf := z_letE hf ey18
  refine zj_istore_n (lv1 := [(1, .int y18), (0, .ref (q 1))]) hC dX2_spreadInwards_6 (by decide) rfl ?_
  exact zj_sub hC [1, 0] rfl (hJ7 y18 g hf)

def fY_X2_isBare_23 (s0 : Int32) (g : z_G) : Option (Int32 × z_G) := z_bo s0 (some (s0, g))
def fY_X2_isBare_22  (g : z_G) : Option (Int32 × z_G) := fY_X2_isBare_23 0 g
def fY_X2_isBare (a0 : Int32) (g : z_G) : Option (Int32 × z_G) := z_ck a0 64 ((if (g 9 (Int32.toNatClampNeg a0)) = 0 then fY_X2_isBare_22 g else z_ck a0 64 ((if (g 15 (Int32.toNatClampNeg a0)) = 0 then fY_X2_isBare_23 1 g else fY_X2_isBare_22 g))))
theorem nY_X2_isBare : yX2_isBare.cls = RX2 ∧ yX2_isBare.cls ≠ "java/lang/invoke/MethodHandle" ∧ yX2_isBare.cls ≠ "java/lang/invoke/VarHandle" ∧ (parseMethodDescriptor yX2_isBare.desc).map (fun d => d.parameters.length) = some 1 := by decide +kernel
set_option maxRecDepth 100000 in
set_option maxHeartbeats 4000000 in
theorem cY_X2_isBare (l : Launch) (dC : Nat → ClassId) (dI : Nat → Nat → Nat) (ca : Nat → ClassId) (q : Nat → Nat) (tt : Nat → Nat) (a0 : Int32) (g : z_G) (r : Int32) (g' : z_G) (hf : fY_X2_isBare a0 g = some (r, g')) : z_C l yX2_isBare wsX2_isBare { frames := 0, cells := 0, slots := 0, locals := 0 } (dC, dI) (tyY ca) (wY ca q) (zY tt) [.ref (q 1), .int a0] g (some r) g' := by
  refine z_enter (wY_ok ca q) (zY_ok tt) (by decide +kernel) rfl (Nat.le_of_ble_eq_true rfl) (fun J hC => ?_)
  have hC : z_Cx J l cX2_isBare 2 wsX2_isBare RX2 (some .boolean) { frames := 0, cells := 0, slots := 0, locals := 0 } (dC, dI) (tyY ca) (wY ca q) (zY tt) (z_QI (dC, dI) (tyY ca) (wY ca q) (some r) g') z_X0 := hC
  show J 0 [(0, .ref (q 1)), (1, .int a0)] [] g
  have hX2 : ∀ w ∈ wsX20, w ∈ wsX2_isBare := fun _ h => List.mem_cons_of_mem _ (List.mem_append_right _ (h))
  have hJ23 : ∀ (s0 : Int32) (g : z_G), fY_X2_isBare_23 s0 g = some (r, g') → J 23 [] [.int s0] g := by
    intro s0 g hf
    unfold fY_X2_isBare_23 at hf
    exact zj_zreturn hC hf dX2_isBare_23
  have hJ22 : ∀ (g : z_G), fY_X2_isBare_22 g = some (r, g') → J 22 [] [] g := by
    intro g hf
    unfold fY_X2_isBare_22 at hf
    refine zj_iconst (v := 0) hC dX2_isBare_22 (by decide) ?_
    exact (hJ23 0 g hf)
  unfold fY_X2_isBare at hf
  refine zj_aload_n 0 hC dX2_isBare_0 rfl ?_
  refine yg_1_6 hC hX2 (List.mem_of_getElem? (i := 1) rfl) dX2_isBare_1 ?_
  refine zj_iload_n 1 hC dX2_isBare_4 rfl ?_
  obtain ⟨hq1, hf⟩ := z_ckE hf
  refine ya_9 hC hq1 dX2_isBare_5 ?_
  refine zj_if_eq 22 hC dX2_isBare_6 (by decide) (fun c2 => ?_) (fun c2 => ?_)
  · have hf := z_iteT hf c2
    exact zj_sub hC [] rfl (hJ22 g hf)
  · have hf := z_iteF hf c2
    refine zj_aload_n 0 hC dX2_isBare_9 rfl ?_
    refine yg_1_12 hC hX2 (List.mem_of_getElem? (i := 2) rfl) dX2_isBare_10 ?_
    refine zj_iload_n 1 hC dX2_isBare_13 rfl ?_
    obtain ⟨hq3, hf⟩ := z_ckE hf
    refine ya_15 hC hq3 dX2_isBare_14 ?_
    refine zj_if_ne 22 hC dX2_isBare_15 (by decide) (fun c4 => ?_) (fun c4 => ?_)
    · have hf := z_iteF hf c4
      exact zj_sub hC [] rfl (hJ22 g hf)
    · have hf := z_iteT hf c4
      refine zj_iconst (v := 1) hC dX2_isBare_18 (by decide) ?_
      refine zj_goto 23 hC dX2_isBare_19 (by decide) ?_
      exact zj_sub hC [] rfl (hJ23 1 g hf)

def fY_X2_breathe_r2_28 (k2 : Int32 × Int32 × z_G → Option (Int32 × z_G)) (s0 : Int32) (s1 : Int32) (x2 : Int32) (x3 : Int32) (g : z_G) : Option (Int32 × z_G) := z_ck s1 64 (z_let (z_up g 16 (Int32.toNatClampNeg s1) s0) (fun g2 => z_let (x3 + 1) (fun y3 => k2 (x2, y3, g2))))
def fY_X2_breathe_r2_66 (k37 : Int32 × Int32 × z_G → Option (Int32 × z_G)) (x2 : Int32) (x3 : Int32) (g : z_G) : Option (Int32 × z_G) := z_let (x3 + 1) (fun y4 => k37 (x2, y4, g))
def fY_X2_breathe_r2_37 (k37 : Int32 × Int32 × z_G → Option (Int32 × z_G)) (x2 : Int32) (x3 : Int32) (g : z_G) : Option (Int32 × z_G) := (if (g 2 0) ≤ x3 then z_bind (fY_X2_spreadOutwards g) (fun r6 g7 => z_bind (fY_X2_spreadInwards g7) (fun r9 g10 => some (0, g10))) else z_ck x3 12 ((if (g 23 (Int32.toNatClampNeg x3)) = 0 then fY_X2_breathe_r2_66 k37 x2 x3 g else z_ck x3 12 (z_ck (g 22 (Int32.toNatClampNeg x3)) 64 (z_let (z_up g 16 (Int32.toNatClampNeg (g 22 (Int32.toNatClampNeg x3))) x2) (fun g16 => fY_X2_breathe_r2_66 k37 x2 x3 g16))))))
def fY_X2_breathe_r2_37_go (x2 : Int32) (x3 : Int32) (g : z_G) : Option (Int32 × z_G) := z_loop (fun k (w : Int32 × Int32 × z_G) => fY_X2_breathe_r2_37 k w.1 w.2.1 w.2.2) z_fuel (x2, x3, g)
def fY_X2_breathe_r2_2 (k2 : Int32 × Int32 × z_G → Option (Int32 × z_G)) (x2 : Int32) (x3 : Int32) (g : z_G) : Option (Int32 × z_G) := (if (g 1 4) ≤ x3 then fY_X2_breathe_r2_37_go x2 0 g else z_bind (fY_X2_isBare x3 g) (fun r18 g19 => (if r18 = 0 then fY_X2_breathe_r2_28 k2 0 x3 x2 x3 g19 else fY_X2_breathe_r2_28 k2 x2 x3 x2 x3 g19)))
def fY_X2_breathe_r2_2_go (x2 : Int32) (x3 : Int32) (g : z_G) : Option (Int32 × z_G) := z_loop (fun k (w : Int32 × Int32 × z_G) => fY_X2_breathe_r2_2 k w.1 w.2.1 w.2.2) z_fuel (x2, x3, g)
def fY_X2_breathe_r2 (a1 : Int32) (g : z_G) : Option (Int32 × z_G) := fY_X2_breathe_r2_2_go a1 0 g
theorem nY_X2_breathe_r2 : yX2_breathe.cls = RX2 ∧ yX2_breathe.cls ≠ "java/lang/invoke/MethodHandle" ∧ yX2_breathe.cls ≠ "java/lang/invoke/VarHandle" ∧ (parseMethodDescriptor yX2_breathe.desc).map (fun d => d.parameters.length) = some 2 := by decide +kernel
set_option maxRecDepth 100000 in
set_option maxHeartbeats 4000000 in
theorem cY_X2_breathe_r2 (l : Launch) (dC : Nat → ClassId) (dI : Nat → Nat → Nat) (ca : Nat → ClassId) (q : Nat → Nat) (tt : Nat → Nat) (a1 : Int32) (g : z_G) (r : Int32) (g' : z_G) (hf : fY_X2_breathe_r2 a1 g = some (r, g')) : z_C l yX2_breathe wsX2_breathe { frames := 2, cells := 0, slots := 0, locals := 47 } (dC, dI) (tyY ca) (wY ca q) (zY tt) [.ref (q 1), .ref (q 2), .int a1] g none g' := by
  refine z_enter (wY_ok ca q) (zY_ok tt) (by decide +kernel) rfl (Nat.le_of_ble_eq_true rfl) (fun J hC => ?_)
  have hC : z_Cx J l cX2_breathe 4 wsX2_breathe RX2 none { frames := 2, cells := 0, slots := 0, locals := 47 } (dC, dI) (tyY ca) (wY ca q) (zY tt) (z_QI (dC, dI) (tyY ca) (wY ca q) none g') z_X0 := hC
  show J 0 [(0, .ref (q 1)), (1, .ref (q 2)), (2, .int a1)] [] g
  have hX1 : ∀ w ∈ wsX10, w ∈ wsX2_breathe := fun _ h => List.mem_cons_of_mem _ (List.mem_append_right _ (h))
  have hX2 : ∀ w ∈ wsX20, w ∈ wsX2_breathe := fun _ h => List.mem_cons_of_mem _ (List.mem_append_left _ (List.mem_append_right _ (h)))
  have hJ28 : ∀ (k2 : Int32 × Int32 × z_G → Option (Int32 × z_G)) (_ : ∀ w : Int32 × Int32 × z_G, k2 w = some (r, g') → J 2 [(0, .ref (q 1)), (1, .ref (q 2)), (2, .int w.1), (3, .int w.2.1)] [] w.2.2) (s0 : Int32) (s1 : Int32) (x2 : Int32) (x3 : Int32) (g : z_G), fY_X2_breathe_r2_28 k2 s0 s1 x2 x3 g = some (r, g') → J 28 [(0, .ref (q 1)), (1, .ref (q 2)), (2, .int x2), (3, .int x3)] [.int s0, .int s1, .ref (q 16)] g := by
    intro k2 hk2 s0 s1 x2 x3 g hf
    unfold fY_X2_breathe_r2_28 at hf
    obtain ⟨hq1, hf⟩ := z_ckE hf
    refine ys_16 hC hq1 dX2_breathe_28 (fun g2 eg2 => ?_)
    have hf := z_letE hf eg2
    refine zj_iinc (lv1 := fun v => [(3, .int v), (0, .ref (q 1)), (1, .ref (q 2)), (2, .int x2)]) 3 hC dX2_breathe_29 rfl (by decide) (fun _ => rfl) (fun y3 ey3 => ?_)
    have hf := z_letE hf (show y3 = x3 + 1 from ey3)
    refine zj_goto 2 hC dX2_breathe_32 (by decide) ?_
    exact zj_sub hC [1, 2, 3, 0] rfl (hk2 (x2, y3, g2) hf)
  have hJ66 : ∀ (k37 : Int32 × Int32 × z_G → Option (Int32 × z_G)) (_ : ∀ w : Int32 × Int32 × z_G, k37 w = some (r, g') → J 37 [(0, .ref (q 1)), (1, .ref (q 2)), (2, .int w.1), (3, .int w.2.1)] [] w.2.2) (x2 : Int32) (x3 : Int32) (g : z_G), fY_X2_breathe_r2_66 k37 x2 x3 g = some (r, g') → J 66 [(0, .ref (q 1)), (1, .ref (q 2)), (2, .int x2), (3, .int x3)] [] g := by
    intro k37 hk37 x2 x3 g hf
    unfold fY_X2_breathe_r2_66 at hf
    refine zj_iinc (lv1 := fun v => [(3, .int v), (0, .ref (q 1)), (1, .ref (q 2)), (2, .int x2)]) 3 hC dX2_breathe_66 rfl (by decide) (fun _ => rfl) (fun y4 ey4 => ?_)
    have hf := z_letE hf (show y4 = x3 + 1 from ey4)
    refine zj_goto 37 hC dX2_breathe_69 (by decide) ?_
    exact zj_sub hC [1, 2, 3, 0] rfl (hk37 (x2, y4, g) hf)
  have hJ37 : ∀ (x2 : Int32) (x3 : Int32) (g : z_G), fY_X2_breathe_r2_37_go x2 x3 g = some (r, g') → J 37 [(0, .ref (q 1)), (1, .ref (q 2)), (2, .int x2), (3, .int x3)] [] g := by
    intro x2 x3 g hf
    refine z_loopE (P := fun w : Int32 × Int32 × z_G => J 37 [(0, .ref (q 1)), (1, .ref (q 2)), (2, .int w.1), (3, .int w.2.1)] [] w.2.2) (fun k37 hk37 w hf => ?_) z_fuel (x2, x3, g) hf
    obtain ⟨x2, x3, g⟩ := w
    have hf : fY_X2_breathe_r2_37 k37 x2 x3 g = some (r, g') := hf
    show J 37 [(0, .ref (q 1)), (1, .ref (q 2)), (2, .int x2), (3, .int x3)] [] g
    unfold fY_X2_breathe_r2_37 at hf
    refine zj_iload_n 3 hC dX2_breathe_37 rfl ?_
    refine zj_aload_n 1 hC dX2_breathe_38 rfl ?_
    refine yg_2_0 hC hX1 (List.mem_of_getElem? (i := 3) rfl) dX2_breathe_39 ?_
    refine zj_icmp_ge 72 hC dX2_breathe_42 (by decide) (fun c5 => ?_) (fun c5 => ?_)
    · have hf := z_iteT hf c5
      refine zj_aload_n 0 hC dX2_breathe_72 rfl ?_
      obtain ⟨r6, g7, hq8, hf⟩ := z_bindE hf
      refine zj_callVv [] hC (cY_X2_spreadOutwards l dC dI ca q tt g r6 g7 hq8) gX2_breathe_X2_spreadOutwards rfl nY_X2_spreadOutwards ⟨Nat.le_of_ble_eq_true rfl, Nat.le_of_ble_eq_true rfl⟩ 1 yo_1 rfl rfl rfl (Nat.le_of_ble_eq_true rfl) dX2_breathe_73 rfl ?_
      refine zj_aload_n 0 hC dX2_breathe_76 rfl ?_
      obtain ⟨r9, g10, hq11, hf⟩ := z_bindE hf
      refine zj_callVv [] hC (cY_X2_spreadInwards l dC dI ca q tt g7 r9 g10 hq11) gX2_breathe_X2_spreadInwards rfl nY_X2_spreadInwards ⟨Nat.le_of_ble_eq_true rfl, Nat.le_of_ble_eq_true rfl⟩ 1 yo_1 rfl rfl rfl (Nat.le_of_ble_eq_true rfl) dX2_breathe_77 rfl ?_
      exact zj_vreturn hC hf dX2_breathe_80
    · have hf := z_iteF hf c5
      refine zj_aload_n 1 hC dX2_breathe_45 rfl ?_
      refine yg_2_2 hC hX1 (List.mem_of_getElem? (i := 4) rfl) dX2_breathe_46 ?_
      refine zj_iload_n 3 hC dX2_breathe_49 rfl ?_
      obtain ⟨hq12, hf⟩ := z_ckE hf
      refine ya_23 hC hq12 dX2_breathe_50 ?_
      refine zj_if_eq 66 hC dX2_breathe_51 (by decide) (fun c13 => ?_) (fun c13 => ?_)
      · have hf := z_iteT hf c13
        exact (hJ66 k37 hk37 x2 x3 g hf)
      · have hf := z_iteF hf c13
        refine zj_aload_n 0 hC dX2_breathe_54 rfl ?_
        refine yg_1_13 hC hX2 (List.mem_of_getElem? (i := 2) rfl) dX2_breathe_55 ?_
        refine zj_aload_n 1 hC dX2_breathe_58 rfl ?_
        refine yg_2_1 hC hX1 (List.mem_of_getElem? (i := 5) rfl) dX2_breathe_59 ?_
        refine zj_iload_n 3 hC dX2_breathe_62 rfl ?_
        obtain ⟨hq14, hf⟩ := z_ckE hf
        refine ya_22 hC hq14 dX2_breathe_63 ?_
        refine zj_iload_n 2 hC dX2_breathe_64 rfl ?_
        obtain ⟨hq15, hf⟩ := z_ckE hf
        refine ys_16 hC hq15 dX2_breathe_65 (fun g16 eg16 => ?_)
        have hf := z_letE hf eg16
        exact (hJ66 k37 hk37 x2 x3 g16 hf)
  have hJ2 : ∀ (x2 : Int32) (x3 : Int32) (g : z_G), fY_X2_breathe_r2_2_go x2 x3 g = some (r, g') → J 2 [(0, .ref (q 1)), (1, .ref (q 2)), (2, .int x2), (3, .int x3)] [] g := by
    intro x2 x3 g hf
    refine z_loopE (P := fun w : Int32 × Int32 × z_G => J 2 [(0, .ref (q 1)), (1, .ref (q 2)), (2, .int w.1), (3, .int w.2.1)] [] w.2.2) (fun k2 hk2 w hf => ?_) z_fuel (x2, x3, g) hf
    obtain ⟨x2, x3, g⟩ := w
    have hf : fY_X2_breathe_r2_2 k2 x2 x3 g = some (r, g') := hf
    show J 2 [(0, .ref (q 1)), (1, .ref (q 2)), (2, .int x2), (3, .int x3)] [] g
    unfold fY_X2_breathe_r2_2 at hf
    refine zj_iload_n 3 hC dX2_breathe_2 rfl ?_
    refine zj_aload_n 0 hC dX2_breathe_3 rfl ?_
    refine yg_1_4 hC hX2 (List.mem_of_getElem? (i := 1) rfl) dX2_breathe_4 ?_
    refine zj_icmp_ge 35 hC dX2_breathe_7 (by decide) (fun c17 => ?_) (fun c17 => ?_)
    · have hf := z_iteT hf c17
      refine zj_iconst (v := 0) hC dX2_breathe_35 (by decide) ?_
      refine zj_istore_n (lv1 := [(3, .int 0), (0, .ref (q 1)), (1, .ref (q 2)), (2, .int x2)]) hC dX2_breathe_36 (by decide) rfl ?_
      exact zj_sub hC [1, 2, 3, 0] rfl (hJ37 x2 0 g hf)
    · have hf := z_iteF hf c17
      refine zj_aload_n 0 hC dX2_breathe_10 rfl ?_
      refine yg_1_13 hC hX2 (List.mem_of_getElem? (i := 2) rfl) dX2_breathe_11 ?_
      refine zj_iload_n 3 hC dX2_breathe_14 rfl ?_
      refine zj_aload_n 0 hC dX2_breathe_15 rfl ?_
      refine zj_iload_n 3 hC dX2_breathe_16 rfl ?_
      obtain ⟨r18, g19, hq20, hf⟩ := z_bindE hf
      refine zj_callVi [.int x3] hC (cY_X2_isBare l dC dI ca q tt x3 g r18 g19 hq20) gX2_breathe_X2_isBare rfl nY_X2_isBare ⟨Nat.le_of_ble_eq_true rfl, Nat.le_of_ble_eq_true rfl⟩ 1 yo_1 rfl rfl rfl (Nat.le_of_ble_eq_true rfl) dX2_breathe_17 rfl ?_
      refine zj_if_eq 27 hC dX2_breathe_20 (by decide) (fun c21 => ?_) (fun c21 => ?_)
      · have hf := z_iteT hf c21
        refine zj_iconst (v := 0) hC dX2_breathe_27 (by decide) ?_
        exact (hJ28 k2 hk2 0 x3 x2 x3 g19 hf)
      · have hf := z_iteF hf c21
        refine zj_iload_n 2 hC dX2_breathe_23 rfl ?_
        refine zj_goto 28 hC dX2_breathe_24 (by decide) ?_
        exact (hJ28 k2 hk2 x2 x3 x2 x3 g19 hf)
  unfold fY_X2_breathe_r2 at hf
  refine zj_iconst (v := 0) hC dX2_breathe_0 (by decide) ?_
  refine zj_istore_n (lv1 := [(3, .int 0), (0, .ref (q 1)), (1, .ref (q 2)), (2, .int a1)]) hC dX2_breathe_1 (by decide) rfl ?_
  exact zj_sub hC [1, 2, 3, 0] rfl (hJ2 a1 0 g hf)

def fY_X2_turnToCoal (a0 : Int32) (g : z_G) : Option (Int32 × z_G) := z_ck a0 64 (z_ck a0 64 (z_ck (g 18 (Int32.toNatClampNeg a0)) 4 (z_ck a0 64 (z_ck a0 64 (z_let (if (((kRATE (Int32.toNatClampNeg (g 18 (Int32.toNatClampNeg a0)))) * (g 16 (Int32.toNatClampNeg a0))) * (g 8 (Int32.toNatClampNeg a0))) < (g 10 (Int32.toNatClampNeg a0)) then ((kRATE (Int32.toNatClampNeg (g 18 (Int32.toNatClampNeg a0)))) * (g 16 (Int32.toNatClampNeg a0))) * (g 8 (Int32.toNatClampNeg a0)) else g 10 (Int32.toNatClampNeg a0)) (fun y6 => z_ck a0 64 (z_ck (g 18 (Int32.toNatClampNeg a0)) 4 (z_let ((y6 * (kYIELD (Int32.toNatClampNeg (g 18 (Int32.toNatClampNeg a0))))) / 100) (fun y9 => z_ck a0 64 (z_ck a0 64 (z_let (z_up g 10 (Int32.toNatClampNeg a0) ((g 10 (Int32.toNatClampNeg a0)) - y6)) (fun g12 => z_ck a0 64 (z_ck a0 64 (z_let (z_up g12 11 (Int32.toNatClampNeg a0) ((g12 11 (Int32.toNatClampNeg a0)) + y9)) (fun g15 => z_ck a0 64 (z_ck a0 64 (z_let (if ((g15 13 (Int32.toNatClampNeg a0)) + (40 * (g15 16 (Int32.toNatClampNeg a0)))) < 1000 then (g15 13 (Int32.toNatClampNeg a0)) + (40 * (g15 16 (Int32.toNatClampNeg a0))) else 1000) (fun y18 => z_ck a0 64 (z_let (z_up g15 13 (Int32.toNatClampNeg a0) y18) (fun g20 => some (y6 - y9, g20)))))))))))))))))))))
theorem nY_X2_turnToCoal : yX2_turnToCoal.cls = RX2 ∧ yX2_turnToCoal.cls ≠ "java/lang/invoke/MethodHandle" ∧ yX2_turnToCoal.cls ≠ "java/lang/invoke/VarHandle" ∧ (parseMethodDescriptor yX2_turnToCoal.desc).map (fun d => d.parameters.length) = some 1 := by decide +kernel
set_option maxRecDepth 100000 in
set_option maxHeartbeats 4000000 in
theorem cY_X2_turnToCoal (l : Launch) (dC : Nat → ClassId) (dI : Nat → Nat → Nat) (ca : Nat → ClassId) (q : Nat → Nat) (tt : Nat → Nat) (a0 : Int32) (g : z_G) (r : Int32) (g' : z_G) (hf : fY_X2_turnToCoal a0 g = some (r, g')) : z_C l yX2_turnToCoal wsX2_turnToCoal { frames := 1, cells := 0, slots := 0, locals := 21 } (dC, dI) (tyY ca) (wY ca q) (zY tt) [.ref (q 1), .int a0] g (some r) g' := by
  refine z_enter (wY_ok ca q) (zY_ok tt) (by decide +kernel) rfl (Nat.le_of_ble_eq_true rfl) (fun J hC => ?_)
  have hC : z_Cx J l cX2_turnToCoal 4 wsX2_turnToCoal RX2 (some .int) { frames := 1, cells := 0, slots := 0, locals := 21 } (dC, dI) (tyY ca) (wY ca q) (zY tt) (z_QI (dC, dI) (tyY ca) (wY ca q) (some r) g') z_X0 := hC
  show J 0 [(0, .ref (q 1)), (1, .int a0)] [] g
  have hX2 : ∀ w ∈ wsX20, w ∈ wsX2_turnToCoal := fun _ h => List.mem_cons_of_mem _ (List.mem_append_right _ (h))
  unfold fY_X2_turnToCoal at hf
  refine zj_aload_n 0 hC dX2_turnToCoal_0 rfl ?_
  refine yg_1_7 hC hX2 (List.mem_of_getElem? (i := 1) rfl) dX2_turnToCoal_1 ?_
  refine zj_iload_n 1 hC dX2_turnToCoal_4 rfl ?_
  obtain ⟨hq1, hf⟩ := z_ckE hf
  refine ya_10 hC hq1 dX2_turnToCoal_5 ?_
  refine zj_gets (C := "CharcoalYard$Pile") (v := .ref (tt 1)) hC (fun A U H h => h.2.1.1) (List.mem_of_getElem? (i := 2) rfl) rfl dX2_turnToCoal_6 ?_
  refine zj_aload_n 0 hC dX2_turnToCoal_9 rfl ?_
  refine yg_1_15 hC hX2 (List.mem_of_getElem? (i := 3) rfl) dX2_turnToCoal_10 ?_
  refine zj_iload_n 1 hC dX2_turnToCoal_13 rfl ?_
  obtain ⟨hq2, hf⟩ := z_ckE hf
  refine ya_18 hC hq2 dX2_turnToCoal_14 ?_
  obtain ⟨hq3, hf⟩ := z_ckE hf
  refine zj_ti (f := kRATE) hC (fun A U H h => h.2.1.2) hq3 dX2_turnToCoal_15 ?_
  refine zj_aload_n 0 hC dX2_turnToCoal_16 rfl ?_
  refine yg_1_13 hC hX2 (List.mem_of_getElem? (i := 4) rfl) dX2_turnToCoal_17 ?_
  refine zj_iload_n 1 hC dX2_turnToCoal_20 rfl ?_
  obtain ⟨hq4, hf⟩ := z_ckE hf
  refine ya_16 hC hq4 dX2_turnToCoal_21 ?_
  refine zj_imul hC dX2_turnToCoal_22 ?_
  refine zj_aload_n 0 hC dX2_turnToCoal_23 rfl ?_
  refine yg_1_5 hC hX2 (List.mem_of_getElem? (i := 5) rfl) dX2_turnToCoal_24 ?_
  refine zj_iload_n 1 hC dX2_turnToCoal_27 rfl ?_
  obtain ⟨hq5, hf⟩ := z_ckE hf
  refine ya_8 hC hq5 dX2_turnToCoal_28 ?_
  refine zj_imul hC dX2_turnToCoal_29 ?_
  refine zj_min hC (List.mem_of_getElem? (i := 6) rfl) (List.mem_of_getElem? (i := 7) rfl) (List.mem_of_getElem? (i := 8) rfl) (List.mem_of_getElem? (i := 9) rfl) (Nat.le_of_ble_eq_true rfl) (Nat.le_of_ble_eq_true rfl) dX2_turnToCoal_30 ?_
  refine zj_top (fun y6 ey6 => ?_)
  have hf := z_letE hf ey6
  refine zj_istore_n (lv1 := [(2, .int y6), (0, .ref (q 1)), (1, .int a0)]) hC dX2_turnToCoal_33 (by decide) rfl ?_
  refine zj_iload_n 0 hC dX2_turnToCoal_34 rfl ?_
  refine zj_gets (C := "CharcoalYard$Pile") (v := .ref (tt 2)) hC (fun A U H h => h.2.2.1.1) (List.mem_of_getElem? (i := 10) rfl) rfl dX2_turnToCoal_35 ?_
  refine zj_aload_n 1 hC dX2_turnToCoal_38 rfl ?_
  refine yg_1_15 hC hX2 (List.mem_of_getElem? (i := 3) rfl) dX2_turnToCoal_39 ?_
  refine zj_iload_n 2 hC dX2_turnToCoal_42 rfl ?_
  obtain ⟨hq7, hf⟩ := z_ckE hf
  refine ya_18 hC hq7 dX2_turnToCoal_43 ?_
  obtain ⟨hq8, hf⟩ := z_ckE hf
  refine zj_ti (f := kYIELD) hC (fun A U H h => h.2.2.1.2) hq8 dX2_turnToCoal_44 ?_
  refine zj_imul hC dX2_turnToCoal_45 ?_
  refine zj_bipush (v := 100) hC dX2_turnToCoal_46 (by decide) ?_
  refine zj_idiv hC dX2_turnToCoal_48 (by decide) ?_
  refine zj_top (fun y9 ey9 => ?_)
  have hf := z_letE hf ey9
  refine zj_istore_n (lv1 := [(3, .int y9), (2, .int y6), (0, .ref (q 1)), (1, .int a0)]) hC dX2_turnToCoal_49 (by decide) rfl ?_
  refine zj_aload_n 2 hC dX2_turnToCoal_50 rfl ?_
  refine yg_1_7 hC hX2 (List.mem_of_getElem? (i := 1) rfl) dX2_turnToCoal_51 ?_
  refine zj_iload_n 3 hC dX2_turnToCoal_54 rfl ?_
  refine zj_dup2 hC dX2_turnToCoal_55 rfl rfl ?_
  obtain ⟨hq10, hf⟩ := z_ckE hf
  refine ya_10 hC hq10 dX2_turnToCoal_56 ?_
  refine zj_iload_n 1 hC dX2_turnToCoal_57 rfl ?_
  refine zj_isub hC dX2_turnToCoal_58 ?_
  obtain ⟨hq11, hf⟩ := z_ckE hf
  refine ys_10 hC hq11 dX2_turnToCoal_59 (fun g12 eg12 => ?_)
  have hf := z_letE hf eg12
  refine zj_aload_n 2 hC dX2_turnToCoal_60 rfl ?_
  refine yg_1_8 hC hX2 (List.mem_of_getElem? (i := 11) rfl) dX2_turnToCoal_61 ?_
  refine zj_iload_n 3 hC dX2_turnToCoal_64 rfl ?_
  refine zj_dup2 hC dX2_turnToCoal_65 rfl rfl ?_
  obtain ⟨hq13, hf⟩ := z_ckE hf
  refine ya_11 hC hq13 dX2_turnToCoal_66 ?_
  refine zj_iload_n 0 hC dX2_turnToCoal_67 rfl ?_
  refine zj_iadd hC dX2_turnToCoal_68 ?_
  obtain ⟨hq14, hf⟩ := z_ckE hf
  refine ys_11 hC hq14 dX2_turnToCoal_69 (fun g15 eg15 => ?_)
  have hf := z_letE hf eg15
  refine zj_aload_n 2 hC dX2_turnToCoal_70 rfl ?_
  refine yg_1_10 hC hX2 (List.mem_of_getElem? (i := 12) rfl) dX2_turnToCoal_71 ?_
  refine zj_iload_n 3 hC dX2_turnToCoal_74 rfl ?_
  refine zj_sipush (v := 1000) hC dX2_turnToCoal_75 (by decide) ?_
  refine zj_aload_n 2 hC dX2_turnToCoal_78 rfl ?_
  refine yg_1_10 hC hX2 (List.mem_of_getElem? (i := 12) rfl) dX2_turnToCoal_79 ?_
  refine zj_iload_n 3 hC dX2_turnToCoal_82 rfl ?_
  obtain ⟨hq16, hf⟩ := z_ckE hf
  refine ya_13 hC hq16 dX2_turnToCoal_83 ?_
  refine zj_bipush (v := 40) hC dX2_turnToCoal_84 (by decide) ?_
  refine zj_aload_n 2 hC dX2_turnToCoal_86 rfl ?_
  refine yg_1_13 hC hX2 (List.mem_of_getElem? (i := 4) rfl) dX2_turnToCoal_87 ?_
  refine zj_iload_n 3 hC dX2_turnToCoal_90 rfl ?_
  obtain ⟨hq17, hf⟩ := z_ckE hf
  refine ya_16 hC hq17 dX2_turnToCoal_91 ?_
  refine zj_imul hC dX2_turnToCoal_92 ?_
  refine zj_iadd hC dX2_turnToCoal_93 ?_
  refine zj_min hC (List.mem_of_getElem? (i := 6) rfl) (List.mem_of_getElem? (i := 7) rfl) (List.mem_of_getElem? (i := 8) rfl) (List.mem_of_getElem? (i := 9) rfl) (Nat.le_of_ble_eq_true rfl) (Nat.le_of_ble_eq_true rfl) dX2_turnToCoal_94 ?_
  refine zj_top (fun y18 ey18 => ?_)
  have hf := z_letE hf ey18
  obtain ⟨hq19, hf⟩ := z_ckE hf
  refine ys_13 hC hq19 dX2_turnToCoal_97 (fun g20 eg20 => ?_)
  have hf := z_letE hf eg20
  refine zj_iload_n 1 hC dX2_turnToCoal_98 rfl ?_
  refine zj_iload_n 0 hC dX2_turnToCoal_99 rfl ?_
  refine zj_isub hC dX2_turnToCoal_100 ?_
  exact zj_ireturn hC hf dX2_turnToCoal_101

def fY_X2_turnToAsh_57  (g : z_G) : Option (Int32 × z_G) := some (0, g)
def fY_X2_turnToAsh (a0 : Int32) (g : z_G) : Option (Int32 × z_G) := z_ck a0 64 ((if (g 16 (Int32.toNatClampNeg a0)) ≤ 3 then fY_X2_turnToAsh_57 g else z_ck a0 64 (z_ck a0 64 (z_ck a0 64 (z_let (if ((5 * (g 8 (Int32.toNatClampNeg a0))) * ((g 16 (Int32.toNatClampNeg a0)) - 3)) < (g 11 (Int32.toNatClampNeg a0)) then (5 * (g 8 (Int32.toNatClampNeg a0))) * ((g 16 (Int32.toNatClampNeg a0)) - 3) else g 11 (Int32.toNatClampNeg a0)) (fun y6 => z_ck a0 64 (z_ck a0 64 (z_let (z_up g 11 (Int32.toNatClampNeg a0) ((g 11 (Int32.toNatClampNeg a0)) - y6)) (fun g9 => z_let (z_up g9 1 3 ((g9 1 3) + y6)) (fun g10 => fY_X2_turnToAsh_57 g10))))))))))
theorem nY_X2_turnToAsh : yX2_turnToAsh.cls = RX2 ∧ yX2_turnToAsh.cls ≠ "java/lang/invoke/MethodHandle" ∧ yX2_turnToAsh.cls ≠ "java/lang/invoke/VarHandle" ∧ (parseMethodDescriptor yX2_turnToAsh.desc).map (fun d => d.parameters.length) = some 1 := by decide +kernel
set_option maxRecDepth 100000 in
set_option maxHeartbeats 4000000 in
theorem cY_X2_turnToAsh (l : Launch) (dC : Nat → ClassId) (dI : Nat → Nat → Nat) (ca : Nat → ClassId) (q : Nat → Nat) (tt : Nat → Nat) (a0 : Int32) (g : z_G) (r : Int32) (g' : z_G) (hf : fY_X2_turnToAsh a0 g = some (r, g')) : z_C l yX2_turnToAsh wsX2_turnToAsh { frames := 1, cells := 0, slots := 0, locals := 21 } (dC, dI) (tyY ca) (wY ca q) (zY tt) [.ref (q 1), .int a0] g none g' := by
  refine z_enter (wY_ok ca q) (zY_ok tt) (by decide +kernel) rfl (Nat.le_of_ble_eq_true rfl) (fun J hC => ?_)
  have hC : z_Cx J l cX2_turnToAsh 3 wsX2_turnToAsh RX2 none { frames := 1, cells := 0, slots := 0, locals := 21 } (dC, dI) (tyY ca) (wY ca q) (zY tt) (z_QI (dC, dI) (tyY ca) (wY ca q) none g') z_X0 := hC
  show J 0 [(0, .ref (q 1)), (1, .int a0)] [] g
  have hX2 : ∀ w ∈ wsX20, w ∈ wsX2_turnToAsh := fun _ h => List.mem_cons_of_mem _ (List.mem_append_right _ (h))
  have hJ57 : ∀ (g : z_G), fY_X2_turnToAsh_57 g = some (r, g') → J 57 [] [] g := by
    intro g hf
    unfold fY_X2_turnToAsh_57 at hf
    exact zj_vreturn hC hf dX2_turnToAsh_57
  unfold fY_X2_turnToAsh at hf
  refine zj_aload_n 0 hC dX2_turnToAsh_0 rfl ?_
  refine yg_1_13 hC hX2 (List.mem_of_getElem? (i := 1) rfl) dX2_turnToAsh_1 ?_
  refine zj_iload_n 1 hC dX2_turnToAsh_4 rfl ?_
  obtain ⟨hq1, hf⟩ := z_ckE hf
  refine ya_16 hC hq1 dX2_turnToAsh_5 ?_
  refine zj_iconst (v := 3) hC dX2_turnToAsh_6 (by decide) ?_
  refine zj_icmp_le 57 hC dX2_turnToAsh_7 (by decide) (fun c2 => ?_) (fun c2 => ?_)
  · have hf := z_iteT hf c2
    exact zj_sub hC [] rfl (hJ57 g hf)
  · have hf := z_iteF hf c2
    refine zj_aload_n 0 hC dX2_turnToAsh_10 rfl ?_
    refine yg_1_8 hC hX2 (List.mem_of_getElem? (i := 2) rfl) dX2_turnToAsh_11 ?_
    refine zj_iload_n 1 hC dX2_turnToAsh_14 rfl ?_
    obtain ⟨hq3, hf⟩ := z_ckE hf
    refine ya_11 hC hq3 dX2_turnToAsh_15 ?_
    refine zj_iconst (v := 5) hC dX2_turnToAsh_16 (by decide) ?_
    refine zj_aload_n 0 hC dX2_turnToAsh_17 rfl ?_
    refine yg_1_5 hC hX2 (List.mem_of_getElem? (i := 3) rfl) dX2_turnToAsh_18 ?_
    refine zj_iload_n 1 hC dX2_turnToAsh_21 rfl ?_
    obtain ⟨hq4, hf⟩ := z_ckE hf
    refine ya_8 hC hq4 dX2_turnToAsh_22 ?_
    refine zj_imul hC dX2_turnToAsh_23 ?_
    refine zj_aload_n 0 hC dX2_turnToAsh_24 rfl ?_
    refine yg_1_13 hC hX2 (List.mem_of_getElem? (i := 1) rfl) dX2_turnToAsh_25 ?_
    refine zj_iload_n 1 hC dX2_turnToAsh_28 rfl ?_
    obtain ⟨hq5, hf⟩ := z_ckE hf
    refine ya_16 hC hq5 dX2_turnToAsh_29 ?_
    refine zj_iconst (v := 3) hC dX2_turnToAsh_30 (by decide) ?_
    refine zj_isub hC dX2_turnToAsh_31 ?_
    refine zj_imul hC dX2_turnToAsh_32 ?_
    refine zj_min hC (List.mem_of_getElem? (i := 4) rfl) (List.mem_of_getElem? (i := 5) rfl) (List.mem_of_getElem? (i := 6) rfl) (List.mem_of_getElem? (i := 7) rfl) (Nat.le_of_ble_eq_true rfl) (Nat.le_of_ble_eq_true rfl) dX2_turnToAsh_33 ?_
    refine zj_top (fun y6 ey6 => ?_)
    have hf := z_letE hf ey6
    refine zj_istore_n (lv1 := [(2, .int y6), (0, .ref (q 1)), (1, .int a0)]) hC dX2_turnToAsh_36 (by decide) rfl ?_
    refine zj_aload_n 1 hC dX2_turnToAsh_37 rfl ?_
    refine yg_1_8 hC hX2 (List.mem_of_getElem? (i := 2) rfl) dX2_turnToAsh_38 ?_
    refine zj_iload_n 2 hC dX2_turnToAsh_41 rfl ?_
    refine zj_dup2 hC dX2_turnToAsh_42 rfl rfl ?_
    obtain ⟨hq7, hf⟩ := z_ckE hf
    refine ya_11 hC hq7 dX2_turnToAsh_43 ?_
    refine zj_iload_n 0 hC dX2_turnToAsh_44 rfl ?_
    refine zj_isub hC dX2_turnToAsh_45 ?_
    obtain ⟨hq8, hf⟩ := z_ckE hf
    refine ys_11 hC hq8 dX2_turnToAsh_46 (fun g9 eg9 => ?_)
    have hf := z_letE hf eg9
    refine zj_aload_n 1 hC dX2_turnToAsh_47 rfl ?_
    refine zj_dup hC dX2_turnToAsh_48 rfl ?_
    refine yg_1_3 hC hX2 (List.mem_of_getElem? (i := 8) rfl) dX2_turnToAsh_49 ?_
    refine zj_iload_n 0 hC dX2_turnToAsh_52 rfl ?_
    refine zj_iadd hC dX2_turnToAsh_53 ?_
    refine yp_1_3 hC hX2 (List.mem_of_getElem? (i := 8) rfl) dX2_turnToAsh_54 (fun g10 eg10 => ?_)
    have hf := z_letE hf eg10
    exact zj_sub hC [] rfl (hJ57 g10 hf)

def fY_X2_burnCell_116 (x2 : Int32) (g : z_G) : Option (Int32 × z_G) := some (x2, g)
def fY_X2_burnCell_109 (x1 : Int32) (x2 : Int32) (g : z_G) : Option (Int32 × z_G) := z_ck x1 64 (z_let (z_up g 14 (Int32.toNatClampNeg x1) 0) (fun g2 => fY_X2_burnCell_116 x2 g2))
def fY_X2_burnCell_82 (x1 : Int32) (x2 : Int32) (g : z_G) : Option (Int32 × z_G) := z_ck x1 64 ((if (g 13 (Int32.toNatClampNeg x1)) = 0 then fY_X2_burnCell_109 x1 x2 g else z_ck x1 64 ((if (g 10 (Int32.toNatClampNeg x1)) = 0 then z_ck x1 64 ((if (g 11 (Int32.toNatClampNeg x1)) = 0 then fY_X2_burnCell_109 x1 x2 g else fY_X2_burnCell_116 x2 g)) else fY_X2_burnCell_116 x2 g))))
def fY_X2_burnCell (a0 : Int32) (g : z_G) : Option (Int32 × z_G) := z_ck a0 64 ((if (g 16 (Int32.toNatClampNeg a0)) = 0 then z_ck a0 64 (z_let (if 0 < ((g 13 (Int32.toNatClampNeg a0)) - 50) then (g 13 (Int32.toNatClampNeg a0)) - 50 else 0) (fun y25 => z_ck a0 64 (z_let (z_up g 13 (Int32.toNatClampNeg a0) y25) (fun g27 => fY_X2_burnCell_82 a0 0 g27)))) else z_ck a0 64 ((if (g 12 (Int32.toNatClampNeg a0)) ≤ 0 then z_bind (fY_X2_turnToCoal a0 g) (fun r13 g14 => z_bind (fY_X2_turnToAsh a0 g14) (fun r16 g17 => fY_X2_burnCell_82 a0 r13 g17)) else z_ck a0 64 (z_ck a0 64 (z_let (if 0 < ((g 12 (Int32.toNatClampNeg a0)) - (10 * (g 16 (Int32.toNatClampNeg a0)))) then (g 12 (Int32.toNatClampNeg a0)) - (10 * (g 16 (Int32.toNatClampNeg a0))) else 0) (fun y21 => z_ck a0 64 (z_let (z_up g 12 (Int32.toNatClampNeg a0) y21) (fun g23 => fY_X2_burnCell_82 a0 0 g23)))))))))
theorem nY_X2_burnCell : yX2_burnCell.cls = RX2 ∧ yX2_burnCell.cls ≠ "java/lang/invoke/MethodHandle" ∧ yX2_burnCell.cls ≠ "java/lang/invoke/VarHandle" ∧ (parseMethodDescriptor yX2_burnCell.desc).map (fun d => d.parameters.length) = some 1 := by decide +kernel
set_option maxRecDepth 100000 in
set_option maxHeartbeats 4000000 in
theorem cY_X2_burnCell (l : Launch) (dC : Nat → ClassId) (dI : Nat → Nat → Nat) (ca : Nat → ClassId) (q : Nat → Nat) (tt : Nat → Nat) (a0 : Int32) (g : z_G) (r : Int32) (g' : z_G) (hf : fY_X2_burnCell a0 g = some (r, g')) : z_C l yX2_burnCell wsX2_burnCell { frames := 2, cells := 0, slots := 0, locals := 44 } (dC, dI) (tyY ca) (wY ca q) (zY tt) [.ref (q 1), .int a0] g (some r) g' := by
  refine z_enter (wY_ok ca q) (zY_ok tt) (by decide +kernel) rfl (Nat.le_of_ble_eq_true rfl) (fun J hC => ?_)
  have hC : z_Cx J l cX2_burnCell 3 wsX2_burnCell RX2 (some .int) { frames := 2, cells := 0, slots := 0, locals := 44 } (dC, dI) (tyY ca) (wY ca q) (zY tt) (z_QI (dC, dI) (tyY ca) (wY ca q) (some r) g') z_X0 := hC
  show J 0 [(0, .ref (q 1)), (1, .int a0)] [] g
  have hX2 : ∀ w ∈ wsX20, w ∈ wsX2_burnCell := fun _ h => List.mem_cons_of_mem _ (List.mem_append_right _ (h))
  have hJ116 : ∀ (x2 : Int32) (g : z_G), fY_X2_burnCell_116 x2 g = some (r, g') → J 116 [(2, .int x2)] [] g := by
    intro x2 g hf
    unfold fY_X2_burnCell_116 at hf
    refine zj_iload_n 0 hC dX2_burnCell_116 rfl ?_
    exact zj_ireturn hC hf dX2_burnCell_117
  have hJ109 : ∀ (x1 : Int32) (x2 : Int32) (g : z_G), fY_X2_burnCell_109 x1 x2 g = some (r, g') → J 109 [(0, .ref (q 1)), (1, .int x1), (2, .int x2)] [] g := by
    intro x1 x2 g hf
    unfold fY_X2_burnCell_109 at hf
    refine zj_aload_n 0 hC dX2_burnCell_109 rfl ?_
    refine yg_1_11 hC hX2 (List.mem_of_getElem? (i := 10) rfl) dX2_burnCell_110 ?_
    refine zj_iload_n 1 hC dX2_burnCell_113 rfl ?_
    refine zj_iconst (v := 0) hC dX2_burnCell_114 (by decide) ?_
    obtain ⟨hq1, hf⟩ := z_ckE hf
    refine ys_14 hC hq1 dX2_burnCell_115 (fun g2 eg2 => ?_)
    have hf := z_letE hf eg2
    exact zj_sub hC [2] rfl (hJ116 x2 g2 hf)
  have hJ82 : ∀ (x1 : Int32) (x2 : Int32) (g : z_G), fY_X2_burnCell_82 x1 x2 g = some (r, g') → J 82 [(0, .ref (q 1)), (1, .int x1), (2, .int x2)] [] g := by
    intro x1 x2 g hf
    unfold fY_X2_burnCell_82 at hf
    refine zj_aload_n 0 hC dX2_burnCell_82 rfl ?_
    refine yg_1_10 hC hX2 (List.mem_of_getElem? (i := 2) rfl) dX2_burnCell_83 ?_
    refine zj_iload_n 1 hC dX2_burnCell_86 rfl ?_
    obtain ⟨hq3, hf⟩ := z_ckE hf
    refine ya_13 hC hq3 dX2_burnCell_87 ?_
    refine zj_if_eq 109 hC dX2_burnCell_88 (by decide) (fun c4 => ?_) (fun c4 => ?_)
    · have hf := z_iteT hf c4
      exact (hJ109 x1 x2 g hf)
    · have hf := z_iteF hf c4
      refine zj_aload_n 0 hC dX2_burnCell_91 rfl ?_
      refine yg_1_7 hC hX2 (List.mem_of_getElem? (i := 8) rfl) dX2_burnCell_92 ?_
      refine zj_iload_n 1 hC dX2_burnCell_95 rfl ?_
      obtain ⟨hq5, hf⟩ := z_ckE hf
      refine ya_10 hC hq5 dX2_burnCell_96 ?_
      refine zj_if_ne 116 hC dX2_burnCell_97 (by decide) (fun c6 => ?_) (fun c6 => ?_)
      · have hf := z_iteF hf c6
        exact zj_sub hC [2] rfl (hJ116 x2 g hf)
      · have hf := z_iteT hf c6
        refine zj_aload_n 0 hC dX2_burnCell_100 rfl ?_
        refine yg_1_8 hC hX2 (List.mem_of_getElem? (i := 9) rfl) dX2_burnCell_101 ?_
        refine zj_iload_n 1 hC dX2_burnCell_104 rfl ?_
        obtain ⟨hq7, hf⟩ := z_ckE hf
        refine ya_11 hC hq7 dX2_burnCell_105 ?_
        refine zj_if_ne 116 hC dX2_burnCell_106 (by decide) (fun c8 => ?_) (fun c8 => ?_)
        · have hf := z_iteF hf c8
          exact zj_sub hC [2] rfl (hJ116 x2 g hf)
        · have hf := z_iteT hf c8
          exact (hJ109 x1 x2 g hf)
  unfold fY_X2_burnCell at hf
  refine zj_iconst (v := 0) hC dX2_burnCell_0 (by decide) ?_
  refine zj_istore_n (lv1 := [(2, .int 0), (0, .ref (q 1)), (1, .int a0)]) hC dX2_burnCell_1 (by decide) rfl ?_
  refine zj_aload_n 1 hC dX2_burnCell_2 rfl ?_
  refine yg_1_13 hC hX2 (List.mem_of_getElem? (i := 1) rfl) dX2_burnCell_3 ?_
  refine zj_iload_n 2 hC dX2_burnCell_6 rfl ?_
  obtain ⟨hq9, hf⟩ := z_ckE hf
  refine ya_16 hC hq9 dX2_burnCell_7 ?_
  refine zj_if_ne 33 hC dX2_burnCell_8 (by decide) (fun c10 => ?_) (fun c10 => ?_)
  · have hf := z_iteF hf c10
    refine zj_aload_n 1 hC dX2_burnCell_33 rfl ?_
    refine yg_1_9 hC hX2 (List.mem_of_getElem? (i := 7) rfl) dX2_burnCell_34 ?_
    refine zj_iload_n 2 hC dX2_burnCell_37 rfl ?_
    obtain ⟨hq11, hf⟩ := z_ckE hf
    refine ya_12 hC hq11 dX2_burnCell_38 ?_
    refine zj_if_le 71 hC dX2_burnCell_39 (by decide) (fun c12 => ?_) (fun c12 => ?_)
    · have hf := z_iteT hf c12
      refine zj_aload_n 1 hC dX2_burnCell_71 rfl ?_
      refine zj_iload_n 2 hC dX2_burnCell_72 rfl ?_
      obtain ⟨r13, g14, hq15, hf⟩ := z_bindE hf
      refine zj_callVi [.int a0] hC (cY_X2_turnToCoal l dC dI ca q tt a0 g r13 g14 hq15) gX2_burnCell_X2_turnToCoal rfl nY_X2_turnToCoal ⟨Nat.le_of_ble_eq_true rfl, Nat.le_of_ble_eq_true rfl⟩ 1 yo_1 rfl rfl rfl (Nat.le_of_ble_eq_true rfl) dX2_burnCell_73 rfl ?_
      refine zj_istore_n (lv1 := [(2, .int r13), (0, .ref (q 1)), (1, .int a0)]) hC dX2_burnCell_76 (by decide) rfl ?_
      refine zj_aload_n 1 hC dX2_burnCell_77 rfl ?_
      refine zj_iload_n 2 hC dX2_burnCell_78 rfl ?_
      obtain ⟨r16, g17, hq18, hf⟩ := z_bindE hf
      refine zj_callVv [.int a0] hC (cY_X2_turnToAsh l dC dI ca q tt a0 g14 r16 g17 hq18) gX2_burnCell_X2_turnToAsh rfl nY_X2_turnToAsh ⟨Nat.le_of_ble_eq_true rfl, Nat.le_of_ble_eq_true rfl⟩ 1 yo_1 rfl rfl rfl (Nat.le_of_ble_eq_true rfl) dX2_burnCell_79 rfl ?_
      exact zj_sub hC [1, 2, 0] rfl (hJ82 a0 r13 g17 hf)
    · have hf := z_iteF hf c12
      refine zj_aload_n 1 hC dX2_burnCell_42 rfl ?_
      refine yg_1_9 hC hX2 (List.mem_of_getElem? (i := 7) rfl) dX2_burnCell_43 ?_
      refine zj_iload_n 2 hC dX2_burnCell_46 rfl ?_
      refine zj_iconst (v := 0) hC dX2_burnCell_47 (by decide) ?_
      refine zj_aload_n 1 hC dX2_burnCell_48 rfl ?_
      refine yg_1_9 hC hX2 (List.mem_of_getElem? (i := 7) rfl) dX2_burnCell_49 ?_
      refine zj_iload_n 2 hC dX2_burnCell_52 rfl ?_
      obtain ⟨hq19, hf⟩ := z_ckE hf
      refine ya_12 hC hq19 dX2_burnCell_53 ?_
      refine zj_bipush (v := 10) hC dX2_burnCell_54 (by decide) ?_
      refine zj_aload_n 1 hC dX2_burnCell_56 rfl ?_
      refine yg_1_13 hC hX2 (List.mem_of_getElem? (i := 1) rfl) dX2_burnCell_57 ?_
      refine zj_iload_n 2 hC dX2_burnCell_60 rfl ?_
      obtain ⟨hq20, hf⟩ := z_ckE hf
      refine ya_16 hC hq20 dX2_burnCell_61 ?_
      refine zj_imul hC dX2_burnCell_62 ?_
      refine zj_isub hC dX2_burnCell_63 ?_
      refine zj_max hC (List.mem_of_getElem? (i := 3) rfl) (List.mem_of_getElem? (i := 4) rfl) (List.mem_of_getElem? (i := 5) rfl) (List.mem_of_getElem? (i := 6) rfl) (Nat.le_of_ble_eq_true rfl) (Nat.le_of_ble_eq_true rfl) dX2_burnCell_64 ?_
      refine zj_top (fun y21 ey21 => ?_)
      have hf := z_letE hf ey21
      obtain ⟨hq22, hf⟩ := z_ckE hf
      refine ys_12 hC hq22 dX2_burnCell_67 (fun g23 eg23 => ?_)
      have hf := z_letE hf eg23
      refine zj_goto 82 hC dX2_burnCell_68 (by decide) ?_
      exact zj_sub hC [1, 2, 0] rfl (hJ82 a0 0 g23 hf)
  · have hf := z_iteT hf c10
    refine zj_aload_n 1 hC dX2_burnCell_11 rfl ?_
    refine yg_1_10 hC hX2 (List.mem_of_getElem? (i := 2) rfl) dX2_burnCell_12 ?_
    refine zj_iload_n 2 hC dX2_burnCell_15 rfl ?_
    refine zj_iconst (v := 0) hC dX2_burnCell_16 (by decide) ?_
    refine zj_aload_n 1 hC dX2_burnCell_17 rfl ?_
    refine yg_1_10 hC hX2 (List.mem_of_getElem? (i := 2) rfl) dX2_burnCell_18 ?_
    refine zj_iload_n 2 hC dX2_burnCell_21 rfl ?_
    obtain ⟨hq24, hf⟩ := z_ckE hf
    refine ya_13 hC hq24 dX2_burnCell_22 ?_
    refine zj_bipush (v := 50) hC dX2_burnCell_23 (by decide) ?_
    refine zj_isub hC dX2_burnCell_25 ?_
    refine zj_max hC (List.mem_of_getElem? (i := 3) rfl) (List.mem_of_getElem? (i := 4) rfl) (List.mem_of_getElem? (i := 5) rfl) (List.mem_of_getElem? (i := 6) rfl) (Nat.le_of_ble_eq_true rfl) (Nat.le_of_ble_eq_true rfl) dX2_burnCell_26 ?_
    refine zj_top (fun y25 ey25 => ?_)
    have hf := z_letE hf ey25
    obtain ⟨hq26, hf⟩ := z_ckE hf
    refine ys_13 hC hq26 dX2_burnCell_29 (fun g27 eg27 => ?_)
    have hf := z_letE hf eg27
    refine zj_goto 82 hC dX2_burnCell_30 (by decide) ?_
    exact zj_sub hC [1, 2, 0] rfl (hJ82 a0 0 g27 hf)

def fY_X2_burn_49 (k4 : Int32 × Int32 × z_G → Option (Int32 × z_G)) (x1 : Int32) (x2 : Int32) (g : z_G) : Option (Int32 × z_G) := z_let (x2 + 1) (fun y1 => k4 (x1, y1, g))
def fY_X2_burn_4 (k4 : Int32 × Int32 × z_G → Option (Int32 × z_G)) (x1 : Int32) (x2 : Int32) (g : z_G) : Option (Int32 × z_G) := (if (g 1 4) ≤ x2 then z_let (z_up g 1 2 ((g 1 2) + x1)) (fun g3 => some (x1, g3)) else z_ck x2 64 (z_let (z_up g 21 (Int32.toNatClampNeg x2) 0) (fun g5 => z_ck x2 64 ((if (g5 14 (Int32.toNatClampNeg x2)) = 1 then z_ck x2 64 (z_ck x2 64 (z_let (z_up g5 21 (Int32.toNatClampNeg x2) (g5 13 (Int32.toNatClampNeg x2))) (fun g10 => z_bind (fY_X2_burnCell x2 g10) (fun r11 g12 => z_let (x1 + r11) (fun y14 => fY_X2_burn_49 k4 y14 x2 g12))))) else fY_X2_burn_49 k4 x1 x2 g5)))))
def fY_X2_burn_4_go (x1 : Int32) (x2 : Int32) (g : z_G) : Option (Int32 × z_G) := z_loop (fun k (w : Int32 × Int32 × z_G) => fY_X2_burn_4 k w.1 w.2.1 w.2.2) z_fuel (x1, x2, g)
def fY_X2_burn (g : z_G) : Option (Int32 × z_G) := fY_X2_burn_4_go 0 0 g
theorem nY_X2_burn : yX2_burn.cls = RX2 ∧ yX2_burn.cls ≠ "java/lang/invoke/MethodHandle" ∧ yX2_burn.cls ≠ "java/lang/invoke/VarHandle" ∧ (parseMethodDescriptor yX2_burn.desc).map (fun d => d.parameters.length) = some 0 := by decide +kernel
set_option maxRecDepth 100000 in
set_option maxHeartbeats 4000000 in
theorem cY_X2_burn (l : Launch) (dC : Nat → ClassId) (dI : Nat → Nat → Nat) (ca : Nat → ClassId) (q : Nat → Nat) (tt : Nat → Nat) (g : z_G) (r : Int32) (g' : z_G) (hf : fY_X2_burn g = some (r, g')) : z_C l yX2_burn wsX2_burn { frames := 3, cells := 0, slots := 0, locals := 66 } (dC, dI) (tyY ca) (wY ca q) (zY tt) [.ref (q 1)] g (some r) g' := by
  refine z_enter (wY_ok ca q) (zY_ok tt) (by decide +kernel) rfl (Nat.le_of_ble_eq_true rfl) (fun J hC => ?_)
  have hC : z_Cx J l cX2_burn 3 wsX2_burn RX2 (some .int) { frames := 3, cells := 0, slots := 0, locals := 66 } (dC, dI) (tyY ca) (wY ca q) (zY tt) (z_QI (dC, dI) (tyY ca) (wY ca q) (some r) g') z_X0 := hC
  show J 0 [(0, .ref (q 1))] [] g
  have hX2 : ∀ w ∈ wsX20, w ∈ wsX2_burn := fun _ h => List.mem_cons_of_mem _ (List.mem_append_right _ (h))
  have hJ49 : ∀ (k4 : Int32 × Int32 × z_G → Option (Int32 × z_G)) (_ : ∀ w : Int32 × Int32 × z_G, k4 w = some (r, g') → J 4 [(0, .ref (q 1)), (1, .int w.1), (2, .int w.2.1)] [] w.2.2) (x1 : Int32) (x2 : Int32) (g : z_G), fY_X2_burn_49 k4 x1 x2 g = some (r, g') → J 49 [(0, .ref (q 1)), (1, .int x1), (2, .int x2)] [] g := by
    intro k4 hk4 x1 x2 g hf
    unfold fY_X2_burn_49 at hf
    refine zj_iinc (lv1 := fun v => [(2, .int v), (0, .ref (q 1)), (1, .int x1)]) 2 hC dX2_burn_49 rfl (by decide) (fun _ => rfl) (fun y1 ey1 => ?_)
    have hf := z_letE hf (show y1 = x2 + 1 from ey1)
    refine zj_goto 4 hC dX2_burn_52 (by decide) ?_
    exact zj_sub hC [1, 2, 0] rfl (hk4 (x1, y1, g) hf)
  have hJ4 : ∀ (x1 : Int32) (x2 : Int32) (g : z_G), fY_X2_burn_4_go x1 x2 g = some (r, g') → J 4 [(0, .ref (q 1)), (1, .int x1), (2, .int x2)] [] g := by
    intro x1 x2 g hf
    refine z_loopE (P := fun w : Int32 × Int32 × z_G => J 4 [(0, .ref (q 1)), (1, .int w.1), (2, .int w.2.1)] [] w.2.2) (fun k4 hk4 w hf => ?_) z_fuel (x1, x2, g) hf
    obtain ⟨x1, x2, g⟩ := w
    have hf : fY_X2_burn_4 k4 x1 x2 g = some (r, g') := hf
    show J 4 [(0, .ref (q 1)), (1, .int x1), (2, .int x2)] [] g
    unfold fY_X2_burn_4 at hf
    refine zj_iload_n 2 hC dX2_burn_4 rfl ?_
    refine zj_aload_n 0 hC dX2_burn_5 rfl ?_
    refine yg_1_4 hC hX2 (List.mem_of_getElem? (i := 1) rfl) dX2_burn_6 ?_
    refine zj_icmp_ge 55 hC dX2_burn_9 (by decide) (fun c2 => ?_) (fun c2 => ?_)
    · have hf := z_iteT hf c2
      refine zj_aload_n 0 hC dX2_burn_55 rfl ?_
      refine zj_dup hC dX2_burn_56 rfl ?_
      refine yg_1_2 hC hX2 (List.mem_of_getElem? (i := 5) rfl) dX2_burn_57 ?_
      refine zj_iload_n 1 hC dX2_burn_60 rfl ?_
      refine zj_iadd hC dX2_burn_61 ?_
      refine yp_1_2 hC hX2 (List.mem_of_getElem? (i := 5) rfl) dX2_burn_62 (fun g3 eg3 => ?_)
      have hf := z_letE hf eg3
      refine zj_iload_n 1 hC dX2_burn_65 rfl ?_
      exact zj_ireturn hC hf dX2_burn_66
    · have hf := z_iteF hf c2
      refine zj_aload_n 0 hC dX2_burn_12 rfl ?_
      refine yg_1_18 hC hX2 (List.mem_of_getElem? (i := 2) rfl) dX2_burn_13 ?_
      refine zj_iload_n 2 hC dX2_burn_16 rfl ?_
      refine zj_iconst (v := 0) hC dX2_burn_17 (by decide) ?_
      obtain ⟨hq4, hf⟩ := z_ckE hf
      refine ys_21 hC hq4 dX2_burn_18 (fun g5 eg5 => ?_)
      have hf := z_letE hf eg5
      refine zj_aload_n 0 hC dX2_burn_19 rfl ?_
      refine yg_1_11 hC hX2 (List.mem_of_getElem? (i := 3) rfl) dX2_burn_20 ?_
      refine zj_iload_n 2 hC dX2_burn_23 rfl ?_
      obtain ⟨hq6, hf⟩ := z_ckE hf
      refine ya_14 hC hq6 dX2_burn_24 ?_
      refine zj_iconst (v := 1) hC dX2_burn_25 (by decide) ?_
      refine zj_icmp_ne 49 hC dX2_burn_26 (by decide) (fun c7 => ?_) (fun c7 => ?_)
      · have hf := z_iteF hf c7
        exact (hJ49 k4 hk4 x1 x2 g5 hf)
      · have hf := z_iteT hf c7
        refine zj_aload_n 0 hC dX2_burn_29 rfl ?_
        refine yg_1_18 hC hX2 (List.mem_of_getElem? (i := 2) rfl) dX2_burn_30 ?_
        refine zj_iload_n 2 hC dX2_burn_33 rfl ?_
        refine zj_aload_n 0 hC dX2_burn_34 rfl ?_
        refine yg_1_10 hC hX2 (List.mem_of_getElem? (i := 4) rfl) dX2_burn_35 ?_
        refine zj_iload_n 2 hC dX2_burn_38 rfl ?_
        obtain ⟨hq8, hf⟩ := z_ckE hf
        refine ya_13 hC hq8 dX2_burn_39 ?_
        obtain ⟨hq9, hf⟩ := z_ckE hf
        refine ys_21 hC hq9 dX2_burn_40 (fun g10 eg10 => ?_)
        have hf := z_letE hf eg10
        refine zj_iload_n 1 hC dX2_burn_41 rfl ?_
        refine zj_aload_n 0 hC dX2_burn_42 rfl ?_
        refine zj_iload_n 2 hC dX2_burn_43 rfl ?_
        obtain ⟨r11, g12, hq13, hf⟩ := z_bindE hf
        refine zj_callVi [.int x2] hC (cY_X2_burnCell l dC dI ca q tt x2 g10 r11 g12 hq13) gX2_burn_X2_burnCell rfl nY_X2_burnCell ⟨Nat.le_of_ble_eq_true rfl, Nat.le_of_ble_eq_true rfl⟩ 1 yo_1 rfl rfl rfl (Nat.le_of_ble_eq_true rfl) dX2_burn_44 rfl ?_
        refine zj_iadd hC dX2_burn_47 ?_
        refine zj_top (fun y14 ey14 => ?_)
        have hf := z_letE hf ey14
        refine zj_istore_n (lv1 := [(1, .int y14), (0, .ref (q 1)), (2, .int x2)]) hC dX2_burn_48 (by decide) rfl ?_
        exact zj_sub hC [1, 0, 2] rfl (hJ49 k4 hk4 y14 x2 g12 hf)
  unfold fY_X2_burn at hf
  refine zj_iconst (v := 0) hC dX2_burn_0 (by decide) ?_
  refine zj_istore_n (lv1 := [(1, .int 0), (0, .ref (q 1))]) hC dX2_burn_1 (by decide) rfl ?_
  refine zj_iconst (v := 0) hC dX2_burn_2 (by decide) ?_
  refine zj_istore_n (lv1 := [(2, .int 0), (1, .int 0), (0, .ref (q 1))]) hC dX2_burn_3 (by decide) rfl ?_
  exact zj_sub hC [2, 1, 0] rfl (hJ4 0 0 g hf)

def fY_X2_glowAround_95 (s0 : Int32) (x4 : Int32) (x5 : Int32) (x6 : Int32) (g : z_G) : Option (Int32 × z_G) := some (((x4 + x5) + x6) + s0, g)
def fY_X2_glowAround_68 (s0 : Int32) (x1 : Int32) (x3 : Int32) (x4 : Int32) (x5 : Int32) (g : z_G) : Option (Int32 × z_G) := (if ((g 1 0) - 1) ≤ x1 then fY_X2_glowAround_95 0 x4 x5 s0 g else z_ck (x3 + (g 1 1)) 64 (fY_X2_glowAround_95 (g 21 (Int32.toNatClampNeg (x3 + (g 1 1)))) x4 x5 s0 g))
def fY_X2_glowAround_47 (s0 : Int32) (x1 : Int32) (x3 : Int32) (x4 : Int32) (g : z_G) : Option (Int32 × z_G) := (if x1 ≤ 0 then fY_X2_glowAround_68 0 x1 x3 x4 s0 g else z_ck (x3 - (g 1 1)) 64 (fY_X2_glowAround_68 (g 21 (Int32.toNatClampNeg (x3 - (g 1 1)))) x1 x3 x4 s0 g))
def fY_X2_glowAround_23 (s0 : Int32) (x1 : Int32) (x2 : Int32) (x3 : Int32) (g : z_G) : Option (Int32 × z_G) := (if ((g 1 1) - 1) ≤ x2 then fY_X2_glowAround_47 0 x1 x3 s0 g else z_ck (x3 + 1) 64 (fY_X2_glowAround_47 (g 21 (Int32.toNatClampNeg (x3 + 1))) x1 x3 s0 g))
def fY_X2_glowAround (a0 : Int32) (a1 : Int32) (g : z_G) : Option (Int32 × z_G) := z_bind (fY_X2_at a0 a1 g) (fun r7 g8 => (if a1 ≤ 0 then fY_X2_glowAround_23 0 a0 a1 r7 g8 else z_ck (r7 - 1) 64 (fY_X2_glowAround_23 (g8 21 (Int32.toNatClampNeg (r7 - 1))) a0 a1 r7 g8)))
theorem nY_X2_glowAround : yX2_glowAround.cls = RX2 ∧ yX2_glowAround.cls ≠ "java/lang/invoke/MethodHandle" ∧ yX2_glowAround.cls ≠ "java/lang/invoke/VarHandle" ∧ (parseMethodDescriptor yX2_glowAround.desc).map (fun d => d.parameters.length) = some 2 := by decide +kernel
set_option maxRecDepth 100000 in
set_option maxHeartbeats 4000000 in
theorem cY_X2_glowAround (l : Launch) (dC : Nat → ClassId) (dI : Nat → Nat → Nat) (ca : Nat → ClassId) (q : Nat → Nat) (tt : Nat → Nat) (a0 : Int32) (a1 : Int32) (g : z_G) (r : Int32) (g' : z_G) (hf : fY_X2_glowAround a0 a1 g = some (r, g')) : z_C l yX2_glowAround wsX2_glowAround { frames := 1, cells := 0, slots := 0, locals := 22 } (dC, dI) (tyY ca) (wY ca q) (zY tt) [.ref (q 1), .int a0, .int a1] g (some r) g' := by
  refine z_enter (wY_ok ca q) (zY_ok tt) (by decide +kernel) rfl (Nat.le_of_ble_eq_true rfl) (fun J hC => ?_)
  have hC : z_Cx J l cX2_glowAround 8 wsX2_glowAround RX2 (some .int) { frames := 1, cells := 0, slots := 0, locals := 22 } (dC, dI) (tyY ca) (wY ca q) (zY tt) (z_QI (dC, dI) (tyY ca) (wY ca q) (some r) g') z_X0 := hC
  show J 0 [(0, .ref (q 1)), (1, .int a0), (2, .int a1)] [] g
  have hX2 : ∀ w ∈ wsX20, w ∈ wsX2_glowAround := fun _ h => List.mem_cons_of_mem _ (List.mem_append_right _ (h))
  have hJ95 : ∀ (s0 : Int32) (x4 : Int32) (x5 : Int32) (x6 : Int32) (g : z_G), fY_X2_glowAround_95 s0 x4 x5 x6 g = some (r, g') → J 95 [(4, .int x4), (5, .int x5), (6, .int x6)] [.int s0] g := by
    intro s0 x4 x5 x6 g hf
    unfold fY_X2_glowAround_95 at hf
    refine zj_istore (lv1 := [(7, .int s0), (4, .int x4), (5, .int x5), (6, .int x6)]) hC dX2_glowAround_95 (by decide) rfl ?_
    refine zj_iload 1 hC dX2_glowAround_97 rfl ?_
    refine zj_iload 2 hC dX2_glowAround_99 rfl ?_
    refine zj_iadd hC dX2_glowAround_101 ?_
    refine zj_iload 3 hC dX2_glowAround_102 rfl ?_
    refine zj_iadd hC dX2_glowAround_104 ?_
    refine zj_iload 0 hC dX2_glowAround_105 rfl ?_
    refine zj_iadd hC dX2_glowAround_107 ?_
    exact zj_ireturn hC hf dX2_glowAround_108
  have hJ68 : ∀ (s0 : Int32) (x1 : Int32) (x3 : Int32) (x4 : Int32) (x5 : Int32) (g : z_G), fY_X2_glowAround_68 s0 x1 x3 x4 x5 g = some (r, g') → J 68 [(0, .ref (q 1)), (1, .int x1), (3, .int x3), (4, .int x4), (5, .int x5)] [.int s0] g := by
    intro s0 x1 x3 x4 x5 g hf
    unfold fY_X2_glowAround_68 at hf
    refine zj_istore (lv1 := [(6, .int s0), (0, .ref (q 1)), (1, .int x1), (3, .int x3), (4, .int x4), (5, .int x5)]) hC dX2_glowAround_68 (by decide) rfl ?_
    refine zj_iload_n 2 hC dX2_glowAround_70 rfl ?_
    refine zj_aload_n 1 hC dX2_glowAround_71 rfl ?_
    refine yg_1_0 hC hX2 (List.mem_of_getElem? (i := 3) rfl) dX2_glowAround_72 ?_
    refine zj_iconst (v := 1) hC dX2_glowAround_75 (by decide) ?_
    refine zj_isub hC dX2_glowAround_76 ?_
    refine zj_icmp_ge 94 hC dX2_glowAround_77 (by decide) (fun c1 => ?_) (fun c1 => ?_)
    · have hf := z_iteT hf c1
      refine zj_iconst (v := 0) hC dX2_glowAround_94 (by decide) ?_
      exact zj_sub hC [4, 5, 0] rfl (hJ95 0 x4 x5 s0 g hf)
    · have hf := z_iteF hf c1
      refine zj_aload_n 1 hC dX2_glowAround_80 rfl ?_
      refine yg_1_18 hC hX2 (List.mem_of_getElem? (i := 1) rfl) dX2_glowAround_81 ?_
      refine zj_iload_n 3 hC dX2_glowAround_84 rfl ?_
      refine zj_aload_n 1 hC dX2_glowAround_85 rfl ?_
      refine yg_1_1 hC hX2 (List.mem_of_getElem? (i := 2) rfl) dX2_glowAround_86 ?_
      refine zj_iadd hC dX2_glowAround_89 ?_
      obtain ⟨hq2, hf⟩ := z_ckE hf
      refine ya_21 hC hq2 dX2_glowAround_90 ?_
      refine zj_goto 95 hC dX2_glowAround_91 (by decide) ?_
      exact zj_sub hC [4, 5, 0] rfl (hJ95 (g 21 (Int32.toNatClampNeg (x3 + (g 1 1)))) x4 x5 s0 g hf)
  have hJ47 : ∀ (s0 : Int32) (x1 : Int32) (x3 : Int32) (x4 : Int32) (g : z_G), fY_X2_glowAround_47 s0 x1 x3 x4 g = some (r, g') → J 47 [(0, .ref (q 1)), (1, .int x1), (3, .int x3), (4, .int x4)] [.int s0] g := by
    intro s0 x1 x3 x4 g hf
    unfold fY_X2_glowAround_47 at hf
    refine zj_istore (lv1 := [(5, .int s0), (0, .ref (q 1)), (1, .int x1), (3, .int x3), (4, .int x4)]) hC dX2_glowAround_47 (by decide) rfl ?_
    refine zj_iload_n 2 hC dX2_glowAround_49 rfl ?_
    refine zj_if_le 67 hC dX2_glowAround_50 (by decide) (fun c3 => ?_) (fun c3 => ?_)
    · have hf := z_iteT hf c3
      refine zj_iconst (v := 0) hC dX2_glowAround_67 (by decide) ?_
      exact zj_sub hC [1, 2, 3, 4, 0] rfl (hJ68 0 x1 x3 x4 s0 g hf)
    · have hf := z_iteF hf c3
      refine zj_aload_n 1 hC dX2_glowAround_53 rfl ?_
      refine yg_1_18 hC hX2 (List.mem_of_getElem? (i := 1) rfl) dX2_glowAround_54 ?_
      refine zj_iload_n 3 hC dX2_glowAround_57 rfl ?_
      refine zj_aload_n 1 hC dX2_glowAround_58 rfl ?_
      refine yg_1_1 hC hX2 (List.mem_of_getElem? (i := 2) rfl) dX2_glowAround_59 ?_
      refine zj_isub hC dX2_glowAround_62 ?_
      obtain ⟨hq4, hf⟩ := z_ckE hf
      refine ya_21 hC hq4 dX2_glowAround_63 ?_
      refine zj_goto 68 hC dX2_glowAround_64 (by decide) ?_
      exact zj_sub hC [1, 2, 3, 4, 0] rfl (hJ68 (g 21 (Int32.toNatClampNeg (x3 - (g 1 1)))) x1 x3 x4 s0 g hf)
  have hJ23 : ∀ (s0 : Int32) (x1 : Int32) (x2 : Int32) (x3 : Int32) (g : z_G), fY_X2_glowAround_23 s0 x1 x2 x3 g = some (r, g') → J 23 [(0, .ref (q 1)), (1, .int x1), (2, .int x2), (3, .int x3)] [.int s0] g := by
    intro s0 x1 x2 x3 g hf
    unfold fY_X2_glowAround_23 at hf
    refine zj_istore (lv1 := [(4, .int s0), (0, .ref (q 1)), (1, .int x1), (2, .int x2), (3, .int x3)]) hC dX2_glowAround_23 (by decide) rfl ?_
    refine zj_iload_n 3 hC dX2_glowAround_25 rfl ?_
    refine zj_aload_n 1 hC dX2_glowAround_26 rfl ?_
    refine yg_1_1 hC hX2 (List.mem_of_getElem? (i := 2) rfl) dX2_glowAround_27 ?_
    refine zj_iconst (v := 1) hC dX2_glowAround_30 (by decide) ?_
    refine zj_isub hC dX2_glowAround_31 ?_
    refine zj_icmp_ge 46 hC dX2_glowAround_32 (by decide) (fun c5 => ?_) (fun c5 => ?_)
    · have hf := z_iteT hf c5
      refine zj_iconst (v := 0) hC dX2_glowAround_46 (by decide) ?_
      exact zj_sub hC [1, 2, 4, 0] rfl (hJ47 0 x1 x3 s0 g hf)
    · have hf := z_iteF hf c5
      refine zj_aload_n 1 hC dX2_glowAround_35 rfl ?_
      refine yg_1_18 hC hX2 (List.mem_of_getElem? (i := 1) rfl) dX2_glowAround_36 ?_
      refine zj_iload_n 4 hC dX2_glowAround_39 rfl ?_
      refine zj_iconst (v := 1) hC dX2_glowAround_40 (by decide) ?_
      refine zj_iadd hC dX2_glowAround_41 ?_
      obtain ⟨hq6, hf⟩ := z_ckE hf
      refine ya_21 hC hq6 dX2_glowAround_42 ?_
      refine zj_goto 47 hC dX2_glowAround_43 (by decide) ?_
      exact zj_sub hC [1, 2, 4, 0] rfl (hJ47 (g 21 (Int32.toNatClampNeg (x3 + 1))) x1 x3 s0 g hf)
  unfold fY_X2_glowAround at hf
  refine zj_aload_n 0 hC dX2_glowAround_0 rfl ?_
  refine zj_iload_n 1 hC dX2_glowAround_1 rfl ?_
  refine zj_iload_n 2 hC dX2_glowAround_2 rfl ?_
  obtain ⟨r7, g8, hq9, hf⟩ := z_bindE hf
  refine zj_callVi [.int a0, .int a1] hC (cY_X2_at l dC dI ca q tt a0 a1 g r7 g8 hq9) gX2_glowAround_X2_at rfl nY_X2_at ⟨Nat.le_of_ble_eq_true rfl, Nat.le_of_ble_eq_true rfl⟩ 1 yo_1 rfl rfl rfl (Nat.le_of_ble_eq_true rfl) dX2_glowAround_3 rfl ?_
  refine zj_istore_n (lv1 := [(3, .int r7), (0, .ref (q 1)), (1, .int a0), (2, .int a1)]) hC dX2_glowAround_6 (by decide) rfl ?_
  refine zj_iload_n 3 hC dX2_glowAround_7 rfl ?_
  refine zj_if_le 22 hC dX2_glowAround_8 (by decide) (fun c10 => ?_) (fun c10 => ?_)
  · have hf := z_iteT hf c10
    refine zj_iconst (v := 0) hC dX2_glowAround_22 (by decide) ?_
    exact zj_sub hC [1, 2, 3, 0] rfl (hJ23 0 a0 a1 r7 g8 hf)
  · have hf := z_iteF hf c10
    refine zj_aload_n 1 hC dX2_glowAround_11 rfl ?_
    refine yg_1_18 hC hX2 (List.mem_of_getElem? (i := 1) rfl) dX2_glowAround_12 ?_
    refine zj_iload_n 0 hC dX2_glowAround_15 rfl ?_
    refine zj_iconst (v := 1) hC dX2_glowAround_16 (by decide) ?_
    refine zj_isub hC dX2_glowAround_17 ?_
    obtain ⟨hq11, hf⟩ := z_ckE hf
    refine ya_21 hC hq11 dX2_glowAround_18 ?_
    refine zj_goto 23 hC dX2_glowAround_19 (by decide) ?_
    exact zj_sub hC [1, 2, 3, 0] rfl (hJ23 (g8 21 (Int32.toNatClampNeg (r7 - 1))) a0 a1 r7 g8 hf)

def fY_X2_warm_105 (k12 : Int32 × Int32 × z_G → Option (Int32 × z_G)) (x1 : Int32) (x2 : Int32) (g : z_G) : Option (Int32 × z_G) := z_let (x2 + 1) (fun y1 => k12 (x1, y1, g))
def fY_X2_warm_104 (k12 : Int32 × Int32 × z_G → Option (Int32 × z_G)) (s0 : Int32) (s1 : Int32) (x1 : Int32) (x2 : Int32) (g : z_G) : Option (Int32 × z_G) := z_ck s1 64 (z_let (z_up g 14 (Int32.toNatClampNeg s1) s0) (fun g3 => fY_X2_warm_105 k12 x1 x2 g3))
def fY_X2_warm_54 (k12 : Int32 × Int32 × z_G → Option (Int32 × z_G)) (x1 : Int32) (x2 : Int32) (x3 : Int32) (g : z_G) : Option (Int32 × z_G) := z_ck x3 64 (z_bind (fY_X2_glowAround x1 x2 g) (fun r5 g6 => z_let (if ((g 13 (Int32.toNatClampNeg x3)) + (r5 / 20)) < 1000 then (g 13 (Int32.toNatClampNeg x3)) + (r5 / 20) else 1000) (fun y8 => z_ck x3 64 (z_let (z_up g6 13 (Int32.toNatClampNeg x3) y8) (fun g10 => z_ck x3 64 ((if (g10 13 (Int32.toNatClampNeg x3)) < 300 then fY_X2_warm_104 k12 0 x3 x1 x2 g10 else fY_X2_warm_104 k12 1 x3 x1 x2 g10)))))))
def fY_X2_warm_12 (k2 : Int32 × z_G → Option (Int32 × z_G)) (k12 : Int32 × Int32 × z_G → Option (Int32 × z_G)) (x1 : Int32) (x2 : Int32) (g : z_G) : Option (Int32 × z_G) := (if (g 1 1) ≤ x2 then z_let (x1 + 1) (fun y14 => k2 (y14, g)) else z_bind (fY_X2_at x1 x2 g) (fun r15 g16 => z_ck r15 64 ((if (g16 21 (Int32.toNatClampNeg r15)) = 0 then z_ck r15 64 ((if 0 < (g16 10 (Int32.toNatClampNeg r15)) then fY_X2_warm_54 k12 x1 x2 r15 g16 else z_ck r15 64 ((if (g16 11 (Int32.toNatClampNeg r15)) ≤ 0 then fY_X2_warm_105 k12 x1 x2 g16 else fY_X2_warm_54 k12 x1 x2 r15 g16)))) else fY_X2_warm_105 k12 x1 x2 g16))))
def fY_X2_warm_12_go (k2 : Int32 × z_G → Option (Int32 × z_G)) (x1 : Int32) (x2 : Int32) (g : z_G) : Option (Int32 × z_G) := z_loop (fun k (w : Int32 × Int32 × z_G) => fY_X2_warm_12 k2 k w.1 w.2.1 w.2.2) z_fuel (x1, x2, g)
def fY_X2_warm_2 (k2 : Int32 × z_G → Option (Int32 × z_G)) (x1 : Int32) (g : z_G) : Option (Int32 × z_G) := (if (g 1 0) ≤ x1 then some (0, g) else fY_X2_warm_12_go k2 x1 0 g)
def fY_X2_warm_2_go (x1 : Int32) (g : z_G) : Option (Int32 × z_G) := z_loop (fun k (w : Int32 × z_G) => fY_X2_warm_2 k w.1 w.2) z_fuel (x1, g)
def fY_X2_warm (g : z_G) : Option (Int32 × z_G) := fY_X2_warm_2_go 0 g
theorem nY_X2_warm : yX2_warm.cls = RX2 ∧ yX2_warm.cls ≠ "java/lang/invoke/MethodHandle" ∧ yX2_warm.cls ≠ "java/lang/invoke/VarHandle" ∧ (parseMethodDescriptor yX2_warm.desc).map (fun d => d.parameters.length) = some 0 := by decide +kernel
set_option maxRecDepth 100000 in
set_option maxHeartbeats 4000000 in
theorem cY_X2_warm (l : Launch) (dC : Nat → ClassId) (dI : Nat → Nat → Nat) (ca : Nat → ClassId) (q : Nat → Nat) (tt : Nat → Nat) (g : z_G) (r : Int32) (g' : z_G) (hf : fY_X2_warm g = some (r, g')) : z_C l yX2_warm wsX2_warm { frames := 2, cells := 0, slots := 0, locals := 49 } (dC, dI) (tyY ca) (wY ca q) (zY tt) [.ref (q 1)] g none g' := by
  refine z_enter (wY_ok ca q) (zY_ok tt) (by decide +kernel) rfl (Nat.le_of_ble_eq_true rfl) (fun J hC => ?_)
  have hC : z_Cx J l cX2_warm 4 wsX2_warm RX2 none { frames := 2, cells := 0, slots := 0, locals := 49 } (dC, dI) (tyY ca) (wY ca q) (zY tt) (z_QI (dC, dI) (tyY ca) (wY ca q) none g') z_X0 := hC
  show J 0 [(0, .ref (q 1))] [] g
  have hX2 : ∀ w ∈ wsX20, w ∈ wsX2_warm := fun _ h => List.mem_cons_of_mem _ (List.mem_append_right _ (h))
  have hJ105 : ∀ (k12 : Int32 × Int32 × z_G → Option (Int32 × z_G)) (_ : ∀ w : Int32 × Int32 × z_G, k12 w = some (r, g') → J 12 [(0, .ref (q 1)), (1, .int w.1), (2, .int w.2.1)] [] w.2.2) (x1 : Int32) (x2 : Int32) (g : z_G), fY_X2_warm_105 k12 x1 x2 g = some (r, g') → J 105 [(0, .ref (q 1)), (1, .int x1), (2, .int x2)] [] g := by
    intro k12 hk12 x1 x2 g hf
    unfold fY_X2_warm_105 at hf
    refine zj_iinc (lv1 := fun v => [(2, .int v), (0, .ref (q 1)), (1, .int x1)]) 2 hC dX2_warm_105 rfl (by decide) (fun _ => rfl) (fun y1 ey1 => ?_)
    have hf := z_letE hf (show y1 = x2 + 1 from ey1)
    refine zj_goto 12 hC dX2_warm_108 (by decide) ?_
    exact zj_sub hC [1, 2, 0] rfl (hk12 (x1, y1, g) hf)
  have hJ104 : ∀ (k12 : Int32 × Int32 × z_G → Option (Int32 × z_G)) (_ : ∀ w : Int32 × Int32 × z_G, k12 w = some (r, g') → J 12 [(0, .ref (q 1)), (1, .int w.1), (2, .int w.2.1)] [] w.2.2) (s0 : Int32) (s1 : Int32) (x1 : Int32) (x2 : Int32) (g : z_G), fY_X2_warm_104 k12 s0 s1 x1 x2 g = some (r, g') → J 104 [(0, .ref (q 1)), (1, .int x1), (2, .int x2)] [.int s0, .int s1, .ref (q 14)] g := by
    intro k12 hk12 s0 s1 x1 x2 g hf
    unfold fY_X2_warm_104 at hf
    obtain ⟨hq2, hf⟩ := z_ckE hf
    refine ys_14 hC hq2 dX2_warm_104 (fun g3 eg3 => ?_)
    have hf := z_letE hf eg3
    exact (hJ105 k12 hk12 x1 x2 g3 hf)
  have hJ54 : ∀ (k12 : Int32 × Int32 × z_G → Option (Int32 × z_G)) (_ : ∀ w : Int32 × Int32 × z_G, k12 w = some (r, g') → J 12 [(0, .ref (q 1)), (1, .int w.1), (2, .int w.2.1)] [] w.2.2) (x1 : Int32) (x2 : Int32) (x3 : Int32) (g : z_G), fY_X2_warm_54 k12 x1 x2 x3 g = some (r, g') → J 54 [(0, .ref (q 1)), (1, .int x1), (2, .int x2), (3, .int x3)] [] g := by
    intro k12 hk12 x1 x2 x3 g hf
    unfold fY_X2_warm_54 at hf
    refine zj_aload_n 0 hC dX2_warm_54 rfl ?_
    refine yg_1_10 hC hX2 (List.mem_of_getElem? (i := 6) rfl) dX2_warm_55 ?_
    refine zj_iload_n 3 hC dX2_warm_58 rfl ?_
    refine zj_sipush (v := 1000) hC dX2_warm_59 (by decide) ?_
    refine zj_aload_n 0 hC dX2_warm_62 rfl ?_
    refine yg_1_10 hC hX2 (List.mem_of_getElem? (i := 6) rfl) dX2_warm_63 ?_
    refine zj_iload_n 3 hC dX2_warm_66 rfl ?_
    obtain ⟨hq4, hf⟩ := z_ckE hf
    refine ya_13 hC hq4 dX2_warm_67 ?_
    refine zj_aload_n 0 hC dX2_warm_68 rfl ?_
    refine zj_iload_n 1 hC dX2_warm_69 rfl ?_
    refine zj_iload_n 2 hC dX2_warm_70 rfl ?_
    obtain ⟨r5, g6, hq7, hf⟩ := z_bindE hf
    refine zj_callVi [.int x1, .int x2] hC (cY_X2_glowAround l dC dI ca q tt x1 x2 g r5 g6 hq7) gX2_warm_X2_glowAround rfl nY_X2_glowAround ⟨Nat.le_of_ble_eq_true rfl, Nat.le_of_ble_eq_true rfl⟩ 1 yo_1 rfl rfl rfl (Nat.le_of_ble_eq_true rfl) dX2_warm_71 rfl ?_
    refine zj_bipush (v := 20) hC dX2_warm_74 (by decide) ?_
    refine zj_idiv hC dX2_warm_76 (by decide) ?_
    refine zj_iadd hC dX2_warm_77 ?_
    refine zj_min hC (List.mem_of_getElem? (i := 7) rfl) (List.mem_of_getElem? (i := 8) rfl) (List.mem_of_getElem? (i := 9) rfl) (List.mem_of_getElem? (i := 10) rfl) (Nat.le_of_ble_eq_true rfl) (Nat.le_of_ble_eq_true rfl) dX2_warm_78 ?_
    refine zj_top (fun y8 ey8 => ?_)
    have hf := z_letE hf ey8
    obtain ⟨hq9, hf⟩ := z_ckE hf
    refine ys_13 hC hq9 dX2_warm_81 (fun g10 eg10 => ?_)
    have hf := z_letE hf eg10
    refine zj_aload_n 0 hC dX2_warm_82 rfl ?_
    refine yg_1_11 hC hX2 (List.mem_of_getElem? (i := 11) rfl) dX2_warm_83 ?_
    refine zj_iload_n 3 hC dX2_warm_86 rfl ?_
    refine zj_aload_n 0 hC dX2_warm_87 rfl ?_
    refine yg_1_10 hC hX2 (List.mem_of_getElem? (i := 6) rfl) dX2_warm_88 ?_
    refine zj_iload_n 3 hC dX2_warm_91 rfl ?_
    obtain ⟨hq11, hf⟩ := z_ckE hf
    refine ya_13 hC hq11 dX2_warm_92 ?_
    refine zj_sipush (v := 300) hC dX2_warm_93 (by decide) ?_
    refine zj_icmp_lt 103 hC dX2_warm_96 (by decide) (fun c12 => ?_) (fun c12 => ?_)
    · have hf := z_iteT hf c12
      refine zj_iconst (v := 0) hC dX2_warm_103 (by decide) ?_
      exact zj_sub hC [0, 1, 2] rfl (hJ104 k12 hk12 0 x3 x1 x2 g10 hf)
    · have hf := z_iteF hf c12
      refine zj_iconst (v := 1) hC dX2_warm_99 (by decide) ?_
      refine zj_goto 104 hC dX2_warm_100 (by decide) ?_
      exact zj_sub hC [0, 1, 2] rfl (hJ104 k12 hk12 1 x3 x1 x2 g10 hf)
  have hJ12 : ∀ (k2 : Int32 × z_G → Option (Int32 × z_G)) (_ : ∀ w : Int32 × z_G, k2 w = some (r, g') → J 2 [(0, .ref (q 1)), (1, .int w.1)] [] w.2) (x1 : Int32) (x2 : Int32) (g : z_G), fY_X2_warm_12_go k2 x1 x2 g = some (r, g') → J 12 [(0, .ref (q 1)), (1, .int x1), (2, .int x2)] [] g := by
    intro k2 hk2 x1 x2 g hf
    refine z_loopE (P := fun w : Int32 × Int32 × z_G => J 12 [(0, .ref (q 1)), (1, .int w.1), (2, .int w.2.1)] [] w.2.2) (fun k12 hk12 w hf => ?_) z_fuel (x1, x2, g) hf
    obtain ⟨x1, x2, g⟩ := w
    have hf : fY_X2_warm_12 k2 k12 x1 x2 g = some (r, g') := hf
    show J 12 [(0, .ref (q 1)), (1, .int x1), (2, .int x2)] [] g
    unfold fY_X2_warm_12 at hf
    refine zj_iload_n 2 hC dX2_warm_12 rfl ?_
    refine zj_aload_n 0 hC dX2_warm_13 rfl ?_
    refine yg_1_1 hC hX2 (List.mem_of_getElem? (i := 2) rfl) dX2_warm_14 ?_
    refine zj_icmp_ge 111 hC dX2_warm_17 (by decide) (fun c13 => ?_) (fun c13 => ?_)
    · have hf := z_iteT hf c13
      refine zj_iinc (lv1 := fun v => [(1, .int v), (0, .ref (q 1)), (2, .int x2)]) 1 hC dX2_warm_111 rfl (by decide) (fun _ => rfl) (fun y14 ey14 => ?_)
      have hf := z_letE hf (show y14 = x1 + 1 from ey14)
      refine zj_goto 2 hC dX2_warm_114 (by decide) ?_
      exact zj_sub hC [1, 0] rfl (hk2 (y14, g) hf)
    · have hf := z_iteF hf c13
      refine zj_aload_n 0 hC dX2_warm_20 rfl ?_
      refine zj_iload_n 1 hC dX2_warm_21 rfl ?_
      refine zj_iload_n 2 hC dX2_warm_22 rfl ?_
      obtain ⟨r15, g16, hq17, hf⟩ := z_bindE hf
      refine zj_callVi [.int x1, .int x2] hC (cY_X2_at l dC dI ca q tt x1 x2 g r15 g16 hq17) gX2_warm_X2_at rfl nY_X2_at ⟨Nat.le_of_ble_eq_true rfl, Nat.le_of_ble_eq_true rfl⟩ 1 yo_1 rfl rfl rfl (Nat.le_of_ble_eq_true rfl) dX2_warm_23 rfl ?_
      refine zj_istore_n (lv1 := [(3, .int r15), (0, .ref (q 1)), (1, .int x1), (2, .int x2)]) hC dX2_warm_26 (by decide) rfl ?_
      refine zj_aload_n 1 hC dX2_warm_27 rfl ?_
      refine yg_1_18 hC hX2 (List.mem_of_getElem? (i := 3) rfl) dX2_warm_28 ?_
      refine zj_iload_n 0 hC dX2_warm_31 rfl ?_
      obtain ⟨hq18, hf⟩ := z_ckE hf
      refine ya_21 hC hq18 dX2_warm_32 ?_
      refine zj_if_ne 105 hC dX2_warm_33 (by decide) (fun c19 => ?_) (fun c19 => ?_)
      · have hf := z_iteF hf c19
        exact zj_sub hC [1, 2, 3] rfl (hJ105 k12 hk12 x1 x2 g16 hf)
      · have hf := z_iteT hf c19
        refine zj_aload_n 1 hC dX2_warm_36 rfl ?_
        refine yg_1_7 hC hX2 (List.mem_of_getElem? (i := 4) rfl) dX2_warm_37 ?_
        refine zj_iload_n 0 hC dX2_warm_40 rfl ?_
        obtain ⟨hq20, hf⟩ := z_ckE hf
        refine ya_10 hC hq20 dX2_warm_41 ?_
        refine zj_if_gt 54 hC dX2_warm_42 (by decide) (fun c21 => ?_) (fun c21 => ?_)
        · have hf := z_iteT hf c21
          exact zj_sub hC [1, 2, 3, 0] rfl (hJ54 k12 hk12 x1 x2 r15 g16 hf)
        · have hf := z_iteF hf c21
          refine zj_aload_n 1 hC dX2_warm_45 rfl ?_
          refine yg_1_8 hC hX2 (List.mem_of_getElem? (i := 5) rfl) dX2_warm_46 ?_
          refine zj_iload_n 0 hC dX2_warm_49 rfl ?_
          obtain ⟨hq22, hf⟩ := z_ckE hf
          refine ya_11 hC hq22 dX2_warm_50 ?_
          refine zj_if_le 105 hC dX2_warm_51 (by decide) (fun c23 => ?_) (fun c23 => ?_)
          · have hf := z_iteT hf c23
            exact zj_sub hC [1, 2, 3] rfl (hJ105 k12 hk12 x1 x2 g16 hf)
          · have hf := z_iteF hf c23
            exact zj_sub hC [1, 2, 3, 0] rfl (hJ54 k12 hk12 x1 x2 r15 g16 hf)
  have hJ2 : ∀ (x1 : Int32) (g : z_G), fY_X2_warm_2_go x1 g = some (r, g') → J 2 [(0, .ref (q 1)), (1, .int x1)] [] g := by
    intro x1 g hf
    refine z_loopE (P := fun w : Int32 × z_G => J 2 [(0, .ref (q 1)), (1, .int w.1)] [] w.2) (fun k2 hk2 w hf => ?_) z_fuel (x1, g) hf
    obtain ⟨x1, g⟩ := w
    have hf : fY_X2_warm_2 k2 x1 g = some (r, g') := hf
    show J 2 [(0, .ref (q 1)), (1, .int x1)] [] g
    unfold fY_X2_warm_2 at hf
    refine zj_iload_n 1 hC dX2_warm_2 rfl ?_
    refine zj_aload_n 0 hC dX2_warm_3 rfl ?_
    refine yg_1_0 hC hX2 (List.mem_of_getElem? (i := 1) rfl) dX2_warm_4 ?_
    refine zj_icmp_ge 117 hC dX2_warm_7 (by decide) (fun c24 => ?_) (fun c24 => ?_)
    · have hf := z_iteT hf c24
      exact zj_vreturn hC hf dX2_warm_117
    · have hf := z_iteF hf c24
      refine zj_iconst (v := 0) hC dX2_warm_10 (by decide) ?_
      refine zj_istore_n (lv1 := [(2, .int 0), (0, .ref (q 1)), (1, .int x1)]) hC dX2_warm_11 (by decide) rfl ?_
      exact zj_sub hC [1, 2, 0] rfl (hJ12 k2 hk2 x1 0 g hf)
  unfold fY_X2_warm at hf
  refine zj_iconst (v := 0) hC dX2_warm_0 (by decide) ?_
  refine zj_istore_n (lv1 := [(1, .int 0), (0, .ref (q 1))]) hC dX2_warm_1 (by decide) rfl ?_
  exact zj_sub hC [1, 0] rfl (hJ2 0 g hf)

def fY_X2_sink_90 (k2 : Int32 × Int32 × z_G → Option (Int32 × z_G)) (x1 : Int32) (x2 : Int32) (g : z_G) : Option (Int32 × z_G) := z_let (x2 + 1) (fun y1 => k2 (x1, y1, g))
def fY_X2_sink_2 (k2 : Int32 × Int32 × z_G → Option (Int32 × z_G)) (x1 : Int32) (x2 : Int32) (g : z_G) : Option (Int32 × z_G) := (if (g 1 4) ≤ x2 then some (0, g) else z_ck x2 64 ((if (g 9 (Int32.toNatClampNeg x2)) = 0 then fY_X2_sink_90 k2 x1 x2 g else z_ck x2 64 ((if (g 15 (Int32.toNatClampNeg x2)) ≤ 0 then fY_X2_sink_90 k2 x1 x2 g else z_ck x2 64 (z_ck x2 64 (z_ck x2 64 ((if (g 17 (Int32.toNatClampNeg x2)) ≤ (2 * ((g 10 (Int32.toNatClampNeg x2)) + (2 * (g 11 (Int32.toNatClampNeg x2))))) then fY_X2_sink_90 k2 x1 x2 g else z_ck x2 64 (z_ck x2 64 (z_let (z_up g 15 (Int32.toNatClampNeg x2) ((g 15 (Int32.toNatClampNeg x2)) - 1)) (fun g13 => z_ck x2 64 ((if (g13 15 (Int32.toNatClampNeg x2)) = 0 then z_ck x2 64 ((if (g13 19 (Int32.toNatClampNeg x2)) = (-1) then z_ck x2 64 (z_let (z_up g13 19 (Int32.toNatClampNeg x2) x1) (fun g19 => fY_X2_sink_90 k2 x1 x2 g19)) else fY_X2_sink_90 k2 x1 x2 g13)) else fY_X2_sink_90 k2 x1 x2 g13))))))))))))))
def fY_X2_sink_2_go (x1 : Int32) (x2 : Int32) (g : z_G) : Option (Int32 × z_G) := z_loop (fun k (w : Int32 × Int32 × z_G) => fY_X2_sink_2 k w.1 w.2.1 w.2.2) z_fuel (x1, x2, g)
def fY_X2_sink (a0 : Int32) (g : z_G) : Option (Int32 × z_G) := fY_X2_sink_2_go a0 0 g
theorem nY_X2_sink : yX2_sink.cls = RX2 ∧ yX2_sink.cls ≠ "java/lang/invoke/MethodHandle" ∧ yX2_sink.cls ≠ "java/lang/invoke/VarHandle" ∧ (parseMethodDescriptor yX2_sink.desc).map (fun d => d.parameters.length) = some 1 := by decide +kernel
set_option maxRecDepth 100000 in
set_option maxHeartbeats 4000000 in
theorem cY_X2_sink (l : Launch) (dC : Nat → ClassId) (dI : Nat → Nat → Nat) (ca : Nat → ClassId) (q : Nat → Nat) (tt : Nat → Nat) (a0 : Int32) (g : z_G) (r : Int32) (g' : z_G) (hf : fY_X2_sink a0 g = some (r, g')) : z_C l yX2_sink wsX2_sink { frames := 0, cells := 0, slots := 0, locals := 0 } (dC, dI) (tyY ca) (wY ca q) (zY tt) [.ref (q 1), .int a0] g none g' := by
  refine z_enter (wY_ok ca q) (zY_ok tt) (by decide +kernel) rfl (Nat.le_of_ble_eq_true rfl) (fun J hC => ?_)
  have hC : z_Cx J l cX2_sink 3 wsX2_sink RX2 none { frames := 0, cells := 0, slots := 0, locals := 0 } (dC, dI) (tyY ca) (wY ca q) (zY tt) (z_QI (dC, dI) (tyY ca) (wY ca q) none g') z_X0 := hC
  show J 0 [(0, .ref (q 1)), (1, .int a0)] [] g
  have hX2 : ∀ w ∈ wsX20, w ∈ wsX2_sink := fun _ h => List.mem_cons_of_mem _ (List.mem_append_right _ (h))
  have hJ90 : ∀ (k2 : Int32 × Int32 × z_G → Option (Int32 × z_G)) (_ : ∀ w : Int32 × Int32 × z_G, k2 w = some (r, g') → J 2 [(0, .ref (q 1)), (1, .int w.1), (2, .int w.2.1)] [] w.2.2) (x1 : Int32) (x2 : Int32) (g : z_G), fY_X2_sink_90 k2 x1 x2 g = some (r, g') → J 90 [(0, .ref (q 1)), (1, .int x1), (2, .int x2)] [] g := by
    intro k2 hk2 x1 x2 g hf
    unfold fY_X2_sink_90 at hf
    refine zj_iinc (lv1 := fun v => [(2, .int v), (0, .ref (q 1)), (1, .int x1)]) 2 hC dX2_sink_90 rfl (by decide) (fun _ => rfl) (fun y1 ey1 => ?_)
    have hf := z_letE hf (show y1 = x2 + 1 from ey1)
    refine zj_goto 2 hC dX2_sink_93 (by decide) ?_
    exact zj_sub hC [1, 2, 0] rfl (hk2 (x1, y1, g) hf)
  have hJ2 : ∀ (x1 : Int32) (x2 : Int32) (g : z_G), fY_X2_sink_2_go x1 x2 g = some (r, g') → J 2 [(0, .ref (q 1)), (1, .int x1), (2, .int x2)] [] g := by
    intro x1 x2 g hf
    refine z_loopE (P := fun w : Int32 × Int32 × z_G => J 2 [(0, .ref (q 1)), (1, .int w.1), (2, .int w.2.1)] [] w.2.2) (fun k2 hk2 w hf => ?_) z_fuel (x1, x2, g) hf
    obtain ⟨x1, x2, g⟩ := w
    have hf : fY_X2_sink_2 k2 x1 x2 g = some (r, g') := hf
    show J 2 [(0, .ref (q 1)), (1, .int x1), (2, .int x2)] [] g
    unfold fY_X2_sink_2 at hf
    refine zj_iload_n 2 hC dX2_sink_2 rfl ?_
    refine zj_aload_n 0 hC dX2_sink_3 rfl ?_
    refine yg_1_4 hC hX2 (List.mem_of_getElem? (i := 1) rfl) dX2_sink_4 ?_
    refine zj_icmp_ge 96 hC dX2_sink_7 (by decide) (fun c2 => ?_) (fun c2 => ?_)
    · have hf := z_iteT hf c2
      exact zj_vreturn hC hf dX2_sink_96
    · have hf := z_iteF hf c2
      refine zj_aload_n 0 hC dX2_sink_10 rfl ?_
      refine yg_1_6 hC hX2 (List.mem_of_getElem? (i := 2) rfl) dX2_sink_11 ?_
      refine zj_iload_n 2 hC dX2_sink_14 rfl ?_
      obtain ⟨hq3, hf⟩ := z_ckE hf
      refine ya_9 hC hq3 dX2_sink_15 ?_
      refine zj_if_eq 90 hC dX2_sink_16 (by decide) (fun c4 => ?_) (fun c4 => ?_)
      · have hf := z_iteT hf c4
        exact (hJ90 k2 hk2 x1 x2 g hf)
      · have hf := z_iteF hf c4
        refine zj_aload_n 0 hC dX2_sink_19 rfl ?_
        refine yg_1_12 hC hX2 (List.mem_of_getElem? (i := 3) rfl) dX2_sink_20 ?_
        refine zj_iload_n 2 hC dX2_sink_23 rfl ?_
        obtain ⟨hq5, hf⟩ := z_ckE hf
        refine ya_15 hC hq5 dX2_sink_24 ?_
        refine zj_if_le 90 hC dX2_sink_25 (by decide) (fun c6 => ?_) (fun c6 => ?_)
        · have hf := z_iteT hf c6
          exact (hJ90 k2 hk2 x1 x2 g hf)
        · have hf := z_iteF hf c6
          refine zj_iconst (v := 2) hC dX2_sink_28 (by decide) ?_
          refine zj_aload_n 0 hC dX2_sink_29 rfl ?_
          refine yg_1_7 hC hX2 (List.mem_of_getElem? (i := 4) rfl) dX2_sink_30 ?_
          refine zj_iload_n 2 hC dX2_sink_33 rfl ?_
          obtain ⟨hq7, hf⟩ := z_ckE hf
          refine ya_10 hC hq7 dX2_sink_34 ?_
          refine zj_iconst (v := 2) hC dX2_sink_35 (by decide) ?_
          refine zj_aload_n 0 hC dX2_sink_36 rfl ?_
          refine yg_1_8 hC hX2 (List.mem_of_getElem? (i := 5) rfl) dX2_sink_37 ?_
          refine zj_iload_n 2 hC dX2_sink_40 rfl ?_
          obtain ⟨hq8, hf⟩ := z_ckE hf
          refine ya_11 hC hq8 dX2_sink_41 ?_
          refine zj_imul hC dX2_sink_42 ?_
          refine zj_iadd hC dX2_sink_43 ?_
          refine zj_imul hC dX2_sink_44 ?_
          refine zj_aload_n 0 hC dX2_sink_45 rfl ?_
          refine yg_1_14 hC hX2 (List.mem_of_getElem? (i := 6) rfl) dX2_sink_46 ?_
          refine zj_iload_n 2 hC dX2_sink_49 rfl ?_
          obtain ⟨hq9, hf⟩ := z_ckE hf
          refine ya_17 hC hq9 dX2_sink_50 ?_
          refine zj_icmp_ge 90 hC dX2_sink_51 (by decide) (fun c10 => ?_) (fun c10 => ?_)
          · have hf := z_iteT hf c10
            exact (hJ90 k2 hk2 x1 x2 g hf)
          · have hf := z_iteF hf c10
            refine zj_aload_n 0 hC dX2_sink_54 rfl ?_
            refine yg_1_12 hC hX2 (List.mem_of_getElem? (i := 3) rfl) dX2_sink_55 ?_
            refine zj_iload_n 2 hC dX2_sink_58 rfl ?_
            refine zj_dup2 hC dX2_sink_59 rfl rfl ?_
            obtain ⟨hq11, hf⟩ := z_ckE hf
            refine ya_15 hC hq11 dX2_sink_60 ?_
            refine zj_iconst (v := 1) hC dX2_sink_61 (by decide) ?_
            refine zj_isub hC dX2_sink_62 ?_
            obtain ⟨hq12, hf⟩ := z_ckE hf
            refine ys_15 hC hq12 dX2_sink_63 (fun g13 eg13 => ?_)
            have hf := z_letE hf eg13
            refine zj_aload_n 0 hC dX2_sink_64 rfl ?_
            refine yg_1_12 hC hX2 (List.mem_of_getElem? (i := 3) rfl) dX2_sink_65 ?_
            refine zj_iload_n 2 hC dX2_sink_68 rfl ?_
            obtain ⟨hq14, hf⟩ := z_ckE hf
            refine ya_15 hC hq14 dX2_sink_69 ?_
            refine zj_if_ne 90 hC dX2_sink_70 (by decide) (fun c15 => ?_) (fun c15 => ?_)
            · have hf := z_iteF hf c15
              exact (hJ90 k2 hk2 x1 x2 g13 hf)
            · have hf := z_iteT hf c15
              refine zj_aload_n 0 hC dX2_sink_73 rfl ?_
              refine yg_1_16 hC hX2 (List.mem_of_getElem? (i := 7) rfl) dX2_sink_74 ?_
              refine zj_iload_n 2 hC dX2_sink_77 rfl ?_
              obtain ⟨hq16, hf⟩ := z_ckE hf
              refine ya_19 hC hq16 dX2_sink_78 ?_
              refine zj_iconst (v := (-1)) hC dX2_sink_79 (by decide) ?_
              refine zj_icmp_ne 90 hC dX2_sink_80 (by decide) (fun c17 => ?_) (fun c17 => ?_)
              · have hf := z_iteF hf c17
                exact (hJ90 k2 hk2 x1 x2 g13 hf)
              · have hf := z_iteT hf c17
                refine zj_aload_n 0 hC dX2_sink_83 rfl ?_
                refine yg_1_16 hC hX2 (List.mem_of_getElem? (i := 7) rfl) dX2_sink_84 ?_
                refine zj_iload_n 2 hC dX2_sink_87 rfl ?_
                refine zj_iload_n 1 hC dX2_sink_88 rfl ?_
                obtain ⟨hq18, hf⟩ := z_ckE hf
                refine ys_19 hC hq18 dX2_sink_89 (fun g19 eg19 => ?_)
                have hf := z_letE hf eg19
                exact (hJ90 k2 hk2 x1 x2 g19 hf)
  unfold fY_X2_sink at hf
  refine zj_iconst (v := 0) hC dX2_sink_0 (by decide) ?_
  refine zj_istore_n (lv1 := [(2, .int 0), (0, .ref (q 1)), (1, .int a0)]) hC dX2_sink_1 (by decide) rfl ?_
  exact zj_sub hC [1, 2, 0] rfl (hJ2 a0 0 g hf)

def fY_X2_soak_2 (k2 : Int32 × Int32 × z_G → Option (Int32 × z_G)) (x1 : Int32) (x2 : Int32) (g : z_G) : Option (Int32 × z_G) := (if (g 1 0) ≤ x2 then some (0, g) else z_bind (fY_X2_at x2 ((g 1 1) - 1) g) (fun r2 g3 => z_ck r2 64 (z_ck r2 64 (z_ck r2 64 (z_let (if ((g3 12 (Int32.toNatClampNeg r2)) + (x1 * (g3 8 (Int32.toNatClampNeg r2)))) < (100 * (g3 8 (Int32.toNatClampNeg r2))) then (g3 12 (Int32.toNatClampNeg r2)) + (x1 * (g3 8 (Int32.toNatClampNeg r2))) else 100 * (g3 8 (Int32.toNatClampNeg r2))) (fun y8 => z_ck r2 64 (z_let (z_up g3 12 (Int32.toNatClampNeg r2) y8) (fun g10 => z_let (x2 + 1) (fun y11 => k2 (x1, y11, g10))))))))))
def fY_X2_soak_2_go (x1 : Int32) (x2 : Int32) (g : z_G) : Option (Int32 × z_G) := z_loop (fun k (w : Int32 × Int32 × z_G) => fY_X2_soak_2 k w.1 w.2.1 w.2.2) z_fuel (x1, x2, g)
def fY_X2_soak (a0 : Int32) (g : z_G) : Option (Int32 × z_G) := fY_X2_soak_2_go a0 0 g
theorem nY_X2_soak : yX2_soak.cls = RX2 ∧ yX2_soak.cls ≠ "java/lang/invoke/MethodHandle" ∧ yX2_soak.cls ≠ "java/lang/invoke/VarHandle" ∧ (parseMethodDescriptor yX2_soak.desc).map (fun d => d.parameters.length) = some 1 := by decide +kernel
set_option maxRecDepth 100000 in
set_option maxHeartbeats 4000000 in
theorem cY_X2_soak (l : Launch) (dC : Nat → ClassId) (dI : Nat → Nat → Nat) (ca : Nat → ClassId) (q : Nat → Nat) (tt : Nat → Nat) (a0 : Int32) (g : z_G) (r : Int32) (g' : z_G) (hf : fY_X2_soak a0 g = some (r, g')) : z_C l yX2_soak wsX2_soak { frames := 1, cells := 0, slots := 0, locals := 22 } (dC, dI) (tyY ca) (wY ca q) (zY tt) [.ref (q 1), .int a0] g none g' := by
  refine z_enter (wY_ok ca q) (zY_ok tt) (by decide +kernel) rfl (Nat.le_of_ble_eq_true rfl) (fun J hC => ?_)
  have hC : z_Cx J l cX2_soak 4 wsX2_soak RX2 none { frames := 1, cells := 0, slots := 0, locals := 22 } (dC, dI) (tyY ca) (wY ca q) (zY tt) (z_QI (dC, dI) (tyY ca) (wY ca q) none g') z_X0 := hC
  show J 0 [(0, .ref (q 1)), (1, .int a0)] [] g
  have hX2 : ∀ w ∈ wsX20, w ∈ wsX2_soak := fun _ h => List.mem_cons_of_mem _ (List.mem_append_right _ (h))
  have hJ2 : ∀ (x1 : Int32) (x2 : Int32) (g : z_G), fY_X2_soak_2_go x1 x2 g = some (r, g') → J 2 [(0, .ref (q 1)), (1, .int x1), (2, .int x2)] [] g := by
    intro x1 x2 g hf
    refine z_loopE (P := fun w : Int32 × Int32 × z_G => J 2 [(0, .ref (q 1)), (1, .int w.1), (2, .int w.2.1)] [] w.2.2) (fun k2 hk2 w hf => ?_) z_fuel (x1, x2, g) hf
    obtain ⟨x1, x2, g⟩ := w
    have hf : fY_X2_soak_2 k2 x1 x2 g = some (r, g') := hf
    show J 2 [(0, .ref (q 1)), (1, .int x1), (2, .int x2)] [] g
    unfold fY_X2_soak_2 at hf
    refine zj_iload_n 2 hC dX2_soak_2 rfl ?_
    refine zj_aload_n 0 hC dX2_soak_3 rfl ?_
    refine yg_1_0 hC hX2 (List.mem_of_getElem? (i := 1) rfl) dX2_soak_4 ?_
    refine zj_icmp_ge 61 hC dX2_soak_7 (by decide) (fun c1 => ?_) (fun c1 => ?_)
    · have hf := z_iteT hf c1
      exact zj_vreturn hC hf dX2_soak_61
    · have hf := z_iteF hf c1
      refine zj_aload_n 0 hC dX2_soak_10 rfl ?_
      refine zj_iload_n 2 hC dX2_soak_11 rfl ?_
      refine zj_aload_n 0 hC dX2_soak_12 rfl ?_
      refine yg_1_1 hC hX2 (List.mem_of_getElem? (i := 2) rfl) dX2_soak_13 ?_
      refine zj_iconst (v := 1) hC dX2_soak_16 (by decide) ?_
      refine zj_isub hC dX2_soak_17 ?_
      obtain ⟨r2, g3, hq4, hf⟩ := z_bindE hf
      refine zj_callVi [.int x2, .int ((g 1 1) - 1)] hC (cY_X2_at l dC dI ca q tt x2 ((g 1 1) - 1) g r2 g3 hq4) gX2_soak_X2_at rfl nY_X2_at ⟨Nat.le_of_ble_eq_true rfl, Nat.le_of_ble_eq_true rfl⟩ 1 yo_1 rfl rfl rfl (Nat.le_of_ble_eq_true rfl) dX2_soak_18 rfl ?_
      refine zj_istore_n (lv1 := [(3, .int r2), (0, .ref (q 1)), (1, .int x1), (2, .int x2)]) hC dX2_soak_21 (by decide) rfl ?_
      refine zj_aload_n 1 hC dX2_soak_22 rfl ?_
      refine yg_1_9 hC hX2 (List.mem_of_getElem? (i := 3) rfl) dX2_soak_23 ?_
      refine zj_iload_n 0 hC dX2_soak_26 rfl ?_
      refine zj_bipush (v := 100) hC dX2_soak_27 (by decide) ?_
      refine zj_aload_n 1 hC dX2_soak_29 rfl ?_
      refine yg_1_5 hC hX2 (List.mem_of_getElem? (i := 4) rfl) dX2_soak_30 ?_
      refine zj_iload_n 0 hC dX2_soak_33 rfl ?_
      obtain ⟨hq5, hf⟩ := z_ckE hf
      refine ya_8 hC hq5 dX2_soak_34 ?_
      refine zj_imul hC dX2_soak_35 ?_
      refine zj_aload_n 1 hC dX2_soak_36 rfl ?_
      refine yg_1_9 hC hX2 (List.mem_of_getElem? (i := 3) rfl) dX2_soak_37 ?_
      refine zj_iload_n 0 hC dX2_soak_40 rfl ?_
      obtain ⟨hq6, hf⟩ := z_ckE hf
      refine ya_12 hC hq6 dX2_soak_41 ?_
      refine zj_iload_n 2 hC dX2_soak_42 rfl ?_
      refine zj_aload_n 1 hC dX2_soak_43 rfl ?_
      refine yg_1_5 hC hX2 (List.mem_of_getElem? (i := 4) rfl) dX2_soak_44 ?_
      refine zj_iload_n 0 hC dX2_soak_47 rfl ?_
      obtain ⟨hq7, hf⟩ := z_ckE hf
      refine ya_8 hC hq7 dX2_soak_48 ?_
      refine zj_imul hC dX2_soak_49 ?_
      refine zj_iadd hC dX2_soak_50 ?_
      refine zj_min hC (List.mem_of_getElem? (i := 5) rfl) (List.mem_of_getElem? (i := 6) rfl) (List.mem_of_getElem? (i := 7) rfl) (List.mem_of_getElem? (i := 8) rfl) (Nat.le_of_ble_eq_true rfl) (Nat.le_of_ble_eq_true rfl) dX2_soak_51 ?_
      refine zj_top (fun y8 ey8 => ?_)
      have hf := z_letE hf ey8
      obtain ⟨hq9, hf⟩ := z_ckE hf
      refine ys_12 hC hq9 dX2_soak_54 (fun g10 eg10 => ?_)
      have hf := z_letE hf eg10
      refine zj_iinc (lv1 := fun v => [(2, .int v), (3, .int r2), (0, .ref (q 1)), (1, .int x1)]) 3 hC dX2_soak_55 rfl (by decide) (fun _ => rfl) (fun y11 ey11 => ?_)
      have hf := z_letE hf (show y11 = x2 + 1 from ey11)
      refine zj_goto 2 hC dX2_soak_58 (by decide) ?_
      exact zj_sub hC [2, 3, 0] rfl (hk2 (x1, y11, g10) hf)
  unfold fY_X2_soak at hf
  refine zj_iconst (v := 0) hC dX2_soak_0 (by decide) ?_
  refine zj_istore_n (lv1 := [(2, .int 0), (0, .ref (q 1)), (1, .int a0)]) hC dX2_soak_1 (by decide) rfl ?_
  exact zj_sub hC [1, 2, 0] rfl (hJ2 a0 0 g hf)

def fY_X2_countBare_23 (k4 : Int32 × Int32 × z_G → Option (Int32 × z_G)) (x1 : Int32) (x2 : Int32) (g : z_G) : Option (Int32 × z_G) := z_let (x2 + 1) (fun y1 => k4 (x1, y1, g))
def fY_X2_countBare_4 (k4 : Int32 × Int32 × z_G → Option (Int32 × z_G)) (x1 : Int32) (x2 : Int32) (g : z_G) : Option (Int32 × z_G) := (if (g 1 4) ≤ x2 then some (x1, g) else z_bind (fY_X2_isBare x2 g) (fun r3 g4 => (if r3 = 0 then fY_X2_countBare_23 k4 x1 x2 g4 else z_let (x1 + 1) (fun y7 => fY_X2_countBare_23 k4 y7 x2 g4))))
def fY_X2_countBare_4_go (x1 : Int32) (x2 : Int32) (g : z_G) : Option (Int32 × z_G) := z_loop (fun k (w : Int32 × Int32 × z_G) => fY_X2_countBare_4 k w.1 w.2.1 w.2.2) z_fuel (x1, x2, g)
def fY_X2_countBare (g : z_G) : Option (Int32 × z_G) := fY_X2_countBare_4_go 0 0 g
theorem nY_X2_countBare : yX2_countBare.cls = RX2 ∧ yX2_countBare.cls ≠ "java/lang/invoke/MethodHandle" ∧ yX2_countBare.cls ≠ "java/lang/invoke/VarHandle" ∧ (parseMethodDescriptor yX2_countBare.desc).map (fun d => d.parameters.length) = some 0 := by decide +kernel
set_option maxRecDepth 100000 in
set_option maxHeartbeats 4000000 in
theorem cY_X2_countBare (l : Launch) (dC : Nat → ClassId) (dI : Nat → Nat → Nat) (ca : Nat → ClassId) (q : Nat → Nat) (tt : Nat → Nat) (g : z_G) (r : Int32) (g' : z_G) (hf : fY_X2_countBare g = some (r, g')) : z_C l yX2_countBare wsX2_countBare { frames := 1, cells := 0, slots := 0, locals := 21 } (dC, dI) (tyY ca) (wY ca q) (zY tt) [.ref (q 1)] g (some r) g' := by
  refine z_enter (wY_ok ca q) (zY_ok tt) (by decide +kernel) rfl (Nat.le_of_ble_eq_true rfl) (fun J hC => ?_)
  have hC : z_Cx J l cX2_countBare 3 wsX2_countBare RX2 (some .int) { frames := 1, cells := 0, slots := 0, locals := 21 } (dC, dI) (tyY ca) (wY ca q) (zY tt) (z_QI (dC, dI) (tyY ca) (wY ca q) (some r) g') z_X0 := hC
  show J 0 [(0, .ref (q 1))] [] g
  have hX2 : ∀ w ∈ wsX20, w ∈ wsX2_countBare := fun _ h => List.mem_cons_of_mem _ (List.mem_append_right _ (h))
  have hJ23 : ∀ (k4 : Int32 × Int32 × z_G → Option (Int32 × z_G)) (_ : ∀ w : Int32 × Int32 × z_G, k4 w = some (r, g') → J 4 [(0, .ref (q 1)), (1, .int w.1), (2, .int w.2.1)] [] w.2.2) (x1 : Int32) (x2 : Int32) (g : z_G), fY_X2_countBare_23 k4 x1 x2 g = some (r, g') → J 23 [(0, .ref (q 1)), (1, .int x1), (2, .int x2)] [] g := by
    intro k4 hk4 x1 x2 g hf
    unfold fY_X2_countBare_23 at hf
    refine zj_iinc (lv1 := fun v => [(2, .int v), (0, .ref (q 1)), (1, .int x1)]) 2 hC dX2_countBare_23 rfl (by decide) (fun _ => rfl) (fun y1 ey1 => ?_)
    have hf := z_letE hf (show y1 = x2 + 1 from ey1)
    refine zj_goto 4 hC dX2_countBare_26 (by decide) ?_
    exact zj_sub hC [1, 2, 0] rfl (hk4 (x1, y1, g) hf)
  have hJ4 : ∀ (x1 : Int32) (x2 : Int32) (g : z_G), fY_X2_countBare_4_go x1 x2 g = some (r, g') → J 4 [(0, .ref (q 1)), (1, .int x1), (2, .int x2)] [] g := by
    intro x1 x2 g hf
    refine z_loopE (P := fun w : Int32 × Int32 × z_G => J 4 [(0, .ref (q 1)), (1, .int w.1), (2, .int w.2.1)] [] w.2.2) (fun k4 hk4 w hf => ?_) z_fuel (x1, x2, g) hf
    obtain ⟨x1, x2, g⟩ := w
    have hf : fY_X2_countBare_4 k4 x1 x2 g = some (r, g') := hf
    show J 4 [(0, .ref (q 1)), (1, .int x1), (2, .int x2)] [] g
    unfold fY_X2_countBare_4 at hf
    refine zj_iload_n 2 hC dX2_countBare_4 rfl ?_
    refine zj_aload_n 0 hC dX2_countBare_5 rfl ?_
    refine yg_1_4 hC hX2 (List.mem_of_getElem? (i := 1) rfl) dX2_countBare_6 ?_
    refine zj_icmp_ge 29 hC dX2_countBare_9 (by decide) (fun c2 => ?_) (fun c2 => ?_)
    · have hf := z_iteT hf c2
      refine zj_iload_n 1 hC dX2_countBare_29 rfl ?_
      exact zj_ireturn hC hf dX2_countBare_30
    · have hf := z_iteF hf c2
      refine zj_aload_n 0 hC dX2_countBare_12 rfl ?_
      refine zj_iload_n 2 hC dX2_countBare_13 rfl ?_
      obtain ⟨r3, g4, hq5, hf⟩ := z_bindE hf
      refine zj_callVi [.int x2] hC (cY_X2_isBare l dC dI ca q tt x2 g r3 g4 hq5) gX2_countBare_X2_isBare rfl nY_X2_isBare ⟨Nat.le_of_ble_eq_true rfl, Nat.le_of_ble_eq_true rfl⟩ 1 yo_1 rfl rfl rfl (Nat.le_of_ble_eq_true rfl) dX2_countBare_14 rfl ?_
      refine zj_if_eq 23 hC dX2_countBare_17 (by decide) (fun c6 => ?_) (fun c6 => ?_)
      · have hf := z_iteT hf c6
        exact (hJ23 k4 hk4 x1 x2 g4 hf)
      · have hf := z_iteF hf c6
        refine zj_iinc (lv1 := fun v => [(1, .int v), (0, .ref (q 1)), (2, .int x2)]) 1 hC dX2_countBare_20 rfl (by decide) (fun _ => rfl) (fun y7 ey7 => ?_)
        have hf := z_letE hf (show y7 = x1 + 1 from ey7)
        exact zj_sub hC [1, 0, 2] rfl (hJ23 k4 hk4 y7 x2 g4 hf)
  unfold fY_X2_countBare at hf
  refine zj_iconst (v := 0) hC dX2_countBare_0 (by decide) ?_
  refine zj_istore_n (lv1 := [(1, .int 0), (0, .ref (q 1))]) hC dX2_countBare_1 (by decide) rfl ?_
  refine zj_iconst (v := 0) hC dX2_countBare_2 (by decide) ?_
  refine zj_istore_n (lv1 := [(2, .int 0), (1, .int 0), (0, .ref (q 1))]) hC dX2_countBare_3 (by decide) rfl ?_
  exact zj_sub hC [2, 1, 0] rfl (hJ4 0 0 g hf)

def fY_X2_thinnest_44 (k14 : Int32 × Int32 × z_G → Option (Int32 × z_G)) (x1 : Int32) (x2 : Int32) (g : z_G) : Option (Int32 × z_G) := z_let (x2 + (-1)) (fun y1 => k14 (x1, y1, g))
def fY_X2_thinnest_14 (k14 : Int32 × Int32 × z_G → Option (Int32 × z_G)) (x1 : Int32) (x2 : Int32) (g : z_G) : Option (Int32 × z_G) := (if x2 < 0 then some (x1, g) else z_ck x2 64 ((if (g 9 (Int32.toNatClampNeg x2)) = 0 then fY_X2_thinnest_44 k14 x1 x2 g else z_ck x2 64 (z_ck x1 64 ((if (g 15 (Int32.toNatClampNeg x1)) < (g 15 (Int32.toNatClampNeg x2)) then fY_X2_thinnest_44 k14 x1 x2 g else fY_X2_thinnest_44 k14 x2 x2 g))))))
def fY_X2_thinnest_14_go (x1 : Int32) (x2 : Int32) (g : z_G) : Option (Int32 × z_G) := z_loop (fun k (w : Int32 × Int32 × z_G) => fY_X2_thinnest_14 k w.1 w.2.1 w.2.2) z_fuel (x1, x2, g)
def fY_X2_thinnest (g : z_G) : Option (Int32 × z_G) := z_let ((g 1 4) - 1) (fun y8 => z_let ((g 1 4) - 1) (fun y9 => fY_X2_thinnest_14_go y8 y9 g))
theorem nY_X2_thinnest : yX2_thinnest.cls = RX2 ∧ yX2_thinnest.cls ≠ "java/lang/invoke/MethodHandle" ∧ yX2_thinnest.cls ≠ "java/lang/invoke/VarHandle" ∧ (parseMethodDescriptor yX2_thinnest.desc).map (fun d => d.parameters.length) = some 0 := by decide +kernel
set_option maxRecDepth 100000 in
set_option maxHeartbeats 4000000 in
theorem cY_X2_thinnest (l : Launch) (dC : Nat → ClassId) (dI : Nat → Nat → Nat) (ca : Nat → ClassId) (q : Nat → Nat) (tt : Nat → Nat) (g : z_G) (r : Int32) (g' : z_G) (hf : fY_X2_thinnest g = some (r, g')) : z_C l yX2_thinnest wsX2_thinnest { frames := 0, cells := 0, slots := 0, locals := 0 } (dC, dI) (tyY ca) (wY ca q) (zY tt) [.ref (q 1)] g (some r) g' := by
  refine z_enter (wY_ok ca q) (zY_ok tt) (by decide +kernel) rfl (Nat.le_of_ble_eq_true rfl) (fun J hC => ?_)
  have hC : z_Cx J l cX2_thinnest 3 wsX2_thinnest RX2 (some .int) { frames := 0, cells := 0, slots := 0, locals := 0 } (dC, dI) (tyY ca) (wY ca q) (zY tt) (z_QI (dC, dI) (tyY ca) (wY ca q) (some r) g') z_X0 := hC
  show J 0 [(0, .ref (q 1))] [] g
  have hX2 : ∀ w ∈ wsX20, w ∈ wsX2_thinnest := fun _ h => List.mem_cons_of_mem _ (List.mem_append_right _ (h))
  have hJ44 : ∀ (k14 : Int32 × Int32 × z_G → Option (Int32 × z_G)) (_ : ∀ w : Int32 × Int32 × z_G, k14 w = some (r, g') → J 14 [(0, .ref (q 1)), (1, .int w.1), (2, .int w.2.1)] [] w.2.2) (x1 : Int32) (x2 : Int32) (g : z_G), fY_X2_thinnest_44 k14 x1 x2 g = some (r, g') → J 44 [(0, .ref (q 1)), (1, .int x1), (2, .int x2)] [] g := by
    intro k14 hk14 x1 x2 g hf
    unfold fY_X2_thinnest_44 at hf
    refine zj_iinc (lv1 := fun v => [(2, .int v), (0, .ref (q 1)), (1, .int x1)]) 2 hC dX2_thinnest_44 rfl (by decide) (fun _ => rfl) (fun y1 ey1 => ?_)
    have hf := z_letE hf (show y1 = x2 + (-1) from ey1)
    refine zj_goto 14 hC dX2_thinnest_47 (by decide) ?_
    exact zj_sub hC [1, 2, 0] rfl (hk14 (x1, y1, g) hf)
  have hJ14 : ∀ (x1 : Int32) (x2 : Int32) (g : z_G), fY_X2_thinnest_14_go x1 x2 g = some (r, g') → J 14 [(0, .ref (q 1)), (1, .int x1), (2, .int x2)] [] g := by
    intro x1 x2 g hf
    refine z_loopE (P := fun w : Int32 × Int32 × z_G => J 14 [(0, .ref (q 1)), (1, .int w.1), (2, .int w.2.1)] [] w.2.2) (fun k14 hk14 w hf => ?_) z_fuel (x1, x2, g) hf
    obtain ⟨x1, x2, g⟩ := w
    have hf : fY_X2_thinnest_14 k14 x1 x2 g = some (r, g') := hf
    show J 14 [(0, .ref (q 1)), (1, .int x1), (2, .int x2)] [] g
    unfold fY_X2_thinnest_14 at hf
    refine zj_iload_n 2 hC dX2_thinnest_14 rfl ?_
    refine zj_if_lt 50 hC dX2_thinnest_15 (by decide) (fun c2 => ?_) (fun c2 => ?_)
    · have hf := z_iteT hf c2
      refine zj_iload_n 1 hC dX2_thinnest_50 rfl ?_
      exact zj_ireturn hC hf dX2_thinnest_51
    · have hf := z_iteF hf c2
      refine zj_aload_n 0 hC dX2_thinnest_18 rfl ?_
      refine yg_1_6 hC hX2 (List.mem_of_getElem? (i := 2) rfl) dX2_thinnest_19 ?_
      refine zj_iload_n 2 hC dX2_thinnest_22 rfl ?_
      obtain ⟨hq3, hf⟩ := z_ckE hf
      refine ya_9 hC hq3 dX2_thinnest_23 ?_
      refine zj_if_eq 44 hC dX2_thinnest_24 (by decide) (fun c4 => ?_) (fun c4 => ?_)
      · have hf := z_iteT hf c4
        exact (hJ44 k14 hk14 x1 x2 g hf)
      · have hf := z_iteF hf c4
        refine zj_aload_n 0 hC dX2_thinnest_27 rfl ?_
        refine yg_1_12 hC hX2 (List.mem_of_getElem? (i := 3) rfl) dX2_thinnest_28 ?_
        refine zj_iload_n 2 hC dX2_thinnest_31 rfl ?_
        obtain ⟨hq5, hf⟩ := z_ckE hf
        refine ya_15 hC hq5 dX2_thinnest_32 ?_
        refine zj_aload_n 0 hC dX2_thinnest_33 rfl ?_
        refine yg_1_12 hC hX2 (List.mem_of_getElem? (i := 3) rfl) dX2_thinnest_34 ?_
        refine zj_iload_n 1 hC dX2_thinnest_37 rfl ?_
        obtain ⟨hq6, hf⟩ := z_ckE hf
        refine ya_15 hC hq6 dX2_thinnest_38 ?_
        refine zj_icmp_gt 44 hC dX2_thinnest_39 (by decide) (fun c7 => ?_) (fun c7 => ?_)
        · have hf := z_iteT hf c7
          exact (hJ44 k14 hk14 x1 x2 g hf)
        · have hf := z_iteF hf c7
          refine zj_iload_n 2 hC dX2_thinnest_42 rfl ?_
          refine zj_istore_n (lv1 := [(1, .int x2), (0, .ref (q 1)), (2, .int x2)]) hC dX2_thinnest_43 (by decide) rfl ?_
          exact zj_sub hC [1, 0, 2] rfl (hJ44 k14 hk14 x2 x2 g hf)
  unfold fY_X2_thinnest at hf
  refine zj_aload_n 0 hC dX2_thinnest_0 rfl ?_
  refine yg_1_4 hC hX2 (List.mem_of_getElem? (i := 1) rfl) dX2_thinnest_1 ?_
  refine zj_iconst (v := 1) hC dX2_thinnest_4 (by decide) ?_
  refine zj_isub hC dX2_thinnest_5 ?_
  refine zj_top (fun y8 ey8 => ?_)
  have hf := z_letE hf ey8
  refine zj_istore_n (lv1 := [(1, .int y8), (0, .ref (q 1))]) hC dX2_thinnest_6 (by decide) rfl ?_
  refine zj_aload_n 1 hC dX2_thinnest_7 rfl ?_
  refine yg_1_4 hC hX2 (List.mem_of_getElem? (i := 1) rfl) dX2_thinnest_8 ?_
  refine zj_iconst (v := 1) hC dX2_thinnest_11 (by decide) ?_
  refine zj_isub hC dX2_thinnest_12 ?_
  refine zj_top (fun y9 ey9 => ?_)
  have hf := z_letE hf ey9
  refine zj_istore_n (lv1 := [(2, .int y9), (1, .int y8), (0, .ref (q 1))]) hC dX2_thinnest_13 (by decide) rfl ?_
  exact zj_sub hC [2, 1, 0] rfl (hJ14 y8 y9 g hf)

def fY_X2_mend (g : z_G) : Option (Int32 × z_G) := z_bind (fY_X2_thinnest g) (fun r1 g2 => z_ck r1 64 (z_let (if ((g2 15 (Int32.toNatClampNeg r1)) + 3) < 9 then (g2 15 (Int32.toNatClampNeg r1)) + 3 else 9) (fun y5 => z_ck r1 64 (z_let (z_up g2 15 (Int32.toNatClampNeg r1) y5) (fun g7 => some (0, g7))))))
theorem nY_X2_mend : yX2_mend.cls = RX2 ∧ yX2_mend.cls ≠ "java/lang/invoke/MethodHandle" ∧ yX2_mend.cls ≠ "java/lang/invoke/VarHandle" ∧ (parseMethodDescriptor yX2_mend.desc).map (fun d => d.parameters.length) = some 0 := by decide +kernel
set_option maxRecDepth 100000 in
set_option maxHeartbeats 4000000 in
theorem cY_X2_mend (l : Launch) (dC : Nat → ClassId) (dI : Nat → Nat → Nat) (ca : Nat → ClassId) (q : Nat → Nat) (tt : Nat → Nat) (g : z_G) (r : Int32) (g' : z_G) (hf : fY_X2_mend g = some (r, g')) : z_C l yX2_mend wsX2_mend { frames := 1, cells := 0, slots := 0, locals := 22 } (dC, dI) (tyY ca) (wY ca q) (zY tt) [.ref (q 1)] g none g' := by
  refine z_enter (wY_ok ca q) (zY_ok tt) (by decide +kernel) rfl (Nat.le_of_ble_eq_true rfl) (fun J hC => ?_)
  have hC : z_Cx J l cX2_mend 2 wsX2_mend RX2 none { frames := 1, cells := 0, slots := 0, locals := 22 } (dC, dI) (tyY ca) (wY ca q) (zY tt) (z_QI (dC, dI) (tyY ca) (wY ca q) none g') z_X0 := hC
  show J 0 [(0, .ref (q 1))] [] g
  have hX2 : ∀ w ∈ wsX20, w ∈ wsX2_mend := fun _ h => List.mem_cons_of_mem _ (List.mem_append_right _ (h))
  unfold fY_X2_mend at hf
  refine zj_aload_n 0 hC dX2_mend_0 rfl ?_
  obtain ⟨r1, g2, hq3, hf⟩ := z_bindE hf
  refine zj_callVi [] hC (cY_X2_thinnest l dC dI ca q tt g r1 g2 hq3) gX2_mend_X2_thinnest rfl nY_X2_thinnest ⟨Nat.le_of_ble_eq_true rfl, Nat.le_of_ble_eq_true rfl⟩ 1 yo_1 rfl rfl rfl (Nat.le_of_ble_eq_true rfl) dX2_mend_1 rfl ?_
  refine zj_istore_n (lv1 := [(1, .int r1), (0, .ref (q 1))]) hC dX2_mend_4 (by decide) rfl ?_
  refine zj_aload_n 1 hC dX2_mend_5 rfl ?_
  refine yg_1_12 hC hX2 (List.mem_of_getElem? (i := 1) rfl) dX2_mend_6 ?_
  refine zj_iload_n 0 hC dX2_mend_9 rfl ?_
  refine zj_bipush (v := 9) hC dX2_mend_10 (by decide) ?_
  refine zj_aload_n 1 hC dX2_mend_12 rfl ?_
  refine yg_1_12 hC hX2 (List.mem_of_getElem? (i := 1) rfl) dX2_mend_13 ?_
  refine zj_iload_n 0 hC dX2_mend_16 rfl ?_
  obtain ⟨hq4, hf⟩ := z_ckE hf
  refine ya_15 hC hq4 dX2_mend_17 ?_
  refine zj_iconst (v := 3) hC dX2_mend_18 (by decide) ?_
  refine zj_iadd hC dX2_mend_19 ?_
  refine zj_min hC (List.mem_of_getElem? (i := 2) rfl) (List.mem_of_getElem? (i := 3) rfl) (List.mem_of_getElem? (i := 4) rfl) (List.mem_of_getElem? (i := 5) rfl) (Nat.le_of_ble_eq_true rfl) (Nat.le_of_ble_eq_true rfl) dX2_mend_20 ?_
  refine zj_top (fun y5 ey5 => ?_)
  have hf := z_letE hf ey5
  obtain ⟨hq6, hf⟩ := z_ckE hf
  refine ys_15 hC hq6 dX2_mend_23 (fun g7 eg7 => ?_)
  have hf := z_letE hf eg7
  exact zj_vreturn hC hf dX2_mend_24
