def fY_X4_letterOf_2 (k2 : Int32 × Int32 × z_G → Option (Int32 × z_G)) (x0 : Int32) (x1 : Int32) (g : z_G) : Option (Int32 × z_G) := (if 7 ≤ x1 then some ((-1), g) else z_ck x1 7 ((if (kLETTERS (Int32.toNatClampNeg x1)) = x0 then some (x1, g) else z_let (x1 + 1) (fun y4 => k2 (x0, y4, g)))))
def fY_X4_letterOf_2_go (x0 : Int32) (x1 : Int32) (g : z_G) : Option (Int32 × z_G) := z_loop (fun k (w : Int32 × Int32 × z_G) => fY_X4_letterOf_2 k w.1 w.2.1 w.2.2) z_fuel (x0, x1, g)
def fY_X4_letterOf (a0 : Int32) (g : z_G) : Option (Int32 × z_G) := fY_X4_letterOf_2_go a0 0 g
theorem nY_X4_letterOf : yX4_letterOf.cls ≠ "java/lang/invoke/MethodHandle" ∧ yX4_letterOf.cls ≠ "java/lang/invoke/VarHandle" ∧ (parseMethodDescriptor yX4_letterOf.desc).map (fun d => d.parameters.length) = some 1 := by decide +kernel
set_option maxRecDepth 100000 in
set_option maxHeartbeats 4000000 in
theorem cY_X4_letterOf (l : Launch) (dC : Nat → ClassId) (dI : Nat → Nat → Nat) (ca : Nat → ClassId) (q : Nat → Nat) (tt : Nat → Nat) (a0 : Int32) (g : z_G) (r : Int32) (g' : z_G) (hf : fY_X4_letterOf a0 g = some (r, g')) : z_C l yX4_letterOf wsX4_letterOf { frames := 0, cells := 0, slots := 0, locals := 0 } (dC, dI) (tyY ca) (wY ca q) (zY tt) [.int a0] g (some r) g' := by
  refine z_enter (wY_ok ca q) (zY_ok tt) (by decide +kernel) rfl (Nat.le_of_ble_eq_true rfl) (fun J hC => ?_)
  have hC : z_Cx J l cX4_letterOf 2 wsX4_letterOf RX4 (some .int) { frames := 0, cells := 0, slots := 0, locals := 0 } (dC, dI) (tyY ca) (wY ca q) (zY tt) (z_QI (dC, dI) (tyY ca) (wY ca q) (some r) g') z_X0 := hC
  show J 0 [(0, .int a0)] [] g
  have hJ2 : ∀ (x0 : Int32) (x1 : Int32) (g : z_G), fY_X4_letterOf_2_go x0 x1 g = some (r, g') → J 2 [(0, .int x0), (1, .int x1)] [] g := by
    intro x0 x1 g hf
    refine z_loopE (P := fun w : Int32 × Int32 × z_G => J 2 [(0, .int w.1), (1, .int w.2.1)] [] w.2.2) (fun k2 hk2 w hf => ?_) z_fuel (x0, x1, g) hf
    obtain ⟨x0, x1, g⟩ := w
    have hf : fY_X4_letterOf_2 k2 x0 x1 g = some (r, g') := hf
    show J 2 [(0, .int x0), (1, .int x1)] [] g
    unfold fY_X4_letterOf_2 at hf
    refine zj_iload_n 1 hC dX4_letterOf_2 rfl ?_
    refine zj_gets (C := "CharcoalYard$Rules") (v := .ref (tt 3)) hC (fun A U H h => h.2.2.2.1.1) (List.mem_of_getElem? (i := 1) rfl) rfl dX4_letterOf_3 ?_
    refine zj_tlen (v := 7) hC (fun A U H h => h.2.2.2.1.2) rfl dX4_letterOf_6 ?_
    refine zj_icmp_ge 27 hC dX4_letterOf_7 (by decide) (fun c1 => ?_) (fun c1 => ?_)
    · have hf := z_iteT hf c1
      refine zj_iconst (v := (-1)) hC dX4_letterOf_27 (by decide) ?_
      exact zj_ireturn hC hf dX4_letterOf_28
    · have hf := z_iteF hf c1
      refine zj_gets (C := "CharcoalYard$Rules") (v := .ref (tt 3)) hC (fun A U H h => h.2.2.2.1.1) (List.mem_of_getElem? (i := 1) rfl) rfl dX4_letterOf_10 ?_
      refine zj_iload_n 1 hC dX4_letterOf_13 rfl ?_
      obtain ⟨hq2, hf⟩ := z_ckE hf
      refine zj_tc (f := kLETTERS) hC (fun A U H h => h.2.2.2.1.2) hq2 dX4_letterOf_14 ?_
      refine zj_iload_n 0 hC dX4_letterOf_15 rfl ?_
      refine zj_icmp_ne 21 hC dX4_letterOf_16 (by decide) (fun c3 => ?_) (fun c3 => ?_)
      · have hf := z_iteF hf c3
        refine zj_iinc (lv1 := fun v => [(1, .int v), (0, .int x0)]) 1 hC dX4_letterOf_21 rfl (by decide) (fun _ => rfl) (fun y4 ey4 => ?_)
        have hf := z_letE hf (show y4 = x1 + 1 from ey4)
        refine zj_goto 2 hC dX4_letterOf_24 (by decide) ?_
        exact zj_sub hC [1, 0] rfl (hk2 (x0, y4, g) hf)
      · have hf := z_iteT hf c3
        refine zj_iload_n 1 hC dX4_letterOf_19 rfl ?_
        exact zj_ireturn hC hf dX4_letterOf_20
  unfold fY_X4_letterOf at hf
  refine zj_iconst (v := 0) hC dX4_letterOf_0 (by decide) ?_
  refine zj_istore_n (lv1 := [(1, .int 0), (0, .int a0)]) hC dX4_letterOf_1 (by decide) rfl ?_
  exact zj_sub hC [1, 0] rfl (hJ2 a0 0 g hf)

def fY_X4_isFull_14 (s0 : Int32) (g : z_G) : Option (Int32 × z_G) := z_bo s0 (some (s0, g))
def fY_X4_isFull (g : z_G) : Option (Int32 × z_G) := (if (g 5 0) < 8 then fY_X4_isFull_14 0 g else fY_X4_isFull_14 1 g)
theorem nY_X4_isFull : yX4_isFull.cls = RX4 ∧ yX4_isFull.cls ≠ "java/lang/invoke/MethodHandle" ∧ yX4_isFull.cls ≠ "java/lang/invoke/VarHandle" ∧ (parseMethodDescriptor yX4_isFull.desc).map (fun d => d.parameters.length) = some 0 := by decide +kernel
set_option maxRecDepth 100000 in
set_option maxHeartbeats 4000000 in
theorem cY_X4_isFull (l : Launch) (dC : Nat → ClassId) (dI : Nat → Nat → Nat) (ca : Nat → ClassId) (q : Nat → Nat) (tt : Nat → Nat) (g : z_G) (r : Int32) (g' : z_G) (hf : fY_X4_isFull g = some (r, g')) : z_C l yX4_isFull wsX4_isFull { frames := 0, cells := 0, slots := 0, locals := 0 } (dC, dI) (tyY ca) (wY ca q) (zY tt) [.ref (q 5)] g (some r) g' := by
  refine z_enter (wY_ok ca q) (zY_ok tt) (by decide +kernel) rfl (Nat.le_of_ble_eq_true rfl) (fun J hC => ?_)
  have hC : z_Cx J l cX4_isFull 1 wsX4_isFull RX4 (some .boolean) { frames := 0, cells := 0, slots := 0, locals := 0 } (dC, dI) (tyY ca) (wY ca q) (zY tt) (z_QI (dC, dI) (tyY ca) (wY ca q) (some r) g') z_X0 := hC
  show J 0 [(0, .ref (q 5))] [] g
  have hX4 : ∀ w ∈ wsX40, w ∈ wsX4_isFull := fun _ h => List.mem_cons_of_mem _ (List.mem_append_right _ (h))
  have hJ14 : ∀ (s0 : Int32) (g : z_G), fY_X4_isFull_14 s0 g = some (r, g') → J 14 [] [.int s0] g := by
    intro s0 g hf
    unfold fY_X4_isFull_14 at hf
    exact zj_zreturn hC hf dX4_isFull_14
  unfold fY_X4_isFull at hf
  refine zj_aload_n 0 hC dX4_isFull_0 rfl ?_
  refine yg_5_0 hC hX4 (List.mem_of_getElem? (i := 1) rfl) dX4_isFull_1 ?_
  refine zj_bipush (v := 8) hC dX4_isFull_4 (by decide) ?_
  refine zj_icmp_lt 13 hC dX4_isFull_6 (by decide) (fun c1 => ?_) (fun c1 => ?_)
  · have hf := z_iteT hf c1
    refine zj_iconst (v := 0) hC dX4_isFull_13 (by decide) ?_
    exact zj_sub hC [] rfl (hJ14 0 g hf)
  · have hf := z_iteF hf c1
    refine zj_iconst (v := 1) hC dX4_isFull_9 (by decide) ?_
    refine zj_goto 14 hC dX4_isFull_10 (by decide) ?_
    exact zj_sub hC [] rfl (hJ14 1 g hf)

def fY_X4_accept (a0 : Int32) (g : z_G) : Option (Int32 × z_G) := z_ck (g 5 0) 8 (z_let (z_up g 39 (Int32.toNatClampNeg (g 5 0)) a0) (fun g2 => z_let (z_up g2 5 0 ((g2 5 0) + 1)) (fun g3 => some ((g3 5 0) - 1, g3))))
theorem nY_X4_accept : yX4_accept.cls = RX4 ∧ yX4_accept.cls ≠ "java/lang/invoke/MethodHandle" ∧ yX4_accept.cls ≠ "java/lang/invoke/VarHandle" ∧ (parseMethodDescriptor yX4_accept.desc).map (fun d => d.parameters.length) = some 1 := by decide +kernel
set_option maxRecDepth 100000 in
set_option maxHeartbeats 4000000 in
theorem cY_X4_accept (l : Launch) (dC : Nat → ClassId) (dI : Nat → Nat → Nat) (ca : Nat → ClassId) (q : Nat → Nat) (tt : Nat → Nat) (a0 : Int32) (g : z_G) (r : Int32) (g' : z_G) (hf : fY_X4_accept a0 g = some (r, g')) : z_C l yX4_accept wsX4_accept { frames := 0, cells := 0, slots := 0, locals := 0 } (dC, dI) (tyY ca) (wY ca q) (zY tt) [.ref (q 5), .int a0] g (some r) g' := by
  refine z_enter (wY_ok ca q) (zY_ok tt) (by decide +kernel) rfl (Nat.le_of_ble_eq_true rfl) (fun J hC => ?_)
  have hC : z_Cx J l cX4_accept 2 wsX4_accept RX4 (some .int) { frames := 0, cells := 0, slots := 0, locals := 0 } (dC, dI) (tyY ca) (wY ca q) (zY tt) (z_QI (dC, dI) (tyY ca) (wY ca q) (some r) g') z_X0 := hC
  show J 0 [(0, .ref (q 5)), (1, .int a0)] [] g
  have hX4 : ∀ w ∈ wsX40, w ∈ wsX4_accept := fun _ h => List.mem_cons_of_mem _ (List.mem_append_right _ (h))
  unfold fY_X4_accept at hf
  refine zj_aload_n 0 hC dX4_accept_0 rfl ?_
  refine yg_5_4 hC hX4 (List.mem_of_getElem? (i := 1) rfl) dX4_accept_1 ?_
  refine zj_aload_n 0 hC dX4_accept_4 rfl ?_
  refine yg_5_0 hC hX4 (List.mem_of_getElem? (i := 2) rfl) dX4_accept_5 ?_
  refine zj_iload_n 1 hC dX4_accept_8 rfl ?_
  obtain ⟨hq1, hf⟩ := z_ckE hf
  refine ys_39 hC hq1 dX4_accept_9 (fun g2 eg2 => ?_)
  have hf := z_letE hf eg2
  refine zj_aload_n 0 hC dX4_accept_10 rfl ?_
  refine zj_dup hC dX4_accept_11 rfl ?_
  refine yg_5_0 hC hX4 (List.mem_of_getElem? (i := 2) rfl) dX4_accept_12 ?_
  refine zj_iconst (v := 1) hC dX4_accept_15 (by decide) ?_
  refine zj_iadd hC dX4_accept_16 ?_
  refine yp_5_0 hC hX4 (List.mem_of_getElem? (i := 2) rfl) dX4_accept_17 (fun g3 eg3 => ?_)
  have hf := z_letE hf eg3
  refine zj_aload_n 0 hC dX4_accept_20 rfl ?_
  refine yg_5_0 hC hX4 (List.mem_of_getElem? (i := 2) rfl) dX4_accept_21 ?_
  refine zj_iconst (v := 1) hC dX4_accept_24 (by decide) ?_
  refine zj_isub hC dX4_accept_25 ?_
  exact zj_ireturn hC hf dX4_accept_26

def fY_J7_fill_53178_r39_5 (k5 : Int32 × Int32 × Int32 × z_G → Option (Int32 × z_G)) (x1 : Int32) (x2 : Int32) (x3 : Int32) (g : z_G) : Option (Int32 × z_G) := (if x3 ≤ x2 then some (0, g) else z_ck x2 8 (z_let (z_up g 39 (Int32.toNatClampNeg x2) x1) (fun g3 => z_let (x2 + 1) (fun y4 => k5 (x1, y4, x3, g3)))))
def fY_J7_fill_53178_r39_5_go (x1 : Int32) (x2 : Int32) (x3 : Int32) (g : z_G) : Option (Int32 × z_G) := z_loop (fun k (w : Int32 × Int32 × Int32 × z_G) => fY_J7_fill_53178_r39_5 k w.1 w.2.1 w.2.2.1 w.2.2.2) z_fuel (x1, x2, x3, g)
def fY_J7_fill_53178_r39 (a1 : Int32) (g : z_G) : Option (Int32 × z_G) := fY_J7_fill_53178_r39_5_go a1 0 8 g
theorem nY_J7_fill_53178_r39 : yJ7_fill_53178.cls ≠ "java/lang/invoke/MethodHandle" ∧ yJ7_fill_53178.cls ≠ "java/lang/invoke/VarHandle" ∧ (parseMethodDescriptor yJ7_fill_53178.desc).map (fun d => d.parameters.length) = some 2 := by decide +kernel
set_option maxRecDepth 100000 in
set_option maxHeartbeats 4000000 in
theorem cY_J7_fill_53178_r39 (l : Launch) (dC : Nat → ClassId) (dI : Nat → Nat → Nat) (ca : Nat → ClassId) (q : Nat → Nat) (tt : Nat → Nat) (a1 : Int32) (g : z_G) (r : Int32) (g' : z_G) (hf : fY_J7_fill_53178_r39 a1 g = some (r, g')) : z_C l yJ7_fill_53178 wsJ7_fill_53178 { frames := 0, cells := 0, slots := 0, locals := 0 } (dC, dI) (tyY ca) (wY ca q) (zY tt) [.ref (q 39), .int a1] g none g' := by
  refine z_enter (wY_ok ca q) (zY_ok tt) (by decide +kernel) rfl (Nat.le_of_ble_eq_true rfl) (fun J hC => ?_)
  have hC : z_Cx J l cJ7_fill_53178 4 wsJ7_fill_53178 RJ7 none { frames := 0, cells := 0, slots := 0, locals := 0 } (dC, dI) (tyY ca) (wY ca q) (zY tt) (z_QI (dC, dI) (tyY ca) (wY ca q) none g') z_X0 := hC
  show J 0 [(0, .ref (q 39)), (1, .int a1)] [] g
  have hJ5 : ∀ (x1 : Int32) (x2 : Int32) (x3 : Int32) (g : z_G), fY_J7_fill_53178_r39_5_go x1 x2 x3 g = some (r, g') → J 5 [(0, .ref (q 39)), (1, .int x1), (2, .int x2), (3, .int x3)] [] g := by
    intro x1 x2 x3 g hf
    refine z_loopE (P := fun w : Int32 × Int32 × Int32 × z_G => J 5 [(0, .ref (q 39)), (1, .int w.1), (2, .int w.2.1), (3, .int w.2.2.1)] [] w.2.2.2) (fun k5 hk5 w hf => ?_) z_fuel (x1, x2, x3, g) hf
    obtain ⟨x1, x2, x3, g⟩ := w
    have hf : fY_J7_fill_53178_r39_5 k5 x1 x2 x3 g = some (r, g') := hf
    show J 5 [(0, .ref (q 39)), (1, .int x1), (2, .int x2), (3, .int x3)] [] g
    unfold fY_J7_fill_53178_r39_5 at hf
    refine zj_iload_n 2 hC dJ7_fill_53178_5 rfl ?_
    refine zj_iload_n 3 hC dJ7_fill_53178_6 rfl ?_
    refine zj_icmp_ge 20 hC dJ7_fill_53178_7 (by decide) (fun c1 => ?_) (fun c1 => ?_)
    · have hf := z_iteT hf c1
      exact zj_vreturn hC hf dJ7_fill_53178_20
    · have hf := z_iteF hf c1
      refine zj_aload_n 0 hC dJ7_fill_53178_10 rfl ?_
      refine zj_iload_n 2 hC dJ7_fill_53178_11 rfl ?_
      refine zj_iload_n 1 hC dJ7_fill_53178_12 rfl ?_
      obtain ⟨hq2, hf⟩ := z_ckE hf
      refine ys_39 hC hq2 dJ7_fill_53178_13 (fun g3 eg3 => ?_)
      have hf := z_letE hf eg3
      refine zj_iinc (lv1 := fun v => [(2, .int v), (0, .ref (q 39)), (1, .int x1), (3, .int x3)]) 2 hC dJ7_fill_53178_14 rfl (by decide) (fun _ => rfl) (fun y4 ey4 => ?_)
      have hf := z_letE hf (show y4 = x2 + 1 from ey4)
      refine zj_goto 5 hC dJ7_fill_53178_17 (by decide) ?_
      exact zj_sub hC [1, 2, 0, 3] rfl (hk5 (x1, y4, x3, g3) hf)
  unfold fY_J7_fill_53178_r39 at hf
  refine zj_iconst (v := 0) hC dJ7_fill_53178_0 (by decide) ?_
  refine zj_istore_n (lv1 := [(2, .int 0), (0, .ref (q 39)), (1, .int a1)]) hC dJ7_fill_53178_1 (by decide) rfl ?_
  refine zj_aload_n 1 hC dJ7_fill_53178_2 rfl ?_
  refine yl_39 hC dJ7_fill_53178_3 ?_
  refine zj_istore_n (lv1 := [(3, .int 8), (2, .int 0), (0, .ref (q 39)), (1, .int a1)]) hC dJ7_fill_53178_4 (by decide) rfl ?_
  exact zj_sub hC [2, 3, 1, 0] rfl (hJ5 a1 0 8 g hf)

def fY_X4_actFromFirstHour (g : z_G) : Option (Int32 × z_G) := z_bind (fY_J7_fill_53178_r39 0 g) (fun r1 g2 => some (0, g2))
theorem nY_X4_actFromFirstHour : yX4_actFromFirstHour.cls = RX4 ∧ yX4_actFromFirstHour.cls ≠ "java/lang/invoke/MethodHandle" ∧ yX4_actFromFirstHour.cls ≠ "java/lang/invoke/VarHandle" ∧ (parseMethodDescriptor yX4_actFromFirstHour.desc).map (fun d => d.parameters.length) = some 0 := by decide +kernel
set_option maxRecDepth 100000 in
set_option maxHeartbeats 4000000 in
theorem cY_X4_actFromFirstHour (l : Launch) (dC : Nat → ClassId) (dI : Nat → Nat → Nat) (ca : Nat → ClassId) (q : Nat → Nat) (tt : Nat → Nat) (g : z_G) (r : Int32) (g' : z_G) (hf : fY_X4_actFromFirstHour g = some (r, g')) : z_C l yX4_actFromFirstHour wsX4_actFromFirstHour { frames := 1, cells := 0, slots := 0, locals := 23 } (dC, dI) (tyY ca) (wY ca q) (zY tt) [.ref (q 5)] g none g' := by
  refine z_enter (wY_ok ca q) (zY_ok tt) (by decide +kernel) rfl (Nat.le_of_ble_eq_true rfl) (fun J hC => ?_)
  have hC : z_Cx J l cX4_actFromFirstHour 1 wsX4_actFromFirstHour RX4 none { frames := 1, cells := 0, slots := 0, locals := 23 } (dC, dI) (tyY ca) (wY ca q) (zY tt) (z_QI (dC, dI) (tyY ca) (wY ca q) none g') z_X0 := hC
  show J 0 [(0, .ref (q 5))] [] g
  have hX4 : ∀ w ∈ wsX40, w ∈ wsX4_actFromFirstHour := fun _ h => List.mem_cons_of_mem _ (List.mem_append_right _ (h))
  unfold fY_X4_actFromFirstHour at hf
  refine zj_aload_n 0 hC dX4_actFromFirstHour_0 rfl ?_
  refine yg_5_4 hC hX4 (List.mem_of_getElem? (i := 1) rfl) dX4_actFromFirstHour_1 ?_
  refine zj_iconst (v := 0) hC dX4_actFromFirstHour_4 (by decide) ?_
  obtain ⟨r1, g2, hq3, hf⟩ := z_bindE hf
  refine zj_callSv [.ref (q 39), .int 0] hC (cY_J7_fill_53178_r39 l dC dI ca q tt 0 g r1 g2 hq3) gX4_actFromFirstHour_J7_fill_53178 rfl nY_J7_fill_53178_r39 ⟨Nat.le_of_ble_eq_true rfl, Nat.le_of_ble_eq_true rfl⟩ rfl (Nat.le_of_ble_eq_true rfl) dX4_actFromFirstHour_5 rfl ?_
  exact zj_vreturn hC hf dX4_actFromFirstHour_8

def fY_X4_putAsk (a0 : Int32) (a1 : Int32) (a2 : Int32) (a3 : Int32) (g : z_G) : Option (Int32 × z_G) := z_let (((g 5 0) * 10) + a0) (fun y1 => z_ck y1 80 (z_let (z_up g 40 (Int32.toNatClampNeg y1) a1) (fun g3 => z_ck y1 80 (z_let (z_up g3 41 (Int32.toNatClampNeg y1) a2) (fun g5 => z_ck y1 80 (z_let (z_up g5 42 (Int32.toNatClampNeg y1) a3) (fun g7 => z_ck (g7 5 0) 8 (z_let (z_up g7 38 (Int32.toNatClampNeg (g7 5 0)) (a0 + 1)) (fun g9 => some (0, g9))))))))))
theorem nY_X4_putAsk : yX4_putAsk.cls = RX4 ∧ yX4_putAsk.cls ≠ "java/lang/invoke/MethodHandle" ∧ yX4_putAsk.cls ≠ "java/lang/invoke/VarHandle" ∧ (parseMethodDescriptor yX4_putAsk.desc).map (fun d => d.parameters.length) = some 4 := by decide +kernel
set_option maxRecDepth 100000 in
set_option maxHeartbeats 4000000 in
theorem cY_X4_putAsk (l : Launch) (dC : Nat → ClassId) (dI : Nat → Nat → Nat) (ca : Nat → ClassId) (q : Nat → Nat) (tt : Nat → Nat) (a0 : Int32) (a1 : Int32) (a2 : Int32) (a3 : Int32) (g : z_G) (r : Int32) (g' : z_G) (hf : fY_X4_putAsk a0 a1 a2 a3 g = some (r, g')) : z_C l yX4_putAsk wsX4_putAsk { frames := 0, cells := 0, slots := 0, locals := 0 } (dC, dI) (tyY ca) (wY ca q) (zY tt) [.ref (q 5), .int a0, .int a1, .int a2, .int a3] g none g' := by
  refine z_enter (wY_ok ca q) (zY_ok tt) (by decide +kernel) rfl (Nat.le_of_ble_eq_true rfl) (fun J hC => ?_)
  have hC : z_Cx J l cX4_putAsk 6 wsX4_putAsk RX4 none { frames := 0, cells := 0, slots := 0, locals := 0 } (dC, dI) (tyY ca) (wY ca q) (zY tt) (z_QI (dC, dI) (tyY ca) (wY ca q) none g') z_X0 := hC
  show J 0 [(0, .ref (q 5)), (1, .int a0), (2, .int a1), (3, .int a2), (4, .int a3)] [] g
  have hX4 : ∀ w ∈ wsX40, w ∈ wsX4_putAsk := fun _ h => List.mem_cons_of_mem _ (List.mem_append_right _ (h))
  unfold fY_X4_putAsk at hf
  refine zj_aload_n 0 hC dX4_putAsk_0 rfl ?_
  refine yg_5_0 hC hX4 (List.mem_of_getElem? (i := 1) rfl) dX4_putAsk_1 ?_
  refine zj_bipush (v := 10) hC dX4_putAsk_4 (by decide) ?_
  refine zj_imul hC dX4_putAsk_6 ?_
  refine zj_iload_n 1 hC dX4_putAsk_7 rfl ?_
  refine zj_iadd hC dX4_putAsk_8 ?_
  refine zj_top (fun y1 ey1 => ?_)
  have hf := z_letE hf ey1
  refine zj_istore (lv1 := [(5, .int y1), (0, .ref (q 5)), (1, .int a0), (2, .int a1), (3, .int a2), (4, .int a3)]) hC dX4_putAsk_9 (by decide) rfl ?_
  refine zj_aload_n 1 hC dX4_putAsk_11 rfl ?_
  refine yg_5_5 hC hX4 (List.mem_of_getElem? (i := 2) rfl) dX4_putAsk_12 ?_
  refine zj_iload 0 hC dX4_putAsk_15 rfl ?_
  refine zj_iload_n 3 hC dX4_putAsk_17 rfl ?_
  obtain ⟨hq2, hf⟩ := z_ckE hf
  refine ys_40 hC hq2 dX4_putAsk_18 (fun g3 eg3 => ?_)
  have hf := z_letE hf eg3
  refine zj_aload_n 1 hC dX4_putAsk_19 rfl ?_
  refine yg_5_6 hC hX4 (List.mem_of_getElem? (i := 3) rfl) dX4_putAsk_20 ?_
  refine zj_iload 0 hC dX4_putAsk_23 rfl ?_
  refine zj_iload_n 4 hC dX4_putAsk_25 rfl ?_
  obtain ⟨hq4, hf⟩ := z_ckE hf
  refine ys_41 hC hq4 dX4_putAsk_26 (fun g5 eg5 => ?_)
  have hf := z_letE hf eg5
  refine zj_aload_n 1 hC dX4_putAsk_27 rfl ?_
  refine yg_5_7 hC hX4 (List.mem_of_getElem? (i := 4) rfl) dX4_putAsk_28 ?_
  refine zj_iload 0 hC dX4_putAsk_31 rfl ?_
  refine zj_iload 5 hC dX4_putAsk_33 rfl ?_
  obtain ⟨hq6, hf⟩ := z_ckE hf
  refine ys_42 hC hq6 dX4_putAsk_35 (fun g7 eg7 => ?_)
  have hf := z_letE hf eg7
  refine zj_aload_n 1 hC dX4_putAsk_36 rfl ?_
  refine yg_5_3 hC hX4 (List.mem_of_getElem? (i := 5) rfl) dX4_putAsk_37 ?_
  refine zj_aload_n 1 hC dX4_putAsk_40 rfl ?_
  refine yg_5_0 hC hX4 (List.mem_of_getElem? (i := 1) rfl) dX4_putAsk_41 ?_
  refine zj_iload_n 2 hC dX4_putAsk_44 rfl ?_
  refine zj_iconst (v := 1) hC dX4_putAsk_45 (by decide) ?_
  refine zj_iadd hC dX4_putAsk_46 ?_
  obtain ⟨hq8, hf⟩ := z_ckE hf
  refine ys_38 hC hq8 dX4_putAsk_47 (fun g9 eg9 => ?_)
  have hf := z_letE hf eg9
  exact zj_vreturn hC hf dX4_putAsk_48

def fY_X4_putAct (a0 : Int32) (a1 : Int32) (g : z_G) : Option (Int32 × z_G) := z_ck (g 5 0) 8 (z_let (z_up g 36 (Int32.toNatClampNeg (g 5 0)) a0) (fun g2 => z_ck (g2 5 0) 8 (z_let (z_up g2 37 (Int32.toNatClampNeg (g2 5 0)) a1) (fun g4 => some (0, g4)))))
theorem nY_X4_putAct : yX4_putAct.cls = RX4 ∧ yX4_putAct.cls ≠ "java/lang/invoke/MethodHandle" ∧ yX4_putAct.cls ≠ "java/lang/invoke/VarHandle" ∧ (parseMethodDescriptor yX4_putAct.desc).map (fun d => d.parameters.length) = some 2 := by decide +kernel
set_option maxRecDepth 100000 in
set_option maxHeartbeats 4000000 in
theorem cY_X4_putAct (l : Launch) (dC : Nat → ClassId) (dI : Nat → Nat → Nat) (ca : Nat → ClassId) (q : Nat → Nat) (tt : Nat → Nat) (a0 : Int32) (a1 : Int32) (g : z_G) (r : Int32) (g' : z_G) (hf : fY_X4_putAct a0 a1 g = some (r, g')) : z_C l yX4_putAct wsX4_putAct { frames := 0, cells := 0, slots := 0, locals := 0 } (dC, dI) (tyY ca) (wY ca q) (zY tt) [.ref (q 5), .int a0, .int a1] g none g' := by
  refine z_enter (wY_ok ca q) (zY_ok tt) (by decide +kernel) rfl (Nat.le_of_ble_eq_true rfl) (fun J hC => ?_)
  have hC : z_Cx J l cX4_putAct 3 wsX4_putAct RX4 none { frames := 0, cells := 0, slots := 0, locals := 0 } (dC, dI) (tyY ca) (wY ca q) (zY tt) (z_QI (dC, dI) (tyY ca) (wY ca q) none g') z_X0 := hC
  show J 0 [(0, .ref (q 5)), (1, .int a0), (2, .int a1)] [] g
  have hX4 : ∀ w ∈ wsX40, w ∈ wsX4_putAct := fun _ h => List.mem_cons_of_mem _ (List.mem_append_right _ (h))
  unfold fY_X4_putAct at hf
  refine zj_aload_n 0 hC dX4_putAct_0 rfl ?_
  refine yg_5_1 hC hX4 (List.mem_of_getElem? (i := 1) rfl) dX4_putAct_1 ?_
  refine zj_aload_n 0 hC dX4_putAct_4 rfl ?_
  refine yg_5_0 hC hX4 (List.mem_of_getElem? (i := 2) rfl) dX4_putAct_5 ?_
  refine zj_iload_n 1 hC dX4_putAct_8 rfl ?_
  obtain ⟨hq1, hf⟩ := z_ckE hf
  refine ys_36 hC hq1 dX4_putAct_9 (fun g2 eg2 => ?_)
  have hf := z_letE hf eg2
  refine zj_aload_n 0 hC dX4_putAct_10 rfl ?_
  refine yg_5_2 hC hX4 (List.mem_of_getElem? (i := 3) rfl) dX4_putAct_11 ?_
  refine zj_aload_n 0 hC dX4_putAct_14 rfl ?_
  refine yg_5_0 hC hX4 (List.mem_of_getElem? (i := 2) rfl) dX4_putAct_15 ?_
  refine zj_iload_n 2 hC dX4_putAct_18 rfl ?_
  obtain ⟨hq3, hf⟩ := z_ckE hf
  refine ys_37 hC hq3 dX4_putAct_19 (fun g4 eg4 => ?_)
  have hf := z_letE hf eg4
  exact zj_vreturn hC hf dX4_putAct_20

def fY_X4_see (a0 : Int32) (a1 : Int32) (g : z_G) : Option (Int32 × z_G) := z_ck a0 7 (z_let (z_up g 43 (Int32.toNatClampNeg a0) a1) (fun g2 => some (0, g2)))
theorem nY_X4_see : yX4_see.cls = RX4 ∧ yX4_see.cls ≠ "java/lang/invoke/MethodHandle" ∧ yX4_see.cls ≠ "java/lang/invoke/VarHandle" ∧ (parseMethodDescriptor yX4_see.desc).map (fun d => d.parameters.length) = some 2 := by decide +kernel
set_option maxRecDepth 100000 in
set_option maxHeartbeats 4000000 in
theorem cY_X4_see (l : Launch) (dC : Nat → ClassId) (dI : Nat → Nat → Nat) (ca : Nat → ClassId) (q : Nat → Nat) (tt : Nat → Nat) (a0 : Int32) (a1 : Int32) (g : z_G) (r : Int32) (g' : z_G) (hf : fY_X4_see a0 a1 g = some (r, g')) : z_C l yX4_see wsX4_see { frames := 0, cells := 0, slots := 0, locals := 0 } (dC, dI) (tyY ca) (wY ca q) (zY tt) [.ref (q 5), .int a0, .int a1] g none g' := by
  refine z_enter (wY_ok ca q) (zY_ok tt) (by decide +kernel) rfl (Nat.le_of_ble_eq_true rfl) (fun J hC => ?_)
  have hC : z_Cx J l cX4_see 3 wsX4_see RX4 none { frames := 0, cells := 0, slots := 0, locals := 0 } (dC, dI) (tyY ca) (wY ca q) (zY tt) (z_QI (dC, dI) (tyY ca) (wY ca q) none g') z_X0 := hC
  show J 0 [(0, .ref (q 5)), (1, .int a0), (2, .int a1)] [] g
  have hX4 : ∀ w ∈ wsX40, w ∈ wsX4_see := fun _ h => List.mem_cons_of_mem _ (List.mem_append_right _ (h))
  unfold fY_X4_see at hf
  refine zj_aload_n 0 hC dX4_see_0 rfl ?_
  refine yg_5_8 hC hX4 (List.mem_of_getElem? (i := 1) rfl) dX4_see_1 ?_
  refine zj_iload_n 1 hC dX4_see_4 rfl ?_
  refine zj_iload_n 2 hC dX4_see_5 rfl ?_
  obtain ⟨hq1, hf⟩ := z_ckE hf
  refine ys_43 hC hq1 dX4_see_6 (fun g2 eg2 => ?_)
  have hf := z_letE hf eg2
  exact zj_vreturn hC hf dX4_see_7

def fY_X4_isSo_16 (s0 : Int32) (g : z_G) : Option (Int32 × z_G) := z_bo s0 (some (s0, g))
def fY_X4_isSo_46 (s0 : Int32) (g : z_G) : Option (Int32 × z_G) := z_bo s0 (some (s0, g))
def fY_X4_isSo (a0 : Int32) (a1 : Int32) (a2 : Int32) (g : z_G) : Option (Int32 × z_G) := (if a1 = 60 then (if a2 ≤ a0 then fY_X4_isSo_16 0 g else fY_X4_isSo_16 1 g) else (if a1 = 62 then (if a0 ≤ a2 then fY_X4_isSo_46 0 g else fY_X4_isSo_46 1 g) else (if a0 = a2 then fY_X4_isSo_46 1 g else fY_X4_isSo_46 0 g)))
theorem nY_X4_isSo : yX4_isSo.cls ≠ "java/lang/invoke/MethodHandle" ∧ yX4_isSo.cls ≠ "java/lang/invoke/VarHandle" ∧ (parseMethodDescriptor yX4_isSo.desc).map (fun d => d.parameters.length) = some 3 := by decide +kernel
set_option maxRecDepth 100000 in
set_option maxHeartbeats 4000000 in
theorem cY_X4_isSo (l : Launch) (dC : Nat → ClassId) (dI : Nat → Nat → Nat) (ca : Nat → ClassId) (q : Nat → Nat) (tt : Nat → Nat) (a0 : Int32) (a1 : Int32) (a2 : Int32) (g : z_G) (r : Int32) (g' : z_G) (hf : fY_X4_isSo a0 a1 a2 g = some (r, g')) : z_C l yX4_isSo wsX4_isSo { frames := 0, cells := 0, slots := 0, locals := 0 } (dC, dI) (tyY ca) (wY ca q) (zY tt) [.int a0, .int a1, .int a2] g (some r) g' := by
  refine z_enter (wY_ok ca q) (zY_ok tt) (by decide +kernel) rfl (Nat.le_of_ble_eq_true rfl) (fun J hC => ?_)
  have hC : z_Cx J l cX4_isSo 3 wsX4_isSo RX4 (some .boolean) { frames := 0, cells := 0, slots := 0, locals := 0 } (dC, dI) (tyY ca) (wY ca q) (zY tt) (z_QI (dC, dI) (tyY ca) (wY ca q) (some r) g') z_X0 := hC
  show J 0 [(0, .int a0), (1, .int a1), (2, .int a2)] [] g
  have hJ16 : ∀ (s0 : Int32) (g : z_G), fY_X4_isSo_16 s0 g = some (r, g') → J 16 [] [.int s0] g := by
    intro s0 g hf
    unfold fY_X4_isSo_16 at hf
    exact zj_zreturn hC hf dX4_isSo_16
  have hJ46 : ∀ (s0 : Int32) (g : z_G), fY_X4_isSo_46 s0 g = some (r, g') → J 46 [] [.int s0] g := by
    intro s0 g hf
    unfold fY_X4_isSo_46 at hf
    exact zj_zreturn hC hf dX4_isSo_46
  unfold fY_X4_isSo at hf
  refine zj_iload_n 1 hC dX4_isSo_0 rfl ?_
  refine zj_bipush (v := 60) hC dX4_isSo_1 (by decide) ?_
  refine zj_icmp_ne 17 hC dX4_isSo_3 (by decide) (fun c1 => ?_) (fun c1 => ?_)
  · have hf := z_iteF hf c1
    refine zj_iload_n 1 hC dX4_isSo_17 rfl ?_
    refine zj_bipush (v := 62) hC dX4_isSo_18 (by decide) ?_
    refine zj_icmp_ne 36 hC dX4_isSo_20 (by decide) (fun c2 => ?_) (fun c2 => ?_)
    · have hf := z_iteF hf c2
      refine zj_iload_n 0 hC dX4_isSo_36 rfl ?_
      refine zj_iload_n 2 hC dX4_isSo_37 rfl ?_
      refine zj_icmp_ne 45 hC dX4_isSo_38 (by decide) (fun c3 => ?_) (fun c3 => ?_)
      · have hf := z_iteF hf c3
        refine zj_iconst (v := 0) hC dX4_isSo_45 (by decide) ?_
        exact zj_sub hC [] rfl (hJ46 0 g hf)
      · have hf := z_iteT hf c3
        refine zj_iconst (v := 1) hC dX4_isSo_41 (by decide) ?_
        refine zj_goto 46 hC dX4_isSo_42 (by decide) ?_
        exact zj_sub hC [] rfl (hJ46 1 g hf)
    · have hf := z_iteT hf c2
      refine zj_iload_n 0 hC dX4_isSo_23 rfl ?_
      refine zj_iload_n 2 hC dX4_isSo_24 rfl ?_
      refine zj_icmp_le 32 hC dX4_isSo_25 (by decide) (fun c4 => ?_) (fun c4 => ?_)
      · have hf := z_iteT hf c4
        refine zj_iconst (v := 0) hC dX4_isSo_32 (by decide) ?_
        refine zj_goto 46 hC dX4_isSo_33 (by decide) ?_
        exact zj_sub hC [] rfl (hJ46 0 g hf)
      · have hf := z_iteF hf c4
        refine zj_iconst (v := 1) hC dX4_isSo_28 (by decide) ?_
        refine zj_goto 46 hC dX4_isSo_29 (by decide) ?_
        exact zj_sub hC [] rfl (hJ46 1 g hf)
  · have hf := z_iteT hf c1
    refine zj_iload_n 0 hC dX4_isSo_6 rfl ?_
    refine zj_iload_n 2 hC dX4_isSo_7 rfl ?_
    refine zj_icmp_ge 15 hC dX4_isSo_8 (by decide) (fun c5 => ?_) (fun c5 => ?_)
    · have hf := z_iteT hf c5
      refine zj_iconst (v := 0) hC dX4_isSo_15 (by decide) ?_
      exact zj_sub hC [] rfl (hJ16 0 g hf)
    · have hf := z_iteF hf c5
      refine zj_iconst (v := 1) hC dX4_isSo_11 (by decide) ?_
      refine zj_goto 16 hC dX4_isSo_12 (by decide) ?_
      exact zj_sub hC [] rfl (hJ16 1 g hf)

def fY_X4_holdsAt_17 (k17 : Int32 × Int32 × z_G → Option (Int32 × z_G)) (x1 : Int32) (x3 : Int32) (g : z_G) : Option (Int32 × z_G) := z_ck x1 8 ((if ((x1 * 10) + (g 38 (Int32.toNatClampNeg x1))) ≤ x3 then z_bo 1 (some (1, g)) else z_ck x3 80 (z_ck (g 40 (Int32.toNatClampNeg x3)) 7 (z_ck x3 80 (z_ck x3 80 (z_bind (fY_X4_isSo (g 43 (Int32.toNatClampNeg (g 40 (Int32.toNatClampNeg x3)))) (g 41 (Int32.toNatClampNeg x3)) (g 42 (Int32.toNatClampNeg x3)) g) (fun r7 g8 => (if r7 = 0 then z_bo 0 (some (0, g8)) else z_let (x3 + 1) (fun y11 => k17 (x1, y11, g8))))))))))
def fY_X4_holdsAt_17_go (x1 : Int32) (x3 : Int32) (g : z_G) : Option (Int32 × z_G) := z_loop (fun k (w : Int32 × Int32 × z_G) => fY_X4_holdsAt_17 k w.1 w.2.1 w.2.2) z_fuel (x1, x3, g)
def fY_X4_holdsAt (a0 : Int32) (a1 : Int32) (g : z_G) : Option (Int32 × z_G) := z_ck a0 8 ((if (g 39 (Int32.toNatClampNeg a0)) ≤ a1 then z_let (a0 * 10) (fun y14 => fY_X4_holdsAt_17_go a0 y14 g) else z_bo 0 (some (0, g))))
theorem nY_X4_holdsAt : yX4_holdsAt.cls = RX4 ∧ yX4_holdsAt.cls ≠ "java/lang/invoke/MethodHandle" ∧ yX4_holdsAt.cls ≠ "java/lang/invoke/VarHandle" ∧ (parseMethodDescriptor yX4_holdsAt.desc).map (fun d => d.parameters.length) = some 2 := by decide +kernel
set_option maxRecDepth 100000 in
set_option maxHeartbeats 4000000 in
theorem cY_X4_holdsAt (l : Launch) (dC : Nat → ClassId) (dI : Nat → Nat → Nat) (ca : Nat → ClassId) (q : Nat → Nat) (tt : Nat → Nat) (a0 : Int32) (a1 : Int32) (g : z_G) (r : Int32) (g' : z_G) (hf : fY_X4_holdsAt a0 a1 g = some (r, g')) : z_C l yX4_holdsAt wsX4_holdsAt { frames := 1, cells := 0, slots := 0, locals := 22 } (dC, dI) (tyY ca) (wY ca q) (zY tt) [.ref (q 5), .int a0, .int a1] g (some r) g' := by
  refine z_enter (wY_ok ca q) (zY_ok tt) (by decide +kernel) rfl (Nat.le_of_ble_eq_true rfl) (fun J hC => ?_)
  have hC : z_Cx J l cX4_holdsAt 4 wsX4_holdsAt RX4 (some .boolean) { frames := 1, cells := 0, slots := 0, locals := 22 } (dC, dI) (tyY ca) (wY ca q) (zY tt) (z_QI (dC, dI) (tyY ca) (wY ca q) (some r) g') z_X0 := hC
  show J 0 [(0, .ref (q 5)), (1, .int a0), (2, .int a1)] [] g
  have hX4 : ∀ w ∈ wsX40, w ∈ wsX4_holdsAt := fun _ h => List.mem_cons_of_mem _ (List.mem_append_right _ (h))
  have hJ17 : ∀ (x1 : Int32) (x3 : Int32) (g : z_G), fY_X4_holdsAt_17_go x1 x3 g = some (r, g') → J 17 [(0, .ref (q 5)), (1, .int x1), (3, .int x3)] [] g := by
    intro x1 x3 g hf
    refine z_loopE (P := fun w : Int32 × Int32 × z_G => J 17 [(0, .ref (q 5)), (1, .int w.1), (3, .int w.2.1)] [] w.2.2) (fun k17 hk17 w hf => ?_) z_fuel (x1, x3, g) hf
    obtain ⟨x1, x3, g⟩ := w
    have hf : fY_X4_holdsAt_17 k17 x1 x3 g = some (r, g') := hf
    show J 17 [(0, .ref (q 5)), (1, .int x1), (3, .int x3)] [] g
    unfold fY_X4_holdsAt_17 at hf
    refine zj_iload_n 2 hC dX4_holdsAt_17 rfl ?_
    refine zj_iload_n 1 hC dX4_holdsAt_18 rfl ?_
    refine zj_bipush (v := 10) hC dX4_holdsAt_19 (by decide) ?_
    refine zj_imul hC dX4_holdsAt_21 ?_
    refine zj_aload_n 0 hC dX4_holdsAt_22 rfl ?_
    refine yg_5_3 hC hX4 (List.mem_of_getElem? (i := 2) rfl) dX4_holdsAt_23 ?_
    refine zj_iload_n 1 hC dX4_holdsAt_26 rfl ?_
    obtain ⟨hq1, hf⟩ := z_ckE hf
    refine ya_38 hC hq1 dX4_holdsAt_27 ?_
    refine zj_iadd hC dX4_holdsAt_28 ?_
    refine zj_icmp_ge 69 hC dX4_holdsAt_29 (by decide) (fun c2 => ?_) (fun c2 => ?_)
    · have hf := z_iteT hf c2
      refine zj_iconst (v := 1) hC dX4_holdsAt_69 (by decide) ?_
      exact zj_zreturn hC hf dX4_holdsAt_70
    · have hf := z_iteF hf c2
      refine zj_aload_n 0 hC dX4_holdsAt_32 rfl ?_
      refine yg_5_8 hC hX4 (List.mem_of_getElem? (i := 3) rfl) dX4_holdsAt_33 ?_
      refine zj_aload_n 0 hC dX4_holdsAt_36 rfl ?_
      refine yg_5_5 hC hX4 (List.mem_of_getElem? (i := 4) rfl) dX4_holdsAt_37 ?_
      refine zj_iload_n 2 hC dX4_holdsAt_40 rfl ?_
      obtain ⟨hq3, hf⟩ := z_ckE hf
      refine ya_40 hC hq3 dX4_holdsAt_41 ?_
      obtain ⟨hq4, hf⟩ := z_ckE hf
      refine ya_43 hC hq4 dX4_holdsAt_42 ?_
      refine zj_aload_n 0 hC dX4_holdsAt_43 rfl ?_
      refine yg_5_6 hC hX4 (List.mem_of_getElem? (i := 5) rfl) dX4_holdsAt_44 ?_
      refine zj_iload_n 2 hC dX4_holdsAt_47 rfl ?_
      obtain ⟨hq5, hf⟩ := z_ckE hf
      refine ya_41 hC hq5 dX4_holdsAt_48 ?_
      refine zj_aload_n 0 hC dX4_holdsAt_49 rfl ?_
      refine yg_5_7 hC hX4 (List.mem_of_getElem? (i := 6) rfl) dX4_holdsAt_50 ?_
      refine zj_iload_n 2 hC dX4_holdsAt_53 rfl ?_
      obtain ⟨hq6, hf⟩ := z_ckE hf
      refine ya_42 hC hq6 dX4_holdsAt_54 ?_
      obtain ⟨r7, g8, hq9, hf⟩ := z_bindE hf
      refine zj_callSi [.int (g 43 (Int32.toNatClampNeg (g 40 (Int32.toNatClampNeg x3)))), .int (g 41 (Int32.toNatClampNeg x3)), .int (g 42 (Int32.toNatClampNeg x3))] hC (cY_X4_isSo l dC dI ca q tt (g 43 (Int32.toNatClampNeg (g 40 (Int32.toNatClampNeg x3)))) (g 41 (Int32.toNatClampNeg x3)) (g 42 (Int32.toNatClampNeg x3)) g r7 g8 hq9) gX4_holdsAt_X4_isSo rfl nY_X4_isSo ⟨Nat.le_of_ble_eq_true rfl, Nat.le_of_ble_eq_true rfl⟩ rfl (Nat.le_of_ble_eq_true rfl) dX4_holdsAt_55 rfl ?_
      refine zj_if_ne 63 hC dX4_holdsAt_58 (by decide) (fun c10 => ?_) (fun c10 => ?_)
      · have hf := z_iteF hf c10
        refine zj_iinc (lv1 := fun v => [(3, .int v), (0, .ref (q 5)), (1, .int x1)]) 2 hC dX4_holdsAt_63 rfl (by decide) (fun _ => rfl) (fun y11 ey11 => ?_)
        have hf := z_letE hf (show y11 = x3 + 1 from ey11)
        refine zj_goto 17 hC dX4_holdsAt_66 (by decide) ?_
        exact zj_sub hC [1, 2, 0] rfl (hk17 (x1, y11, g8) hf)
      · have hf := z_iteT hf c10
        refine zj_iconst (v := 0) hC dX4_holdsAt_61 (by decide) ?_
        exact zj_zreturn hC hf dX4_holdsAt_62
  unfold fY_X4_holdsAt at hf
  refine zj_iload_n 2 hC dX4_holdsAt_0 rfl ?_
  refine zj_aload_n 0 hC dX4_holdsAt_1 rfl ?_
  refine yg_5_4 hC hX4 (List.mem_of_getElem? (i := 1) rfl) dX4_holdsAt_2 ?_
  refine zj_iload_n 1 hC dX4_holdsAt_5 rfl ?_
  obtain ⟨hq12, hf⟩ := z_ckE hf
  refine ya_39 hC hq12 dX4_holdsAt_6 ?_
  refine zj_icmp_ge 12 hC dX4_holdsAt_7 (by decide) (fun c13 => ?_) (fun c13 => ?_)
  · have hf := z_iteT hf c13
    refine zj_iload_n 1 hC dX4_holdsAt_12 rfl ?_
    refine zj_bipush (v := 10) hC dX4_holdsAt_13 (by decide) ?_
    refine zj_imul hC dX4_holdsAt_15 ?_
    refine zj_top (fun y14 ey14 => ?_)
    have hf := z_letE hf ey14
    refine zj_istore_n (lv1 := [(3, .int y14), (0, .ref (q 5)), (1, .int a0), (2, .int a1)]) hC dX4_holdsAt_16 (by decide) rfl ?_
    exact zj_sub hC [1, 2, 0] rfl (hJ17 a0 y14 g hf)
  · have hf := z_iteF hf c13
    refine zj_iconst (v := 0) hC dX4_holdsAt_10 (by decide) ?_
    exact zj_zreturn hC hf dX4_holdsAt_11

def fY_X6_has_17 (s0 : Int32) (g : z_G) : Option (Int32 × z_G) := z_bo s0 (some (s0, g))
def fY_X6_has_16  (g : z_G) : Option (Int32 × z_G) := fY_X6_has_17 0 g
def fY_X6_has (a0 : Int32) (g : z_G) : Option (Int32 × z_G) := (if a0 < 0 then fY_X6_has_16 g else (if (g 7 0) ≤ a0 then fY_X6_has_16 g else fY_X6_has_17 1 g))
theorem nY_X6_has : yX6_has.cls = RX6 ∧ yX6_has.cls ≠ "java/lang/invoke/MethodHandle" ∧ yX6_has.cls ≠ "java/lang/invoke/VarHandle" ∧ (parseMethodDescriptor yX6_has.desc).map (fun d => d.parameters.length) = some 1 := by decide +kernel
set_option maxRecDepth 100000 in
set_option maxHeartbeats 4000000 in
theorem cY_X6_has (l : Launch) (dC : Nat → ClassId) (dI : Nat → Nat → Nat) (ca : Nat → ClassId) (q : Nat → Nat) (tt : Nat → Nat) (a0 : Int32) (g : z_G) (r : Int32) (g' : z_G) (hf : fY_X6_has a0 g = some (r, g')) : z_C l yX6_has wsX6_has { frames := 0, cells := 0, slots := 0, locals := 0 } (dC, dI) (tyY ca) (wY ca q) (zY tt) [.ref (q 7), .int a0] g (some r) g' := by
  refine z_enter (wY_ok ca q) (zY_ok tt) (by decide +kernel) rfl (Nat.le_of_ble_eq_true rfl) (fun J hC => ?_)
  have hC : z_Cx J l cX6_has 2 wsX6_has RX6 (some .boolean) { frames := 0, cells := 0, slots := 0, locals := 0 } (dC, dI) (tyY ca) (wY ca q) (zY tt) (z_QI (dC, dI) (tyY ca) (wY ca q) (some r) g') z_X0 := hC
  show J 0 [(0, .ref (q 7)), (1, .int a0)] [] g
  have hX6 : ∀ w ∈ wsX60, w ∈ wsX6_has := fun _ h => List.mem_cons_of_mem _ (List.mem_append_right _ (h))
  have hJ17 : ∀ (s0 : Int32) (g : z_G), fY_X6_has_17 s0 g = some (r, g') → J 17 [] [.int s0] g := by
    intro s0 g hf
    unfold fY_X6_has_17 at hf
    exact zj_zreturn hC hf dX6_has_17
  have hJ16 : ∀ (g : z_G), fY_X6_has_16 g = some (r, g') → J 16 [] [] g := by
    intro g hf
    unfold fY_X6_has_16 at hf
    refine zj_iconst (v := 0) hC dX6_has_16 (by decide) ?_
    exact (hJ17 0 g hf)
  unfold fY_X6_has at hf
  refine zj_iload_n 1 hC dX6_has_0 rfl ?_
  refine zj_if_lt 16 hC dX6_has_1 (by decide) (fun c1 => ?_) (fun c1 => ?_)
  · have hf := z_iteT hf c1
    exact zj_sub hC [] rfl (hJ16 g hf)
  · have hf := z_iteF hf c1
    refine zj_iload_n 1 hC dX6_has_4 rfl ?_
    refine zj_aload_n 0 hC dX6_has_5 rfl ?_
    refine yg_7_0 hC hX6 (List.mem_of_getElem? (i := 1) rfl) dX6_has_6 ?_
    refine zj_icmp_ge 16 hC dX6_has_9 (by decide) (fun c2 => ?_) (fun c2 => ?_)
    · have hf := z_iteT hf c2
      exact zj_sub hC [] rfl (hJ16 g hf)
    · have hf := z_iteF hf c2
      refine zj_iconst (v := 1) hC dX6_has_12 (by decide) ?_
      refine zj_goto 17 hC dX6_has_13 (by decide) ?_
      exact zj_sub hC [] rfl (hJ17 1 g hf)

def fY_X6_plant (a0 : Int32) (a1 : Int32) (a2 : Int32) (g : z_G) : Option (Int32 × z_G) := (if (g 7 0) < 12 then z_ck (g 7 0) 12 (z_let (z_up g 44 (Int32.toNatClampNeg (g 7 0)) a0) (fun g3 => z_ck (g3 7 0) 12 (z_let (z_up g3 45 (Int32.toNatClampNeg (g3 7 0)) a1) (fun g5 => z_ck (g5 7 0) 12 (z_let (z_up g5 46 (Int32.toNatClampNeg (g5 7 0)) a2) (fun g7 => z_let (z_up g7 7 0 ((g7 7 0) + 1)) (fun g8 => some ((g8 7 0) - 1, g8)))))))) else some ((-1), g))
theorem nY_X6_plant : yX6_plant.cls = RX6 ∧ yX6_plant.cls ≠ "java/lang/invoke/MethodHandle" ∧ yX6_plant.cls ≠ "java/lang/invoke/VarHandle" ∧ (parseMethodDescriptor yX6_plant.desc).map (fun d => d.parameters.length) = some 3 := by decide +kernel
set_option maxRecDepth 100000 in
set_option maxHeartbeats 4000000 in
theorem cY_X6_plant (l : Launch) (dC : Nat → ClassId) (dI : Nat → Nat → Nat) (ca : Nat → ClassId) (q : Nat → Nat) (tt : Nat → Nat) (a0 : Int32) (a1 : Int32) (a2 : Int32) (g : z_G) (r : Int32) (g' : z_G) (hf : fY_X6_plant a0 a1 a2 g = some (r, g')) : z_C l yX6_plant wsX6_plant { frames := 0, cells := 0, slots := 0, locals := 0 } (dC, dI) (tyY ca) (wY ca q) (zY tt) [.ref (q 7), .int a0, .int a1, .int a2] g (some r) g' := by
  refine z_enter (wY_ok ca q) (zY_ok tt) (by decide +kernel) rfl (Nat.le_of_ble_eq_true rfl) (fun J hC => ?_)
  have hC : z_Cx J l cX6_plant 4 wsX6_plant RX6 (some .int) { frames := 0, cells := 0, slots := 0, locals := 0 } (dC, dI) (tyY ca) (wY ca q) (zY tt) (z_QI (dC, dI) (tyY ca) (wY ca q) (some r) g') z_X0 := hC
  show J 0 [(0, .ref (q 7)), (1, .int a0), (2, .int a1), (3, .int a2)] [] g
  have hX6 : ∀ w ∈ wsX60, w ∈ wsX6_plant := fun _ h => List.mem_cons_of_mem _ (List.mem_append_right _ (h))
  unfold fY_X6_plant at hf
  refine zj_aload_n 0 hC dX6_plant_0 rfl ?_
  refine yg_7_0 hC hX6 (List.mem_of_getElem? (i := 1) rfl) dX6_plant_1 ?_
  refine zj_bipush (v := 12) hC dX6_plant_4 (by decide) ?_
  refine zj_icmp_lt 11 hC dX6_plant_6 (by decide) (fun c1 => ?_) (fun c1 => ?_)
  · have hf := z_iteT hf c1
    refine zj_aload_n 0 hC dX6_plant_11 rfl ?_
    refine yg_7_1 hC hX6 (List.mem_of_getElem? (i := 2) rfl) dX6_plant_12 ?_
    refine zj_aload_n 0 hC dX6_plant_15 rfl ?_
    refine yg_7_0 hC hX6 (List.mem_of_getElem? (i := 1) rfl) dX6_plant_16 ?_
    refine zj_iload_n 1 hC dX6_plant_19 rfl ?_
    obtain ⟨hq2, hf⟩ := z_ckE hf
    refine ys_44 hC hq2 dX6_plant_20 (fun g3 eg3 => ?_)
    have hf := z_letE hf eg3
    refine zj_aload_n 0 hC dX6_plant_21 rfl ?_
    refine yg_7_2 hC hX6 (List.mem_of_getElem? (i := 3) rfl) dX6_plant_22 ?_
    refine zj_aload_n 0 hC dX6_plant_25 rfl ?_
    refine yg_7_0 hC hX6 (List.mem_of_getElem? (i := 1) rfl) dX6_plant_26 ?_
    refine zj_iload_n 2 hC dX6_plant_29 rfl ?_
    obtain ⟨hq4, hf⟩ := z_ckE hf
    refine ys_45 hC hq4 dX6_plant_30 (fun g5 eg5 => ?_)
    have hf := z_letE hf eg5
    refine zj_aload_n 0 hC dX6_plant_31 rfl ?_
    refine yg_7_3 hC hX6 (List.mem_of_getElem? (i := 4) rfl) dX6_plant_32 ?_
    refine zj_aload_n 0 hC dX6_plant_35 rfl ?_
    refine yg_7_0 hC hX6 (List.mem_of_getElem? (i := 1) rfl) dX6_plant_36 ?_
    refine zj_iload_n 3 hC dX6_plant_39 rfl ?_
    obtain ⟨hq6, hf⟩ := z_ckE hf
    refine ys_46 hC hq6 dX6_plant_40 (fun g7 eg7 => ?_)
    have hf := z_letE hf eg7
    refine zj_aload_n 0 hC dX6_plant_41 rfl ?_
    refine zj_dup hC dX6_plant_42 rfl ?_
    refine yg_7_0 hC hX6 (List.mem_of_getElem? (i := 1) rfl) dX6_plant_43 ?_
    refine zj_iconst (v := 1) hC dX6_plant_46 (by decide) ?_
    refine zj_iadd hC dX6_plant_47 ?_
    refine yp_7_0 hC hX6 (List.mem_of_getElem? (i := 1) rfl) dX6_plant_48 (fun g8 eg8 => ?_)
    have hf := z_letE hf eg8
    refine zj_aload_n 0 hC dX6_plant_51 rfl ?_
    refine yg_7_0 hC hX6 (List.mem_of_getElem? (i := 1) rfl) dX6_plant_52 ?_
    refine zj_iconst (v := 1) hC dX6_plant_55 (by decide) ?_
    refine zj_isub hC dX6_plant_56 ?_
    exact zj_ireturn hC hf dX6_plant_57
  · have hf := z_iteF hf c1
    refine zj_iconst (v := (-1)) hC dX6_plant_9 (by decide) ?_
    exact zj_ireturn hC hf dX6_plant_10

def fY_X6_grow_2 (k2 : Int32 × Int32 × z_G → Option (Int32 × z_G)) (x1 : Int32) (x2 : Int32) (g : z_G) : Option (Int32 × z_G) := (if (g 7 0) ≤ x2 then some (0, g) else z_ck x2 12 (z_let (if ((g 44 (Int32.toNatClampNeg x2)) + x1) < 10000 then (g 44 (Int32.toNatClampNeg x2)) + x1 else 10000) (fun y3 => z_ck x2 12 (z_let (z_up g 44 (Int32.toNatClampNeg x2) y3) (fun g5 => z_let (x2 + 1) (fun y6 => k2 (x1, y6, g5)))))))
def fY_X6_grow_2_go (x1 : Int32) (x2 : Int32) (g : z_G) : Option (Int32 × z_G) := z_loop (fun k (w : Int32 × Int32 × z_G) => fY_X6_grow_2 k w.1 w.2.1 w.2.2) z_fuel (x1, x2, g)
def fY_X6_grow (a0 : Int32) (g : z_G) : Option (Int32 × z_G) := fY_X6_grow_2_go a0 0 g
theorem nY_X6_grow : yX6_grow.cls = RX6 ∧ yX6_grow.cls ≠ "java/lang/invoke/MethodHandle" ∧ yX6_grow.cls ≠ "java/lang/invoke/VarHandle" ∧ (parseMethodDescriptor yX6_grow.desc).map (fun d => d.parameters.length) = some 1 := by decide +kernel
set_option maxRecDepth 100000 in
set_option maxHeartbeats 4000000 in
theorem cY_X6_grow (l : Launch) (dC : Nat → ClassId) (dI : Nat → Nat → Nat) (ca : Nat → ClassId) (q : Nat → Nat) (tt : Nat → Nat) (a0 : Int32) (g : z_G) (r : Int32) (g' : z_G) (hf : fY_X6_grow a0 g = some (r, g')) : z_C l yX6_grow wsX6_grow { frames := 1, cells := 0, slots := 0, locals := 21 } (dC, dI) (tyY ca) (wY ca q) (zY tt) [.ref (q 7), .int a0] g none g' := by
  refine z_enter (wY_ok ca q) (zY_ok tt) (by decide +kernel) rfl (Nat.le_of_ble_eq_true rfl) (fun J hC => ?_)
  have hC : z_Cx J l cX6_grow 3 wsX6_grow RX6 none { frames := 1, cells := 0, slots := 0, locals := 21 } (dC, dI) (tyY ca) (wY ca q) (zY tt) (z_QI (dC, dI) (tyY ca) (wY ca q) none g') z_X0 := hC
  show J 0 [(0, .ref (q 7)), (1, .int a0)] [] g
  have hX6 : ∀ w ∈ wsX60, w ∈ wsX6_grow := fun _ h => List.mem_cons_of_mem _ (List.mem_append_right _ (h))
  have hJ2 : ∀ (x1 : Int32) (x2 : Int32) (g : z_G), fY_X6_grow_2_go x1 x2 g = some (r, g') → J 2 [(0, .ref (q 7)), (1, .int x1), (2, .int x2)] [] g := by
    intro x1 x2 g hf
    refine z_loopE (P := fun w : Int32 × Int32 × z_G => J 2 [(0, .ref (q 7)), (1, .int w.1), (2, .int w.2.1)] [] w.2.2) (fun k2 hk2 w hf => ?_) z_fuel (x1, x2, g) hf
    obtain ⟨x1, x2, g⟩ := w
    have hf : fY_X6_grow_2 k2 x1 x2 g = some (r, g') := hf
    show J 2 [(0, .ref (q 7)), (1, .int x1), (2, .int x2)] [] g
    unfold fY_X6_grow_2 at hf
    refine zj_iload_n 2 hC dX6_grow_2 rfl ?_
    refine zj_aload_n 0 hC dX6_grow_3 rfl ?_
    refine yg_7_0 hC hX6 (List.mem_of_getElem? (i := 1) rfl) dX6_grow_4 ?_
    refine zj_icmp_ge 36 hC dX6_grow_7 (by decide) (fun c1 => ?_) (fun c1 => ?_)
    · have hf := z_iteT hf c1
      exact zj_vreturn hC hf dX6_grow_36
    · have hf := z_iteF hf c1
      refine zj_aload_n 0 hC dX6_grow_10 rfl ?_
      refine yg_7_1 hC hX6 (List.mem_of_getElem? (i := 2) rfl) dX6_grow_11 ?_
      refine zj_iload_n 2 hC dX6_grow_14 rfl ?_
      refine zj_sipush (v := 10000) hC dX6_grow_15 (by decide) ?_
      refine zj_aload_n 0 hC dX6_grow_18 rfl ?_
      refine yg_7_1 hC hX6 (List.mem_of_getElem? (i := 2) rfl) dX6_grow_19 ?_
      refine zj_iload_n 2 hC dX6_grow_22 rfl ?_
      obtain ⟨hq2, hf⟩ := z_ckE hf
      refine ya_44 hC hq2 dX6_grow_23 ?_
      refine zj_iload_n 1 hC dX6_grow_24 rfl ?_
      refine zj_iadd hC dX6_grow_25 ?_
      refine zj_min hC (List.mem_of_getElem? (i := 3) rfl) (List.mem_of_getElem? (i := 4) rfl) (List.mem_of_getElem? (i := 5) rfl) (List.mem_of_getElem? (i := 6) rfl) (Nat.le_of_ble_eq_true rfl) (Nat.le_of_ble_eq_true rfl) dX6_grow_26 ?_
      refine zj_top (fun y3 ey3 => ?_)
      have hf := z_letE hf ey3
      obtain ⟨hq4, hf⟩ := z_ckE hf
      refine ys_44 hC hq4 dX6_grow_29 (fun g5 eg5 => ?_)
      have hf := z_letE hf eg5
      refine zj_iinc (lv1 := fun v => [(2, .int v), (0, .ref (q 7)), (1, .int x1)]) 2 hC dX6_grow_30 rfl (by decide) (fun _ => rfl) (fun y6 ey6 => ?_)
      have hf := z_letE hf (show y6 = x2 + 1 from ey6)
      refine zj_goto 2 hC dX6_grow_33 (by decide) ?_
      exact zj_sub hC [1, 2, 0] rfl (hk2 (x1, y6, g5) hf)
  unfold fY_X6_grow at hf
  refine zj_iconst (v := 0) hC dX6_grow_0 (by decide) ?_
  refine zj_istore_n (lv1 := [(2, .int 0), (0, .ref (q 7)), (1, .int a0)]) hC dX6_grow_1 (by decide) rfl ?_
  exact zj_sub hC [1, 2, 0] rfl (hJ2 a0 0 g hf)

def fY_X6_yearsLeft (a0 : Int32) (g : z_G) : Option (Int32 × z_G) := z_ck a0 12 (z_ck a0 12 (z_let (if 0 < ((g 45 (Int32.toNatClampNeg a0)) - (g 44 (Int32.toNatClampNeg a0))) then (g 45 (Int32.toNatClampNeg a0)) - (g 44 (Int32.toNatClampNeg a0)) else 0) (fun y3 => some (y3, g))))
theorem nY_X6_yearsLeft : yX6_yearsLeft.cls = RX6 ∧ yX6_yearsLeft.cls ≠ "java/lang/invoke/MethodHandle" ∧ yX6_yearsLeft.cls ≠ "java/lang/invoke/VarHandle" ∧ (parseMethodDescriptor yX6_yearsLeft.desc).map (fun d => d.parameters.length) = some 1 := by decide +kernel
set_option maxRecDepth 100000 in
set_option maxHeartbeats 4000000 in
theorem cY_X6_yearsLeft (l : Launch) (dC : Nat → ClassId) (dI : Nat → Nat → Nat) (ca : Nat → ClassId) (q : Nat → Nat) (tt : Nat → Nat) (a0 : Int32) (g : z_G) (r : Int32) (g' : z_G) (hf : fY_X6_yearsLeft a0 g = some (r, g')) : z_C l yX6_yearsLeft wsX6_yearsLeft { frames := 1, cells := 0, slots := 0, locals := 21 } (dC, dI) (tyY ca) (wY ca q) (zY tt) [.ref (q 7), .int a0] g (some r) g' := by
  refine z_enter (wY_ok ca q) (zY_ok tt) (by decide +kernel) rfl (Nat.le_of_ble_eq_true rfl) (fun J hC => ?_)
  have hC : z_Cx J l cX6_yearsLeft 2 wsX6_yearsLeft RX6 (some .int) { frames := 1, cells := 0, slots := 0, locals := 21 } (dC, dI) (tyY ca) (wY ca q) (zY tt) (z_QI (dC, dI) (tyY ca) (wY ca q) (some r) g') z_X0 := hC
  show J 0 [(0, .ref (q 7)), (1, .int a0)] [] g
  have hX6 : ∀ w ∈ wsX60, w ∈ wsX6_yearsLeft := fun _ h => List.mem_cons_of_mem _ (List.mem_append_right _ (h))
  unfold fY_X6_yearsLeft at hf
  refine zj_iconst (v := 0) hC dX6_yearsLeft_0 (by decide) ?_
  refine zj_aload_n 0 hC dX6_yearsLeft_1 rfl ?_
  refine yg_7_2 hC hX6 (List.mem_of_getElem? (i := 1) rfl) dX6_yearsLeft_2 ?_
  refine zj_iload_n 1 hC dX6_yearsLeft_5 rfl ?_
  obtain ⟨hq1, hf⟩ := z_ckE hf
  refine ya_45 hC hq1 dX6_yearsLeft_6 ?_
  refine zj_aload_n 0 hC dX6_yearsLeft_7 rfl ?_
  refine yg_7_1 hC hX6 (List.mem_of_getElem? (i := 2) rfl) dX6_yearsLeft_8 ?_
  refine zj_iload_n 1 hC dX6_yearsLeft_11 rfl ?_
  obtain ⟨hq2, hf⟩ := z_ckE hf
  refine ya_44 hC hq2 dX6_yearsLeft_12 ?_
  refine zj_isub hC dX6_yearsLeft_13 ?_
  refine zj_max hC (List.mem_of_getElem? (i := 3) rfl) (List.mem_of_getElem? (i := 4) rfl) (List.mem_of_getElem? (i := 5) rfl) (List.mem_of_getElem? (i := 6) rfl) (Nat.le_of_ble_eq_true rfl) (Nat.le_of_ble_eq_true rfl) dX6_yearsLeft_14 ?_
  refine zj_top (fun y3 ey3 => ?_)
  have hf := z_letE hf ey3
  exact zj_ireturn hC hf dX6_yearsLeft_17

def fY_X6_ripeOnes_26 (k4 : Int32 × Int32 × z_G → Option (Int32 × z_G)) (x1 : Int32) (x2 : Int32) (g : z_G) : Option (Int32 × z_G) := z_let (x2 + 1) (fun y1 => k4 (x1, y1, g))
def fY_X6_ripeOnes_4 (k4 : Int32 × Int32 × z_G → Option (Int32 × z_G)) (x1 : Int32) (x2 : Int32) (g : z_G) : Option (Int32 × z_G) := (if (g 7 0) ≤ x2 then some (x1, g) else z_bind (fY_X6_yearsLeft x2 g) (fun r3 g4 => (if r3 = 0 then z_let (x1 ||| (1 <<< (x2 &&& 31))) (fun y7 => fY_X6_ripeOnes_26 k4 y7 x2 g4) else fY_X6_ripeOnes_26 k4 x1 x2 g4)))
def fY_X6_ripeOnes_4_go (x1 : Int32) (x2 : Int32) (g : z_G) : Option (Int32 × z_G) := z_loop (fun k (w : Int32 × Int32 × z_G) => fY_X6_ripeOnes_4 k w.1 w.2.1 w.2.2) z_fuel (x1, x2, g)
def fY_X6_ripeOnes (g : z_G) : Option (Int32 × z_G) := fY_X6_ripeOnes_4_go 0 0 g
theorem nY_X6_ripeOnes : yX6_ripeOnes.cls = RX6 ∧ yX6_ripeOnes.cls ≠ "java/lang/invoke/MethodHandle" ∧ yX6_ripeOnes.cls ≠ "java/lang/invoke/VarHandle" ∧ (parseMethodDescriptor yX6_ripeOnes.desc).map (fun d => d.parameters.length) = some 0 := by decide +kernel
set_option maxRecDepth 100000 in
set_option maxHeartbeats 4000000 in
theorem cY_X6_ripeOnes (l : Launch) (dC : Nat → ClassId) (dI : Nat → Nat → Nat) (ca : Nat → ClassId) (q : Nat → Nat) (tt : Nat → Nat) (g : z_G) (r : Int32) (g' : z_G) (hf : fY_X6_ripeOnes g = some (r, g')) : z_C l yX6_ripeOnes wsX6_ripeOnes { frames := 2, cells := 0, slots := 0, locals := 42 } (dC, dI) (tyY ca) (wY ca q) (zY tt) [.ref (q 7)] g (some r) g' := by
  refine z_enter (wY_ok ca q) (zY_ok tt) (by decide +kernel) rfl (Nat.le_of_ble_eq_true rfl) (fun J hC => ?_)
  have hC : z_Cx J l cX6_ripeOnes 3 wsX6_ripeOnes RX6 (some .int) { frames := 2, cells := 0, slots := 0, locals := 42 } (dC, dI) (tyY ca) (wY ca q) (zY tt) (z_QI (dC, dI) (tyY ca) (wY ca q) (some r) g') z_X0 := hC
  show J 0 [(0, .ref (q 7))] [] g
  have hX6 : ∀ w ∈ wsX60, w ∈ wsX6_ripeOnes := fun _ h => List.mem_cons_of_mem _ (List.mem_append_right _ (h))
  have hJ26 : ∀ (k4 : Int32 × Int32 × z_G → Option (Int32 × z_G)) (_ : ∀ w : Int32 × Int32 × z_G, k4 w = some (r, g') → J 4 [(0, .ref (q 7)), (1, .int w.1), (2, .int w.2.1)] [] w.2.2) (x1 : Int32) (x2 : Int32) (g : z_G), fY_X6_ripeOnes_26 k4 x1 x2 g = some (r, g') → J 26 [(0, .ref (q 7)), (1, .int x1), (2, .int x2)] [] g := by
    intro k4 hk4 x1 x2 g hf
    unfold fY_X6_ripeOnes_26 at hf
    refine zj_iinc (lv1 := fun v => [(2, .int v), (0, .ref (q 7)), (1, .int x1)]) 2 hC dX6_ripeOnes_26 rfl (by decide) (fun _ => rfl) (fun y1 ey1 => ?_)
    have hf := z_letE hf (show y1 = x2 + 1 from ey1)
    refine zj_goto 4 hC dX6_ripeOnes_29 (by decide) ?_
    exact zj_sub hC [1, 2, 0] rfl (hk4 (x1, y1, g) hf)
  have hJ4 : ∀ (x1 : Int32) (x2 : Int32) (g : z_G), fY_X6_ripeOnes_4_go x1 x2 g = some (r, g') → J 4 [(0, .ref (q 7)), (1, .int x1), (2, .int x2)] [] g := by
    intro x1 x2 g hf
    refine z_loopE (P := fun w : Int32 × Int32 × z_G => J 4 [(0, .ref (q 7)), (1, .int w.1), (2, .int w.2.1)] [] w.2.2) (fun k4 hk4 w hf => ?_) z_fuel (x1, x2, g) hf
    obtain ⟨x1, x2, g⟩ := w
    have hf : fY_X6_ripeOnes_4 k4 x1 x2 g = some (r, g') := hf
    show J 4 [(0, .ref (q 7)), (1, .int x1), (2, .int x2)] [] g
    unfold fY_X6_ripeOnes_4 at hf
    refine zj_iload_n 2 hC dX6_ripeOnes_4 rfl ?_
    refine zj_aload_n 0 hC dX6_ripeOnes_5 rfl ?_
    refine yg_7_0 hC hX6 (List.mem_of_getElem? (i := 1) rfl) dX6_ripeOnes_6 ?_
    refine zj_icmp_ge 32 hC dX6_ripeOnes_9 (by decide) (fun c2 => ?_) (fun c2 => ?_)
    · have hf := z_iteT hf c2
      refine zj_iload_n 1 hC dX6_ripeOnes_32 rfl ?_
      exact zj_ireturn hC hf dX6_ripeOnes_33
    · have hf := z_iteF hf c2
      refine zj_aload_n 0 hC dX6_ripeOnes_12 rfl ?_
      refine zj_iload_n 2 hC dX6_ripeOnes_13 rfl ?_
      obtain ⟨r3, g4, hq5, hf⟩ := z_bindE hf
      refine zj_callVi [.int x2] hC (cY_X6_yearsLeft l dC dI ca q tt x2 g r3 g4 hq5) gX6_ripeOnes_X6_yearsLeft rfl nY_X6_yearsLeft ⟨Nat.le_of_ble_eq_true rfl, Nat.le_of_ble_eq_true rfl⟩ 7 yo_7 rfl rfl rfl (Nat.le_of_ble_eq_true rfl) dX6_ripeOnes_14 rfl ?_
      refine zj_if_ne 26 hC dX6_ripeOnes_17 (by decide) (fun c6 => ?_) (fun c6 => ?_)
      · have hf := z_iteF hf c6
        exact (hJ26 k4 hk4 x1 x2 g4 hf)
      · have hf := z_iteT hf c6
        refine zj_iload_n 1 hC dX6_ripeOnes_20 rfl ?_
        refine zj_iconst (v := 1) hC dX6_ripeOnes_21 (by decide) ?_
        refine zj_iload_n 2 hC dX6_ripeOnes_22 rfl ?_
        refine zj_ishl hC dX6_ripeOnes_23 ?_
        refine zj_ior hC dX6_ripeOnes_24 ?_
        refine zj_top (fun y7 ey7 => ?_)
        have hf := z_letE hf ey7
        refine zj_istore_n (lv1 := [(1, .int y7), (0, .ref (q 7)), (2, .int x2)]) hC dX6_ripeOnes_25 (by decide) rfl ?_
        exact zj_sub hC [1, 0, 2] rfl (hJ26 k4 hk4 y7 x2 g4 hf)
  unfold fY_X6_ripeOnes at hf
  refine zj_iconst (v := 0) hC dX6_ripeOnes_0 (by decide) ?_
  refine zj_istore_n (lv1 := [(1, .int 0), (0, .ref (q 7))]) hC dX6_ripeOnes_1 (by decide) rfl ?_
  refine zj_iconst (v := 0) hC dX6_ripeOnes_2 (by decide) ?_
  refine zj_istore_n (lv1 := [(2, .int 0), (1, .int 0), (0, .ref (q 7))]) hC dX6_ripeOnes_3 (by decide) rfl ?_
  exact zj_sub hC [2, 1, 0] rfl (hJ4 0 0 g hf)

def fY_X6_greatestOf_48 (k7 : Int32 × Int32 × Int32 × Int32 × z_G → Option (Int32 × z_G)) (x1 : Int32) (x2 : Int32) (x3 : Int32) (x4 : Int32) (g : z_G) : Option (Int32 × z_G) := z_let (x4 + 1) (fun y1 => k7 (x1, x2, x3, y1, g))
def fY_X6_greatestOf_7 (k7 : Int32 × Int32 × Int32 × Int32 × z_G → Option (Int32 × z_G)) (x1 : Int32) (x2 : Int32) (x3 : Int32) (x4 : Int32) (g : z_G) : Option (Int32 × z_G) := (if (g 7 0) ≤ x4 then some (x2, g) else (if ((x1 >>> (x4 &&& 31)) &&& 1) = 1 then z_ck x4 12 ((if (g 46 (Int32.toNatClampNeg x4)) ≤ x3 then fY_X6_greatestOf_48 k7 x1 x2 x3 x4 g else z_ck x4 12 (z_let (g 46 (Int32.toNatClampNeg x4)) (fun y7 => fY_X6_greatestOf_48 k7 x1 x4 y7 x4 g)))) else fY_X6_greatestOf_48 k7 x1 x2 x3 x4 g))
def fY_X6_greatestOf_7_go (x1 : Int32) (x2 : Int32) (x3 : Int32) (x4 : Int32) (g : z_G) : Option (Int32 × z_G) := z_loop (fun k (w : Int32 × Int32 × Int32 × Int32 × z_G) => fY_X6_greatestOf_7 k w.1 w.2.1 w.2.2.1 w.2.2.2.1 w.2.2.2.2) z_fuel (x1, x2, x3, x4, g)
def fY_X6_greatestOf (a0 : Int32) (g : z_G) : Option (Int32 × z_G) := fY_X6_greatestOf_7_go a0 0 0 0 g
theorem nY_X6_greatestOf : yX6_greatestOf.cls = RX6 ∧ yX6_greatestOf.cls ≠ "java/lang/invoke/MethodHandle" ∧ yX6_greatestOf.cls ≠ "java/lang/invoke/VarHandle" ∧ (parseMethodDescriptor yX6_greatestOf.desc).map (fun d => d.parameters.length) = some 1 := by decide +kernel
set_option maxRecDepth 100000 in
set_option maxHeartbeats 4000000 in
theorem cY_X6_greatestOf (l : Launch) (dC : Nat → ClassId) (dI : Nat → Nat → Nat) (ca : Nat → ClassId) (q : Nat → Nat) (tt : Nat → Nat) (a0 : Int32) (g : z_G) (r : Int32) (g' : z_G) (hf : fY_X6_greatestOf a0 g = some (r, g')) : z_C l yX6_greatestOf wsX6_greatestOf { frames := 0, cells := 0, slots := 0, locals := 0 } (dC, dI) (tyY ca) (wY ca q) (zY tt) [.ref (q 7), .int a0] g (some r) g' := by
  refine z_enter (wY_ok ca q) (zY_ok tt) (by decide +kernel) rfl (Nat.le_of_ble_eq_true rfl) (fun J hC => ?_)
  have hC : z_Cx J l cX6_greatestOf 5 wsX6_greatestOf RX6 (some .int) { frames := 0, cells := 0, slots := 0, locals := 0 } (dC, dI) (tyY ca) (wY ca q) (zY tt) (z_QI (dC, dI) (tyY ca) (wY ca q) (some r) g') z_X0 := hC
  show J 0 [(0, .ref (q 7)), (1, .int a0)] [] g
  have hX6 : ∀ w ∈ wsX60, w ∈ wsX6_greatestOf := fun _ h => List.mem_cons_of_mem _ (List.mem_append_right _ (h))
  have hJ48 : ∀ (k7 : Int32 × Int32 × Int32 × Int32 × z_G → Option (Int32 × z_G)) (_ : ∀ w : Int32 × Int32 × Int32 × Int32 × z_G, k7 w = some (r, g') → J 7 [(0, .ref (q 7)), (1, .int w.1), (2, .int w.2.1), (3, .int w.2.2.1), (4, .int w.2.2.2.1)] [] w.2.2.2.2) (x1 : Int32) (x2 : Int32) (x3 : Int32) (x4 : Int32) (g : z_G), fY_X6_greatestOf_48 k7 x1 x2 x3 x4 g = some (r, g') → J 48 [(0, .ref (q 7)), (1, .int x1), (2, .int x2), (3, .int x3), (4, .int x4)] [] g := by
    intro k7 hk7 x1 x2 x3 x4 g hf
    unfold fY_X6_greatestOf_48 at hf
    refine zj_iinc (lv1 := fun v => [(4, .int v), (0, .ref (q 7)), (1, .int x1), (2, .int x2), (3, .int x3)]) 4 hC dX6_greatestOf_48 rfl (by decide) (fun _ => rfl) (fun y1 ey1 => ?_)
    have hf := z_letE hf (show y1 = x4 + 1 from ey1)
    refine zj_goto 7 hC dX6_greatestOf_51 (by decide) ?_
    exact zj_sub hC [1, 2, 3, 4, 0] rfl (hk7 (x1, x2, x3, y1, g) hf)
  have hJ7 : ∀ (x1 : Int32) (x2 : Int32) (x3 : Int32) (x4 : Int32) (g : z_G), fY_X6_greatestOf_7_go x1 x2 x3 x4 g = some (r, g') → J 7 [(0, .ref (q 7)), (1, .int x1), (2, .int x2), (3, .int x3), (4, .int x4)] [] g := by
    intro x1 x2 x3 x4 g hf
    refine z_loopE (P := fun w : Int32 × Int32 × Int32 × Int32 × z_G => J 7 [(0, .ref (q 7)), (1, .int w.1), (2, .int w.2.1), (3, .int w.2.2.1), (4, .int w.2.2.2.1)] [] w.2.2.2.2) (fun k7 hk7 w hf => ?_) z_fuel (x1, x2, x3, x4, g) hf
    obtain ⟨x1, x2, x3, x4, g⟩ := w
    have hf : fY_X6_greatestOf_7 k7 x1 x2 x3 x4 g = some (r, g') := hf
    show J 7 [(0, .ref (q 7)), (1, .int x1), (2, .int x2), (3, .int x3), (4, .int x4)] [] g
    unfold fY_X6_greatestOf_7 at hf
    refine zj_iload 4 hC dX6_greatestOf_7 rfl ?_
    refine zj_aload_n 0 hC dX6_greatestOf_9 rfl ?_
    refine yg_7_0 hC hX6 (List.mem_of_getElem? (i := 1) rfl) dX6_greatestOf_10 ?_
    refine zj_icmp_ge 54 hC dX6_greatestOf_13 (by decide) (fun c2 => ?_) (fun c2 => ?_)
    · have hf := z_iteT hf c2
      refine zj_iload_n 2 hC dX6_greatestOf_54 rfl ?_
      exact zj_ireturn hC hf dX6_greatestOf_55
    · have hf := z_iteF hf c2
      refine zj_iload_n 1 hC dX6_greatestOf_16 rfl ?_
      refine zj_iload 4 hC dX6_greatestOf_17 rfl ?_
      refine zj_ishr hC dX6_greatestOf_19 ?_
      refine zj_iconst (v := 1) hC dX6_greatestOf_20 (by decide) ?_
      refine zj_iand hC dX6_greatestOf_21 ?_
      refine zj_iconst (v := 1) hC dX6_greatestOf_22 (by decide) ?_
      refine zj_icmp_ne 48 hC dX6_greatestOf_23 (by decide) (fun c3 => ?_) (fun c3 => ?_)
      · have hf := z_iteF hf c3
        exact (hJ48 k7 hk7 x1 x2 x3 x4 g hf)
      · have hf := z_iteT hf c3
        refine zj_aload_n 0 hC dX6_greatestOf_26 rfl ?_
        refine yg_7_3 hC hX6 (List.mem_of_getElem? (i := 2) rfl) dX6_greatestOf_27 ?_
        refine zj_iload 4 hC dX6_greatestOf_30 rfl ?_
        obtain ⟨hq4, hf⟩ := z_ckE hf
        refine ya_46 hC hq4 dX6_greatestOf_32 ?_
        refine zj_iload_n 3 hC dX6_greatestOf_33 rfl ?_
        refine zj_icmp_le 48 hC dX6_greatestOf_34 (by decide) (fun c5 => ?_) (fun c5 => ?_)
        · have hf := z_iteT hf c5
          exact (hJ48 k7 hk7 x1 x2 x3 x4 g hf)
        · have hf := z_iteF hf c5
          refine zj_iload 4 hC dX6_greatestOf_37 rfl ?_
          refine zj_istore_n (lv1 := [(2, .int x4), (0, .ref (q 7)), (1, .int x1), (3, .int x3), (4, .int x4)]) hC dX6_greatestOf_39 (by decide) rfl ?_
          refine zj_aload_n 1 hC dX6_greatestOf_40 rfl ?_
          refine yg_7_3 hC hX6 (List.mem_of_getElem? (i := 2) rfl) dX6_greatestOf_41 ?_
          refine zj_iload 4 hC dX6_greatestOf_44 rfl ?_
          obtain ⟨hq6, hf⟩ := z_ckE hf
          refine ya_46 hC hq6 dX6_greatestOf_46 ?_
          refine zj_top (fun y7 ey7 => ?_)
          have hf := z_letE hf ey7
          refine zj_istore_n (lv1 := [(3, .int y7), (2, .int x4), (0, .ref (q 7)), (1, .int x1), (4, .int x4)]) hC dX6_greatestOf_47 (by decide) rfl ?_
          exact zj_sub hC [2, 3, 1, 0, 4] rfl (hJ48 k7 hk7 x1 x4 y7 x4 g hf)
  unfold fY_X6_greatestOf at hf
  refine zj_iconst (v := 0) hC dX6_greatestOf_0 (by decide) ?_
  refine zj_istore_n (lv1 := [(2, .int 0), (0, .ref (q 7)), (1, .int a0)]) hC dX6_greatestOf_1 (by decide) rfl ?_
  refine zj_iconst (v := 0) hC dX6_greatestOf_2 (by decide) ?_
  refine zj_istore_n (lv1 := [(3, .int 0), (2, .int 0), (0, .ref (q 7)), (1, .int a0)]) hC dX6_greatestOf_3 (by decide) rfl ?_
  refine zj_iconst (v := 0) hC dX6_greatestOf_4 (by decide) ?_
  refine zj_istore (lv1 := [(4, .int 0), (3, .int 0), (2, .int 0), (0, .ref (q 7)), (1, .int a0)]) hC dX6_greatestOf_5 (by decide) rfl ?_
  exact zj_sub hC [3, 4, 2, 1, 0] rfl (hJ7 a0 0 0 0 g hf)

def fY_X6_fewestOf_64  (g : z_G) : Option (Int32 × z_G) := some ((-1), g)
def fY_X6_fewestOf_8 (k8 : Int32 × Int32 × Int32 × Int32 × z_G → Option (Int32 × z_G)) (x2 : Int32) (x3 : Int32) (x4 : Int32) (x5 : Int32) (g : z_G) : Option (Int32 × z_G) := (if (g 7 0) < x5 then fY_X6_fewestOf_64 g else (if x3 = 0 then fY_X6_fewestOf_64 g else z_bind (fY_X6_greatestOf x3 g) (fun r3 g4 => z_ck r3 12 (z_let (x4 + (g4 46 (Int32.toNatClampNeg r3))) (fun y7 => z_let (x3 &&& ((1 <<< (r3 &&& 31)) ^^^ (-1))) (fun y8 => (if y7 < x2 then z_let (x5 + 1) (fun y10 => k8 (x2, y8, y7, y10, g4)) else some (x5, g4))))))))
def fY_X6_fewestOf_8_go (x2 : Int32) (x3 : Int32) (x4 : Int32) (x5 : Int32) (g : z_G) : Option (Int32 × z_G) := z_loop (fun k (w : Int32 × Int32 × Int32 × Int32 × z_G) => fY_X6_fewestOf_8 k w.1 w.2.1 w.2.2.1 w.2.2.2.1 w.2.2.2.2) z_fuel (x2, x3, x4, x5, g)
def fY_X6_fewestOf (a0 : Int32) (a1 : Int32) (g : z_G) : Option (Int32 × z_G) := fY_X6_fewestOf_8_go a1 a0 0 1 g
theorem nY_X6_fewestOf : yX6_fewestOf.cls = RX6 ∧ yX6_fewestOf.cls ≠ "java/lang/invoke/MethodHandle" ∧ yX6_fewestOf.cls ≠ "java/lang/invoke/VarHandle" ∧ (parseMethodDescriptor yX6_fewestOf.desc).map (fun d => d.parameters.length) = some 2 := by decide +kernel
set_option maxRecDepth 100000 in
set_option maxHeartbeats 4000000 in
theorem cY_X6_fewestOf (l : Launch) (dC : Nat → ClassId) (dI : Nat → Nat → Nat) (ca : Nat → ClassId) (q : Nat → Nat) (tt : Nat → Nat) (a0 : Int32) (a1 : Int32) (g : z_G) (r : Int32) (g' : z_G) (hf : fY_X6_fewestOf a0 a1 g = some (r, g')) : z_C l yX6_fewestOf wsX6_fewestOf { frames := 1, cells := 0, slots := 0, locals := 24 } (dC, dI) (tyY ca) (wY ca q) (zY tt) [.ref (q 7), .int a0, .int a1] g (some r) g' := by
  refine z_enter (wY_ok ca q) (zY_ok tt) (by decide +kernel) rfl (Nat.le_of_ble_eq_true rfl) (fun J hC => ?_)
  have hC : z_Cx J l cX6_fewestOf 7 wsX6_fewestOf RX6 (some .int) { frames := 1, cells := 0, slots := 0, locals := 24 } (dC, dI) (tyY ca) (wY ca q) (zY tt) (z_QI (dC, dI) (tyY ca) (wY ca q) (some r) g') z_X0 := hC
  show J 0 [(0, .ref (q 7)), (1, .int a0), (2, .int a1)] [] g
  have hX6 : ∀ w ∈ wsX60, w ∈ wsX6_fewestOf := fun _ h => List.mem_cons_of_mem _ (List.mem_append_right _ (h))
  have hJ64 : ∀ (g : z_G), fY_X6_fewestOf_64 g = some (r, g') → J 64 [] [] g := by
    intro g hf
    unfold fY_X6_fewestOf_64 at hf
    refine zj_iconst (v := (-1)) hC dX6_fewestOf_64 (by decide) ?_
    exact zj_ireturn hC hf dX6_fewestOf_65
  have hJ8 : ∀ (x2 : Int32) (x3 : Int32) (x4 : Int32) (x5 : Int32) (g : z_G), fY_X6_fewestOf_8_go x2 x3 x4 x5 g = some (r, g') → J 8 [(0, .ref (q 7)), (2, .int x2), (3, .int x3), (4, .int x4), (5, .int x5)] [] g := by
    intro x2 x3 x4 x5 g hf
    refine z_loopE (P := fun w : Int32 × Int32 × Int32 × Int32 × z_G => J 8 [(0, .ref (q 7)), (2, .int w.1), (3, .int w.2.1), (4, .int w.2.2.1), (5, .int w.2.2.2.1)] [] w.2.2.2.2) (fun k8 hk8 w hf => ?_) z_fuel (x2, x3, x4, x5, g) hf
    obtain ⟨x2, x3, x4, x5, g⟩ := w
    have hf : fY_X6_fewestOf_8 k8 x2 x3 x4 x5 g = some (r, g') := hf
    show J 8 [(0, .ref (q 7)), (2, .int x2), (3, .int x3), (4, .int x4), (5, .int x5)] [] g
    unfold fY_X6_fewestOf_8 at hf
    refine zj_iload 4 hC dX6_fewestOf_8 rfl ?_
    refine zj_aload_n 0 hC dX6_fewestOf_10 rfl ?_
    refine yg_7_0 hC hX6 (List.mem_of_getElem? (i := 1) rfl) dX6_fewestOf_11 ?_
    refine zj_icmp_gt 64 hC dX6_fewestOf_14 (by decide) (fun c1 => ?_) (fun c1 => ?_)
    · have hf := z_iteT hf c1
      exact zj_sub hC [] rfl (hJ64 g hf)
    · have hf := z_iteF hf c1
      refine zj_iload_n 2 hC dX6_fewestOf_17 rfl ?_
      refine zj_if_eq 64 hC dX6_fewestOf_18 (by decide) (fun c2 => ?_) (fun c2 => ?_)
      · have hf := z_iteT hf c2
        exact zj_sub hC [] rfl (hJ64 g hf)
      · have hf := z_iteF hf c2
        refine zj_aload_n 0 hC dX6_fewestOf_21 rfl ?_
        refine zj_iload_n 2 hC dX6_fewestOf_22 rfl ?_
        obtain ⟨r3, g4, hq5, hf⟩ := z_bindE hf
        refine zj_callVi [.int x3] hC (cY_X6_greatestOf l dC dI ca q tt x3 g r3 g4 hq5) gX6_fewestOf_X6_greatestOf rfl nY_X6_greatestOf ⟨Nat.le_of_ble_eq_true rfl, Nat.le_of_ble_eq_true rfl⟩ 7 yo_7 rfl rfl rfl (Nat.le_of_ble_eq_true rfl) dX6_fewestOf_23 rfl ?_
        refine zj_istore (lv1 := [(6, .int r3), (0, .ref (q 7)), (2, .int x2), (3, .int x3), (4, .int x4), (5, .int x5)]) hC dX6_fewestOf_26 (by decide) rfl ?_
        refine zj_iload 4 hC dX6_fewestOf_28 rfl ?_
        refine zj_aload_n 1 hC dX6_fewestOf_30 rfl ?_
        refine yg_7_3 hC hX6 (List.mem_of_getElem? (i := 2) rfl) dX6_fewestOf_31 ?_
        refine zj_iload 0 hC dX6_fewestOf_34 rfl ?_
        obtain ⟨hq6, hf⟩ := z_ckE hf
        refine ya_46 hC hq6 dX6_fewestOf_36 ?_
        refine zj_iadd hC dX6_fewestOf_37 ?_
        refine zj_top (fun y7 ey7 => ?_)
        have hf := z_letE hf ey7
        refine zj_istore (lv1 := [(4, .int y7), (6, .int r3), (0, .ref (q 7)), (2, .int x2), (3, .int x3), (5, .int x5)]) hC dX6_fewestOf_38 (by decide) rfl ?_
        refine zj_iload_n 4 hC dX6_fewestOf_40 rfl ?_
        refine zj_iconst (v := 1) hC dX6_fewestOf_41 (by decide) ?_
        refine zj_iload 1 hC dX6_fewestOf_42 rfl ?_
        refine zj_ishl hC dX6_fewestOf_44 ?_
        refine zj_iconst (v := (-1)) hC dX6_fewestOf_45 (by decide) ?_
        refine zj_ixor hC dX6_fewestOf_46 ?_
        refine zj_iand hC dX6_fewestOf_47 ?_
        refine zj_top (fun y8 ey8 => ?_)
        have hf := z_letE hf ey8
        refine zj_istore_n (lv1 := [(3, .int y8), (4, .int y7), (6, .int r3), (0, .ref (q 7)), (2, .int x2), (5, .int x5)]) hC dX6_fewestOf_48 (by decide) rfl ?_
        refine zj_iload 1 hC dX6_fewestOf_49 rfl ?_
        refine zj_iload_n 4 hC dX6_fewestOf_51 rfl ?_
        refine zj_icmp_lt 58 hC dX6_fewestOf_52 (by decide) (fun c9 => ?_) (fun c9 => ?_)
        · have hf := z_iteT hf c9
          refine zj_iinc (lv1 := fun v => [(5, .int v), (3, .int y8), (4, .int y7), (6, .int r3), (0, .ref (q 7)), (2, .int x2)]) 5 hC dX6_fewestOf_58 rfl (by decide) (fun _ => rfl) (fun y10 ey10 => ?_)
          have hf := z_letE hf (show y10 = x5 + 1 from ey10)
          refine zj_goto 8 hC dX6_fewestOf_61 (by decide) ?_
          exact zj_sub hC [4, 5, 1, 2, 0] rfl (hk8 (x2, y8, y7, y10, g4) hf)
        · have hf := z_iteF hf c9
          refine zj_iload 5 hC dX6_fewestOf_55 rfl ?_
          exact zj_ireturn hC hf dX6_fewestOf_57
  unfold fY_X6_fewestOf at hf
  refine zj_iload_n 1 hC dX6_fewestOf_0 rfl ?_
  refine zj_istore_n (lv1 := [(3, .int a0), (0, .ref (q 7)), (1, .int a0), (2, .int a1)]) hC dX6_fewestOf_1 (by decide) rfl ?_
  refine zj_iconst (v := 0) hC dX6_fewestOf_2 (by decide) ?_
  refine zj_istore (lv1 := [(4, .int 0), (3, .int a0), (0, .ref (q 7)), (1, .int a0), (2, .int a1)]) hC dX6_fewestOf_3 (by decide) rfl ?_
  refine zj_iconst (v := 1) hC dX6_fewestOf_5 (by decide) ?_
  refine zj_istore (lv1 := [(5, .int 1), (4, .int 0), (3, .int a0), (0, .ref (q 7)), (1, .int a0), (2, .int a1)]) hC dX6_fewestOf_6 (by decide) rfl ?_
  exact zj_sub hC [3, 5, 2, 1, 0] rfl (hJ8 a1 a0 0 1 g hf)

def fY_J6_bitCount_0f7a4 (a0 : Int32) (g : z_G) : Option (Int32 × z_G) := z_let (a0 - ((((a0 : Int32).toUInt32 >>> ((1 : Int32).toUInt32 &&& Int32.toUInt32 31)).toInt32) &&& 1431655765)) (fun y1 => z_let ((y1 &&& 858993459) + ((((y1 : Int32).toUInt32 >>> ((2 : Int32).toUInt32 &&& Int32.toUInt32 31)).toInt32) &&& 858993459)) (fun y2 => z_let ((y2 + (((y2 : Int32).toUInt32 >>> ((4 : Int32).toUInt32 &&& Int32.toUInt32 31)).toInt32)) &&& 252645135) (fun y3 => z_let (y3 + (((y3 : Int32).toUInt32 >>> ((8 : Int32).toUInt32 &&& Int32.toUInt32 31)).toInt32)) (fun y4 => z_let (y4 + (((y4 : Int32).toUInt32 >>> ((16 : Int32).toUInt32 &&& Int32.toUInt32 31)).toInt32)) (fun y5 => some (y5 &&& 63, g))))))
theorem nY_J6_bitCount_0f7a4 : yJ6_bitCount_0f7a4.cls ≠ "java/lang/invoke/MethodHandle" ∧ yJ6_bitCount_0f7a4.cls ≠ "java/lang/invoke/VarHandle" ∧ (parseMethodDescriptor yJ6_bitCount_0f7a4.desc).map (fun d => d.parameters.length) = some 1 := by decide +kernel
set_option maxRecDepth 100000 in
set_option maxHeartbeats 4000000 in
theorem cY_J6_bitCount_0f7a4 (l : Launch) (dC : Nat → ClassId) (dI : Nat → Nat → Nat) (ca : Nat → ClassId) (q : Nat → Nat) (tt : Nat → Nat) (a0 : Int32) (g : z_G) (r : Int32) (g' : z_G) (hf : fY_J6_bitCount_0f7a4 a0 g = some (r, g')) : z_C l yJ6_bitCount_0f7a4 wsJ6_bitCount_0f7a4 { frames := 0, cells := 0, slots := 0, locals := 0 } (dC, dI) (tyY ca) (wY ca q) (zY tt) [.int a0] g (some r) g' := by
  refine z_enter (wY_ok ca q) (zY_ok tt) (by decide +kernel) rfl (Nat.le_of_ble_eq_true rfl) (fun J hC => ?_)
  have hC : z_Cx J l cJ6_bitCount_0f7a4 1 wsJ6_bitCount_0f7a4 RJ6 (some .int) { frames := 0, cells := 0, slots := 0, locals := 0 } (dC, dI) (tyY ca) (wY ca q) (zY tt) (z_QI (dC, dI) (tyY ca) (wY ca q) (some r) g') z_X0 := hC
  show J 0 [(0, .int a0)] [] g
  unfold fY_J6_bitCount_0f7a4 at hf
  refine zj_iload_n 0 hC dJ6_bitCount_0f7a4_0 rfl ?_
  refine zj_iload_n 0 hC dJ6_bitCount_0f7a4_1 rfl ?_
  refine zj_iconst (v := 1) hC dJ6_bitCount_0f7a4_2 (by decide) ?_
  refine zj_iushr hC dJ6_bitCount_0f7a4_3 ?_
  refine zj_ldcw (v := 1431655765) hC (List.mem_of_getElem? (i := 1) rfl) dJ6_bitCount_0f7a4_4 ?_
  refine zj_iand hC dJ6_bitCount_0f7a4_7 ?_
  refine zj_isub hC dJ6_bitCount_0f7a4_8 ?_
  refine zj_top (fun y1 ey1 => ?_)
  have hf := z_letE hf ey1
  refine zj_istore_n (lv1 := [(0, .int y1)]) hC dJ6_bitCount_0f7a4_9 (by decide) rfl ?_
  refine zj_iload_n 0 hC dJ6_bitCount_0f7a4_10 rfl ?_
  refine zj_ldcw (v := 858993459) hC (List.mem_of_getElem? (i := 2) rfl) dJ6_bitCount_0f7a4_11 ?_
  refine zj_iand hC dJ6_bitCount_0f7a4_14 ?_
  refine zj_iload_n 0 hC dJ6_bitCount_0f7a4_15 rfl ?_
  refine zj_iconst (v := 2) hC dJ6_bitCount_0f7a4_16 (by decide) ?_
  refine zj_iushr hC dJ6_bitCount_0f7a4_17 ?_
  refine zj_ldcw (v := 858993459) hC (List.mem_of_getElem? (i := 2) rfl) dJ6_bitCount_0f7a4_18 ?_
  refine zj_iand hC dJ6_bitCount_0f7a4_21 ?_
  refine zj_iadd hC dJ6_bitCount_0f7a4_22 ?_
  refine zj_top (fun y2 ey2 => ?_)
  have hf := z_letE hf ey2
  refine zj_istore_n (lv1 := [(0, .int y2)]) hC dJ6_bitCount_0f7a4_23 (by decide) rfl ?_
  refine zj_iload_n 0 hC dJ6_bitCount_0f7a4_24 rfl ?_
  refine zj_iload_n 0 hC dJ6_bitCount_0f7a4_25 rfl ?_
  refine zj_iconst (v := 4) hC dJ6_bitCount_0f7a4_26 (by decide) ?_
  refine zj_iushr hC dJ6_bitCount_0f7a4_27 ?_
  refine zj_iadd hC dJ6_bitCount_0f7a4_28 ?_
  refine zj_ldcw (v := 252645135) hC (List.mem_of_getElem? (i := 3) rfl) dJ6_bitCount_0f7a4_29 ?_
  refine zj_iand hC dJ6_bitCount_0f7a4_32 ?_
  refine zj_top (fun y3 ey3 => ?_)
  have hf := z_letE hf ey3
  refine zj_istore_n (lv1 := [(0, .int y3)]) hC dJ6_bitCount_0f7a4_33 (by decide) rfl ?_
  refine zj_iload_n 0 hC dJ6_bitCount_0f7a4_34 rfl ?_
  refine zj_iload_n 0 hC dJ6_bitCount_0f7a4_35 rfl ?_
  refine zj_bipush (v := 8) hC dJ6_bitCount_0f7a4_36 (by decide) ?_
  refine zj_iushr hC dJ6_bitCount_0f7a4_38 ?_
  refine zj_iadd hC dJ6_bitCount_0f7a4_39 ?_
  refine zj_top (fun y4 ey4 => ?_)
  have hf := z_letE hf ey4
  refine zj_istore_n (lv1 := [(0, .int y4)]) hC dJ6_bitCount_0f7a4_40 (by decide) rfl ?_
  refine zj_iload_n 0 hC dJ6_bitCount_0f7a4_41 rfl ?_
  refine zj_iload_n 0 hC dJ6_bitCount_0f7a4_42 rfl ?_
  refine zj_bipush (v := 16) hC dJ6_bitCount_0f7a4_43 (by decide) ?_
  refine zj_iushr hC dJ6_bitCount_0f7a4_45 ?_
  refine zj_iadd hC dJ6_bitCount_0f7a4_46 ?_
  refine zj_top (fun y5 ey5 => ?_)
  have hf := z_letE hf ey5
  refine zj_istore_n (lv1 := [(0, .int y5)]) hC dJ6_bitCount_0f7a4_47 (by decide) rfl ?_
  refine zj_iload_n 0 hC dJ6_bitCount_0f7a4_48 rfl ?_
  refine zj_bipush (v := 63) hC dJ6_bitCount_0f7a4_49 (by decide) ?_
  refine zj_iand hC dJ6_bitCount_0f7a4_51 ?_
  exact zj_ireturn hC hf dJ6_bitCount_0f7a4_52

def fY_X6_loadsOf_30 (k4 : Int32 × Int32 × Int32 × z_G → Option (Int32 × z_G)) (x1 : Int32) (x2 : Int32) (x3 : Int32) (g : z_G) : Option (Int32 × z_G) := z_let (x3 + 1) (fun y1 => k4 (x1, x2, y1, g))
def fY_X6_loadsOf_4 (k4 : Int32 × Int32 × Int32 × z_G → Option (Int32 × z_G)) (x1 : Int32) (x2 : Int32) (x3 : Int32) (g : z_G) : Option (Int32 × z_G) := (if (g 7 0) ≤ x3 then some (x2, g) else (if ((x1 >>> (x3 &&& 31)) &&& 1) = 1 then z_ck x3 12 (z_let (x2 + (g 46 (Int32.toNatClampNeg x3))) (fun y5 => fY_X6_loadsOf_30 k4 x1 y5 x3 g)) else fY_X6_loadsOf_30 k4 x1 x2 x3 g))
def fY_X6_loadsOf_4_go (x1 : Int32) (x2 : Int32) (x3 : Int32) (g : z_G) : Option (Int32 × z_G) := z_loop (fun k (w : Int32 × Int32 × Int32 × z_G) => fY_X6_loadsOf_4 k w.1 w.2.1 w.2.2.1 w.2.2.2) z_fuel (x1, x2, x3, g)
def fY_X6_loadsOf (a0 : Int32) (g : z_G) : Option (Int32 × z_G) := fY_X6_loadsOf_4_go a0 0 0 g
theorem nY_X6_loadsOf : yX6_loadsOf.cls = RX6 ∧ yX6_loadsOf.cls ≠ "java/lang/invoke/MethodHandle" ∧ yX6_loadsOf.cls ≠ "java/lang/invoke/VarHandle" ∧ (parseMethodDescriptor yX6_loadsOf.desc).map (fun d => d.parameters.length) = some 1 := by decide +kernel
set_option maxRecDepth 100000 in
set_option maxHeartbeats 4000000 in
theorem cY_X6_loadsOf (l : Launch) (dC : Nat → ClassId) (dI : Nat → Nat → Nat) (ca : Nat → ClassId) (q : Nat → Nat) (tt : Nat → Nat) (a0 : Int32) (g : z_G) (r : Int32) (g' : z_G) (hf : fY_X6_loadsOf a0 g = some (r, g')) : z_C l yX6_loadsOf wsX6_loadsOf { frames := 0, cells := 0, slots := 0, locals := 0 } (dC, dI) (tyY ca) (wY ca q) (zY tt) [.ref (q 7), .int a0] g (some r) g' := by
  refine z_enter (wY_ok ca q) (zY_ok tt) (by decide +kernel) rfl (Nat.le_of_ble_eq_true rfl) (fun J hC => ?_)
  have hC : z_Cx J l cX6_loadsOf 4 wsX6_loadsOf RX6 (some .int) { frames := 0, cells := 0, slots := 0, locals := 0 } (dC, dI) (tyY ca) (wY ca q) (zY tt) (z_QI (dC, dI) (tyY ca) (wY ca q) (some r) g') z_X0 := hC
  show J 0 [(0, .ref (q 7)), (1, .int a0)] [] g
  have hX6 : ∀ w ∈ wsX60, w ∈ wsX6_loadsOf := fun _ h => List.mem_cons_of_mem _ (List.mem_append_right _ (h))
  have hJ30 : ∀ (k4 : Int32 × Int32 × Int32 × z_G → Option (Int32 × z_G)) (_ : ∀ w : Int32 × Int32 × Int32 × z_G, k4 w = some (r, g') → J 4 [(0, .ref (q 7)), (1, .int w.1), (2, .int w.2.1), (3, .int w.2.2.1)] [] w.2.2.2) (x1 : Int32) (x2 : Int32) (x3 : Int32) (g : z_G), fY_X6_loadsOf_30 k4 x1 x2 x3 g = some (r, g') → J 30 [(0, .ref (q 7)), (1, .int x1), (2, .int x2), (3, .int x3)] [] g := by
    intro k4 hk4 x1 x2 x3 g hf
    unfold fY_X6_loadsOf_30 at hf
    refine zj_iinc (lv1 := fun v => [(3, .int v), (0, .ref (q 7)), (1, .int x1), (2, .int x2)]) 3 hC dX6_loadsOf_30 rfl (by decide) (fun _ => rfl) (fun y1 ey1 => ?_)
    have hf := z_letE hf (show y1 = x3 + 1 from ey1)
    refine zj_goto 4 hC dX6_loadsOf_33 (by decide) ?_
    exact zj_sub hC [1, 2, 3, 0] rfl (hk4 (x1, x2, y1, g) hf)
  have hJ4 : ∀ (x1 : Int32) (x2 : Int32) (x3 : Int32) (g : z_G), fY_X6_loadsOf_4_go x1 x2 x3 g = some (r, g') → J 4 [(0, .ref (q 7)), (1, .int x1), (2, .int x2), (3, .int x3)] [] g := by
    intro x1 x2 x3 g hf
    refine z_loopE (P := fun w : Int32 × Int32 × Int32 × z_G => J 4 [(0, .ref (q 7)), (1, .int w.1), (2, .int w.2.1), (3, .int w.2.2.1)] [] w.2.2.2) (fun k4 hk4 w hf => ?_) z_fuel (x1, x2, x3, g) hf
    obtain ⟨x1, x2, x3, g⟩ := w
    have hf : fY_X6_loadsOf_4 k4 x1 x2 x3 g = some (r, g') := hf
    show J 4 [(0, .ref (q 7)), (1, .int x1), (2, .int x2), (3, .int x3)] [] g
    unfold fY_X6_loadsOf_4 at hf
    refine zj_iload_n 3 hC dX6_loadsOf_4 rfl ?_
    refine zj_aload_n 0 hC dX6_loadsOf_5 rfl ?_
    refine yg_7_0 hC hX6 (List.mem_of_getElem? (i := 1) rfl) dX6_loadsOf_6 ?_
    refine zj_icmp_ge 36 hC dX6_loadsOf_9 (by decide) (fun c2 => ?_) (fun c2 => ?_)
    · have hf := z_iteT hf c2
      refine zj_iload_n 2 hC dX6_loadsOf_36 rfl ?_
      exact zj_ireturn hC hf dX6_loadsOf_37
    · have hf := z_iteF hf c2
      refine zj_iload_n 1 hC dX6_loadsOf_12 rfl ?_
      refine zj_iload_n 3 hC dX6_loadsOf_13 rfl ?_
      refine zj_ishr hC dX6_loadsOf_14 ?_
      refine zj_iconst (v := 1) hC dX6_loadsOf_15 (by decide) ?_
      refine zj_iand hC dX6_loadsOf_16 ?_
      refine zj_iconst (v := 1) hC dX6_loadsOf_17 (by decide) ?_
      refine zj_icmp_ne 30 hC dX6_loadsOf_18 (by decide) (fun c3 => ?_) (fun c3 => ?_)
      · have hf := z_iteF hf c3
        exact (hJ30 k4 hk4 x1 x2 x3 g hf)
      · have hf := z_iteT hf c3
        refine zj_iload_n 2 hC dX6_loadsOf_21 rfl ?_
        refine zj_aload_n 0 hC dX6_loadsOf_22 rfl ?_
        refine yg_7_3 hC hX6 (List.mem_of_getElem? (i := 2) rfl) dX6_loadsOf_23 ?_
        refine zj_iload_n 3 hC dX6_loadsOf_26 rfl ?_
        obtain ⟨hq4, hf⟩ := z_ckE hf
        refine ya_46 hC hq4 dX6_loadsOf_27 ?_
        refine zj_iadd hC dX6_loadsOf_28 ?_
        refine zj_top (fun y5 ey5 => ?_)
        have hf := z_letE hf ey5
        refine zj_istore_n (lv1 := [(2, .int y5), (0, .ref (q 7)), (1, .int x1), (3, .int x3)]) hC dX6_loadsOf_29 (by decide) rfl ?_
        exact zj_sub hC [1, 2, 0, 3] rfl (hJ30 k4 hk4 x1 y5 x3 g hf)
  unfold fY_X6_loadsOf at hf
  refine zj_iconst (v := 0) hC dX6_loadsOf_0 (by decide) ?_
  refine zj_istore_n (lv1 := [(2, .int 0), (0, .ref (q 7)), (1, .int a0)]) hC dX6_loadsOf_1 (by decide) rfl ?_
  refine zj_iconst (v := 0) hC dX6_loadsOf_2 (by decide) ?_
  refine zj_istore_n (lv1 := [(3, .int 0), (2, .int 0), (0, .ref (q 7)), (1, .int a0)]) hC dX6_loadsOf_3 (by decide) rfl ?_
  exact zj_sub hC [2, 3, 1, 0] rfl (hJ4 a0 0 0 g hf)

def fY_X6_leastOf_72 (k9 : Int32 × Int32 × Int32 × Int32 × Int32 × Int32 × z_G → Option (Int32 × z_G)) (x1 : Int32) (x2 : Int32) (x3 : Int32) (x4 : Int32) (x5 : Int32) (x6 : Int32) (g : z_G) : Option (Int32 × z_G) := z_let (x6 + 1) (fun y1 => k9 (x1, x2, x3, x4, x5, y1, g))
def fY_X6_leastOf_64 (k9 : Int32 × Int32 × Int32 × Int32 × Int32 × Int32 × z_G → Option (Int32 × z_G)) (x1 : Int32) (x2 : Int32) (x3 : Int32) (x6 : Int32) (x7 : Int32) (g : z_G) : Option (Int32 × z_G) := fY_X6_leastOf_72 k9 x1 x2 x3 x6 x7 x6 g
def fY_X6_leastOf_9 (k9 : Int32 × Int32 × Int32 × Int32 × Int32 × Int32 × z_G → Option (Int32 × z_G)) (x1 : Int32) (x2 : Int32) (x3 : Int32) (x4 : Int32) (x5 : Int32) (x6 : Int32) (g : z_G) : Option (Int32 × z_G) := (if (1 <<< ((g 7 0) &&& 31)) ≤ x6 then some (x4, g) else (if (x6 &&& (x1 ^^^ (-1))) = 0 then z_bind (fY_J6_bitCount_0f7a4 x6 g) (fun r4 g5 => (if r4 = x2 then z_bind (fY_X6_loadsOf x6 g5) (fun r8 g9 => (if r8 < x3 then fY_X6_leastOf_72 k9 x1 x2 x3 x4 x5 x6 g9 else (if x4 = 0 then fY_X6_leastOf_64 k9 x1 x2 x3 x6 r8 g9 else (if x5 ≤ r8 then fY_X6_leastOf_72 k9 x1 x2 x3 x4 x5 x6 g9 else fY_X6_leastOf_64 k9 x1 x2 x3 x6 r8 g9)))) else fY_X6_leastOf_72 k9 x1 x2 x3 x4 x5 x6 g5)) else fY_X6_leastOf_72 k9 x1 x2 x3 x4 x5 x6 g))
def fY_X6_leastOf_9_go (x1 : Int32) (x2 : Int32) (x3 : Int32) (x4 : Int32) (x5 : Int32) (x6 : Int32) (g : z_G) : Option (Int32 × z_G) := z_loop (fun k (w : Int32 × Int32 × Int32 × Int32 × Int32 × Int32 × z_G) => fY_X6_leastOf_9 k w.1 w.2.1 w.2.2.1 w.2.2.2.1 w.2.2.2.2.1 w.2.2.2.2.2.1 w.2.2.2.2.2.2) z_fuel (x1, x2, x3, x4, x5, x6, g)
def fY_X6_leastOf (a0 : Int32) (a1 : Int32) (a2 : Int32) (g : z_G) : Option (Int32 × z_G) := fY_X6_leastOf_9_go a0 a1 a2 0 0 1 g
theorem nY_X6_leastOf : yX6_leastOf.cls = RX6 ∧ yX6_leastOf.cls ≠ "java/lang/invoke/MethodHandle" ∧ yX6_leastOf.cls ≠ "java/lang/invoke/VarHandle" ∧ (parseMethodDescriptor yX6_leastOf.desc).map (fun d => d.parameters.length) = some 3 := by decide +kernel
set_option maxRecDepth 100000 in
set_option maxHeartbeats 4000000 in
theorem cY_X6_leastOf (l : Launch) (dC : Nat → ClassId) (dI : Nat → Nat → Nat) (ca : Nat → ClassId) (q : Nat → Nat) (tt : Nat → Nat) (a0 : Int32) (a1 : Int32) (a2 : Int32) (g : z_G) (r : Int32) (g' : z_G) (hf : fY_X6_leastOf a0 a1 a2 g = some (r, g')) : z_C l yX6_leastOf wsX6_leastOf { frames := 1, cells := 0, slots := 0, locals := 23 } (dC, dI) (tyY ca) (wY ca q) (zY tt) [.ref (q 7), .int a0, .int a1, .int a2] g (some r) g' := by
  refine z_enter (wY_ok ca q) (zY_ok tt) (by decide +kernel) rfl (Nat.le_of_ble_eq_true rfl) (fun J hC => ?_)
  have hC : z_Cx J l cX6_leastOf 8 wsX6_leastOf RX6 (some .int) { frames := 1, cells := 0, slots := 0, locals := 23 } (dC, dI) (tyY ca) (wY ca q) (zY tt) (z_QI (dC, dI) (tyY ca) (wY ca q) (some r) g') z_X0 := hC
  show J 0 [(0, .ref (q 7)), (1, .int a0), (2, .int a1), (3, .int a2)] [] g
  have hX6 : ∀ w ∈ wsX60, w ∈ wsX6_leastOf := fun _ h => List.mem_cons_of_mem _ (List.mem_append_right _ (h))
  have hJ72 : ∀ (k9 : Int32 × Int32 × Int32 × Int32 × Int32 × Int32 × z_G → Option (Int32 × z_G)) (_ : ∀ w : Int32 × Int32 × Int32 × Int32 × Int32 × Int32 × z_G, k9 w = some (r, g') → J 9 [(0, .ref (q 7)), (1, .int w.1), (2, .int w.2.1), (3, .int w.2.2.1), (4, .int w.2.2.2.1), (5, .int w.2.2.2.2.1), (6, .int w.2.2.2.2.2.1)] [] w.2.2.2.2.2.2) (x1 : Int32) (x2 : Int32) (x3 : Int32) (x4 : Int32) (x5 : Int32) (x6 : Int32) (g : z_G), fY_X6_leastOf_72 k9 x1 x2 x3 x4 x5 x6 g = some (r, g') → J 72 [(0, .ref (q 7)), (1, .int x1), (2, .int x2), (3, .int x3), (4, .int x4), (5, .int x5), (6, .int x6)] [] g := by
    intro k9 hk9 x1 x2 x3 x4 x5 x6 g hf
    unfold fY_X6_leastOf_72 at hf
    refine zj_iinc (lv1 := fun v => [(6, .int v), (0, .ref (q 7)), (1, .int x1), (2, .int x2), (3, .int x3), (4, .int x4), (5, .int x5)]) 6 hC dX6_leastOf_72 rfl (by decide) (fun _ => rfl) (fun y1 ey1 => ?_)
    have hf := z_letE hf (show y1 = x6 + 1 from ey1)
    refine zj_goto 9 hC dX6_leastOf_75 (by decide) ?_
    exact zj_sub hC [1, 2, 3, 4, 5, 6, 0] rfl (hk9 (x1, x2, x3, x4, x5, y1, g) hf)
  have hJ64 : ∀ (k9 : Int32 × Int32 × Int32 × Int32 × Int32 × Int32 × z_G → Option (Int32 × z_G)) (_ : ∀ w : Int32 × Int32 × Int32 × Int32 × Int32 × Int32 × z_G, k9 w = some (r, g') → J 9 [(0, .ref (q 7)), (1, .int w.1), (2, .int w.2.1), (3, .int w.2.2.1), (4, .int w.2.2.2.1), (5, .int w.2.2.2.2.1), (6, .int w.2.2.2.2.2.1)] [] w.2.2.2.2.2.2) (x1 : Int32) (x2 : Int32) (x3 : Int32) (x6 : Int32) (x7 : Int32) (g : z_G), fY_X6_leastOf_64 k9 x1 x2 x3 x6 x7 g = some (r, g') → J 64 [(0, .ref (q 7)), (1, .int x1), (2, .int x2), (3, .int x3), (6, .int x6), (7, .int x7)] [] g := by
    intro k9 hk9 x1 x2 x3 x6 x7 g hf
    unfold fY_X6_leastOf_64 at hf
    refine zj_iload 4 hC dX6_leastOf_64 rfl ?_
    refine zj_istore (lv1 := [(4, .int x6), (0, .ref (q 7)), (1, .int x1), (2, .int x2), (3, .int x3), (6, .int x6), (7, .int x7)]) hC dX6_leastOf_66 (by decide) rfl ?_
    refine zj_iload 6 hC dX6_leastOf_68 rfl ?_
    refine zj_istore (lv1 := [(5, .int x7), (4, .int x6), (0, .ref (q 7)), (1, .int x1), (2, .int x2), (3, .int x3), (6, .int x6), (7, .int x7)]) hC dX6_leastOf_70 (by decide) rfl ?_
    exact zj_sub hC [2, 3, 4, 5, 1, 0, 6] rfl (hJ72 k9 hk9 x1 x2 x3 x6 x7 x6 g hf)
  have hJ9 : ∀ (x1 : Int32) (x2 : Int32) (x3 : Int32) (x4 : Int32) (x5 : Int32) (x6 : Int32) (g : z_G), fY_X6_leastOf_9_go x1 x2 x3 x4 x5 x6 g = some (r, g') → J 9 [(0, .ref (q 7)), (1, .int x1), (2, .int x2), (3, .int x3), (4, .int x4), (5, .int x5), (6, .int x6)] [] g := by
    intro x1 x2 x3 x4 x5 x6 g hf
    refine z_loopE (P := fun w : Int32 × Int32 × Int32 × Int32 × Int32 × Int32 × z_G => J 9 [(0, .ref (q 7)), (1, .int w.1), (2, .int w.2.1), (3, .int w.2.2.1), (4, .int w.2.2.2.1), (5, .int w.2.2.2.2.1), (6, .int w.2.2.2.2.2.1)] [] w.2.2.2.2.2.2) (fun k9 hk9 w hf => ?_) z_fuel (x1, x2, x3, x4, x5, x6, g) hf
    obtain ⟨x1, x2, x3, x4, x5, x6, g⟩ := w
    have hf : fY_X6_leastOf_9 k9 x1 x2 x3 x4 x5 x6 g = some (r, g') := hf
    show J 9 [(0, .ref (q 7)), (1, .int x1), (2, .int x2), (3, .int x3), (4, .int x4), (5, .int x5), (6, .int x6)] [] g
    unfold fY_X6_leastOf_9 at hf
    refine zj_iload 6 hC dX6_leastOf_9 rfl ?_
    refine zj_iconst (v := 1) hC dX6_leastOf_11 (by decide) ?_
    refine zj_aload_n 0 hC dX6_leastOf_12 rfl ?_
    refine yg_7_0 hC hX6 (List.mem_of_getElem? (i := 1) rfl) dX6_leastOf_13 ?_
    refine zj_ishl hC dX6_leastOf_16 ?_
    refine zj_icmp_ge 78 hC dX6_leastOf_17 (by decide) (fun c2 => ?_) (fun c2 => ?_)
    · have hf := z_iteT hf c2
      refine zj_iload 4 hC dX6_leastOf_78 rfl ?_
      exact zj_ireturn hC hf dX6_leastOf_80
    · have hf := z_iteF hf c2
      refine zj_iload 6 hC dX6_leastOf_20 rfl ?_
      refine zj_iload_n 1 hC dX6_leastOf_22 rfl ?_
      refine zj_iconst (v := (-1)) hC dX6_leastOf_23 (by decide) ?_
      refine zj_ixor hC dX6_leastOf_24 ?_
      refine zj_iand hC dX6_leastOf_25 ?_
      refine zj_if_ne 72 hC dX6_leastOf_26 (by decide) (fun c3 => ?_) (fun c3 => ?_)
      · have hf := z_iteF hf c3
        exact (hJ72 k9 hk9 x1 x2 x3 x4 x5 x6 g hf)
      · have hf := z_iteT hf c3
        refine zj_iload 6 hC dX6_leastOf_29 rfl ?_
        obtain ⟨r4, g5, hq6, hf⟩ := z_bindE hf
        refine zj_callSi [.int x6] hC (cY_J6_bitCount_0f7a4 l dC dI ca q tt x6 g r4 g5 hq6) gX6_leastOf_J6_bitCount_0f7a4 rfl nY_J6_bitCount_0f7a4 ⟨Nat.le_of_ble_eq_true rfl, Nat.le_of_ble_eq_true rfl⟩ rfl (Nat.le_of_ble_eq_true rfl) dX6_leastOf_31 rfl ?_
        refine zj_iload_n 2 hC dX6_leastOf_34 rfl ?_
        refine zj_icmp_ne 72 hC dX6_leastOf_35 (by decide) (fun c7 => ?_) (fun c7 => ?_)
        · have hf := z_iteF hf c7
          exact (hJ72 k9 hk9 x1 x2 x3 x4 x5 x6 g5 hf)
        · have hf := z_iteT hf c7
          refine zj_aload_n 0 hC dX6_leastOf_38 rfl ?_
          refine zj_iload 6 hC dX6_leastOf_39 rfl ?_
          obtain ⟨r8, g9, hq10, hf⟩ := z_bindE hf
          refine zj_callVi [.int x6] hC (cY_X6_loadsOf l dC dI ca q tt x6 g5 r8 g9 hq10) gX6_leastOf_X6_loadsOf rfl nY_X6_loadsOf ⟨Nat.le_of_ble_eq_true rfl, Nat.le_of_ble_eq_true rfl⟩ 7 yo_7 rfl rfl rfl (Nat.le_of_ble_eq_true rfl) dX6_leastOf_41 rfl ?_
          refine zj_istore (lv1 := [(7, .int r8), (0, .ref (q 7)), (1, .int x1), (2, .int x2), (3, .int x3), (4, .int x4), (5, .int x5), (6, .int x6)]) hC dX6_leastOf_44 (by decide) rfl ?_
          refine zj_iload 0 hC dX6_leastOf_46 rfl ?_
          refine zj_iload_n 4 hC dX6_leastOf_48 rfl ?_
          refine zj_icmp_lt 72 hC dX6_leastOf_49 (by decide) (fun c11 => ?_) (fun c11 => ?_)
          · have hf := z_iteT hf c11
            exact zj_sub hC [1, 2, 3, 4, 5, 6, 7] rfl (hJ72 k9 hk9 x1 x2 x3 x4 x5 x6 g9 hf)
          · have hf := z_iteF hf c11
            refine zj_iload 5 hC dX6_leastOf_52 rfl ?_
            refine zj_if_eq 64 hC dX6_leastOf_54 (by decide) (fun c12 => ?_) (fun c12 => ?_)
            · have hf := z_iteT hf c12
              exact zj_sub hC [1, 2, 3, 4, 7, 0] rfl (hJ64 k9 hk9 x1 x2 x3 x6 r8 g9 hf)
            · have hf := z_iteF hf c12
              refine zj_iload 0 hC dX6_leastOf_57 rfl ?_
              refine zj_iload 6 hC dX6_leastOf_59 rfl ?_
              refine zj_icmp_ge 72 hC dX6_leastOf_61 (by decide) (fun c13 => ?_) (fun c13 => ?_)
              · have hf := z_iteT hf c13
                exact zj_sub hC [1, 2, 3, 4, 5, 6, 7] rfl (hJ72 k9 hk9 x1 x2 x3 x4 x5 x6 g9 hf)
              · have hf := z_iteF hf c13
                exact zj_sub hC [1, 2, 3, 4, 7, 0] rfl (hJ64 k9 hk9 x1 x2 x3 x6 r8 g9 hf)
  unfold fY_X6_leastOf at hf
  refine zj_iconst (v := 0) hC dX6_leastOf_0 (by decide) ?_
  refine zj_istore (lv1 := [(4, .int 0), (0, .ref (q 7)), (1, .int a0), (2, .int a1), (3, .int a2)]) hC dX6_leastOf_1 (by decide) rfl ?_
  refine zj_iconst (v := 0) hC dX6_leastOf_3 (by decide) ?_
  refine zj_istore (lv1 := [(5, .int 0), (4, .int 0), (0, .ref (q 7)), (1, .int a0), (2, .int a1), (3, .int a2)]) hC dX6_leastOf_4 (by decide) rfl ?_
  refine zj_iconst (v := 1) hC dX6_leastOf_6 (by decide) ?_
  refine zj_istore (lv1 := [(6, .int 1), (5, .int 0), (4, .int 0), (0, .ref (q 7)), (1, .int a0), (2, .int a1), (3, .int a2)]) hC dX6_leastOf_7 (by decide) rfl ?_
  exact zj_sub hC [3, 4, 5, 6, 2, 1, 0] rfl (hJ9 a0 a1 a2 0 0 1 g hf)

def fY_X6_choose_29 (s0 : Int32) (g : z_G) : Option (Int32 × z_G) := some (s0, g)
def fY_X6_choose (a0 : Int32) (g : z_G) : Option (Int32 × z_G) := z_bind (fY_X6_ripeOnes g) (fun r1 g2 => z_bind (fY_X6_fewestOf r1 a0 g2) (fun r4 g5 => (if r4 = (-1) then fY_X6_choose_29 (-3) g5 else z_bind (fY_X6_leastOf r1 r4 a0 g5) (fun r8 g9 => fY_X6_choose_29 r8 g9))))
theorem nY_X6_choose : yX6_choose.cls = RX6 ∧ yX6_choose.cls ≠ "java/lang/invoke/MethodHandle" ∧ yX6_choose.cls ≠ "java/lang/invoke/VarHandle" ∧ (parseMethodDescriptor yX6_choose.desc).map (fun d => d.parameters.length) = some 1 := by decide +kernel
set_option maxRecDepth 100000 in
set_option maxHeartbeats 4000000 in
theorem cY_X6_choose (l : Launch) (dC : Nat → ClassId) (dI : Nat → Nat → Nat) (ca : Nat → ClassId) (q : Nat → Nat) (tt : Nat → Nat) (a0 : Int32) (g : z_G) (r : Int32) (g' : z_G) (hf : fY_X6_choose a0 g = some (r, g')) : z_C l yX6_choose wsX6_choose { frames := 3, cells := 0, slots := 0, locals := 64 } (dC, dI) (tyY ca) (wY ca q) (zY tt) [.ref (q 7), .int a0] g (some r) g' := by
  refine z_enter (wY_ok ca q) (zY_ok tt) (by decide +kernel) rfl (Nat.le_of_ble_eq_true rfl) (fun J hC => ?_)
  have hC : z_Cx J l cX6_choose 4 wsX6_choose RX6 (some .int) { frames := 3, cells := 0, slots := 0, locals := 64 } (dC, dI) (tyY ca) (wY ca q) (zY tt) (z_QI (dC, dI) (tyY ca) (wY ca q) (some r) g') z_X0 := hC
  show J 0 [(0, .ref (q 7)), (1, .int a0)] [] g
  have hJ29 : ∀ (s0 : Int32) (g : z_G), fY_X6_choose_29 s0 g = some (r, g') → J 29 [] [.int s0] g := by
    intro s0 g hf
    unfold fY_X6_choose_29 at hf
    exact zj_ireturn hC hf dX6_choose_29
  unfold fY_X6_choose at hf
  refine zj_aload_n 0 hC dX6_choose_0 rfl ?_
  obtain ⟨r1, g2, hq3, hf⟩ := z_bindE hf
  refine zj_callVi [] hC (cY_X6_ripeOnes l dC dI ca q tt g r1 g2 hq3) gX6_choose_X6_ripeOnes rfl nY_X6_ripeOnes ⟨Nat.le_of_ble_eq_true rfl, Nat.le_of_ble_eq_true rfl⟩ 7 yo_7 rfl rfl rfl (Nat.le_of_ble_eq_true rfl) dX6_choose_1 rfl ?_
  refine zj_istore_n (lv1 := [(2, .int r1), (0, .ref (q 7)), (1, .int a0)]) hC dX6_choose_4 (by decide) rfl ?_
  refine zj_aload_n 1 hC dX6_choose_5 rfl ?_
  refine zj_iload_n 0 hC dX6_choose_6 rfl ?_
  refine zj_iload_n 2 hC dX6_choose_7 rfl ?_
  obtain ⟨r4, g5, hq6, hf⟩ := z_bindE hf
  refine zj_callVi [.int r1, .int a0] hC (cY_X6_fewestOf l dC dI ca q tt r1 a0 g2 r4 g5 hq6) gX6_choose_X6_fewestOf rfl nY_X6_fewestOf ⟨Nat.le_of_ble_eq_true rfl, Nat.le_of_ble_eq_true rfl⟩ 7 yo_7 rfl rfl rfl (Nat.le_of_ble_eq_true rfl) dX6_choose_8 rfl ?_
  refine zj_istore_n (lv1 := [(3, .int r4), (2, .int r1), (0, .ref (q 7)), (1, .int a0)]) hC dX6_choose_11 (by decide) rfl ?_
  refine zj_iload_n 0 hC dX6_choose_12 rfl ?_
  refine zj_iconst (v := (-1)) hC dX6_choose_13 (by decide) ?_
  refine zj_icmp_ne 22 hC dX6_choose_14 (by decide) (fun c7 => ?_) (fun c7 => ?_)
  · have hf := z_iteF hf c7
    refine zj_aload_n 2 hC dX6_choose_22 rfl ?_
    refine zj_iload_n 1 hC dX6_choose_23 rfl ?_
    refine zj_iload_n 0 hC dX6_choose_24 rfl ?_
    refine zj_iload_n 3 hC dX6_choose_25 rfl ?_
    obtain ⟨r8, g9, hq10, hf⟩ := z_bindE hf
    refine zj_callVi [.int r1, .int r4, .int a0] hC (cY_X6_leastOf l dC dI ca q tt r1 r4 a0 g5 r8 g9 hq10) gX6_choose_X6_leastOf rfl nY_X6_leastOf ⟨Nat.le_of_ble_eq_true rfl, Nat.le_of_ble_eq_true rfl⟩ 7 yo_7 rfl rfl rfl (Nat.le_of_ble_eq_true rfl) dX6_choose_26 rfl ?_
    exact zj_sub hC [] rfl (hJ29 r8 g9 hf)
  · have hf := z_iteT hf c7
    refine zj_bipush (v := (-3)) hC dX6_choose_17 (by decide) ?_
    refine zj_goto 29 hC dX6_choose_19 (by decide) ?_
    exact zj_sub hC [] rfl (hJ29 (-3) g5 hf)
