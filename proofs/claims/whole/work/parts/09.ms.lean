def lenM : List Nat := [10, 7, 3, 1, 1, 4]
def bytM : List (List Int32) := [[48, 49, 50, 51, 52, 53, 54, 55, 56, 57], [115, 107, 99, 116, 111, 114, 119], [60, 62, 61], [38], [58], [43, 45, 94, 126]]
def kSTR (k j : Nat) : Int32 := (bytM.getD k []).getD j 0
def zM (sk sv : Nat → Nat) : z_ZT := fun A U H => va_Z "java/lang/String" "COMPACT_STRINGS" "Z" (.int 1) A U H ∧ vk_S 6 lenM bytM sk sv A U H ∧ vk_R RX8 305 "0123456789" (sk 0) U ∧ vk_R RX8 311 "skctorw" (sk 1) U ∧ vk_R RX8 313 "<>=" (sk 2) U ∧ vk_R RX8 321 "&" (sk 3) U ∧ vk_R RX8 323 ":" (sk 4) U ∧ vk_R RX8 325 "+-^~" (sk 5) U
theorem zM_ok (sk sv : Nat → Nat) : z_Zok (zM sk sv) := by
  refine ⟨⟨fun A u U H hv h => ?_, fun A u U H hv h => ?_⟩, fun A U H H1 h hq => ?_, fun A B U H h hq => ?_⟩
  · have ha : u.vm.Alike U.vm := by rw [hv]; exact Vm.Alike.refl _
    exact ⟨h.1.moved ha, h.2.1.moved ha, h.2.2.1.same hv, h.2.2.2.1.same hv, h.2.2.2.2.1.same hv, h.2.2.2.2.2.1.same hv, h.2.2.2.2.2.2.1.same hv, h.2.2.2.2.2.2.2.same hv⟩
  · exact ⟨h.1.moved hv.alike, h.2.1.moved hv.alike, h.2.2.1.warm hv, h.2.2.2.1.warm hv, h.2.2.2.2.1.warm hv, h.2.2.2.2.2.1.warm hv, h.2.2.2.2.2.2.1.warm hv, h.2.2.2.2.2.2.2.warm hv⟩
  · exact ⟨h.1.kept hq, h.2.1.kept hq, h.2.2.1, h.2.2.2.1, h.2.2.2.2.1, h.2.2.2.2.2.1, h.2.2.2.2.2.2.1, h.2.2.2.2.2.2.2⟩
  · exact ⟨h.1.narrow hq, h.2.1.narrow hq, h.2.2.1, h.2.2.2.1, h.2.2.2.2.1, h.2.2.2.2.2.1, h.2.2.2.2.2.2.1, h.2.2.2.2.2.2.2⟩
def fS_J0_isLatin1_aae02_S0_18 (s0 : Int32) (g : z_G) : Option (Int32 × z_G) := z_bo s0 (some (s0, g))
def fS_J0_isLatin1_aae02_S0_17  (g : z_G) : Option (Int32 × z_G) := fS_J0_isLatin1_aae02_S0_18 0 g
def fS_J0_isLatin1_aae02_S0 (g : z_G) : Option (Int32 × z_G) := (if (1 : Int32) = 0 then fS_J0_isLatin1_aae02_S0_17 g else (if (0 : Int32) = 0 then fS_J0_isLatin1_aae02_S0_18 1 g else fS_J0_isLatin1_aae02_S0_17 g))
theorem nS_J0_isLatin1_aae02_S0 : yJ0_isLatin1_aae02.cls = RJ0 ∧ yJ0_isLatin1_aae02.cls ≠ "java/lang/invoke/MethodHandle" ∧ yJ0_isLatin1_aae02.cls ≠ "java/lang/invoke/VarHandle" ∧ (parseMethodDescriptor yJ0_isLatin1_aae02.desc).map (fun d => d.parameters.length) = some 0 := by decide +kernel
set_option maxRecDepth 100000 in
set_option maxHeartbeats 4000000 in
theorem cS_J0_isLatin1_aae02_S0 (l : Launch) (dC : Nat → ClassId) (dI : Nat → Nat → Nat) (ca : Nat → ClassId) (q : Nat → Nat) (sk sv : Nat → Nat) (g : z_G) (r : Int32) (g' : z_G) (hf : fS_J0_isLatin1_aae02_S0 g = some (r, g')) : z_C l yJ0_isLatin1_aae02 wsJ0_isLatin1_aae02 { frames := 0, cells := 0, slots := 0, locals := 0 } (dC, dI) (tyM ca) (wM ca q) (zM sk sv) [.ref (sk 0)] g (some r) g' := by
  refine z_enter (wM_ok ca q) (zM_ok sk sv) (by decide +kernel) rfl (Nat.le_of_ble_eq_true rfl) (fun J hC => ?_)
  have hC : z_Cx J l cJ0_isLatin1_aae02 1 wsJ0_isLatin1_aae02 RJ0 (some .boolean) { frames := 0, cells := 0, slots := 0, locals := 0 } (dC, dI) (tyM ca) (wM ca q) (zM sk sv) (z_QI (dC, dI) (tyM ca) (wM ca q) (some r) g') z_X0 := hC
  show J 0 [(0, .ref (sk 0))] [] g
  have hJ18 : ∀ (s0 : Int32) (g : z_G), fS_J0_isLatin1_aae02_S0_18 s0 g = some (r, g') → J 18 [] [.int s0] g := by
    intro s0 g hf
    unfold fS_J0_isLatin1_aae02_S0_18 at hf
    exact zj_zreturn hC hf dJ0_isLatin1_aae02_18
  have hJ17 : ∀ (g : z_G), fS_J0_isLatin1_aae02_S0_17 g = some (r, g') → J 17 [] [] g := by
    intro g hf
    unfold fS_J0_isLatin1_aae02_S0_17 at hf
    refine zj_iconst (v := 0) hC dJ0_isLatin1_aae02_17 (by decide) ?_
    exact (hJ18 0 g hf)
  unfold fS_J0_isLatin1_aae02_S0 at hf
  refine zj_gets (C := "java/lang/String") (v := .int 1) hC (fun A U H h => h.1) (List.mem_of_getElem? (i := 1) rfl) rfl dJ0_isLatin1_aae02_0 ?_
  refine zj_if_eq 17 hC dJ0_isLatin1_aae02_3 (by decide) (fun c1 => ?_) (fun c1 => ?_)
  · have hf := z_iteT hf c1
    exact zj_sub hC [] rfl (hJ17 g hf)
  · have hf := z_iteF hf c1
    refine zj_aload_n 0 hC dJ0_isLatin1_aae02_6 rfl ?_
    refine zj_vkget (o1 := "java/lang/String") (v := .int 0) hC (fun A U H h => (h.2.1.1 0 (by decide)).2.1) (List.mem_of_getElem? (i := 2) rfl) rfl dJ0_isLatin1_aae02_7 ?_
    refine zj_if_ne 17 hC dJ0_isLatin1_aae02_10 (by decide) (fun c2 => ?_) (fun c2 => ?_)
    · have hf := z_iteF hf c2
      exact zj_sub hC [] rfl (hJ17 g hf)
    · have hf := z_iteT hf c2
      refine zj_iconst (v := 1) hC dJ0_isLatin1_aae02_13 (by decide) ?_
      refine zj_goto 18 hC dJ0_isLatin1_aae02_14 (by decide) ?_
      exact zj_sub hC [] rfl (hJ18 1 g hf)

def fS_J0_coder_7d493_S0_14 (s0 : Int32) (g : z_G) : Option (Int32 × z_G) := z_bo s0 (some (s0, g))
def fS_J0_coder_7d493_S0 (g : z_G) : Option (Int32 × z_G) := (if (1 : Int32) = 0 then fS_J0_coder_7d493_S0_14 1 g else fS_J0_coder_7d493_S0_14 0 g)
theorem nS_J0_coder_7d493_S0 : yJ0_coder_7d493.cls = RJ0 ∧ yJ0_coder_7d493.cls ≠ "java/lang/invoke/MethodHandle" ∧ yJ0_coder_7d493.cls ≠ "java/lang/invoke/VarHandle" ∧ (parseMethodDescriptor yJ0_coder_7d493.desc).map (fun d => d.parameters.length) = some 0 := by decide +kernel
set_option maxRecDepth 100000 in
set_option maxHeartbeats 4000000 in
theorem cS_J0_coder_7d493_S0 (l : Launch) (dC : Nat → ClassId) (dI : Nat → Nat → Nat) (ca : Nat → ClassId) (q : Nat → Nat) (sk sv : Nat → Nat) (g : z_G) (r : Int32) (g' : z_G) (hf : fS_J0_coder_7d493_S0 g = some (r, g')) : z_C l yJ0_coder_7d493 wsJ0_coder_7d493 { frames := 0, cells := 0, slots := 0, locals := 0 } (dC, dI) (tyM ca) (wM ca q) (zM sk sv) [.ref (sk 0)] g (some r) g' := by
  refine z_enter (wM_ok ca q) (zM_ok sk sv) (by decide +kernel) rfl (Nat.le_of_ble_eq_true rfl) (fun J hC => ?_)
  have hC : z_Cx J l cJ0_coder_7d493 1 wsJ0_coder_7d493 RJ0 (some .byte) { frames := 0, cells := 0, slots := 0, locals := 0 } (dC, dI) (tyM ca) (wM ca q) (zM sk sv) (z_QI (dC, dI) (tyM ca) (wM ca q) (some r) g') z_X0 := hC
  show J 0 [(0, .ref (sk 0))] [] g
  have hJ14 : ∀ (s0 : Int32) (g : z_G), fS_J0_coder_7d493_S0_14 s0 g = some (r, g') → J 14 [] [.int s0] g := by
    intro s0 g hf
    unfold fS_J0_coder_7d493_S0_14 at hf
    exact zj_breturn hC hf dJ0_coder_7d493_14
  unfold fS_J0_coder_7d493_S0 at hf
  refine zj_gets (C := "java/lang/String") (v := .int 1) hC (fun A U H h => h.1) (List.mem_of_getElem? (i := 1) rfl) rfl dJ0_coder_7d493_0 ?_
  refine zj_if_eq 13 hC dJ0_coder_7d493_3 (by decide) (fun c1 => ?_) (fun c1 => ?_)
  · have hf := z_iteT hf c1
    refine zj_iconst (v := 1) hC dJ0_coder_7d493_13 (by decide) ?_
    exact zj_sub hC [] rfl (hJ14 1 g hf)
  · have hf := z_iteF hf c1
    refine zj_aload_n 0 hC dJ0_coder_7d493_6 rfl ?_
    refine zj_vkget (o1 := "java/lang/String") (v := .int 0) hC (fun A U H h => (h.2.1.1 0 (by decide)).2.1) (List.mem_of_getElem? (i := 2) rfl) rfl dJ0_coder_7d493_7 ?_
    refine zj_goto 14 hC dJ0_coder_7d493_10 (by decide) ?_
    exact zj_sub hC [] rfl (hJ14 0 g hf)

def fS_J0_length_8abf5_S0 (g : z_G) : Option (Int32 × z_G) := z_bind (fS_J0_coder_7d493_S0 g) (fun r1 g2 => some (10 >>> (r1 &&& 31), g2))
theorem nS_J0_length_8abf5_S0 : yJ0_length_8abf5.cls = RJ0 ∧ yJ0_length_8abf5.cls ≠ "java/lang/invoke/MethodHandle" ∧ yJ0_length_8abf5.cls ≠ "java/lang/invoke/VarHandle" ∧ (parseMethodDescriptor yJ0_length_8abf5.desc).map (fun d => d.parameters.length) = some 0 := by decide +kernel
set_option maxRecDepth 100000 in
set_option maxHeartbeats 4000000 in
theorem cS_J0_length_8abf5_S0 (l : Launch) (dC : Nat → ClassId) (dI : Nat → Nat → Nat) (ca : Nat → ClassId) (q : Nat → Nat) (sk sv : Nat → Nat) (g : z_G) (r : Int32) (g' : z_G) (hf : fS_J0_length_8abf5_S0 g = some (r, g')) : z_C l yJ0_length_8abf5 wsJ0_length_8abf5 { frames := 1, cells := 0, slots := 0, locals := 20 } (dC, dI) (tyM ca) (wM ca q) (zM sk sv) [.ref (sk 0)] g (some r) g' := by
  refine z_enter (wM_ok ca q) (zM_ok sk sv) (by decide +kernel) rfl (Nat.le_of_ble_eq_true rfl) (fun J hC => ?_)
  have hC : z_Cx J l cJ0_length_8abf5 1 wsJ0_length_8abf5 RJ0 (some .int) { frames := 1, cells := 0, slots := 0, locals := 20 } (dC, dI) (tyM ca) (wM ca q) (zM sk sv) (z_QI (dC, dI) (tyM ca) (wM ca q) (some r) g') z_X0 := hC
  show J 0 [(0, .ref (sk 0))] [] g
  unfold fS_J0_length_8abf5_S0 at hf
  refine zj_aload_n 0 hC dJ0_length_8abf5_0 rfl ?_
  refine zj_vkget (o1 := "java/lang/String") (v := .ref (sv 0)) hC (fun A U H h => (h.2.1.1 0 (by decide)).2.2.1) (List.mem_of_getElem? (i := 1) rfl) rfl dJ0_length_8abf5_1 ?_
  refine zj_tlen (v := 10) hC (fun A U H h => (h.2.1.1 0 (by decide)).2.2.2) rfl dJ0_length_8abf5_4 ?_
  refine zj_aload_n 0 hC dJ0_length_8abf5_5 rfl ?_
  obtain ⟨r1, g2, hq3, hf⟩ := z_bindE hf
  refine zj_callViS [] hC (cS_J0_coder_7d493_S0 l dC dI ca q sk sv g r1 g2 hq3) gJ0_length_8abf5_J0_coder_7d493 rfl nS_J0_coder_7d493_S0 ⟨Nat.le_of_ble_eq_true rfl, Nat.le_of_ble_eq_true rfl⟩ (fun A s H locs h hS => vk_recv h.2.1 (show 0 < 6 by decide) hS) rfl (Nat.le_of_ble_eq_true rfl) dJ0_length_8abf5_6 rfl ?_
  refine zj_ishr hC dJ0_length_8abf5_9 ?_
  exact zj_ireturn hC hf dJ0_length_8abf5_10

def fS_J1_canEncode_9a6ad_16 (s0 : Int32) (g : z_G) : Option (Int32 × z_G) := z_bo s0 (some (s0, g))
def fS_J1_canEncode_9a6ad_15  (g : z_G) : Option (Int32 × z_G) := fS_J1_canEncode_9a6ad_16 0 g
def fS_J1_canEncode_9a6ad (a0 : Int32) (g : z_G) : Option (Int32 × z_G) := (if a0 < 0 then fS_J1_canEncode_9a6ad_15 g else (if 255 < a0 then fS_J1_canEncode_9a6ad_15 g else fS_J1_canEncode_9a6ad_16 1 g))
theorem nS_J1_canEncode_9a6ad : yJ1_canEncode_9a6ad.cls ≠ "java/lang/invoke/MethodHandle" ∧ yJ1_canEncode_9a6ad.cls ≠ "java/lang/invoke/VarHandle" ∧ (parseMethodDescriptor yJ1_canEncode_9a6ad.desc).map (fun d => d.parameters.length) = some 1 := by decide +kernel
set_option maxRecDepth 100000 in
set_option maxHeartbeats 4000000 in
theorem cS_J1_canEncode_9a6ad (l : Launch) (dC : Nat → ClassId) (dI : Nat → Nat → Nat) (ca : Nat → ClassId) (q : Nat → Nat) (sk sv : Nat → Nat) (a0 : Int32) (g : z_G) (r : Int32) (g' : z_G) (hf : fS_J1_canEncode_9a6ad a0 g = some (r, g')) : z_C l yJ1_canEncode_9a6ad wsJ1_canEncode_9a6ad { frames := 0, cells := 0, slots := 0, locals := 0 } (dC, dI) (tyM ca) (wM ca q) (zM sk sv) [.int a0] g (some r) g' := by
  refine z_enter (wM_ok ca q) (zM_ok sk sv) (by decide +kernel) rfl (Nat.le_of_ble_eq_true rfl) (fun J hC => ?_)
  have hC : z_Cx J l cJ1_canEncode_9a6ad 1 wsJ1_canEncode_9a6ad RJ1 (some .boolean) { frames := 0, cells := 0, slots := 0, locals := 0 } (dC, dI) (tyM ca) (wM ca q) (zM sk sv) (z_QI (dC, dI) (tyM ca) (wM ca q) (some r) g') z_X0 := hC
  show J 0 [(0, .int a0)] [] g
  have hJ16 : ∀ (s0 : Int32) (g : z_G), fS_J1_canEncode_9a6ad_16 s0 g = some (r, g') → J 16 [] [.int s0] g := by
    intro s0 g hf
    unfold fS_J1_canEncode_9a6ad_16 at hf
    exact zj_zreturn hC hf dJ1_canEncode_9a6ad_16
  have hJ15 : ∀ (g : z_G), fS_J1_canEncode_9a6ad_15 g = some (r, g') → J 15 [] [] g := by
    intro g hf
    unfold fS_J1_canEncode_9a6ad_15 at hf
    refine zj_iconst (v := 0) hC dJ1_canEncode_9a6ad_15 (by decide) ?_
    exact (hJ16 0 g hf)
  unfold fS_J1_canEncode_9a6ad at hf
  refine zj_iload_n 0 hC dJ1_canEncode_9a6ad_0 rfl ?_
  refine zj_if_lt 15 hC dJ1_canEncode_9a6ad_1 (by decide) (fun c1 => ?_) (fun c1 => ?_)
  · have hf := z_iteT hf c1
    exact zj_sub hC [] rfl (hJ15 g hf)
  · have hf := z_iteF hf c1
    refine zj_iload_n 0 hC dJ1_canEncode_9a6ad_4 rfl ?_
    refine zj_sipush (v := 255) hC dJ1_canEncode_9a6ad_5 (by decide) ?_
    refine zj_icmp_gt 15 hC dJ1_canEncode_9a6ad_8 (by decide) (fun c2 => ?_) (fun c2 => ?_)
    · have hf := z_iteT hf c2
      exact zj_sub hC [] rfl (hJ15 g hf)
    · have hf := z_iteF hf c2
      refine zj_iconst (v := 1) hC dJ1_canEncode_9a6ad_11 (by decide) ?_
      refine zj_goto 16 hC dJ1_canEncode_9a6ad_12 (by decide) ?_
      exact zj_sub hC [] rfl (hJ16 1 g hf)

def fS_J1_indexOfChar_4cfef_B0_7 (k7 : Int32 × Int32 × Int32 × z_G → Option (Int32 × z_G)) (x3 : Int32) (x4 : Int32) (x5 : Int32) (g : z_G) : Option (Int32 × z_G) := (if x3 ≤ x5 then some ((-1), g) else z_ck x5 10 ((if (kSTR 0 (Int32.toNatClampNeg x5)) = x4 then some (x5, g) else z_let (x5 + 1) (fun y4 => k7 (x3, x4, y4, g)))))
def fS_J1_indexOfChar_4cfef_B0_7_go (x3 : Int32) (x4 : Int32) (x5 : Int32) (g : z_G) : Option (Int32 × z_G) := z_loop (fun k (w : Int32 × Int32 × Int32 × z_G) => fS_J1_indexOfChar_4cfef_B0_7 k w.1 w.2.1 w.2.2.1 w.2.2.2) z_fuel (x3, x4, x5, g)
def fS_J1_indexOfChar_4cfef_B0 (a1 : Int32) (a2 : Int32) (a3 : Int32) (g : z_G) : Option (Int32 × z_G) := z_let ((a1 : Int32).toInt8.toInt32) (fun y5 => fS_J1_indexOfChar_4cfef_B0_7_go a3 y5 a2 g)
theorem nS_J1_indexOfChar_4cfef_B0 : yJ1_indexOfChar_4cfef.cls ≠ "java/lang/invoke/MethodHandle" ∧ yJ1_indexOfChar_4cfef.cls ≠ "java/lang/invoke/VarHandle" ∧ (parseMethodDescriptor yJ1_indexOfChar_4cfef.desc).map (fun d => d.parameters.length) = some 4 := by decide +kernel
set_option maxRecDepth 100000 in
set_option maxHeartbeats 4000000 in
theorem cS_J1_indexOfChar_4cfef_B0 (l : Launch) (dC : Nat → ClassId) (dI : Nat → Nat → Nat) (ca : Nat → ClassId) (q : Nat → Nat) (sk sv : Nat → Nat) (a1 : Int32) (a2 : Int32) (a3 : Int32) (g : z_G) (r : Int32) (g' : z_G) (hf : fS_J1_indexOfChar_4cfef_B0 a1 a2 a3 g = some (r, g')) : z_C l yJ1_indexOfChar_4cfef wsJ1_indexOfChar_4cfef { frames := 0, cells := 0, slots := 0, locals := 0 } (dC, dI) (tyM ca) (wM ca q) (zM sk sv) [.ref (sv 0), .int a1, .int a2, .int a3] g (some r) g' := by
  refine z_enter (wM_ok ca q) (zM_ok sk sv) (by decide +kernel) rfl (Nat.le_of_ble_eq_true rfl) (fun J hC => ?_)
  have hC : z_Cx J l cJ1_indexOfChar_4cfef 6 wsJ1_indexOfChar_4cfef RJ1 (some .int) { frames := 0, cells := 0, slots := 0, locals := 0 } (dC, dI) (tyM ca) (wM ca q) (zM sk sv) (z_QI (dC, dI) (tyM ca) (wM ca q) (some r) g') z_X0 := hC
  show J 0 [(0, .ref (sv 0)), (1, .int a1), (2, .int a2), (3, .int a3)] [] g
  have hJ7 : ∀ (x3 : Int32) (x4 : Int32) (x5 : Int32) (g : z_G), fS_J1_indexOfChar_4cfef_B0_7_go x3 x4 x5 g = some (r, g') → J 7 [(0, .ref (sv 0)), (3, .int x3), (4, .int x4), (5, .int x5)] [] g := by
    intro x3 x4 x5 g hf
    refine z_loopE (P := fun w : Int32 × Int32 × Int32 × z_G => J 7 [(0, .ref (sv 0)), (3, .int w.1), (4, .int w.2.1), (5, .int w.2.2.1)] [] w.2.2.2) (fun k7 hk7 w hf => ?_) z_fuel (x3, x4, x5, g) hf
    obtain ⟨x3, x4, x5, g⟩ := w
    have hf : fS_J1_indexOfChar_4cfef_B0_7 k7 x3 x4 x5 g = some (r, g') := hf
    show J 7 [(0, .ref (sv 0)), (3, .int x3), (4, .int x4), (5, .int x5)] [] g
    unfold fS_J1_indexOfChar_4cfef_B0_7 at hf
    refine zj_iload 3 hC dJ1_indexOfChar_4cfef_7 rfl ?_
    refine zj_iload_n 1 hC dJ1_indexOfChar_4cfef_9 rfl ?_
    refine zj_icmp_ge 31 hC dJ1_indexOfChar_4cfef_10 (by decide) (fun c1 => ?_) (fun c1 => ?_)
    · have hf := z_iteT hf c1
      refine zj_iconst (v := (-1)) hC dJ1_indexOfChar_4cfef_31 (by decide) ?_
      exact zj_ireturn hC hf dJ1_indexOfChar_4cfef_32
    · have hf := z_iteF hf c1
      refine zj_aload_n 0 hC dJ1_indexOfChar_4cfef_13 rfl ?_
      refine zj_iload 3 hC dJ1_indexOfChar_4cfef_14 rfl ?_
      obtain ⟨hq2, hf⟩ := z_ckE hf
      refine zj_tb (f := kSTR 0) hC (fun A U H h => (h.2.1.1 0 (by decide)).2.2.2) hq2 dJ1_indexOfChar_4cfef_16 ?_
      refine zj_iload 2 hC dJ1_indexOfChar_4cfef_17 rfl ?_
      refine zj_icmp_ne 25 hC dJ1_indexOfChar_4cfef_19 (by decide) (fun c3 => ?_) (fun c3 => ?_)
      · have hf := z_iteF hf c3
        refine zj_iinc (lv1 := fun v => [(5, .int v), (0, .ref (sv 0)), (3, .int x3), (4, .int x4)]) 3 hC dJ1_indexOfChar_4cfef_25 rfl (by decide) (fun _ => rfl) (fun y4 ey4 => ?_)
        have hf := z_letE hf (show y4 = x5 + 1 from ey4)
        refine zj_goto 7 hC dJ1_indexOfChar_4cfef_28 (by decide) ?_
        exact zj_sub hC [1, 2, 3, 0] rfl (hk7 (x3, x4, y4, g) hf)
      · have hf := z_iteT hf c3
        refine zj_iload 3 hC dJ1_indexOfChar_4cfef_22 rfl ?_
        exact zj_ireturn hC hf dJ1_indexOfChar_4cfef_24
  unfold fS_J1_indexOfChar_4cfef_B0 at hf
  refine zj_iload_n 1 hC dJ1_indexOfChar_4cfef_0 rfl ?_
  refine zj_i2b hC dJ1_indexOfChar_4cfef_1 ?_
  refine zj_top (fun y5 ey5 => ?_)
  have hf := z_letE hf ey5
  refine zj_istore (lv1 := [(4, .int y5), (0, .ref (sv 0)), (1, .int a1), (2, .int a2), (3, .int a3)]) hC dJ1_indexOfChar_4cfef_2 (by decide) rfl ?_
  refine zj_iload_n 3 hC dJ1_indexOfChar_4cfef_4 rfl ?_
  refine zj_istore (lv1 := [(5, .int a2), (4, .int y5), (0, .ref (sv 0)), (1, .int a1), (2, .int a2), (3, .int a3)]) hC dJ1_indexOfChar_4cfef_5 (by decide) rfl ?_
  exact zj_sub hC [2, 5, 1, 0] rfl (hJ7 a3 y5 a2 g hf)

def fS_J1_indexOf_4cfef_B0 (a1 : Int32) (a2 : Int32) (a3 : Int32) (g : z_G) : Option (Int32 × z_G) := z_bind (fS_J1_canEncode_9a6ad a1 g) (fun r1 g2 => (if r1 = 0 then some ((-1), g2) else z_let (if a2 < 0 then 0 else a2) (fun y5 => z_let (if 10 < a3 then 10 else a3) (fun y6 => (if y5 < y6 then z_bind (fS_J1_indexOfChar_4cfef_B0 a1 y5 y6 g2) (fun r8 g9 => some (r8, g9)) else some ((-1), g2))))))
theorem nS_J1_indexOf_4cfef_B0 : yJ1_indexOf_4cfef.cls ≠ "java/lang/invoke/MethodHandle" ∧ yJ1_indexOf_4cfef.cls ≠ "java/lang/invoke/VarHandle" ∧ (parseMethodDescriptor yJ1_indexOf_4cfef.desc).map (fun d => d.parameters.length) = some 4 := by decide +kernel
set_option maxRecDepth 100000 in
set_option maxHeartbeats 4000000 in
theorem cS_J1_indexOf_4cfef_B0 (l : Launch) (dC : Nat → ClassId) (dI : Nat → Nat → Nat) (ca : Nat → ClassId) (q : Nat → Nat) (sk sv : Nat → Nat) (a1 : Int32) (a2 : Int32) (a3 : Int32) (g : z_G) (r : Int32) (g' : z_G) (hf : fS_J1_indexOf_4cfef_B0 a1 a2 a3 g = some (r, g')) : z_C l yJ1_indexOf_4cfef wsJ1_indexOf_4cfef { frames := 1, cells := 0, slots := 0, locals := 25 } (dC, dI) (tyM ca) (wM ca q) (zM sk sv) [.ref (sv 0), .int a1, .int a2, .int a3] g (some r) g' := by
  refine z_enter (wM_ok ca q) (zM_ok sk sv) (by decide +kernel) rfl (Nat.le_of_ble_eq_true rfl) (fun J hC => ?_)
  have hC : z_Cx J l cJ1_indexOf_4cfef 4 wsJ1_indexOf_4cfef RJ1 (some .int) { frames := 1, cells := 0, slots := 0, locals := 25 } (dC, dI) (tyM ca) (wM ca q) (zM sk sv) (z_QI (dC, dI) (tyM ca) (wM ca q) (some r) g') z_X0 := hC
  show J 0 [(0, .ref (sv 0)), (1, .int a1), (2, .int a2), (3, .int a3)] [] g
  unfold fS_J1_indexOf_4cfef_B0 at hf
  refine zj_iload_n 1 hC dJ1_indexOf_4cfef_0 rfl ?_
  obtain ⟨r1, g2, hq3, hf⟩ := z_bindE hf
  refine zj_callSi [.int a1] hC (cS_J1_canEncode_9a6ad l dC dI ca q sk sv a1 g r1 g2 hq3) gJ1_indexOf_4cfef_J1_canEncode_9a6ad rfl nS_J1_canEncode_9a6ad ⟨Nat.le_of_ble_eq_true rfl, Nat.le_of_ble_eq_true rfl⟩ rfl (Nat.le_of_ble_eq_true rfl) dJ1_indexOf_4cfef_1 rfl ?_
  refine zj_if_ne 9 hC dJ1_indexOf_4cfef_4 (by decide) (fun c4 => ?_) (fun c4 => ?_)
  · have hf := z_iteF hf c4
    refine zj_iload_n 2 hC dJ1_indexOf_4cfef_9 rfl ?_
    refine zj_iconst (v := 0) hC dJ1_indexOf_4cfef_10 (by decide) ?_
    refine zj_max hC (List.mem_of_getElem? (i := 1) rfl) (List.mem_of_getElem? (i := 2) rfl) (List.mem_of_getElem? (i := 3) rfl) (List.mem_of_getElem? (i := 4) rfl) (Nat.le_of_ble_eq_true rfl) (Nat.le_of_ble_eq_true rfl) dJ1_indexOf_4cfef_11 ?_
    refine zj_top (fun y5 ey5 => ?_)
    have hf := z_letE hf ey5
    refine zj_istore_n (lv1 := [(2, .int y5), (0, .ref (sv 0)), (1, .int a1), (3, .int a3)]) hC dJ1_indexOf_4cfef_14 (by decide) rfl ?_
    refine zj_iload_n 3 hC dJ1_indexOf_4cfef_15 rfl ?_
    refine zj_aload_n 1 hC dJ1_indexOf_4cfef_16 rfl ?_
    refine zj_tlen (v := 10) hC (fun A U H h => (h.2.1.1 0 (by decide)).2.2.2) rfl dJ1_indexOf_4cfef_17 ?_
    refine zj_min hC (List.mem_of_getElem? (i := 5) rfl) (List.mem_of_getElem? (i := 6) rfl) (List.mem_of_getElem? (i := 3) rfl) (List.mem_of_getElem? (i := 7) rfl) (Nat.le_of_ble_eq_true rfl) (Nat.le_of_ble_eq_true rfl) dJ1_indexOf_4cfef_18 ?_
    refine zj_top (fun y6 ey6 => ?_)
    have hf := z_letE hf ey6
    refine zj_istore_n (lv1 := [(3, .int y6), (2, .int y5), (0, .ref (sv 0)), (1, .int a1)]) hC dJ1_indexOf_4cfef_21 (by decide) rfl ?_
    refine zj_iload_n 1 hC dJ1_indexOf_4cfef_22 rfl ?_
    refine zj_iload_n 0 hC dJ1_indexOf_4cfef_23 rfl ?_
    refine zj_icmp_lt 29 hC dJ1_indexOf_4cfef_24 (by decide) (fun c7 => ?_) (fun c7 => ?_)
    · have hf := z_iteT hf c7
      refine zj_aload_n 2 hC dJ1_indexOf_4cfef_29 rfl ?_
      refine zj_iload_n 3 hC dJ1_indexOf_4cfef_30 rfl ?_
      refine zj_iload_n 1 hC dJ1_indexOf_4cfef_31 rfl ?_
      refine zj_iload_n 0 hC dJ1_indexOf_4cfef_32 rfl ?_
      obtain ⟨r8, g9, hq10, hf⟩ := z_bindE hf
      refine zj_callSi [.ref (sv 0), .int a1, .int y5, .int y6] hC (cS_J1_indexOfChar_4cfef_B0 l dC dI ca q sk sv a1 y5 y6 g2 r8 g9 hq10) gJ1_indexOf_4cfef_J1_indexOfChar_4cfef rfl nS_J1_indexOfChar_4cfef_B0 ⟨Nat.le_of_ble_eq_true rfl, Nat.le_of_ble_eq_true rfl⟩ rfl (Nat.le_of_ble_eq_true rfl) dJ1_indexOf_4cfef_33 rfl ?_
      exact zj_ireturn hC hf dJ1_indexOf_4cfef_36
    · have hf := z_iteF hf c7
      refine zj_iconst (v := (-1)) hC dJ1_indexOf_4cfef_27 (by decide) ?_
      exact zj_ireturn hC hf dJ1_indexOf_4cfef_28
  · have hf := z_iteT hf c4
    refine zj_iconst (v := (-1)) hC dJ1_indexOf_4cfef_7 (by decide) ?_
    exact zj_ireturn hC hf dJ1_indexOf_4cfef_8

def fS_J0_indexOf_7cf53_S0_36 (s0 : Int32) (g : z_G) : Option (Int32 × z_G) := some (s0, g)
def fS_J0_indexOf_7cf53_S0 (a0 : Int32) (a1 : Int32) (g : z_G) : Option (Int32 × z_G) := z_bind (fS_J0_isLatin1_aae02_S0 g) (fun r1 g2 => (if r1 = 0 then z_bind (fS_J0_length_8abf5_S0 g2) (fun r5 g6 => none) else z_bind (fS_J0_length_8abf5_S0 g2) (fun r8 g9 => z_bind (fS_J1_indexOf_4cfef_B0 a0 a1 r8 g9) (fun r11 g12 => fS_J0_indexOf_7cf53_S0_36 r11 g12))))
theorem nS_J0_indexOf_7cf53_S0 : yJ0_indexOf_7cf53.cls = RJ0 ∧ yJ0_indexOf_7cf53.cls ≠ "java/lang/invoke/MethodHandle" ∧ yJ0_indexOf_7cf53.cls ≠ "java/lang/invoke/VarHandle" ∧ (parseMethodDescriptor yJ0_indexOf_7cf53.desc).map (fun d => d.parameters.length) = some 2 := by decide +kernel
set_option maxRecDepth 100000 in
set_option maxHeartbeats 4000000 in
theorem cS_J0_indexOf_7cf53_S0 (l : Launch) (dC : Nat → ClassId) (dI : Nat → Nat → Nat) (ca : Nat → ClassId) (q : Nat → Nat) (sk sv : Nat → Nat) (a0 : Int32) (a1 : Int32) (g : z_G) (r : Int32) (g' : z_G) (hf : fS_J0_indexOf_7cf53_S0 a0 a1 g = some (r, g')) : z_C l yJ0_indexOf_7cf53 wsJ0_indexOf_7cf53 { frames := 2, cells := 0, slots := 0, locals := 48 } (dC, dI) (tyM ca) (wM ca q) (zM sk sv) [.ref (sk 0), .int a0, .int a1] g (some r) g' := by
  refine z_enter (wM_ok ca q) (zM_ok sk sv) (by decide +kernel) rfl (Nat.le_of_ble_eq_true rfl) (fun J hC => ?_)
  have hC : z_Cx J l cJ0_indexOf_7cf53 3 wsJ0_indexOf_7cf53 RJ0 (some .int) { frames := 2, cells := 0, slots := 0, locals := 48 } (dC, dI) (tyM ca) (wM ca q) (zM sk sv) (z_QI (dC, dI) (tyM ca) (wM ca q) (some r) g') z_X0 := hC
  show J 0 [(0, .ref (sk 0)), (1, .int a0), (2, .int a1)] [] g
  have hJ36 : ∀ (s0 : Int32) (g : z_G), fS_J0_indexOf_7cf53_S0_36 s0 g = some (r, g') → J 36 [] [.int s0] g := by
    intro s0 g hf
    unfold fS_J0_indexOf_7cf53_S0_36 at hf
    exact zj_ireturn hC hf dJ0_indexOf_7cf53_36
  unfold fS_J0_indexOf_7cf53_S0 at hf
  refine zj_aload_n 0 hC dJ0_indexOf_7cf53_0 rfl ?_
  obtain ⟨r1, g2, hq3, hf⟩ := z_bindE hf
  refine zj_callViS [] hC (cS_J0_isLatin1_aae02_S0 l dC dI ca q sk sv g r1 g2 hq3) gJ0_indexOf_7cf53_J0_isLatin1_aae02 rfl nS_J0_isLatin1_aae02_S0 ⟨Nat.le_of_ble_eq_true rfl, Nat.le_of_ble_eq_true rfl⟩ (fun A s H locs h hS => vk_recv h.2.1 (show 0 < 6 by decide) hS) rfl (Nat.le_of_ble_eq_true rfl) dJ0_indexOf_7cf53_1 rfl ?_
  refine zj_if_eq 23 hC dJ0_indexOf_7cf53_4 (by decide) (fun c4 => ?_) (fun c4 => ?_)
  · have hf := z_iteT hf c4
    refine zj_aload_n 0 hC dJ0_indexOf_7cf53_23 rfl ?_
    refine zj_vkget (o1 := "java/lang/String") (v := .ref (sv 0)) hC (fun A U H h => (h.2.1.1 0 (by decide)).2.2.1) (List.mem_of_getElem? (i := 1) rfl) rfl dJ0_indexOf_7cf53_24 ?_
    refine zj_iload_n 1 hC dJ0_indexOf_7cf53_27 rfl ?_
    refine zj_iload_n 2 hC dJ0_indexOf_7cf53_28 rfl ?_
    refine zj_aload_n 0 hC dJ0_indexOf_7cf53_29 rfl ?_
    obtain ⟨r5, g6, hq7, hf⟩ := z_bindE hf
    refine zj_callViS [] hC (cS_J0_length_8abf5_S0 l dC dI ca q sk sv g2 r5 g6 hq7) gJ0_indexOf_7cf53_J0_length_8abf5 rfl nS_J0_length_8abf5_S0 ⟨Nat.le_of_ble_eq_true rfl, Nat.le_of_ble_eq_true rfl⟩ (fun A s H locs h hS => vk_recv h.2.1 (show 0 < 6 by decide) hS) rfl (Nat.le_of_ble_eq_true rfl) dJ0_indexOf_7cf53_30 rfl ?_
    cases hf
  · have hf := z_iteF hf c4
    refine zj_aload_n 0 hC dJ0_indexOf_7cf53_7 rfl ?_
    refine zj_vkget (o1 := "java/lang/String") (v := .ref (sv 0)) hC (fun A U H h => (h.2.1.1 0 (by decide)).2.2.1) (List.mem_of_getElem? (i := 1) rfl) rfl dJ0_indexOf_7cf53_8 ?_
    refine zj_iload_n 1 hC dJ0_indexOf_7cf53_11 rfl ?_
    refine zj_iload_n 2 hC dJ0_indexOf_7cf53_12 rfl ?_
    refine zj_aload_n 0 hC dJ0_indexOf_7cf53_13 rfl ?_
    obtain ⟨r8, g9, hq10, hf⟩ := z_bindE hf
    refine zj_callViS [] hC (cS_J0_length_8abf5_S0 l dC dI ca q sk sv g2 r8 g9 hq10) gJ0_indexOf_7cf53_J0_length_8abf5 rfl nS_J0_length_8abf5_S0 ⟨Nat.le_of_ble_eq_true rfl, Nat.le_of_ble_eq_true rfl⟩ (fun A s H locs h hS => vk_recv h.2.1 (show 0 < 6 by decide) hS) rfl (Nat.le_of_ble_eq_true rfl) dJ0_indexOf_7cf53_14 rfl ?_
    obtain ⟨r11, g12, hq13, hf⟩ := z_bindE hf
    refine zj_callSi [.ref (sv 0), .int a0, .int a1, .int r8] hC (cS_J1_indexOf_4cfef_B0 l dC dI ca q sk sv a0 a1 r8 g9 r11 g12 hq13) gJ0_indexOf_7cf53_J1_indexOf_4cfef rfl nS_J1_indexOf_4cfef_B0 ⟨Nat.le_of_ble_eq_true rfl, Nat.le_of_ble_eq_true rfl⟩ rfl (Nat.le_of_ble_eq_true rfl) dJ0_indexOf_7cf53_17 rfl ?_
    refine zj_goto 36 hC dJ0_indexOf_7cf53_20 (by decide) ?_
    exact zj_sub hC [] rfl (hJ36 r11 g12 hf)

def fS_J0_indexOf_0f7a4_S0 (a0 : Int32) (g : z_G) : Option (Int32 × z_G) := z_bind (fS_J0_indexOf_7cf53_S0 a0 0 g) (fun r1 g2 => some (r1, g2))
theorem nS_J0_indexOf_0f7a4_S0 : yJ0_indexOf_0f7a4.cls = RJ0 ∧ yJ0_indexOf_0f7a4.cls ≠ "java/lang/invoke/MethodHandle" ∧ yJ0_indexOf_0f7a4.cls ≠ "java/lang/invoke/VarHandle" ∧ (parseMethodDescriptor yJ0_indexOf_0f7a4.desc).map (fun d => d.parameters.length) = some 1 := by decide +kernel
set_option maxRecDepth 100000 in
set_option maxHeartbeats 4000000 in
theorem cS_J0_indexOf_0f7a4_S0 (l : Launch) (dC : Nat → ClassId) (dI : Nat → Nat → Nat) (ca : Nat → ClassId) (q : Nat → Nat) (sk sv : Nat → Nat) (a0 : Int32) (g : z_G) (r : Int32) (g' : z_G) (hf : fS_J0_indexOf_0f7a4_S0 a0 g = some (r, g')) : z_C l yJ0_indexOf_0f7a4 wsJ0_indexOf_0f7a4 { frames := 3, cells := 0, slots := 0, locals := 70 } (dC, dI) (tyM ca) (wM ca q) (zM sk sv) [.ref (sk 0), .int a0] g (some r) g' := by
  refine z_enter (wM_ok ca q) (zM_ok sk sv) (by decide +kernel) rfl (Nat.le_of_ble_eq_true rfl) (fun J hC => ?_)
  have hC : z_Cx J l cJ0_indexOf_0f7a4 2 wsJ0_indexOf_0f7a4 RJ0 (some .int) { frames := 3, cells := 0, slots := 0, locals := 70 } (dC, dI) (tyM ca) (wM ca q) (zM sk sv) (z_QI (dC, dI) (tyM ca) (wM ca q) (some r) g') z_X0 := hC
  show J 0 [(0, .ref (sk 0)), (1, .int a0)] [] g
  unfold fS_J0_indexOf_0f7a4_S0 at hf
  refine zj_aload_n 0 hC dJ0_indexOf_0f7a4_0 rfl ?_
  refine zj_iload_n 1 hC dJ0_indexOf_0f7a4_1 rfl ?_
  refine zj_iconst (v := 0) hC dJ0_indexOf_0f7a4_2 (by decide) ?_
  obtain ⟨r1, g2, hq3, hf⟩ := z_bindE hf
  refine zj_callViS [.int a0, .int 0] hC (cS_J0_indexOf_7cf53_S0 l dC dI ca q sk sv a0 0 g r1 g2 hq3) gJ0_indexOf_0f7a4_J0_indexOf_7cf53 rfl nS_J0_indexOf_7cf53_S0 ⟨Nat.le_of_ble_eq_true rfl, Nat.le_of_ble_eq_true rfl⟩ (fun A s H locs h hS => vk_recv h.2.1 (show 0 < 6 by decide) hS) rfl (Nat.le_of_ble_eq_true rfl) dJ0_indexOf_0f7a4_3 rfl ?_
  exact zj_ireturn hC hf dJ0_indexOf_0f7a4_6

def fS_X8_isSign_S0_41 (s0 : Int32) (g : z_G) : Option (Int32 × z_G) := z_bo s0 (some (s0, g))
def fS_X8_isSign_S0_40  (g : z_G) : Option (Int32 × z_G) := fS_X8_isSign_S0_41 0 g
def fS_X8_isSign_S0 (a0 : Int32) (g : z_G) : Option (Int32 × z_G) := (if a0 ≤ (g 0 50) then fS_X8_isSign_S0_40 g else z_ck (g 0 50) 100 ((if (g 30 (Int32.toNatClampNeg (g 0 50))) ≤ 0 then fS_X8_isSign_S0_40 g else z_ck (g 0 50) 100 (z_bind (fS_J0_indexOf_0f7a4_S0 (g 30 (Int32.toNatClampNeg (g 0 50))) g) (fun r5 g6 => (if r5 < 0 then fS_X8_isSign_S0_40 g6 else fS_X8_isSign_S0_41 1 g6))))))
theorem nS_X8_isSign_S0 : yX8_isSign.cls = RX8 ∧ yX8_isSign.cls ≠ "java/lang/invoke/MethodHandle" ∧ yX8_isSign.cls ≠ "java/lang/invoke/VarHandle" ∧ (parseMethodDescriptor yX8_isSign.desc).map (fun d => d.parameters.length) = some 2 := by decide +kernel
set_option maxRecDepth 100000 in
set_option maxHeartbeats 4000000 in
theorem cS_X8_isSign_S0 (l : Launch) (dC : Nat → ClassId) (dI : Nat → Nat → Nat) (ca : Nat → ClassId) (q : Nat → Nat) (sk sv : Nat → Nat) (a0 : Int32) (g : z_G) (r : Int32) (g' : z_G) (hf : fS_X8_isSign_S0 a0 g = some (r, g')) : z_C l yX8_isSign wsX8_isSign { frames := 4, cells := 0, slots := 0, locals := 91 } (dC, dI) (tyM ca) (wM ca q) (zM sk sv) [.ref (q 0), .int a0, .ref (sk 0)] g (some r) g' := by
  refine z_enter (wM_ok ca q) (zM_ok sk sv) (by decide +kernel) rfl (Nat.le_of_ble_eq_true rfl) (fun J hC => ?_)
  have hC : z_Cx J l cX8_isSign 3 wsX8_isSign RX8 (some .boolean) { frames := 4, cells := 0, slots := 0, locals := 91 } (dC, dI) (tyM ca) (wM ca q) (zM sk sv) (z_QI (dC, dI) (tyM ca) (wM ca q) (some r) g') z_X0 := hC
  show J 0 [(0, .ref (q 0)), (1, .int a0), (2, .ref (sk 0))] [] g
  have hX8 : ∀ w ∈ wsX80, w ∈ wsX8_isSign := fun _ h => List.mem_cons_of_mem _ (List.mem_append_right _ (h))
  have hJ41 : ∀ (s0 : Int32) (g : z_G), fS_X8_isSign_S0_41 s0 g = some (r, g') → J 41 [] [.int s0] g := by
    intro s0 g hf
    unfold fS_X8_isSign_S0_41 at hf
    exact zj_zreturn hC hf dX8_isSign_41
  have hJ40 : ∀ (g : z_G), fS_X8_isSign_S0_40 g = some (r, g') → J 40 [] [] g := by
    intro g hf
    unfold fS_X8_isSign_S0_40 at hf
    refine zj_iconst (v := 0) hC dX8_isSign_40 (by decide) ?_
    exact (hJ41 0 g hf)
  unfold fS_X8_isSign_S0 at hf
  refine zj_aload_n 0 hC dX8_isSign_0 rfl ?_
  refine mg_0_50 hC hX8 (List.mem_of_getElem? (i := 1) rfl) dX8_isSign_1 ?_
  refine zj_iload_n 1 hC dX8_isSign_4 rfl ?_
  refine zj_icmp_ge 40 hC dX8_isSign_5 (by decide) (fun c1 => ?_) (fun c1 => ?_)
  · have hf := z_iteT hf c1
    exact zj_sub hC [] rfl (hJ40 g hf)
  · have hf := z_iteF hf c1
    refine zj_aload_n 0 hC dX8_isSign_8 rfl ?_
    refine mg_0_40 hC hX8 (List.mem_of_getElem? (i := 2) rfl) dX8_isSign_9 ?_
    refine zj_aload_n 0 hC dX8_isSign_12 rfl ?_
    refine mg_0_50 hC hX8 (List.mem_of_getElem? (i := 1) rfl) dX8_isSign_13 ?_
    obtain ⟨hq2, hf⟩ := z_ckE hf
    refine ma_30 hC hq2 dX8_isSign_16 ?_
    refine zj_if_le 40 hC dX8_isSign_17 (by decide) (fun c3 => ?_) (fun c3 => ?_)
    · have hf := z_iteT hf c3
      exact zj_sub hC [] rfl (hJ40 g hf)
    · have hf := z_iteF hf c3
      refine zj_aload_n 2 hC dX8_isSign_20 rfl ?_
      refine zj_aload_n 0 hC dX8_isSign_21 rfl ?_
      refine mg_0_40 hC hX8 (List.mem_of_getElem? (i := 2) rfl) dX8_isSign_22 ?_
      refine zj_aload_n 0 hC dX8_isSign_25 rfl ?_
      refine mg_0_50 hC hX8 (List.mem_of_getElem? (i := 1) rfl) dX8_isSign_26 ?_
      obtain ⟨hq4, hf⟩ := z_ckE hf
      refine ma_30 hC hq4 dX8_isSign_29 ?_
      obtain ⟨r5, g6, hq7, hf⟩ := z_bindE hf
      refine zj_callViS [.int (g 30 (Int32.toNatClampNeg (g 0 50)))] hC (cS_J0_indexOf_0f7a4_S0 l dC dI ca q sk sv (g 30 (Int32.toNatClampNeg (g 0 50))) g r5 g6 hq7) gX8_isSign_J0_indexOf_0f7a4 rfl nS_J0_indexOf_0f7a4_S0 ⟨Nat.le_of_ble_eq_true rfl, Nat.le_of_ble_eq_true rfl⟩ (fun A s H locs h hS => vk_recv h.2.1 (show 0 < 6 by decide) hS) rfl (Nat.le_of_ble_eq_true rfl) dX8_isSign_30 rfl ?_
      refine zj_if_lt 40 hC dX8_isSign_33 (by decide) (fun c8 => ?_) (fun c8 => ?_)
      · have hf := z_iteT hf c8
        exact zj_sub hC [] rfl (hJ40 g6 hf)
      · have hf := z_iteF hf c8
        refine zj_iconst (v := 1) hC dX8_isSign_36 (by decide) ?_
        refine zj_goto 41 hC dX8_isSign_37 (by decide) ?_
        exact zj_sub hC [] rfl (hJ41 1 g6 hf)

def fS_X8_numbers_81 (s0 : Int32) (g : z_G) : Option (Int32 × z_G) := z_bo s0 (some (s0, g))
def fS_X8_numbers_68 (x2 : Int32) (g : z_G) : Option (Int32 × z_G) := (if (g 0 50) ≤ x2 then fS_X8_numbers_81 0 g else fS_X8_numbers_81 1 g)
def fS_X8_numbers_10 (k10 : Int32 × Int32 × z_G → Option (Int32 × z_G)) (x1 : Int32) (x2 : Int32) (g : z_G) : Option (Int32 × z_G) := (if (x2 + 5) ≤ (g 0 50) then fS_X8_numbers_68 x2 g else z_bind (fS_X8_isSign_S0 x1 g) (fun r3 g4 => (if r3 = 0 then fS_X8_numbers_68 x2 g4 else z_ck (g4 0 50) 100 (z_let (z_up g4 0 51 (((10 * (g4 0 51)) + (g4 30 (Int32.toNatClampNeg (g4 0 50)))) - 48)) (fun g8 => z_let (z_up g8 0 50 ((g8 0 50) + 1)) (fun g9 => k10 (x1, x2, g9)))))))
def fS_X8_numbers_10_go (x1 : Int32) (x2 : Int32) (g : z_G) : Option (Int32 × z_G) := z_loop (fun k (w : Int32 × Int32 × z_G) => fS_X8_numbers_10 k w.1 w.2.1 w.2.2) z_fuel (x1, x2, g)
def fS_X8_numbers (a0 : Int32) (g : z_G) : Option (Int32 × z_G) := z_let (g 0 50) (fun y10 => z_let (z_up g 0 51 0) (fun g11 => fS_X8_numbers_10_go a0 y10 g11))
theorem nS_X8_numbers : yX8_numbers.cls = RX8 ∧ yX8_numbers.cls ≠ "java/lang/invoke/MethodHandle" ∧ yX8_numbers.cls ≠ "java/lang/invoke/VarHandle" ∧ (parseMethodDescriptor yX8_numbers.desc).map (fun d => d.parameters.length) = some 1 := by decide +kernel
set_option maxRecDepth 100000 in
set_option maxHeartbeats 4000000 in
theorem cS_X8_numbers (l : Launch) (dC : Nat → ClassId) (dI : Nat → Nat → Nat) (ca : Nat → ClassId) (q : Nat → Nat) (sk sv : Nat → Nat) (a0 : Int32) (g : z_G) (r : Int32) (g' : z_G) (hf : fS_X8_numbers a0 g = some (r, g')) : z_C l yX8_numbers wsX8_numbers { frames := 5, cells := 0, slots := 0, locals := 113 } (dC, dI) (tyM ca) (wM ca q) (zM sk sv) [.ref (q 0), .int a0] g (some r) g' := by
  refine z_enter (wM_ok ca q) (zM_ok sk sv) (by decide +kernel) rfl (Nat.le_of_ble_eq_true rfl) (fun J hC => ?_)
  have hC : z_Cx J l cX8_numbers 3 wsX8_numbers RX8 (some .boolean) { frames := 5, cells := 0, slots := 0, locals := 113 } (dC, dI) (tyM ca) (wM ca q) (zM sk sv) (z_QI (dC, dI) (tyM ca) (wM ca q) (some r) g') z_X0 := hC
  show J 0 [(0, .ref (q 0)), (1, .int a0)] [] g
  have hX8 : ∀ w ∈ wsX80, w ∈ wsX8_numbers := fun _ h => List.mem_cons_of_mem _ (List.mem_append_right _ (h))
  have hJ81 : ∀ (s0 : Int32) (g : z_G), fS_X8_numbers_81 s0 g = some (r, g') → J 81 [] [.int s0] g := by
    intro s0 g hf
    unfold fS_X8_numbers_81 at hf
    exact zj_zreturn hC hf dX8_numbers_81
  have hJ68 : ∀ (x2 : Int32) (g : z_G), fS_X8_numbers_68 x2 g = some (r, g') → J 68 [(0, .ref (q 0)), (2, .int x2)] [] g := by
    intro x2 g hf
    unfold fS_X8_numbers_68 at hf
    refine zj_aload_n 0 hC dX8_numbers_68 rfl ?_
    refine mg_0_50 hC hX8 (List.mem_of_getElem? (i := 1) rfl) dX8_numbers_69 ?_
    refine zj_iload_n 1 hC dX8_numbers_72 rfl ?_
    refine zj_icmp_le 80 hC dX8_numbers_73 (by decide) (fun c1 => ?_) (fun c1 => ?_)
    · have hf := z_iteT hf c1
      refine zj_iconst (v := 0) hC dX8_numbers_80 (by decide) ?_
      exact zj_sub hC [] rfl (hJ81 0 g hf)
    · have hf := z_iteF hf c1
      refine zj_iconst (v := 1) hC dX8_numbers_76 (by decide) ?_
      refine zj_goto 81 hC dX8_numbers_77 (by decide) ?_
      exact zj_sub hC [] rfl (hJ81 1 g hf)
  have hJ10 : ∀ (x1 : Int32) (x2 : Int32) (g : z_G), fS_X8_numbers_10_go x1 x2 g = some (r, g') → J 10 [(0, .ref (q 0)), (1, .int x1), (2, .int x2)] [] g := by
    intro x1 x2 g hf
    refine z_loopE (P := fun w : Int32 × Int32 × z_G => J 10 [(0, .ref (q 0)), (1, .int w.1), (2, .int w.2.1)] [] w.2.2) (fun k10 hk10 w hf => ?_) z_fuel (x1, x2, g) hf
    obtain ⟨x1, x2, g⟩ := w
    have hf : fS_X8_numbers_10 k10 x1 x2 g = some (r, g') := hf
    show J 10 [(0, .ref (q 0)), (1, .int x1), (2, .int x2)] [] g
    unfold fS_X8_numbers_10 at hf
    refine zj_aload_n 0 hC dX8_numbers_10 rfl ?_
    refine mg_0_50 hC hX8 (List.mem_of_getElem? (i := 1) rfl) dX8_numbers_11 ?_
    refine zj_iload_n 2 hC dX8_numbers_14 rfl ?_
    refine zj_iconst (v := 5) hC dX8_numbers_15 (by decide) ?_
    refine zj_iadd hC dX8_numbers_16 ?_
    refine zj_icmp_ge 68 hC dX8_numbers_17 (by decide) (fun c2 => ?_) (fun c2 => ?_)
    · have hf := z_iteT hf c2
      exact zj_sub hC [0, 2] rfl (hJ68 x2 g hf)
    · have hf := z_iteF hf c2
      refine zj_aload_n 0 hC dX8_numbers_20 rfl ?_
      refine zj_iload_n 1 hC dX8_numbers_21 rfl ?_
      refine zj_ldcws (a := sk 0) hC (fun A U H h => h.2.2.1) dX8_numbers_22 ?_
      obtain ⟨r3, g4, hq5, hf⟩ := z_bindE hf
      refine zj_callVi [.int x1, .ref (sk 0)] hC (cS_X8_isSign_S0 l dC dI ca q sk sv x1 g r3 g4 hq5) gX8_numbers_X8_isSign rfl nS_X8_isSign_S0 ⟨Nat.le_of_ble_eq_true rfl, Nat.le_of_ble_eq_true rfl⟩ 0 mo_0 rfl rfl rfl (Nat.le_of_ble_eq_true rfl) dX8_numbers_25 rfl ?_
      refine zj_if_eq 68 hC dX8_numbers_28 (by decide) (fun c6 => ?_) (fun c6 => ?_)
      · have hf := z_iteT hf c6
        exact zj_sub hC [0, 2] rfl (hJ68 x2 g4 hf)
      · have hf := z_iteF hf c6
        refine zj_aload_n 0 hC dX8_numbers_31 rfl ?_
        refine zj_bipush (v := 10) hC dX8_numbers_32 (by decide) ?_
        refine zj_aload_n 0 hC dX8_numbers_34 rfl ?_
        refine mg_0_51 hC hX8 (List.mem_of_getElem? (i := 2) rfl) dX8_numbers_35 ?_
        refine zj_imul hC dX8_numbers_38 ?_
        refine zj_aload_n 0 hC dX8_numbers_39 rfl ?_
        refine mg_0_40 hC hX8 (List.mem_of_getElem? (i := 3) rfl) dX8_numbers_40 ?_
        refine zj_aload_n 0 hC dX8_numbers_43 rfl ?_
        refine mg_0_50 hC hX8 (List.mem_of_getElem? (i := 1) rfl) dX8_numbers_44 ?_
        obtain ⟨hq7, hf⟩ := z_ckE hf
        refine ma_30 hC hq7 dX8_numbers_47 ?_
        refine zj_iadd hC dX8_numbers_48 ?_
        refine zj_bipush (v := 48) hC dX8_numbers_49 (by decide) ?_
        refine zj_isub hC dX8_numbers_51 ?_
        refine mp_0_51 hC hX8 (List.mem_of_getElem? (i := 2) rfl) dX8_numbers_52 (fun g8 eg8 => ?_)
        have hf := z_letE hf eg8
        refine zj_aload_n 0 hC dX8_numbers_55 rfl ?_
        refine zj_dup hC dX8_numbers_56 rfl ?_
        refine mg_0_50 hC hX8 (List.mem_of_getElem? (i := 1) rfl) dX8_numbers_57 ?_
        refine zj_iconst (v := 1) hC dX8_numbers_60 (by decide) ?_
        refine zj_iadd hC dX8_numbers_61 ?_
        refine mp_0_50 hC hX8 (List.mem_of_getElem? (i := 1) rfl) dX8_numbers_62 (fun g9 eg9 => ?_)
        have hf := z_letE hf eg9
        refine zj_goto 10 hC dX8_numbers_65 (by decide) ?_
        exact (hk10 (x1, x2, g9) hf)
  unfold fS_X8_numbers at hf
  refine zj_aload_n 0 hC dX8_numbers_0 rfl ?_
  refine mg_0_50 hC hX8 (List.mem_of_getElem? (i := 1) rfl) dX8_numbers_1 ?_
  refine zj_top (fun y10 ey10 => ?_)
  have hf := z_letE hf ey10
  refine zj_istore_n (lv1 := [(2, .int y10), (0, .ref (q 0)), (1, .int a0)]) hC dX8_numbers_4 (by decide) rfl ?_
  refine zj_aload_n 1 hC dX8_numbers_5 rfl ?_
  refine zj_iconst (v := 0) hC dX8_numbers_6 (by decide) ?_
  refine mp_0_51 hC hX8 (List.mem_of_getElem? (i := 2) rfl) dX8_numbers_7 (fun g11 eg11 => ?_)
  have hf := z_letE hf eg11
  exact zj_sub hC [1, 2, 0] rfl (hJ10 a0 y10 g11 hf)

def fS_J0_isLatin1_aae02_S3_18 (s0 : Int32) (g : z_G) : Option (Int32 × z_G) := z_bo s0 (some (s0, g))
def fS_J0_isLatin1_aae02_S3_17  (g : z_G) : Option (Int32 × z_G) := fS_J0_isLatin1_aae02_S3_18 0 g
def fS_J0_isLatin1_aae02_S3 (g : z_G) : Option (Int32 × z_G) := (if (1 : Int32) = 0 then fS_J0_isLatin1_aae02_S3_17 g else (if (0 : Int32) = 0 then fS_J0_isLatin1_aae02_S3_18 1 g else fS_J0_isLatin1_aae02_S3_17 g))
theorem nS_J0_isLatin1_aae02_S3 : yJ0_isLatin1_aae02.cls = RJ0 ∧ yJ0_isLatin1_aae02.cls ≠ "java/lang/invoke/MethodHandle" ∧ yJ0_isLatin1_aae02.cls ≠ "java/lang/invoke/VarHandle" ∧ (parseMethodDescriptor yJ0_isLatin1_aae02.desc).map (fun d => d.parameters.length) = some 0 := by decide +kernel
set_option maxRecDepth 100000 in
set_option maxHeartbeats 4000000 in
theorem cS_J0_isLatin1_aae02_S3 (l : Launch) (dC : Nat → ClassId) (dI : Nat → Nat → Nat) (ca : Nat → ClassId) (q : Nat → Nat) (sk sv : Nat → Nat) (g : z_G) (r : Int32) (g' : z_G) (hf : fS_J0_isLatin1_aae02_S3 g = some (r, g')) : z_C l yJ0_isLatin1_aae02 wsJ0_isLatin1_aae02 { frames := 0, cells := 0, slots := 0, locals := 0 } (dC, dI) (tyM ca) (wM ca q) (zM sk sv) [.ref (sk 3)] g (some r) g' := by
  refine z_enter (wM_ok ca q) (zM_ok sk sv) (by decide +kernel) rfl (Nat.le_of_ble_eq_true rfl) (fun J hC => ?_)
  have hC : z_Cx J l cJ0_isLatin1_aae02 1 wsJ0_isLatin1_aae02 RJ0 (some .boolean) { frames := 0, cells := 0, slots := 0, locals := 0 } (dC, dI) (tyM ca) (wM ca q) (zM sk sv) (z_QI (dC, dI) (tyM ca) (wM ca q) (some r) g') z_X0 := hC
  show J 0 [(0, .ref (sk 3))] [] g
  have hJ18 : ∀ (s0 : Int32) (g : z_G), fS_J0_isLatin1_aae02_S3_18 s0 g = some (r, g') → J 18 [] [.int s0] g := by
    intro s0 g hf
    unfold fS_J0_isLatin1_aae02_S3_18 at hf
    exact zj_zreturn hC hf dJ0_isLatin1_aae02_18
  have hJ17 : ∀ (g : z_G), fS_J0_isLatin1_aae02_S3_17 g = some (r, g') → J 17 [] [] g := by
    intro g hf
    unfold fS_J0_isLatin1_aae02_S3_17 at hf
    refine zj_iconst (v := 0) hC dJ0_isLatin1_aae02_17 (by decide) ?_
    exact (hJ18 0 g hf)
  unfold fS_J0_isLatin1_aae02_S3 at hf
  refine zj_gets (C := "java/lang/String") (v := .int 1) hC (fun A U H h => h.1) (List.mem_of_getElem? (i := 1) rfl) rfl dJ0_isLatin1_aae02_0 ?_
  refine zj_if_eq 17 hC dJ0_isLatin1_aae02_3 (by decide) (fun c1 => ?_) (fun c1 => ?_)
  · have hf := z_iteT hf c1
    exact zj_sub hC [] rfl (hJ17 g hf)
  · have hf := z_iteF hf c1
    refine zj_aload_n 0 hC dJ0_isLatin1_aae02_6 rfl ?_
    refine zj_vkget (o1 := "java/lang/String") (v := .int 0) hC (fun A U H h => (h.2.1.1 3 (by decide)).2.1) (List.mem_of_getElem? (i := 2) rfl) rfl dJ0_isLatin1_aae02_7 ?_
    refine zj_if_ne 17 hC dJ0_isLatin1_aae02_10 (by decide) (fun c2 => ?_) (fun c2 => ?_)
    · have hf := z_iteF hf c2
      exact zj_sub hC [] rfl (hJ17 g hf)
    · have hf := z_iteT hf c2
      refine zj_iconst (v := 1) hC dJ0_isLatin1_aae02_13 (by decide) ?_
      refine zj_goto 18 hC dJ0_isLatin1_aae02_14 (by decide) ?_
      exact zj_sub hC [] rfl (hJ18 1 g hf)

def fS_J0_coder_7d493_S3_14 (s0 : Int32) (g : z_G) : Option (Int32 × z_G) := z_bo s0 (some (s0, g))
def fS_J0_coder_7d493_S3 (g : z_G) : Option (Int32 × z_G) := (if (1 : Int32) = 0 then fS_J0_coder_7d493_S3_14 1 g else fS_J0_coder_7d493_S3_14 0 g)
theorem nS_J0_coder_7d493_S3 : yJ0_coder_7d493.cls = RJ0 ∧ yJ0_coder_7d493.cls ≠ "java/lang/invoke/MethodHandle" ∧ yJ0_coder_7d493.cls ≠ "java/lang/invoke/VarHandle" ∧ (parseMethodDescriptor yJ0_coder_7d493.desc).map (fun d => d.parameters.length) = some 0 := by decide +kernel
set_option maxRecDepth 100000 in
set_option maxHeartbeats 4000000 in
theorem cS_J0_coder_7d493_S3 (l : Launch) (dC : Nat → ClassId) (dI : Nat → Nat → Nat) (ca : Nat → ClassId) (q : Nat → Nat) (sk sv : Nat → Nat) (g : z_G) (r : Int32) (g' : z_G) (hf : fS_J0_coder_7d493_S3 g = some (r, g')) : z_C l yJ0_coder_7d493 wsJ0_coder_7d493 { frames := 0, cells := 0, slots := 0, locals := 0 } (dC, dI) (tyM ca) (wM ca q) (zM sk sv) [.ref (sk 3)] g (some r) g' := by
  refine z_enter (wM_ok ca q) (zM_ok sk sv) (by decide +kernel) rfl (Nat.le_of_ble_eq_true rfl) (fun J hC => ?_)
  have hC : z_Cx J l cJ0_coder_7d493 1 wsJ0_coder_7d493 RJ0 (some .byte) { frames := 0, cells := 0, slots := 0, locals := 0 } (dC, dI) (tyM ca) (wM ca q) (zM sk sv) (z_QI (dC, dI) (tyM ca) (wM ca q) (some r) g') z_X0 := hC
  show J 0 [(0, .ref (sk 3))] [] g
  have hJ14 : ∀ (s0 : Int32) (g : z_G), fS_J0_coder_7d493_S3_14 s0 g = some (r, g') → J 14 [] [.int s0] g := by
    intro s0 g hf
    unfold fS_J0_coder_7d493_S3_14 at hf
    exact zj_breturn hC hf dJ0_coder_7d493_14
  unfold fS_J0_coder_7d493_S3 at hf
  refine zj_gets (C := "java/lang/String") (v := .int 1) hC (fun A U H h => h.1) (List.mem_of_getElem? (i := 1) rfl) rfl dJ0_coder_7d493_0 ?_
  refine zj_if_eq 13 hC dJ0_coder_7d493_3 (by decide) (fun c1 => ?_) (fun c1 => ?_)
  · have hf := z_iteT hf c1
    refine zj_iconst (v := 1) hC dJ0_coder_7d493_13 (by decide) ?_
    exact zj_sub hC [] rfl (hJ14 1 g hf)
  · have hf := z_iteF hf c1
    refine zj_aload_n 0 hC dJ0_coder_7d493_6 rfl ?_
    refine zj_vkget (o1 := "java/lang/String") (v := .int 0) hC (fun A U H h => (h.2.1.1 3 (by decide)).2.1) (List.mem_of_getElem? (i := 2) rfl) rfl dJ0_coder_7d493_7 ?_
    refine zj_goto 14 hC dJ0_coder_7d493_10 (by decide) ?_
    exact zj_sub hC [] rfl (hJ14 0 g hf)

def fS_J0_length_8abf5_S3 (g : z_G) : Option (Int32 × z_G) := z_bind (fS_J0_coder_7d493_S3 g) (fun r1 g2 => some (1 >>> (r1 &&& 31), g2))
theorem nS_J0_length_8abf5_S3 : yJ0_length_8abf5.cls = RJ0 ∧ yJ0_length_8abf5.cls ≠ "java/lang/invoke/MethodHandle" ∧ yJ0_length_8abf5.cls ≠ "java/lang/invoke/VarHandle" ∧ (parseMethodDescriptor yJ0_length_8abf5.desc).map (fun d => d.parameters.length) = some 0 := by decide +kernel
set_option maxRecDepth 100000 in
set_option maxHeartbeats 4000000 in
theorem cS_J0_length_8abf5_S3 (l : Launch) (dC : Nat → ClassId) (dI : Nat → Nat → Nat) (ca : Nat → ClassId) (q : Nat → Nat) (sk sv : Nat → Nat) (g : z_G) (r : Int32) (g' : z_G) (hf : fS_J0_length_8abf5_S3 g = some (r, g')) : z_C l yJ0_length_8abf5 wsJ0_length_8abf5 { frames := 1, cells := 0, slots := 0, locals := 20 } (dC, dI) (tyM ca) (wM ca q) (zM sk sv) [.ref (sk 3)] g (some r) g' := by
  refine z_enter (wM_ok ca q) (zM_ok sk sv) (by decide +kernel) rfl (Nat.le_of_ble_eq_true rfl) (fun J hC => ?_)
  have hC : z_Cx J l cJ0_length_8abf5 1 wsJ0_length_8abf5 RJ0 (some .int) { frames := 1, cells := 0, slots := 0, locals := 20 } (dC, dI) (tyM ca) (wM ca q) (zM sk sv) (z_QI (dC, dI) (tyM ca) (wM ca q) (some r) g') z_X0 := hC
  show J 0 [(0, .ref (sk 3))] [] g
  unfold fS_J0_length_8abf5_S3 at hf
  refine zj_aload_n 0 hC dJ0_length_8abf5_0 rfl ?_
  refine zj_vkget (o1 := "java/lang/String") (v := .ref (sv 3)) hC (fun A U H h => (h.2.1.1 3 (by decide)).2.2.1) (List.mem_of_getElem? (i := 1) rfl) rfl dJ0_length_8abf5_1 ?_
  refine zj_tlen (v := 1) hC (fun A U H h => (h.2.1.1 3 (by decide)).2.2.2) rfl dJ0_length_8abf5_4 ?_
  refine zj_aload_n 0 hC dJ0_length_8abf5_5 rfl ?_
  obtain ⟨r1, g2, hq3, hf⟩ := z_bindE hf
  refine zj_callViS [] hC (cS_J0_coder_7d493_S3 l dC dI ca q sk sv g r1 g2 hq3) gJ0_length_8abf5_J0_coder_7d493 rfl nS_J0_coder_7d493_S3 ⟨Nat.le_of_ble_eq_true rfl, Nat.le_of_ble_eq_true rfl⟩ (fun A s H locs h hS => vk_recv h.2.1 (show 3 < 6 by decide) hS) rfl (Nat.le_of_ble_eq_true rfl) dJ0_length_8abf5_6 rfl ?_
  refine zj_ishr hC dJ0_length_8abf5_9 ?_
  exact zj_ireturn hC hf dJ0_length_8abf5_10

def fS_J1_indexOfChar_4cfef_B3_7 (k7 : Int32 × Int32 × Int32 × z_G → Option (Int32 × z_G)) (x3 : Int32) (x4 : Int32) (x5 : Int32) (g : z_G) : Option (Int32 × z_G) := (if x3 ≤ x5 then some ((-1), g) else z_ck x5 1 ((if (kSTR 3 (Int32.toNatClampNeg x5)) = x4 then some (x5, g) else z_let (x5 + 1) (fun y4 => k7 (x3, x4, y4, g)))))
def fS_J1_indexOfChar_4cfef_B3_7_go (x3 : Int32) (x4 : Int32) (x5 : Int32) (g : z_G) : Option (Int32 × z_G) := z_loop (fun k (w : Int32 × Int32 × Int32 × z_G) => fS_J1_indexOfChar_4cfef_B3_7 k w.1 w.2.1 w.2.2.1 w.2.2.2) z_fuel (x3, x4, x5, g)
def fS_J1_indexOfChar_4cfef_B3 (a1 : Int32) (a2 : Int32) (a3 : Int32) (g : z_G) : Option (Int32 × z_G) := z_let ((a1 : Int32).toInt8.toInt32) (fun y5 => fS_J1_indexOfChar_4cfef_B3_7_go a3 y5 a2 g)
theorem nS_J1_indexOfChar_4cfef_B3 : yJ1_indexOfChar_4cfef.cls ≠ "java/lang/invoke/MethodHandle" ∧ yJ1_indexOfChar_4cfef.cls ≠ "java/lang/invoke/VarHandle" ∧ (parseMethodDescriptor yJ1_indexOfChar_4cfef.desc).map (fun d => d.parameters.length) = some 4 := by decide +kernel
set_option maxRecDepth 100000 in
set_option maxHeartbeats 4000000 in
theorem cS_J1_indexOfChar_4cfef_B3 (l : Launch) (dC : Nat → ClassId) (dI : Nat → Nat → Nat) (ca : Nat → ClassId) (q : Nat → Nat) (sk sv : Nat → Nat) (a1 : Int32) (a2 : Int32) (a3 : Int32) (g : z_G) (r : Int32) (g' : z_G) (hf : fS_J1_indexOfChar_4cfef_B3 a1 a2 a3 g = some (r, g')) : z_C l yJ1_indexOfChar_4cfef wsJ1_indexOfChar_4cfef { frames := 0, cells := 0, slots := 0, locals := 0 } (dC, dI) (tyM ca) (wM ca q) (zM sk sv) [.ref (sv 3), .int a1, .int a2, .int a3] g (some r) g' := by
  refine z_enter (wM_ok ca q) (zM_ok sk sv) (by decide +kernel) rfl (Nat.le_of_ble_eq_true rfl) (fun J hC => ?_)
  have hC : z_Cx J l cJ1_indexOfChar_4cfef 6 wsJ1_indexOfChar_4cfef RJ1 (some .int) { frames := 0, cells := 0, slots := 0, locals := 0 } (dC, dI) (tyM ca) (wM ca q) (zM sk sv) (z_QI (dC, dI) (tyM ca) (wM ca q) (some r) g') z_X0 := hC
  show J 0 [(0, .ref (sv 3)), (1, .int a1), (2, .int a2), (3, .int a3)] [] g
  have hJ7 : ∀ (x3 : Int32) (x4 : Int32) (x5 : Int32) (g : z_G), fS_J1_indexOfChar_4cfef_B3_7_go x3 x4 x5 g = some (r, g') → J 7 [(0, .ref (sv 3)), (3, .int x3), (4, .int x4), (5, .int x5)] [] g := by
    intro x3 x4 x5 g hf
    refine z_loopE (P := fun w : Int32 × Int32 × Int32 × z_G => J 7 [(0, .ref (sv 3)), (3, .int w.1), (4, .int w.2.1), (5, .int w.2.2.1)] [] w.2.2.2) (fun k7 hk7 w hf => ?_) z_fuel (x3, x4, x5, g) hf
    obtain ⟨x3, x4, x5, g⟩ := w
    have hf : fS_J1_indexOfChar_4cfef_B3_7 k7 x3 x4 x5 g = some (r, g') := hf
    show J 7 [(0, .ref (sv 3)), (3, .int x3), (4, .int x4), (5, .int x5)] [] g
    unfold fS_J1_indexOfChar_4cfef_B3_7 at hf
    refine zj_iload 3 hC dJ1_indexOfChar_4cfef_7 rfl ?_
    refine zj_iload_n 1 hC dJ1_indexOfChar_4cfef_9 rfl ?_
    refine zj_icmp_ge 31 hC dJ1_indexOfChar_4cfef_10 (by decide) (fun c1 => ?_) (fun c1 => ?_)
    · have hf := z_iteT hf c1
      refine zj_iconst (v := (-1)) hC dJ1_indexOfChar_4cfef_31 (by decide) ?_
      exact zj_ireturn hC hf dJ1_indexOfChar_4cfef_32
    · have hf := z_iteF hf c1
      refine zj_aload_n 0 hC dJ1_indexOfChar_4cfef_13 rfl ?_
      refine zj_iload 3 hC dJ1_indexOfChar_4cfef_14 rfl ?_
      obtain ⟨hq2, hf⟩ := z_ckE hf
      refine zj_tb (f := kSTR 3) hC (fun A U H h => (h.2.1.1 3 (by decide)).2.2.2) hq2 dJ1_indexOfChar_4cfef_16 ?_
      refine zj_iload 2 hC dJ1_indexOfChar_4cfef_17 rfl ?_
      refine zj_icmp_ne 25 hC dJ1_indexOfChar_4cfef_19 (by decide) (fun c3 => ?_) (fun c3 => ?_)
      · have hf := z_iteF hf c3
        refine zj_iinc (lv1 := fun v => [(5, .int v), (0, .ref (sv 3)), (3, .int x3), (4, .int x4)]) 3 hC dJ1_indexOfChar_4cfef_25 rfl (by decide) (fun _ => rfl) (fun y4 ey4 => ?_)
        have hf := z_letE hf (show y4 = x5 + 1 from ey4)
        refine zj_goto 7 hC dJ1_indexOfChar_4cfef_28 (by decide) ?_
        exact zj_sub hC [1, 2, 3, 0] rfl (hk7 (x3, x4, y4, g) hf)
      · have hf := z_iteT hf c3
        refine zj_iload 3 hC dJ1_indexOfChar_4cfef_22 rfl ?_
        exact zj_ireturn hC hf dJ1_indexOfChar_4cfef_24
  unfold fS_J1_indexOfChar_4cfef_B3 at hf
  refine zj_iload_n 1 hC dJ1_indexOfChar_4cfef_0 rfl ?_
  refine zj_i2b hC dJ1_indexOfChar_4cfef_1 ?_
  refine zj_top (fun y5 ey5 => ?_)
  have hf := z_letE hf ey5
  refine zj_istore (lv1 := [(4, .int y5), (0, .ref (sv 3)), (1, .int a1), (2, .int a2), (3, .int a3)]) hC dJ1_indexOfChar_4cfef_2 (by decide) rfl ?_
  refine zj_iload_n 3 hC dJ1_indexOfChar_4cfef_4 rfl ?_
  refine zj_istore (lv1 := [(5, .int a2), (4, .int y5), (0, .ref (sv 3)), (1, .int a1), (2, .int a2), (3, .int a3)]) hC dJ1_indexOfChar_4cfef_5 (by decide) rfl ?_
  exact zj_sub hC [2, 5, 1, 0] rfl (hJ7 a3 y5 a2 g hf)

def fS_J1_indexOf_4cfef_B3 (a1 : Int32) (a2 : Int32) (a3 : Int32) (g : z_G) : Option (Int32 × z_G) := z_bind (fS_J1_canEncode_9a6ad a1 g) (fun r1 g2 => (if r1 = 0 then some ((-1), g2) else z_let (if a2 < 0 then 0 else a2) (fun y5 => z_let (if 1 < a3 then 1 else a3) (fun y6 => (if y5 < y6 then z_bind (fS_J1_indexOfChar_4cfef_B3 a1 y5 y6 g2) (fun r8 g9 => some (r8, g9)) else some ((-1), g2))))))
theorem nS_J1_indexOf_4cfef_B3 : yJ1_indexOf_4cfef.cls ≠ "java/lang/invoke/MethodHandle" ∧ yJ1_indexOf_4cfef.cls ≠ "java/lang/invoke/VarHandle" ∧ (parseMethodDescriptor yJ1_indexOf_4cfef.desc).map (fun d => d.parameters.length) = some 4 := by decide +kernel
set_option maxRecDepth 100000 in
set_option maxHeartbeats 4000000 in
theorem cS_J1_indexOf_4cfef_B3 (l : Launch) (dC : Nat → ClassId) (dI : Nat → Nat → Nat) (ca : Nat → ClassId) (q : Nat → Nat) (sk sv : Nat → Nat) (a1 : Int32) (a2 : Int32) (a3 : Int32) (g : z_G) (r : Int32) (g' : z_G) (hf : fS_J1_indexOf_4cfef_B3 a1 a2 a3 g = some (r, g')) : z_C l yJ1_indexOf_4cfef wsJ1_indexOf_4cfef { frames := 1, cells := 0, slots := 0, locals := 25 } (dC, dI) (tyM ca) (wM ca q) (zM sk sv) [.ref (sv 3), .int a1, .int a2, .int a3] g (some r) g' := by
  refine z_enter (wM_ok ca q) (zM_ok sk sv) (by decide +kernel) rfl (Nat.le_of_ble_eq_true rfl) (fun J hC => ?_)
  have hC : z_Cx J l cJ1_indexOf_4cfef 4 wsJ1_indexOf_4cfef RJ1 (some .int) { frames := 1, cells := 0, slots := 0, locals := 25 } (dC, dI) (tyM ca) (wM ca q) (zM sk sv) (z_QI (dC, dI) (tyM ca) (wM ca q) (some r) g') z_X0 := hC
  show J 0 [(0, .ref (sv 3)), (1, .int a1), (2, .int a2), (3, .int a3)] [] g
  unfold fS_J1_indexOf_4cfef_B3 at hf
  refine zj_iload_n 1 hC dJ1_indexOf_4cfef_0 rfl ?_
  obtain ⟨r1, g2, hq3, hf⟩ := z_bindE hf
  refine zj_callSi [.int a1] hC (cS_J1_canEncode_9a6ad l dC dI ca q sk sv a1 g r1 g2 hq3) gJ1_indexOf_4cfef_J1_canEncode_9a6ad rfl nS_J1_canEncode_9a6ad ⟨Nat.le_of_ble_eq_true rfl, Nat.le_of_ble_eq_true rfl⟩ rfl (Nat.le_of_ble_eq_true rfl) dJ1_indexOf_4cfef_1 rfl ?_
  refine zj_if_ne 9 hC dJ1_indexOf_4cfef_4 (by decide) (fun c4 => ?_) (fun c4 => ?_)
  · have hf := z_iteF hf c4
    refine zj_iload_n 2 hC dJ1_indexOf_4cfef_9 rfl ?_
    refine zj_iconst (v := 0) hC dJ1_indexOf_4cfef_10 (by decide) ?_
    refine zj_max hC (List.mem_of_getElem? (i := 1) rfl) (List.mem_of_getElem? (i := 2) rfl) (List.mem_of_getElem? (i := 3) rfl) (List.mem_of_getElem? (i := 4) rfl) (Nat.le_of_ble_eq_true rfl) (Nat.le_of_ble_eq_true rfl) dJ1_indexOf_4cfef_11 ?_
    refine zj_top (fun y5 ey5 => ?_)
    have hf := z_letE hf ey5
    refine zj_istore_n (lv1 := [(2, .int y5), (0, .ref (sv 3)), (1, .int a1), (3, .int a3)]) hC dJ1_indexOf_4cfef_14 (by decide) rfl ?_
    refine zj_iload_n 3 hC dJ1_indexOf_4cfef_15 rfl ?_
    refine zj_aload_n 1 hC dJ1_indexOf_4cfef_16 rfl ?_
    refine zj_tlen (v := 1) hC (fun A U H h => (h.2.1.1 3 (by decide)).2.2.2) rfl dJ1_indexOf_4cfef_17 ?_
    refine zj_min hC (List.mem_of_getElem? (i := 5) rfl) (List.mem_of_getElem? (i := 6) rfl) (List.mem_of_getElem? (i := 3) rfl) (List.mem_of_getElem? (i := 7) rfl) (Nat.le_of_ble_eq_true rfl) (Nat.le_of_ble_eq_true rfl) dJ1_indexOf_4cfef_18 ?_
    refine zj_top (fun y6 ey6 => ?_)
    have hf := z_letE hf ey6
    refine zj_istore_n (lv1 := [(3, .int y6), (2, .int y5), (0, .ref (sv 3)), (1, .int a1)]) hC dJ1_indexOf_4cfef_21 (by decide) rfl ?_
    refine zj_iload_n 1 hC dJ1_indexOf_4cfef_22 rfl ?_
    refine zj_iload_n 0 hC dJ1_indexOf_4cfef_23 rfl ?_
    refine zj_icmp_lt 29 hC dJ1_indexOf_4cfef_24 (by decide) (fun c7 => ?_) (fun c7 => ?_)
    · have hf := z_iteT hf c7
      refine zj_aload_n 2 hC dJ1_indexOf_4cfef_29 rfl ?_
      refine zj_iload_n 3 hC dJ1_indexOf_4cfef_30 rfl ?_
      refine zj_iload_n 1 hC dJ1_indexOf_4cfef_31 rfl ?_
      refine zj_iload_n 0 hC dJ1_indexOf_4cfef_32 rfl ?_
      obtain ⟨r8, g9, hq10, hf⟩ := z_bindE hf
      refine zj_callSi [.ref (sv 3), .int a1, .int y5, .int y6] hC (cS_J1_indexOfChar_4cfef_B3 l dC dI ca q sk sv a1 y5 y6 g2 r8 g9 hq10) gJ1_indexOf_4cfef_J1_indexOfChar_4cfef rfl nS_J1_indexOfChar_4cfef_B3 ⟨Nat.le_of_ble_eq_true rfl, Nat.le_of_ble_eq_true rfl⟩ rfl (Nat.le_of_ble_eq_true rfl) dJ1_indexOf_4cfef_33 rfl ?_
      exact zj_ireturn hC hf dJ1_indexOf_4cfef_36
    · have hf := z_iteF hf c7
      refine zj_iconst (v := (-1)) hC dJ1_indexOf_4cfef_27 (by decide) ?_
      exact zj_ireturn hC hf dJ1_indexOf_4cfef_28
  · have hf := z_iteT hf c4
    refine zj_iconst (v := (-1)) hC dJ1_indexOf_4cfef_7 (by decide) ?_
    exact zj_ireturn hC hf dJ1_indexOf_4cfef_8

def fS_J0_indexOf_7cf53_S3_36 (s0 : Int32) (g : z_G) : Option (Int32 × z_G) := some (s0, g)
def fS_J0_indexOf_7cf53_S3 (a0 : Int32) (a1 : Int32) (g : z_G) : Option (Int32 × z_G) := z_bind (fS_J0_isLatin1_aae02_S3 g) (fun r1 g2 => (if r1 = 0 then z_bind (fS_J0_length_8abf5_S3 g2) (fun r5 g6 => none) else z_bind (fS_J0_length_8abf5_S3 g2) (fun r8 g9 => z_bind (fS_J1_indexOf_4cfef_B3 a0 a1 r8 g9) (fun r11 g12 => fS_J0_indexOf_7cf53_S3_36 r11 g12))))
theorem nS_J0_indexOf_7cf53_S3 : yJ0_indexOf_7cf53.cls = RJ0 ∧ yJ0_indexOf_7cf53.cls ≠ "java/lang/invoke/MethodHandle" ∧ yJ0_indexOf_7cf53.cls ≠ "java/lang/invoke/VarHandle" ∧ (parseMethodDescriptor yJ0_indexOf_7cf53.desc).map (fun d => d.parameters.length) = some 2 := by decide +kernel
set_option maxRecDepth 100000 in
set_option maxHeartbeats 4000000 in
theorem cS_J0_indexOf_7cf53_S3 (l : Launch) (dC : Nat → ClassId) (dI : Nat → Nat → Nat) (ca : Nat → ClassId) (q : Nat → Nat) (sk sv : Nat → Nat) (a0 : Int32) (a1 : Int32) (g : z_G) (r : Int32) (g' : z_G) (hf : fS_J0_indexOf_7cf53_S3 a0 a1 g = some (r, g')) : z_C l yJ0_indexOf_7cf53 wsJ0_indexOf_7cf53 { frames := 2, cells := 0, slots := 0, locals := 48 } (dC, dI) (tyM ca) (wM ca q) (zM sk sv) [.ref (sk 3), .int a0, .int a1] g (some r) g' := by
  refine z_enter (wM_ok ca q) (zM_ok sk sv) (by decide +kernel) rfl (Nat.le_of_ble_eq_true rfl) (fun J hC => ?_)
  have hC : z_Cx J l cJ0_indexOf_7cf53 3 wsJ0_indexOf_7cf53 RJ0 (some .int) { frames := 2, cells := 0, slots := 0, locals := 48 } (dC, dI) (tyM ca) (wM ca q) (zM sk sv) (z_QI (dC, dI) (tyM ca) (wM ca q) (some r) g') z_X0 := hC
  show J 0 [(0, .ref (sk 3)), (1, .int a0), (2, .int a1)] [] g
  have hJ36 : ∀ (s0 : Int32) (g : z_G), fS_J0_indexOf_7cf53_S3_36 s0 g = some (r, g') → J 36 [] [.int s0] g := by
    intro s0 g hf
    unfold fS_J0_indexOf_7cf53_S3_36 at hf
    exact zj_ireturn hC hf dJ0_indexOf_7cf53_36
  unfold fS_J0_indexOf_7cf53_S3 at hf
  refine zj_aload_n 0 hC dJ0_indexOf_7cf53_0 rfl ?_
  obtain ⟨r1, g2, hq3, hf⟩ := z_bindE hf
  refine zj_callViS [] hC (cS_J0_isLatin1_aae02_S3 l dC dI ca q sk sv g r1 g2 hq3) gJ0_indexOf_7cf53_J0_isLatin1_aae02 rfl nS_J0_isLatin1_aae02_S3 ⟨Nat.le_of_ble_eq_true rfl, Nat.le_of_ble_eq_true rfl⟩ (fun A s H locs h hS => vk_recv h.2.1 (show 3 < 6 by decide) hS) rfl (Nat.le_of_ble_eq_true rfl) dJ0_indexOf_7cf53_1 rfl ?_
  refine zj_if_eq 23 hC dJ0_indexOf_7cf53_4 (by decide) (fun c4 => ?_) (fun c4 => ?_)
  · have hf := z_iteT hf c4
    refine zj_aload_n 0 hC dJ0_indexOf_7cf53_23 rfl ?_
    refine zj_vkget (o1 := "java/lang/String") (v := .ref (sv 3)) hC (fun A U H h => (h.2.1.1 3 (by decide)).2.2.1) (List.mem_of_getElem? (i := 1) rfl) rfl dJ0_indexOf_7cf53_24 ?_
    refine zj_iload_n 1 hC dJ0_indexOf_7cf53_27 rfl ?_
    refine zj_iload_n 2 hC dJ0_indexOf_7cf53_28 rfl ?_
    refine zj_aload_n 0 hC dJ0_indexOf_7cf53_29 rfl ?_
    obtain ⟨r5, g6, hq7, hf⟩ := z_bindE hf
    refine zj_callViS [] hC (cS_J0_length_8abf5_S3 l dC dI ca q sk sv g2 r5 g6 hq7) gJ0_indexOf_7cf53_J0_length_8abf5 rfl nS_J0_length_8abf5_S3 ⟨Nat.le_of_ble_eq_true rfl, Nat.le_of_ble_eq_true rfl⟩ (fun A s H locs h hS => vk_recv h.2.1 (show 3 < 6 by decide) hS) rfl (Nat.le_of_ble_eq_true rfl) dJ0_indexOf_7cf53_30 rfl ?_
    cases hf
  · have hf := z_iteF hf c4
    refine zj_aload_n 0 hC dJ0_indexOf_7cf53_7 rfl ?_
    refine zj_vkget (o1 := "java/lang/String") (v := .ref (sv 3)) hC (fun A U H h => (h.2.1.1 3 (by decide)).2.2.1) (List.mem_of_getElem? (i := 1) rfl) rfl dJ0_indexOf_7cf53_8 ?_
    refine zj_iload_n 1 hC dJ0_indexOf_7cf53_11 rfl ?_
    refine zj_iload_n 2 hC dJ0_indexOf_7cf53_12 rfl ?_
    refine zj_aload_n 0 hC dJ0_indexOf_7cf53_13 rfl ?_
    obtain ⟨r8, g9, hq10, hf⟩ := z_bindE hf
    refine zj_callViS [] hC (cS_J0_length_8abf5_S3 l dC dI ca q sk sv g2 r8 g9 hq10) gJ0_indexOf_7cf53_J0_length_8abf5 rfl nS_J0_length_8abf5_S3 ⟨Nat.le_of_ble_eq_true rfl, Nat.le_of_ble_eq_true rfl⟩ (fun A s H locs h hS => vk_recv h.2.1 (show 3 < 6 by decide) hS) rfl (Nat.le_of_ble_eq_true rfl) dJ0_indexOf_7cf53_14 rfl ?_
    obtain ⟨r11, g12, hq13, hf⟩ := z_bindE hf
    refine zj_callSi [.ref (sv 3), .int a0, .int a1, .int r8] hC (cS_J1_indexOf_4cfef_B3 l dC dI ca q sk sv a0 a1 r8 g9 r11 g12 hq13) gJ0_indexOf_7cf53_J1_indexOf_4cfef rfl nS_J1_indexOf_4cfef_B3 ⟨Nat.le_of_ble_eq_true rfl, Nat.le_of_ble_eq_true rfl⟩ rfl (Nat.le_of_ble_eq_true rfl) dJ0_indexOf_7cf53_17 rfl ?_
    refine zj_goto 36 hC dJ0_indexOf_7cf53_20 (by decide) ?_
    exact zj_sub hC [] rfl (hJ36 r11 g12 hf)

def fS_J0_indexOf_0f7a4_S3 (a0 : Int32) (g : z_G) : Option (Int32 × z_G) := z_bind (fS_J0_indexOf_7cf53_S3 a0 0 g) (fun r1 g2 => some (r1, g2))
theorem nS_J0_indexOf_0f7a4_S3 : yJ0_indexOf_0f7a4.cls = RJ0 ∧ yJ0_indexOf_0f7a4.cls ≠ "java/lang/invoke/MethodHandle" ∧ yJ0_indexOf_0f7a4.cls ≠ "java/lang/invoke/VarHandle" ∧ (parseMethodDescriptor yJ0_indexOf_0f7a4.desc).map (fun d => d.parameters.length) = some 1 := by decide +kernel
set_option maxRecDepth 100000 in
set_option maxHeartbeats 4000000 in
theorem cS_J0_indexOf_0f7a4_S3 (l : Launch) (dC : Nat → ClassId) (dI : Nat → Nat → Nat) (ca : Nat → ClassId) (q : Nat → Nat) (sk sv : Nat → Nat) (a0 : Int32) (g : z_G) (r : Int32) (g' : z_G) (hf : fS_J0_indexOf_0f7a4_S3 a0 g = some (r, g')) : z_C l yJ0_indexOf_0f7a4 wsJ0_indexOf_0f7a4 { frames := 3, cells := 0, slots := 0, locals := 70 } (dC, dI) (tyM ca) (wM ca q) (zM sk sv) [.ref (sk 3), .int a0] g (some r) g' := by
  refine z_enter (wM_ok ca q) (zM_ok sk sv) (by decide +kernel) rfl (Nat.le_of_ble_eq_true rfl) (fun J hC => ?_)
  have hC : z_Cx J l cJ0_indexOf_0f7a4 2 wsJ0_indexOf_0f7a4 RJ0 (some .int) { frames := 3, cells := 0, slots := 0, locals := 70 } (dC, dI) (tyM ca) (wM ca q) (zM sk sv) (z_QI (dC, dI) (tyM ca) (wM ca q) (some r) g') z_X0 := hC
  show J 0 [(0, .ref (sk 3)), (1, .int a0)] [] g
  unfold fS_J0_indexOf_0f7a4_S3 at hf
  refine zj_aload_n 0 hC dJ0_indexOf_0f7a4_0 rfl ?_
  refine zj_iload_n 1 hC dJ0_indexOf_0f7a4_1 rfl ?_
  refine zj_iconst (v := 0) hC dJ0_indexOf_0f7a4_2 (by decide) ?_
  obtain ⟨r1, g2, hq3, hf⟩ := z_bindE hf
  refine zj_callViS [.int a0, .int 0] hC (cS_J0_indexOf_7cf53_S3 l dC dI ca q sk sv a0 0 g r1 g2 hq3) gJ0_indexOf_0f7a4_J0_indexOf_7cf53 rfl nS_J0_indexOf_7cf53_S3 ⟨Nat.le_of_ble_eq_true rfl, Nat.le_of_ble_eq_true rfl⟩ (fun A s H locs h hS => vk_recv h.2.1 (show 3 < 6 by decide) hS) rfl (Nat.le_of_ble_eq_true rfl) dJ0_indexOf_0f7a4_3 rfl ?_
  exact zj_ireturn hC hf dJ0_indexOf_0f7a4_6

def fS_X8_isSign_S3_41 (s0 : Int32) (g : z_G) : Option (Int32 × z_G) := z_bo s0 (some (s0, g))
def fS_X8_isSign_S3_40  (g : z_G) : Option (Int32 × z_G) := fS_X8_isSign_S3_41 0 g
def fS_X8_isSign_S3 (a0 : Int32) (g : z_G) : Option (Int32 × z_G) := (if a0 ≤ (g 0 50) then fS_X8_isSign_S3_40 g else z_ck (g 0 50) 100 ((if (g 30 (Int32.toNatClampNeg (g 0 50))) ≤ 0 then fS_X8_isSign_S3_40 g else z_ck (g 0 50) 100 (z_bind (fS_J0_indexOf_0f7a4_S3 (g 30 (Int32.toNatClampNeg (g 0 50))) g) (fun r5 g6 => (if r5 < 0 then fS_X8_isSign_S3_40 g6 else fS_X8_isSign_S3_41 1 g6))))))
theorem nS_X8_isSign_S3 : yX8_isSign.cls = RX8 ∧ yX8_isSign.cls ≠ "java/lang/invoke/MethodHandle" ∧ yX8_isSign.cls ≠ "java/lang/invoke/VarHandle" ∧ (parseMethodDescriptor yX8_isSign.desc).map (fun d => d.parameters.length) = some 2 := by decide +kernel
set_option maxRecDepth 100000 in
set_option maxHeartbeats 4000000 in
theorem cS_X8_isSign_S3 (l : Launch) (dC : Nat → ClassId) (dI : Nat → Nat → Nat) (ca : Nat → ClassId) (q : Nat → Nat) (sk sv : Nat → Nat) (a0 : Int32) (g : z_G) (r : Int32) (g' : z_G) (hf : fS_X8_isSign_S3 a0 g = some (r, g')) : z_C l yX8_isSign wsX8_isSign { frames := 4, cells := 0, slots := 0, locals := 91 } (dC, dI) (tyM ca) (wM ca q) (zM sk sv) [.ref (q 0), .int a0, .ref (sk 3)] g (some r) g' := by
  refine z_enter (wM_ok ca q) (zM_ok sk sv) (by decide +kernel) rfl (Nat.le_of_ble_eq_true rfl) (fun J hC => ?_)
  have hC : z_Cx J l cX8_isSign 3 wsX8_isSign RX8 (some .boolean) { frames := 4, cells := 0, slots := 0, locals := 91 } (dC, dI) (tyM ca) (wM ca q) (zM sk sv) (z_QI (dC, dI) (tyM ca) (wM ca q) (some r) g') z_X0 := hC
  show J 0 [(0, .ref (q 0)), (1, .int a0), (2, .ref (sk 3))] [] g
  have hX8 : ∀ w ∈ wsX80, w ∈ wsX8_isSign := fun _ h => List.mem_cons_of_mem _ (List.mem_append_right _ (h))
  have hJ41 : ∀ (s0 : Int32) (g : z_G), fS_X8_isSign_S3_41 s0 g = some (r, g') → J 41 [] [.int s0] g := by
    intro s0 g hf
    unfold fS_X8_isSign_S3_41 at hf
    exact zj_zreturn hC hf dX8_isSign_41
  have hJ40 : ∀ (g : z_G), fS_X8_isSign_S3_40 g = some (r, g') → J 40 [] [] g := by
    intro g hf
    unfold fS_X8_isSign_S3_40 at hf
    refine zj_iconst (v := 0) hC dX8_isSign_40 (by decide) ?_
    exact (hJ41 0 g hf)
  unfold fS_X8_isSign_S3 at hf
  refine zj_aload_n 0 hC dX8_isSign_0 rfl ?_
  refine mg_0_50 hC hX8 (List.mem_of_getElem? (i := 1) rfl) dX8_isSign_1 ?_
  refine zj_iload_n 1 hC dX8_isSign_4 rfl ?_
  refine zj_icmp_ge 40 hC dX8_isSign_5 (by decide) (fun c1 => ?_) (fun c1 => ?_)
  · have hf := z_iteT hf c1
    exact zj_sub hC [] rfl (hJ40 g hf)
  · have hf := z_iteF hf c1
    refine zj_aload_n 0 hC dX8_isSign_8 rfl ?_
    refine mg_0_40 hC hX8 (List.mem_of_getElem? (i := 2) rfl) dX8_isSign_9 ?_
    refine zj_aload_n 0 hC dX8_isSign_12 rfl ?_
    refine mg_0_50 hC hX8 (List.mem_of_getElem? (i := 1) rfl) dX8_isSign_13 ?_
    obtain ⟨hq2, hf⟩ := z_ckE hf
    refine ma_30 hC hq2 dX8_isSign_16 ?_
    refine zj_if_le 40 hC dX8_isSign_17 (by decide) (fun c3 => ?_) (fun c3 => ?_)
    · have hf := z_iteT hf c3
      exact zj_sub hC [] rfl (hJ40 g hf)
    · have hf := z_iteF hf c3
      refine zj_aload_n 2 hC dX8_isSign_20 rfl ?_
      refine zj_aload_n 0 hC dX8_isSign_21 rfl ?_
      refine mg_0_40 hC hX8 (List.mem_of_getElem? (i := 2) rfl) dX8_isSign_22 ?_
      refine zj_aload_n 0 hC dX8_isSign_25 rfl ?_
      refine mg_0_50 hC hX8 (List.mem_of_getElem? (i := 1) rfl) dX8_isSign_26 ?_
      obtain ⟨hq4, hf⟩ := z_ckE hf
      refine ma_30 hC hq4 dX8_isSign_29 ?_
      obtain ⟨r5, g6, hq7, hf⟩ := z_bindE hf
      refine zj_callViS [.int (g 30 (Int32.toNatClampNeg (g 0 50)))] hC (cS_J0_indexOf_0f7a4_S3 l dC dI ca q sk sv (g 30 (Int32.toNatClampNeg (g 0 50))) g r5 g6 hq7) gX8_isSign_J0_indexOf_0f7a4 rfl nS_J0_indexOf_0f7a4_S3 ⟨Nat.le_of_ble_eq_true rfl, Nat.le_of_ble_eq_true rfl⟩ (fun A s H locs h hS => vk_recv h.2.1 (show 3 < 6 by decide) hS) rfl (Nat.le_of_ble_eq_true rfl) dX8_isSign_30 rfl ?_
      refine zj_if_lt 40 hC dX8_isSign_33 (by decide) (fun c8 => ?_) (fun c8 => ?_)
      · have hf := z_iteT hf c8
        exact zj_sub hC [] rfl (hJ40 g6 hf)
      · have hf := z_iteF hf c8
        refine zj_iconst (v := 1) hC dX8_isSign_36 (by decide) ?_
        refine zj_goto 41 hC dX8_isSign_37 (by decide) ?_
        exact zj_sub hC [] rfl (hJ41 1 g6 hf)

def fS_J0_isLatin1_aae02_S4_18 (s0 : Int32) (g : z_G) : Option (Int32 × z_G) := z_bo s0 (some (s0, g))
def fS_J0_isLatin1_aae02_S4_17  (g : z_G) : Option (Int32 × z_G) := fS_J0_isLatin1_aae02_S4_18 0 g
def fS_J0_isLatin1_aae02_S4 (g : z_G) : Option (Int32 × z_G) := (if (1 : Int32) = 0 then fS_J0_isLatin1_aae02_S4_17 g else (if (0 : Int32) = 0 then fS_J0_isLatin1_aae02_S4_18 1 g else fS_J0_isLatin1_aae02_S4_17 g))
theorem nS_J0_isLatin1_aae02_S4 : yJ0_isLatin1_aae02.cls = RJ0 ∧ yJ0_isLatin1_aae02.cls ≠ "java/lang/invoke/MethodHandle" ∧ yJ0_isLatin1_aae02.cls ≠ "java/lang/invoke/VarHandle" ∧ (parseMethodDescriptor yJ0_isLatin1_aae02.desc).map (fun d => d.parameters.length) = some 0 := by decide +kernel
set_option maxRecDepth 100000 in
set_option maxHeartbeats 4000000 in
theorem cS_J0_isLatin1_aae02_S4 (l : Launch) (dC : Nat → ClassId) (dI : Nat → Nat → Nat) (ca : Nat → ClassId) (q : Nat → Nat) (sk sv : Nat → Nat) (g : z_G) (r : Int32) (g' : z_G) (hf : fS_J0_isLatin1_aae02_S4 g = some (r, g')) : z_C l yJ0_isLatin1_aae02 wsJ0_isLatin1_aae02 { frames := 0, cells := 0, slots := 0, locals := 0 } (dC, dI) (tyM ca) (wM ca q) (zM sk sv) [.ref (sk 4)] g (some r) g' := by
  refine z_enter (wM_ok ca q) (zM_ok sk sv) (by decide +kernel) rfl (Nat.le_of_ble_eq_true rfl) (fun J hC => ?_)
  have hC : z_Cx J l cJ0_isLatin1_aae02 1 wsJ0_isLatin1_aae02 RJ0 (some .boolean) { frames := 0, cells := 0, slots := 0, locals := 0 } (dC, dI) (tyM ca) (wM ca q) (zM sk sv) (z_QI (dC, dI) (tyM ca) (wM ca q) (some r) g') z_X0 := hC
  show J 0 [(0, .ref (sk 4))] [] g
  have hJ18 : ∀ (s0 : Int32) (g : z_G), fS_J0_isLatin1_aae02_S4_18 s0 g = some (r, g') → J 18 [] [.int s0] g := by
    intro s0 g hf
    unfold fS_J0_isLatin1_aae02_S4_18 at hf
    exact zj_zreturn hC hf dJ0_isLatin1_aae02_18
  have hJ17 : ∀ (g : z_G), fS_J0_isLatin1_aae02_S4_17 g = some (r, g') → J 17 [] [] g := by
    intro g hf
    unfold fS_J0_isLatin1_aae02_S4_17 at hf
    refine zj_iconst (v := 0) hC dJ0_isLatin1_aae02_17 (by decide) ?_
    exact (hJ18 0 g hf)
  unfold fS_J0_isLatin1_aae02_S4 at hf
  refine zj_gets (C := "java/lang/String") (v := .int 1) hC (fun A U H h => h.1) (List.mem_of_getElem? (i := 1) rfl) rfl dJ0_isLatin1_aae02_0 ?_
  refine zj_if_eq 17 hC dJ0_isLatin1_aae02_3 (by decide) (fun c1 => ?_) (fun c1 => ?_)
  · have hf := z_iteT hf c1
    exact zj_sub hC [] rfl (hJ17 g hf)
  · have hf := z_iteF hf c1
    refine zj_aload_n 0 hC dJ0_isLatin1_aae02_6 rfl ?_
    refine zj_vkget (o1 := "java/lang/String") (v := .int 0) hC (fun A U H h => (h.2.1.1 4 (by decide)).2.1) (List.mem_of_getElem? (i := 2) rfl) rfl dJ0_isLatin1_aae02_7 ?_
    refine zj_if_ne 17 hC dJ0_isLatin1_aae02_10 (by decide) (fun c2 => ?_) (fun c2 => ?_)
    · have hf := z_iteF hf c2
      exact zj_sub hC [] rfl (hJ17 g hf)
    · have hf := z_iteT hf c2
      refine zj_iconst (v := 1) hC dJ0_isLatin1_aae02_13 (by decide) ?_
      refine zj_goto 18 hC dJ0_isLatin1_aae02_14 (by decide) ?_
      exact zj_sub hC [] rfl (hJ18 1 g hf)

def fS_J0_coder_7d493_S4_14 (s0 : Int32) (g : z_G) : Option (Int32 × z_G) := z_bo s0 (some (s0, g))
def fS_J0_coder_7d493_S4 (g : z_G) : Option (Int32 × z_G) := (if (1 : Int32) = 0 then fS_J0_coder_7d493_S4_14 1 g else fS_J0_coder_7d493_S4_14 0 g)
theorem nS_J0_coder_7d493_S4 : yJ0_coder_7d493.cls = RJ0 ∧ yJ0_coder_7d493.cls ≠ "java/lang/invoke/MethodHandle" ∧ yJ0_coder_7d493.cls ≠ "java/lang/invoke/VarHandle" ∧ (parseMethodDescriptor yJ0_coder_7d493.desc).map (fun d => d.parameters.length) = some 0 := by decide +kernel
set_option maxRecDepth 100000 in
set_option maxHeartbeats 4000000 in
theorem cS_J0_coder_7d493_S4 (l : Launch) (dC : Nat → ClassId) (dI : Nat → Nat → Nat) (ca : Nat → ClassId) (q : Nat → Nat) (sk sv : Nat → Nat) (g : z_G) (r : Int32) (g' : z_G) (hf : fS_J0_coder_7d493_S4 g = some (r, g')) : z_C l yJ0_coder_7d493 wsJ0_coder_7d493 { frames := 0, cells := 0, slots := 0, locals := 0 } (dC, dI) (tyM ca) (wM ca q) (zM sk sv) [.ref (sk 4)] g (some r) g' := by
  refine z_enter (wM_ok ca q) (zM_ok sk sv) (by decide +kernel) rfl (Nat.le_of_ble_eq_true rfl) (fun J hC => ?_)
  have hC : z_Cx J l cJ0_coder_7d493 1 wsJ0_coder_7d493 RJ0 (some .byte) { frames := 0, cells := 0, slots := 0, locals := 0 } (dC, dI) (tyM ca) (wM ca q) (zM sk sv) (z_QI (dC, dI) (tyM ca) (wM ca q) (some r) g') z_X0 := hC
  show J 0 [(0, .ref (sk 4))] [] g
  have hJ14 : ∀ (s0 : Int32) (g : z_G), fS_J0_coder_7d493_S4_14 s0 g = some (r, g') → J 14 [] [.int s0] g := by
    intro s0 g hf
    unfold fS_J0_coder_7d493_S4_14 at hf
    exact zj_breturn hC hf dJ0_coder_7d493_14
  unfold fS_J0_coder_7d493_S4 at hf
  refine zj_gets (C := "java/lang/String") (v := .int 1) hC (fun A U H h => h.1) (List.mem_of_getElem? (i := 1) rfl) rfl dJ0_coder_7d493_0 ?_
  refine zj_if_eq 13 hC dJ0_coder_7d493_3 (by decide) (fun c1 => ?_) (fun c1 => ?_)
  · have hf := z_iteT hf c1
    refine zj_iconst (v := 1) hC dJ0_coder_7d493_13 (by decide) ?_
    exact zj_sub hC [] rfl (hJ14 1 g hf)
  · have hf := z_iteF hf c1
    refine zj_aload_n 0 hC dJ0_coder_7d493_6 rfl ?_
    refine zj_vkget (o1 := "java/lang/String") (v := .int 0) hC (fun A U H h => (h.2.1.1 4 (by decide)).2.1) (List.mem_of_getElem? (i := 2) rfl) rfl dJ0_coder_7d493_7 ?_
    refine zj_goto 14 hC dJ0_coder_7d493_10 (by decide) ?_
    exact zj_sub hC [] rfl (hJ14 0 g hf)

def fS_J0_length_8abf5_S4 (g : z_G) : Option (Int32 × z_G) := z_bind (fS_J0_coder_7d493_S4 g) (fun r1 g2 => some (1 >>> (r1 &&& 31), g2))
theorem nS_J0_length_8abf5_S4 : yJ0_length_8abf5.cls = RJ0 ∧ yJ0_length_8abf5.cls ≠ "java/lang/invoke/MethodHandle" ∧ yJ0_length_8abf5.cls ≠ "java/lang/invoke/VarHandle" ∧ (parseMethodDescriptor yJ0_length_8abf5.desc).map (fun d => d.parameters.length) = some 0 := by decide +kernel
set_option maxRecDepth 100000 in
set_option maxHeartbeats 4000000 in
theorem cS_J0_length_8abf5_S4 (l : Launch) (dC : Nat → ClassId) (dI : Nat → Nat → Nat) (ca : Nat → ClassId) (q : Nat → Nat) (sk sv : Nat → Nat) (g : z_G) (r : Int32) (g' : z_G) (hf : fS_J0_length_8abf5_S4 g = some (r, g')) : z_C l yJ0_length_8abf5 wsJ0_length_8abf5 { frames := 1, cells := 0, slots := 0, locals := 20 } (dC, dI) (tyM ca) (wM ca q) (zM sk sv) [.ref (sk 4)] g (some r) g' := by
  refine z_enter (wM_ok ca q) (zM_ok sk sv) (by decide +kernel) rfl (Nat.le_of_ble_eq_true rfl) (fun J hC => ?_)
  have hC : z_Cx J l cJ0_length_8abf5 1 wsJ0_length_8abf5 RJ0 (some .int) { frames := 1, cells := 0, slots := 0, locals := 20 } (dC, dI) (tyM ca) (wM ca q) (zM sk sv) (z_QI (dC, dI) (tyM ca) (wM ca q) (some r) g') z_X0 := hC
  show J 0 [(0, .ref (sk 4))] [] g
  unfold fS_J0_length_8abf5_S4 at hf
  refine zj_aload_n 0 hC dJ0_length_8abf5_0 rfl ?_
  refine zj_vkget (o1 := "java/lang/String") (v := .ref (sv 4)) hC (fun A U H h => (h.2.1.1 4 (by decide)).2.2.1) (List.mem_of_getElem? (i := 1) rfl) rfl dJ0_length_8abf5_1 ?_
  refine zj_tlen (v := 1) hC (fun A U H h => (h.2.1.1 4 (by decide)).2.2.2) rfl dJ0_length_8abf5_4 ?_
  refine zj_aload_n 0 hC dJ0_length_8abf5_5 rfl ?_
  obtain ⟨r1, g2, hq3, hf⟩ := z_bindE hf
  refine zj_callViS [] hC (cS_J0_coder_7d493_S4 l dC dI ca q sk sv g r1 g2 hq3) gJ0_length_8abf5_J0_coder_7d493 rfl nS_J0_coder_7d493_S4 ⟨Nat.le_of_ble_eq_true rfl, Nat.le_of_ble_eq_true rfl⟩ (fun A s H locs h hS => vk_recv h.2.1 (show 4 < 6 by decide) hS) rfl (Nat.le_of_ble_eq_true rfl) dJ0_length_8abf5_6 rfl ?_
  refine zj_ishr hC dJ0_length_8abf5_9 ?_
  exact zj_ireturn hC hf dJ0_length_8abf5_10

def fS_J1_indexOfChar_4cfef_B4_7 (k7 : Int32 × Int32 × Int32 × z_G → Option (Int32 × z_G)) (x3 : Int32) (x4 : Int32) (x5 : Int32) (g : z_G) : Option (Int32 × z_G) := (if x3 ≤ x5 then some ((-1), g) else z_ck x5 1 ((if (kSTR 4 (Int32.toNatClampNeg x5)) = x4 then some (x5, g) else z_let (x5 + 1) (fun y4 => k7 (x3, x4, y4, g)))))
def fS_J1_indexOfChar_4cfef_B4_7_go (x3 : Int32) (x4 : Int32) (x5 : Int32) (g : z_G) : Option (Int32 × z_G) := z_loop (fun k (w : Int32 × Int32 × Int32 × z_G) => fS_J1_indexOfChar_4cfef_B4_7 k w.1 w.2.1 w.2.2.1 w.2.2.2) z_fuel (x3, x4, x5, g)
def fS_J1_indexOfChar_4cfef_B4 (a1 : Int32) (a2 : Int32) (a3 : Int32) (g : z_G) : Option (Int32 × z_G) := z_let ((a1 : Int32).toInt8.toInt32) (fun y5 => fS_J1_indexOfChar_4cfef_B4_7_go a3 y5 a2 g)
theorem nS_J1_indexOfChar_4cfef_B4 : yJ1_indexOfChar_4cfef.cls ≠ "java/lang/invoke/MethodHandle" ∧ yJ1_indexOfChar_4cfef.cls ≠ "java/lang/invoke/VarHandle" ∧ (parseMethodDescriptor yJ1_indexOfChar_4cfef.desc).map (fun d => d.parameters.length) = some 4 := by decide +kernel
set_option maxRecDepth 100000 in
set_option maxHeartbeats 4000000 in
theorem cS_J1_indexOfChar_4cfef_B4 (l : Launch) (dC : Nat → ClassId) (dI : Nat → Nat → Nat) (ca : Nat → ClassId) (q : Nat → Nat) (sk sv : Nat → Nat) (a1 : Int32) (a2 : Int32) (a3 : Int32) (g : z_G) (r : Int32) (g' : z_G) (hf : fS_J1_indexOfChar_4cfef_B4 a1 a2 a3 g = some (r, g')) : z_C l yJ1_indexOfChar_4cfef wsJ1_indexOfChar_4cfef { frames := 0, cells := 0, slots := 0, locals := 0 } (dC, dI) (tyM ca) (wM ca q) (zM sk sv) [.ref (sv 4), .int a1, .int a2, .int a3] g (some r) g' := by
  refine z_enter (wM_ok ca q) (zM_ok sk sv) (by decide +kernel) rfl (Nat.le_of_ble_eq_true rfl) (fun J hC => ?_)
  have hC : z_Cx J l cJ1_indexOfChar_4cfef 6 wsJ1_indexOfChar_4cfef RJ1 (some .int) { frames := 0, cells := 0, slots := 0, locals := 0 } (dC, dI) (tyM ca) (wM ca q) (zM sk sv) (z_QI (dC, dI) (tyM ca) (wM ca q) (some r) g') z_X0 := hC
  show J 0 [(0, .ref (sv 4)), (1, .int a1), (2, .int a2), (3, .int a3)] [] g
  have hJ7 : ∀ (x3 : Int32) (x4 : Int32) (x5 : Int32) (g : z_G), fS_J1_indexOfChar_4cfef_B4_7_go x3 x4 x5 g = some (r, g') → J 7 [(0, .ref (sv 4)), (3, .int x3), (4, .int x4), (5, .int x5)] [] g := by
    intro x3 x4 x5 g hf
    refine z_loopE (P := fun w : Int32 × Int32 × Int32 × z_G => J 7 [(0, .ref (sv 4)), (3, .int w.1), (4, .int w.2.1), (5, .int w.2.2.1)] [] w.2.2.2) (fun k7 hk7 w hf => ?_) z_fuel (x3, x4, x5, g) hf
    obtain ⟨x3, x4, x5, g⟩ := w
    have hf : fS_J1_indexOfChar_4cfef_B4_7 k7 x3 x4 x5 g = some (r, g') := hf
    show J 7 [(0, .ref (sv 4)), (3, .int x3), (4, .int x4), (5, .int x5)] [] g
    unfold fS_J1_indexOfChar_4cfef_B4_7 at hf
    refine zj_iload 3 hC dJ1_indexOfChar_4cfef_7 rfl ?_
    refine zj_iload_n 1 hC dJ1_indexOfChar_4cfef_9 rfl ?_
    refine zj_icmp_ge 31 hC dJ1_indexOfChar_4cfef_10 (by decide) (fun c1 => ?_) (fun c1 => ?_)
    · have hf := z_iteT hf c1
      refine zj_iconst (v := (-1)) hC dJ1_indexOfChar_4cfef_31 (by decide) ?_
      exact zj_ireturn hC hf dJ1_indexOfChar_4cfef_32
    · have hf := z_iteF hf c1
      refine zj_aload_n 0 hC dJ1_indexOfChar_4cfef_13 rfl ?_
      refine zj_iload 3 hC dJ1_indexOfChar_4cfef_14 rfl ?_
      obtain ⟨hq2, hf⟩ := z_ckE hf
      refine zj_tb (f := kSTR 4) hC (fun A U H h => (h.2.1.1 4 (by decide)).2.2.2) hq2 dJ1_indexOfChar_4cfef_16 ?_
      refine zj_iload 2 hC dJ1_indexOfChar_4cfef_17 rfl ?_
      refine zj_icmp_ne 25 hC dJ1_indexOfChar_4cfef_19 (by decide) (fun c3 => ?_) (fun c3 => ?_)
      · have hf := z_iteF hf c3
        refine zj_iinc (lv1 := fun v => [(5, .int v), (0, .ref (sv 4)), (3, .int x3), (4, .int x4)]) 3 hC dJ1_indexOfChar_4cfef_25 rfl (by decide) (fun _ => rfl) (fun y4 ey4 => ?_)
        have hf := z_letE hf (show y4 = x5 + 1 from ey4)
        refine zj_goto 7 hC dJ1_indexOfChar_4cfef_28 (by decide) ?_
        exact zj_sub hC [1, 2, 3, 0] rfl (hk7 (x3, x4, y4, g) hf)
      · have hf := z_iteT hf c3
        refine zj_iload 3 hC dJ1_indexOfChar_4cfef_22 rfl ?_
        exact zj_ireturn hC hf dJ1_indexOfChar_4cfef_24
  unfold fS_J1_indexOfChar_4cfef_B4 at hf
  refine zj_iload_n 1 hC dJ1_indexOfChar_4cfef_0 rfl ?_
  refine zj_i2b hC dJ1_indexOfChar_4cfef_1 ?_
  refine zj_top (fun y5 ey5 => ?_)
  have hf := z_letE hf ey5
  refine zj_istore (lv1 := [(4, .int y5), (0, .ref (sv 4)), (1, .int a1), (2, .int a2), (3, .int a3)]) hC dJ1_indexOfChar_4cfef_2 (by decide) rfl ?_
  refine zj_iload_n 3 hC dJ1_indexOfChar_4cfef_4 rfl ?_
  refine zj_istore (lv1 := [(5, .int a2), (4, .int y5), (0, .ref (sv 4)), (1, .int a1), (2, .int a2), (3, .int a3)]) hC dJ1_indexOfChar_4cfef_5 (by decide) rfl ?_
  exact zj_sub hC [2, 5, 1, 0] rfl (hJ7 a3 y5 a2 g hf)

def fS_J1_indexOf_4cfef_B4 (a1 : Int32) (a2 : Int32) (a3 : Int32) (g : z_G) : Option (Int32 × z_G) := z_bind (fS_J1_canEncode_9a6ad a1 g) (fun r1 g2 => (if r1 = 0 then some ((-1), g2) else z_let (if a2 < 0 then 0 else a2) (fun y5 => z_let (if 1 < a3 then 1 else a3) (fun y6 => (if y5 < y6 then z_bind (fS_J1_indexOfChar_4cfef_B4 a1 y5 y6 g2) (fun r8 g9 => some (r8, g9)) else some ((-1), g2))))))
theorem nS_J1_indexOf_4cfef_B4 : yJ1_indexOf_4cfef.cls ≠ "java/lang/invoke/MethodHandle" ∧ yJ1_indexOf_4cfef.cls ≠ "java/lang/invoke/VarHandle" ∧ (parseMethodDescriptor yJ1_indexOf_4cfef.desc).map (fun d => d.parameters.length) = some 4 := by decide +kernel
set_option maxRecDepth 100000 in
set_option maxHeartbeats 4000000 in
theorem cS_J1_indexOf_4cfef_B4 (l : Launch) (dC : Nat → ClassId) (dI : Nat → Nat → Nat) (ca : Nat → ClassId) (q : Nat → Nat) (sk sv : Nat → Nat) (a1 : Int32) (a2 : Int32) (a3 : Int32) (g : z_G) (r : Int32) (g' : z_G) (hf : fS_J1_indexOf_4cfef_B4 a1 a2 a3 g = some (r, g')) : z_C l yJ1_indexOf_4cfef wsJ1_indexOf_4cfef { frames := 1, cells := 0, slots := 0, locals := 25 } (dC, dI) (tyM ca) (wM ca q) (zM sk sv) [.ref (sv 4), .int a1, .int a2, .int a3] g (some r) g' := by
  refine z_enter (wM_ok ca q) (zM_ok sk sv) (by decide +kernel) rfl (Nat.le_of_ble_eq_true rfl) (fun J hC => ?_)
  have hC : z_Cx J l cJ1_indexOf_4cfef 4 wsJ1_indexOf_4cfef RJ1 (some .int) { frames := 1, cells := 0, slots := 0, locals := 25 } (dC, dI) (tyM ca) (wM ca q) (zM sk sv) (z_QI (dC, dI) (tyM ca) (wM ca q) (some r) g') z_X0 := hC
  show J 0 [(0, .ref (sv 4)), (1, .int a1), (2, .int a2), (3, .int a3)] [] g
  unfold fS_J1_indexOf_4cfef_B4 at hf
  refine zj_iload_n 1 hC dJ1_indexOf_4cfef_0 rfl ?_
  obtain ⟨r1, g2, hq3, hf⟩ := z_bindE hf
  refine zj_callSi [.int a1] hC (cS_J1_canEncode_9a6ad l dC dI ca q sk sv a1 g r1 g2 hq3) gJ1_indexOf_4cfef_J1_canEncode_9a6ad rfl nS_J1_canEncode_9a6ad ⟨Nat.le_of_ble_eq_true rfl, Nat.le_of_ble_eq_true rfl⟩ rfl (Nat.le_of_ble_eq_true rfl) dJ1_indexOf_4cfef_1 rfl ?_
  refine zj_if_ne 9 hC dJ1_indexOf_4cfef_4 (by decide) (fun c4 => ?_) (fun c4 => ?_)
  · have hf := z_iteF hf c4
    refine zj_iload_n 2 hC dJ1_indexOf_4cfef_9 rfl ?_
    refine zj_iconst (v := 0) hC dJ1_indexOf_4cfef_10 (by decide) ?_
    refine zj_max hC (List.mem_of_getElem? (i := 1) rfl) (List.mem_of_getElem? (i := 2) rfl) (List.mem_of_getElem? (i := 3) rfl) (List.mem_of_getElem? (i := 4) rfl) (Nat.le_of_ble_eq_true rfl) (Nat.le_of_ble_eq_true rfl) dJ1_indexOf_4cfef_11 ?_
    refine zj_top (fun y5 ey5 => ?_)
    have hf := z_letE hf ey5
    refine zj_istore_n (lv1 := [(2, .int y5), (0, .ref (sv 4)), (1, .int a1), (3, .int a3)]) hC dJ1_indexOf_4cfef_14 (by decide) rfl ?_
    refine zj_iload_n 3 hC dJ1_indexOf_4cfef_15 rfl ?_
    refine zj_aload_n 1 hC dJ1_indexOf_4cfef_16 rfl ?_
    refine zj_tlen (v := 1) hC (fun A U H h => (h.2.1.1 4 (by decide)).2.2.2) rfl dJ1_indexOf_4cfef_17 ?_
    refine zj_min hC (List.mem_of_getElem? (i := 5) rfl) (List.mem_of_getElem? (i := 6) rfl) (List.mem_of_getElem? (i := 3) rfl) (List.mem_of_getElem? (i := 7) rfl) (Nat.le_of_ble_eq_true rfl) (Nat.le_of_ble_eq_true rfl) dJ1_indexOf_4cfef_18 ?_
    refine zj_top (fun y6 ey6 => ?_)
    have hf := z_letE hf ey6
    refine zj_istore_n (lv1 := [(3, .int y6), (2, .int y5), (0, .ref (sv 4)), (1, .int a1)]) hC dJ1_indexOf_4cfef_21 (by decide) rfl ?_
    refine zj_iload_n 1 hC dJ1_indexOf_4cfef_22 rfl ?_
    refine zj_iload_n 0 hC dJ1_indexOf_4cfef_23 rfl ?_
    refine zj_icmp_lt 29 hC dJ1_indexOf_4cfef_24 (by decide) (fun c7 => ?_) (fun c7 => ?_)
    · have hf := z_iteT hf c7
      refine zj_aload_n 2 hC dJ1_indexOf_4cfef_29 rfl ?_
      refine zj_iload_n 3 hC dJ1_indexOf_4cfef_30 rfl ?_
      refine zj_iload_n 1 hC dJ1_indexOf_4cfef_31 rfl ?_
      refine zj_iload_n 0 hC dJ1_indexOf_4cfef_32 rfl ?_
      obtain ⟨r8, g9, hq10, hf⟩ := z_bindE hf
      refine zj_callSi [.ref (sv 4), .int a1, .int y5, .int y6] hC (cS_J1_indexOfChar_4cfef_B4 l dC dI ca q sk sv a1 y5 y6 g2 r8 g9 hq10) gJ1_indexOf_4cfef_J1_indexOfChar_4cfef rfl nS_J1_indexOfChar_4cfef_B4 ⟨Nat.le_of_ble_eq_true rfl, Nat.le_of_ble_eq_true rfl⟩ rfl (Nat.le_of_ble_eq_true rfl) dJ1_indexOf_4cfef_33 rfl ?_
      exact zj_ireturn hC hf dJ1_indexOf_4cfef_36
    · have hf := z_iteF hf c7
      refine zj_iconst (v := (-1)) hC dJ1_indexOf_4cfef_27 (by decide) ?_
      exact zj_ireturn hC hf dJ1_indexOf_4cfef_28
  · have hf := z_iteT hf c4
    refine zj_iconst (v := (-1)) hC dJ1_indexOf_4cfef_7 (by decide) ?_
    exact zj_ireturn hC hf dJ1_indexOf_4cfef_8

def fS_J0_indexOf_7cf53_S4_36 (s0 : Int32) (g : z_G) : Option (Int32 × z_G) := some (s0, g)
def fS_J0_indexOf_7cf53_S4 (a0 : Int32) (a1 : Int32) (g : z_G) : Option (Int32 × z_G) := z_bind (fS_J0_isLatin1_aae02_S4 g) (fun r1 g2 => (if r1 = 0 then z_bind (fS_J0_length_8abf5_S4 g2) (fun r5 g6 => none) else z_bind (fS_J0_length_8abf5_S4 g2) (fun r8 g9 => z_bind (fS_J1_indexOf_4cfef_B4 a0 a1 r8 g9) (fun r11 g12 => fS_J0_indexOf_7cf53_S4_36 r11 g12))))
theorem nS_J0_indexOf_7cf53_S4 : yJ0_indexOf_7cf53.cls = RJ0 ∧ yJ0_indexOf_7cf53.cls ≠ "java/lang/invoke/MethodHandle" ∧ yJ0_indexOf_7cf53.cls ≠ "java/lang/invoke/VarHandle" ∧ (parseMethodDescriptor yJ0_indexOf_7cf53.desc).map (fun d => d.parameters.length) = some 2 := by decide +kernel
set_option maxRecDepth 100000 in
set_option maxHeartbeats 4000000 in
theorem cS_J0_indexOf_7cf53_S4 (l : Launch) (dC : Nat → ClassId) (dI : Nat → Nat → Nat) (ca : Nat → ClassId) (q : Nat → Nat) (sk sv : Nat → Nat) (a0 : Int32) (a1 : Int32) (g : z_G) (r : Int32) (g' : z_G) (hf : fS_J0_indexOf_7cf53_S4 a0 a1 g = some (r, g')) : z_C l yJ0_indexOf_7cf53 wsJ0_indexOf_7cf53 { frames := 2, cells := 0, slots := 0, locals := 48 } (dC, dI) (tyM ca) (wM ca q) (zM sk sv) [.ref (sk 4), .int a0, .int a1] g (some r) g' := by
  refine z_enter (wM_ok ca q) (zM_ok sk sv) (by decide +kernel) rfl (Nat.le_of_ble_eq_true rfl) (fun J hC => ?_)
  have hC : z_Cx J l cJ0_indexOf_7cf53 3 wsJ0_indexOf_7cf53 RJ0 (some .int) { frames := 2, cells := 0, slots := 0, locals := 48 } (dC, dI) (tyM ca) (wM ca q) (zM sk sv) (z_QI (dC, dI) (tyM ca) (wM ca q) (some r) g') z_X0 := hC
  show J 0 [(0, .ref (sk 4)), (1, .int a0), (2, .int a1)] [] g
  have hJ36 : ∀ (s0 : Int32) (g : z_G), fS_J0_indexOf_7cf53_S4_36 s0 g = some (r, g') → J 36 [] [.int s0] g := by
    intro s0 g hf
    unfold fS_J0_indexOf_7cf53_S4_36 at hf
    exact zj_ireturn hC hf dJ0_indexOf_7cf53_36
  unfold fS_J0_indexOf_7cf53_S4 at hf
  refine zj_aload_n 0 hC dJ0_indexOf_7cf53_0 rfl ?_
  obtain ⟨r1, g2, hq3, hf⟩ := z_bindE hf
  refine zj_callViS [] hC (cS_J0_isLatin1_aae02_S4 l dC dI ca q sk sv g r1 g2 hq3) gJ0_indexOf_7cf53_J0_isLatin1_aae02 rfl nS_J0_isLatin1_aae02_S4 ⟨Nat.le_of_ble_eq_true rfl, Nat.le_of_ble_eq_true rfl⟩ (fun A s H locs h hS => vk_recv h.2.1 (show 4 < 6 by decide) hS) rfl (Nat.le_of_ble_eq_true rfl) dJ0_indexOf_7cf53_1 rfl ?_
  refine zj_if_eq 23 hC dJ0_indexOf_7cf53_4 (by decide) (fun c4 => ?_) (fun c4 => ?_)
  · have hf := z_iteT hf c4
    refine zj_aload_n 0 hC dJ0_indexOf_7cf53_23 rfl ?_
    refine zj_vkget (o1 := "java/lang/String") (v := .ref (sv 4)) hC (fun A U H h => (h.2.1.1 4 (by decide)).2.2.1) (List.mem_of_getElem? (i := 1) rfl) rfl dJ0_indexOf_7cf53_24 ?_
    refine zj_iload_n 1 hC dJ0_indexOf_7cf53_27 rfl ?_
    refine zj_iload_n 2 hC dJ0_indexOf_7cf53_28 rfl ?_
    refine zj_aload_n 0 hC dJ0_indexOf_7cf53_29 rfl ?_
    obtain ⟨r5, g6, hq7, hf⟩ := z_bindE hf
    refine zj_callViS [] hC (cS_J0_length_8abf5_S4 l dC dI ca q sk sv g2 r5 g6 hq7) gJ0_indexOf_7cf53_J0_length_8abf5 rfl nS_J0_length_8abf5_S4 ⟨Nat.le_of_ble_eq_true rfl, Nat.le_of_ble_eq_true rfl⟩ (fun A s H locs h hS => vk_recv h.2.1 (show 4 < 6 by decide) hS) rfl (Nat.le_of_ble_eq_true rfl) dJ0_indexOf_7cf53_30 rfl ?_
    cases hf
  · have hf := z_iteF hf c4
    refine zj_aload_n 0 hC dJ0_indexOf_7cf53_7 rfl ?_
    refine zj_vkget (o1 := "java/lang/String") (v := .ref (sv 4)) hC (fun A U H h => (h.2.1.1 4 (by decide)).2.2.1) (List.mem_of_getElem? (i := 1) rfl) rfl dJ0_indexOf_7cf53_8 ?_
    refine zj_iload_n 1 hC dJ0_indexOf_7cf53_11 rfl ?_
    refine zj_iload_n 2 hC dJ0_indexOf_7cf53_12 rfl ?_
    refine zj_aload_n 0 hC dJ0_indexOf_7cf53_13 rfl ?_
    obtain ⟨r8, g9, hq10, hf⟩ := z_bindE hf
    refine zj_callViS [] hC (cS_J0_length_8abf5_S4 l dC dI ca q sk sv g2 r8 g9 hq10) gJ0_indexOf_7cf53_J0_length_8abf5 rfl nS_J0_length_8abf5_S4 ⟨Nat.le_of_ble_eq_true rfl, Nat.le_of_ble_eq_true rfl⟩ (fun A s H locs h hS => vk_recv h.2.1 (show 4 < 6 by decide) hS) rfl (Nat.le_of_ble_eq_true rfl) dJ0_indexOf_7cf53_14 rfl ?_
    obtain ⟨r11, g12, hq13, hf⟩ := z_bindE hf
    refine zj_callSi [.ref (sv 4), .int a0, .int a1, .int r8] hC (cS_J1_indexOf_4cfef_B4 l dC dI ca q sk sv a0 a1 r8 g9 r11 g12 hq13) gJ0_indexOf_7cf53_J1_indexOf_4cfef rfl nS_J1_indexOf_4cfef_B4 ⟨Nat.le_of_ble_eq_true rfl, Nat.le_of_ble_eq_true rfl⟩ rfl (Nat.le_of_ble_eq_true rfl) dJ0_indexOf_7cf53_17 rfl ?_
    refine zj_goto 36 hC dJ0_indexOf_7cf53_20 (by decide) ?_
    exact zj_sub hC [] rfl (hJ36 r11 g12 hf)

def fS_J0_indexOf_0f7a4_S4 (a0 : Int32) (g : z_G) : Option (Int32 × z_G) := z_bind (fS_J0_indexOf_7cf53_S4 a0 0 g) (fun r1 g2 => some (r1, g2))
theorem nS_J0_indexOf_0f7a4_S4 : yJ0_indexOf_0f7a4.cls = RJ0 ∧ yJ0_indexOf_0f7a4.cls ≠ "java/lang/invoke/MethodHandle" ∧ yJ0_indexOf_0f7a4.cls ≠ "java/lang/invoke/VarHandle" ∧ (parseMethodDescriptor yJ0_indexOf_0f7a4.desc).map (fun d => d.parameters.length) = some 1 := by decide +kernel
set_option maxRecDepth 100000 in
set_option maxHeartbeats 4000000 in
theorem cS_J0_indexOf_0f7a4_S4 (l : Launch) (dC : Nat → ClassId) (dI : Nat → Nat → Nat) (ca : Nat → ClassId) (q : Nat → Nat) (sk sv : Nat → Nat) (a0 : Int32) (g : z_G) (r : Int32) (g' : z_G) (hf : fS_J0_indexOf_0f7a4_S4 a0 g = some (r, g')) : z_C l yJ0_indexOf_0f7a4 wsJ0_indexOf_0f7a4 { frames := 3, cells := 0, slots := 0, locals := 70 } (dC, dI) (tyM ca) (wM ca q) (zM sk sv) [.ref (sk 4), .int a0] g (some r) g' := by
  refine z_enter (wM_ok ca q) (zM_ok sk sv) (by decide +kernel) rfl (Nat.le_of_ble_eq_true rfl) (fun J hC => ?_)
  have hC : z_Cx J l cJ0_indexOf_0f7a4 2 wsJ0_indexOf_0f7a4 RJ0 (some .int) { frames := 3, cells := 0, slots := 0, locals := 70 } (dC, dI) (tyM ca) (wM ca q) (zM sk sv) (z_QI (dC, dI) (tyM ca) (wM ca q) (some r) g') z_X0 := hC
  show J 0 [(0, .ref (sk 4)), (1, .int a0)] [] g
  unfold fS_J0_indexOf_0f7a4_S4 at hf
  refine zj_aload_n 0 hC dJ0_indexOf_0f7a4_0 rfl ?_
  refine zj_iload_n 1 hC dJ0_indexOf_0f7a4_1 rfl ?_
  refine zj_iconst (v := 0) hC dJ0_indexOf_0f7a4_2 (by decide) ?_
  obtain ⟨r1, g2, hq3, hf⟩ := z_bindE hf
  refine zj_callViS [.int a0, .int 0] hC (cS_J0_indexOf_7cf53_S4 l dC dI ca q sk sv a0 0 g r1 g2 hq3) gJ0_indexOf_0f7a4_J0_indexOf_7cf53 rfl nS_J0_indexOf_7cf53_S4 ⟨Nat.le_of_ble_eq_true rfl, Nat.le_of_ble_eq_true rfl⟩ (fun A s H locs h hS => vk_recv h.2.1 (show 4 < 6 by decide) hS) rfl (Nat.le_of_ble_eq_true rfl) dJ0_indexOf_0f7a4_3 rfl ?_
  exact zj_ireturn hC hf dJ0_indexOf_0f7a4_6

def fS_X8_isSign_S4_41 (s0 : Int32) (g : z_G) : Option (Int32 × z_G) := z_bo s0 (some (s0, g))
def fS_X8_isSign_S4_40  (g : z_G) : Option (Int32 × z_G) := fS_X8_isSign_S4_41 0 g
def fS_X8_isSign_S4 (a0 : Int32) (g : z_G) : Option (Int32 × z_G) := (if a0 ≤ (g 0 50) then fS_X8_isSign_S4_40 g else z_ck (g 0 50) 100 ((if (g 30 (Int32.toNatClampNeg (g 0 50))) ≤ 0 then fS_X8_isSign_S4_40 g else z_ck (g 0 50) 100 (z_bind (fS_J0_indexOf_0f7a4_S4 (g 30 (Int32.toNatClampNeg (g 0 50))) g) (fun r5 g6 => (if r5 < 0 then fS_X8_isSign_S4_40 g6 else fS_X8_isSign_S4_41 1 g6))))))
theorem nS_X8_isSign_S4 : yX8_isSign.cls = RX8 ∧ yX8_isSign.cls ≠ "java/lang/invoke/MethodHandle" ∧ yX8_isSign.cls ≠ "java/lang/invoke/VarHandle" ∧ (parseMethodDescriptor yX8_isSign.desc).map (fun d => d.parameters.length) = some 2 := by decide +kernel
set_option maxRecDepth 100000 in
set_option maxHeartbeats 4000000 in
theorem cS_X8_isSign_S4 (l : Launch) (dC : Nat → ClassId) (dI : Nat → Nat → Nat) (ca : Nat → ClassId) (q : Nat → Nat) (sk sv : Nat → Nat) (a0 : Int32) (g : z_G) (r : Int32) (g' : z_G) (hf : fS_X8_isSign_S4 a0 g = some (r, g')) : z_C l yX8_isSign wsX8_isSign { frames := 4, cells := 0, slots := 0, locals := 91 } (dC, dI) (tyM ca) (wM ca q) (zM sk sv) [.ref (q 0), .int a0, .ref (sk 4)] g (some r) g' := by
  refine z_enter (wM_ok ca q) (zM_ok sk sv) (by decide +kernel) rfl (Nat.le_of_ble_eq_true rfl) (fun J hC => ?_)
  have hC : z_Cx J l cX8_isSign 3 wsX8_isSign RX8 (some .boolean) { frames := 4, cells := 0, slots := 0, locals := 91 } (dC, dI) (tyM ca) (wM ca q) (zM sk sv) (z_QI (dC, dI) (tyM ca) (wM ca q) (some r) g') z_X0 := hC
  show J 0 [(0, .ref (q 0)), (1, .int a0), (2, .ref (sk 4))] [] g
  have hX8 : ∀ w ∈ wsX80, w ∈ wsX8_isSign := fun _ h => List.mem_cons_of_mem _ (List.mem_append_right _ (h))
  have hJ41 : ∀ (s0 : Int32) (g : z_G), fS_X8_isSign_S4_41 s0 g = some (r, g') → J 41 [] [.int s0] g := by
    intro s0 g hf
    unfold fS_X8_isSign_S4_41 at hf
    exact zj_zreturn hC hf dX8_isSign_41
  have hJ40 : ∀ (g : z_G), fS_X8_isSign_S4_40 g = some (r, g') → J 40 [] [] g := by
    intro g hf
    unfold fS_X8_isSign_S4_40 at hf
    refine zj_iconst (v := 0) hC dX8_isSign_40 (by decide) ?_
    exact (hJ41 0 g hf)
  unfold fS_X8_isSign_S4 at hf
  refine zj_aload_n 0 hC dX8_isSign_0 rfl ?_
  refine mg_0_50 hC hX8 (List.mem_of_getElem? (i := 1) rfl) dX8_isSign_1 ?_
  refine zj_iload_n 1 hC dX8_isSign_4 rfl ?_
  refine zj_icmp_ge 40 hC dX8_isSign_5 (by decide) (fun c1 => ?_) (fun c1 => ?_)
  · have hf := z_iteT hf c1
    exact zj_sub hC [] rfl (hJ40 g hf)
  · have hf := z_iteF hf c1
    refine zj_aload_n 0 hC dX8_isSign_8 rfl ?_
    refine mg_0_40 hC hX8 (List.mem_of_getElem? (i := 2) rfl) dX8_isSign_9 ?_
    refine zj_aload_n 0 hC dX8_isSign_12 rfl ?_
    refine mg_0_50 hC hX8 (List.mem_of_getElem? (i := 1) rfl) dX8_isSign_13 ?_
    obtain ⟨hq2, hf⟩ := z_ckE hf
    refine ma_30 hC hq2 dX8_isSign_16 ?_
    refine zj_if_le 40 hC dX8_isSign_17 (by decide) (fun c3 => ?_) (fun c3 => ?_)
    · have hf := z_iteT hf c3
      exact zj_sub hC [] rfl (hJ40 g hf)
    · have hf := z_iteF hf c3
      refine zj_aload_n 2 hC dX8_isSign_20 rfl ?_
      refine zj_aload_n 0 hC dX8_isSign_21 rfl ?_
      refine mg_0_40 hC hX8 (List.mem_of_getElem? (i := 2) rfl) dX8_isSign_22 ?_
      refine zj_aload_n 0 hC dX8_isSign_25 rfl ?_
      refine mg_0_50 hC hX8 (List.mem_of_getElem? (i := 1) rfl) dX8_isSign_26 ?_
      obtain ⟨hq4, hf⟩ := z_ckE hf
      refine ma_30 hC hq4 dX8_isSign_29 ?_
      obtain ⟨r5, g6, hq7, hf⟩ := z_bindE hf
      refine zj_callViS [.int (g 30 (Int32.toNatClampNeg (g 0 50)))] hC (cS_J0_indexOf_0f7a4_S4 l dC dI ca q sk sv (g 30 (Int32.toNatClampNeg (g 0 50))) g r5 g6 hq7) gX8_isSign_J0_indexOf_0f7a4 rfl nS_J0_indexOf_0f7a4_S4 ⟨Nat.le_of_ble_eq_true rfl, Nat.le_of_ble_eq_true rfl⟩ (fun A s H locs h hS => vk_recv h.2.1 (show 4 < 6 by decide) hS) rfl (Nat.le_of_ble_eq_true rfl) dX8_isSign_30 rfl ?_
      refine zj_if_lt 40 hC dX8_isSign_33 (by decide) (fun c8 => ?_) (fun c8 => ?_)
      · have hf := z_iteT hf c8
        exact zj_sub hC [] rfl (hJ40 g6 hf)
      · have hf := z_iteF hf c8
        refine zj_iconst (v := 1) hC dX8_isSign_36 (by decide) ?_
        refine zj_goto 41 hC dX8_isSign_37 (by decide) ?_
        exact zj_sub hC [] rfl (hJ41 1 g6 hf)

def fS_J0_isLatin1_aae02_S5_18 (s0 : Int32) (g : z_G) : Option (Int32 × z_G) := z_bo s0 (some (s0, g))
def fS_J0_isLatin1_aae02_S5_17  (g : z_G) : Option (Int32 × z_G) := fS_J0_isLatin1_aae02_S5_18 0 g
def fS_J0_isLatin1_aae02_S5 (g : z_G) : Option (Int32 × z_G) := (if (1 : Int32) = 0 then fS_J0_isLatin1_aae02_S5_17 g else (if (0 : Int32) = 0 then fS_J0_isLatin1_aae02_S5_18 1 g else fS_J0_isLatin1_aae02_S5_17 g))
theorem nS_J0_isLatin1_aae02_S5 : yJ0_isLatin1_aae02.cls = RJ0 ∧ yJ0_isLatin1_aae02.cls ≠ "java/lang/invoke/MethodHandle" ∧ yJ0_isLatin1_aae02.cls ≠ "java/lang/invoke/VarHandle" ∧ (parseMethodDescriptor yJ0_isLatin1_aae02.desc).map (fun d => d.parameters.length) = some 0 := by decide +kernel
set_option maxRecDepth 100000 in
set_option maxHeartbeats 4000000 in
theorem cS_J0_isLatin1_aae02_S5 (l : Launch) (dC : Nat → ClassId) (dI : Nat → Nat → Nat) (ca : Nat → ClassId) (q : Nat → Nat) (sk sv : Nat → Nat) (g : z_G) (r : Int32) (g' : z_G) (hf : fS_J0_isLatin1_aae02_S5 g = some (r, g')) : z_C l yJ0_isLatin1_aae02 wsJ0_isLatin1_aae02 { frames := 0, cells := 0, slots := 0, locals := 0 } (dC, dI) (tyM ca) (wM ca q) (zM sk sv) [.ref (sk 5)] g (some r) g' := by
  refine z_enter (wM_ok ca q) (zM_ok sk sv) (by decide +kernel) rfl (Nat.le_of_ble_eq_true rfl) (fun J hC => ?_)
  have hC : z_Cx J l cJ0_isLatin1_aae02 1 wsJ0_isLatin1_aae02 RJ0 (some .boolean) { frames := 0, cells := 0, slots := 0, locals := 0 } (dC, dI) (tyM ca) (wM ca q) (zM sk sv) (z_QI (dC, dI) (tyM ca) (wM ca q) (some r) g') z_X0 := hC
  show J 0 [(0, .ref (sk 5))] [] g
  have hJ18 : ∀ (s0 : Int32) (g : z_G), fS_J0_isLatin1_aae02_S5_18 s0 g = some (r, g') → J 18 [] [.int s0] g := by
    intro s0 g hf
    unfold fS_J0_isLatin1_aae02_S5_18 at hf
    exact zj_zreturn hC hf dJ0_isLatin1_aae02_18
  have hJ17 : ∀ (g : z_G), fS_J0_isLatin1_aae02_S5_17 g = some (r, g') → J 17 [] [] g := by
    intro g hf
    unfold fS_J0_isLatin1_aae02_S5_17 at hf
    refine zj_iconst (v := 0) hC dJ0_isLatin1_aae02_17 (by decide) ?_
    exact (hJ18 0 g hf)
  unfold fS_J0_isLatin1_aae02_S5 at hf
  refine zj_gets (C := "java/lang/String") (v := .int 1) hC (fun A U H h => h.1) (List.mem_of_getElem? (i := 1) rfl) rfl dJ0_isLatin1_aae02_0 ?_
  refine zj_if_eq 17 hC dJ0_isLatin1_aae02_3 (by decide) (fun c1 => ?_) (fun c1 => ?_)
  · have hf := z_iteT hf c1
    exact zj_sub hC [] rfl (hJ17 g hf)
  · have hf := z_iteF hf c1
    refine zj_aload_n 0 hC dJ0_isLatin1_aae02_6 rfl ?_
    refine zj_vkget (o1 := "java/lang/String") (v := .int 0) hC (fun A U H h => (h.2.1.1 5 (by decide)).2.1) (List.mem_of_getElem? (i := 2) rfl) rfl dJ0_isLatin1_aae02_7 ?_
    refine zj_if_ne 17 hC dJ0_isLatin1_aae02_10 (by decide) (fun c2 => ?_) (fun c2 => ?_)
    · have hf := z_iteF hf c2
      exact zj_sub hC [] rfl (hJ17 g hf)
    · have hf := z_iteT hf c2
      refine zj_iconst (v := 1) hC dJ0_isLatin1_aae02_13 (by decide) ?_
      refine zj_goto 18 hC dJ0_isLatin1_aae02_14 (by decide) ?_
      exact zj_sub hC [] rfl (hJ18 1 g hf)

def fS_J0_coder_7d493_S5_14 (s0 : Int32) (g : z_G) : Option (Int32 × z_G) := z_bo s0 (some (s0, g))
def fS_J0_coder_7d493_S5 (g : z_G) : Option (Int32 × z_G) := (if (1 : Int32) = 0 then fS_J0_coder_7d493_S5_14 1 g else fS_J0_coder_7d493_S5_14 0 g)
theorem nS_J0_coder_7d493_S5 : yJ0_coder_7d493.cls = RJ0 ∧ yJ0_coder_7d493.cls ≠ "java/lang/invoke/MethodHandle" ∧ yJ0_coder_7d493.cls ≠ "java/lang/invoke/VarHandle" ∧ (parseMethodDescriptor yJ0_coder_7d493.desc).map (fun d => d.parameters.length) = some 0 := by decide +kernel
set_option maxRecDepth 100000 in
set_option maxHeartbeats 4000000 in
theorem cS_J0_coder_7d493_S5 (l : Launch) (dC : Nat → ClassId) (dI : Nat → Nat → Nat) (ca : Nat → ClassId) (q : Nat → Nat) (sk sv : Nat → Nat) (g : z_G) (r : Int32) (g' : z_G) (hf : fS_J0_coder_7d493_S5 g = some (r, g')) : z_C l yJ0_coder_7d493 wsJ0_coder_7d493 { frames := 0, cells := 0, slots := 0, locals := 0 } (dC, dI) (tyM ca) (wM ca q) (zM sk sv) [.ref (sk 5)] g (some r) g' := by
  refine z_enter (wM_ok ca q) (zM_ok sk sv) (by decide +kernel) rfl (Nat.le_of_ble_eq_true rfl) (fun J hC => ?_)
  have hC : z_Cx J l cJ0_coder_7d493 1 wsJ0_coder_7d493 RJ0 (some .byte) { frames := 0, cells := 0, slots := 0, locals := 0 } (dC, dI) (tyM ca) (wM ca q) (zM sk sv) (z_QI (dC, dI) (tyM ca) (wM ca q) (some r) g') z_X0 := hC
  show J 0 [(0, .ref (sk 5))] [] g
  have hJ14 : ∀ (s0 : Int32) (g : z_G), fS_J0_coder_7d493_S5_14 s0 g = some (r, g') → J 14 [] [.int s0] g := by
    intro s0 g hf
    unfold fS_J0_coder_7d493_S5_14 at hf
    exact zj_breturn hC hf dJ0_coder_7d493_14
  unfold fS_J0_coder_7d493_S5 at hf
  refine zj_gets (C := "java/lang/String") (v := .int 1) hC (fun A U H h => h.1) (List.mem_of_getElem? (i := 1) rfl) rfl dJ0_coder_7d493_0 ?_
  refine zj_if_eq 13 hC dJ0_coder_7d493_3 (by decide) (fun c1 => ?_) (fun c1 => ?_)
  · have hf := z_iteT hf c1
    refine zj_iconst (v := 1) hC dJ0_coder_7d493_13 (by decide) ?_
    exact zj_sub hC [] rfl (hJ14 1 g hf)
  · have hf := z_iteF hf c1
    refine zj_aload_n 0 hC dJ0_coder_7d493_6 rfl ?_
    refine zj_vkget (o1 := "java/lang/String") (v := .int 0) hC (fun A U H h => (h.2.1.1 5 (by decide)).2.1) (List.mem_of_getElem? (i := 2) rfl) rfl dJ0_coder_7d493_7 ?_
    refine zj_goto 14 hC dJ0_coder_7d493_10 (by decide) ?_
    exact zj_sub hC [] rfl (hJ14 0 g hf)

def fS_J0_length_8abf5_S5 (g : z_G) : Option (Int32 × z_G) := z_bind (fS_J0_coder_7d493_S5 g) (fun r1 g2 => some (4 >>> (r1 &&& 31), g2))
theorem nS_J0_length_8abf5_S5 : yJ0_length_8abf5.cls = RJ0 ∧ yJ0_length_8abf5.cls ≠ "java/lang/invoke/MethodHandle" ∧ yJ0_length_8abf5.cls ≠ "java/lang/invoke/VarHandle" ∧ (parseMethodDescriptor yJ0_length_8abf5.desc).map (fun d => d.parameters.length) = some 0 := by decide +kernel
set_option maxRecDepth 100000 in
set_option maxHeartbeats 4000000 in
theorem cS_J0_length_8abf5_S5 (l : Launch) (dC : Nat → ClassId) (dI : Nat → Nat → Nat) (ca : Nat → ClassId) (q : Nat → Nat) (sk sv : Nat → Nat) (g : z_G) (r : Int32) (g' : z_G) (hf : fS_J0_length_8abf5_S5 g = some (r, g')) : z_C l yJ0_length_8abf5 wsJ0_length_8abf5 { frames := 1, cells := 0, slots := 0, locals := 20 } (dC, dI) (tyM ca) (wM ca q) (zM sk sv) [.ref (sk 5)] g (some r) g' := by
  refine z_enter (wM_ok ca q) (zM_ok sk sv) (by decide +kernel) rfl (Nat.le_of_ble_eq_true rfl) (fun J hC => ?_)
  have hC : z_Cx J l cJ0_length_8abf5 1 wsJ0_length_8abf5 RJ0 (some .int) { frames := 1, cells := 0, slots := 0, locals := 20 } (dC, dI) (tyM ca) (wM ca q) (zM sk sv) (z_QI (dC, dI) (tyM ca) (wM ca q) (some r) g') z_X0 := hC
  show J 0 [(0, .ref (sk 5))] [] g
  unfold fS_J0_length_8abf5_S5 at hf
  refine zj_aload_n 0 hC dJ0_length_8abf5_0 rfl ?_
  refine zj_vkget (o1 := "java/lang/String") (v := .ref (sv 5)) hC (fun A U H h => (h.2.1.1 5 (by decide)).2.2.1) (List.mem_of_getElem? (i := 1) rfl) rfl dJ0_length_8abf5_1 ?_
  refine zj_tlen (v := 4) hC (fun A U H h => (h.2.1.1 5 (by decide)).2.2.2) rfl dJ0_length_8abf5_4 ?_
  refine zj_aload_n 0 hC dJ0_length_8abf5_5 rfl ?_
  obtain ⟨r1, g2, hq3, hf⟩ := z_bindE hf
  refine zj_callViS [] hC (cS_J0_coder_7d493_S5 l dC dI ca q sk sv g r1 g2 hq3) gJ0_length_8abf5_J0_coder_7d493 rfl nS_J0_coder_7d493_S5 ⟨Nat.le_of_ble_eq_true rfl, Nat.le_of_ble_eq_true rfl⟩ (fun A s H locs h hS => vk_recv h.2.1 (show 5 < 6 by decide) hS) rfl (Nat.le_of_ble_eq_true rfl) dJ0_length_8abf5_6 rfl ?_
  refine zj_ishr hC dJ0_length_8abf5_9 ?_
  exact zj_ireturn hC hf dJ0_length_8abf5_10

def fS_J1_indexOfChar_4cfef_B5_7 (k7 : Int32 × Int32 × Int32 × z_G → Option (Int32 × z_G)) (x3 : Int32) (x4 : Int32) (x5 : Int32) (g : z_G) : Option (Int32 × z_G) := (if x3 ≤ x5 then some ((-1), g) else z_ck x5 4 ((if (kSTR 5 (Int32.toNatClampNeg x5)) = x4 then some (x5, g) else z_let (x5 + 1) (fun y4 => k7 (x3, x4, y4, g)))))
def fS_J1_indexOfChar_4cfef_B5_7_go (x3 : Int32) (x4 : Int32) (x5 : Int32) (g : z_G) : Option (Int32 × z_G) := z_loop (fun k (w : Int32 × Int32 × Int32 × z_G) => fS_J1_indexOfChar_4cfef_B5_7 k w.1 w.2.1 w.2.2.1 w.2.2.2) z_fuel (x3, x4, x5, g)
def fS_J1_indexOfChar_4cfef_B5 (a1 : Int32) (a2 : Int32) (a3 : Int32) (g : z_G) : Option (Int32 × z_G) := z_let ((a1 : Int32).toInt8.toInt32) (fun y5 => fS_J1_indexOfChar_4cfef_B5_7_go a3 y5 a2 g)
theorem nS_J1_indexOfChar_4cfef_B5 : yJ1_indexOfChar_4cfef.cls ≠ "java/lang/invoke/MethodHandle" ∧ yJ1_indexOfChar_4cfef.cls ≠ "java/lang/invoke/VarHandle" ∧ (parseMethodDescriptor yJ1_indexOfChar_4cfef.desc).map (fun d => d.parameters.length) = some 4 := by decide +kernel
set_option maxRecDepth 100000 in
set_option maxHeartbeats 4000000 in
theorem cS_J1_indexOfChar_4cfef_B5 (l : Launch) (dC : Nat → ClassId) (dI : Nat → Nat → Nat) (ca : Nat → ClassId) (q : Nat → Nat) (sk sv : Nat → Nat) (a1 : Int32) (a2 : Int32) (a3 : Int32) (g : z_G) (r : Int32) (g' : z_G) (hf : fS_J1_indexOfChar_4cfef_B5 a1 a2 a3 g = some (r, g')) : z_C l yJ1_indexOfChar_4cfef wsJ1_indexOfChar_4cfef { frames := 0, cells := 0, slots := 0, locals := 0 } (dC, dI) (tyM ca) (wM ca q) (zM sk sv) [.ref (sv 5), .int a1, .int a2, .int a3] g (some r) g' := by
  refine z_enter (wM_ok ca q) (zM_ok sk sv) (by decide +kernel) rfl (Nat.le_of_ble_eq_true rfl) (fun J hC => ?_)
  have hC : z_Cx J l cJ1_indexOfChar_4cfef 6 wsJ1_indexOfChar_4cfef RJ1 (some .int) { frames := 0, cells := 0, slots := 0, locals := 0 } (dC, dI) (tyM ca) (wM ca q) (zM sk sv) (z_QI (dC, dI) (tyM ca) (wM ca q) (some r) g') z_X0 := hC
  show J 0 [(0, .ref (sv 5)), (1, .int a1), (2, .int a2), (3, .int a3)] [] g
  have hJ7 : ∀ (x3 : Int32) (x4 : Int32) (x5 : Int32) (g : z_G), fS_J1_indexOfChar_4cfef_B5_7_go x3 x4 x5 g = some (r, g') → J 7 [(0, .ref (sv 5)), (3, .int x3), (4, .int x4), (5, .int x5)] [] g := by
    intro x3 x4 x5 g hf
    refine z_loopE (P := fun w : Int32 × Int32 × Int32 × z_G => J 7 [(0, .ref (sv 5)), (3, .int w.1), (4, .int w.2.1), (5, .int w.2.2.1)] [] w.2.2.2) (fun k7 hk7 w hf => ?_) z_fuel (x3, x4, x5, g) hf
    obtain ⟨x3, x4, x5, g⟩ := w
    have hf : fS_J1_indexOfChar_4cfef_B5_7 k7 x3 x4 x5 g = some (r, g') := hf
    show J 7 [(0, .ref (sv 5)), (3, .int x3), (4, .int x4), (5, .int x5)] [] g
    unfold fS_J1_indexOfChar_4cfef_B5_7 at hf
    refine zj_iload 3 hC dJ1_indexOfChar_4cfef_7 rfl ?_
    refine zj_iload_n 1 hC dJ1_indexOfChar_4cfef_9 rfl ?_
    refine zj_icmp_ge 31 hC dJ1_indexOfChar_4cfef_10 (by decide) (fun c1 => ?_) (fun c1 => ?_)
    · have hf := z_iteT hf c1
      refine zj_iconst (v := (-1)) hC dJ1_indexOfChar_4cfef_31 (by decide) ?_
      exact zj_ireturn hC hf dJ1_indexOfChar_4cfef_32
    · have hf := z_iteF hf c1
      refine zj_aload_n 0 hC dJ1_indexOfChar_4cfef_13 rfl ?_
      refine zj_iload 3 hC dJ1_indexOfChar_4cfef_14 rfl ?_
      obtain ⟨hq2, hf⟩ := z_ckE hf
      refine zj_tb (f := kSTR 5) hC (fun A U H h => (h.2.1.1 5 (by decide)).2.2.2) hq2 dJ1_indexOfChar_4cfef_16 ?_
      refine zj_iload 2 hC dJ1_indexOfChar_4cfef_17 rfl ?_
      refine zj_icmp_ne 25 hC dJ1_indexOfChar_4cfef_19 (by decide) (fun c3 => ?_) (fun c3 => ?_)
      · have hf := z_iteF hf c3
        refine zj_iinc (lv1 := fun v => [(5, .int v), (0, .ref (sv 5)), (3, .int x3), (4, .int x4)]) 3 hC dJ1_indexOfChar_4cfef_25 rfl (by decide) (fun _ => rfl) (fun y4 ey4 => ?_)
        have hf := z_letE hf (show y4 = x5 + 1 from ey4)
        refine zj_goto 7 hC dJ1_indexOfChar_4cfef_28 (by decide) ?_
        exact zj_sub hC [1, 2, 3, 0] rfl (hk7 (x3, x4, y4, g) hf)
      · have hf := z_iteT hf c3
        refine zj_iload 3 hC dJ1_indexOfChar_4cfef_22 rfl ?_
        exact zj_ireturn hC hf dJ1_indexOfChar_4cfef_24
  unfold fS_J1_indexOfChar_4cfef_B5 at hf
  refine zj_iload_n 1 hC dJ1_indexOfChar_4cfef_0 rfl ?_
  refine zj_i2b hC dJ1_indexOfChar_4cfef_1 ?_
  refine zj_top (fun y5 ey5 => ?_)
  have hf := z_letE hf ey5
  refine zj_istore (lv1 := [(4, .int y5), (0, .ref (sv 5)), (1, .int a1), (2, .int a2), (3, .int a3)]) hC dJ1_indexOfChar_4cfef_2 (by decide) rfl ?_
  refine zj_iload_n 3 hC dJ1_indexOfChar_4cfef_4 rfl ?_
  refine zj_istore (lv1 := [(5, .int a2), (4, .int y5), (0, .ref (sv 5)), (1, .int a1), (2, .int a2), (3, .int a3)]) hC dJ1_indexOfChar_4cfef_5 (by decide) rfl ?_
  exact zj_sub hC [2, 5, 1, 0] rfl (hJ7 a3 y5 a2 g hf)

def fS_J1_indexOf_4cfef_B5 (a1 : Int32) (a2 : Int32) (a3 : Int32) (g : z_G) : Option (Int32 × z_G) := z_bind (fS_J1_canEncode_9a6ad a1 g) (fun r1 g2 => (if r1 = 0 then some ((-1), g2) else z_let (if a2 < 0 then 0 else a2) (fun y5 => z_let (if 4 < a3 then 4 else a3) (fun y6 => (if y5 < y6 then z_bind (fS_J1_indexOfChar_4cfef_B5 a1 y5 y6 g2) (fun r8 g9 => some (r8, g9)) else some ((-1), g2))))))
theorem nS_J1_indexOf_4cfef_B5 : yJ1_indexOf_4cfef.cls ≠ "java/lang/invoke/MethodHandle" ∧ yJ1_indexOf_4cfef.cls ≠ "java/lang/invoke/VarHandle" ∧ (parseMethodDescriptor yJ1_indexOf_4cfef.desc).map (fun d => d.parameters.length) = some 4 := by decide +kernel
set_option maxRecDepth 100000 in
set_option maxHeartbeats 4000000 in
theorem cS_J1_indexOf_4cfef_B5 (l : Launch) (dC : Nat → ClassId) (dI : Nat → Nat → Nat) (ca : Nat → ClassId) (q : Nat → Nat) (sk sv : Nat → Nat) (a1 : Int32) (a2 : Int32) (a3 : Int32) (g : z_G) (r : Int32) (g' : z_G) (hf : fS_J1_indexOf_4cfef_B5 a1 a2 a3 g = some (r, g')) : z_C l yJ1_indexOf_4cfef wsJ1_indexOf_4cfef { frames := 1, cells := 0, slots := 0, locals := 25 } (dC, dI) (tyM ca) (wM ca q) (zM sk sv) [.ref (sv 5), .int a1, .int a2, .int a3] g (some r) g' := by
  refine z_enter (wM_ok ca q) (zM_ok sk sv) (by decide +kernel) rfl (Nat.le_of_ble_eq_true rfl) (fun J hC => ?_)
  have hC : z_Cx J l cJ1_indexOf_4cfef 4 wsJ1_indexOf_4cfef RJ1 (some .int) { frames := 1, cells := 0, slots := 0, locals := 25 } (dC, dI) (tyM ca) (wM ca q) (zM sk sv) (z_QI (dC, dI) (tyM ca) (wM ca q) (some r) g') z_X0 := hC
  show J 0 [(0, .ref (sv 5)), (1, .int a1), (2, .int a2), (3, .int a3)] [] g
  unfold fS_J1_indexOf_4cfef_B5 at hf
  refine zj_iload_n 1 hC dJ1_indexOf_4cfef_0 rfl ?_
  obtain ⟨r1, g2, hq3, hf⟩ := z_bindE hf
  refine zj_callSi [.int a1] hC (cS_J1_canEncode_9a6ad l dC dI ca q sk sv a1 g r1 g2 hq3) gJ1_indexOf_4cfef_J1_canEncode_9a6ad rfl nS_J1_canEncode_9a6ad ⟨Nat.le_of_ble_eq_true rfl, Nat.le_of_ble_eq_true rfl⟩ rfl (Nat.le_of_ble_eq_true rfl) dJ1_indexOf_4cfef_1 rfl ?_
  refine zj_if_ne 9 hC dJ1_indexOf_4cfef_4 (by decide) (fun c4 => ?_) (fun c4 => ?_)
  · have hf := z_iteF hf c4
    refine zj_iload_n 2 hC dJ1_indexOf_4cfef_9 rfl ?_
    refine zj_iconst (v := 0) hC dJ1_indexOf_4cfef_10 (by decide) ?_
    refine zj_max hC (List.mem_of_getElem? (i := 1) rfl) (List.mem_of_getElem? (i := 2) rfl) (List.mem_of_getElem? (i := 3) rfl) (List.mem_of_getElem? (i := 4) rfl) (Nat.le_of_ble_eq_true rfl) (Nat.le_of_ble_eq_true rfl) dJ1_indexOf_4cfef_11 ?_
    refine zj_top (fun y5 ey5 => ?_)
    have hf := z_letE hf ey5
    refine zj_istore_n (lv1 := [(2, .int y5), (0, .ref (sv 5)), (1, .int a1), (3, .int a3)]) hC dJ1_indexOf_4cfef_14 (by decide) rfl ?_
    refine zj_iload_n 3 hC dJ1_indexOf_4cfef_15 rfl ?_
    refine zj_aload_n 1 hC dJ1_indexOf_4cfef_16 rfl ?_
    refine zj_tlen (v := 4) hC (fun A U H h => (h.2.1.1 5 (by decide)).2.2.2) rfl dJ1_indexOf_4cfef_17 ?_
    refine zj_min hC (List.mem_of_getElem? (i := 5) rfl) (List.mem_of_getElem? (i := 6) rfl) (List.mem_of_getElem? (i := 3) rfl) (List.mem_of_getElem? (i := 7) rfl) (Nat.le_of_ble_eq_true rfl) (Nat.le_of_ble_eq_true rfl) dJ1_indexOf_4cfef_18 ?_
    refine zj_top (fun y6 ey6 => ?_)
    have hf := z_letE hf ey6
    refine zj_istore_n (lv1 := [(3, .int y6), (2, .int y5), (0, .ref (sv 5)), (1, .int a1)]) hC dJ1_indexOf_4cfef_21 (by decide) rfl ?_
    refine zj_iload_n 1 hC dJ1_indexOf_4cfef_22 rfl ?_
    refine zj_iload_n 0 hC dJ1_indexOf_4cfef_23 rfl ?_
    refine zj_icmp_lt 29 hC dJ1_indexOf_4cfef_24 (by decide) (fun c7 => ?_) (fun c7 => ?_)
    · have hf := z_iteT hf c7
      refine zj_aload_n 2 hC dJ1_indexOf_4cfef_29 rfl ?_
      refine zj_iload_n 3 hC dJ1_indexOf_4cfef_30 rfl ?_
      refine zj_iload_n 1 hC dJ1_indexOf_4cfef_31 rfl ?_
      refine zj_iload_n 0 hC dJ1_indexOf_4cfef_32 rfl ?_
      obtain ⟨r8, g9, hq10, hf⟩ := z_bindE hf
      refine zj_callSi [.ref (sv 5), .int a1, .int y5, .int y6] hC (cS_J1_indexOfChar_4cfef_B5 l dC dI ca q sk sv a1 y5 y6 g2 r8 g9 hq10) gJ1_indexOf_4cfef_J1_indexOfChar_4cfef rfl nS_J1_indexOfChar_4cfef_B5 ⟨Nat.le_of_ble_eq_true rfl, Nat.le_of_ble_eq_true rfl⟩ rfl (Nat.le_of_ble_eq_true rfl) dJ1_indexOf_4cfef_33 rfl ?_
      exact zj_ireturn hC hf dJ1_indexOf_4cfef_36
    · have hf := z_iteF hf c7
      refine zj_iconst (v := (-1)) hC dJ1_indexOf_4cfef_27 (by decide) ?_
      exact zj_ireturn hC hf dJ1_indexOf_4cfef_28
  · have hf := z_iteT hf c4
    refine zj_iconst (v := (-1)) hC dJ1_indexOf_4cfef_7 (by decide) ?_
    exact zj_ireturn hC hf dJ1_indexOf_4cfef_8

def fS_J0_indexOf_7cf53_S5_36 (s0 : Int32) (g : z_G) : Option (Int32 × z_G) := some (s0, g)
def fS_J0_indexOf_7cf53_S5 (a0 : Int32) (a1 : Int32) (g : z_G) : Option (Int32 × z_G) := z_bind (fS_J0_isLatin1_aae02_S5 g) (fun r1 g2 => (if r1 = 0 then z_bind (fS_J0_length_8abf5_S5 g2) (fun r5 g6 => none) else z_bind (fS_J0_length_8abf5_S5 g2) (fun r8 g9 => z_bind (fS_J1_indexOf_4cfef_B5 a0 a1 r8 g9) (fun r11 g12 => fS_J0_indexOf_7cf53_S5_36 r11 g12))))
theorem nS_J0_indexOf_7cf53_S5 : yJ0_indexOf_7cf53.cls = RJ0 ∧ yJ0_indexOf_7cf53.cls ≠ "java/lang/invoke/MethodHandle" ∧ yJ0_indexOf_7cf53.cls ≠ "java/lang/invoke/VarHandle" ∧ (parseMethodDescriptor yJ0_indexOf_7cf53.desc).map (fun d => d.parameters.length) = some 2 := by decide +kernel
set_option maxRecDepth 100000 in
set_option maxHeartbeats 4000000 in
theorem cS_J0_indexOf_7cf53_S5 (l : Launch) (dC : Nat → ClassId) (dI : Nat → Nat → Nat) (ca : Nat → ClassId) (q : Nat → Nat) (sk sv : Nat → Nat) (a0 : Int32) (a1 : Int32) (g : z_G) (r : Int32) (g' : z_G) (hf : fS_J0_indexOf_7cf53_S5 a0 a1 g = some (r, g')) : z_C l yJ0_indexOf_7cf53 wsJ0_indexOf_7cf53 { frames := 2, cells := 0, slots := 0, locals := 48 } (dC, dI) (tyM ca) (wM ca q) (zM sk sv) [.ref (sk 5), .int a0, .int a1] g (some r) g' := by
  refine z_enter (wM_ok ca q) (zM_ok sk sv) (by decide +kernel) rfl (Nat.le_of_ble_eq_true rfl) (fun J hC => ?_)
  have hC : z_Cx J l cJ0_indexOf_7cf53 3 wsJ0_indexOf_7cf53 RJ0 (some .int) { frames := 2, cells := 0, slots := 0, locals := 48 } (dC, dI) (tyM ca) (wM ca q) (zM sk sv) (z_QI (dC, dI) (tyM ca) (wM ca q) (some r) g') z_X0 := hC
  show J 0 [(0, .ref (sk 5)), (1, .int a0), (2, .int a1)] [] g
  have hJ36 : ∀ (s0 : Int32) (g : z_G), fS_J0_indexOf_7cf53_S5_36 s0 g = some (r, g') → J 36 [] [.int s0] g := by
    intro s0 g hf
    unfold fS_J0_indexOf_7cf53_S5_36 at hf
    exact zj_ireturn hC hf dJ0_indexOf_7cf53_36
  unfold fS_J0_indexOf_7cf53_S5 at hf
  refine zj_aload_n 0 hC dJ0_indexOf_7cf53_0 rfl ?_
  obtain ⟨r1, g2, hq3, hf⟩ := z_bindE hf
  refine zj_callViS [] hC (cS_J0_isLatin1_aae02_S5 l dC dI ca q sk sv g r1 g2 hq3) gJ0_indexOf_7cf53_J0_isLatin1_aae02 rfl nS_J0_isLatin1_aae02_S5 ⟨Nat.le_of_ble_eq_true rfl, Nat.le_of_ble_eq_true rfl⟩ (fun A s H locs h hS => vk_recv h.2.1 (show 5 < 6 by decide) hS) rfl (Nat.le_of_ble_eq_true rfl) dJ0_indexOf_7cf53_1 rfl ?_
  refine zj_if_eq 23 hC dJ0_indexOf_7cf53_4 (by decide) (fun c4 => ?_) (fun c4 => ?_)
  · have hf := z_iteT hf c4
    refine zj_aload_n 0 hC dJ0_indexOf_7cf53_23 rfl ?_
    refine zj_vkget (o1 := "java/lang/String") (v := .ref (sv 5)) hC (fun A U H h => (h.2.1.1 5 (by decide)).2.2.1) (List.mem_of_getElem? (i := 1) rfl) rfl dJ0_indexOf_7cf53_24 ?_
    refine zj_iload_n 1 hC dJ0_indexOf_7cf53_27 rfl ?_
    refine zj_iload_n 2 hC dJ0_indexOf_7cf53_28 rfl ?_
    refine zj_aload_n 0 hC dJ0_indexOf_7cf53_29 rfl ?_
    obtain ⟨r5, g6, hq7, hf⟩ := z_bindE hf
    refine zj_callViS [] hC (cS_J0_length_8abf5_S5 l dC dI ca q sk sv g2 r5 g6 hq7) gJ0_indexOf_7cf53_J0_length_8abf5 rfl nS_J0_length_8abf5_S5 ⟨Nat.le_of_ble_eq_true rfl, Nat.le_of_ble_eq_true rfl⟩ (fun A s H locs h hS => vk_recv h.2.1 (show 5 < 6 by decide) hS) rfl (Nat.le_of_ble_eq_true rfl) dJ0_indexOf_7cf53_30 rfl ?_
    cases hf
  · have hf := z_iteF hf c4
    refine zj_aload_n 0 hC dJ0_indexOf_7cf53_7 rfl ?_
    refine zj_vkget (o1 := "java/lang/String") (v := .ref (sv 5)) hC (fun A U H h => (h.2.1.1 5 (by decide)).2.2.1) (List.mem_of_getElem? (i := 1) rfl) rfl dJ0_indexOf_7cf53_8 ?_
    refine zj_iload_n 1 hC dJ0_indexOf_7cf53_11 rfl ?_
    refine zj_iload_n 2 hC dJ0_indexOf_7cf53_12 rfl ?_
    refine zj_aload_n 0 hC dJ0_indexOf_7cf53_13 rfl ?_
    obtain ⟨r8, g9, hq10, hf⟩ := z_bindE hf
    refine zj_callViS [] hC (cS_J0_length_8abf5_S5 l dC dI ca q sk sv g2 r8 g9 hq10) gJ0_indexOf_7cf53_J0_length_8abf5 rfl nS_J0_length_8abf5_S5 ⟨Nat.le_of_ble_eq_true rfl, Nat.le_of_ble_eq_true rfl⟩ (fun A s H locs h hS => vk_recv h.2.1 (show 5 < 6 by decide) hS) rfl (Nat.le_of_ble_eq_true rfl) dJ0_indexOf_7cf53_14 rfl ?_
    obtain ⟨r11, g12, hq13, hf⟩ := z_bindE hf
    refine zj_callSi [.ref (sv 5), .int a0, .int a1, .int r8] hC (cS_J1_indexOf_4cfef_B5 l dC dI ca q sk sv a0 a1 r8 g9 r11 g12 hq13) gJ0_indexOf_7cf53_J1_indexOf_4cfef rfl nS_J1_indexOf_4cfef_B5 ⟨Nat.le_of_ble_eq_true rfl, Nat.le_of_ble_eq_true rfl⟩ rfl (Nat.le_of_ble_eq_true rfl) dJ0_indexOf_7cf53_17 rfl ?_
    refine zj_goto 36 hC dJ0_indexOf_7cf53_20 (by decide) ?_
    exact zj_sub hC [] rfl (hJ36 r11 g12 hf)

def fS_J0_indexOf_0f7a4_S5 (a0 : Int32) (g : z_G) : Option (Int32 × z_G) := z_bind (fS_J0_indexOf_7cf53_S5 a0 0 g) (fun r1 g2 => some (r1, g2))
theorem nS_J0_indexOf_0f7a4_S5 : yJ0_indexOf_0f7a4.cls = RJ0 ∧ yJ0_indexOf_0f7a4.cls ≠ "java/lang/invoke/MethodHandle" ∧ yJ0_indexOf_0f7a4.cls ≠ "java/lang/invoke/VarHandle" ∧ (parseMethodDescriptor yJ0_indexOf_0f7a4.desc).map (fun d => d.parameters.length) = some 1 := by decide +kernel
set_option maxRecDepth 100000 in
set_option maxHeartbeats 4000000 in
theorem cS_J0_indexOf_0f7a4_S5 (l : Launch) (dC : Nat → ClassId) (dI : Nat → Nat → Nat) (ca : Nat → ClassId) (q : Nat → Nat) (sk sv : Nat → Nat) (a0 : Int32) (g : z_G) (r : Int32) (g' : z_G) (hf : fS_J0_indexOf_0f7a4_S5 a0 g = some (r, g')) : z_C l yJ0_indexOf_0f7a4 wsJ0_indexOf_0f7a4 { frames := 3, cells := 0, slots := 0, locals := 70 } (dC, dI) (tyM ca) (wM ca q) (zM sk sv) [.ref (sk 5), .int a0] g (some r) g' := by
  refine z_enter (wM_ok ca q) (zM_ok sk sv) (by decide +kernel) rfl (Nat.le_of_ble_eq_true rfl) (fun J hC => ?_)
  have hC : z_Cx J l cJ0_indexOf_0f7a4 2 wsJ0_indexOf_0f7a4 RJ0 (some .int) { frames := 3, cells := 0, slots := 0, locals := 70 } (dC, dI) (tyM ca) (wM ca q) (zM sk sv) (z_QI (dC, dI) (tyM ca) (wM ca q) (some r) g') z_X0 := hC
  show J 0 [(0, .ref (sk 5)), (1, .int a0)] [] g
  unfold fS_J0_indexOf_0f7a4_S5 at hf
  refine zj_aload_n 0 hC dJ0_indexOf_0f7a4_0 rfl ?_
  refine zj_iload_n 1 hC dJ0_indexOf_0f7a4_1 rfl ?_
  refine zj_iconst (v := 0) hC dJ0_indexOf_0f7a4_2 (by decide) ?_
  obtain ⟨r1, g2, hq3, hf⟩ := z_bindE hf
  refine zj_callViS [.int a0, .int 0] hC (cS_J0_indexOf_7cf53_S5 l dC dI ca q sk sv a0 0 g r1 g2 hq3) gJ0_indexOf_0f7a4_J0_indexOf_7cf53 rfl nS_J0_indexOf_7cf53_S5 ⟨Nat.le_of_ble_eq_true rfl, Nat.le_of_ble_eq_true rfl⟩ (fun A s H locs h hS => vk_recv h.2.1 (show 5 < 6 by decide) hS) rfl (Nat.le_of_ble_eq_true rfl) dJ0_indexOf_0f7a4_3 rfl ?_
  exact zj_ireturn hC hf dJ0_indexOf_0f7a4_6

def fS_X8_isSign_S5_41 (s0 : Int32) (g : z_G) : Option (Int32 × z_G) := z_bo s0 (some (s0, g))
def fS_X8_isSign_S5_40  (g : z_G) : Option (Int32 × z_G) := fS_X8_isSign_S5_41 0 g
def fS_X8_isSign_S5 (a0 : Int32) (g : z_G) : Option (Int32 × z_G) := (if a0 ≤ (g 0 50) then fS_X8_isSign_S5_40 g else z_ck (g 0 50) 100 ((if (g 30 (Int32.toNatClampNeg (g 0 50))) ≤ 0 then fS_X8_isSign_S5_40 g else z_ck (g 0 50) 100 (z_bind (fS_J0_indexOf_0f7a4_S5 (g 30 (Int32.toNatClampNeg (g 0 50))) g) (fun r5 g6 => (if r5 < 0 then fS_X8_isSign_S5_40 g6 else fS_X8_isSign_S5_41 1 g6))))))
theorem nS_X8_isSign_S5 : yX8_isSign.cls = RX8 ∧ yX8_isSign.cls ≠ "java/lang/invoke/MethodHandle" ∧ yX8_isSign.cls ≠ "java/lang/invoke/VarHandle" ∧ (parseMethodDescriptor yX8_isSign.desc).map (fun d => d.parameters.length) = some 2 := by decide +kernel
set_option maxRecDepth 100000 in
set_option maxHeartbeats 4000000 in
theorem cS_X8_isSign_S5 (l : Launch) (dC : Nat → ClassId) (dI : Nat → Nat → Nat) (ca : Nat → ClassId) (q : Nat → Nat) (sk sv : Nat → Nat) (a0 : Int32) (g : z_G) (r : Int32) (g' : z_G) (hf : fS_X8_isSign_S5 a0 g = some (r, g')) : z_C l yX8_isSign wsX8_isSign { frames := 4, cells := 0, slots := 0, locals := 91 } (dC, dI) (tyM ca) (wM ca q) (zM sk sv) [.ref (q 0), .int a0, .ref (sk 5)] g (some r) g' := by
  refine z_enter (wM_ok ca q) (zM_ok sk sv) (by decide +kernel) rfl (Nat.le_of_ble_eq_true rfl) (fun J hC => ?_)
  have hC : z_Cx J l cX8_isSign 3 wsX8_isSign RX8 (some .boolean) { frames := 4, cells := 0, slots := 0, locals := 91 } (dC, dI) (tyM ca) (wM ca q) (zM sk sv) (z_QI (dC, dI) (tyM ca) (wM ca q) (some r) g') z_X0 := hC
  show J 0 [(0, .ref (q 0)), (1, .int a0), (2, .ref (sk 5))] [] g
  have hX8 : ∀ w ∈ wsX80, w ∈ wsX8_isSign := fun _ h => List.mem_cons_of_mem _ (List.mem_append_right _ (h))
  have hJ41 : ∀ (s0 : Int32) (g : z_G), fS_X8_isSign_S5_41 s0 g = some (r, g') → J 41 [] [.int s0] g := by
    intro s0 g hf
    unfold fS_X8_isSign_S5_41 at hf
    exact zj_zreturn hC hf dX8_isSign_41
  have hJ40 : ∀ (g : z_G), fS_X8_isSign_S5_40 g = some (r, g') → J 40 [] [] g := by
    intro g hf
    unfold fS_X8_isSign_S5_40 at hf
    refine zj_iconst (v := 0) hC dX8_isSign_40 (by decide) ?_
    exact (hJ41 0 g hf)
  unfold fS_X8_isSign_S5 at hf
  refine zj_aload_n 0 hC dX8_isSign_0 rfl ?_
  refine mg_0_50 hC hX8 (List.mem_of_getElem? (i := 1) rfl) dX8_isSign_1 ?_
  refine zj_iload_n 1 hC dX8_isSign_4 rfl ?_
  refine zj_icmp_ge 40 hC dX8_isSign_5 (by decide) (fun c1 => ?_) (fun c1 => ?_)
  · have hf := z_iteT hf c1
    exact zj_sub hC [] rfl (hJ40 g hf)
  · have hf := z_iteF hf c1
    refine zj_aload_n 0 hC dX8_isSign_8 rfl ?_
    refine mg_0_40 hC hX8 (List.mem_of_getElem? (i := 2) rfl) dX8_isSign_9 ?_
    refine zj_aload_n 0 hC dX8_isSign_12 rfl ?_
    refine mg_0_50 hC hX8 (List.mem_of_getElem? (i := 1) rfl) dX8_isSign_13 ?_
    obtain ⟨hq2, hf⟩ := z_ckE hf
    refine ma_30 hC hq2 dX8_isSign_16 ?_
    refine zj_if_le 40 hC dX8_isSign_17 (by decide) (fun c3 => ?_) (fun c3 => ?_)
    · have hf := z_iteT hf c3
      exact zj_sub hC [] rfl (hJ40 g hf)
    · have hf := z_iteF hf c3
      refine zj_aload_n 2 hC dX8_isSign_20 rfl ?_
      refine zj_aload_n 0 hC dX8_isSign_21 rfl ?_
      refine mg_0_40 hC hX8 (List.mem_of_getElem? (i := 2) rfl) dX8_isSign_22 ?_
      refine zj_aload_n 0 hC dX8_isSign_25 rfl ?_
      refine mg_0_50 hC hX8 (List.mem_of_getElem? (i := 1) rfl) dX8_isSign_26 ?_
      obtain ⟨hq4, hf⟩ := z_ckE hf
      refine ma_30 hC hq4 dX8_isSign_29 ?_
      obtain ⟨r5, g6, hq7, hf⟩ := z_bindE hf
      refine zj_callViS [.int (g 30 (Int32.toNatClampNeg (g 0 50)))] hC (cS_J0_indexOf_0f7a4_S5 l dC dI ca q sk sv (g 30 (Int32.toNatClampNeg (g 0 50))) g r5 g6 hq7) gX8_isSign_J0_indexOf_0f7a4 rfl nS_J0_indexOf_0f7a4_S5 ⟨Nat.le_of_ble_eq_true rfl, Nat.le_of_ble_eq_true rfl⟩ (fun A s H locs h hS => vk_recv h.2.1 (show 5 < 6 by decide) hS) rfl (Nat.le_of_ble_eq_true rfl) dX8_isSign_30 rfl ?_
      refine zj_if_lt 40 hC dX8_isSign_33 (by decide) (fun c8 => ?_) (fun c8 => ?_)
      · have hf := z_iteT hf c8
        exact zj_sub hC [] rfl (hJ40 g6 hf)
      · have hf := z_iteF hf c8
        refine zj_iconst (v := 1) hC dX8_isSign_36 (by decide) ?_
        refine zj_goto 41 hC dX8_isSign_37 (by decide) ?_
        exact zj_sub hC [] rfl (hJ41 1 g6 hf)

def fS_J0_isLatin1_aae02_S1_18 (s0 : Int32) (g : z_G) : Option (Int32 × z_G) := z_bo s0 (some (s0, g))
def fS_J0_isLatin1_aae02_S1_17  (g : z_G) : Option (Int32 × z_G) := fS_J0_isLatin1_aae02_S1_18 0 g
def fS_J0_isLatin1_aae02_S1 (g : z_G) : Option (Int32 × z_G) := (if (1 : Int32) = 0 then fS_J0_isLatin1_aae02_S1_17 g else (if (0 : Int32) = 0 then fS_J0_isLatin1_aae02_S1_18 1 g else fS_J0_isLatin1_aae02_S1_17 g))
theorem nS_J0_isLatin1_aae02_S1 : yJ0_isLatin1_aae02.cls = RJ0 ∧ yJ0_isLatin1_aae02.cls ≠ "java/lang/invoke/MethodHandle" ∧ yJ0_isLatin1_aae02.cls ≠ "java/lang/invoke/VarHandle" ∧ (parseMethodDescriptor yJ0_isLatin1_aae02.desc).map (fun d => d.parameters.length) = some 0 := by decide +kernel
set_option maxRecDepth 100000 in
set_option maxHeartbeats 4000000 in
theorem cS_J0_isLatin1_aae02_S1 (l : Launch) (dC : Nat → ClassId) (dI : Nat → Nat → Nat) (ca : Nat → ClassId) (q : Nat → Nat) (sk sv : Nat → Nat) (g : z_G) (r : Int32) (g' : z_G) (hf : fS_J0_isLatin1_aae02_S1 g = some (r, g')) : z_C l yJ0_isLatin1_aae02 wsJ0_isLatin1_aae02 { frames := 0, cells := 0, slots := 0, locals := 0 } (dC, dI) (tyM ca) (wM ca q) (zM sk sv) [.ref (sk 1)] g (some r) g' := by
  refine z_enter (wM_ok ca q) (zM_ok sk sv) (by decide +kernel) rfl (Nat.le_of_ble_eq_true rfl) (fun J hC => ?_)
  have hC : z_Cx J l cJ0_isLatin1_aae02 1 wsJ0_isLatin1_aae02 RJ0 (some .boolean) { frames := 0, cells := 0, slots := 0, locals := 0 } (dC, dI) (tyM ca) (wM ca q) (zM sk sv) (z_QI (dC, dI) (tyM ca) (wM ca q) (some r) g') z_X0 := hC
  show J 0 [(0, .ref (sk 1))] [] g
  have hJ18 : ∀ (s0 : Int32) (g : z_G), fS_J0_isLatin1_aae02_S1_18 s0 g = some (r, g') → J 18 [] [.int s0] g := by
    intro s0 g hf
    unfold fS_J0_isLatin1_aae02_S1_18 at hf
    exact zj_zreturn hC hf dJ0_isLatin1_aae02_18
  have hJ17 : ∀ (g : z_G), fS_J0_isLatin1_aae02_S1_17 g = some (r, g') → J 17 [] [] g := by
    intro g hf
    unfold fS_J0_isLatin1_aae02_S1_17 at hf
    refine zj_iconst (v := 0) hC dJ0_isLatin1_aae02_17 (by decide) ?_
    exact (hJ18 0 g hf)
  unfold fS_J0_isLatin1_aae02_S1 at hf
  refine zj_gets (C := "java/lang/String") (v := .int 1) hC (fun A U H h => h.1) (List.mem_of_getElem? (i := 1) rfl) rfl dJ0_isLatin1_aae02_0 ?_
  refine zj_if_eq 17 hC dJ0_isLatin1_aae02_3 (by decide) (fun c1 => ?_) (fun c1 => ?_)
  · have hf := z_iteT hf c1
    exact zj_sub hC [] rfl (hJ17 g hf)
  · have hf := z_iteF hf c1
    refine zj_aload_n 0 hC dJ0_isLatin1_aae02_6 rfl ?_
    refine zj_vkget (o1 := "java/lang/String") (v := .int 0) hC (fun A U H h => (h.2.1.1 1 (by decide)).2.1) (List.mem_of_getElem? (i := 2) rfl) rfl dJ0_isLatin1_aae02_7 ?_
    refine zj_if_ne 17 hC dJ0_isLatin1_aae02_10 (by decide) (fun c2 => ?_) (fun c2 => ?_)
    · have hf := z_iteF hf c2
      exact zj_sub hC [] rfl (hJ17 g hf)
    · have hf := z_iteT hf c2
      refine zj_iconst (v := 1) hC dJ0_isLatin1_aae02_13 (by decide) ?_
      refine zj_goto 18 hC dJ0_isLatin1_aae02_14 (by decide) ?_
      exact zj_sub hC [] rfl (hJ18 1 g hf)

def fS_J0_coder_7d493_S1_14 (s0 : Int32) (g : z_G) : Option (Int32 × z_G) := z_bo s0 (some (s0, g))
def fS_J0_coder_7d493_S1 (g : z_G) : Option (Int32 × z_G) := (if (1 : Int32) = 0 then fS_J0_coder_7d493_S1_14 1 g else fS_J0_coder_7d493_S1_14 0 g)
theorem nS_J0_coder_7d493_S1 : yJ0_coder_7d493.cls = RJ0 ∧ yJ0_coder_7d493.cls ≠ "java/lang/invoke/MethodHandle" ∧ yJ0_coder_7d493.cls ≠ "java/lang/invoke/VarHandle" ∧ (parseMethodDescriptor yJ0_coder_7d493.desc).map (fun d => d.parameters.length) = some 0 := by decide +kernel
set_option maxRecDepth 100000 in
set_option maxHeartbeats 4000000 in
theorem cS_J0_coder_7d493_S1 (l : Launch) (dC : Nat → ClassId) (dI : Nat → Nat → Nat) (ca : Nat → ClassId) (q : Nat → Nat) (sk sv : Nat → Nat) (g : z_G) (r : Int32) (g' : z_G) (hf : fS_J0_coder_7d493_S1 g = some (r, g')) : z_C l yJ0_coder_7d493 wsJ0_coder_7d493 { frames := 0, cells := 0, slots := 0, locals := 0 } (dC, dI) (tyM ca) (wM ca q) (zM sk sv) [.ref (sk 1)] g (some r) g' := by
  refine z_enter (wM_ok ca q) (zM_ok sk sv) (by decide +kernel) rfl (Nat.le_of_ble_eq_true rfl) (fun J hC => ?_)
  have hC : z_Cx J l cJ0_coder_7d493 1 wsJ0_coder_7d493 RJ0 (some .byte) { frames := 0, cells := 0, slots := 0, locals := 0 } (dC, dI) (tyM ca) (wM ca q) (zM sk sv) (z_QI (dC, dI) (tyM ca) (wM ca q) (some r) g') z_X0 := hC
  show J 0 [(0, .ref (sk 1))] [] g
  have hJ14 : ∀ (s0 : Int32) (g : z_G), fS_J0_coder_7d493_S1_14 s0 g = some (r, g') → J 14 [] [.int s0] g := by
    intro s0 g hf
    unfold fS_J0_coder_7d493_S1_14 at hf
    exact zj_breturn hC hf dJ0_coder_7d493_14
  unfold fS_J0_coder_7d493_S1 at hf
  refine zj_gets (C := "java/lang/String") (v := .int 1) hC (fun A U H h => h.1) (List.mem_of_getElem? (i := 1) rfl) rfl dJ0_coder_7d493_0 ?_
  refine zj_if_eq 13 hC dJ0_coder_7d493_3 (by decide) (fun c1 => ?_) (fun c1 => ?_)
  · have hf := z_iteT hf c1
    refine zj_iconst (v := 1) hC dJ0_coder_7d493_13 (by decide) ?_
    exact zj_sub hC [] rfl (hJ14 1 g hf)
  · have hf := z_iteF hf c1
    refine zj_aload_n 0 hC dJ0_coder_7d493_6 rfl ?_
    refine zj_vkget (o1 := "java/lang/String") (v := .int 0) hC (fun A U H h => (h.2.1.1 1 (by decide)).2.1) (List.mem_of_getElem? (i := 2) rfl) rfl dJ0_coder_7d493_7 ?_
    refine zj_goto 14 hC dJ0_coder_7d493_10 (by decide) ?_
    exact zj_sub hC [] rfl (hJ14 0 g hf)

def fS_J0_length_8abf5_S1 (g : z_G) : Option (Int32 × z_G) := z_bind (fS_J0_coder_7d493_S1 g) (fun r1 g2 => some (7 >>> (r1 &&& 31), g2))
theorem nS_J0_length_8abf5_S1 : yJ0_length_8abf5.cls = RJ0 ∧ yJ0_length_8abf5.cls ≠ "java/lang/invoke/MethodHandle" ∧ yJ0_length_8abf5.cls ≠ "java/lang/invoke/VarHandle" ∧ (parseMethodDescriptor yJ0_length_8abf5.desc).map (fun d => d.parameters.length) = some 0 := by decide +kernel
set_option maxRecDepth 100000 in
set_option maxHeartbeats 4000000 in
theorem cS_J0_length_8abf5_S1 (l : Launch) (dC : Nat → ClassId) (dI : Nat → Nat → Nat) (ca : Nat → ClassId) (q : Nat → Nat) (sk sv : Nat → Nat) (g : z_G) (r : Int32) (g' : z_G) (hf : fS_J0_length_8abf5_S1 g = some (r, g')) : z_C l yJ0_length_8abf5 wsJ0_length_8abf5 { frames := 1, cells := 0, slots := 0, locals := 20 } (dC, dI) (tyM ca) (wM ca q) (zM sk sv) [.ref (sk 1)] g (some r) g' := by
  refine z_enter (wM_ok ca q) (zM_ok sk sv) (by decide +kernel) rfl (Nat.le_of_ble_eq_true rfl) (fun J hC => ?_)
  have hC : z_Cx J l cJ0_length_8abf5 1 wsJ0_length_8abf5 RJ0 (some .int) { frames := 1, cells := 0, slots := 0, locals := 20 } (dC, dI) (tyM ca) (wM ca q) (zM sk sv) (z_QI (dC, dI) (tyM ca) (wM ca q) (some r) g') z_X0 := hC
  show J 0 [(0, .ref (sk 1))] [] g
  unfold fS_J0_length_8abf5_S1 at hf
  refine zj_aload_n 0 hC dJ0_length_8abf5_0 rfl ?_
  refine zj_vkget (o1 := "java/lang/String") (v := .ref (sv 1)) hC (fun A U H h => (h.2.1.1 1 (by decide)).2.2.1) (List.mem_of_getElem? (i := 1) rfl) rfl dJ0_length_8abf5_1 ?_
  refine zj_tlen (v := 7) hC (fun A U H h => (h.2.1.1 1 (by decide)).2.2.2) rfl dJ0_length_8abf5_4 ?_
  refine zj_aload_n 0 hC dJ0_length_8abf5_5 rfl ?_
  obtain ⟨r1, g2, hq3, hf⟩ := z_bindE hf
  refine zj_callViS [] hC (cS_J0_coder_7d493_S1 l dC dI ca q sk sv g r1 g2 hq3) gJ0_length_8abf5_J0_coder_7d493 rfl nS_J0_coder_7d493_S1 ⟨Nat.le_of_ble_eq_true rfl, Nat.le_of_ble_eq_true rfl⟩ (fun A s H locs h hS => vk_recv h.2.1 (show 1 < 6 by decide) hS) rfl (Nat.le_of_ble_eq_true rfl) dJ0_length_8abf5_6 rfl ?_
  refine zj_ishr hC dJ0_length_8abf5_9 ?_
  exact zj_ireturn hC hf dJ0_length_8abf5_10

def fS_J1_indexOfChar_4cfef_B1_7 (k7 : Int32 × Int32 × Int32 × z_G → Option (Int32 × z_G)) (x3 : Int32) (x4 : Int32) (x5 : Int32) (g : z_G) : Option (Int32 × z_G) := (if x3 ≤ x5 then some ((-1), g) else z_ck x5 7 ((if (kSTR 1 (Int32.toNatClampNeg x5)) = x4 then some (x5, g) else z_let (x5 + 1) (fun y4 => k7 (x3, x4, y4, g)))))
def fS_J1_indexOfChar_4cfef_B1_7_go (x3 : Int32) (x4 : Int32) (x5 : Int32) (g : z_G) : Option (Int32 × z_G) := z_loop (fun k (w : Int32 × Int32 × Int32 × z_G) => fS_J1_indexOfChar_4cfef_B1_7 k w.1 w.2.1 w.2.2.1 w.2.2.2) z_fuel (x3, x4, x5, g)
def fS_J1_indexOfChar_4cfef_B1 (a1 : Int32) (a2 : Int32) (a3 : Int32) (g : z_G) : Option (Int32 × z_G) := z_let ((a1 : Int32).toInt8.toInt32) (fun y5 => fS_J1_indexOfChar_4cfef_B1_7_go a3 y5 a2 g)
theorem nS_J1_indexOfChar_4cfef_B1 : yJ1_indexOfChar_4cfef.cls ≠ "java/lang/invoke/MethodHandle" ∧ yJ1_indexOfChar_4cfef.cls ≠ "java/lang/invoke/VarHandle" ∧ (parseMethodDescriptor yJ1_indexOfChar_4cfef.desc).map (fun d => d.parameters.length) = some 4 := by decide +kernel
set_option maxRecDepth 100000 in
set_option maxHeartbeats 4000000 in
theorem cS_J1_indexOfChar_4cfef_B1 (l : Launch) (dC : Nat → ClassId) (dI : Nat → Nat → Nat) (ca : Nat → ClassId) (q : Nat → Nat) (sk sv : Nat → Nat) (a1 : Int32) (a2 : Int32) (a3 : Int32) (g : z_G) (r : Int32) (g' : z_G) (hf : fS_J1_indexOfChar_4cfef_B1 a1 a2 a3 g = some (r, g')) : z_C l yJ1_indexOfChar_4cfef wsJ1_indexOfChar_4cfef { frames := 0, cells := 0, slots := 0, locals := 0 } (dC, dI) (tyM ca) (wM ca q) (zM sk sv) [.ref (sv 1), .int a1, .int a2, .int a3] g (some r) g' := by
  refine z_enter (wM_ok ca q) (zM_ok sk sv) (by decide +kernel) rfl (Nat.le_of_ble_eq_true rfl) (fun J hC => ?_)
  have hC : z_Cx J l cJ1_indexOfChar_4cfef 6 wsJ1_indexOfChar_4cfef RJ1 (some .int) { frames := 0, cells := 0, slots := 0, locals := 0 } (dC, dI) (tyM ca) (wM ca q) (zM sk sv) (z_QI (dC, dI) (tyM ca) (wM ca q) (some r) g') z_X0 := hC
  show J 0 [(0, .ref (sv 1)), (1, .int a1), (2, .int a2), (3, .int a3)] [] g
  have hJ7 : ∀ (x3 : Int32) (x4 : Int32) (x5 : Int32) (g : z_G), fS_J1_indexOfChar_4cfef_B1_7_go x3 x4 x5 g = some (r, g') → J 7 [(0, .ref (sv 1)), (3, .int x3), (4, .int x4), (5, .int x5)] [] g := by
    intro x3 x4 x5 g hf
    refine z_loopE (P := fun w : Int32 × Int32 × Int32 × z_G => J 7 [(0, .ref (sv 1)), (3, .int w.1), (4, .int w.2.1), (5, .int w.2.2.1)] [] w.2.2.2) (fun k7 hk7 w hf => ?_) z_fuel (x3, x4, x5, g) hf
    obtain ⟨x3, x4, x5, g⟩ := w
    have hf : fS_J1_indexOfChar_4cfef_B1_7 k7 x3 x4 x5 g = some (r, g') := hf
    show J 7 [(0, .ref (sv 1)), (3, .int x3), (4, .int x4), (5, .int x5)] [] g
    unfold fS_J1_indexOfChar_4cfef_B1_7 at hf
    refine zj_iload 3 hC dJ1_indexOfChar_4cfef_7 rfl ?_
    refine zj_iload_n 1 hC dJ1_indexOfChar_4cfef_9 rfl ?_
    refine zj_icmp_ge 31 hC dJ1_indexOfChar_4cfef_10 (by decide) (fun c1 => ?_) (fun c1 => ?_)
    · have hf := z_iteT hf c1
      refine zj_iconst (v := (-1)) hC dJ1_indexOfChar_4cfef_31 (by decide) ?_
      exact zj_ireturn hC hf dJ1_indexOfChar_4cfef_32
    · have hf := z_iteF hf c1
      refine zj_aload_n 0 hC dJ1_indexOfChar_4cfef_13 rfl ?_
      refine zj_iload 3 hC dJ1_indexOfChar_4cfef_14 rfl ?_
      obtain ⟨hq2, hf⟩ := z_ckE hf
      refine zj_tb (f := kSTR 1) hC (fun A U H h => (h.2.1.1 1 (by decide)).2.2.2) hq2 dJ1_indexOfChar_4cfef_16 ?_
      refine zj_iload 2 hC dJ1_indexOfChar_4cfef_17 rfl ?_
      refine zj_icmp_ne 25 hC dJ1_indexOfChar_4cfef_19 (by decide) (fun c3 => ?_) (fun c3 => ?_)
      · have hf := z_iteF hf c3
        refine zj_iinc (lv1 := fun v => [(5, .int v), (0, .ref (sv 1)), (3, .int x3), (4, .int x4)]) 3 hC dJ1_indexOfChar_4cfef_25 rfl (by decide) (fun _ => rfl) (fun y4 ey4 => ?_)
        have hf := z_letE hf (show y4 = x5 + 1 from ey4)
        refine zj_goto 7 hC dJ1_indexOfChar_4cfef_28 (by decide) ?_
        exact zj_sub hC [1, 2, 3, 0] rfl (hk7 (x3, x4, y4, g) hf)
      · have hf := z_iteT hf c3
        refine zj_iload 3 hC dJ1_indexOfChar_4cfef_22 rfl ?_
        exact zj_ireturn hC hf dJ1_indexOfChar_4cfef_24
  unfold fS_J1_indexOfChar_4cfef_B1 at hf
  refine zj_iload_n 1 hC dJ1_indexOfChar_4cfef_0 rfl ?_
  refine zj_i2b hC dJ1_indexOfChar_4cfef_1 ?_
  refine zj_top (fun y5 ey5 => ?_)
  have hf := z_letE hf ey5
  refine zj_istore (lv1 := [(4, .int y5), (0, .ref (sv 1)), (1, .int a1), (2, .int a2), (3, .int a3)]) hC dJ1_indexOfChar_4cfef_2 (by decide) rfl ?_
  refine zj_iload_n 3 hC dJ1_indexOfChar_4cfef_4 rfl ?_
  refine zj_istore (lv1 := [(5, .int a2), (4, .int y5), (0, .ref (sv 1)), (1, .int a1), (2, .int a2), (3, .int a3)]) hC dJ1_indexOfChar_4cfef_5 (by decide) rfl ?_
  exact zj_sub hC [2, 5, 1, 0] rfl (hJ7 a3 y5 a2 g hf)

def fS_J1_indexOf_4cfef_B1 (a1 : Int32) (a2 : Int32) (a3 : Int32) (g : z_G) : Option (Int32 × z_G) := z_bind (fS_J1_canEncode_9a6ad a1 g) (fun r1 g2 => (if r1 = 0 then some ((-1), g2) else z_let (if a2 < 0 then 0 else a2) (fun y5 => z_let (if 7 < a3 then 7 else a3) (fun y6 => (if y5 < y6 then z_bind (fS_J1_indexOfChar_4cfef_B1 a1 y5 y6 g2) (fun r8 g9 => some (r8, g9)) else some ((-1), g2))))))
theorem nS_J1_indexOf_4cfef_B1 : yJ1_indexOf_4cfef.cls ≠ "java/lang/invoke/MethodHandle" ∧ yJ1_indexOf_4cfef.cls ≠ "java/lang/invoke/VarHandle" ∧ (parseMethodDescriptor yJ1_indexOf_4cfef.desc).map (fun d => d.parameters.length) = some 4 := by decide +kernel
set_option maxRecDepth 100000 in
set_option maxHeartbeats 4000000 in
theorem cS_J1_indexOf_4cfef_B1 (l : Launch) (dC : Nat → ClassId) (dI : Nat → Nat → Nat) (ca : Nat → ClassId) (q : Nat → Nat) (sk sv : Nat → Nat) (a1 : Int32) (a2 : Int32) (a3 : Int32) (g : z_G) (r : Int32) (g' : z_G) (hf : fS_J1_indexOf_4cfef_B1 a1 a2 a3 g = some (r, g')) : z_C l yJ1_indexOf_4cfef wsJ1_indexOf_4cfef { frames := 1, cells := 0, slots := 0, locals := 25 } (dC, dI) (tyM ca) (wM ca q) (zM sk sv) [.ref (sv 1), .int a1, .int a2, .int a3] g (some r) g' := by
  refine z_enter (wM_ok ca q) (zM_ok sk sv) (by decide +kernel) rfl (Nat.le_of_ble_eq_true rfl) (fun J hC => ?_)
  have hC : z_Cx J l cJ1_indexOf_4cfef 4 wsJ1_indexOf_4cfef RJ1 (some .int) { frames := 1, cells := 0, slots := 0, locals := 25 } (dC, dI) (tyM ca) (wM ca q) (zM sk sv) (z_QI (dC, dI) (tyM ca) (wM ca q) (some r) g') z_X0 := hC
  show J 0 [(0, .ref (sv 1)), (1, .int a1), (2, .int a2), (3, .int a3)] [] g
  unfold fS_J1_indexOf_4cfef_B1 at hf
  refine zj_iload_n 1 hC dJ1_indexOf_4cfef_0 rfl ?_
  obtain ⟨r1, g2, hq3, hf⟩ := z_bindE hf
  refine zj_callSi [.int a1] hC (cS_J1_canEncode_9a6ad l dC dI ca q sk sv a1 g r1 g2 hq3) gJ1_indexOf_4cfef_J1_canEncode_9a6ad rfl nS_J1_canEncode_9a6ad ⟨Nat.le_of_ble_eq_true rfl, Nat.le_of_ble_eq_true rfl⟩ rfl (Nat.le_of_ble_eq_true rfl) dJ1_indexOf_4cfef_1 rfl ?_
  refine zj_if_ne 9 hC dJ1_indexOf_4cfef_4 (by decide) (fun c4 => ?_) (fun c4 => ?_)
  · have hf := z_iteF hf c4
    refine zj_iload_n 2 hC dJ1_indexOf_4cfef_9 rfl ?_
    refine zj_iconst (v := 0) hC dJ1_indexOf_4cfef_10 (by decide) ?_
    refine zj_max hC (List.mem_of_getElem? (i := 1) rfl) (List.mem_of_getElem? (i := 2) rfl) (List.mem_of_getElem? (i := 3) rfl) (List.mem_of_getElem? (i := 4) rfl) (Nat.le_of_ble_eq_true rfl) (Nat.le_of_ble_eq_true rfl) dJ1_indexOf_4cfef_11 ?_
    refine zj_top (fun y5 ey5 => ?_)
    have hf := z_letE hf ey5
    refine zj_istore_n (lv1 := [(2, .int y5), (0, .ref (sv 1)), (1, .int a1), (3, .int a3)]) hC dJ1_indexOf_4cfef_14 (by decide) rfl ?_
    refine zj_iload_n 3 hC dJ1_indexOf_4cfef_15 rfl ?_
    refine zj_aload_n 1 hC dJ1_indexOf_4cfef_16 rfl ?_
    refine zj_tlen (v := 7) hC (fun A U H h => (h.2.1.1 1 (by decide)).2.2.2) rfl dJ1_indexOf_4cfef_17 ?_
    refine zj_min hC (List.mem_of_getElem? (i := 5) rfl) (List.mem_of_getElem? (i := 6) rfl) (List.mem_of_getElem? (i := 3) rfl) (List.mem_of_getElem? (i := 7) rfl) (Nat.le_of_ble_eq_true rfl) (Nat.le_of_ble_eq_true rfl) dJ1_indexOf_4cfef_18 ?_
    refine zj_top (fun y6 ey6 => ?_)
    have hf := z_letE hf ey6
    refine zj_istore_n (lv1 := [(3, .int y6), (2, .int y5), (0, .ref (sv 1)), (1, .int a1)]) hC dJ1_indexOf_4cfef_21 (by decide) rfl ?_
    refine zj_iload_n 1 hC dJ1_indexOf_4cfef_22 rfl ?_
    refine zj_iload_n 0 hC dJ1_indexOf_4cfef_23 rfl ?_
    refine zj_icmp_lt 29 hC dJ1_indexOf_4cfef_24 (by decide) (fun c7 => ?_) (fun c7 => ?_)
    · have hf := z_iteT hf c7
      refine zj_aload_n 2 hC dJ1_indexOf_4cfef_29 rfl ?_
      refine zj_iload_n 3 hC dJ1_indexOf_4cfef_30 rfl ?_
      refine zj_iload_n 1 hC dJ1_indexOf_4cfef_31 rfl ?_
      refine zj_iload_n 0 hC dJ1_indexOf_4cfef_32 rfl ?_
      obtain ⟨r8, g9, hq10, hf⟩ := z_bindE hf
      refine zj_callSi [.ref (sv 1), .int a1, .int y5, .int y6] hC (cS_J1_indexOfChar_4cfef_B1 l dC dI ca q sk sv a1 y5 y6 g2 r8 g9 hq10) gJ1_indexOf_4cfef_J1_indexOfChar_4cfef rfl nS_J1_indexOfChar_4cfef_B1 ⟨Nat.le_of_ble_eq_true rfl, Nat.le_of_ble_eq_true rfl⟩ rfl (Nat.le_of_ble_eq_true rfl) dJ1_indexOf_4cfef_33 rfl ?_
      exact zj_ireturn hC hf dJ1_indexOf_4cfef_36
    · have hf := z_iteF hf c7
      refine zj_iconst (v := (-1)) hC dJ1_indexOf_4cfef_27 (by decide) ?_
      exact zj_ireturn hC hf dJ1_indexOf_4cfef_28
  · have hf := z_iteT hf c4
    refine zj_iconst (v := (-1)) hC dJ1_indexOf_4cfef_7 (by decide) ?_
    exact zj_ireturn hC hf dJ1_indexOf_4cfef_8

def fS_J0_indexOf_7cf53_S1_36 (s0 : Int32) (g : z_G) : Option (Int32 × z_G) := some (s0, g)
def fS_J0_indexOf_7cf53_S1 (a0 : Int32) (a1 : Int32) (g : z_G) : Option (Int32 × z_G) := z_bind (fS_J0_isLatin1_aae02_S1 g) (fun r1 g2 => (if r1 = 0 then z_bind (fS_J0_length_8abf5_S1 g2) (fun r5 g6 => none) else z_bind (fS_J0_length_8abf5_S1 g2) (fun r8 g9 => z_bind (fS_J1_indexOf_4cfef_B1 a0 a1 r8 g9) (fun r11 g12 => fS_J0_indexOf_7cf53_S1_36 r11 g12))))
theorem nS_J0_indexOf_7cf53_S1 : yJ0_indexOf_7cf53.cls = RJ0 ∧ yJ0_indexOf_7cf53.cls ≠ "java/lang/invoke/MethodHandle" ∧ yJ0_indexOf_7cf53.cls ≠ "java/lang/invoke/VarHandle" ∧ (parseMethodDescriptor yJ0_indexOf_7cf53.desc).map (fun d => d.parameters.length) = some 2 := by decide +kernel
set_option maxRecDepth 100000 in
set_option maxHeartbeats 4000000 in
theorem cS_J0_indexOf_7cf53_S1 (l : Launch) (dC : Nat → ClassId) (dI : Nat → Nat → Nat) (ca : Nat → ClassId) (q : Nat → Nat) (sk sv : Nat → Nat) (a0 : Int32) (a1 : Int32) (g : z_G) (r : Int32) (g' : z_G) (hf : fS_J0_indexOf_7cf53_S1 a0 a1 g = some (r, g')) : z_C l yJ0_indexOf_7cf53 wsJ0_indexOf_7cf53 { frames := 2, cells := 0, slots := 0, locals := 48 } (dC, dI) (tyM ca) (wM ca q) (zM sk sv) [.ref (sk 1), .int a0, .int a1] g (some r) g' := by
  refine z_enter (wM_ok ca q) (zM_ok sk sv) (by decide +kernel) rfl (Nat.le_of_ble_eq_true rfl) (fun J hC => ?_)
  have hC : z_Cx J l cJ0_indexOf_7cf53 3 wsJ0_indexOf_7cf53 RJ0 (some .int) { frames := 2, cells := 0, slots := 0, locals := 48 } (dC, dI) (tyM ca) (wM ca q) (zM sk sv) (z_QI (dC, dI) (tyM ca) (wM ca q) (some r) g') z_X0 := hC
  show J 0 [(0, .ref (sk 1)), (1, .int a0), (2, .int a1)] [] g
  have hJ36 : ∀ (s0 : Int32) (g : z_G), fS_J0_indexOf_7cf53_S1_36 s0 g = some (r, g') → J 36 [] [.int s0] g := by
    intro s0 g hf
    unfold fS_J0_indexOf_7cf53_S1_36 at hf
    exact zj_ireturn hC hf dJ0_indexOf_7cf53_36
  unfold fS_J0_indexOf_7cf53_S1 at hf
  refine zj_aload_n 0 hC dJ0_indexOf_7cf53_0 rfl ?_
  obtain ⟨r1, g2, hq3, hf⟩ := z_bindE hf
  refine zj_callViS [] hC (cS_J0_isLatin1_aae02_S1 l dC dI ca q sk sv g r1 g2 hq3) gJ0_indexOf_7cf53_J0_isLatin1_aae02 rfl nS_J0_isLatin1_aae02_S1 ⟨Nat.le_of_ble_eq_true rfl, Nat.le_of_ble_eq_true rfl⟩ (fun A s H locs h hS => vk_recv h.2.1 (show 1 < 6 by decide) hS) rfl (Nat.le_of_ble_eq_true rfl) dJ0_indexOf_7cf53_1 rfl ?_
  refine zj_if_eq 23 hC dJ0_indexOf_7cf53_4 (by decide) (fun c4 => ?_) (fun c4 => ?_)
  · have hf := z_iteT hf c4
    refine zj_aload_n 0 hC dJ0_indexOf_7cf53_23 rfl ?_
    refine zj_vkget (o1 := "java/lang/String") (v := .ref (sv 1)) hC (fun A U H h => (h.2.1.1 1 (by decide)).2.2.1) (List.mem_of_getElem? (i := 1) rfl) rfl dJ0_indexOf_7cf53_24 ?_
    refine zj_iload_n 1 hC dJ0_indexOf_7cf53_27 rfl ?_
    refine zj_iload_n 2 hC dJ0_indexOf_7cf53_28 rfl ?_
    refine zj_aload_n 0 hC dJ0_indexOf_7cf53_29 rfl ?_
    obtain ⟨r5, g6, hq7, hf⟩ := z_bindE hf
    refine zj_callViS [] hC (cS_J0_length_8abf5_S1 l dC dI ca q sk sv g2 r5 g6 hq7) gJ0_indexOf_7cf53_J0_length_8abf5 rfl nS_J0_length_8abf5_S1 ⟨Nat.le_of_ble_eq_true rfl, Nat.le_of_ble_eq_true rfl⟩ (fun A s H locs h hS => vk_recv h.2.1 (show 1 < 6 by decide) hS) rfl (Nat.le_of_ble_eq_true rfl) dJ0_indexOf_7cf53_30 rfl ?_
    cases hf
  · have hf := z_iteF hf c4
    refine zj_aload_n 0 hC dJ0_indexOf_7cf53_7 rfl ?_
    refine zj_vkget (o1 := "java/lang/String") (v := .ref (sv 1)) hC (fun A U H h => (h.2.1.1 1 (by decide)).2.2.1) (List.mem_of_getElem? (i := 1) rfl) rfl dJ0_indexOf_7cf53_8 ?_
    refine zj_iload_n 1 hC dJ0_indexOf_7cf53_11 rfl ?_
    refine zj_iload_n 2 hC dJ0_indexOf_7cf53_12 rfl ?_
    refine zj_aload_n 0 hC dJ0_indexOf_7cf53_13 rfl ?_
    obtain ⟨r8, g9, hq10, hf⟩ := z_bindE hf
    refine zj_callViS [] hC (cS_J0_length_8abf5_S1 l dC dI ca q sk sv g2 r8 g9 hq10) gJ0_indexOf_7cf53_J0_length_8abf5 rfl nS_J0_length_8abf5_S1 ⟨Nat.le_of_ble_eq_true rfl, Nat.le_of_ble_eq_true rfl⟩ (fun A s H locs h hS => vk_recv h.2.1 (show 1 < 6 by decide) hS) rfl (Nat.le_of_ble_eq_true rfl) dJ0_indexOf_7cf53_14 rfl ?_
    obtain ⟨r11, g12, hq13, hf⟩ := z_bindE hf
    refine zj_callSi [.ref (sv 1), .int a0, .int a1, .int r8] hC (cS_J1_indexOf_4cfef_B1 l dC dI ca q sk sv a0 a1 r8 g9 r11 g12 hq13) gJ0_indexOf_7cf53_J1_indexOf_4cfef rfl nS_J1_indexOf_4cfef_B1 ⟨Nat.le_of_ble_eq_true rfl, Nat.le_of_ble_eq_true rfl⟩ rfl (Nat.le_of_ble_eq_true rfl) dJ0_indexOf_7cf53_17 rfl ?_
    refine zj_goto 36 hC dJ0_indexOf_7cf53_20 (by decide) ?_
    exact zj_sub hC [] rfl (hJ36 r11 g12 hf)

def fS_J0_indexOf_0f7a4_S1 (a0 : Int32) (g : z_G) : Option (Int32 × z_G) := z_bind (fS_J0_indexOf_7cf53_S1 a0 0 g) (fun r1 g2 => some (r1, g2))
theorem nS_J0_indexOf_0f7a4_S1 : yJ0_indexOf_0f7a4.cls = RJ0 ∧ yJ0_indexOf_0f7a4.cls ≠ "java/lang/invoke/MethodHandle" ∧ yJ0_indexOf_0f7a4.cls ≠ "java/lang/invoke/VarHandle" ∧ (parseMethodDescriptor yJ0_indexOf_0f7a4.desc).map (fun d => d.parameters.length) = some 1 := by decide +kernel
set_option maxRecDepth 100000 in
set_option maxHeartbeats 4000000 in
theorem cS_J0_indexOf_0f7a4_S1 (l : Launch) (dC : Nat → ClassId) (dI : Nat → Nat → Nat) (ca : Nat → ClassId) (q : Nat → Nat) (sk sv : Nat → Nat) (a0 : Int32) (g : z_G) (r : Int32) (g' : z_G) (hf : fS_J0_indexOf_0f7a4_S1 a0 g = some (r, g')) : z_C l yJ0_indexOf_0f7a4 wsJ0_indexOf_0f7a4 { frames := 3, cells := 0, slots := 0, locals := 70 } (dC, dI) (tyM ca) (wM ca q) (zM sk sv) [.ref (sk 1), .int a0] g (some r) g' := by
  refine z_enter (wM_ok ca q) (zM_ok sk sv) (by decide +kernel) rfl (Nat.le_of_ble_eq_true rfl) (fun J hC => ?_)
  have hC : z_Cx J l cJ0_indexOf_0f7a4 2 wsJ0_indexOf_0f7a4 RJ0 (some .int) { frames := 3, cells := 0, slots := 0, locals := 70 } (dC, dI) (tyM ca) (wM ca q) (zM sk sv) (z_QI (dC, dI) (tyM ca) (wM ca q) (some r) g') z_X0 := hC
  show J 0 [(0, .ref (sk 1)), (1, .int a0)] [] g
  unfold fS_J0_indexOf_0f7a4_S1 at hf
  refine zj_aload_n 0 hC dJ0_indexOf_0f7a4_0 rfl ?_
  refine zj_iload_n 1 hC dJ0_indexOf_0f7a4_1 rfl ?_
  refine zj_iconst (v := 0) hC dJ0_indexOf_0f7a4_2 (by decide) ?_
  obtain ⟨r1, g2, hq3, hf⟩ := z_bindE hf
  refine zj_callViS [.int a0, .int 0] hC (cS_J0_indexOf_7cf53_S1 l dC dI ca q sk sv a0 0 g r1 g2 hq3) gJ0_indexOf_0f7a4_J0_indexOf_7cf53 rfl nS_J0_indexOf_7cf53_S1 ⟨Nat.le_of_ble_eq_true rfl, Nat.le_of_ble_eq_true rfl⟩ (fun A s H locs h hS => vk_recv h.2.1 (show 1 < 6 by decide) hS) rfl (Nat.le_of_ble_eq_true rfl) dJ0_indexOf_0f7a4_3 rfl ?_
  exact zj_ireturn hC hf dJ0_indexOf_0f7a4_6

def fS_X8_isSign_S1_41 (s0 : Int32) (g : z_G) : Option (Int32 × z_G) := z_bo s0 (some (s0, g))
def fS_X8_isSign_S1_40  (g : z_G) : Option (Int32 × z_G) := fS_X8_isSign_S1_41 0 g
def fS_X8_isSign_S1 (a0 : Int32) (g : z_G) : Option (Int32 × z_G) := (if a0 ≤ (g 0 50) then fS_X8_isSign_S1_40 g else z_ck (g 0 50) 100 ((if (g 30 (Int32.toNatClampNeg (g 0 50))) ≤ 0 then fS_X8_isSign_S1_40 g else z_ck (g 0 50) 100 (z_bind (fS_J0_indexOf_0f7a4_S1 (g 30 (Int32.toNatClampNeg (g 0 50))) g) (fun r5 g6 => (if r5 < 0 then fS_X8_isSign_S1_40 g6 else fS_X8_isSign_S1_41 1 g6))))))
theorem nS_X8_isSign_S1 : yX8_isSign.cls = RX8 ∧ yX8_isSign.cls ≠ "java/lang/invoke/MethodHandle" ∧ yX8_isSign.cls ≠ "java/lang/invoke/VarHandle" ∧ (parseMethodDescriptor yX8_isSign.desc).map (fun d => d.parameters.length) = some 2 := by decide +kernel
set_option maxRecDepth 100000 in
set_option maxHeartbeats 4000000 in
theorem cS_X8_isSign_S1 (l : Launch) (dC : Nat → ClassId) (dI : Nat → Nat → Nat) (ca : Nat → ClassId) (q : Nat → Nat) (sk sv : Nat → Nat) (a0 : Int32) (g : z_G) (r : Int32) (g' : z_G) (hf : fS_X8_isSign_S1 a0 g = some (r, g')) : z_C l yX8_isSign wsX8_isSign { frames := 4, cells := 0, slots := 0, locals := 91 } (dC, dI) (tyM ca) (wM ca q) (zM sk sv) [.ref (q 0), .int a0, .ref (sk 1)] g (some r) g' := by
  refine z_enter (wM_ok ca q) (zM_ok sk sv) (by decide +kernel) rfl (Nat.le_of_ble_eq_true rfl) (fun J hC => ?_)
  have hC : z_Cx J l cX8_isSign 3 wsX8_isSign RX8 (some .boolean) { frames := 4, cells := 0, slots := 0, locals := 91 } (dC, dI) (tyM ca) (wM ca q) (zM sk sv) (z_QI (dC, dI) (tyM ca) (wM ca q) (some r) g') z_X0 := hC
  show J 0 [(0, .ref (q 0)), (1, .int a0), (2, .ref (sk 1))] [] g
  have hX8 : ∀ w ∈ wsX80, w ∈ wsX8_isSign := fun _ h => List.mem_cons_of_mem _ (List.mem_append_right _ (h))
  have hJ41 : ∀ (s0 : Int32) (g : z_G), fS_X8_isSign_S1_41 s0 g = some (r, g') → J 41 [] [.int s0] g := by
    intro s0 g hf
    unfold fS_X8_isSign_S1_41 at hf
    exact zj_zreturn hC hf dX8_isSign_41
  have hJ40 : ∀ (g : z_G), fS_X8_isSign_S1_40 g = some (r, g') → J 40 [] [] g := by
    intro g hf
    unfold fS_X8_isSign_S1_40 at hf
    refine zj_iconst (v := 0) hC dX8_isSign_40 (by decide) ?_
    exact (hJ41 0 g hf)
  unfold fS_X8_isSign_S1 at hf
  refine zj_aload_n 0 hC dX8_isSign_0 rfl ?_
  refine mg_0_50 hC hX8 (List.mem_of_getElem? (i := 1) rfl) dX8_isSign_1 ?_
  refine zj_iload_n 1 hC dX8_isSign_4 rfl ?_
  refine zj_icmp_ge 40 hC dX8_isSign_5 (by decide) (fun c1 => ?_) (fun c1 => ?_)
  · have hf := z_iteT hf c1
    exact zj_sub hC [] rfl (hJ40 g hf)
  · have hf := z_iteF hf c1
    refine zj_aload_n 0 hC dX8_isSign_8 rfl ?_
    refine mg_0_40 hC hX8 (List.mem_of_getElem? (i := 2) rfl) dX8_isSign_9 ?_
    refine zj_aload_n 0 hC dX8_isSign_12 rfl ?_
    refine mg_0_50 hC hX8 (List.mem_of_getElem? (i := 1) rfl) dX8_isSign_13 ?_
    obtain ⟨hq2, hf⟩ := z_ckE hf
    refine ma_30 hC hq2 dX8_isSign_16 ?_
    refine zj_if_le 40 hC dX8_isSign_17 (by decide) (fun c3 => ?_) (fun c3 => ?_)
    · have hf := z_iteT hf c3
      exact zj_sub hC [] rfl (hJ40 g hf)
    · have hf := z_iteF hf c3
      refine zj_aload_n 2 hC dX8_isSign_20 rfl ?_
      refine zj_aload_n 0 hC dX8_isSign_21 rfl ?_
      refine mg_0_40 hC hX8 (List.mem_of_getElem? (i := 2) rfl) dX8_isSign_22 ?_
      refine zj_aload_n 0 hC dX8_isSign_25 rfl ?_
      refine mg_0_50 hC hX8 (List.mem_of_getElem? (i := 1) rfl) dX8_isSign_26 ?_
      obtain ⟨hq4, hf⟩ := z_ckE hf
      refine ma_30 hC hq4 dX8_isSign_29 ?_
      obtain ⟨r5, g6, hq7, hf⟩ := z_bindE hf
      refine zj_callViS [.int (g 30 (Int32.toNatClampNeg (g 0 50)))] hC (cS_J0_indexOf_0f7a4_S1 l dC dI ca q sk sv (g 30 (Int32.toNatClampNeg (g 0 50))) g r5 g6 hq7) gX8_isSign_J0_indexOf_0f7a4 rfl nS_J0_indexOf_0f7a4_S1 ⟨Nat.le_of_ble_eq_true rfl, Nat.le_of_ble_eq_true rfl⟩ (fun A s H locs h hS => vk_recv h.2.1 (show 1 < 6 by decide) hS) rfl (Nat.le_of_ble_eq_true rfl) dX8_isSign_30 rfl ?_
      refine zj_if_lt 40 hC dX8_isSign_33 (by decide) (fun c8 => ?_) (fun c8 => ?_)
      · have hf := z_iteT hf c8
        exact zj_sub hC [] rfl (hJ40 g6 hf)
      · have hf := z_iteF hf c8
        refine zj_iconst (v := 1) hC dX8_isSign_36 (by decide) ?_
        refine zj_goto 41 hC dX8_isSign_37 (by decide) ?_
        exact zj_sub hC [] rfl (hJ41 1 g6 hf)

def fS_J0_isLatin1_aae02_S2_18 (s0 : Int32) (g : z_G) : Option (Int32 × z_G) := z_bo s0 (some (s0, g))
def fS_J0_isLatin1_aae02_S2_17  (g : z_G) : Option (Int32 × z_G) := fS_J0_isLatin1_aae02_S2_18 0 g
def fS_J0_isLatin1_aae02_S2 (g : z_G) : Option (Int32 × z_G) := (if (1 : Int32) = 0 then fS_J0_isLatin1_aae02_S2_17 g else (if (0 : Int32) = 0 then fS_J0_isLatin1_aae02_S2_18 1 g else fS_J0_isLatin1_aae02_S2_17 g))
theorem nS_J0_isLatin1_aae02_S2 : yJ0_isLatin1_aae02.cls = RJ0 ∧ yJ0_isLatin1_aae02.cls ≠ "java/lang/invoke/MethodHandle" ∧ yJ0_isLatin1_aae02.cls ≠ "java/lang/invoke/VarHandle" ∧ (parseMethodDescriptor yJ0_isLatin1_aae02.desc).map (fun d => d.parameters.length) = some 0 := by decide +kernel
set_option maxRecDepth 100000 in
set_option maxHeartbeats 4000000 in
theorem cS_J0_isLatin1_aae02_S2 (l : Launch) (dC : Nat → ClassId) (dI : Nat → Nat → Nat) (ca : Nat → ClassId) (q : Nat → Nat) (sk sv : Nat → Nat) (g : z_G) (r : Int32) (g' : z_G) (hf : fS_J0_isLatin1_aae02_S2 g = some (r, g')) : z_C l yJ0_isLatin1_aae02 wsJ0_isLatin1_aae02 { frames := 0, cells := 0, slots := 0, locals := 0 } (dC, dI) (tyM ca) (wM ca q) (zM sk sv) [.ref (sk 2)] g (some r) g' := by
  refine z_enter (wM_ok ca q) (zM_ok sk sv) (by decide +kernel) rfl (Nat.le_of_ble_eq_true rfl) (fun J hC => ?_)
  have hC : z_Cx J l cJ0_isLatin1_aae02 1 wsJ0_isLatin1_aae02 RJ0 (some .boolean) { frames := 0, cells := 0, slots := 0, locals := 0 } (dC, dI) (tyM ca) (wM ca q) (zM sk sv) (z_QI (dC, dI) (tyM ca) (wM ca q) (some r) g') z_X0 := hC
  show J 0 [(0, .ref (sk 2))] [] g
  have hJ18 : ∀ (s0 : Int32) (g : z_G), fS_J0_isLatin1_aae02_S2_18 s0 g = some (r, g') → J 18 [] [.int s0] g := by
    intro s0 g hf
    unfold fS_J0_isLatin1_aae02_S2_18 at hf
    exact zj_zreturn hC hf dJ0_isLatin1_aae02_18
  have hJ17 : ∀ (g : z_G), fS_J0_isLatin1_aae02_S2_17 g = some (r, g') → J 17 [] [] g := by
    intro g hf
    unfold fS_J0_isLatin1_aae02_S2_17 at hf
    refine zj_iconst (v := 0) hC dJ0_isLatin1_aae02_17 (by decide) ?_
    exact (hJ18 0 g hf)
  unfold fS_J0_isLatin1_aae02_S2 at hf
  refine zj_gets (C := "java/lang/String") (v := .int 1) hC (fun A U H h => h.1) (List.mem_of_getElem? (i := 1) rfl) rfl dJ0_isLatin1_aae02_0 ?_
  refine zj_if_eq 17 hC dJ0_isLatin1_aae02_3 (by decide) (fun c1 => ?_) (fun c1 => ?_)
  · have hf := z_iteT hf c1
    exact zj_sub hC [] rfl (hJ17 g hf)
  · have hf := z_iteF hf c1
    refine zj_aload_n 0 hC dJ0_isLatin1_aae02_6 rfl ?_
    refine zj_vkget (o1 := "java/lang/String") (v := .int 0) hC (fun A U H h => (h.2.1.1 2 (by decide)).2.1) (List.mem_of_getElem? (i := 2) rfl) rfl dJ0_isLatin1_aae02_7 ?_
    refine zj_if_ne 17 hC dJ0_isLatin1_aae02_10 (by decide) (fun c2 => ?_) (fun c2 => ?_)
    · have hf := z_iteF hf c2
      exact zj_sub hC [] rfl (hJ17 g hf)
    · have hf := z_iteT hf c2
      refine zj_iconst (v := 1) hC dJ0_isLatin1_aae02_13 (by decide) ?_
      refine zj_goto 18 hC dJ0_isLatin1_aae02_14 (by decide) ?_
      exact zj_sub hC [] rfl (hJ18 1 g hf)

def fS_J0_coder_7d493_S2_14 (s0 : Int32) (g : z_G) : Option (Int32 × z_G) := z_bo s0 (some (s0, g))
def fS_J0_coder_7d493_S2 (g : z_G) : Option (Int32 × z_G) := (if (1 : Int32) = 0 then fS_J0_coder_7d493_S2_14 1 g else fS_J0_coder_7d493_S2_14 0 g)
theorem nS_J0_coder_7d493_S2 : yJ0_coder_7d493.cls = RJ0 ∧ yJ0_coder_7d493.cls ≠ "java/lang/invoke/MethodHandle" ∧ yJ0_coder_7d493.cls ≠ "java/lang/invoke/VarHandle" ∧ (parseMethodDescriptor yJ0_coder_7d493.desc).map (fun d => d.parameters.length) = some 0 := by decide +kernel
set_option maxRecDepth 100000 in
set_option maxHeartbeats 4000000 in
theorem cS_J0_coder_7d493_S2 (l : Launch) (dC : Nat → ClassId) (dI : Nat → Nat → Nat) (ca : Nat → ClassId) (q : Nat → Nat) (sk sv : Nat → Nat) (g : z_G) (r : Int32) (g' : z_G) (hf : fS_J0_coder_7d493_S2 g = some (r, g')) : z_C l yJ0_coder_7d493 wsJ0_coder_7d493 { frames := 0, cells := 0, slots := 0, locals := 0 } (dC, dI) (tyM ca) (wM ca q) (zM sk sv) [.ref (sk 2)] g (some r) g' := by
  refine z_enter (wM_ok ca q) (zM_ok sk sv) (by decide +kernel) rfl (Nat.le_of_ble_eq_true rfl) (fun J hC => ?_)
  have hC : z_Cx J l cJ0_coder_7d493 1 wsJ0_coder_7d493 RJ0 (some .byte) { frames := 0, cells := 0, slots := 0, locals := 0 } (dC, dI) (tyM ca) (wM ca q) (zM sk sv) (z_QI (dC, dI) (tyM ca) (wM ca q) (some r) g') z_X0 := hC
  show J 0 [(0, .ref (sk 2))] [] g
  have hJ14 : ∀ (s0 : Int32) (g : z_G), fS_J0_coder_7d493_S2_14 s0 g = some (r, g') → J 14 [] [.int s0] g := by
    intro s0 g hf
    unfold fS_J0_coder_7d493_S2_14 at hf
    exact zj_breturn hC hf dJ0_coder_7d493_14
  unfold fS_J0_coder_7d493_S2 at hf
  refine zj_gets (C := "java/lang/String") (v := .int 1) hC (fun A U H h => h.1) (List.mem_of_getElem? (i := 1) rfl) rfl dJ0_coder_7d493_0 ?_
  refine zj_if_eq 13 hC dJ0_coder_7d493_3 (by decide) (fun c1 => ?_) (fun c1 => ?_)
  · have hf := z_iteT hf c1
    refine zj_iconst (v := 1) hC dJ0_coder_7d493_13 (by decide) ?_
    exact zj_sub hC [] rfl (hJ14 1 g hf)
  · have hf := z_iteF hf c1
    refine zj_aload_n 0 hC dJ0_coder_7d493_6 rfl ?_
    refine zj_vkget (o1 := "java/lang/String") (v := .int 0) hC (fun A U H h => (h.2.1.1 2 (by decide)).2.1) (List.mem_of_getElem? (i := 2) rfl) rfl dJ0_coder_7d493_7 ?_
    refine zj_goto 14 hC dJ0_coder_7d493_10 (by decide) ?_
    exact zj_sub hC [] rfl (hJ14 0 g hf)

def fS_J0_length_8abf5_S2 (g : z_G) : Option (Int32 × z_G) := z_bind (fS_J0_coder_7d493_S2 g) (fun r1 g2 => some (3 >>> (r1 &&& 31), g2))
theorem nS_J0_length_8abf5_S2 : yJ0_length_8abf5.cls = RJ0 ∧ yJ0_length_8abf5.cls ≠ "java/lang/invoke/MethodHandle" ∧ yJ0_length_8abf5.cls ≠ "java/lang/invoke/VarHandle" ∧ (parseMethodDescriptor yJ0_length_8abf5.desc).map (fun d => d.parameters.length) = some 0 := by decide +kernel
set_option maxRecDepth 100000 in
set_option maxHeartbeats 4000000 in
theorem cS_J0_length_8abf5_S2 (l : Launch) (dC : Nat → ClassId) (dI : Nat → Nat → Nat) (ca : Nat → ClassId) (q : Nat → Nat) (sk sv : Nat → Nat) (g : z_G) (r : Int32) (g' : z_G) (hf : fS_J0_length_8abf5_S2 g = some (r, g')) : z_C l yJ0_length_8abf5 wsJ0_length_8abf5 { frames := 1, cells := 0, slots := 0, locals := 20 } (dC, dI) (tyM ca) (wM ca q) (zM sk sv) [.ref (sk 2)] g (some r) g' := by
  refine z_enter (wM_ok ca q) (zM_ok sk sv) (by decide +kernel) rfl (Nat.le_of_ble_eq_true rfl) (fun J hC => ?_)
  have hC : z_Cx J l cJ0_length_8abf5 1 wsJ0_length_8abf5 RJ0 (some .int) { frames := 1, cells := 0, slots := 0, locals := 20 } (dC, dI) (tyM ca) (wM ca q) (zM sk sv) (z_QI (dC, dI) (tyM ca) (wM ca q) (some r) g') z_X0 := hC
  show J 0 [(0, .ref (sk 2))] [] g
  unfold fS_J0_length_8abf5_S2 at hf
  refine zj_aload_n 0 hC dJ0_length_8abf5_0 rfl ?_
  refine zj_vkget (o1 := "java/lang/String") (v := .ref (sv 2)) hC (fun A U H h => (h.2.1.1 2 (by decide)).2.2.1) (List.mem_of_getElem? (i := 1) rfl) rfl dJ0_length_8abf5_1 ?_
  refine zj_tlen (v := 3) hC (fun A U H h => (h.2.1.1 2 (by decide)).2.2.2) rfl dJ0_length_8abf5_4 ?_
  refine zj_aload_n 0 hC dJ0_length_8abf5_5 rfl ?_
  obtain ⟨r1, g2, hq3, hf⟩ := z_bindE hf
  refine zj_callViS [] hC (cS_J0_coder_7d493_S2 l dC dI ca q sk sv g r1 g2 hq3) gJ0_length_8abf5_J0_coder_7d493 rfl nS_J0_coder_7d493_S2 ⟨Nat.le_of_ble_eq_true rfl, Nat.le_of_ble_eq_true rfl⟩ (fun A s H locs h hS => vk_recv h.2.1 (show 2 < 6 by decide) hS) rfl (Nat.le_of_ble_eq_true rfl) dJ0_length_8abf5_6 rfl ?_
  refine zj_ishr hC dJ0_length_8abf5_9 ?_
  exact zj_ireturn hC hf dJ0_length_8abf5_10

def fS_J1_indexOfChar_4cfef_B2_7 (k7 : Int32 × Int32 × Int32 × z_G → Option (Int32 × z_G)) (x3 : Int32) (x4 : Int32) (x5 : Int32) (g : z_G) : Option (Int32 × z_G) := (if x3 ≤ x5 then some ((-1), g) else z_ck x5 3 ((if (kSTR 2 (Int32.toNatClampNeg x5)) = x4 then some (x5, g) else z_let (x5 + 1) (fun y4 => k7 (x3, x4, y4, g)))))
def fS_J1_indexOfChar_4cfef_B2_7_go (x3 : Int32) (x4 : Int32) (x5 : Int32) (g : z_G) : Option (Int32 × z_G) := z_loop (fun k (w : Int32 × Int32 × Int32 × z_G) => fS_J1_indexOfChar_4cfef_B2_7 k w.1 w.2.1 w.2.2.1 w.2.2.2) z_fuel (x3, x4, x5, g)
def fS_J1_indexOfChar_4cfef_B2 (a1 : Int32) (a2 : Int32) (a3 : Int32) (g : z_G) : Option (Int32 × z_G) := z_let ((a1 : Int32).toInt8.toInt32) (fun y5 => fS_J1_indexOfChar_4cfef_B2_7_go a3 y5 a2 g)
theorem nS_J1_indexOfChar_4cfef_B2 : yJ1_indexOfChar_4cfef.cls ≠ "java/lang/invoke/MethodHandle" ∧ yJ1_indexOfChar_4cfef.cls ≠ "java/lang/invoke/VarHandle" ∧ (parseMethodDescriptor yJ1_indexOfChar_4cfef.desc).map (fun d => d.parameters.length) = some 4 := by decide +kernel
set_option maxRecDepth 100000 in
set_option maxHeartbeats 4000000 in
theorem cS_J1_indexOfChar_4cfef_B2 (l : Launch) (dC : Nat → ClassId) (dI : Nat → Nat → Nat) (ca : Nat → ClassId) (q : Nat → Nat) (sk sv : Nat → Nat) (a1 : Int32) (a2 : Int32) (a3 : Int32) (g : z_G) (r : Int32) (g' : z_G) (hf : fS_J1_indexOfChar_4cfef_B2 a1 a2 a3 g = some (r, g')) : z_C l yJ1_indexOfChar_4cfef wsJ1_indexOfChar_4cfef { frames := 0, cells := 0, slots := 0, locals := 0 } (dC, dI) (tyM ca) (wM ca q) (zM sk sv) [.ref (sv 2), .int a1, .int a2, .int a3] g (some r) g' := by
  refine z_enter (wM_ok ca q) (zM_ok sk sv) (by decide +kernel) rfl (Nat.le_of_ble_eq_true rfl) (fun J hC => ?_)
  have hC : z_Cx J l cJ1_indexOfChar_4cfef 6 wsJ1_indexOfChar_4cfef RJ1 (some .int) { frames := 0, cells := 0, slots := 0, locals := 0 } (dC, dI) (tyM ca) (wM ca q) (zM sk sv) (z_QI (dC, dI) (tyM ca) (wM ca q) (some r) g') z_X0 := hC
  show J 0 [(0, .ref (sv 2)), (1, .int a1), (2, .int a2), (3, .int a3)] [] g
  have hJ7 : ∀ (x3 : Int32) (x4 : Int32) (x5 : Int32) (g : z_G), fS_J1_indexOfChar_4cfef_B2_7_go x3 x4 x5 g = some (r, g') → J 7 [(0, .ref (sv 2)), (3, .int x3), (4, .int x4), (5, .int x5)] [] g := by
    intro x3 x4 x5 g hf
    refine z_loopE (P := fun w : Int32 × Int32 × Int32 × z_G => J 7 [(0, .ref (sv 2)), (3, .int w.1), (4, .int w.2.1), (5, .int w.2.2.1)] [] w.2.2.2) (fun k7 hk7 w hf => ?_) z_fuel (x3, x4, x5, g) hf
    obtain ⟨x3, x4, x5, g⟩ := w
    have hf : fS_J1_indexOfChar_4cfef_B2_7 k7 x3 x4 x5 g = some (r, g') := hf
    show J 7 [(0, .ref (sv 2)), (3, .int x3), (4, .int x4), (5, .int x5)] [] g
    unfold fS_J1_indexOfChar_4cfef_B2_7 at hf
    refine zj_iload 3 hC dJ1_indexOfChar_4cfef_7 rfl ?_
    refine zj_iload_n 1 hC dJ1_indexOfChar_4cfef_9 rfl ?_
    refine zj_icmp_ge 31 hC dJ1_indexOfChar_4cfef_10 (by decide) (fun c1 => ?_) (fun c1 => ?_)
    · have hf := z_iteT hf c1
      refine zj_iconst (v := (-1)) hC dJ1_indexOfChar_4cfef_31 (by decide) ?_
      exact zj_ireturn hC hf dJ1_indexOfChar_4cfef_32
    · have hf := z_iteF hf c1
      refine zj_aload_n 0 hC dJ1_indexOfChar_4cfef_13 rfl ?_
      refine zj_iload 3 hC dJ1_indexOfChar_4cfef_14 rfl ?_
      obtain ⟨hq2, hf⟩ := z_ckE hf
      refine zj_tb (f := kSTR 2) hC (fun A U H h => (h.2.1.1 2 (by decide)).2.2.2) hq2 dJ1_indexOfChar_4cfef_16 ?_
      refine zj_iload 2 hC dJ1_indexOfChar_4cfef_17 rfl ?_
      refine zj_icmp_ne 25 hC dJ1_indexOfChar_4cfef_19 (by decide) (fun c3 => ?_) (fun c3 => ?_)
      · have hf := z_iteF hf c3
        refine zj_iinc (lv1 := fun v => [(5, .int v), (0, .ref (sv 2)), (3, .int x3), (4, .int x4)]) 3 hC dJ1_indexOfChar_4cfef_25 rfl (by decide) (fun _ => rfl) (fun y4 ey4 => ?_)
        have hf := z_letE hf (show y4 = x5 + 1 from ey4)
        refine zj_goto 7 hC dJ1_indexOfChar_4cfef_28 (by decide) ?_
        exact zj_sub hC [1, 2, 3, 0] rfl (hk7 (x3, x4, y4, g) hf)
      · have hf := z_iteT hf c3
        refine zj_iload 3 hC dJ1_indexOfChar_4cfef_22 rfl ?_
        exact zj_ireturn hC hf dJ1_indexOfChar_4cfef_24
  unfold fS_J1_indexOfChar_4cfef_B2 at hf
  refine zj_iload_n 1 hC dJ1_indexOfChar_4cfef_0 rfl ?_
  refine zj_i2b hC dJ1_indexOfChar_4cfef_1 ?_
  refine zj_top (fun y5 ey5 => ?_)
  have hf := z_letE hf ey5
  refine zj_istore (lv1 := [(4, .int y5), (0, .ref (sv 2)), (1, .int a1), (2, .int a2), (3, .int a3)]) hC dJ1_indexOfChar_4cfef_2 (by decide) rfl ?_
  refine zj_iload_n 3 hC dJ1_indexOfChar_4cfef_4 rfl ?_
  refine zj_istore (lv1 := [(5, .int a2), (4, .int y5), (0, .ref (sv 2)), (1, .int a1), (2, .int a2), (3, .int a3)]) hC dJ1_indexOfChar_4cfef_5 (by decide) rfl ?_
  exact zj_sub hC [2, 5, 1, 0] rfl (hJ7 a3 y5 a2 g hf)

def fS_J1_indexOf_4cfef_B2 (a1 : Int32) (a2 : Int32) (a3 : Int32) (g : z_G) : Option (Int32 × z_G) := z_bind (fS_J1_canEncode_9a6ad a1 g) (fun r1 g2 => (if r1 = 0 then some ((-1), g2) else z_let (if a2 < 0 then 0 else a2) (fun y5 => z_let (if 3 < a3 then 3 else a3) (fun y6 => (if y5 < y6 then z_bind (fS_J1_indexOfChar_4cfef_B2 a1 y5 y6 g2) (fun r8 g9 => some (r8, g9)) else some ((-1), g2))))))
theorem nS_J1_indexOf_4cfef_B2 : yJ1_indexOf_4cfef.cls ≠ "java/lang/invoke/MethodHandle" ∧ yJ1_indexOf_4cfef.cls ≠ "java/lang/invoke/VarHandle" ∧ (parseMethodDescriptor yJ1_indexOf_4cfef.desc).map (fun d => d.parameters.length) = some 4 := by decide +kernel
set_option maxRecDepth 100000 in
set_option maxHeartbeats 4000000 in
theorem cS_J1_indexOf_4cfef_B2 (l : Launch) (dC : Nat → ClassId) (dI : Nat → Nat → Nat) (ca : Nat → ClassId) (q : Nat → Nat) (sk sv : Nat → Nat) (a1 : Int32) (a2 : Int32) (a3 : Int32) (g : z_G) (r : Int32) (g' : z_G) (hf : fS_J1_indexOf_4cfef_B2 a1 a2 a3 g = some (r, g')) : z_C l yJ1_indexOf_4cfef wsJ1_indexOf_4cfef { frames := 1, cells := 0, slots := 0, locals := 25 } (dC, dI) (tyM ca) (wM ca q) (zM sk sv) [.ref (sv 2), .int a1, .int a2, .int a3] g (some r) g' := by
  refine z_enter (wM_ok ca q) (zM_ok sk sv) (by decide +kernel) rfl (Nat.le_of_ble_eq_true rfl) (fun J hC => ?_)
  have hC : z_Cx J l cJ1_indexOf_4cfef 4 wsJ1_indexOf_4cfef RJ1 (some .int) { frames := 1, cells := 0, slots := 0, locals := 25 } (dC, dI) (tyM ca) (wM ca q) (zM sk sv) (z_QI (dC, dI) (tyM ca) (wM ca q) (some r) g') z_X0 := hC
  show J 0 [(0, .ref (sv 2)), (1, .int a1), (2, .int a2), (3, .int a3)] [] g
  unfold fS_J1_indexOf_4cfef_B2 at hf
  refine zj_iload_n 1 hC dJ1_indexOf_4cfef_0 rfl ?_
  obtain ⟨r1, g2, hq3, hf⟩ := z_bindE hf
  refine zj_callSi [.int a1] hC (cS_J1_canEncode_9a6ad l dC dI ca q sk sv a1 g r1 g2 hq3) gJ1_indexOf_4cfef_J1_canEncode_9a6ad rfl nS_J1_canEncode_9a6ad ⟨Nat.le_of_ble_eq_true rfl, Nat.le_of_ble_eq_true rfl⟩ rfl (Nat.le_of_ble_eq_true rfl) dJ1_indexOf_4cfef_1 rfl ?_
  refine zj_if_ne 9 hC dJ1_indexOf_4cfef_4 (by decide) (fun c4 => ?_) (fun c4 => ?_)
  · have hf := z_iteF hf c4
    refine zj_iload_n 2 hC dJ1_indexOf_4cfef_9 rfl ?_
    refine zj_iconst (v := 0) hC dJ1_indexOf_4cfef_10 (by decide) ?_
    refine zj_max hC (List.mem_of_getElem? (i := 1) rfl) (List.mem_of_getElem? (i := 2) rfl) (List.mem_of_getElem? (i := 3) rfl) (List.mem_of_getElem? (i := 4) rfl) (Nat.le_of_ble_eq_true rfl) (Nat.le_of_ble_eq_true rfl) dJ1_indexOf_4cfef_11 ?_
    refine zj_top (fun y5 ey5 => ?_)
    have hf := z_letE hf ey5
    refine zj_istore_n (lv1 := [(2, .int y5), (0, .ref (sv 2)), (1, .int a1), (3, .int a3)]) hC dJ1_indexOf_4cfef_14 (by decide) rfl ?_
    refine zj_iload_n 3 hC dJ1_indexOf_4cfef_15 rfl ?_
    refine zj_aload_n 1 hC dJ1_indexOf_4cfef_16 rfl ?_
    refine zj_tlen (v := 3) hC (fun A U H h => (h.2.1.1 2 (by decide)).2.2.2) rfl dJ1_indexOf_4cfef_17 ?_
    refine zj_min hC (List.mem_of_getElem? (i := 5) rfl) (List.mem_of_getElem? (i := 6) rfl) (List.mem_of_getElem? (i := 3) rfl) (List.mem_of_getElem? (i := 7) rfl) (Nat.le_of_ble_eq_true rfl) (Nat.le_of_ble_eq_true rfl) dJ1_indexOf_4cfef_18 ?_
    refine zj_top (fun y6 ey6 => ?_)
    have hf := z_letE hf ey6
    refine zj_istore_n (lv1 := [(3, .int y6), (2, .int y5), (0, .ref (sv 2)), (1, .int a1)]) hC dJ1_indexOf_4cfef_21 (by decide) rfl ?_
    refine zj_iload_n 1 hC dJ1_indexOf_4cfef_22 rfl ?_
    refine zj_iload_n 0 hC dJ1_indexOf_4cfef_23 rfl ?_
    refine zj_icmp_lt 29 hC dJ1_indexOf_4cfef_24 (by decide) (fun c7 => ?_) (fun c7 => ?_)
    · have hf := z_iteT hf c7
      refine zj_aload_n 2 hC dJ1_indexOf_4cfef_29 rfl ?_
      refine zj_iload_n 3 hC dJ1_indexOf_4cfef_30 rfl ?_
      refine zj_iload_n 1 hC dJ1_indexOf_4cfef_31 rfl ?_
      refine zj_iload_n 0 hC dJ1_indexOf_4cfef_32 rfl ?_
      obtain ⟨r8, g9, hq10, hf⟩ := z_bindE hf
      refine zj_callSi [.ref (sv 2), .int a1, .int y5, .int y6] hC (cS_J1_indexOfChar_4cfef_B2 l dC dI ca q sk sv a1 y5 y6 g2 r8 g9 hq10) gJ1_indexOf_4cfef_J1_indexOfChar_4cfef rfl nS_J1_indexOfChar_4cfef_B2 ⟨Nat.le_of_ble_eq_true rfl, Nat.le_of_ble_eq_true rfl⟩ rfl (Nat.le_of_ble_eq_true rfl) dJ1_indexOf_4cfef_33 rfl ?_
      exact zj_ireturn hC hf dJ1_indexOf_4cfef_36
    · have hf := z_iteF hf c7
      refine zj_iconst (v := (-1)) hC dJ1_indexOf_4cfef_27 (by decide) ?_
      exact zj_ireturn hC hf dJ1_indexOf_4cfef_28
  · have hf := z_iteT hf c4
    refine zj_iconst (v := (-1)) hC dJ1_indexOf_4cfef_7 (by decide) ?_
    exact zj_ireturn hC hf dJ1_indexOf_4cfef_8

def fS_J0_indexOf_7cf53_S2_36 (s0 : Int32) (g : z_G) : Option (Int32 × z_G) := some (s0, g)
def fS_J0_indexOf_7cf53_S2 (a0 : Int32) (a1 : Int32) (g : z_G) : Option (Int32 × z_G) := z_bind (fS_J0_isLatin1_aae02_S2 g) (fun r1 g2 => (if r1 = 0 then z_bind (fS_J0_length_8abf5_S2 g2) (fun r5 g6 => none) else z_bind (fS_J0_length_8abf5_S2 g2) (fun r8 g9 => z_bind (fS_J1_indexOf_4cfef_B2 a0 a1 r8 g9) (fun r11 g12 => fS_J0_indexOf_7cf53_S2_36 r11 g12))))
theorem nS_J0_indexOf_7cf53_S2 : yJ0_indexOf_7cf53.cls = RJ0 ∧ yJ0_indexOf_7cf53.cls ≠ "java/lang/invoke/MethodHandle" ∧ yJ0_indexOf_7cf53.cls ≠ "java/lang/invoke/VarHandle" ∧ (parseMethodDescriptor yJ0_indexOf_7cf53.desc).map (fun d => d.parameters.length) = some 2 := by decide +kernel
set_option maxRecDepth 100000 in
set_option maxHeartbeats 4000000 in
theorem cS_J0_indexOf_7cf53_S2 (l : Launch) (dC : Nat → ClassId) (dI : Nat → Nat → Nat) (ca : Nat → ClassId) (q : Nat → Nat) (sk sv : Nat → Nat) (a0 : Int32) (a1 : Int32) (g : z_G) (r : Int32) (g' : z_G) (hf : fS_J0_indexOf_7cf53_S2 a0 a1 g = some (r, g')) : z_C l yJ0_indexOf_7cf53 wsJ0_indexOf_7cf53 { frames := 2, cells := 0, slots := 0, locals := 48 } (dC, dI) (tyM ca) (wM ca q) (zM sk sv) [.ref (sk 2), .int a0, .int a1] g (some r) g' := by
  refine z_enter (wM_ok ca q) (zM_ok sk sv) (by decide +kernel) rfl (Nat.le_of_ble_eq_true rfl) (fun J hC => ?_)
  have hC : z_Cx J l cJ0_indexOf_7cf53 3 wsJ0_indexOf_7cf53 RJ0 (some .int) { frames := 2, cells := 0, slots := 0, locals := 48 } (dC, dI) (tyM ca) (wM ca q) (zM sk sv) (z_QI (dC, dI) (tyM ca) (wM ca q) (some r) g') z_X0 := hC
  show J 0 [(0, .ref (sk 2)), (1, .int a0), (2, .int a1)] [] g
  have hJ36 : ∀ (s0 : Int32) (g : z_G), fS_J0_indexOf_7cf53_S2_36 s0 g = some (r, g') → J 36 [] [.int s0] g := by
    intro s0 g hf
    unfold fS_J0_indexOf_7cf53_S2_36 at hf
    exact zj_ireturn hC hf dJ0_indexOf_7cf53_36
  unfold fS_J0_indexOf_7cf53_S2 at hf
  refine zj_aload_n 0 hC dJ0_indexOf_7cf53_0 rfl ?_
  obtain ⟨r1, g2, hq3, hf⟩ := z_bindE hf
  refine zj_callViS [] hC (cS_J0_isLatin1_aae02_S2 l dC dI ca q sk sv g r1 g2 hq3) gJ0_indexOf_7cf53_J0_isLatin1_aae02 rfl nS_J0_isLatin1_aae02_S2 ⟨Nat.le_of_ble_eq_true rfl, Nat.le_of_ble_eq_true rfl⟩ (fun A s H locs h hS => vk_recv h.2.1 (show 2 < 6 by decide) hS) rfl (Nat.le_of_ble_eq_true rfl) dJ0_indexOf_7cf53_1 rfl ?_
  refine zj_if_eq 23 hC dJ0_indexOf_7cf53_4 (by decide) (fun c4 => ?_) (fun c4 => ?_)
  · have hf := z_iteT hf c4
    refine zj_aload_n 0 hC dJ0_indexOf_7cf53_23 rfl ?_
    refine zj_vkget (o1 := "java/lang/String") (v := .ref (sv 2)) hC (fun A U H h => (h.2.1.1 2 (by decide)).2.2.1) (List.mem_of_getElem? (i := 1) rfl) rfl dJ0_indexOf_7cf53_24 ?_
    refine zj_iload_n 1 hC dJ0_indexOf_7cf53_27 rfl ?_
    refine zj_iload_n 2 hC dJ0_indexOf_7cf53_28 rfl ?_
    refine zj_aload_n 0 hC dJ0_indexOf_7cf53_29 rfl ?_
    obtain ⟨r5, g6, hq7, hf⟩ := z_bindE hf
    refine zj_callViS [] hC (cS_J0_length_8abf5_S2 l dC dI ca q sk sv g2 r5 g6 hq7) gJ0_indexOf_7cf53_J0_length_8abf5 rfl nS_J0_length_8abf5_S2 ⟨Nat.le_of_ble_eq_true rfl, Nat.le_of_ble_eq_true rfl⟩ (fun A s H locs h hS => vk_recv h.2.1 (show 2 < 6 by decide) hS) rfl (Nat.le_of_ble_eq_true rfl) dJ0_indexOf_7cf53_30 rfl ?_
    cases hf
  · have hf := z_iteF hf c4
    refine zj_aload_n 0 hC dJ0_indexOf_7cf53_7 rfl ?_
    refine zj_vkget (o1 := "java/lang/String") (v := .ref (sv 2)) hC (fun A U H h => (h.2.1.1 2 (by decide)).2.2.1) (List.mem_of_getElem? (i := 1) rfl) rfl dJ0_indexOf_7cf53_8 ?_
    refine zj_iload_n 1 hC dJ0_indexOf_7cf53_11 rfl ?_
    refine zj_iload_n 2 hC dJ0_indexOf_7cf53_12 rfl ?_
    refine zj_aload_n 0 hC dJ0_indexOf_7cf53_13 rfl ?_
    obtain ⟨r8, g9, hq10, hf⟩ := z_bindE hf
    refine zj_callViS [] hC (cS_J0_length_8abf5_S2 l dC dI ca q sk sv g2 r8 g9 hq10) gJ0_indexOf_7cf53_J0_length_8abf5 rfl nS_J0_length_8abf5_S2 ⟨Nat.le_of_ble_eq_true rfl, Nat.le_of_ble_eq_true rfl⟩ (fun A s H locs h hS => vk_recv h.2.1 (show 2 < 6 by decide) hS) rfl (Nat.le_of_ble_eq_true rfl) dJ0_indexOf_7cf53_14 rfl ?_
    obtain ⟨r11, g12, hq13, hf⟩ := z_bindE hf
    refine zj_callSi [.ref (sv 2), .int a0, .int a1, .int r8] hC (cS_J1_indexOf_4cfef_B2 l dC dI ca q sk sv a0 a1 r8 g9 r11 g12 hq13) gJ0_indexOf_7cf53_J1_indexOf_4cfef rfl nS_J1_indexOf_4cfef_B2 ⟨Nat.le_of_ble_eq_true rfl, Nat.le_of_ble_eq_true rfl⟩ rfl (Nat.le_of_ble_eq_true rfl) dJ0_indexOf_7cf53_17 rfl ?_
    refine zj_goto 36 hC dJ0_indexOf_7cf53_20 (by decide) ?_
    exact zj_sub hC [] rfl (hJ36 r11 g12 hf)

def fS_J0_indexOf_0f7a4_S2 (a0 : Int32) (g : z_G) : Option (Int32 × z_G) := z_bind (fS_J0_indexOf_7cf53_S2 a0 0 g) (fun r1 g2 => some (r1, g2))
theorem nS_J0_indexOf_0f7a4_S2 : yJ0_indexOf_0f7a4.cls = RJ0 ∧ yJ0_indexOf_0f7a4.cls ≠ "java/lang/invoke/MethodHandle" ∧ yJ0_indexOf_0f7a4.cls ≠ "java/lang/invoke/VarHandle" ∧ (parseMethodDescriptor yJ0_indexOf_0f7a4.desc).map (fun d => d.parameters.length) = some 1 := by decide +kernel
set_option maxRecDepth 100000 in
set_option maxHeartbeats 4000000 in
theorem cS_J0_indexOf_0f7a4_S2 (l : Launch) (dC : Nat → ClassId) (dI : Nat → Nat → Nat) (ca : Nat → ClassId) (q : Nat → Nat) (sk sv : Nat → Nat) (a0 : Int32) (g : z_G) (r : Int32) (g' : z_G) (hf : fS_J0_indexOf_0f7a4_S2 a0 g = some (r, g')) : z_C l yJ0_indexOf_0f7a4 wsJ0_indexOf_0f7a4 { frames := 3, cells := 0, slots := 0, locals := 70 } (dC, dI) (tyM ca) (wM ca q) (zM sk sv) [.ref (sk 2), .int a0] g (some r) g' := by
  refine z_enter (wM_ok ca q) (zM_ok sk sv) (by decide +kernel) rfl (Nat.le_of_ble_eq_true rfl) (fun J hC => ?_)
  have hC : z_Cx J l cJ0_indexOf_0f7a4 2 wsJ0_indexOf_0f7a4 RJ0 (some .int) { frames := 3, cells := 0, slots := 0, locals := 70 } (dC, dI) (tyM ca) (wM ca q) (zM sk sv) (z_QI (dC, dI) (tyM ca) (wM ca q) (some r) g') z_X0 := hC
  show J 0 [(0, .ref (sk 2)), (1, .int a0)] [] g
  unfold fS_J0_indexOf_0f7a4_S2 at hf
  refine zj_aload_n 0 hC dJ0_indexOf_0f7a4_0 rfl ?_
  refine zj_iload_n 1 hC dJ0_indexOf_0f7a4_1 rfl ?_
  refine zj_iconst (v := 0) hC dJ0_indexOf_0f7a4_2 (by decide) ?_
  obtain ⟨r1, g2, hq3, hf⟩ := z_bindE hf
  refine zj_callViS [.int a0, .int 0] hC (cS_J0_indexOf_7cf53_S2 l dC dI ca q sk sv a0 0 g r1 g2 hq3) gJ0_indexOf_0f7a4_J0_indexOf_7cf53 rfl nS_J0_indexOf_7cf53_S2 ⟨Nat.le_of_ble_eq_true rfl, Nat.le_of_ble_eq_true rfl⟩ (fun A s H locs h hS => vk_recv h.2.1 (show 2 < 6 by decide) hS) rfl (Nat.le_of_ble_eq_true rfl) dJ0_indexOf_0f7a4_3 rfl ?_
  exact zj_ireturn hC hf dJ0_indexOf_0f7a4_6

def fS_X8_isSign_S2_41 (s0 : Int32) (g : z_G) : Option (Int32 × z_G) := z_bo s0 (some (s0, g))
def fS_X8_isSign_S2_40  (g : z_G) : Option (Int32 × z_G) := fS_X8_isSign_S2_41 0 g
def fS_X8_isSign_S2 (a0 : Int32) (g : z_G) : Option (Int32 × z_G) := (if a0 ≤ (g 0 50) then fS_X8_isSign_S2_40 g else z_ck (g 0 50) 100 ((if (g 30 (Int32.toNatClampNeg (g 0 50))) ≤ 0 then fS_X8_isSign_S2_40 g else z_ck (g 0 50) 100 (z_bind (fS_J0_indexOf_0f7a4_S2 (g 30 (Int32.toNatClampNeg (g 0 50))) g) (fun r5 g6 => (if r5 < 0 then fS_X8_isSign_S2_40 g6 else fS_X8_isSign_S2_41 1 g6))))))
theorem nS_X8_isSign_S2 : yX8_isSign.cls = RX8 ∧ yX8_isSign.cls ≠ "java/lang/invoke/MethodHandle" ∧ yX8_isSign.cls ≠ "java/lang/invoke/VarHandle" ∧ (parseMethodDescriptor yX8_isSign.desc).map (fun d => d.parameters.length) = some 2 := by decide +kernel
set_option maxRecDepth 100000 in
set_option maxHeartbeats 4000000 in
theorem cS_X8_isSign_S2 (l : Launch) (dC : Nat → ClassId) (dI : Nat → Nat → Nat) (ca : Nat → ClassId) (q : Nat → Nat) (sk sv : Nat → Nat) (a0 : Int32) (g : z_G) (r : Int32) (g' : z_G) (hf : fS_X8_isSign_S2 a0 g = some (r, g')) : z_C l yX8_isSign wsX8_isSign { frames := 4, cells := 0, slots := 0, locals := 91 } (dC, dI) (tyM ca) (wM ca q) (zM sk sv) [.ref (q 0), .int a0, .ref (sk 2)] g (some r) g' := by
  refine z_enter (wM_ok ca q) (zM_ok sk sv) (by decide +kernel) rfl (Nat.le_of_ble_eq_true rfl) (fun J hC => ?_)
  have hC : z_Cx J l cX8_isSign 3 wsX8_isSign RX8 (some .boolean) { frames := 4, cells := 0, slots := 0, locals := 91 } (dC, dI) (tyM ca) (wM ca q) (zM sk sv) (z_QI (dC, dI) (tyM ca) (wM ca q) (some r) g') z_X0 := hC
  show J 0 [(0, .ref (q 0)), (1, .int a0), (2, .ref (sk 2))] [] g
  have hX8 : ∀ w ∈ wsX80, w ∈ wsX8_isSign := fun _ h => List.mem_cons_of_mem _ (List.mem_append_right _ (h))
  have hJ41 : ∀ (s0 : Int32) (g : z_G), fS_X8_isSign_S2_41 s0 g = some (r, g') → J 41 [] [.int s0] g := by
    intro s0 g hf
    unfold fS_X8_isSign_S2_41 at hf
    exact zj_zreturn hC hf dX8_isSign_41
  have hJ40 : ∀ (g : z_G), fS_X8_isSign_S2_40 g = some (r, g') → J 40 [] [] g := by
    intro g hf
    unfold fS_X8_isSign_S2_40 at hf
    refine zj_iconst (v := 0) hC dX8_isSign_40 (by decide) ?_
    exact (hJ41 0 g hf)
  unfold fS_X8_isSign_S2 at hf
  refine zj_aload_n 0 hC dX8_isSign_0 rfl ?_
  refine mg_0_50 hC hX8 (List.mem_of_getElem? (i := 1) rfl) dX8_isSign_1 ?_
  refine zj_iload_n 1 hC dX8_isSign_4 rfl ?_
  refine zj_icmp_ge 40 hC dX8_isSign_5 (by decide) (fun c1 => ?_) (fun c1 => ?_)
  · have hf := z_iteT hf c1
    exact zj_sub hC [] rfl (hJ40 g hf)
  · have hf := z_iteF hf c1
    refine zj_aload_n 0 hC dX8_isSign_8 rfl ?_
    refine mg_0_40 hC hX8 (List.mem_of_getElem? (i := 2) rfl) dX8_isSign_9 ?_
    refine zj_aload_n 0 hC dX8_isSign_12 rfl ?_
    refine mg_0_50 hC hX8 (List.mem_of_getElem? (i := 1) rfl) dX8_isSign_13 ?_
    obtain ⟨hq2, hf⟩ := z_ckE hf
    refine ma_30 hC hq2 dX8_isSign_16 ?_
    refine zj_if_le 40 hC dX8_isSign_17 (by decide) (fun c3 => ?_) (fun c3 => ?_)
    · have hf := z_iteT hf c3
      exact zj_sub hC [] rfl (hJ40 g hf)
    · have hf := z_iteF hf c3
      refine zj_aload_n 2 hC dX8_isSign_20 rfl ?_
      refine zj_aload_n 0 hC dX8_isSign_21 rfl ?_
      refine mg_0_40 hC hX8 (List.mem_of_getElem? (i := 2) rfl) dX8_isSign_22 ?_
      refine zj_aload_n 0 hC dX8_isSign_25 rfl ?_
      refine mg_0_50 hC hX8 (List.mem_of_getElem? (i := 1) rfl) dX8_isSign_26 ?_
      obtain ⟨hq4, hf⟩ := z_ckE hf
      refine ma_30 hC hq4 dX8_isSign_29 ?_
      obtain ⟨r5, g6, hq7, hf⟩ := z_bindE hf
      refine zj_callViS [.int (g 30 (Int32.toNatClampNeg (g 0 50)))] hC (cS_J0_indexOf_0f7a4_S2 l dC dI ca q sk sv (g 30 (Int32.toNatClampNeg (g 0 50))) g r5 g6 hq7) gX8_isSign_J0_indexOf_0f7a4 rfl nS_J0_indexOf_0f7a4_S2 ⟨Nat.le_of_ble_eq_true rfl, Nat.le_of_ble_eq_true rfl⟩ (fun A s H locs h hS => vk_recv h.2.1 (show 2 < 6 by decide) hS) rfl (Nat.le_of_ble_eq_true rfl) dX8_isSign_30 rfl ?_
      refine zj_if_lt 40 hC dX8_isSign_33 (by decide) (fun c8 => ?_) (fun c8 => ?_)
      · have hf := z_iteT hf c8
        exact zj_sub hC [] rfl (hJ40 g6 hf)
      · have hf := z_iteF hf c8
        refine zj_iconst (v := 1) hC dX8_isSign_36 (by decide) ?_
        refine zj_goto 41 hC dX8_isSign_37 (by decide) ?_
        exact zj_sub hC [] rfl (hJ41 1 g6 hf)

def fS_X8_ask (a0 : Int32) (g : z_G) : Option (Int32 × z_G) := z_ck (g 0 42) 8 (z_let ((21 * (g 0 42)) + (g 34 (Int32.toNatClampNeg (g 0 42)))) (fun y2 => z_bind (fS_X8_isSign_S1 a0 g) (fun r3 g4 => (if r3 = 0 then z_bo 0 (some (0, g4)) else z_ck (g4 0 50) 100 (z_ck y2 168 (z_let (z_up g4 35 (Int32.toNatClampNeg y2) (g4 30 (Int32.toNatClampNeg (g4 0 50)))) (fun g9 => z_let (z_up g9 0 50 ((g9 0 50) + 1)) (fun g10 => z_bind (fS_X8_isSign_S2 a0 g10) (fun r11 g12 => (if r11 = 0 then z_bo 0 (some (0, g12)) else z_ck (g12 0 50) 100 (z_ck y2 168 (z_let (z_up g12 36 (Int32.toNatClampNeg y2) (g12 30 (Int32.toNatClampNeg (g12 0 50)))) (fun g17 => z_let (z_up g17 0 50 ((g17 0 50) + 1)) (fun g18 => z_bind (fS_X8_numbers a0 g18) (fun r19 g20 => (if r19 = 0 then z_bo 0 (some (0, g20)) else z_ck y2 168 (z_let (z_up g20 37 (Int32.toNatClampNeg y2) (g20 0 51)) (fun g24 => z_ck (g24 0 42) 8 (z_ck (g24 0 42) 8 (z_let (z_up g24 34 (Int32.toNatClampNeg (g24 0 42)) ((g24 34 (Int32.toNatClampNeg (g24 0 42))) + 1)) (fun g27 => z_bo 1 (some (1, g27)))))))))))))))))))))))
theorem nS_X8_ask : yX8_ask.cls = RX8 ∧ yX8_ask.cls ≠ "java/lang/invoke/MethodHandle" ∧ yX8_ask.cls ≠ "java/lang/invoke/VarHandle" ∧ (parseMethodDescriptor yX8_ask.desc).map (fun d => d.parameters.length) = some 1 := by decide +kernel
set_option maxRecDepth 100000 in
set_option maxHeartbeats 4000000 in
theorem cS_X8_ask (l : Launch) (dC : Nat → ClassId) (dI : Nat → Nat → Nat) (ca : Nat → ClassId) (q : Nat → Nat) (sk sv : Nat → Nat) (a0 : Int32) (g : z_G) (r : Int32) (g' : z_G) (hf : fS_X8_ask a0 g = some (r, g')) : z_C l yX8_ask wsX8_ask { frames := 6, cells := 0, slots := 0, locals := 135 } (dC, dI) (tyM ca) (wM ca q) (zM sk sv) [.ref (q 0), .int a0] g (some r) g' := by
  refine z_enter (wM_ok ca q) (zM_ok sk sv) (by decide +kernel) rfl (Nat.le_of_ble_eq_true rfl) (fun J hC => ?_)
  have hC : z_Cx J l cX8_ask 3 wsX8_ask RX8 (some .boolean) { frames := 6, cells := 0, slots := 0, locals := 135 } (dC, dI) (tyM ca) (wM ca q) (zM sk sv) (z_QI (dC, dI) (tyM ca) (wM ca q) (some r) g') z_X0 := hC
  show J 0 [(0, .ref (q 0)), (1, .int a0)] [] g
  have hX8 : ∀ w ∈ wsX80, w ∈ wsX8_ask := fun _ h => List.mem_cons_of_mem _ (List.mem_append_right _ (h))
  unfold fS_X8_ask at hf
  refine zj_bipush (v := 21) hC dX8_ask_0 (by decide) ?_
  refine zj_aload_n 0 hC dX8_ask_2 rfl ?_
  refine mg_0_42 hC hX8 (List.mem_of_getElem? (i := 1) rfl) dX8_ask_3 ?_
  refine zj_imul hC dX8_ask_6 ?_
  refine zj_aload_n 0 hC dX8_ask_7 rfl ?_
  refine mg_0_46 hC hX8 (List.mem_of_getElem? (i := 2) rfl) dX8_ask_8 ?_
  refine zj_aload_n 0 hC dX8_ask_11 rfl ?_
  refine mg_0_42 hC hX8 (List.mem_of_getElem? (i := 1) rfl) dX8_ask_12 ?_
  obtain ⟨hq1, hf⟩ := z_ckE hf
  refine ma_34 hC hq1 dX8_ask_15 ?_
  refine zj_iadd hC dX8_ask_16 ?_
  refine zj_top (fun y2 ey2 => ?_)
  have hf := z_letE hf ey2
  refine zj_istore_n (lv1 := [(2, .int y2), (0, .ref (q 0)), (1, .int a0)]) hC dX8_ask_17 (by decide) rfl ?_
  refine zj_aload_n 1 hC dX8_ask_18 rfl ?_
  refine zj_iload_n 2 hC dX8_ask_19 rfl ?_
  refine zj_ldcws (a := sk 1) hC (fun A U H h => h.2.2.2.1) dX8_ask_20 ?_
  obtain ⟨r3, g4, hq5, hf⟩ := z_bindE hf
  refine zj_callVi [.int a0, .ref (sk 1)] hC (cS_X8_isSign_S1 l dC dI ca q sk sv a0 g r3 g4 hq5) gX8_ask_X8_isSign rfl nS_X8_isSign_S1 ⟨Nat.le_of_ble_eq_true rfl, Nat.le_of_ble_eq_true rfl⟩ 0 mo_0 rfl rfl rfl (Nat.le_of_ble_eq_true rfl) dX8_ask_23 rfl ?_
  refine zj_if_ne 31 hC dX8_ask_26 (by decide) (fun c6 => ?_) (fun c6 => ?_)
  · have hf := z_iteF hf c6
    refine zj_aload_n 1 hC dX8_ask_31 rfl ?_
    refine mg_0_47 hC hX8 (List.mem_of_getElem? (i := 3) rfl) dX8_ask_32 ?_
    refine zj_iload_n 0 hC dX8_ask_35 rfl ?_
    refine zj_aload_n 1 hC dX8_ask_36 rfl ?_
    refine mg_0_40 hC hX8 (List.mem_of_getElem? (i := 4) rfl) dX8_ask_37 ?_
    refine zj_aload_n 1 hC dX8_ask_40 rfl ?_
    refine mg_0_50 hC hX8 (List.mem_of_getElem? (i := 5) rfl) dX8_ask_41 ?_
    obtain ⟨hq7, hf⟩ := z_ckE hf
    refine ma_30 hC hq7 dX8_ask_44 ?_
    obtain ⟨hq8, hf⟩ := z_ckE hf
    refine ms_35 hC hq8 dX8_ask_45 (fun g9 eg9 => ?_)
    have hf := z_letE hf eg9
    refine zj_aload_n 1 hC dX8_ask_46 rfl ?_
    refine zj_dup hC dX8_ask_47 rfl ?_
    refine mg_0_50 hC hX8 (List.mem_of_getElem? (i := 5) rfl) dX8_ask_48 ?_
    refine zj_iconst (v := 1) hC dX8_ask_51 (by decide) ?_
    refine zj_iadd hC dX8_ask_52 ?_
    refine mp_0_50 hC hX8 (List.mem_of_getElem? (i := 5) rfl) dX8_ask_53 (fun g10 eg10 => ?_)
    have hf := z_letE hf eg10
    refine zj_aload_n 1 hC dX8_ask_56 rfl ?_
    refine zj_iload_n 2 hC dX8_ask_57 rfl ?_
    refine zj_ldcws (a := sk 2) hC (fun A U H h => h.2.2.2.2.1) dX8_ask_58 ?_
    obtain ⟨r11, g12, hq13, hf⟩ := z_bindE hf
    refine zj_callVi [.int a0, .ref (sk 2)] hC (cS_X8_isSign_S2 l dC dI ca q sk sv a0 g10 r11 g12 hq13) gX8_ask_X8_isSign rfl nS_X8_isSign_S2 ⟨Nat.le_of_ble_eq_true rfl, Nat.le_of_ble_eq_true rfl⟩ 0 mo_0 rfl rfl rfl (Nat.le_of_ble_eq_true rfl) dX8_ask_61 rfl ?_
    refine zj_if_ne 69 hC dX8_ask_64 (by decide) (fun c14 => ?_) (fun c14 => ?_)
    · have hf := z_iteF hf c14
      refine zj_aload_n 1 hC dX8_ask_69 rfl ?_
      refine mg_0_48 hC hX8 (List.mem_of_getElem? (i := 6) rfl) dX8_ask_70 ?_
      refine zj_iload_n 0 hC dX8_ask_73 rfl ?_
      refine zj_aload_n 1 hC dX8_ask_74 rfl ?_
      refine mg_0_40 hC hX8 (List.mem_of_getElem? (i := 4) rfl) dX8_ask_75 ?_
      refine zj_aload_n 1 hC dX8_ask_78 rfl ?_
      refine mg_0_50 hC hX8 (List.mem_of_getElem? (i := 5) rfl) dX8_ask_79 ?_
      obtain ⟨hq15, hf⟩ := z_ckE hf
      refine ma_30 hC hq15 dX8_ask_82 ?_
      obtain ⟨hq16, hf⟩ := z_ckE hf
      refine ms_36 hC hq16 dX8_ask_83 (fun g17 eg17 => ?_)
      have hf := z_letE hf eg17
      refine zj_aload_n 1 hC dX8_ask_84 rfl ?_
      refine zj_dup hC dX8_ask_85 rfl ?_
      refine mg_0_50 hC hX8 (List.mem_of_getElem? (i := 5) rfl) dX8_ask_86 ?_
      refine zj_iconst (v := 1) hC dX8_ask_89 (by decide) ?_
      refine zj_iadd hC dX8_ask_90 ?_
      refine mp_0_50 hC hX8 (List.mem_of_getElem? (i := 5) rfl) dX8_ask_91 (fun g18 eg18 => ?_)
      have hf := z_letE hf eg18
      refine zj_aload_n 1 hC dX8_ask_94 rfl ?_
      refine zj_iload_n 2 hC dX8_ask_95 rfl ?_
      obtain ⟨r19, g20, hq21, hf⟩ := z_bindE hf
      refine zj_callVi [.int a0] hC (cS_X8_numbers l dC dI ca q sk sv a0 g18 r19 g20 hq21) gX8_ask_X8_numbers rfl nS_X8_numbers ⟨Nat.le_of_ble_eq_true rfl, Nat.le_of_ble_eq_true rfl⟩ 0 mo_0 rfl rfl rfl (Nat.le_of_ble_eq_true rfl) dX8_ask_96 rfl ?_
      refine zj_if_ne 104 hC dX8_ask_99 (by decide) (fun c22 => ?_) (fun c22 => ?_)
      · have hf := z_iteF hf c22
        refine zj_aload_n 1 hC dX8_ask_104 rfl ?_
        refine mg_0_49 hC hX8 (List.mem_of_getElem? (i := 7) rfl) dX8_ask_105 ?_
        refine zj_iload_n 0 hC dX8_ask_108 rfl ?_
        refine zj_aload_n 1 hC dX8_ask_109 rfl ?_
        refine mg_0_51 hC hX8 (List.mem_of_getElem? (i := 8) rfl) dX8_ask_110 ?_
        obtain ⟨hq23, hf⟩ := z_ckE hf
        refine ms_37 hC hq23 dX8_ask_113 (fun g24 eg24 => ?_)
        have hf := z_letE hf eg24
        refine zj_aload_n 1 hC dX8_ask_114 rfl ?_
        refine mg_0_46 hC hX8 (List.mem_of_getElem? (i := 2) rfl) dX8_ask_115 ?_
        refine zj_aload_n 1 hC dX8_ask_118 rfl ?_
        refine mg_0_42 hC hX8 (List.mem_of_getElem? (i := 1) rfl) dX8_ask_119 ?_
        refine zj_dup2 hC dX8_ask_122 rfl rfl ?_
        obtain ⟨hq25, hf⟩ := z_ckE hf
        refine ma_34 hC hq25 dX8_ask_123 ?_
        refine zj_iconst (v := 1) hC dX8_ask_124 (by decide) ?_
        refine zj_iadd hC dX8_ask_125 ?_
        obtain ⟨hq26, hf⟩ := z_ckE hf
        refine ms_34 hC hq26 dX8_ask_126 (fun g27 eg27 => ?_)
        have hf := z_letE hf eg27
        refine zj_iconst (v := 1) hC dX8_ask_127 (by decide) ?_
        exact zj_zreturn hC hf dX8_ask_128
      · have hf := z_iteT hf c22
        refine zj_iconst (v := 0) hC dX8_ask_102 (by decide) ?_
        exact zj_zreturn hC hf dX8_ask_103
    · have hf := z_iteT hf c14
      refine zj_iconst (v := 0) hC dX8_ask_67 (by decide) ?_
      exact zj_zreturn hC hf dX8_ask_68
  · have hf := z_iteT hf c6
    refine zj_iconst (v := 0) hC dX8_ask_29 (by decide) ?_
    exact zj_zreturn hC hf dX8_ask_30

def fS_X8_reads_184 (s0 : Int32) (g : z_G) : Option (Int32 × z_G) := z_bo s0 (some (s0, g))
def fS_X8_reads_171 (x1 : Int32) (g : z_G) : Option (Int32 × z_G) := (if (g 0 50) = x1 then fS_X8_reads_184 1 g else fS_X8_reads_184 0 g)
def fS_X8_reads_148 (x1 : Int32) (g : z_G) : Option (Int32 × z_G) := z_bind (fS_X8_numbers x1 g) (fun r2 g3 => (if r2 = 0 then z_bo 0 (some (0, g3)) else z_ck (g3 0 42) 8 (z_let (z_up g3 33 (Int32.toNatClampNeg (g3 0 42)) (g3 0 51)) (fun g7 => fS_X8_reads_171 x1 g7))))
def fS_X8_reads_25 (k25 : Int32 × z_G → Option (Int32 × z_G)) (x1 : Int32) (g : z_G) : Option (Int32 × z_G) := z_bind (fS_X8_isSign_S3 x1 g) (fun r8 g9 => (if r8 = 0 then z_bind (fS_X8_isSign_S4 x1 g9) (fun r12 g13 => (if r12 = 0 then z_bo 0 (some (0, g13)) else z_let (z_up g13 0 50 ((g13 0 50) + 1)) (fun g16 => z_bind (fS_X8_isSign_S5 x1 g16) (fun r17 g18 => (if r17 = 0 then z_bo 0 (some (0, g18)) else z_ck (g18 0 50) 100 (z_ck (g18 0 42) 8 (z_let (z_up g18 32 (Int32.toNatClampNeg (g18 0 42)) (g18 30 (Int32.toNatClampNeg (g18 0 50)))) (fun g23 => z_let (z_up g23 0 50 ((g23 0 50) + 1)) (fun g24 => z_ck (g24 0 42) 8 ((if (g24 32 (Int32.toNatClampNeg (g24 0 42))) = 43 then fS_X8_reads_148 x1 g24 else z_ck (g24 0 42) 8 ((if (g24 32 (Int32.toNatClampNeg (g24 0 42))) = 45 then fS_X8_reads_148 x1 g24 else fS_X8_reads_171 x1 g24))))))))))))) else z_let (z_up g9 0 50 ((g9 0 50) + 1)) (fun g29 => z_bind (fS_X8_ask x1 g29) (fun r30 g31 => (if r30 = 0 then z_bo 0 (some (0, g31)) else k25 (x1, g31))))))
def fS_X8_reads_25_go (x1 : Int32) (g : z_G) : Option (Int32 × z_G) := z_loop (fun k (w : Int32 × z_G) => fS_X8_reads_25 k w.1 w.2) z_fuel (x1, g)
def fS_X8_reads (a0 : Int32) (g : z_G) : Option (Int32 × z_G) := z_let (z_up g 0 50 0) (fun g34 => z_ck (g34 0 42) 8 (z_let (z_up g34 34 (Int32.toNatClampNeg (g34 0 42)) 0) (fun g36 => z_bind (fS_X8_ask a0 g36) (fun r37 g38 => (if r37 = 0 then z_bo 0 (some (0, g38)) else fS_X8_reads_25_go a0 g38)))))
theorem nS_X8_reads : yX8_reads.cls = RX8 ∧ yX8_reads.cls ≠ "java/lang/invoke/MethodHandle" ∧ yX8_reads.cls ≠ "java/lang/invoke/VarHandle" ∧ (parseMethodDescriptor yX8_reads.desc).map (fun d => d.parameters.length) = some 1 := by decide +kernel
set_option maxRecDepth 100000 in
set_option maxHeartbeats 4000000 in
theorem cS_X8_reads (l : Launch) (dC : Nat → ClassId) (dI : Nat → Nat → Nat) (ca : Nat → ClassId) (q : Nat → Nat) (sk sv : Nat → Nat) (a0 : Int32) (g : z_G) (r : Int32) (g' : z_G) (hf : fS_X8_reads a0 g = some (r, g')) : z_C l yX8_reads wsX8_reads { frames := 7, cells := 0, slots := 0, locals := 157 } (dC, dI) (tyM ca) (wM ca q) (zM sk sv) [.ref (q 0), .int a0] g (some r) g' := by
  refine z_enter (wM_ok ca q) (zM_ok sk sv) (by decide +kernel) rfl (Nat.le_of_ble_eq_true rfl) (fun J hC => ?_)
  have hC : z_Cx J l cX8_reads 2 wsX8_reads RX8 (some .boolean) { frames := 7, cells := 0, slots := 0, locals := 157 } (dC, dI) (tyM ca) (wM ca q) (zM sk sv) (z_QI (dC, dI) (tyM ca) (wM ca q) (some r) g') z_X0 := hC
  show J 0 [(0, .ref (q 0)), (1, .int a0)] [] g
  have hX8 : ∀ w ∈ wsX80, w ∈ wsX8_reads := fun _ h => List.mem_cons_of_mem _ (List.mem_append_right _ (h))
  have hJ184 : ∀ (s0 : Int32) (g : z_G), fS_X8_reads_184 s0 g = some (r, g') → J 184 [] [.int s0] g := by
    intro s0 g hf
    unfold fS_X8_reads_184 at hf
    exact zj_zreturn hC hf dX8_reads_184
  have hJ171 : ∀ (x1 : Int32) (g : z_G), fS_X8_reads_171 x1 g = some (r, g') → J 171 [(0, .ref (q 0)), (1, .int x1)] [] g := by
    intro x1 g hf
    unfold fS_X8_reads_171 at hf
    refine zj_aload_n 0 hC dX8_reads_171 rfl ?_
    refine mg_0_50 hC hX8 (List.mem_of_getElem? (i := 1) rfl) dX8_reads_172 ?_
    refine zj_iload_n 1 hC dX8_reads_175 rfl ?_
    refine zj_icmp_ne 183 hC dX8_reads_176 (by decide) (fun c1 => ?_) (fun c1 => ?_)
    · have hf := z_iteF hf c1
      refine zj_iconst (v := 0) hC dX8_reads_183 (by decide) ?_
      exact zj_sub hC [] rfl (hJ184 0 g hf)
    · have hf := z_iteT hf c1
      refine zj_iconst (v := 1) hC dX8_reads_179 (by decide) ?_
      refine zj_goto 184 hC dX8_reads_180 (by decide) ?_
      exact zj_sub hC [] rfl (hJ184 1 g hf)
  have hJ148 : ∀ (x1 : Int32) (g : z_G), fS_X8_reads_148 x1 g = some (r, g') → J 148 [(0, .ref (q 0)), (1, .int x1)] [] g := by
    intro x1 g hf
    unfold fS_X8_reads_148 at hf
    refine zj_aload_n 0 hC dX8_reads_148 rfl ?_
    refine zj_iload_n 1 hC dX8_reads_149 rfl ?_
    obtain ⟨r2, g3, hq4, hf⟩ := z_bindE hf
    refine zj_callVi [.int x1] hC (cS_X8_numbers l dC dI ca q sk sv x1 g r2 g3 hq4) gX8_reads_X8_numbers rfl nS_X8_numbers ⟨Nat.le_of_ble_eq_true rfl, Nat.le_of_ble_eq_true rfl⟩ 0 mo_0 rfl rfl rfl (Nat.le_of_ble_eq_true rfl) dX8_reads_150 rfl ?_
    refine zj_if_ne 158 hC dX8_reads_153 (by decide) (fun c5 => ?_) (fun c5 => ?_)
    · have hf := z_iteF hf c5
      refine zj_aload_n 0 hC dX8_reads_158 rfl ?_
      refine mg_0_45 hC hX8 (List.mem_of_getElem? (i := 6) rfl) dX8_reads_159 ?_
      refine zj_aload_n 0 hC dX8_reads_162 rfl ?_
      refine mg_0_42 hC hX8 (List.mem_of_getElem? (i := 3) rfl) dX8_reads_163 ?_
      refine zj_aload_n 0 hC dX8_reads_166 rfl ?_
      refine mg_0_51 hC hX8 (List.mem_of_getElem? (i := 7) rfl) dX8_reads_167 ?_
      obtain ⟨hq6, hf⟩ := z_ckE hf
      refine ms_33 hC hq6 dX8_reads_170 (fun g7 eg7 => ?_)
      have hf := z_letE hf eg7
      exact (hJ171 x1 g7 hf)
    · have hf := z_iteT hf c5
      refine zj_iconst (v := 0) hC dX8_reads_156 (by decide) ?_
      exact zj_zreturn hC hf dX8_reads_157
  have hJ25 : ∀ (x1 : Int32) (g : z_G), fS_X8_reads_25_go x1 g = some (r, g') → J 25 [(0, .ref (q 0)), (1, .int x1)] [] g := by
    intro x1 g hf
    refine z_loopE (P := fun w : Int32 × z_G => J 25 [(0, .ref (q 0)), (1, .int w.1)] [] w.2) (fun k25 hk25 w hf => ?_) z_fuel (x1, g) hf
    obtain ⟨x1, g⟩ := w
    have hf : fS_X8_reads_25 k25 x1 g = some (r, g') := hf
    show J 25 [(0, .ref (q 0)), (1, .int x1)] [] g
    unfold fS_X8_reads_25 at hf
    refine zj_aload_n 0 hC dX8_reads_25 rfl ?_
    refine zj_iload_n 1 hC dX8_reads_26 rfl ?_
    refine zj_ldcws (a := sk 3) hC (fun A U H h => h.2.2.2.2.2.1) dX8_reads_27 ?_
    obtain ⟨r8, g9, hq10, hf⟩ := z_bindE hf
    refine zj_callVi [.int x1, .ref (sk 3)] hC (cS_X8_isSign_S3 l dC dI ca q sk sv x1 g r8 g9 hq10) gX8_reads_X8_isSign rfl nS_X8_isSign_S3 ⟨Nat.le_of_ble_eq_true rfl, Nat.le_of_ble_eq_true rfl⟩ 0 mo_0 rfl rfl rfl (Nat.le_of_ble_eq_true rfl) dX8_reads_30 rfl ?_
    refine zj_if_eq 56 hC dX8_reads_33 (by decide) (fun c11 => ?_) (fun c11 => ?_)
    · have hf := z_iteT hf c11
      refine zj_aload_n 0 hC dX8_reads_56 rfl ?_
      refine zj_iload_n 1 hC dX8_reads_57 rfl ?_
      refine zj_ldcws (a := sk 4) hC (fun A U H h => h.2.2.2.2.2.2.1) dX8_reads_58 ?_
      obtain ⟨r12, g13, hq14, hf⟩ := z_bindE hf
      refine zj_callVi [.int x1, .ref (sk 4)] hC (cS_X8_isSign_S4 l dC dI ca q sk sv x1 g9 r12 g13 hq14) gX8_reads_X8_isSign rfl nS_X8_isSign_S4 ⟨Nat.le_of_ble_eq_true rfl, Nat.le_of_ble_eq_true rfl⟩ 0 mo_0 rfl rfl rfl (Nat.le_of_ble_eq_true rfl) dX8_reads_61 rfl ?_
      refine zj_if_ne 69 hC dX8_reads_64 (by decide) (fun c15 => ?_) (fun c15 => ?_)
      · have hf := z_iteF hf c15
        refine zj_aload_n 0 hC dX8_reads_69 rfl ?_
        refine zj_dup hC dX8_reads_70 rfl ?_
        refine mg_0_50 hC hX8 (List.mem_of_getElem? (i := 1) rfl) dX8_reads_71 ?_
        refine zj_iconst (v := 1) hC dX8_reads_74 (by decide) ?_
        refine zj_iadd hC dX8_reads_75 ?_
        refine mp_0_50 hC hX8 (List.mem_of_getElem? (i := 1) rfl) dX8_reads_76 (fun g16 eg16 => ?_)
        have hf := z_letE hf eg16
        refine zj_aload_n 0 hC dX8_reads_79 rfl ?_
        refine zj_iload_n 1 hC dX8_reads_80 rfl ?_
        refine zj_ldcws (a := sk 5) hC (fun A U H h => h.2.2.2.2.2.2.2) dX8_reads_81 ?_
        obtain ⟨r17, g18, hq19, hf⟩ := z_bindE hf
        refine zj_callVi [.int x1, .ref (sk 5)] hC (cS_X8_isSign_S5 l dC dI ca q sk sv x1 g16 r17 g18 hq19) gX8_reads_X8_isSign rfl nS_X8_isSign_S5 ⟨Nat.le_of_ble_eq_true rfl, Nat.le_of_ble_eq_true rfl⟩ 0 mo_0 rfl rfl rfl (Nat.le_of_ble_eq_true rfl) dX8_reads_84 rfl ?_
        refine zj_if_ne 92 hC dX8_reads_87 (by decide) (fun c20 => ?_) (fun c20 => ?_)
        · have hf := z_iteF hf c20
          refine zj_aload_n 0 hC dX8_reads_92 rfl ?_
          refine mg_0_44 hC hX8 (List.mem_of_getElem? (i := 4) rfl) dX8_reads_93 ?_
          refine zj_aload_n 0 hC dX8_reads_96 rfl ?_
          refine mg_0_42 hC hX8 (List.mem_of_getElem? (i := 3) rfl) dX8_reads_97 ?_
          refine zj_aload_n 0 hC dX8_reads_100 rfl ?_
          refine mg_0_40 hC hX8 (List.mem_of_getElem? (i := 5) rfl) dX8_reads_101 ?_
          refine zj_aload_n 0 hC dX8_reads_104 rfl ?_
          refine mg_0_50 hC hX8 (List.mem_of_getElem? (i := 1) rfl) dX8_reads_105 ?_
          obtain ⟨hq21, hf⟩ := z_ckE hf
          refine ma_30 hC hq21 dX8_reads_108 ?_
          obtain ⟨hq22, hf⟩ := z_ckE hf
          refine ms_32 hC hq22 dX8_reads_109 (fun g23 eg23 => ?_)
          have hf := z_letE hf eg23
          refine zj_aload_n 0 hC dX8_reads_110 rfl ?_
          refine zj_dup hC dX8_reads_111 rfl ?_
          refine mg_0_50 hC hX8 (List.mem_of_getElem? (i := 1) rfl) dX8_reads_112 ?_
          refine zj_iconst (v := 1) hC dX8_reads_115 (by decide) ?_
          refine zj_iadd hC dX8_reads_116 ?_
          refine mp_0_50 hC hX8 (List.mem_of_getElem? (i := 1) rfl) dX8_reads_117 (fun g24 eg24 => ?_)
          have hf := z_letE hf eg24
          refine zj_aload_n 0 hC dX8_reads_120 rfl ?_
          refine mg_0_44 hC hX8 (List.mem_of_getElem? (i := 4) rfl) dX8_reads_121 ?_
          refine zj_aload_n 0 hC dX8_reads_124 rfl ?_
          refine mg_0_42 hC hX8 (List.mem_of_getElem? (i := 3) rfl) dX8_reads_125 ?_
          obtain ⟨hq25, hf⟩ := z_ckE hf
          refine ma_32 hC hq25 dX8_reads_128 ?_
          refine zj_bipush (v := 43) hC dX8_reads_129 (by decide) ?_
          refine zj_icmp_eq 148 hC dX8_reads_131 (by decide) (fun c26 => ?_) (fun c26 => ?_)
          · have hf := z_iteT hf c26
            exact (hJ148 x1 g24 hf)
          · have hf := z_iteF hf c26
            refine zj_aload_n 0 hC dX8_reads_134 rfl ?_
            refine mg_0_44 hC hX8 (List.mem_of_getElem? (i := 4) rfl) dX8_reads_135 ?_
            refine zj_aload_n 0 hC dX8_reads_138 rfl ?_
            refine mg_0_42 hC hX8 (List.mem_of_getElem? (i := 3) rfl) dX8_reads_139 ?_
            obtain ⟨hq27, hf⟩ := z_ckE hf
            refine ma_32 hC hq27 dX8_reads_142 ?_
            refine zj_bipush (v := 45) hC dX8_reads_143 (by decide) ?_
            refine zj_icmp_ne 171 hC dX8_reads_145 (by decide) (fun c28 => ?_) (fun c28 => ?_)
            · have hf := z_iteF hf c28
              exact (hJ171 x1 g24 hf)
            · have hf := z_iteT hf c28
              exact (hJ148 x1 g24 hf)
        · have hf := z_iteT hf c20
          refine zj_iconst (v := 0) hC dX8_reads_90 (by decide) ?_
          exact zj_zreturn hC hf dX8_reads_91
      · have hf := z_iteT hf c15
        refine zj_iconst (v := 0) hC dX8_reads_67 (by decide) ?_
        exact zj_zreturn hC hf dX8_reads_68
    · have hf := z_iteF hf c11
      refine zj_aload_n 0 hC dX8_reads_36 rfl ?_
      refine zj_dup hC dX8_reads_37 rfl ?_
      refine mg_0_50 hC hX8 (List.mem_of_getElem? (i := 1) rfl) dX8_reads_38 ?_
      refine zj_iconst (v := 1) hC dX8_reads_41 (by decide) ?_
      refine zj_iadd hC dX8_reads_42 ?_
      refine mp_0_50 hC hX8 (List.mem_of_getElem? (i := 1) rfl) dX8_reads_43 (fun g29 eg29 => ?_)
      have hf := z_letE hf eg29
      refine zj_aload_n 0 hC dX8_reads_46 rfl ?_
      refine zj_iload_n 1 hC dX8_reads_47 rfl ?_
      obtain ⟨r30, g31, hq32, hf⟩ := z_bindE hf
      refine zj_callVi [.int x1] hC (cS_X8_ask l dC dI ca q sk sv x1 g29 r30 g31 hq32) gX8_reads_X8_ask rfl nS_X8_ask ⟨Nat.le_of_ble_eq_true rfl, Nat.le_of_ble_eq_true rfl⟩ 0 mo_0 rfl rfl rfl (Nat.le_of_ble_eq_true rfl) dX8_reads_48 rfl ?_
      refine zj_if_ne 25 hC dX8_reads_51 (by decide) (fun c33 => ?_) (fun c33 => ?_)
      · have hf := z_iteF hf c33
        exact (hk25 (x1, g31) hf)
      · have hf := z_iteT hf c33
        refine zj_iconst (v := 0) hC dX8_reads_54 (by decide) ?_
        exact zj_zreturn hC hf dX8_reads_55
  unfold fS_X8_reads at hf
  refine zj_aload_n 0 hC dX8_reads_0 rfl ?_
  refine zj_iconst (v := 0) hC dX8_reads_1 (by decide) ?_
  refine mp_0_50 hC hX8 (List.mem_of_getElem? (i := 1) rfl) dX8_reads_2 (fun g34 eg34 => ?_)
  have hf := z_letE hf eg34
  refine zj_aload_n 0 hC dX8_reads_5 rfl ?_
  refine mg_0_46 hC hX8 (List.mem_of_getElem? (i := 2) rfl) dX8_reads_6 ?_
  refine zj_aload_n 0 hC dX8_reads_9 rfl ?_
  refine mg_0_42 hC hX8 (List.mem_of_getElem? (i := 3) rfl) dX8_reads_10 ?_
  refine zj_iconst (v := 0) hC dX8_reads_13 (by decide) ?_
  obtain ⟨hq35, hf⟩ := z_ckE hf
  refine ms_34 hC hq35 dX8_reads_14 (fun g36 eg36 => ?_)
  have hf := z_letE hf eg36
  refine zj_aload_n 0 hC dX8_reads_15 rfl ?_
  refine zj_iload_n 1 hC dX8_reads_16 rfl ?_
  obtain ⟨r37, g38, hq39, hf⟩ := z_bindE hf
  refine zj_callVi [.int a0] hC (cS_X8_ask l dC dI ca q sk sv a0 g36 r37 g38 hq39) gX8_reads_X8_ask rfl nS_X8_ask ⟨Nat.le_of_ble_eq_true rfl, Nat.le_of_ble_eq_true rfl⟩ 0 mo_0 rfl rfl rfl (Nat.le_of_ble_eq_true rfl) dX8_reads_17 rfl ?_
  refine zj_if_ne 25 hC dX8_reads_20 (by decide) (fun c40 => ?_) (fun c40 => ?_)
  · have hf := z_iteF hf c40
    exact (hJ25 a0 g38 hf)
  · have hf := z_iteT hf c40
    refine zj_iconst (v := 0) hC dX8_reads_23 (by decide) ?_
    exact zj_zreturn hC hf dX8_reads_24

def fS_X8_rule_57  (g : z_G) : Option (Int32 × z_G) := some ((-41), g)
def fS_X8_rule_94 (s0 : Int32) (s1 : Int32) (g : z_G) : Option (Int32 × z_G) := z_ck s1 8 (z_let (z_up g 31 (Int32.toNatClampNeg s1) s0) (fun g2 => z_let (z_up g2 0 42 ((g2 0 42) + 1)) (fun g3 => some ((g3 0 42) - 1, g3))))
def fS_X8_rule_60 (x2 : Int32) (g : z_G) : Option (Int32 × z_G) := (if x2 = 0 then some ((-1) - (g 0 50), g) else (if (g 0 20) = 0 then fS_X8_rule_94 0 (g 0 42) g else fS_X8_rule_94 (g 0 21) (g 0 42) g))
def fS_X8_rule (g : z_G) : Option (Int32 × z_G) := z_let (z_up g 0 0 0) (fun g6 => z_let (g6 0 41) (fun y7 => z_let (z_up g6 0 41 0) (fun g8 => (if (g8 0 42) = 8 then some ((-100), g8) else z_let (if 40 < y7 then 40 else y7) (fun y10 => z_bind (fS_X8_reads y10 g8) (fun r11 g12 => (if y7 ≤ 40 then fS_X8_rule_60 r11 g12 else (if r11 = 0 then (if (g12 0 50) < 40 then fS_X8_rule_60 r11 g12 else fS_X8_rule_57 g12) else fS_X8_rule_57 g12))))))))
theorem nS_X8_rule : yX8_rule.cls = RX8 ∧ yX8_rule.cls ≠ "java/lang/invoke/MethodHandle" ∧ yX8_rule.cls ≠ "java/lang/invoke/VarHandle" ∧ (parseMethodDescriptor yX8_rule.desc).map (fun d => d.parameters.length) = some 0 := by decide +kernel
set_option maxRecDepth 100000 in
set_option maxHeartbeats 4000000 in
theorem cS_X8_rule (l : Launch) (dC : Nat → ClassId) (dI : Nat → Nat → Nat) (ca : Nat → ClassId) (q : Nat → Nat) (sk sv : Nat → Nat) (g : z_G) (r : Int32) (g' : z_G) (hf : fS_X8_rule g = some (r, g')) : z_C l yX8_rule wsX8_rule { frames := 8, cells := 0, slots := 0, locals := 178 } (dC, dI) (tyM ca) (wM ca q) (zM sk sv) [.ref (q 0)] g (some r) g' := by
  refine z_enter (wM_ok ca q) (zM_ok sk sv) (by decide +kernel) rfl (Nat.le_of_ble_eq_true rfl) (fun J hC => ?_)
  have hC : z_Cx J l cX8_rule 3 wsX8_rule RX8 (some .int) { frames := 8, cells := 0, slots := 0, locals := 178 } (dC, dI) (tyM ca) (wM ca q) (zM sk sv) (z_QI (dC, dI) (tyM ca) (wM ca q) (some r) g') z_X0 := hC
  show J 0 [(0, .ref (q 0))] [] g
  have hX8 : ∀ w ∈ wsX80, w ∈ wsX8_rule := fun _ h => List.mem_cons_of_mem _ (List.mem_append_right _ (h))
  have hJ57 : ∀ (g : z_G), fS_X8_rule_57 g = some (r, g') → J 57 [] [] g := by
    intro g hf
    unfold fS_X8_rule_57 at hf
    refine zj_bipush (v := (-41)) hC dX8_rule_57 (by decide) ?_
    exact zj_ireturn hC hf dX8_rule_59
  have hJ94 : ∀ (s0 : Int32) (s1 : Int32) (g : z_G), fS_X8_rule_94 s0 s1 g = some (r, g') → J 94 [(0, .ref (q 0))] [.int s0, .int s1, .ref (q 31)] g := by
    intro s0 s1 g hf
    unfold fS_X8_rule_94 at hf
    obtain ⟨hq1, hf⟩ := z_ckE hf
    refine ms_31 hC hq1 dX8_rule_94 (fun g2 eg2 => ?_)
    have hf := z_letE hf eg2
    refine zj_aload_n 0 hC dX8_rule_95 rfl ?_
    refine zj_dup hC dX8_rule_96 rfl ?_
    refine mg_0_42 hC hX8 (List.mem_of_getElem? (i := 3) rfl) dX8_rule_97 ?_
    refine zj_iconst (v := 1) hC dX8_rule_100 (by decide) ?_
    refine zj_iadd hC dX8_rule_101 ?_
    refine mp_0_42 hC hX8 (List.mem_of_getElem? (i := 3) rfl) dX8_rule_102 (fun g3 eg3 => ?_)
    have hf := z_letE hf eg3
    refine zj_aload_n 0 hC dX8_rule_105 rfl ?_
    refine mg_0_42 hC hX8 (List.mem_of_getElem? (i := 3) rfl) dX8_rule_106 ?_
    refine zj_iconst (v := 1) hC dX8_rule_109 (by decide) ?_
    refine zj_isub hC dX8_rule_110 ?_
    exact zj_ireturn hC hf dX8_rule_111
  have hJ60 : ∀ (x2 : Int32) (g : z_G), fS_X8_rule_60 x2 g = some (r, g') → J 60 [(0, .ref (q 0)), (2, .int x2)] [] g := by
    intro x2 g hf
    unfold fS_X8_rule_60 at hf
    refine zj_iload_n 1 hC dX8_rule_60 rfl ?_
    refine zj_if_ne 71 hC dX8_rule_61 (by decide) (fun c4 => ?_) (fun c4 => ?_)
    · have hf := z_iteF hf c4
      refine zj_aload_n 0 hC dX8_rule_71 rfl ?_
      refine mg_0_43 hC hX8 (List.mem_of_getElem? (i := 9) rfl) dX8_rule_72 ?_
      refine zj_aload_n 0 hC dX8_rule_75 rfl ?_
      refine mg_0_42 hC hX8 (List.mem_of_getElem? (i := 3) rfl) dX8_rule_76 ?_
      refine zj_aload_n 0 hC dX8_rule_79 rfl ?_
      refine mg_0_20 hC hX8 (List.mem_of_getElem? (i := 10) rfl) dX8_rule_80 ?_
      refine zj_if_eq 93 hC dX8_rule_83 (by decide) (fun c5 => ?_) (fun c5 => ?_)
      · have hf := z_iteT hf c5
        refine zj_iconst (v := 0) hC dX8_rule_93 (by decide) ?_
        exact zj_sub hC [0] rfl (hJ94 0 (g 0 42) g hf)
      · have hf := z_iteF hf c5
        refine zj_aload_n 0 hC dX8_rule_86 rfl ?_
        refine mg_0_21 hC hX8 (List.mem_of_getElem? (i := 11) rfl) dX8_rule_87 ?_
        refine zj_goto 94 hC dX8_rule_90 (by decide) ?_
        exact zj_sub hC [0] rfl (hJ94 (g 0 21) (g 0 42) g hf)
    · have hf := z_iteT hf c4
      refine zj_iconst (v := (-1)) hC dX8_rule_64 (by decide) ?_
      refine zj_aload_n 0 hC dX8_rule_65 rfl ?_
      refine mg_0_50 hC hX8 (List.mem_of_getElem? (i := 8) rfl) dX8_rule_66 ?_
      refine zj_isub hC dX8_rule_69 ?_
      exact zj_ireturn hC hf dX8_rule_70
  unfold fS_X8_rule at hf
  refine zj_aload_n 0 hC dX8_rule_0 rfl ?_
  refine zj_iconst (v := 0) hC dX8_rule_1 (by decide) ?_
  refine mp_0_0 hC hX8 (List.mem_of_getElem? (i := 1) rfl) dX8_rule_2 (fun g6 eg6 => ?_)
  have hf := z_letE hf eg6
  refine zj_aload_n 0 hC dX8_rule_5 rfl ?_
  refine mg_0_41 hC hX8 (List.mem_of_getElem? (i := 2) rfl) dX8_rule_6 ?_
  refine zj_top (fun y7 ey7 => ?_)
  have hf := z_letE hf ey7
  refine zj_istore_n (lv1 := [(1, .int y7), (0, .ref (q 0))]) hC dX8_rule_9 (by decide) rfl ?_
  refine zj_aload_n 1 hC dX8_rule_10 rfl ?_
  refine zj_iconst (v := 0) hC dX8_rule_11 (by decide) ?_
  refine mp_0_41 hC hX8 (List.mem_of_getElem? (i := 2) rfl) dX8_rule_12 (fun g8 eg8 => ?_)
  have hf := z_letE hf eg8
  refine zj_aload_n 1 hC dX8_rule_15 rfl ?_
  refine mg_0_42 hC hX8 (List.mem_of_getElem? (i := 3) rfl) dX8_rule_16 ?_
  refine zj_bipush (v := 8) hC dX8_rule_19 (by decide) ?_
  refine zj_icmp_ne 27 hC dX8_rule_21 (by decide) (fun c9 => ?_) (fun c9 => ?_)
  · have hf := z_iteF hf c9
    refine zj_aload_n 1 hC dX8_rule_27 rfl ?_
    refine zj_iload_n 0 hC dX8_rule_28 rfl ?_
    refine zj_bipush (v := 40) hC dX8_rule_29 (by decide) ?_
    refine zj_min hC (List.mem_of_getElem? (i := 4) rfl) (List.mem_of_getElem? (i := 5) rfl) (List.mem_of_getElem? (i := 6) rfl) (List.mem_of_getElem? (i := 7) rfl) (Nat.le_of_ble_eq_true rfl) (Nat.le_of_ble_eq_true rfl) dX8_rule_31 ?_
    refine zj_top (fun y10 ey10 => ?_)
    have hf := z_letE hf ey10
    obtain ⟨r11, g12, hq13, hf⟩ := z_bindE hf
    refine zj_callVi [.int y10] hC (cS_X8_reads l dC dI ca q sk sv y10 g8 r11 g12 hq13) gX8_rule_X8_reads rfl nS_X8_reads ⟨Nat.le_of_ble_eq_true rfl, Nat.le_of_ble_eq_true rfl⟩ 0 mo_0 rfl rfl rfl (Nat.le_of_ble_eq_true rfl) dX8_rule_34 rfl ?_
    refine zj_istore_n (lv1 := [(2, .int r11), (1, .int y7), (0, .ref (q 0))]) hC dX8_rule_37 (by decide) rfl ?_
    refine zj_iload_n 1 hC dX8_rule_38 rfl ?_
    refine zj_bipush (v := 40) hC dX8_rule_39 (by decide) ?_
    refine zj_icmp_le 60 hC dX8_rule_41 (by decide) (fun c14 => ?_) (fun c14 => ?_)
    · have hf := z_iteT hf c14
      exact zj_sub hC [2, 0] rfl (hJ60 r11 g12 hf)
    · have hf := z_iteF hf c14
      refine zj_iload_n 0 hC dX8_rule_44 rfl ?_
      refine zj_if_ne 57 hC dX8_rule_45 (by decide) (fun c15 => ?_) (fun c15 => ?_)
      · have hf := z_iteF hf c15
        exact zj_sub hC [] rfl (hJ57 g12 hf)
      · have hf := z_iteT hf c15
        refine zj_aload_n 2 hC dX8_rule_48 rfl ?_
        refine mg_0_50 hC hX8 (List.mem_of_getElem? (i := 8) rfl) dX8_rule_49 ?_
        refine zj_bipush (v := 40) hC dX8_rule_52 (by decide) ?_
        refine zj_icmp_lt 60 hC dX8_rule_54 (by decide) (fun c16 => ?_) (fun c16 => ?_)
        · have hf := z_iteT hf c16
          exact zj_sub hC [2, 0] rfl (hJ60 r11 g12 hf)
        · have hf := z_iteF hf c16
          exact zj_sub hC [] rfl (hJ57 g12 hf)
  · have hf := z_iteT hf c9
    refine zj_bipush (v := (-100)) hC dX8_rule_24 (by decide) ?_
    exact zj_ireturn hC hf dX8_rule_26
