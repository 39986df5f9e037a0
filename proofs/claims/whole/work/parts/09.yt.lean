def fY_X7_cellT_22  (g : z_G) : Option (Int32 × z_G) := some (0, g)
def fY_X7_cellT_170 (s0 : Int32) (g : z_G) : Option (Int32 × z_G) := none
def fY_X7_cellT (a0 : Int32) (a1 : Int32) (a2 : Int32) (g : z_G) : Option (Int32 × z_G) := z_bind (fY_X2_holds a0 a1 g) (fun r1 g2 => (if r1 = 0 then fY_X7_cellT_22 g2 else (if a2 < 0 then fY_X7_cellT_22 g2 else (if a2 ≤ 8 then z_bind (fY_X2_at a0 a1 g2) (fun r7 g8 => (if a2 = 0 then z_ck r7 64 (none) else (if a2 = 1 then z_ck r7 64 (none) else (if a2 = 2 then z_ck r7 64 (none) else (if a2 = 3 then z_ck r7 64 (none) else (if a2 = 4 then z_ck r7 64 (none) else (if a2 = 5 then z_ck r7 64 ((if (g8 9 (Int32.toNatClampNeg r7)) = 0 then fY_X7_cellT_170 (-1) g8 else z_ck r7 64 (fY_X7_cellT_170 (g8 15 (Int32.toNatClampNeg r7)) g8))) else (if a2 = 6 then z_ck r7 64 (none) else (if a2 = 7 then z_ck r7 64 (none) else z_ck r7 64 (none)))))))))) else fY_X7_cellT_22 g2))))
set_option maxRecDepth 100000 in
set_option maxHeartbeats 4000000 in
theorem cY_X7_cellT (l : Launch) (dC : Nat → ClassId) (dI : Nat → Nat → Nat) (ca : Nat → ClassId) (q : Nat → Nat) (tt : Nat → Nat) (hls : l.stackTraces = false) (a0 : Int32) (a1 : Int32) (a2 : Int32) (g : z_G) (r : Int32) (g' : z_G) (hf : fY_X7_cellT a0 a1 a2 g = some (r, g')) : z_CT l yX7_cell wsX7_cell { frames := 6, cells := 1, slots := 6, locals := 89 } (dC, dI) (tyY ca) (wY ca q) (zY tt) [.ref (q 0), .int a0, .int a1, .int a2] g g' := by
  refine z_enterT hls (wY_ok ca q) (zY_ok tt) (by decide +kernel) rfl (Nat.le_of_ble_eq_true rfl) (fun J hC => ?_)
  have hC : z_Cx J l cX7_cell 5 wsX7_cell RX7 (some .int) { frames := 6, cells := 1, slots := 6, locals := 89 } (dC, dI) (tyY ca) (wY ca q) (zY tt) (z_QT (dC, dI) (tyY ca) (wY ca q) g') (z_XE l) := hC
  show J 0 [(0, .ref (q 0)), (1, .int a0), (2, .int a1), (3, .int a2)] [] g
  have hX2 : ∀ w ∈ wsX20, w ∈ wsX7_cell := fun _ h => List.mem_cons_of_mem _ (List.mem_append_left _ (List.mem_append_right _ (h)))
  have hX7 : ∀ w ∈ wsX70, w ∈ wsX7_cell := fun _ h => List.mem_cons_of_mem _ (List.mem_append_left _ (List.mem_append_left _ (List.mem_append_right _ (h))))
  have hJ22 : ∀ (g : z_G), fY_X7_cellT_22 g = some (r, g') → J 22 [] [] g := by
    intro g hf
    unfold fY_X7_cellT_22 at hf
    cases hf
    exact zj_throw (names := ["java/lang/RuntimeException", "java/lang/Exception"]) hC (by decide +kernel) (List.mem_of_getElem? (i := 1) rfl) (List.mem_of_getElem? (i := 2) rfl) (fun w h => List.mem_cons_of_mem _ (List.mem_append_right _ (h))) (by decide +kernel) (by decide +kernel) (fun A U H h => h.2.2.2.2.1) (fun A U H h => h.2.2.2.2.2.1) (fun A U H h => h.2.2.2.2.2.2) dX7_cell_22 dX7_cell_25 dX7_cell_26 dX7_cell_29 (Nat.le_of_ble_eq_true rfl) (Nat.le_of_ble_eq_true rfl) (Nat.le_of_ble_eq_true rfl) (Nat.le_of_ble_eq_true rfl)
  have hJ170 : ∀ (s0 : Int32) (g : z_G), fY_X7_cellT_170 s0 g = some (r, g') → J 170 [] [.int s0] g := by
    intro s0 g hf
    unfold fY_X7_cellT_170 at hf
    cases hf
  unfold fY_X7_cellT at hf
  refine zj_aload_n 0 hC dX7_cell_0 rfl ?_
  refine yg_0_0 hC hX7 (List.mem_of_getElem? (i := 3) rfl) dX7_cell_1 ?_
  refine zj_iload_n 1 hC dX7_cell_4 rfl ?_
  refine zj_iload_n 2 hC dX7_cell_5 rfl ?_
  obtain ⟨r1, g2, hq3, hf⟩ := z_bindE hf
  refine zj_callVi [.int a0, .int a1] hC (cY_X2_holds l dC dI ca q tt a0 a1 g r1 g2 hq3) gX7_cell_X2_holds rfl nY_X2_holds ⟨Nat.le_of_ble_eq_true rfl, Nat.le_of_ble_eq_true rfl⟩ 1 yo_1 rfl rfl rfl (Nat.le_of_ble_eq_true rfl) dX7_cell_6 rfl ?_
  refine zj_if_eq 22 hC dX7_cell_9 (by decide) (fun c4 => ?_) (fun c4 => ?_)
  · have hf := z_iteT hf c4
    exact zj_sub hC [] rfl (hJ22 g2 hf)
  · have hf := z_iteF hf c4
    refine zj_iload_n 3 hC dX7_cell_12 rfl ?_
    refine zj_if_lt 22 hC dX7_cell_13 (by decide) (fun c5 => ?_) (fun c5 => ?_)
    · have hf := z_iteT hf c5
      exact zj_sub hC [] rfl (hJ22 g2 hf)
    · have hf := z_iteF hf c5
      refine zj_iload_n 3 hC dX7_cell_16 rfl ?_
      refine zj_bipush (v := 8) hC dX7_cell_17 (by decide) ?_
      refine zj_icmp_le 30 hC dX7_cell_19 (by decide) (fun c6 => ?_) (fun c6 => ?_)
      · have hf := z_iteT hf c6
        refine zj_aload_n 0 hC dX7_cell_30 rfl ?_
        refine yg_0_0 hC hX7 (List.mem_of_getElem? (i := 3) rfl) dX7_cell_31 ?_
        refine zj_iload_n 1 hC dX7_cell_34 rfl ?_
        refine zj_iload_n 2 hC dX7_cell_35 rfl ?_
        obtain ⟨r7, g8, hq9, hf⟩ := z_bindE hf
        refine zj_callVi [.int a0, .int a1] hC (cY_X2_at l dC dI ca q tt a0 a1 g2 r7 g8 hq9) gX7_cell_X2_at rfl nY_X2_at ⟨Nat.le_of_ble_eq_true rfl, Nat.le_of_ble_eq_true rfl⟩ 1 yo_1 rfl rfl rfl (Nat.le_of_ble_eq_true rfl) dX7_cell_36 rfl ?_
        refine zj_istore (lv1 := [(4, .int r7), (0, .ref (q 0)), (1, .int a0), (2, .int a1), (3, .int a2)]) hC dX7_cell_39 (by decide) rfl ?_
        refine zj_iload_n 4 hC dX7_cell_41 rfl ?_
        by_cases c10 : a2 = 0
        · have hf := z_iteT hf c10
          refine zj_tabIn 88 hC dX7_cell_42 c10 (by decide) (by decide) rfl (by decide) ?_
          refine zj_aload_n 1 hC dX7_cell_88 rfl ?_
          refine yg_0_0 hC hX7 (List.mem_of_getElem? (i := 3) rfl) dX7_cell_89 ?_
          refine yg_1_7 hC hX2 (List.mem_of_getElem? (i := 4) rfl) dX7_cell_92 ?_
          refine zj_iload 0 hC dX7_cell_95 rfl ?_
          obtain ⟨hq11, hf⟩ := z_ckE hf
          refine ya_10 hC hq11 dX7_cell_97 ?_
          cases hf
        have hf := z_iteF hf c10
        by_cases c12 : a2 = 1
        · have hf := z_iteT hf c12
          refine zj_tabIn 99 hC dX7_cell_42 c12 (by decide) (by decide) rfl (by decide) ?_
          refine zj_aload_n 1 hC dX7_cell_99 rfl ?_
          refine yg_0_0 hC hX7 (List.mem_of_getElem? (i := 3) rfl) dX7_cell_100 ?_
          refine yg_1_8 hC hX2 (List.mem_of_getElem? (i := 5) rfl) dX7_cell_103 ?_
          refine zj_iload 0 hC dX7_cell_106 rfl ?_
          obtain ⟨hq13, hf⟩ := z_ckE hf
          refine ya_11 hC hq13 dX7_cell_108 ?_
          cases hf
        have hf := z_iteF hf c12
        by_cases c14 : a2 = 2
        · have hf := z_iteT hf c14
          refine zj_tabIn 110 hC dX7_cell_42 c14 (by decide) (by decide) rfl (by decide) ?_
          refine zj_aload_n 1 hC dX7_cell_110 rfl ?_
          refine yg_0_0 hC hX7 (List.mem_of_getElem? (i := 3) rfl) dX7_cell_111 ?_
          refine yg_1_9 hC hX2 (List.mem_of_getElem? (i := 6) rfl) dX7_cell_114 ?_
          refine zj_iload 0 hC dX7_cell_117 rfl ?_
          obtain ⟨hq15, hf⟩ := z_ckE hf
          refine ya_12 hC hq15 dX7_cell_119 ?_
          cases hf
        have hf := z_iteF hf c14
        by_cases c16 : a2 = 3
        · have hf := z_iteT hf c16
          refine zj_tabIn 121 hC dX7_cell_42 c16 (by decide) (by decide) rfl (by decide) ?_
          refine zj_aload_n 1 hC dX7_cell_121 rfl ?_
          refine yg_0_0 hC hX7 (List.mem_of_getElem? (i := 3) rfl) dX7_cell_122 ?_
          refine yg_1_10 hC hX2 (List.mem_of_getElem? (i := 7) rfl) dX7_cell_125 ?_
          refine zj_iload 0 hC dX7_cell_128 rfl ?_
          obtain ⟨hq17, hf⟩ := z_ckE hf
          refine ya_13 hC hq17 dX7_cell_130 ?_
          cases hf
        have hf := z_iteF hf c16
        by_cases c18 : a2 = 4
        · have hf := z_iteT hf c18
          refine zj_tabIn 132 hC dX7_cell_42 c18 (by decide) (by decide) rfl (by decide) ?_
          refine zj_aload_n 1 hC dX7_cell_132 rfl ?_
          refine yg_0_0 hC hX7 (List.mem_of_getElem? (i := 3) rfl) dX7_cell_133 ?_
          refine yg_1_11 hC hX2 (List.mem_of_getElem? (i := 8) rfl) dX7_cell_136 ?_
          refine zj_iload 0 hC dX7_cell_139 rfl ?_
          obtain ⟨hq19, hf⟩ := z_ckE hf
          refine ya_14 hC hq19 dX7_cell_141 ?_
          cases hf
        have hf := z_iteF hf c18
        by_cases c20 : a2 = 5
        · have hf := z_iteT hf c20
          refine zj_tabIn 143 hC dX7_cell_42 c20 (by decide) (by decide) rfl (by decide) ?_
          refine zj_aload_n 1 hC dX7_cell_143 rfl ?_
          refine yg_0_0 hC hX7 (List.mem_of_getElem? (i := 3) rfl) dX7_cell_144 ?_
          refine yg_1_6 hC hX2 (List.mem_of_getElem? (i := 9) rfl) dX7_cell_147 ?_
          refine zj_iload 0 hC dX7_cell_150 rfl ?_
          obtain ⟨hq21, hf⟩ := z_ckE hf
          refine ya_9 hC hq21 dX7_cell_152 ?_
          refine zj_if_eq 169 hC dX7_cell_153 (by decide) (fun c22 => ?_) (fun c22 => ?_)
          · have hf := z_iteT hf c22
            refine zj_iconst (v := (-1)) hC dX7_cell_169 (by decide) ?_
            exact zj_sub hC [] rfl (hJ170 (-1) g8 hf)
          · have hf := z_iteF hf c22
            refine zj_aload_n 1 hC dX7_cell_156 rfl ?_
            refine yg_0_0 hC hX7 (List.mem_of_getElem? (i := 3) rfl) dX7_cell_157 ?_
            refine yg_1_12 hC hX2 (List.mem_of_getElem? (i := 10) rfl) dX7_cell_160 ?_
            refine zj_iload 0 hC dX7_cell_163 rfl ?_
            obtain ⟨hq23, hf⟩ := z_ckE hf
            refine ya_15 hC hq23 dX7_cell_165 ?_
            refine zj_goto 170 hC dX7_cell_166 (by decide) ?_
            exact zj_sub hC [] rfl (hJ170 (g8 15 (Int32.toNatClampNeg r7)) g8 hf)
        have hf := z_iteF hf c20
        by_cases c24 : a2 = 6
        · have hf := z_iteT hf c24
          refine zj_tabIn 171 hC dX7_cell_42 c24 (by decide) (by decide) rfl (by decide) ?_
          refine zj_aload_n 1 hC dX7_cell_171 rfl ?_
          refine yg_0_0 hC hX7 (List.mem_of_getElem? (i := 3) rfl) dX7_cell_172 ?_
          refine yg_1_13 hC hX2 (List.mem_of_getElem? (i := 11) rfl) dX7_cell_175 ?_
          refine zj_iload 0 hC dX7_cell_178 rfl ?_
          obtain ⟨hq25, hf⟩ := z_ckE hf
          refine ya_16 hC hq25 dX7_cell_180 ?_
          cases hf
        have hf := z_iteF hf c24
        by_cases c26 : a2 = 7
        · have hf := z_iteT hf c26
          refine zj_tabIn 182 hC dX7_cell_42 c26 (by decide) (by decide) rfl (by decide) ?_
          refine zj_aload_n 1 hC dX7_cell_182 rfl ?_
          refine yg_0_0 hC hX7 (List.mem_of_getElem? (i := 3) rfl) dX7_cell_183 ?_
          refine yg_1_14 hC hX2 (List.mem_of_getElem? (i := 12) rfl) dX7_cell_186 ?_
          refine zj_iload 0 hC dX7_cell_189 rfl ?_
          obtain ⟨hq27, hf⟩ := z_ckE hf
          refine ya_17 hC hq27 dX7_cell_191 ?_
          cases hf
        have hf := z_iteF hf c26
        refine zj_tabOut 193 hC dX7_cell_42 (by have ec10 := lv_neT (a := 0) c10 rfl; have ec12 := lv_neT (a := 1) c12 rfl; have ec14 := lv_neT (a := 2) c14 rfl; have ec16 := lv_neT (a := 3) c16 rfl; have ec18 := lv_neT (a := 4) c18 rfl; have ec20 := lv_neT (a := 5) c20 rfl; have ec24 := lv_neT (a := 6) c24 rfl; have ec26 := lv_neT (a := 7) c26 rfl; omega) (by decide) ?_
        refine zj_aload_n 1 hC dX7_cell_193 rfl ?_
        refine yg_0_0 hC hX7 (List.mem_of_getElem? (i := 3) rfl) dX7_cell_194 ?_
        refine yg_1_15 hC hX2 (List.mem_of_getElem? (i := 13) rfl) dX7_cell_197 ?_
        refine zj_iload 0 hC dX7_cell_200 rfl ?_
        obtain ⟨hq28, hf⟩ := z_ckE hf
        refine ya_18 hC hq28 dX7_cell_202 ?_
        cases hf
      · have hf := z_iteF hf c6
        exact zj_sub hC [] rfl (hJ22 g2 hf)

def fY_X7_standT_20  (g : z_G) : Option (Int32 × z_G) := some (0, g)
def fY_X7_standT (a0 : Int32) (a1 : Int32) (g : z_G) : Option (Int32 × z_G) := z_bind (fY_X6_has a0 g) (fun r1 g2 => (if r1 = 0 then fY_X7_standT_20 g2 else (if a1 < 0 then fY_X7_standT_20 g2 else (if a1 ≤ 3 then (if a1 = 0 then z_ck a0 12 (none) else (if a1 = 1 then z_ck a0 12 (none) else (if a1 = 2 then z_ck a0 12 (none) else z_bind (fY_X6_yearsLeft a0 g2) (fun r13 g14 => none)))) else fY_X7_standT_20 g2))))
set_option maxRecDepth 100000 in
set_option maxHeartbeats 4000000 in
theorem cY_X7_standT (l : Launch) (dC : Nat → ClassId) (dI : Nat → Nat → Nat) (ca : Nat → ClassId) (q : Nat → Nat) (tt : Nat → Nat) (hls : l.stackTraces = false) (a0 : Int32) (a1 : Int32) (g : z_G) (r : Int32) (g' : z_G) (hf : fY_X7_standT a0 a1 g = some (r, g')) : z_CT l yX7_stand wsX7_stand { frames := 6, cells := 1, slots := 6, locals := 89 } (dC, dI) (tyY ca) (wY ca q) (zY tt) [.ref (q 0), .int a0, .int a1] g g' := by
  refine z_enterT hls (wY_ok ca q) (zY_ok tt) (by decide +kernel) rfl (Nat.le_of_ble_eq_true rfl) (fun J hC => ?_)
  have hC : z_Cx J l cX7_stand 3 wsX7_stand RX7 (some .int) { frames := 6, cells := 1, slots := 6, locals := 89 } (dC, dI) (tyY ca) (wY ca q) (zY tt) (z_QT (dC, dI) (tyY ca) (wY ca q) g') (z_XE l) := hC
  show J 0 [(0, .ref (q 0)), (1, .int a0), (2, .int a1)] [] g
  have hX6 : ∀ w ∈ wsX60, w ∈ wsX7_stand := fun _ h => List.mem_cons_of_mem _ (List.mem_append_left _ (List.mem_append_right _ (h)))
  have hX7 : ∀ w ∈ wsX70, w ∈ wsX7_stand := fun _ h => List.mem_cons_of_mem _ (List.mem_append_left _ (List.mem_append_left _ (List.mem_append_right _ (h))))
  have hJ20 : ∀ (g : z_G), fY_X7_standT_20 g = some (r, g') → J 20 [] [] g := by
    intro g hf
    unfold fY_X7_standT_20 at hf
    cases hf
    exact zj_throw (names := ["java/lang/RuntimeException", "java/lang/Exception"]) hC (by decide +kernel) (List.mem_of_getElem? (i := 1) rfl) (List.mem_of_getElem? (i := 2) rfl) (fun w h => List.mem_cons_of_mem _ (List.mem_append_right _ (h))) (by decide +kernel) (by decide +kernel) (fun A U H h => h.2.2.2.2.1) (fun A U H h => h.2.2.2.2.2.1) (fun A U H h => h.2.2.2.2.2.2) dX7_stand_20 dX7_stand_23 dX7_stand_24 dX7_stand_27 (Nat.le_of_ble_eq_true rfl) (Nat.le_of_ble_eq_true rfl) (Nat.le_of_ble_eq_true rfl) (Nat.le_of_ble_eq_true rfl)
  unfold fY_X7_standT at hf
  refine zj_aload_n 0 hC dX7_stand_0 rfl ?_
  refine yg_0_6 hC hX7 (List.mem_of_getElem? (i := 3) rfl) dX7_stand_1 ?_
  refine zj_iload_n 1 hC dX7_stand_4 rfl ?_
  obtain ⟨r1, g2, hq3, hf⟩ := z_bindE hf
  refine zj_callVi [.int a0] hC (cY_X6_has l dC dI ca q tt a0 g r1 g2 hq3) gX7_stand_X6_has rfl nY_X6_has ⟨Nat.le_of_ble_eq_true rfl, Nat.le_of_ble_eq_true rfl⟩ 7 yo_7 rfl rfl rfl (Nat.le_of_ble_eq_true rfl) dX7_stand_5 rfl ?_
  refine zj_if_eq 20 hC dX7_stand_8 (by decide) (fun c4 => ?_) (fun c4 => ?_)
  · have hf := z_iteT hf c4
    exact zj_sub hC [] rfl (hJ20 g2 hf)
  · have hf := z_iteF hf c4
    refine zj_iload_n 2 hC dX7_stand_11 rfl ?_
    refine zj_if_lt 20 hC dX7_stand_12 (by decide) (fun c5 => ?_) (fun c5 => ?_)
    · have hf := z_iteT hf c5
      exact zj_sub hC [] rfl (hJ20 g2 hf)
    · have hf := z_iteF hf c5
      refine zj_iload_n 2 hC dX7_stand_15 rfl ?_
      refine zj_iconst (v := 3) hC dX7_stand_16 (by decide) ?_
      refine zj_icmp_le 28 hC dX7_stand_17 (by decide) (fun c6 => ?_) (fun c6 => ?_)
      · have hf := z_iteT hf c6
        refine zj_iload_n 2 hC dX7_stand_28 rfl ?_
        by_cases c7 : a1 = 0
        · have hf := z_iteT hf c7
          refine zj_tabIn 56 hC dX7_stand_29 c7 (by decide) (by decide) rfl (by decide) ?_
          refine zj_aload_n 0 hC dX7_stand_56 rfl ?_
          refine yg_0_6 hC hX7 (List.mem_of_getElem? (i := 3) rfl) dX7_stand_57 ?_
          refine yg_7_1 hC hX6 (List.mem_of_getElem? (i := 4) rfl) dX7_stand_60 ?_
          refine zj_iload_n 1 hC dX7_stand_63 rfl ?_
          obtain ⟨hq8, hf⟩ := z_ckE hf
          refine ya_44 hC hq8 dX7_stand_64 ?_
          cases hf
        have hf := z_iteF hf c7
        by_cases c9 : a1 = 1
        · have hf := z_iteT hf c9
          refine zj_tabIn 66 hC dX7_stand_29 c9 (by decide) (by decide) rfl (by decide) ?_
          refine zj_aload_n 0 hC dX7_stand_66 rfl ?_
          refine yg_0_6 hC hX7 (List.mem_of_getElem? (i := 3) rfl) dX7_stand_67 ?_
          refine yg_7_2 hC hX6 (List.mem_of_getElem? (i := 5) rfl) dX7_stand_70 ?_
          refine zj_iload_n 1 hC dX7_stand_73 rfl ?_
          obtain ⟨hq10, hf⟩ := z_ckE hf
          refine ya_45 hC hq10 dX7_stand_74 ?_
          cases hf
        have hf := z_iteF hf c9
        by_cases c11 : a1 = 2
        · have hf := z_iteT hf c11
          refine zj_tabIn 76 hC dX7_stand_29 c11 (by decide) (by decide) rfl (by decide) ?_
          refine zj_aload_n 0 hC dX7_stand_76 rfl ?_
          refine yg_0_6 hC hX7 (List.mem_of_getElem? (i := 3) rfl) dX7_stand_77 ?_
          refine yg_7_3 hC hX6 (List.mem_of_getElem? (i := 6) rfl) dX7_stand_80 ?_
          refine zj_iload_n 1 hC dX7_stand_83 rfl ?_
          obtain ⟨hq12, hf⟩ := z_ckE hf
          refine ya_46 hC hq12 dX7_stand_84 ?_
          cases hf
        have hf := z_iteF hf c11
        refine zj_tabOut 86 hC dX7_stand_29 (by have ec7 := lv_neT (a := 0) c7 rfl; have ec9 := lv_neT (a := 1) c9 rfl; have ec11 := lv_neT (a := 2) c11 rfl; omega) (by decide) ?_
        refine zj_aload_n 0 hC dX7_stand_86 rfl ?_
        refine yg_0_6 hC hX7 (List.mem_of_getElem? (i := 3) rfl) dX7_stand_87 ?_
        refine zj_iload_n 1 hC dX7_stand_90 rfl ?_
        obtain ⟨r13, g14, hq15, hf⟩ := z_bindE hf
        refine zj_callVi [.int a0] hC (cY_X6_yearsLeft l dC dI ca q tt a0 g2 r13 g14 hq15) gX7_stand_X6_yearsLeft rfl nY_X6_yearsLeft ⟨Nat.le_of_ble_eq_true rfl, Nat.le_of_ble_eq_true rfl⟩ 7 yo_7 rfl rfl rfl (Nat.le_of_ble_eq_true rfl) dX7_stand_91 rfl ?_
        cases hf
      · have hf := z_iteF hf c6
        exact zj_sub hC [] rfl (hJ20 g2 hf)
