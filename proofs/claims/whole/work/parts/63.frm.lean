theorem frM_X8_thrown (g : z_G) : z_Fr (z_tch [] []) g (fM_X8_thrown g) := by
  have hg : z_ag (z_tch [] []) g g := fr_rf
  unfold fM_X8_thrown
  exact fr_some hg
theorem frM_X8_in_18 {g0 : z_G} (s0 : Int32) (g : z_G) (hg : z_ag (z_tch [] []) g0 g) : z_Fr (z_tch [] []) g0 (fM_X8_in_18 s0 g) := by
  unfold fM_X8_in_18
  refine fr_bo ?_
  exact fr_some hg
theorem frM_X8_in_17 {g0 : z_G} (g : z_G) (hg : z_ag (z_tch [] []) g0 g) : z_Fr (z_tch [] []) g0 (fM_X8_in_17 g) := by
  unfold fM_X8_in_17
  exact frM_X8_in_18 0 g hg
theorem frM_X8_in (a0 : Int64) (a1 : Int64) (a2 : Int64) (g : z_G) : z_Fr (z_tch [] []) g (fM_X8_in a0 a1 a2 g) := by
  have hg : z_ag (z_tch [] []) g g := fr_rf
  unfold fM_X8_in
  refine fr_ite ?_ ?_
  · exact frM_X8_in_17 g hg
  · refine fr_ite ?_ ?_
    · exact frM_X8_in_17 g hg
    · exact frM_X8_in_18 1 g hg
theorem frM_X8_refuse (g : z_G) : z_Fr (z_tch [] [(0, 0)]) g (fM_X8_refuse g) := by
  have hg : z_ag (z_tch [] [(0, 0)]) g g := fr_rf
  unfold fM_X8_refuse
  refine fr_letG (fr_up hg rfl) (fun g1 hg1 => ?_)
  exact fr_some hg1
theorem frM_X8_ringOf (a0 : Int32) (g : z_G) : z_Fr (z_tch [] []) g (fM_X8_ringOf a0 g) := by
  have hg : z_ag (z_tch [] []) g g := fr_rf
  unfold fM_X8_ringOf
  exact fr_some hg
theorem frM_X8_heightOf (a0 : Int32) (g : z_G) : z_Fr (z_tch [] []) g (fM_X8_heightOf a0 g) := by
  have hg : z_ag (z_tch [] []) g g := fr_rf
  unfold fM_X8_heightOf
  exact fr_some hg
theorem frM_X8_share (a0 : Int32) (g : z_G) : z_Fr (z_tch [] []) g (fM_X8_share a0 g) := by
  have hg : z_ag (z_tch [] []) g g := fr_rf
  unfold fM_X8_share
  exact fr_some hg
theorem frM_X8_isCell_37 {g0 : z_G} (s0 : Int32) (g : z_G) (hg : z_ag (z_tch [] []) g0 g) : z_Fr (z_tch [] []) g0 (fM_X8_isCell_37 s0 g) := by
  unfold fM_X8_isCell_37
  refine fr_bo ?_
  exact fr_some hg
theorem frM_X8_isCell_36 {g0 : z_G} (g : z_G) (hg : z_ag (z_tch [] []) g0 g) : z_Fr (z_tch [] []) g0 (fM_X8_isCell_36 g) := by
  unfold fM_X8_isCell_36
  exact frM_X8_isCell_37 0 g hg
theorem frM_X8_isCell (a0 : Int32) (a1 : Int32) (g : z_G) : z_Fr (z_tch [] []) g (fM_X8_isCell a0 a1 g) := by
  have hg : z_ag (z_tch [] []) g g := fr_rf
  unfold fM_X8_isCell
  refine fr_bind (frM_X8_in ((a0 : Int32).toInt64) 0 (((g 0 1) - 1 : Int32).toInt64) g) (z_tch_sub rfl) hg (fun r1 g2 hg2 => ?_)
  refine fr_ite ?_ ?_
  · exact frM_X8_isCell_36 g2 hg2
  · refine fr_bind (frM_X8_in ((a1 : Int32).toInt64) 0 (((g2 0 2) - 1 : Int32).toInt64) g2) (z_tch_sub rfl) hg2 (fun r5 g6 hg6 => ?_)
    refine fr_ite ?_ ?_
    · exact frM_X8_isCell_36 g6 hg6
    · exact frM_X8_isCell_37 1 g6 hg6
theorem frM_X8_isOutside_33 {g0 : z_G} (s0 : Int32) (g : z_G) (hg : z_ag (z_tch [] []) g0 g) : z_Fr (z_tch [] []) g0 (fM_X8_isOutside_33 s0 g) := by
  unfold fM_X8_isOutside_33
  refine fr_bo ?_
  exact fr_some hg
theorem frM_X8_isOutside_28 {g0 : z_G} (g : z_G) (hg : z_ag (z_tch [] []) g0 g) : z_Fr (z_tch [] []) g0 (fM_X8_isOutside_28 g) := by
  unfold fM_X8_isOutside_28
  exact frM_X8_isOutside_33 1 g hg
theorem frM_X8_isOutside (a0 : Int32) (g : z_G) : z_Fr (z_tch [] []) g (fM_X8_isOutside a0 g) := by
  have hg : z_ag (z_tch [] []) g g := fr_rf
  unfold fM_X8_isOutside
  refine fr_bind (frM_X8_ringOf a0 g) (z_tch_sub rfl) hg (fun r1 g2 hg2 => ?_)
  refine fr_ite ?_ ?_
  · exact frM_X8_isOutside_28 g2 hg2
  · refine fr_bind (frM_X8_heightOf a0 g2) (z_tch_sub rfl) hg2 (fun r5 g6 hg6 => ?_)
    refine fr_ite ?_ ?_
    · exact frM_X8_isOutside_28 g6 hg6
    · exact frM_X8_isOutside_33 0 g6 hg6
theorem frM_X8_empties_2 {g0 : z_G} (k2 : Int32 × z_G → Option (Int32 × z_G)) (hk2 : ∀ w, z_ag (z_tch [1, 2, 3, 4, 5, 6, 7, 8, 9, 10] [(0, 20), (0, 21), (0, 22), (0, 23), (0, 26)]) g0 w.2 → z_Fr (z_tch [1, 2, 3, 4, 5, 6, 7, 8, 9, 10] [(0, 20), (0, 21), (0, 22), (0, 23), (0, 26)]) g0 (k2 w)) (x1 : Int32) (g : z_G) (hg : z_ag (z_tch [1, 2, 3, 4, 5, 6, 7, 8, 9, 10] [(0, 20), (0, 21), (0, 22), (0, 23), (0, 26)]) g0 g) : z_Fr (z_tch [1, 2, 3, 4, 5, 6, 7, 8, 9, 10] [(0, 20), (0, 21), (0, 22), (0, 23), (0, 26)]) g0 (fM_X8_empties_2 k2 x1 g) := by
  unfold fM_X8_empties_2
  refine fr_ite ?_ ?_
  · refine fr_letG (fr_up hg rfl) (fun g2 hg2 => ?_)
    refine fr_letG (fr_up hg2 rfl) (fun g3 hg3 => ?_)
    refine fr_letG (fr_up hg3 rfl) (fun g4 hg4 => ?_)
    refine fr_letG (fr_up hg4 rfl) (fun g5 hg5 => ?_)
    refine fr_letG (fr_up hg5 rfl) (fun g6 hg6 => ?_)
    exact fr_some hg6
  · refine fr_ck ?_
    refine fr_letG (fr_up hg (z_tch_row rfl _)) (fun g8 hg8 => ?_)
    refine fr_ck ?_
    refine fr_letG (fr_up hg8 (z_tch_row rfl _)) (fun g10 hg10 => ?_)
    refine fr_ck ?_
    refine fr_letG (fr_up hg10 (z_tch_row rfl _)) (fun g12 hg12 => ?_)
    refine fr_ck ?_
    refine fr_letG (fr_up hg12 (z_tch_row rfl _)) (fun g14 hg14 => ?_)
    refine fr_ck ?_
    refine fr_letG (fr_up hg14 (z_tch_row rfl _)) (fun g16 hg16 => ?_)
    refine fr_ck ?_
    refine fr_letG (fr_up hg16 (z_tch_row rfl _)) (fun g18 hg18 => ?_)
    refine fr_ck ?_
    refine fr_letG (fr_up hg18 (z_tch_row rfl _)) (fun g20 hg20 => ?_)
    refine fr_ck ?_
    refine fr_letG (fr_up hg20 (z_tch_row rfl _)) (fun g22 hg22 => ?_)
    refine fr_ck ?_
    refine fr_letG (fr_up hg22 (z_tch_row rfl _)) (fun g24 hg24 => ?_)
    refine fr_ck ?_
    refine fr_letG (fr_up hg24 (z_tch_row rfl _)) (fun g26 hg26 => ?_)
    refine fr_letI (fun y27 => ?_)
    exact hk2 (y27, g26) hg26
theorem frM_X8_empties_2_go {g0 : z_G} (x1 : Int32) (g : z_G) (hg : z_ag (z_tch [1, 2, 3, 4, 5, 6, 7, 8, 9, 10] [(0, 20), (0, 21), (0, 22), (0, 23), (0, 26)]) g0 g) : z_Fr (z_tch [1, 2, 3, 4, 5, 6, 7, 8, 9, 10] [(0, 20), (0, 21), (0, 22), (0, 23), (0, 26)]) g0 (fM_X8_empties_2_go x1 g) := by
  refine fr_loop (P := fun w : Int32 × z_G => z_ag (z_tch [1, 2, 3, 4, 5, 6, 7, 8, 9, 10] [(0, 20), (0, 21), (0, 22), (0, 23), (0, 26)]) g0 w.2) (fun k hk w hw => ?_) z_fuel (x1, g) hg
  exact frM_X8_empties_2 k hk w.1 w.2 hw
theorem frM_X8_empties (g : z_G) : z_Fr (z_tch [1, 2, 3, 4, 5, 6, 7, 8, 9, 10] [(0, 20), (0, 21), (0, 22), (0, 23), (0, 26)]) g (fM_X8_empties g) := by
  have hg : z_ag (z_tch [1, 2, 3, 4, 5, 6, 7, 8, 9, 10] [(0, 20), (0, 21), (0, 22), (0, 23), (0, 26)]) g g := fr_rf
  unfold fM_X8_empties
  exact frM_X8_empties_2_go 0 g hg
theorem frM_X8_clamp_29 {g0 : z_G} (g : z_G) (hg : z_ag (z_tch [1, 2, 3, 4, 5, 6, 7, 8, 9, 10] [(0, 0), (0, 1), (0, 2), (0, 13), (0, 20), (0, 21), (0, 22), (0, 23), (0, 26)]) g0 g) : z_Fr (z_tch [1, 2, 3, 4, 5, 6, 7, 8, 9, 10] [(0, 0), (0, 1), (0, 2), (0, 13), (0, 20), (0, 21), (0, 22), (0, 23), (0, 26)]) g0 (fM_X8_clamp_29 g) := by
  unfold fM_X8_clamp_29
  refine fr_bo ?_
  exact fr_some hg
theorem frM_X8_clamp (a0 : Int32) (a1 : Int32) (g : z_G) : z_Fr (z_tch [1, 2, 3, 4, 5, 6, 7, 8, 9, 10] [(0, 0), (0, 1), (0, 2), (0, 13), (0, 20), (0, 21), (0, 22), (0, 23), (0, 26)]) g (fM_X8_clamp a0 a1 g) := by
  have hg : z_ag (z_tch [1, 2, 3, 4, 5, 6, 7, 8, 9, 10] [(0, 0), (0, 1), (0, 2), (0, 13), (0, 20), (0, 21), (0, 22), (0, 23), (0, 26)]) g g := fr_rf
  unfold fM_X8_clamp
  refine fr_letG (fr_up hg rfl) (fun g1 hg1 => ?_)
  refine fr_bind (frM_X8_in ((a0 : Int32).toInt64) 1 8 g1) (z_tch_sub rfl) hg1 (fun r2 g3 hg3 => ?_)
  refine fr_ite ?_ ?_
  · exact frM_X8_clamp_29 g3 hg3
  · refine fr_bind (frM_X8_in ((a1 : Int32).toInt64) 1 8 g3) (z_tch_sub rfl) hg3 (fun r6 g7 hg7 => ?_)
    refine fr_ite ?_ ?_
    · exact frM_X8_clamp_29 g7 hg7
    · refine fr_letG (fr_up hg7 rfl) (fun g10 hg10 => ?_)
      refine fr_letG (fr_up hg10 rfl) (fun g11 hg11 => ?_)
      refine fr_letG (fr_up hg11 rfl) (fun g12 hg12 => ?_)
      refine fr_bind (frM_X8_empties g12) (z_tch_sub rfl) hg12 (fun r13 g14 hg14 => ?_)
      refine fr_bo ?_
      exact fr_some hg14
theorem frM_X8_damp_12 {g0 : z_G} (s0 : Int32) (g : z_G) (hg : z_ag (z_tch [] []) g0 g) : z_Fr (z_tch [] []) g0 (fM_X8_damp_12 s0 g) := by
  unfold fM_X8_damp_12
  exact fr_some hg
theorem frM_X8_damp (a0 : Int32) (g : z_G) : z_Fr (z_tch [] []) g (fM_X8_damp a0 g) := by
  have hg : z_ag (z_tch [] []) g g := fr_rf
  unfold fM_X8_damp
  refine fr_ite ?_ ?_
  · exact frM_X8_damp_12 60 g hg
  · exact frM_X8_damp_12 20 g hg
theorem frM_X8_yieldOf_12 {g0 : z_G} (s0 : Int32) (g : z_G) (hg : z_ag (z_tch [] []) g0 g) : z_Fr (z_tch [] []) g0 (fM_X8_yieldOf_12 s0 g) := by
  unfold fM_X8_yieldOf_12
  exact fr_some hg
theorem frM_X8_yieldOf (a0 : Int32) (g : z_G) : z_Fr (z_tch [] []) g (fM_X8_yieldOf a0 g) := by
  have hg : z_ag (z_tch [] []) g g := fr_rf
  unfold fM_X8_yieldOf
  refine fr_ite ?_ ?_
  · exact frM_X8_yieldOf_12 22 g hg
  · exact frM_X8_yieldOf_12 25 g hg
theorem frM_X8_rate_20 {g0 : z_G} (s0 : Int32) (g : z_G) (hg : z_ag (z_tch [] []) g0 g) : z_Fr (z_tch [] []) g0 (fM_X8_rate_20 s0 g) := by
  unfold fM_X8_rate_20
  exact fr_some hg
theorem frM_X8_rate (a0 : Int32) (g : z_G) : z_Fr (z_tch [] []) g (fM_X8_rate a0 g) := by
  have hg : z_ag (z_tch [] []) g g := fr_rf
  unfold fM_X8_rate
  refine fr_ite ?_ ?_
  · exact frM_X8_rate_20 6 g hg
  · refine fr_ite ?_ ?_
    · exact frM_X8_rate_20 2 g hg
    · exact frM_X8_rate_20 4 g hg
theorem frM_X8_lays (a0 : Int32) (a1 : Int32) (g : z_G) : z_Fr (z_tch [1, 2, 3, 4, 6, 7] []) g (fM_X8_lays a0 a1 g) := by
  have hg : z_ag (z_tch [1, 2, 3, 4, 6, 7] []) g g := fr_rf
  unfold fM_X8_lays
  refine fr_ck ?_
  refine fr_letG (fr_up hg (z_tch_row rfl _)) (fun g2 hg2 => ?_)
  refine fr_bind (frM_X8_share a0 g2) (z_tch_sub rfl) hg2 (fun r3 g4 hg4 => ?_)
  refine fr_ck ?_
  refine fr_letG (fr_up hg4 (z_tch_row rfl _)) (fun g7 hg7 => ?_)
  refine fr_ck ?_
  refine fr_ck ?_
  refine fr_letG (fr_up hg7 (z_tch_row rfl _)) (fun g10 hg10 => ?_)
  refine fr_bind (frM_X8_damp a1 g10) (z_tch_sub rfl) hg10 (fun r11 g12 hg12 => ?_)
  refine fr_bind (frM_X8_share a0 g12) (z_tch_sub rfl) hg12 (fun r14 g15 hg15 => ?_)
  refine fr_ck ?_
  refine fr_letG (fr_up hg15 (z_tch_row rfl _)) (fun g18 hg18 => ?_)
  refine fr_ck ?_
  refine fr_letG (fr_up hg18 (z_tch_row rfl _)) (fun g20 hg20 => ?_)
  refine fr_ck ?_
  refine fr_letG (fr_up hg20 (z_tch_row rfl _)) (fun g22 hg22 => ?_)
  refine fr_ck ?_
  exact fr_some hg22
theorem frM_X8_lay_33 {g0 : z_G} (g : z_G) (hg : z_ag (z_tch [1, 2, 3, 4, 6, 7] [(0, 0)]) g0 g) : z_Fr (z_tch [1, 2, 3, 4, 6, 7] [(0, 0)]) g0 (fM_X8_lay_33 g) := by
  unfold fM_X8_lay_33
  exact fr_some hg
theorem frM_X8_lay (a0 : Int32) (a1 : Int32) (a2 : Int32) (g : z_G) : z_Fr (z_tch [1, 2, 3, 4, 6, 7] [(0, 0)]) g (fM_X8_lay a0 a1 a2 g) := by
  have hg : z_ag (z_tch [1, 2, 3, 4, 6, 7] [(0, 0)]) g g := fr_rf
  unfold fM_X8_lay
  refine fr_letG (fr_up hg rfl) (fun g1 hg1 => ?_)
  refine fr_bind (frM_X8_isCell a0 a1 g1) (z_tch_sub rfl) hg1 (fun r2 g3 hg3 => ?_)
  refine fr_ite ?_ ?_
  · exact frM_X8_lay_33 g3 hg3
  · refine fr_bind (frM_X8_in ((a2 : Int32).toInt64) 0 3 g3) (z_tch_sub rfl) hg3 (fun r6 g7 hg7 => ?_)
    refine fr_ite ?_ ?_
    · exact frM_X8_lay_33 g7 hg7
    · refine fr_ite ?_ ?_
      · refine fr_bind (frM_X8_lays ((a1 * 8) + a0) a2 g7) (z_tch_sub rfl) hg7 (fun r11 g12 hg12 => ?_)
        exact fr_some hg12
      · exact frM_X8_lay_33 g7 hg7
theorem frM_X8_layRow_46 {g0 : z_G} (g : z_G) (hg : z_ag (z_tch [1, 2, 3, 4, 6, 7] [(0, 0)]) g0 g) : z_Fr (z_tch [1, 2, 3, 4, 6, 7] [(0, 0)]) g0 (fM_X8_layRow_46 g) := by
  unfold fM_X8_layRow_46
  exact fr_some hg
theorem frM_X8_layRow_113 {g0 : z_G} (k65 : Int32 × Int32 × Int32 × Int32 × Int32 × Int32 × z_G → Option (Int32 × z_G)) (hk65 : ∀ w, z_ag (z_tch [1, 2, 3, 4, 6, 7] [(0, 0)]) g0 w.2.2.2.2.2.2 → z_Fr (z_tch [1, 2, 3, 4, 6, 7] [(0, 0)]) g0 (k65 w)) (s0 : Int32) (x1 : Int32) (x2 : Int32) (x3 : Int32) (x4 : Int32) (x5 : Int32) (x6 : Int32) (g : z_G) (hg : z_ag (z_tch [1, 2, 3, 4, 6, 7] [(0, 0)]) g0 g) : z_Fr (z_tch [1, 2, 3, 4, 6, 7] [(0, 0)]) g0 (fM_X8_layRow_113 k65 s0 x1 x2 x3 x4 x5 x6 g) := by
  unfold fM_X8_layRow_113
  refine fr_bind (frM_X8_in ((s0 : Int32).toInt64) 0 3 g) (z_tch_sub rfl) hg (fun r1 g2 hg2 => ?_)
  refine fr_ite ?_ ?_
  · exact fr_some hg2
  · refine fr_bind (frM_X8_lays ((x1 * 8) + x6) s0 g2) (z_tch_sub rfl) hg2 (fun r5 g6 hg6 => ?_)
    refine fr_letI (fun y8 => ?_)
    exact hk65 (x1, x2, x3, x4, x5, y8, g6) hg6
theorem frM_X8_layRow_152 {g0 : z_G} (x6 : Int32) (g : z_G) (hg : z_ag (z_tch [1, 2, 3, 4, 6, 7] [(0, 0)]) g0 g) : z_Fr (z_tch [1, 2, 3, 4, 6, 7] [(0, 0)]) g0 (fM_X8_layRow_152 x6 g) := by
  unfold fM_X8_layRow_152
  exact fr_some hg
theorem frM_X8_layRow_65 {g0 : z_G} (k65 : Int32 × Int32 × Int32 × Int32 × Int32 × Int32 × z_G → Option (Int32 × z_G)) (hk65 : ∀ w, z_ag (z_tch [1, 2, 3, 4, 6, 7] [(0, 0)]) g0 w.2.2.2.2.2.2 → z_Fr (z_tch [1, 2, 3, 4, 6, 7] [(0, 0)]) g0 (k65 w)) (x1 : Int32) (x2 : Int32) (x3 : Int32) (x4 : Int32) (x5 : Int32) (x6 : Int32) (g : z_G) (hg : z_ag (z_tch [1, 2, 3, 4, 6, 7] [(0, 0)]) g0 g) : z_Fr (z_tch [1, 2, 3, 4, 6, 7] [(0, 0)]) g0 (fM_X8_layRow_65 k65 x1 x2 x3 x4 x5 x6 g) := by
  unfold fM_X8_layRow_65
  refine fr_ite ?_ ?_
  · exact frM_X8_layRow_152 x6 g hg
  · refine fr_ite ?_ ?_
    · exact frM_X8_layRow_152 x6 g hg
    · refine fr_letI (fun y11 => ?_)
      refine fr_ite ?_ ?_
      · exact frM_X8_layRow_113 k65 hk65 ((y11 : Int32).toInt8.toInt32) x1 x2 x3 x4 x5 x6 g hg
      · refine fr_ite ?_ ?_
        · exact frM_X8_layRow_113 k65 hk65 ((y11 : Int32).toInt16.toInt32) x1 x2 x3 x4 x5 x6 g hg
        · exact frM_X8_layRow_113 k65 hk65 y11 x1 x2 x3 x4 x5 x6 g hg
theorem frM_X8_layRow_65_go {g0 : z_G} (x1 : Int32) (x2 : Int32) (x3 : Int32) (x4 : Int32) (x5 : Int32) (x6 : Int32) (g : z_G) (hg : z_ag (z_tch [1, 2, 3, 4, 6, 7] [(0, 0)]) g0 g) : z_Fr (z_tch [1, 2, 3, 4, 6, 7] [(0, 0)]) g0 (fM_X8_layRow_65_go x1 x2 x3 x4 x5 x6 g) := by
  refine fr_loop (P := fun w : Int32 × Int32 × Int32 × Int32 × Int32 × Int32 × z_G => z_ag (z_tch [1, 2, 3, 4, 6, 7] [(0, 0)]) g0 w.2.2.2.2.2.2) (fun k hk w hw => ?_) z_fuel (x1, x2, x3, x4, x5, x6, g) hg
  exact frM_X8_layRow_65 k hk w.1 w.2.1 w.2.2.1 w.2.2.2.1 w.2.2.2.2.1 w.2.2.2.2.2.1 w.2.2.2.2.2.2 hw
theorem frM_X8_layRow (a0 : Int32) (a1 : Int32) (a2 : Int32) (a3 : Int32) (a4 : Int32) (g : z_G) : z_Fr (z_tch [1, 2, 3, 4, 6, 7] [(0, 0)]) g (fM_X8_layRow a0 a1 a2 a3 a4 g) := by
  have hg : z_ag (z_tch [1, 2, 3, 4, 6, 7] [(0, 0)]) g g := fr_rf
  unfold fM_X8_layRow
  refine fr_letG (fr_up hg rfl) (fun g14 hg14 => ?_)
  refine fr_bind (frM_X8_in ((a0 : Int32).toInt64) 0 (((g14 0 2) - 1 : Int32).toInt64) g14) (z_tch_sub rfl) hg14 (fun r15 g16 hg16 => ?_)
  refine fr_ite ?_ ?_
  · exact frM_X8_layRow_46 g16 hg16
  · refine fr_bind (frM_X8_in ((a1 : Int32).toInt64) 0 3 g16) (z_tch_sub rfl) hg16 (fun r19 g20 hg20 => ?_)
    refine fr_ite ?_ ?_
    · exact frM_X8_layRow_46 g20 hg20
    · refine fr_ite ?_ ?_
      · exact frM_X8_layRow_46 g20 hg20
      · refine fr_ite ?_ ?_
        · refine fr_ite ?_ ?_
          · exact fr_some hg20
          · refine fr_ite ?_ ?_
            · exact frM_X8_layRow_65_go a0 a1 a2 a3 a4 0 g20 hg20
            · exact fr_some hg20
        · exact frM_X8_layRow_46 g20 hg20
theorem frM_X8_hole_43 {g0 : z_G} (g : z_G) (hg : z_ag (z_tch [11, 12] [(0, 0), (0, 13)]) g0 g) : z_Fr (z_tch [11, 12] [(0, 0), (0, 13)]) g0 (fM_X8_hole_43 g) := by
  unfold fM_X8_hole_43
  exact fr_some hg
theorem frM_X8_hole (a0 : Int32) (a1 : Int32) (g : z_G) : z_Fr (z_tch [11, 12] [(0, 0), (0, 13)]) g (fM_X8_hole a0 a1 g) := by
  have hg : z_ag (z_tch [11, 12] [(0, 0), (0, 13)]) g g := fr_rf
  unfold fM_X8_hole
  refine fr_letG (fr_up hg rfl) (fun g1 hg1 => ?_)
  refine fr_bind (frM_X8_isCell a0 a1 g1) (z_tch_sub rfl) hg1 (fun r2 g3 hg3 => ?_)
  refine fr_ite ?_ ?_
  · exact frM_X8_hole_43 g3 hg3
  · refine fr_bind (frM_X8_isOutside ((a1 * 8) + a0) g3) (z_tch_sub rfl) hg3 (fun r6 g7 hg7 => ?_)
    refine fr_ite ?_ ?_
    · exact frM_X8_hole_43 g7 hg7
    · refine fr_ite ?_ ?_
      · exact frM_X8_hole_43 g7 hg7
      · refine fr_ite ?_ ?_
        · refine fr_ck ?_
          refine fr_letG (fr_up hg7 (z_tch_row rfl _)) (fun g13 hg13 => ?_)
          refine fr_ck ?_
          refine fr_letG (fr_up hg13 (z_tch_row rfl _)) (fun g15 hg15 => ?_)
          refine fr_letG (fr_up hg15 rfl) (fun g16 hg16 => ?_)
          exact fr_some hg16
        · exact frM_X8_hole_43 g7 hg7
theorem frM_X8_lights (g : z_G) : z_Fr (z_tch [4, 5] [(0, 20), (0, 21), (0, 22), (0, 23)]) g (fM_X8_lights g) := by
  have hg : z_ag (z_tch [4, 5] [(0, 20), (0, 21), (0, 22), (0, 23)]) g g := fr_rf
  unfold fM_X8_lights
  refine fr_letG (fr_up hg rfl) (fun g1 hg1 => ?_)
  refine fr_letG (fr_up hg1 rfl) (fun g2 hg2 => ?_)
  refine fr_letG (fr_up hg2 rfl) (fun g3 hg3 => ?_)
  refine fr_letG (fr_up hg3 rfl) (fun g4 hg4 => ?_)
  refine fr_ck ?_
  refine fr_letG (fr_up hg4 (z_tch_row rfl _)) (fun g6 hg6 => ?_)
  refine fr_ck ?_
  refine fr_letG (fr_up hg6 (z_tch_row rfl _)) (fun g8 hg8 => ?_)
  exact fr_some hg8
theorem frM_X8_light_21 {g0 : z_G} (g : z_G) (hg : z_ag (z_tch [4, 5, 13, 14, 15, 16, 31] [(0, 0), (0, 20), (0, 21), (0, 22), (0, 23), (0, 26)]) g0 g) : z_Fr (z_tch [4, 5, 13, 14, 15, 16, 31] [(0, 0), (0, 20), (0, 21), (0, 22), (0, 23), (0, 26)]) g0 (fM_X8_light_21 g) := by
  unfold fM_X8_light_21
  refine fr_bo ?_
  exact fr_some hg
theorem frM_X8_light_108 {g0 : z_G} (k108 : Int32 × z_G → Option (Int32 × z_G)) (hk108 : ∀ w, z_ag (z_tch [4, 5, 13, 14, 15, 16, 31] [(0, 0), (0, 20), (0, 21), (0, 22), (0, 23), (0, 26)]) g0 w.2 → z_Fr (z_tch [4, 5, 13, 14, 15, 16, 31] [(0, 0), (0, 20), (0, 21), (0, 22), (0, 23), (0, 26)]) g0 (k108 w)) (x1 : Int32) (g : z_G) (hg : z_ag (z_tch [4, 5, 13, 14, 15, 16, 31] [(0, 0), (0, 20), (0, 21), (0, 22), (0, 23), (0, 26)]) g0 g) : z_Fr (z_tch [4, 5, 13, 14, 15, 16, 31] [(0, 0), (0, 20), (0, 21), (0, 22), (0, 23), (0, 26)]) g0 (fM_X8_light_108 k108 x1 g) := by
  unfold fM_X8_light_108
  refine fr_ite ?_ ?_
  · refine fr_bind (frM_X8_lights g) (z_tch_sub rfl) hg (fun r2 g3 hg3 => ?_)
    refine fr_bo ?_
    exact fr_some hg3
  · refine fr_ck ?_
    refine fr_letG (fr_up hg (z_tch_row rfl _)) (fun g6 hg6 => ?_)
    refine fr_letI (fun y7 => ?_)
    exact hk108 (y7, g6) hg6
theorem frM_X8_light_108_go {g0 : z_G} (x1 : Int32) (g : z_G) (hg : z_ag (z_tch [4, 5, 13, 14, 15, 16, 31] [(0, 0), (0, 20), (0, 21), (0, 22), (0, 23), (0, 26)]) g0 g) : z_Fr (z_tch [4, 5, 13, 14, 15, 16, 31] [(0, 0), (0, 20), (0, 21), (0, 22), (0, 23), (0, 26)]) g0 (fM_X8_light_108_go x1 g) := by
  refine fr_loop (P := fun w : Int32 × z_G => z_ag (z_tch [4, 5, 13, 14, 15, 16, 31] [(0, 0), (0, 20), (0, 21), (0, 22), (0, 23), (0, 26)]) g0 w.2) (fun k hk w hw => ?_) z_fuel (x1, g) hg
  exact frM_X8_light_108 k hk w.1 w.2 hw
theorem frM_X8_light_75 {g0 : z_G} (k75 : Int32 × z_G → Option (Int32 × z_G)) (hk75 : ∀ w, z_ag (z_tch [4, 5, 13, 14, 15, 16, 31] [(0, 0), (0, 20), (0, 21), (0, 22), (0, 23), (0, 26)]) g0 w.2 → z_Fr (z_tch [4, 5, 13, 14, 15, 16, 31] [(0, 0), (0, 20), (0, 21), (0, 22), (0, 23), (0, 26)]) g0 (k75 w)) (x1 : Int32) (g : z_G) (hg : z_ag (z_tch [4, 5, 13, 14, 15, 16, 31] [(0, 0), (0, 20), (0, 21), (0, 22), (0, 23), (0, 26)]) g0 g) : z_Fr (z_tch [4, 5, 13, 14, 15, 16, 31] [(0, 0), (0, 20), (0, 21), (0, 22), (0, 23), (0, 26)]) g0 (fM_X8_light_75 k75 x1 g) := by
  unfold fM_X8_light_75
  refine fr_ite ?_ ?_
  · refine fr_letG (fr_up hg rfl) (fun g9 hg9 => ?_)
    exact frM_X8_light_108_go 0 g9 hg9
  · refine fr_ck ?_
    refine fr_ck ?_
    refine fr_letG (fr_up hg (z_tch_row rfl _)) (fun g12 hg12 => ?_)
    refine fr_letI (fun y13 => ?_)
    exact hk75 (y13, g12) hg12
theorem frM_X8_light_75_go {g0 : z_G} (x1 : Int32) (g : z_G) (hg : z_ag (z_tch [4, 5, 13, 14, 15, 16, 31] [(0, 0), (0, 20), (0, 21), (0, 22), (0, 23), (0, 26)]) g0 g) : z_Fr (z_tch [4, 5, 13, 14, 15, 16, 31] [(0, 0), (0, 20), (0, 21), (0, 22), (0, 23), (0, 26)]) g0 (fM_X8_light_75_go x1 g) := by
  refine fr_loop (P := fun w : Int32 × z_G => z_ag (z_tch [4, 5, 13, 14, 15, 16, 31] [(0, 0), (0, 20), (0, 21), (0, 22), (0, 23), (0, 26)]) g0 w.2) (fun k hk w hw => ?_) z_fuel (x1, g) hg
  exact frM_X8_light_75 k hk w.1 w.2 hw
theorem frM_X8_light_25 {g0 : z_G} (k25 : Int32 × z_G → Option (Int32 × z_G)) (hk25 : ∀ w, z_ag (z_tch [4, 5, 13, 14, 15, 16, 31] [(0, 0), (0, 20), (0, 21), (0, 22), (0, 23), (0, 26)]) g0 w.2 → z_Fr (z_tch [4, 5, 13, 14, 15, 16, 31] [(0, 0), (0, 20), (0, 21), (0, 22), (0, 23), (0, 26)]) g0 (k25 w)) (x1 : Int32) (g : z_G) (hg : z_ag (z_tch [4, 5, 13, 14, 15, 16, 31] [(0, 0), (0, 20), (0, 21), (0, 22), (0, 23), (0, 26)]) g0 g) : z_Fr (z_tch [4, 5, 13, 14, 15, 16, 31] [(0, 0), (0, 20), (0, 21), (0, 22), (0, 23), (0, 26)]) g0 (fM_X8_light_25 k25 x1 g) := by
  unfold fM_X8_light_25
  refine fr_ite ?_ ?_
  · exact frM_X8_light_75_go 0 g hg
  · refine fr_ck ?_
    refine fr_ck ?_
    refine fr_letG (fr_up hg (z_tch_row rfl _)) (fun g17 hg17 => ?_)
    refine fr_ck ?_
    refine fr_ck ?_
    refine fr_letG (fr_up hg17 (z_tch_row rfl _)) (fun g20 hg20 => ?_)
    refine fr_ck ?_
    refine fr_ck ?_
    refine fr_letG (fr_up hg20 (z_tch_row rfl _)) (fun g23 hg23 => ?_)
    refine fr_letI (fun y24 => ?_)
    exact hk25 (y24, g23) hg23
theorem frM_X8_light_25_go {g0 : z_G} (x1 : Int32) (g : z_G) (hg : z_ag (z_tch [4, 5, 13, 14, 15, 16, 31] [(0, 0), (0, 20), (0, 21), (0, 22), (0, 23), (0, 26)]) g0 g) : z_Fr (z_tch [4, 5, 13, 14, 15, 16, 31] [(0, 0), (0, 20), (0, 21), (0, 22), (0, 23), (0, 26)]) g0 (fM_X8_light_25_go x1 g) := by
  refine fr_loop (P := fun w : Int32 × z_G => z_ag (z_tch [4, 5, 13, 14, 15, 16, 31] [(0, 0), (0, 20), (0, 21), (0, 22), (0, 23), (0, 26)]) g0 w.2) (fun k hk w hw => ?_) z_fuel (x1, g) hg
  exact frM_X8_light_25 k hk w.1 w.2 hw
theorem frM_X8_light (g : z_G) : z_Fr (z_tch [4, 5, 13, 14, 15, 16, 31] [(0, 0), (0, 20), (0, 21), (0, 22), (0, 23), (0, 26)]) g (fM_X8_light g) := by
  have hg : z_ag (z_tch [4, 5, 13, 14, 15, 16, 31] [(0, 0), (0, 20), (0, 21), (0, 22), (0, 23), (0, 26)]) g g := fr_rf
  unfold fM_X8_light
  refine fr_letG (fr_up hg rfl) (fun g25 hg25 => ?_)
  refine fr_ite ?_ ?_
  · refine fr_ck ?_
    refine fr_ite ?_ ?_
    · exact frM_X8_light_21 g25 hg25
    · exact frM_X8_light_25_go 0 g25 hg25
  · exact frM_X8_light_21 g25 hg25
theorem frM_X8_does_35 {g0 : z_G} (g : z_G) (hg : z_ag (z_tch [8, 12] []) g0 g) : z_Fr (z_tch [8, 12] []) g0 (fM_X8_does_35 g) := by
  unfold fM_X8_does_35
  exact fr_some hg
theorem frM_X8_does_21 {g0 : z_G} (s0 : Int32) (s1 : Int32) (g : z_G) (hg : z_ag (z_tch [8, 12] []) g0 g) : z_Fr (z_tch [8, 12] []) g0 (fM_X8_does_21 s0 s1 g) := by
  unfold fM_X8_does_21
  refine fr_ck ?_
  refine fr_letG (fr_up hg (z_tch_row rfl _)) (fun g2 hg2 => ?_)
  exact frM_X8_does_35 g2 hg2
theorem frM_X8_does (a0 : Int32) (a1 : Int32) (g : z_G) : z_Fr (z_tch [8, 12] []) g (fM_X8_does a0 a1 g) := by
  have hg : z_ag (z_tch [8, 12] []) g g := fr_rf
  unfold fM_X8_does
  refine fr_ite ?_ ?_
  · refine fr_ck ?_
    refine fr_letG (fr_up hg (z_tch_row rfl _)) (fun g5 hg5 => ?_)
    exact frM_X8_does_35 g5 hg5
  · refine fr_ite ?_ ?_
    · exact frM_X8_does_21 1 a0 g hg
    · exact frM_X8_does_21 0 a0 g hg
theorem frM_X8_byHand_68 {g0 : z_G} (x1 : Int32) (x2 : Int32) (g : z_G) (hg : z_ag (z_tch [8, 12, 17, 18, 19] [(0, 26)]) g0 g) : z_Fr (z_tch [8, 12, 17, 18, 19] [(0, 26)]) g0 (fM_X8_byHand_68 x1 x2 g) := by
  unfold fM_X8_byHand_68
  refine fr_bind (frM_X8_does x1 x2 g) (z_tch_sub rfl) hg (fun r1 g2 hg2 => ?_)
  refine fr_bo ?_
  exact fr_some hg2
theorem frM_X8_byHand_18 {g0 : z_G} (x1 : Int32) (x2 : Int32) (g : z_G) (hg : z_ag (z_tch [8, 12, 17, 18, 19] [(0, 26)]) g0 g) : z_Fr (z_tch [8, 12, 17, 18, 19] [(0, 26)]) g0 (fM_X8_byHand_18 x1 x2 g) := by
  unfold fM_X8_byHand_18
  refine fr_ite ?_ ?_
  · exact frM_X8_byHand_68 x1 x2 g hg
  · refine fr_ck ?_
    refine fr_letG (fr_up hg (z_tch_row rfl _)) (fun g6 hg6 => ?_)
    refine fr_ck ?_
    refine fr_letG (fr_up hg6 (z_tch_row rfl _)) (fun g8 hg8 => ?_)
    refine fr_ck ?_
    refine fr_letG (fr_up hg8 (z_tch_row rfl _)) (fun g10 hg10 => ?_)
    refine fr_letG (fr_up hg10 rfl) (fun g11 hg11 => ?_)
    exact frM_X8_byHand_68 x1 x2 g11 hg11
theorem frM_X8_byHand (a0 : Int32) (a1 : Int32) (g : z_G) : z_Fr (z_tch [8, 12, 17, 18, 19] [(0, 26)]) g (fM_X8_byHand a0 a1 g) := by
  have hg : z_ag (z_tch [8, 12, 17, 18, 19] [(0, 26)]) g g := fr_rf
  unfold fM_X8_byHand
  refine fr_ite ?_ ?_
  · exact frM_X8_byHand_18 a0 a1 g hg
  · refine fr_ite ?_ ?_
    · refine fr_bo ?_
      exact fr_some hg
    · exact frM_X8_byHand_18 a0 a1 g hg
theorem frM_X8_open_43 {g0 : z_G} (s0 : Int32) (g : z_G) (hg : z_ag (z_tch [8, 12, 17, 18, 19] [(0, 0), (0, 26)]) g0 g) : z_Fr (z_tch [8, 12, 17, 18, 19] [(0, 0), (0, 26)]) g0 (fM_X8_open_43 s0 g) := by
  unfold fM_X8_open_43
  refine fr_bo ?_
  exact fr_some hg
theorem frM_X8_open_42 {g0 : z_G} (g : z_G) (hg : z_ag (z_tch [8, 12, 17, 18, 19] [(0, 0), (0, 26)]) g0 g) : z_Fr (z_tch [8, 12, 17, 18, 19] [(0, 0), (0, 26)]) g0 (fM_X8_open_42 g) := by
  unfold fM_X8_open_42
  exact frM_X8_open_43 0 g hg
theorem frM_X8_open_32 {g0 : z_G} (s0 : Int32) (s1 : Int32) (g : z_G) (hg : z_ag (z_tch [8, 12, 17, 18, 19] [(0, 0), (0, 26)]) g0 g) : z_Fr (z_tch [8, 12, 17, 18, 19] [(0, 0), (0, 26)]) g0 (fM_X8_open_32 s0 s1 g) := by
  unfold fM_X8_open_32
  refine fr_bind (frM_X8_byHand s1 s0 g) (z_tch_sub rfl) hg (fun r1 g2 hg2 => ?_)
  refine fr_ite ?_ ?_
  · exact frM_X8_open_42 g2 hg2
  · exact frM_X8_open_43 1 g2 hg2
theorem frM_X8_open (a0 : Int32) (a1 : Int32) (g : z_G) : z_Fr (z_tch [8, 12, 17, 18, 19] [(0, 0), (0, 26)]) g (fM_X8_open a0 a1 g) := by
  have hg : z_ag (z_tch [8, 12, 17, 18, 19] [(0, 0), (0, 26)]) g g := fr_rf
  unfold fM_X8_open
  refine fr_letG (fr_up hg rfl) (fun g5 hg5 => ?_)
  refine fr_bind (frM_X8_in ((a0 : Int32).toInt64) 0 (((g5 0 13) - 1 : Int32).toInt64) g5) (z_tch_sub rfl) hg5 (fun r6 g7 hg7 => ?_)
  refine fr_ite ?_ ?_
  · exact frM_X8_open_42 g7 hg7
  · refine fr_ite ?_ ?_
    · exact frM_X8_open_32 0 a0 g7 hg7
    · exact frM_X8_open_32 1 a0 g7 hg7
theorem frM_X8_cover_61 {g0 : z_G} (s0 : Int32) (g : z_G) (hg : z_ag (z_tch [8, 12, 17, 18, 19] [(0, 0), (0, 26)]) g0 g) : z_Fr (z_tch [8, 12, 17, 18, 19] [(0, 0), (0, 26)]) g0 (fM_X8_cover_61 s0 g) := by
  unfold fM_X8_cover_61
  refine fr_bo ?_
  exact fr_some hg
theorem frM_X8_cover_60 {g0 : z_G} (g : z_G) (hg : z_ag (z_tch [8, 12, 17, 18, 19] [(0, 0), (0, 26)]) g0 g) : z_Fr (z_tch [8, 12, 17, 18, 19] [(0, 0), (0, 26)]) g0 (fM_X8_cover_60 g) := by
  unfold fM_X8_cover_60
  exact frM_X8_cover_61 0 g hg
theorem frM_X8_cover (a0 : Int32) (a1 : Int32) (a2 : Int32) (g : z_G) : z_Fr (z_tch [8, 12, 17, 18, 19] [(0, 0), (0, 26)]) g (fM_X8_cover a0 a1 a2 g) := by
  have hg : z_ag (z_tch [8, 12, 17, 18, 19] [(0, 0), (0, 26)]) g g := fr_rf
  unfold fM_X8_cover
  refine fr_letG (fr_up hg rfl) (fun g1 hg1 => ?_)
  refine fr_bind (frM_X8_isCell a0 a1 g1) (z_tch_sub rfl) hg1 (fun r2 g3 hg3 => ?_)
  refine fr_ite ?_ ?_
  · exact frM_X8_cover_60 g3 hg3
  · refine fr_bind (frM_X8_isOutside ((a1 * 8) + a0) g3) (z_tch_sub rfl) hg3 (fun r6 g7 hg7 => ?_)
    refine fr_ite ?_ ?_
    · exact frM_X8_cover_60 g7 hg7
    · refine fr_bind (frM_X8_in ((a2 : Int32).toInt64) 0 9 g7) (z_tch_sub rfl) hg7 (fun r10 g11 hg11 => ?_)
      refine fr_ite ?_ ?_
      · exact frM_X8_cover_60 g11 hg11
      · refine fr_bind (frM_X8_byHand ((12 + (a1 * 8)) + a0) a2 g11) (z_tch_sub rfl) hg11 (fun r14 g15 hg15 => ?_)
        refine fr_ite ?_ ?_
        · exact frM_X8_cover_60 g15 hg15
        · exact frM_X8_cover_61 1 g15 hg15
theorem frM_X8_watch (a0 : Int32) (g : z_G) : z_Fr (z_tch [] [(0, 0), (0, 24)]) g (fM_X8_watch a0 g) := by
  have hg : z_ag (z_tch [] [(0, 0), (0, 24)]) g g := fr_rf
  unfold fM_X8_watch
  refine fr_letG (fr_up hg rfl) (fun g1 hg1 => ?_)
  refine fr_ite ?_ ?_
  · refine fr_letG (fr_up hg1 rfl) (fun g3 hg3 => ?_)
    refine fr_bo ?_
    exact fr_some hg3
  · refine fr_bo ?_
    exact fr_some hg1
theorem frM_X8_away (a0 : Int32) (a1 : Int32) (g : z_G) : z_Fr (z_tch [] []) g (fM_X8_away a0 a1 g) := by
  have hg : z_ag (z_tch [] []) g g := fr_rf
  unfold fM_X8_away
  refine fr_letI (fun y1 => ?_)
  refine fr_letI (fun y2 => ?_)
  exact fr_some hg
theorem frM_X8_isInside_29 {g0 : z_G} (s0 : Int32) (g : z_G) (hg : z_ag (z_tch [] []) g0 g) : z_Fr (z_tch [] []) g0 (fM_X8_isInside_29 s0 g) := by
  unfold fM_X8_isInside_29
  refine fr_bo ?_
  exact fr_some hg
theorem frM_X8_isInside_28 {g0 : z_G} (g : z_G) (hg : z_ag (z_tch [] []) g0 g) : z_Fr (z_tch [] []) g0 (fM_X8_isInside_28 g) := by
  unfold fM_X8_isInside_28
  exact frM_X8_isInside_29 0 g hg
theorem frM_X8_isInside (a0 : Int32) (g : z_G) : z_Fr (z_tch [] []) g (fM_X8_isInside a0 g) := by
  have hg : z_ag (z_tch [] []) g g := fr_rf
  unfold fM_X8_isInside
  refine fr_bind (frM_X8_ringOf a0 g) (z_tch_sub rfl) hg (fun r1 g2 hg2 => ?_)
  refine fr_ite ?_ ?_
  · exact frM_X8_isInside_28 g2 hg2
  · refine fr_bind (frM_X8_heightOf a0 g2) (z_tch_sub rfl) hg2 (fun r5 g6 hg6 => ?_)
    refine fr_ite ?_ ?_
    · exact frM_X8_isInside_28 g6 hg6
    · exact frM_X8_isInside_29 1 g6 hg6
theorem frM_X8_airOf_44 {g0 : z_G} (k5 : Int32 × Int32 × Int32 × Int32 × z_G → Option (Int32 × z_G)) (hk5 : ∀ w, z_ag (z_tch [] []) g0 w.2.2.2.2 → z_Fr (z_tch [] []) g0 (k5 w)) (x1 : Int32) (x2 : Int32) (x3 : Int32) (x4 : Int32) (g : z_G) (hg : z_ag (z_tch [] []) g0 g) : z_Fr (z_tch [] []) g0 (fM_X8_airOf_44 k5 x1 x2 x3 x4 g) := by
  unfold fM_X8_airOf_44
  refine fr_letI (fun y1 => ?_)
  exact hk5 (x1, x2, x3, y1, g) hg
theorem frM_X8_airOf_103 {g0 : z_G} (k53 : Int32 × Int32 × Int32 × Int32 × z_G → Option (Int32 × z_G)) (hk53 : ∀ w, z_ag (z_tch [] []) g0 w.2.2.2.2 → z_Fr (z_tch [] []) g0 (k53 w)) (x1 : Int32) (x2 : Int32) (x3 : Int32) (x4 : Int32) (g : z_G) (hg : z_ag (z_tch [] []) g0 g) : z_Fr (z_tch [] []) g0 (fM_X8_airOf_103 k53 x1 x2 x3 x4 g) := by
  unfold fM_X8_airOf_103
  refine fr_letI (fun y2 => ?_)
  exact hk53 (x1, x2, x3, y2, g) hg
theorem frM_X8_airOf_53 {g0 : z_G} (k53 : Int32 × Int32 × Int32 × Int32 × z_G → Option (Int32 × z_G)) (hk53 : ∀ w, z_ag (z_tch [] []) g0 w.2.2.2.2 → z_Fr (z_tch [] []) g0 (k53 w)) (x1 : Int32) (x2 : Int32) (x3 : Int32) (x4 : Int32) (g : z_G) (hg : z_ag (z_tch [] []) g0 g) : z_Fr (z_tch [] []) g0 (fM_X8_airOf_53 k53 x1 x2 x3 x4 g) := by
  unfold fM_X8_airOf_53
  refine fr_ite ?_ ?_
  · exact fr_some hg
  · refine fr_bind (frM_X8_isInside x4 g) (z_tch_sub rfl) hg (fun r4 g5 hg5 => ?_)
    refine fr_ite ?_ ?_
    · exact frM_X8_airOf_103 k53 hk53 x1 x2 x3 x4 g5 hg5
    · refine fr_bind (frM_X8_isOutside x4 g5) (z_tch_sub rfl) hg5 (fun r8 g9 hg9 => ?_)
      refine fr_ite ?_ ?_
      · exact frM_X8_airOf_103 k53 hk53 x1 x2 x3 x4 g9 hg9
      · refine fr_ck ?_
        refine fr_ite ?_ ?_
        · refine fr_bind (frM_X8_away x1 x4 g9) (z_tch_sub rfl) hg9 (fun r14 g15 hg15 => ?_)
          refine fr_letI (fun y17 => ?_)
          exact frM_X8_airOf_103 k53 hk53 x1 x2 y17 x4 g15 hg15
        · exact frM_X8_airOf_103 k53 hk53 x1 x2 x3 x4 g9 hg9
theorem frM_X8_airOf_53_go {g0 : z_G} (x1 : Int32) (x2 : Int32) (x3 : Int32) (x4 : Int32) (g : z_G) (hg : z_ag (z_tch [] []) g0 g) : z_Fr (z_tch [] []) g0 (fM_X8_airOf_53_go x1 x2 x3 x4 g) := by
  refine fr_loop (P := fun w : Int32 × Int32 × Int32 × Int32 × z_G => z_ag (z_tch [] []) g0 w.2.2.2.2) (fun k hk w hw => ?_) z_fuel (x1, x2, x3, x4, g) hg
  exact frM_X8_airOf_53 k hk w.1 w.2.1 w.2.2.1 w.2.2.2.1 w.2.2.2.2 hw
theorem frM_X8_airOf_5 {g0 : z_G} (k5 : Int32 × Int32 × Int32 × Int32 × z_G → Option (Int32 × z_G)) (hk5 : ∀ w, z_ag (z_tch [] []) g0 w.2.2.2.2 → z_Fr (z_tch [] []) g0 (k5 w)) (x1 : Int32) (x2 : Int32) (x3 : Int32) (x4 : Int32) (g : z_G) (hg : z_ag (z_tch [] []) g0 g) : z_Fr (z_tch [] []) g0 (fM_X8_airOf_5 k5 x1 x2 x3 x4 g) := by
  unfold fM_X8_airOf_5
  refine fr_ite ?_ ?_
  · exact frM_X8_airOf_53_go x1 x2 x3 0 g hg
  · refine fr_ck ?_
    refine fr_ite ?_ ?_
    · exact frM_X8_airOf_44 k5 hk5 x1 x2 x3 x4 g hg
    · refine fr_ck ?_
      refine fr_bind (frM_X8_away x1 (g 11 (Int32.toNatClampNeg x4)) g) (z_tch_sub rfl) hg (fun r22 g23 hg23 => ?_)
      refine fr_letI (fun y25 => ?_)
      exact frM_X8_airOf_44 k5 hk5 x1 x2 y25 x4 g23 hg23
theorem frM_X8_airOf_5_go {g0 : z_G} (x1 : Int32) (x2 : Int32) (x3 : Int32) (x4 : Int32) (g : z_G) (hg : z_ag (z_tch [] []) g0 g) : z_Fr (z_tch [] []) g0 (fM_X8_airOf_5_go x1 x2 x3 x4 g) := by
  refine fr_loop (P := fun w : Int32 × Int32 × Int32 × Int32 × z_G => z_ag (z_tch [] []) g0 w.2.2.2.2) (fun k hk w hw => ?_) z_fuel (x1, x2, x3, x4, g) hg
  exact frM_X8_airOf_5 k hk w.1 w.2.1 w.2.2.1 w.2.2.2.1 w.2.2.2.2 hw
theorem frM_X8_airOf (a0 : Int32) (a1 : Int32) (g : z_G) : z_Fr (z_tch [] []) g (fM_X8_airOf a0 a1 g) := by
  have hg : z_ag (z_tch [] []) g g := fr_rf
  unfold fM_X8_airOf
  exact frM_X8_airOf_5_go a0 a1 0 0 g hg
theorem frM_X8_burns_248 {g0 : z_G} (s0 : Int32) (s1 : Int32) (x3 : Int32) (g : z_G) (hg : z_ag (z_tch [1, 2, 3, 4, 5] [(0, 23)]) g0 g) : z_Fr (z_tch [1, 2, 3, 4, 5] [(0, 23)]) g0 (fM_X8_burns_248 s0 s1 x3 g) := by
  unfold fM_X8_burns_248
  refine fr_ck ?_
  refine fr_letG (fr_up hg (z_tch_row rfl _)) (fun g2 hg2 => ?_)
  exact fr_some hg2
theorem frM_X8_burns_243 {g0 : z_G} (s0 : Int32) (x3 : Int32) (g : z_G) (hg : z_ag (z_tch [1, 2, 3, 4, 5] [(0, 23)]) g0 g) : z_Fr (z_tch [1, 2, 3, 4, 5] [(0, 23)]) g0 (fM_X8_burns_243 s0 x3 g) := by
  unfold fM_X8_burns_243
  exact frM_X8_burns_248 1 s0 x3 g hg
theorem frM_X8_burns_247 {g0 : z_G} (s0 : Int32) (x3 : Int32) (g : z_G) (hg : z_ag (z_tch [1, 2, 3, 4, 5] [(0, 23)]) g0 g) : z_Fr (z_tch [1, 2, 3, 4, 5] [(0, 23)]) g0 (fM_X8_burns_247 s0 x3 g) := by
  unfold fM_X8_burns_247
  exact frM_X8_burns_248 0 s0 x3 g hg
theorem frM_X8_burns_211 {g0 : z_G} (x1 : Int32) (x3 : Int32) (g : z_G) (hg : z_ag (z_tch [1, 2, 3, 4, 5] [(0, 23)]) g0 g) : z_Fr (z_tch [1, 2, 3, 4, 5] [(0, 23)]) g0 (fM_X8_burns_211 x1 x3 g) := by
  unfold fM_X8_burns_211
  refine fr_ck ?_
  refine fr_ite ?_ ?_
  · exact frM_X8_burns_247 x1 x3 g hg
  · refine fr_ck ?_
    refine fr_ite ?_ ?_
    · exact frM_X8_burns_243 x1 x3 g hg
    · refine fr_ck ?_
      refine fr_ite ?_ ?_
      · exact frM_X8_burns_247 x1 x3 g hg
      · exact frM_X8_burns_243 x1 x3 g hg
theorem frM_X8_burns (a0 : Int32) (g : z_G) : z_Fr (z_tch [1, 2, 3, 4, 5] [(0, 23)]) g (fM_X8_burns a0 g) := by
  have hg : z_ag (z_tch [1, 2, 3, 4, 5] [(0, 23)]) g g := fr_rf
  unfold fM_X8_burns
  refine fr_ck ?_
  refine fr_letI (fun y10 => ?_)
  refine fr_ite ?_ ?_
  · refine fr_ck ?_
    refine fr_letI (fun y54 => ?_)
    refine fr_ck ?_
    refine fr_letG (fr_up hg (z_tch_row rfl _)) (fun g56 hg56 => ?_)
    exact frM_X8_burns_211 a0 0 g56 hg56
  · refine fr_ck ?_
    refine fr_ite ?_ ?_
    · refine fr_ck ?_
      refine fr_ck ?_
      refine fr_bind (frM_X8_rate (g 6 (Int32.toNatClampNeg a0)) g) (z_tch_sub rfl) hg (fun r16 g17 hg17 => ?_)
      refine fr_bind (frM_X8_share a0 g17) (z_tch_sub rfl) hg17 (fun r19 g20 hg20 => ?_)
      refine fr_letI (fun y22 => ?_)
      refine fr_ck ?_
      refine fr_bind (frM_X8_yieldOf (g20 6 (Int32.toNatClampNeg a0)) g20) (z_tch_sub rfl) hg20 (fun r24 g25 hg25 => ?_)
      refine fr_letI (fun y27 => ?_)
      refine fr_ck ?_
      refine fr_ck ?_
      refine fr_letG (fr_up hg25 (z_tch_row rfl _)) (fun g30 hg30 => ?_)
      refine fr_ck ?_
      refine fr_ck ?_
      refine fr_letG (fr_up hg30 (z_tch_row rfl _)) (fun g33 hg33 => ?_)
      refine fr_letI (fun y34 => ?_)
      refine fr_ck ?_
      refine fr_letI (fun y36 => ?_)
      refine fr_ck ?_
      refine fr_letG (fr_up hg33 (z_tch_row rfl _)) (fun g38 hg38 => ?_)
      refine fr_ite ?_ ?_
      · exact frM_X8_burns_211 a0 y34 g38 hg38
      · refine fr_ck ?_
        refine fr_bind (frM_X8_share a0 g38) (z_tch_sub rfl) hg38 (fun r41 g42 hg42 => ?_)
        refine fr_letI (fun y44 => ?_)
        refine fr_ck ?_
        refine fr_ck ?_
        refine fr_letG (fr_up hg42 (z_tch_row rfl _)) (fun g47 hg47 => ?_)
        refine fr_letG (fr_up hg47 rfl) (fun g48 hg48 => ?_)
        exact frM_X8_burns_211 a0 y34 g48 hg48
    · refine fr_ck ?_
      refine fr_letI (fun y50 => ?_)
      refine fr_ck ?_
      refine fr_letG (fr_up hg (z_tch_row rfl _)) (fun g52 hg52 => ?_)
      exact frM_X8_burns_211 a0 0 g52 hg52
theorem frM_X8_warms_47 {g0 : z_G} (k4 : Int32 × Int32 × Int32 × z_G → Option (Int32 × z_G)) (hk4 : ∀ w, z_ag (z_tch [4, 5] []) g0 w.2.2.2 → z_Fr (z_tch [4, 5] []) g0 (k4 w)) (s0 : Int32) (s1 : Int32) (x1 : Int32) (x3 : Int32) (g : z_G) (hg : z_ag (z_tch [4, 5] []) g0 g) : z_Fr (z_tch [4, 5] []) g0 (fM_X8_warms_47 k4 s0 s1 x1 x3 g) := by
  unfold fM_X8_warms_47
  refine fr_letI (fun y1 => ?_)
  refine fr_letI (fun y2 => ?_)
  exact hk4 (x1, y1, y2, g) hg
theorem frM_X8_warms_46 {g0 : z_G} (k4 : Int32 × Int32 × Int32 × z_G → Option (Int32 × z_G)) (hk4 : ∀ w, z_ag (z_tch [4, 5] []) g0 w.2.2.2 → z_Fr (z_tch [4, 5] []) g0 (k4 w)) (s0 : Int32) (x1 : Int32) (x3 : Int32) (g : z_G) (hg : z_ag (z_tch [4, 5] []) g0 g) : z_Fr (z_tch [4, 5] []) g0 (fM_X8_warms_46 k4 s0 x1 x3 g) := by
  unfold fM_X8_warms_46
  exact frM_X8_warms_47 k4 hk4 0 s0 x1 x3 g hg
theorem frM_X8_warms_100 {g0 : z_G} (s0 : Int32) (s1 : Int32) (g : z_G) (hg : z_ag (z_tch [4, 5] []) g0 g) : z_Fr (z_tch [4, 5] []) g0 (fM_X8_warms_100 s0 s1 g) := by
  unfold fM_X8_warms_100
  refine fr_ck ?_
  refine fr_letG (fr_up hg (z_tch_row rfl _)) (fun g4 hg4 => ?_)
  exact fr_some hg4
theorem frM_X8_warms_4 {g0 : z_G} (k4 : Int32 × Int32 × Int32 × z_G → Option (Int32 × z_G)) (hk4 : ∀ w, z_ag (z_tch [4, 5] []) g0 w.2.2.2 → z_Fr (z_tch [4, 5] []) g0 (k4 w)) (x1 : Int32) (x2 : Int32) (x3 : Int32) (g : z_G) (hg : z_ag (z_tch [4, 5] []) g0 g) : z_Fr (z_tch [4, 5] []) g0 (fM_X8_warms_4 k4 x1 x2 x3 g) := by
  unfold fM_X8_warms_4
  refine fr_ite ?_ ?_
  · refine fr_ck ?_
    refine fr_letI (fun y7 => ?_)
    refine fr_ck ?_
    refine fr_letG (fr_up hg (z_tch_row rfl _)) (fun g9 hg9 => ?_)
    refine fr_ck ?_
    refine fr_ite ?_ ?_
    · exact frM_X8_warms_100 0 x1 g9 hg9
    · exact frM_X8_warms_100 1 x1 g9 hg9
  · refine fr_bind (frM_X8_isInside x3 g) (z_tch_sub rfl) hg (fun r12 g13 hg13 => ?_)
    refine fr_ite ?_ ?_
    · exact frM_X8_warms_46 k4 hk4 x2 x1 x3 g13 hg13
    · refine fr_bind (frM_X8_away x1 x3 g13) (z_tch_sub rfl) hg13 (fun r16 g17 hg17 => ?_)
      refine fr_ite ?_ ?_
      · refine fr_ck ?_
        refine fr_ite ?_ ?_
        · exact frM_X8_warms_46 k4 hk4 x2 x1 x3 g17 hg17
        · refine fr_ck ?_
          exact frM_X8_warms_47 k4 hk4 (g17 26 (Int32.toNatClampNeg x3)) x2 x1 x3 g17 hg17
      · exact frM_X8_warms_46 k4 hk4 x2 x1 x3 g17 hg17
theorem frM_X8_warms_4_go {g0 : z_G} (x1 : Int32) (x2 : Int32) (x3 : Int32) (g : z_G) (hg : z_ag (z_tch [4, 5] []) g0 g) : z_Fr (z_tch [4, 5] []) g0 (fM_X8_warms_4_go x1 x2 x3 g) := by
  refine fr_loop (P := fun w : Int32 × Int32 × Int32 × z_G => z_ag (z_tch [4, 5] []) g0 w.2.2.2) (fun k hk w hw => ?_) z_fuel (x1, x2, x3, g) hg
  exact frM_X8_warms_4 k hk w.1 w.2.1 w.2.2.1 w.2.2.2 hw
theorem frM_X8_warms (a0 : Int32) (g : z_G) : z_Fr (z_tch [4, 5] []) g (fM_X8_warms a0 g) := by
  have hg : z_ag (z_tch [4, 5] []) g g := fr_rf
  unfold fM_X8_warms
  exact frM_X8_warms_4_go a0 0 0 g hg
theorem frM_X8_opened_27 {g0 : z_G} (k4 : Int32 × Int32 × z_G → Option (Int32 × z_G)) (hk4 : ∀ w, z_ag (z_tch [] []) g0 w.2.2 → z_Fr (z_tch [] []) g0 (k4 w)) (s0 : Int32) (s1 : Int32) (x2 : Int32) (g : z_G) (hg : z_ag (z_tch [] []) g0 g) : z_Fr (z_tch [] []) g0 (fM_X8_opened_27 k4 s0 s1 x2 g) := by
  unfold fM_X8_opened_27
  refine fr_letI (fun y1 => ?_)
  refine fr_letI (fun y2 => ?_)
  exact hk4 (y1, y2, g) hg
theorem frM_X8_opened_4 {g0 : z_G} (k4 : Int32 × Int32 × z_G → Option (Int32 × z_G)) (hk4 : ∀ w, z_ag (z_tch [] []) g0 w.2.2 → z_Fr (z_tch [] []) g0 (k4 w)) (x1 : Int32) (x2 : Int32) (g : z_G) (hg : z_ag (z_tch [] []) g0 g) : z_Fr (z_tch [] []) g0 (fM_X8_opened_4 k4 x1 x2 g) := by
  unfold fM_X8_opened_4
  refine fr_ite ?_ ?_
  · exact fr_some hg
  · refine fr_ck ?_
    refine fr_ite ?_ ?_
    · exact frM_X8_opened_27 k4 hk4 0 x1 x2 g hg
    · exact frM_X8_opened_27 k4 hk4 1 x1 x2 g hg
theorem frM_X8_opened_4_go {g0 : z_G} (x1 : Int32) (x2 : Int32) (g : z_G) (hg : z_ag (z_tch [] []) g0 g) : z_Fr (z_tch [] []) g0 (fM_X8_opened_4_go x1 x2 g) := by
  refine fr_loop (P := fun w : Int32 × Int32 × z_G => z_ag (z_tch [] []) g0 w.2.2) (fun k hk w hw => ?_) z_fuel (x1, x2, g) hg
  exact frM_X8_opened_4 k hk w.1 w.2.1 w.2.2 hw
theorem frM_X8_opened (g : z_G) : z_Fr (z_tch [] []) g (fM_X8_opened g) := by
  have hg : z_ag (z_tch [] []) g g := fr_rf
  unfold fM_X8_opened
  exact frM_X8_opened_4_go 0 0 g hg
theorem frM_X8_bareCells_41 {g0 : z_G} (k4 : Int32 × Int32 × z_G → Option (Int32 × z_G)) (hk4 : ∀ w, z_ag (z_tch [] []) g0 w.2.2 → z_Fr (z_tch [] []) g0 (k4 w)) (s0 : Int32) (s1 : Int32) (x2 : Int32) (g : z_G) (hg : z_ag (z_tch [] []) g0 g) : z_Fr (z_tch [] []) g0 (fM_X8_bareCells_41 k4 s0 s1 x2 g) := by
  unfold fM_X8_bareCells_41
  refine fr_letI (fun y1 => ?_)
  refine fr_letI (fun y2 => ?_)
  exact hk4 (y1, y2, g) hg
theorem frM_X8_bareCells_40 {g0 : z_G} (k4 : Int32 × Int32 × z_G → Option (Int32 × z_G)) (hk4 : ∀ w, z_ag (z_tch [] []) g0 w.2.2 → z_Fr (z_tch [] []) g0 (k4 w)) (s0 : Int32) (x2 : Int32) (g : z_G) (hg : z_ag (z_tch [] []) g0 g) : z_Fr (z_tch [] []) g0 (fM_X8_bareCells_40 k4 s0 x2 g) := by
  unfold fM_X8_bareCells_40
  exact frM_X8_bareCells_41 k4 hk4 0 s0 x2 g hg
theorem frM_X8_bareCells_4 {g0 : z_G} (k4 : Int32 × Int32 × z_G → Option (Int32 × z_G)) (hk4 : ∀ w, z_ag (z_tch [] []) g0 w.2.2 → z_Fr (z_tch [] []) g0 (k4 w)) (x1 : Int32) (x2 : Int32) (g : z_G) (hg : z_ag (z_tch [] []) g0 g) : z_Fr (z_tch [] []) g0 (fM_X8_bareCells_4 k4 x1 x2 g) := by
  unfold fM_X8_bareCells_4
  refine fr_ite ?_ ?_
  · exact fr_some hg
  · refine fr_bind (frM_X8_isInside x2 g) (z_tch_sub rfl) hg (fun r4 g5 hg5 => ?_)
    refine fr_ite ?_ ?_
    · exact frM_X8_bareCells_40 k4 hk4 x1 x2 g5 hg5
    · refine fr_bind (frM_X8_isOutside x2 g5) (z_tch_sub rfl) hg5 (fun r8 g9 hg9 => ?_)
      refine fr_ite ?_ ?_
      · exact frM_X8_bareCells_40 k4 hk4 x1 x2 g9 hg9
      · refine fr_ck ?_
        refine fr_ite ?_ ?_
        · exact frM_X8_bareCells_41 k4 hk4 1 x1 x2 g9 hg9
        · exact frM_X8_bareCells_40 k4 hk4 x1 x2 g9 hg9
theorem frM_X8_bareCells_4_go {g0 : z_G} (x1 : Int32) (x2 : Int32) (g : z_G) (hg : z_ag (z_tch [] []) g0 g) : z_Fr (z_tch [] []) g0 (fM_X8_bareCells_4_go x1 x2 g) := by
  refine fr_loop (P := fun w : Int32 × Int32 × z_G => z_ag (z_tch [] []) g0 w.2.2) (fun k hk w hw => ?_) z_fuel (x1, x2, g) hg
  exact frM_X8_bareCells_4 k hk w.1 w.2.1 w.2.2 hw
theorem frM_X8_bareCells (g : z_G) : z_Fr (z_tch [] []) g (fM_X8_bareCells g) := by
  have hg : z_ag (z_tch [] []) g g := fr_rf
  unfold fM_X8_bareCells
  exact frM_X8_bareCells_4_go 0 0 g hg
theorem frM_X8_holds_188 {g0 : z_G} (k9 : Int32 × Int32 × Int32 × Int32 × Int32 × Int32 × Int32 × Int32 × z_G → Option (Int32 × z_G)) (hk9 : ∀ w, z_ag (z_tch [] []) g0 w.2.2.2.2.2.2.2.2 → z_Fr (z_tch [] []) g0 (k9 w)) (s0 : Int32) (x1 : Int32) (x2 : Int32) (x3 : Int32) (x4 : Int32) (x5 : Int32) (x6 : Int32) (x8 : Int32) (g : z_G) (hg : z_ag (z_tch [] []) g0 g) : z_Fr (z_tch [] []) g0 (fM_X8_holds_188 k9 s0 x1 x2 x3 x4 x5 x6 x8 g) := by
  unfold fM_X8_holds_188
  refine fr_letI (fun y1 => ?_)
  exact hk9 (x1, x2, x3, x4, x5, x6, s0, y1, g) hg
theorem frM_X8_holds_183 {g0 : z_G} (k9 : Int32 × Int32 × Int32 × Int32 × Int32 × Int32 × Int32 × Int32 × z_G → Option (Int32 × z_G)) (hk9 : ∀ w, z_ag (z_tch [] []) g0 w.2.2.2.2.2.2.2.2 → z_Fr (z_tch [] []) g0 (k9 w)) (x1 : Int32) (x2 : Int32) (x3 : Int32) (x4 : Int32) (x5 : Int32) (x6 : Int32) (x8 : Int32) (g : z_G) (hg : z_ag (z_tch [] []) g0 g) : z_Fr (z_tch [] []) g0 (fM_X8_holds_183 k9 x1 x2 x3 x4 x5 x6 x8 g) := by
  unfold fM_X8_holds_183
  exact frM_X8_holds_188 k9 hk9 1 x1 x2 x3 x4 x5 x6 x8 g hg
theorem frM_X8_holds_187 {g0 : z_G} (k9 : Int32 × Int32 × Int32 × Int32 × Int32 × Int32 × Int32 × Int32 × z_G → Option (Int32 × z_G)) (hk9 : ∀ w, z_ag (z_tch [] []) g0 w.2.2.2.2.2.2.2.2 → z_Fr (z_tch [] []) g0 (k9 w)) (x1 : Int32) (x2 : Int32) (x3 : Int32) (x4 : Int32) (x5 : Int32) (x6 : Int32) (x8 : Int32) (g : z_G) (hg : z_ag (z_tch [] []) g0 g) : z_Fr (z_tch [] []) g0 (fM_X8_holds_187 k9 x1 x2 x3 x4 x5 x6 x8 g) := by
  unfold fM_X8_holds_187
  exact frM_X8_holds_188 k9 hk9 0 x1 x2 x3 x4 x5 x6 x8 g hg
theorem frM_X8_holds_110 {g0 : z_G} (k9 : Int32 × Int32 × Int32 × Int32 × Int32 × Int32 × Int32 × Int32 × z_G → Option (Int32 × z_G)) (hk9 : ∀ w, z_ag (z_tch [] []) g0 w.2.2.2.2.2.2.2.2 → z_Fr (z_tch [] []) g0 (k9 w)) (s0 : Int32) (x1 : Int32) (x2 : Int32) (x3 : Int32) (x4 : Int32) (x5 : Int32) (x6 : Int32) (x7 : Int32) (x8 : Int32) (g : z_G) (hg : z_ag (z_tch [] []) g0 g) : z_Fr (z_tch [] []) g0 (fM_X8_holds_110 k9 s0 x1 x2 x3 x4 x5 x6 x7 x8 g) := by
  unfold fM_X8_holds_110
  refine fr_ite ?_ ?_
  · exact frM_X8_holds_187 k9 hk9 x1 x2 x3 x4 x5 x6 x8 g hg
  · refine fr_ck ?_
    refine fr_ite ?_ ?_
    · refine fr_ck ?_
      refine fr_ite ?_ ?_
      · exact frM_X8_holds_187 k9 hk9 x1 x2 x3 x4 x5 x6 x8 g hg
      · exact frM_X8_holds_183 k9 hk9 x1 x2 x3 x4 x5 x6 x8 g hg
    · refine fr_ck ?_
      refine fr_ite ?_ ?_
      · refine fr_ck ?_
        refine fr_ite ?_ ?_
        · exact frM_X8_holds_187 k9 hk9 x1 x2 x3 x4 x5 x6 x8 g hg
        · exact frM_X8_holds_183 k9 hk9 x1 x2 x3 x4 x5 x6 x8 g hg
      · refine fr_ck ?_
        refine fr_ite ?_ ?_
        · exact frM_X8_holds_183 k9 hk9 x1 x2 x3 x4 x5 x6 x8 g hg
        · exact frM_X8_holds_187 k9 hk9 x1 x2 x3 x4 x5 x6 x8 g hg
theorem frM_X8_holds_9 {g0 : z_G} (k9 : Int32 × Int32 × Int32 × Int32 × Int32 × Int32 × Int32 × Int32 × z_G → Option (Int32 × z_G)) (hk9 : ∀ w, z_ag (z_tch [] []) g0 w.2.2.2.2.2.2.2.2 → z_Fr (z_tch [] []) g0 (k9 w)) (x1 : Int32) (x2 : Int32) (x3 : Int32) (x4 : Int32) (x5 : Int32) (x6 : Int32) (x7 : Int32) (x8 : Int32) (g : z_G) (hg : z_ag (z_tch [] []) g0 g) : z_Fr (z_tch [] []) g0 (fM_X8_holds_9 k9 x1 x2 x3 x4 x5 x6 x7 x8 g) := by
  unfold fM_X8_holds_9
  refine fr_ck ?_
  refine fr_ite ?_ ?_
  · refine fr_bo ?_
    exact fr_some hg
  · refine fr_ck ?_
    refine fr_letI (fun y16 => ?_)
    refine fr_ite ?_ ?_
    · exact frM_X8_holds_110 k9 hk9 x2 x1 x2 x3 x4 x5 x6 x7 x8 g hg
    · refine fr_ite ?_ ?_
      · exact frM_X8_holds_110 k9 hk9 x3 x1 x2 x3 x4 x5 x6 x7 x8 g hg
      · refine fr_ite ?_ ?_
        · exact frM_X8_holds_110 k9 hk9 x4 x1 x2 x3 x4 x5 x6 x7 x8 g hg
        · refine fr_ite ?_ ?_
          · exact frM_X8_holds_110 k9 hk9 (g 0 21) x1 x2 x3 x4 x5 x6 x7 x8 g hg
          · refine fr_ite ?_ ?_
            · refine fr_bind (frM_X8_opened g) (z_tch_sub rfl) hg (fun r23 g24 hg24 => ?_)
              exact frM_X8_holds_110 k9 hk9 r23 x1 x2 x3 x4 x5 x6 x7 x8 g24 hg24
            · refine fr_ite ?_ ?_
              · exact frM_X8_holds_110 k9 hk9 x5 x1 x2 x3 x4 x5 x6 x7 x8 g hg
              · exact frM_X8_holds_110 k9 hk9 x6 x1 x2 x3 x4 x5 x6 x7 x8 g hg
theorem frM_X8_holds_9_go {g0 : z_G} (x1 : Int32) (x2 : Int32) (x3 : Int32) (x4 : Int32) (x5 : Int32) (x6 : Int32) (x7 : Int32) (x8 : Int32) (g : z_G) (hg : z_ag (z_tch [] []) g0 g) : z_Fr (z_tch [] []) g0 (fM_X8_holds_9_go x1 x2 x3 x4 x5 x6 x7 x8 g) := by
  refine fr_loop (P := fun w : Int32 × Int32 × Int32 × Int32 × Int32 × Int32 × Int32 × Int32 × z_G => z_ag (z_tch [] []) g0 w.2.2.2.2.2.2.2.2) (fun k hk w hw => ?_) z_fuel (x1, x2, x3, x4, x5, x6, x7, x8, g) hg
  exact frM_X8_holds_9 k hk w.1 w.2.1 w.2.2.1 w.2.2.2.1 w.2.2.2.2.1 w.2.2.2.2.2.1 w.2.2.2.2.2.2.1 w.2.2.2.2.2.2.2.1 w.2.2.2.2.2.2.2.2 hw
theorem frM_X8_holds (a0 : Int32) (a1 : Int32) (a2 : Int32) (a3 : Int32) (a4 : Int32) (a5 : Int32) (g : z_G) : z_Fr (z_tch [] []) g (fM_X8_holds a0 a1 a2 a3 a4 a5 g) := by
  have hg : z_ag (z_tch [] []) g g := fr_rf
  unfold fM_X8_holds
  refine fr_letI (fun y26 => ?_)
  exact frM_X8_holds_9_go a0 a1 a2 a3 a4 a5 1 y26 g hg
theorem frM_X8_leastCovered_62 {g0 : z_G} (k14 : Int32 × Int32 × Int32 × z_G → Option (Int32 × z_G)) (hk14 : ∀ w, z_ag (z_tch [] []) g0 w.2.2.2 → z_Fr (z_tch [] []) g0 (k14 w)) (x1 : Int32) (x2 : Int32) (x3 : Int32) (g : z_G) (hg : z_ag (z_tch [] []) g0 g) : z_Fr (z_tch [] []) g0 (fM_X8_leastCovered_62 k14 x1 x2 x3 g) := by
  unfold fM_X8_leastCovered_62
  refine fr_letI (fun y1 => ?_)
  exact hk14 (x1, x2, y1, g) hg
theorem frM_X8_leastCovered_59 {g0 : z_G} (k14 : Int32 × Int32 × Int32 × z_G → Option (Int32 × z_G)) (hk14 : ∀ w, z_ag (z_tch [] []) g0 w.2.2.2 → z_Fr (z_tch [] []) g0 (k14 w)) (x2 : Int32) (x3 : Int32) (x4 : Int32) (g : z_G) (hg : z_ag (z_tch [] []) g0 g) : z_Fr (z_tch [] []) g0 (fM_X8_leastCovered_59 k14 x2 x3 x4 g) := by
  unfold fM_X8_leastCovered_59
  exact frM_X8_leastCovered_62 k14 hk14 x4 x2 x3 g hg
theorem frM_X8_leastCovered_14 {g0 : z_G} (k4 : Int32 × Int32 × z_G → Option (Int32 × z_G)) (hk4 : ∀ w, z_ag (z_tch [] []) g0 w.2.2 → z_Fr (z_tch [] []) g0 (k4 w)) (k14 : Int32 × Int32 × Int32 × z_G → Option (Int32 × z_G)) (hk14 : ∀ w, z_ag (z_tch [] []) g0 w.2.2.2 → z_Fr (z_tch [] []) g0 (k14 w)) (x1 : Int32) (x2 : Int32) (x3 : Int32) (g : z_G) (hg : z_ag (z_tch [] []) g0 g) : z_Fr (z_tch [] []) g0 (fM_X8_leastCovered_14 k4 k14 x1 x2 x3 g) := by
  unfold fM_X8_leastCovered_14
  refine fr_ite ?_ ?_
  · refine fr_letI (fun y3 => ?_)
    exact hk4 (x1, y3, g) hg
  · refine fr_letI (fun y4 => ?_)
    refine fr_bind (frM_X8_isOutside y4 g) (z_tch_sub rfl) hg (fun r5 g6 hg6 => ?_)
    refine fr_ite ?_ ?_
    · exact frM_X8_leastCovered_62 k14 hk14 x1 x2 x3 g6 hg6
    · refine fr_ite ?_ ?_
      · exact frM_X8_leastCovered_59 k14 hk14 x2 x3 y4 g6 hg6
      · refine fr_ck ?_
        refine fr_ck ?_
        refine fr_ite ?_ ?_
        · exact frM_X8_leastCovered_62 k14 hk14 x1 x2 x3 g6 hg6
        · exact frM_X8_leastCovered_59 k14 hk14 x2 x3 y4 g6 hg6
theorem frM_X8_leastCovered_14_go {g0 : z_G} (k4 : Int32 × Int32 × z_G → Option (Int32 × z_G)) (hk4 : ∀ w, z_ag (z_tch [] []) g0 w.2.2 → z_Fr (z_tch [] []) g0 (k4 w)) (x1 : Int32) (x2 : Int32) (x3 : Int32) (g : z_G) (hg : z_ag (z_tch [] []) g0 g) : z_Fr (z_tch [] []) g0 (fM_X8_leastCovered_14_go k4 x1 x2 x3 g) := by
  refine fr_loop (P := fun w : Int32 × Int32 × Int32 × z_G => z_ag (z_tch [] []) g0 w.2.2.2) (fun k hk w hw => ?_) z_fuel (x1, x2, x3, g) hg
  exact frM_X8_leastCovered_14 k4 hk4 k hk w.1 w.2.1 w.2.2.1 w.2.2.2 hw
theorem frM_X8_leastCovered_4 {g0 : z_G} (k4 : Int32 × Int32 × z_G → Option (Int32 × z_G)) (hk4 : ∀ w, z_ag (z_tch [] []) g0 w.2.2 → z_Fr (z_tch [] []) g0 (k4 w)) (x1 : Int32) (x2 : Int32) (g : z_G) (hg : z_ag (z_tch [] []) g0 g) : z_Fr (z_tch [] []) g0 (fM_X8_leastCovered_4 k4 x1 x2 g) := by
  unfold fM_X8_leastCovered_4
  refine fr_ite ?_ ?_
  · exact fr_some hg
  · exact frM_X8_leastCovered_14_go k4 hk4 x1 x2 0 g hg
theorem frM_X8_leastCovered_4_go {g0 : z_G} (x1 : Int32) (x2 : Int32) (g : z_G) (hg : z_ag (z_tch [] []) g0 g) : z_Fr (z_tch [] []) g0 (fM_X8_leastCovered_4_go x1 x2 g) := by
  refine fr_loop (P := fun w : Int32 × Int32 × z_G => z_ag (z_tch [] []) g0 w.2.2) (fun k hk w hw => ?_) z_fuel (x1, x2, g) hg
  exact frM_X8_leastCovered_4 k hk w.1 w.2.1 w.2.2 hw
theorem frM_X8_leastCovered (g : z_G) : z_Fr (z_tch [] []) g (fM_X8_leastCovered g) := by
  have hg : z_ag (z_tch [] []) g g := fr_rf
  unfold fM_X8_leastCovered
  exact frM_X8_leastCovered_4_go (-1) 0 g hg
theorem frM_X8_goes_107 {g0 : z_G} (g : z_G) (hg : z_ag (z_tch [8, 12] []) g0 g) : z_Fr (z_tch [8, 12] []) g0 (fM_X8_goes_107 g) := by
  unfold fM_X8_goes_107
  exact fr_some hg
theorem frM_X8_goes_48 {g0 : z_G} (k48 : Int32 × z_G → Option (Int32 × z_G)) (hk48 : ∀ w, z_ag (z_tch [8, 12] []) g0 w.2 → z_Fr (z_tch [8, 12] []) g0 (k48 w)) (x3 : Int32) (g : z_G) (hg : z_ag (z_tch [8, 12] []) g0 g) : z_Fr (z_tch [8, 12] []) g0 (fM_X8_goes_48 k48 x3 g) := by
  unfold fM_X8_goes_48
  refine fr_ite ?_ ?_
  · exact frM_X8_goes_107 g hg
  · refine fr_ck ?_
    refine fr_letG (fr_up hg (z_tch_row rfl _)) (fun g3 hg3 => ?_)
    refine fr_letI (fun y4 => ?_)
    exact hk48 (y4, g3) hg3
theorem frM_X8_goes_48_go {g0 : z_G} (x3 : Int32) (g : z_G) (hg : z_ag (z_tch [8, 12] []) g0 g) : z_Fr (z_tch [8, 12] []) g0 (fM_X8_goes_48_go x3 g) := by
  refine fr_loop (P := fun w : Int32 × z_G => z_ag (z_tch [8, 12] []) g0 w.2) (fun k hk w hw => ?_) z_fuel (x3, g) hg
  exact frM_X8_goes_48 k hk w.1 w.2 hw
theorem frM_X8_goes_106 {g0 : z_G} (s0 : Int32) (s1 : Int32) (g : z_G) (hg : z_ag (z_tch [8, 12] []) g0 g) : z_Fr (z_tch [8, 12] []) g0 (fM_X8_goes_106 s0 s1 g) := by
  unfold fM_X8_goes_106
  refine fr_ck ?_
  refine fr_letG (fr_up hg (z_tch_row rfl _)) (fun g6 hg6 => ?_)
  exact frM_X8_goes_107 g6 hg6
theorem frM_X8_goes (a0 : Int32) (g : z_G) : z_Fr (z_tch [8, 12] []) g (fM_X8_goes a0 g) := by
  have hg : z_ag (z_tch [8, 12] []) g g := fr_rf
  unfold fM_X8_goes
  refine fr_ck ?_
  refine fr_letI (fun y8 => ?_)
  refine fr_ite ?_ ?_
  · refine fr_bind (frM_X8_leastCovered g) (z_tch_sub rfl) hg (fun r15 g16 hg16 => ?_)
    refine fr_ck ?_
    refine fr_letI (fun y19 => ?_)
    refine fr_ck ?_
    refine fr_letG (fr_up hg16 (z_tch_row rfl _)) (fun g21 hg21 => ?_)
    exact frM_X8_goes_107 g21 hg21
  · refine fr_ite ?_ ?_
    · exact frM_X8_goes_48_go 0 g hg
    · refine fr_ck ?_
      refine fr_ite ?_ ?_
      · exact frM_X8_goes_107 g hg
      · refine fr_ck ?_
        refine fr_ite ?_ ?_
        · exact frM_X8_goes_106 1 (g 33 (Int32.toNatClampNeg a0)) g hg
        · exact frM_X8_goes_106 0 (g 33 (Int32.toNatClampNeg a0)) g hg
theorem frM_X8_watchers_139 {g0 : z_G} (k81 : Int32 × Int32 × Int32 × Int32 × Int32 × Int32 × Int32 × z_G → Option (Int32 × z_G)) (hk81 : ∀ w, z_ag (z_tch [8, 12] []) g0 w.2.2.2.2.2.2.2 → z_Fr (z_tch [8, 12] []) g0 (k81 w)) (x2 : Int32) (x3 : Int32) (x5 : Int32) (x6 : Int32) (x7 : Int32) (x8 : Int32) (x9 : Int32) (g : z_G) (hg : z_ag (z_tch [8, 12] []) g0 g) : z_Fr (z_tch [8, 12] []) g0 (fM_X8_watchers_139 k81 x2 x3 x5 x6 x7 x8 x9 g) := by
  unfold fM_X8_watchers_139
  refine fr_letI (fun y1 => ?_)
  exact hk81 (x2, x3, x5, x6, x7, x8, y1, g) hg
theorem frM_X8_watchers_81 {g0 : z_G} (k81 : Int32 × Int32 × Int32 × Int32 × Int32 × Int32 × Int32 × z_G → Option (Int32 × z_G)) (hk81 : ∀ w, z_ag (z_tch [8, 12] []) g0 w.2.2.2.2.2.2.2 → z_Fr (z_tch [8, 12] []) g0 (k81 w)) (x2 : Int32) (x3 : Int32) (x5 : Int32) (x6 : Int32) (x7 : Int32) (x8 : Int32) (x9 : Int32) (g : z_G) (hg : z_ag (z_tch [8, 12] []) g0 g) : z_Fr (z_tch [8, 12] []) g0 (fM_X8_watchers_81 k81 x2 x3 x5 x6 x7 x8 x9 g) := by
  unfold fM_X8_watchers_81
  refine fr_ite ?_ ?_
  · exact fr_some hg
  · refine fr_ck ?_
    refine fr_ite ?_ ?_
    · exact frM_X8_watchers_139 k81 hk81 x2 x3 x5 x6 x7 x8 x9 g hg
    · refine fr_bind (frM_X8_holds x9 x5 x6 x7 x2 x3 g) (z_tch_sub rfl) hg (fun r5 g6 hg6 => ?_)
      refine fr_ite ?_ ?_
      · exact frM_X8_watchers_139 k81 hk81 x2 x3 x5 x6 x7 x8 x9 g6 hg6
      · refine fr_letI (fun y9 => ?_)
        refine fr_bind (frM_X8_goes x9 g6) (z_tch_sub rfl) hg6 (fun r10 g11 hg11 => ?_)
        exact frM_X8_watchers_139 k81 hk81 x2 x3 x5 x6 x7 y9 x9 g11 hg11
theorem frM_X8_watchers_81_go {g0 : z_G} (x2 : Int32) (x3 : Int32) (x5 : Int32) (x6 : Int32) (x7 : Int32) (x8 : Int32) (x9 : Int32) (g : z_G) (hg : z_ag (z_tch [8, 12] []) g0 g) : z_Fr (z_tch [8, 12] []) g0 (fM_X8_watchers_81_go x2 x3 x5 x6 x7 x8 x9 g) := by
  refine fr_loop (P := fun w : Int32 × Int32 × Int32 × Int32 × Int32 × Int32 × Int32 × z_G => z_ag (z_tch [8, 12] []) g0 w.2.2.2.2.2.2.2) (fun k hk w hw => ?_) z_fuel (x2, x3, x5, x6, x7, x8, x9, g) hg
  exact frM_X8_watchers_81 k hk w.1 w.2.1 w.2.2.1 w.2.2.2.1 w.2.2.2.2.1 w.2.2.2.2.2.1 w.2.2.2.2.2.2.1 w.2.2.2.2.2.2.2 hw
theorem frM_X8_watchers_73 {g0 : z_G} (s0 : Int32) (x2 : Int32) (x3 : Int32) (x5 : Int32) (x6 : Int32) (g : z_G) (hg : z_ag (z_tch [8, 12] []) g0 g) : z_Fr (z_tch [8, 12] []) g0 (fM_X8_watchers_73 s0 x2 x3 x5 x6 g) := by
  unfold fM_X8_watchers_73
  exact frM_X8_watchers_81_go x2 x3 x5 x6 s0 0 0 g hg
theorem frM_X8_watchers_53 {g0 : z_G} (s0 : Int32) (x2 : Int32) (x3 : Int32) (x4 : Int32) (x5 : Int32) (g : z_G) (hg : z_ag (z_tch [8, 12] []) g0 g) : z_Fr (z_tch [8, 12] []) g0 (fM_X8_watchers_53 s0 x2 x3 x4 x5 g) := by
  unfold fM_X8_watchers_53
  refine fr_ite ?_ ?_
  · exact frM_X8_watchers_73 0 x2 x3 x5 s0 g hg
  · refine fr_bind (frM_X8_leastCovered g) (z_tch_sub rfl) hg (fun r14 g15 hg15 => ?_)
    refine fr_ck ?_
    exact frM_X8_watchers_73 (g15 8 (Int32.toNatClampNeg r14)) x2 x3 x5 s0 g15 hg15
theorem frM_X8_watchers_37 {g0 : z_G} (s0 : Int32) (x2 : Int32) (x3 : Int32) (x4 : Int32) (g : z_G) (hg : z_ag (z_tch [8, 12] []) g0 g) : z_Fr (z_tch [8, 12] []) g0 (fM_X8_watchers_37 s0 x2 x3 x4 g) := by
  unfold fM_X8_watchers_37
  refine fr_ite ?_ ?_
  · exact frM_X8_watchers_53 99 x2 x3 x4 s0 g hg
  · refine fr_bind (frM_X8_bareCells g) (z_tch_sub rfl) hg (fun r19 g20 hg20 => ?_)
    exact frM_X8_watchers_53 r19 x2 x3 x4 s0 g20 hg20
theorem frM_X8_watchers_23 {g0 : z_G} (s0 : Int32) (x1 : Int32) (x2 : Int32) (x3 : Int32) (g : z_G) (hg : z_ag (z_tch [8, 12] []) g0 g) : z_Fr (z_tch [8, 12] []) g0 (fM_X8_watchers_23 s0 x1 x2 x3 g) := by
  unfold fM_X8_watchers_23
  refine fr_ite ?_ ?_
  · exact frM_X8_watchers_37 9999 x2 x3 s0 g hg
  · exact frM_X8_watchers_37 x1 x2 x3 s0 g hg
theorem frM_X8_watchers (a0 : Int32) (a1 : Int32) (a2 : Int32) (g : z_G) : z_Fr (z_tch [8, 12] []) g (fM_X8_watchers a0 a1 a2 g) := by
  have hg : z_ag (z_tch [8, 12] []) g g := fr_rf
  unfold fM_X8_watchers
  refine fr_ite ?_ ?_
  · exact frM_X8_watchers_23 1 a0 a1 a2 g hg
  · exact frM_X8_watchers_23 0 a0 a1 a2 g hg
theorem frM_X8_burning_25 {g0 : z_G} (k4 : Int32 × Int32 × z_G → Option (Int32 × z_G)) (hk4 : ∀ w, z_ag (z_tch [] []) g0 w.2.2 → z_Fr (z_tch [] []) g0 (k4 w)) (s0 : Int32) (s1 : Int32) (x2 : Int32) (g : z_G) (hg : z_ag (z_tch [] []) g0 g) : z_Fr (z_tch [] []) g0 (fM_X8_burning_25 k4 s0 s1 x2 g) := by
  unfold fM_X8_burning_25
  refine fr_letI (fun y1 => ?_)
  refine fr_letI (fun y2 => ?_)
  exact hk4 (y1, y2, g) hg
theorem frM_X8_burning_4 {g0 : z_G} (k4 : Int32 × Int32 × z_G → Option (Int32 × z_G)) (hk4 : ∀ w, z_ag (z_tch [] []) g0 w.2.2 → z_Fr (z_tch [] []) g0 (k4 w)) (x1 : Int32) (x2 : Int32) (g : z_G) (hg : z_ag (z_tch [] []) g0 g) : z_Fr (z_tch [] []) g0 (fM_X8_burning_4 k4 x1 x2 g) := by
  unfold fM_X8_burning_4
  refine fr_ite ?_ ?_
  · exact fr_some hg
  · refine fr_ck ?_
    refine fr_ite ?_ ?_
    · exact frM_X8_burning_25 k4 hk4 0 x1 x2 g hg
    · exact frM_X8_burning_25 k4 hk4 1 x1 x2 g hg
theorem frM_X8_burning_4_go {g0 : z_G} (x1 : Int32) (x2 : Int32) (g : z_G) (hg : z_ag (z_tch [] []) g0 g) : z_Fr (z_tch [] []) g0 (fM_X8_burning_4_go x1 x2 g) := by
  refine fr_loop (P := fun w : Int32 × Int32 × z_G => z_ag (z_tch [] []) g0 w.2.2) (fun k hk w hw => ?_) z_fuel (x1, x2, g) hg
  exact frM_X8_burning_4 k hk w.1 w.2.1 w.2.2 hw
theorem frM_X8_burning (g : z_G) : z_Fr (z_tch [] []) g (fM_X8_burning g) := by
  have hg : z_ag (z_tch [] []) g g := fr_rf
  unfold fM_X8_burning
  exact frM_X8_burning_4_go 0 0 g hg
theorem frM_X8_sinks_115 {g0 : z_G} (k2 : Int32 × z_G → Option (Int32 × z_G)) (hk2 : ∀ w, z_ag (z_tch [8, 10] []) g0 w.2 → z_Fr (z_tch [8, 10] []) g0 (k2 w)) (x1 : Int32) (g : z_G) (hg : z_ag (z_tch [8, 10] []) g0 g) : z_Fr (z_tch [8, 10] []) g0 (fM_X8_sinks_115 k2 x1 g) := by
  unfold fM_X8_sinks_115
  refine fr_letI (fun y1 => ?_)
  exact hk2 (y1, g) hg
theorem frM_X8_sinks_114 {g0 : z_G} (k2 : Int32 × z_G → Option (Int32 × z_G)) (hk2 : ∀ w, z_ag (z_tch [8, 10] []) g0 w.2 → z_Fr (z_tch [8, 10] []) g0 (k2 w)) (s0 : Int32) (s1 : Int32) (x1 : Int32) (g : z_G) (hg : z_ag (z_tch [8, 10] []) g0 g) : z_Fr (z_tch [8, 10] []) g0 (fM_X8_sinks_114 k2 s0 s1 x1 g) := by
  unfold fM_X8_sinks_114
  refine fr_ck ?_
  refine fr_letG (fr_up hg (z_tch_row rfl _)) (fun g3 hg3 => ?_)
  exact frM_X8_sinks_115 k2 hk2 x1 g3 hg3
theorem frM_X8_sinks_108 {g0 : z_G} (k2 : Int32 × z_G → Option (Int32 × z_G)) (hk2 : ∀ w, z_ag (z_tch [8, 10] []) g0 w.2 → z_Fr (z_tch [8, 10] []) g0 (k2 w)) (s0 : Int32) (x1 : Int32) (g : z_G) (hg : z_ag (z_tch [8, 10] []) g0 g) : z_Fr (z_tch [8, 10] []) g0 (fM_X8_sinks_108 k2 s0 x1 g) := by
  unfold fM_X8_sinks_108
  refine fr_ck ?_
  exact frM_X8_sinks_114 k2 hk2 (g 10 (Int32.toNatClampNeg x1)) s0 x1 g hg
theorem frM_X8_sinks_2 {g0 : z_G} (k2 : Int32 × z_G → Option (Int32 × z_G)) (hk2 : ∀ w, z_ag (z_tch [8, 10] []) g0 w.2 → z_Fr (z_tch [8, 10] []) g0 (k2 w)) (x1 : Int32) (g : z_G) (hg : z_ag (z_tch [8, 10] []) g0 g) : z_Fr (z_tch [8, 10] []) g0 (fM_X8_sinks_2 k2 x1 g) := by
  unfold fM_X8_sinks_2
  refine fr_ite ?_ ?_
  · exact fr_some hg
  · refine fr_bind (frM_X8_isInside x1 g) (z_tch_sub rfl) hg (fun r6 g7 hg7 => ?_)
    refine fr_ite ?_ ?_
    · exact frM_X8_sinks_115 k2 hk2 x1 g7 hg7
    · refine fr_bind (frM_X8_isOutside x1 g7) (z_tch_sub rfl) hg7 (fun r10 g11 hg11 => ?_)
      refine fr_ite ?_ ?_
      · exact frM_X8_sinks_115 k2 hk2 x1 g11 hg11
      · refine fr_ck ?_
        refine fr_ite ?_ ?_
        · exact frM_X8_sinks_115 k2 hk2 x1 g11 hg11
        · refine fr_ck ?_
          refine fr_ck ?_
          refine fr_ck ?_
          refine fr_ite ?_ ?_
          · exact frM_X8_sinks_115 k2 hk2 x1 g11 hg11
          · refine fr_ck ?_
            refine fr_ite ?_ ?_
            · exact frM_X8_sinks_115 k2 hk2 x1 g11 hg11
            · refine fr_ck ?_
              refine fr_ck ?_
              refine fr_letG (fr_up hg11 (z_tch_row rfl _)) (fun g24 hg24 => ?_)
              refine fr_ck ?_
              refine fr_ite ?_ ?_
              · refine fr_ck ?_
                refine fr_ite ?_ ?_
                · exact frM_X8_sinks_108 k2 hk2 x1 x1 g24 hg24
                · exact frM_X8_sinks_114 k2 hk2 (g24 0 21) x1 x1 g24 hg24
              · exact frM_X8_sinks_108 k2 hk2 x1 x1 g24 hg24
theorem frM_X8_sinks_2_go {g0 : z_G} (x1 : Int32) (g : z_G) (hg : z_ag (z_tch [8, 10] []) g0 g) : z_Fr (z_tch [8, 10] []) g0 (fM_X8_sinks_2_go x1 g) := by
  refine fr_loop (P := fun w : Int32 × z_G => z_ag (z_tch [8, 10] []) g0 w.2) (fun k hk w hw => ?_) z_fuel (x1, g) hg
  exact frM_X8_sinks_2 k hk w.1 w.2 hw
theorem frM_X8_sinks (g : z_G) : z_Fr (z_tch [8, 10] []) g (fM_X8_sinks g) := by
  have hg : z_ag (z_tch [8, 10] []) g g := fr_rf
  unfold fM_X8_sinks
  exact frM_X8_sinks_2_go 0 g hg
theorem frM_X8_works_38 {g0 : z_G} (k5 : Int32 × Int32 × Int32 × Int32 × z_G → Option (Int32 × z_G)) (hk5 : ∀ w, z_ag (z_tch [1, 2, 3, 4, 5, 8, 9, 10, 12, 20, 21, 22, 23, 24, 25, 26, 27] [(0, 21), (0, 22), (0, 23)]) g0 w.2.2.2.2 → z_Fr (z_tch [1, 2, 3, 4, 5, 8, 9, 10, 12, 20, 21, 22, 23, 24, 25, 26, 27] [(0, 21), (0, 22), (0, 23)]) g0 (k5 w)) (s0 : Int32) (s1 : Int32) (x1 : Int32) (x2 : Int32) (x3 : Int32) (x4 : Int32) (g : z_G) (hg : z_ag (z_tch [1, 2, 3, 4, 5, 8, 9, 10, 12, 20, 21, 22, 23, 24, 25, 26, 27] [(0, 21), (0, 22), (0, 23)]) g0 g) : z_Fr (z_tch [1, 2, 3, 4, 5, 8, 9, 10, 12, 20, 21, 22, 23, 24, 25, 26, 27] [(0, 21), (0, 22), (0, 23)]) g0 (fM_X8_works_38 k5 s0 s1 x1 x2 x3 x4 g) := by
  unfold fM_X8_works_38
  refine fr_ck ?_
  refine fr_letG (fr_up hg (z_tch_row rfl _)) (fun g2 hg2 => ?_)
  refine fr_ck ?_
  refine fr_ck ?_
  refine fr_letG (fr_up hg2 (z_tch_row rfl _)) (fun g5 hg5 => ?_)
  refine fr_ck ?_
  refine fr_ck ?_
  refine fr_letG (fr_up hg5 (z_tch_row rfl _)) (fun g8 hg8 => ?_)
  refine fr_letI (fun y9 => ?_)
  exact hk5 (x1, x2, x3, y9, g8) hg8
theorem frM_X8_works_102 {g0 : z_G} (k76 : Int32 × Int32 × Int32 × Int32 × z_G → Option (Int32 × z_G)) (hk76 : ∀ w, z_ag (z_tch [1, 2, 3, 4, 5, 8, 9, 10, 12, 20, 21, 22, 23, 24, 25, 26, 27] [(0, 21), (0, 22), (0, 23)]) g0 w.2.2.2.2 → z_Fr (z_tch [1, 2, 3, 4, 5, 8, 9, 10, 12, 20, 21, 22, 23, 24, 25, 26, 27] [(0, 21), (0, 22), (0, 23)]) g0 (k76 w)) (x1 : Int32) (x2 : Int32) (x3 : Int32) (x4 : Int32) (g : z_G) (hg : z_ag (z_tch [1, 2, 3, 4, 5, 8, 9, 10, 12, 20, 21, 22, 23, 24, 25, 26, 27] [(0, 21), (0, 22), (0, 23)]) g0 g) : z_Fr (z_tch [1, 2, 3, 4, 5, 8, 9, 10, 12, 20, 21, 22, 23, 24, 25, 26, 27] [(0, 21), (0, 22), (0, 23)]) g0 (fM_X8_works_102 k76 x1 x2 x3 x4 g) := by
  unfold fM_X8_works_102
  refine fr_letI (fun y10 => ?_)
  exact hk76 (x1, x2, x3, y10, g) hg
theorem frM_X8_works_163 {g0 : z_G} (k111 : Int32 × Int32 × Int32 × Int32 × z_G → Option (Int32 × z_G)) (hk111 : ∀ w, z_ag (z_tch [1, 2, 3, 4, 5, 8, 9, 10, 12, 20, 21, 22, 23, 24, 25, 26, 27] [(0, 21), (0, 22), (0, 23)]) g0 w.2.2.2.2 → z_Fr (z_tch [1, 2, 3, 4, 5, 8, 9, 10, 12, 20, 21, 22, 23, 24, 25, 26, 27] [(0, 21), (0, 22), (0, 23)]) g0 (k111 w)) (x1 : Int32) (x2 : Int32) (x3 : Int32) (x4 : Int32) (g : z_G) (hg : z_ag (z_tch [1, 2, 3, 4, 5, 8, 9, 10, 12, 20, 21, 22, 23, 24, 25, 26, 27] [(0, 21), (0, 22), (0, 23)]) g0 g) : z_Fr (z_tch [1, 2, 3, 4, 5, 8, 9, 10, 12, 20, 21, 22, 23, 24, 25, 26, 27] [(0, 21), (0, 22), (0, 23)]) g0 (fM_X8_works_163 k111 x1 x2 x3 x4 g) := by
  unfold fM_X8_works_163
  refine fr_letI (fun y11 => ?_)
  exact hk111 (x1, x2, x3, y11, g) hg
theorem frM_X8_works_157 {g0 : z_G} (k111 : Int32 × Int32 × Int32 × Int32 × z_G → Option (Int32 × z_G)) (hk111 : ∀ w, z_ag (z_tch [1, 2, 3, 4, 5, 8, 9, 10, 12, 20, 21, 22, 23, 24, 25, 26, 27] [(0, 21), (0, 22), (0, 23)]) g0 w.2.2.2.2 → z_Fr (z_tch [1, 2, 3, 4, 5, 8, 9, 10, 12, 20, 21, 22, 23, 24, 25, 26, 27] [(0, 21), (0, 22), (0, 23)]) g0 (k111 w)) (x1 : Int32) (x2 : Int32) (x3 : Int32) (x4 : Int32) (g : z_G) (hg : z_ag (z_tch [1, 2, 3, 4, 5, 8, 9, 10, 12, 20, 21, 22, 23, 24, 25, 26, 27] [(0, 21), (0, 22), (0, 23)]) g0 g) : z_Fr (z_tch [1, 2, 3, 4, 5, 8, 9, 10, 12, 20, 21, 22, 23, 24, 25, 26, 27] [(0, 21), (0, 22), (0, 23)]) g0 (fM_X8_works_157 k111 x1 x2 x3 x4 g) := by
  unfold fM_X8_works_157
  refine fr_bind (frM_X8_warms x4 g) (z_tch_sub rfl) hg (fun r12 g13 hg13 => ?_)
  exact frM_X8_works_163 k111 hk111 x1 x2 x3 x4 g13 hg13
theorem frM_X8_works_186 {g0 : z_G} (k186 : Int32 × Int32 × Int32 × Int32 × z_G → Option (Int32 × z_G)) (hk186 : ∀ w, z_ag (z_tch [1, 2, 3, 4, 5, 8, 9, 10, 12, 20, 21, 22, 23, 24, 25, 26, 27] [(0, 21), (0, 22), (0, 23)]) g0 w.2.2.2.2 → z_Fr (z_tch [1, 2, 3, 4, 5, 8, 9, 10, 12, 20, 21, 22, 23, 24, 25, 26, 27] [(0, 21), (0, 22), (0, 23)]) g0 (k186 w)) (x1 : Int32) (x2 : Int32) (x3 : Int32) (x4 : Int32) (g : z_G) (hg : z_ag (z_tch [1, 2, 3, 4, 5, 8, 9, 10, 12, 20, 21, 22, 23, 24, 25, 26, 27] [(0, 21), (0, 22), (0, 23)]) g0 g) : z_Fr (z_tch [1, 2, 3, 4, 5, 8, 9, 10, 12, 20, 21, 22, 23, 24, 25, 26, 27] [(0, 21), (0, 22), (0, 23)]) g0 (fM_X8_works_186 k186 x1 x2 x3 x4 g) := by
  unfold fM_X8_works_186
  refine fr_ite ?_ ?_
  · refine fr_ck ?_
    refine fr_letG (fr_up hg (z_tch_row rfl _)) (fun g17 hg17 => ?_)
    refine fr_ck ?_
    refine fr_letG (fr_up hg17 (z_tch_row rfl _)) (fun g19 hg19 => ?_)
    refine fr_ck ?_
    refine fr_letG (fr_up hg19 (z_tch_row rfl _)) (fun g21 hg21 => ?_)
    refine fr_bind (frM_X8_bareCells g21) (z_tch_sub rfl) hg21 (fun r22 g23 hg23 => ?_)
    refine fr_ck ?_
    refine fr_letG (fr_up hg23 (z_tch_row rfl _)) (fun g26 hg26 => ?_)
    refine fr_bind (frM_X8_watchers x3 x1 x2 g26) (z_tch_sub rfl) hg26 (fun r27 g28 hg28 => ?_)
    refine fr_ck ?_
    refine fr_letG (fr_up hg28 (z_tch_row rfl _)) (fun g31 hg31 => ?_)
    refine fr_bind (frM_X8_burning g31) (z_tch_sub rfl) hg31 (fun r32 g33 hg33 => ?_)
    refine fr_ck ?_
    refine fr_letG (fr_up hg33 (z_tch_row rfl _)) (fun g36 hg36 => ?_)
    refine fr_letG (fr_up hg36 rfl) (fun g37 hg37 => ?_)
    exact fr_some hg37
  · refine fr_letI (fun y38 => ?_)
    refine fr_bind (frM_X8_share y38 g) (z_tch_sub rfl) hg (fun r39 g40 hg40 => ?_)
    refine fr_ck ?_
    refine fr_bind (frM_X8_share y38 g40) (z_tch_sub rfl) hg40 (fun r43 g44 hg44 => ?_)
    refine fr_letI (fun y46 => ?_)
    refine fr_ck ?_
    refine fr_letG (fr_up hg44 (z_tch_row rfl _)) (fun g48 hg48 => ?_)
    refine fr_letI (fun y49 => ?_)
    exact hk186 (x1, x2, x3, y49, g48) hg48
theorem frM_X8_works_186_go {g0 : z_G} (x1 : Int32) (x2 : Int32) (x3 : Int32) (x4 : Int32) (g : z_G) (hg : z_ag (z_tch [1, 2, 3, 4, 5, 8, 9, 10, 12, 20, 21, 22, 23, 24, 25, 26, 27] [(0, 21), (0, 22), (0, 23)]) g0 g) : z_Fr (z_tch [1, 2, 3, 4, 5, 8, 9, 10, 12, 20, 21, 22, 23, 24, 25, 26, 27] [(0, 21), (0, 22), (0, 23)]) g0 (fM_X8_works_186_go x1 x2 x3 x4 g) := by
  refine fr_loop (P := fun w : Int32 × Int32 × Int32 × Int32 × z_G => z_ag (z_tch [1, 2, 3, 4, 5, 8, 9, 10, 12, 20, 21, 22, 23, 24, 25, 26, 27] [(0, 21), (0, 22), (0, 23)]) g0 w.2.2.2.2) (fun k hk w hw => ?_) z_fuel (x1, x2, x3, x4, g) hg
  exact frM_X8_works_186 k hk w.1 w.2.1 w.2.2.1 w.2.2.2.1 w.2.2.2.2 hw
theorem frM_X8_works_111 {g0 : z_G} (k111 : Int32 × Int32 × Int32 × Int32 × z_G → Option (Int32 × z_G)) (hk111 : ∀ w, z_ag (z_tch [1, 2, 3, 4, 5, 8, 9, 10, 12, 20, 21, 22, 23, 24, 25, 26, 27] [(0, 21), (0, 22), (0, 23)]) g0 w.2.2.2.2 → z_Fr (z_tch [1, 2, 3, 4, 5, 8, 9, 10, 12, 20, 21, 22, 23, 24, 25, 26, 27] [(0, 21), (0, 22), (0, 23)]) g0 (k111 w)) (x1 : Int32) (x2 : Int32) (x3 : Int32) (x4 : Int32) (g : z_G) (hg : z_ag (z_tch [1, 2, 3, 4, 5, 8, 9, 10, 12, 20, 21, 22, 23, 24, 25, 26, 27] [(0, 21), (0, 22), (0, 23)]) g0 g) : z_Fr (z_tch [1, 2, 3, 4, 5, 8, 9, 10, 12, 20, 21, 22, 23, 24, 25, 26, 27] [(0, 21), (0, 22), (0, 23)]) g0 (fM_X8_works_111 k111 x1 x2 x3 x4 g) := by
  unfold fM_X8_works_111
  refine fr_ite ?_ ?_
  · refine fr_letG (fr_up hg rfl) (fun g51 hg51 => ?_)
    refine fr_bind (frM_X8_sinks g51) (z_tch_sub rfl) hg51 (fun r52 g53 hg53 => ?_)
    exact frM_X8_works_186_go x1 x2 x3 0 g53 hg53
  · refine fr_bind (frM_X8_isInside x4 g) (z_tch_sub rfl) hg (fun r55 g56 hg56 => ?_)
    refine fr_ite ?_ ?_
    · exact frM_X8_works_163 k111 hk111 x1 x2 x3 x4 g56 hg56
    · refine fr_ck ?_
      refine fr_ite ?_ ?_
      · refine fr_ck ?_
        refine fr_ite ?_ ?_
        · exact frM_X8_works_157 k111 hk111 x1 x2 x3 x4 g56 hg56
        · refine fr_ck ?_
          refine fr_ite ?_ ?_
          · exact frM_X8_works_163 k111 hk111 x1 x2 x3 x4 g56 hg56
          · exact frM_X8_works_157 k111 hk111 x1 x2 x3 x4 g56 hg56
      · exact frM_X8_works_163 k111 hk111 x1 x2 x3 x4 g56 hg56
theorem frM_X8_works_111_go {g0 : z_G} (x1 : Int32) (x2 : Int32) (x3 : Int32) (x4 : Int32) (g : z_G) (hg : z_ag (z_tch [1, 2, 3, 4, 5, 8, 9, 10, 12, 20, 21, 22, 23, 24, 25, 26, 27] [(0, 21), (0, 22), (0, 23)]) g0 g) : z_Fr (z_tch [1, 2, 3, 4, 5, 8, 9, 10, 12, 20, 21, 22, 23, 24, 25, 26, 27] [(0, 21), (0, 22), (0, 23)]) g0 (fM_X8_works_111_go x1 x2 x3 x4 g) := by
  refine fr_loop (P := fun w : Int32 × Int32 × Int32 × Int32 × z_G => z_ag (z_tch [1, 2, 3, 4, 5, 8, 9, 10, 12, 20, 21, 22, 23, 24, 25, 26, 27] [(0, 21), (0, 22), (0, 23)]) g0 w.2.2.2.2) (fun k hk w hw => ?_) z_fuel (x1, x2, x3, x4, g) hg
  exact frM_X8_works_111 k hk w.1 w.2.1 w.2.2.1 w.2.2.2.1 w.2.2.2.2 hw
theorem frM_X8_works_76 {g0 : z_G} (k76 : Int32 × Int32 × Int32 × Int32 × z_G → Option (Int32 × z_G)) (hk76 : ∀ w, z_ag (z_tch [1, 2, 3, 4, 5, 8, 9, 10, 12, 20, 21, 22, 23, 24, 25, 26, 27] [(0, 21), (0, 22), (0, 23)]) g0 w.2.2.2.2 → z_Fr (z_tch [1, 2, 3, 4, 5, 8, 9, 10, 12, 20, 21, 22, 23, 24, 25, 26, 27] [(0, 21), (0, 22), (0, 23)]) g0 (k76 w)) (x1 : Int32) (x2 : Int32) (x3 : Int32) (x4 : Int32) (g : z_G) (hg : z_ag (z_tch [1, 2, 3, 4, 5, 8, 9, 10, 12, 20, 21, 22, 23, 24, 25, 26, 27] [(0, 21), (0, 22), (0, 23)]) g0 g) : z_Fr (z_tch [1, 2, 3, 4, 5, 8, 9, 10, 12, 20, 21, 22, 23, 24, 25, 26, 27] [(0, 21), (0, 22), (0, 23)]) g0 (fM_X8_works_76 k76 x1 x2 x3 x4 g) := by
  unfold fM_X8_works_76
  refine fr_ite ?_ ?_
  · exact frM_X8_works_111_go x1 x2 x3 0 g hg
  · refine fr_ck ?_
    refine fr_ite ?_ ?_
    · exact frM_X8_works_102 k76 hk76 x1 x2 x3 x4 g hg
    · refine fr_bind (frM_X8_burns x4 g) (z_tch_sub rfl) hg (fun r68 g69 hg69 => ?_)
      refine fr_letI (fun y71 => ?_)
      exact frM_X8_works_102 k76 hk76 x1 x2 y71 x4 g69 hg69
theorem frM_X8_works_76_go {g0 : z_G} (x1 : Int32) (x2 : Int32) (x3 : Int32) (x4 : Int32) (g : z_G) (hg : z_ag (z_tch [1, 2, 3, 4, 5, 8, 9, 10, 12, 20, 21, 22, 23, 24, 25, 26, 27] [(0, 21), (0, 22), (0, 23)]) g0 g) : z_Fr (z_tch [1, 2, 3, 4, 5, 8, 9, 10, 12, 20, 21, 22, 23, 24, 25, 26, 27] [(0, 21), (0, 22), (0, 23)]) g0 (fM_X8_works_76_go x1 x2 x3 x4 g) := by
  refine fr_loop (P := fun w : Int32 × Int32 × Int32 × Int32 × z_G => z_ag (z_tch [1, 2, 3, 4, 5, 8, 9, 10, 12, 20, 21, 22, 23, 24, 25, 26, 27] [(0, 21), (0, 22), (0, 23)]) g0 w.2.2.2.2) (fun k hk w hw => ?_) z_fuel (x1, x2, x3, x4, g) hg
  exact frM_X8_works_76 k hk w.1 w.2.1 w.2.2.1 w.2.2.2.1 w.2.2.2.2 hw
theorem frM_X8_works_5 {g0 : z_G} (k5 : Int32 × Int32 × Int32 × Int32 × z_G → Option (Int32 × z_G)) (hk5 : ∀ w, z_ag (z_tch [1, 2, 3, 4, 5, 8, 9, 10, 12, 20, 21, 22, 23, 24, 25, 26, 27] [(0, 21), (0, 22), (0, 23)]) g0 w.2.2.2.2 → z_Fr (z_tch [1, 2, 3, 4, 5, 8, 9, 10, 12, 20, 21, 22, 23, 24, 25, 26, 27] [(0, 21), (0, 22), (0, 23)]) g0 (k5 w)) (x1 : Int32) (x2 : Int32) (x3 : Int32) (x4 : Int32) (g : z_G) (hg : z_ag (z_tch [1, 2, 3, 4, 5, 8, 9, 10, 12, 20, 21, 22, 23, 24, 25, 26, 27] [(0, 21), (0, 22), (0, 23)]) g0 g) : z_Fr (z_tch [1, 2, 3, 4, 5, 8, 9, 10, 12, 20, 21, 22, 23, 24, 25, 26, 27] [(0, 21), (0, 22), (0, 23)]) g0 (fM_X8_works_5 k5 x1 x2 x3 x4 g) := by
  unfold fM_X8_works_5
  refine fr_ite ?_ ?_
  · exact frM_X8_works_76_go x1 x2 x3 0 g hg
  · refine fr_bind (frM_X8_isInside x4 g) (z_tch_sub rfl) hg (fun r73 g74 hg74 => ?_)
    refine fr_ite ?_ ?_
    · exact frM_X8_works_38 k5 hk5 0 x4 x1 x2 x3 x4 g74 hg74
    · refine fr_bind (frM_X8_airOf x4 x2 g74) (z_tch_sub rfl) hg74 (fun r77 g78 hg78 => ?_)
      exact frM_X8_works_38 k5 hk5 r77 x4 x1 x2 x3 x4 g78 hg78
theorem frM_X8_works_5_go {g0 : z_G} (x1 : Int32) (x2 : Int32) (x3 : Int32) (x4 : Int32) (g : z_G) (hg : z_ag (z_tch [1, 2, 3, 4, 5, 8, 9, 10, 12, 20, 21, 22, 23, 24, 25, 26, 27] [(0, 21), (0, 22), (0, 23)]) g0 g) : z_Fr (z_tch [1, 2, 3, 4, 5, 8, 9, 10, 12, 20, 21, 22, 23, 24, 25, 26, 27] [(0, 21), (0, 22), (0, 23)]) g0 (fM_X8_works_5_go x1 x2 x3 x4 g) := by
  refine fr_loop (P := fun w : Int32 × Int32 × Int32 × Int32 × z_G => z_ag (z_tch [1, 2, 3, 4, 5, 8, 9, 10, 12, 20, 21, 22, 23, 24, 25, 26, 27] [(0, 21), (0, 22), (0, 23)]) g0 w.2.2.2.2) (fun k hk w hw => ?_) z_fuel (x1, x2, x3, x4, g) hg
  exact frM_X8_works_5 k hk w.1 w.2.1 w.2.2.1 w.2.2.2.1 w.2.2.2.2 hw
theorem frM_X8_works (a0 : Int32) (a1 : Int32) (g : z_G) : z_Fr (z_tch [1, 2, 3, 4, 5, 8, 9, 10, 12, 20, 21, 22, 23, 24, 25, 26, 27] [(0, 21), (0, 22), (0, 23)]) g (fM_X8_works a0 a1 g) := by
  have hg : z_ag (z_tch [1, 2, 3, 4, 5, 8, 9, 10, 12, 20, 21, 22, 23, 24, 25, 26, 27] [(0, 21), (0, 22), (0, 23)]) g g := fr_rf
  unfold fM_X8_works
  exact frM_X8_works_5_go a0 a1 0 0 g hg
theorem frM_X8_hour_46 {g0 : z_G} (g : z_G) (hg : z_ag (z_tch [1, 2, 3, 4, 5, 8, 9, 10, 12, 20, 21, 22, 23, 24, 25, 26, 27] [(0, 0), (0, 21), (0, 22), (0, 23)]) g0 g) : z_Fr (z_tch [1, 2, 3, 4, 5, 8, 9, 10, 12, 20, 21, 22, 23, 24, 25, 26, 27] [(0, 0), (0, 21), (0, 22), (0, 23)]) g0 (fM_X8_hour_46 g) := by
  unfold fM_X8_hour_46
  exact fr_some hg
theorem frM_X8_hour (a0 : Int32) (a1 : Int32) (g : z_G) : z_Fr (z_tch [1, 2, 3, 4, 5, 8, 9, 10, 12, 20, 21, 22, 23, 24, 25, 26, 27] [(0, 0), (0, 21), (0, 22), (0, 23)]) g (fM_X8_hour a0 a1 g) := by
  have hg : z_ag (z_tch [1, 2, 3, 4, 5, 8, 9, 10, 12, 20, 21, 22, 23, 24, 25, 26, 27] [(0, 0), (0, 21), (0, 22), (0, 23)]) g g := fr_rf
  unfold fM_X8_hour
  refine fr_letG (fr_up hg rfl) (fun g1 hg1 => ?_)
  refine fr_bind (frM_X8_in ((a0 : Int32).toInt64) 0 9 g1) (z_tch_sub rfl) hg1 (fun r2 g3 hg3 => ?_)
  refine fr_ite ?_ ?_
  · exact frM_X8_hour_46 g3 hg3
  · refine fr_bind (frM_X8_in ((a1 : Int32).toInt64) 0 3 g3) (z_tch_sub rfl) hg3 (fun r6 g7 hg7 => ?_)
    refine fr_ite ?_ ?_
    · exact frM_X8_hour_46 g7 hg7
    · refine fr_ite ?_ ?_
      · exact frM_X8_hour_46 g7 hg7
      · refine fr_ite ?_ ?_
        · exact frM_X8_hour_46 g7 hg7
        · refine fr_bind (frM_X8_works a0 a1 g7) (z_tch_sub rfl) hg7 (fun r12 g13 hg13 => ?_)
          exact fr_some hg13
theorem frM_X8_sum_r2_4 {g0 : z_G} (k4 : Int32 × Int32 × z_G → Option (Int32 × z_G)) (hk4 : ∀ w, z_ag (z_tch [] []) g0 w.2.2 → z_Fr (z_tch [] []) g0 (k4 w)) (x1 : Int32) (x2 : Int32) (g : z_G) (hg : z_ag (z_tch [] []) g0 g) : z_Fr (z_tch [] []) g0 (fM_X8_sum_r2_4 k4 x1 x2 g) := by
  unfold fM_X8_sum_r2_4
  refine fr_ite ?_ ?_
  · exact fr_some hg
  · refine fr_ck ?_
    refine fr_letI (fun y3 => ?_)
    refine fr_letI (fun y4 => ?_)
    exact hk4 (y3, y4, g) hg
theorem frM_X8_sum_r2_4_go {g0 : z_G} (x1 : Int32) (x2 : Int32) (g : z_G) (hg : z_ag (z_tch [] []) g0 g) : z_Fr (z_tch [] []) g0 (fM_X8_sum_r2_4_go x1 x2 g) := by
  refine fr_loop (P := fun w : Int32 × Int32 × z_G => z_ag (z_tch [] []) g0 w.2.2) (fun k hk w hw => ?_) z_fuel (x1, x2, g) hg
  exact frM_X8_sum_r2_4 k hk w.1 w.2.1 w.2.2 hw
theorem frM_X8_sum_r2 (g : z_G) : z_Fr (z_tch [] []) g (fM_X8_sum_r2 g) := by
  have hg : z_ag (z_tch [] []) g g := fr_rf
  unfold fM_X8_sum_r2
  exact frM_X8_sum_r2_4_go 0 0 g hg
theorem frM_X8_again_52 {g0 : z_G} (g : z_G) (hg : z_ag (z_tch [1, 2, 3, 4, 5, 8, 9, 10, 12, 20, 21, 22, 23, 24, 25, 26, 27, 28, 29] [(0, 0), (0, 20), (0, 21), (0, 22), (0, 23)]) g0 g) : z_Fr (z_tch [1, 2, 3, 4, 5, 8, 9, 10, 12, 20, 21, 22, 23, 24, 25, 26, 27, 28, 29] [(0, 0), (0, 20), (0, 21), (0, 22), (0, 23)]) g0 (fM_X8_again_52 g) := by
  unfold fM_X8_again_52
  exact fr_some hg
theorem frM_X8_again_117 {g0 : z_G} (k63 : Int32 × Int32 × Int32 × Int32 × Int32 × z_G → Option (Int32 × z_G)) (hk63 : ∀ w, z_ag (z_tch [1, 2, 3, 4, 5, 8, 9, 10, 12, 20, 21, 22, 23, 24, 25, 26, 27, 28, 29] [(0, 0), (0, 20), (0, 21), (0, 22), (0, 23)]) g0 w.2.2.2.2.2 → z_Fr (z_tch [1, 2, 3, 4, 5, 8, 9, 10, 12, 20, 21, 22, 23, 24, 25, 26, 27, 28, 29] [(0, 0), (0, 20), (0, 21), (0, 22), (0, 23)]) g0 (k63 w)) (s0 : Int32) (s1 : Int32) (x1 : Int32) (x2 : Int32) (x3 : Int32) (x4 : Int32) (x5 : Int32) (g : z_G) (hg : z_ag (z_tch [1, 2, 3, 4, 5, 8, 9, 10, 12, 20, 21, 22, 23, 24, 25, 26, 27, 28, 29] [(0, 0), (0, 20), (0, 21), (0, 22), (0, 23)]) g0 g) : z_Fr (z_tch [1, 2, 3, 4, 5, 8, 9, 10, 12, 20, 21, 22, 23, 24, 25, 26, 27, 28, 29] [(0, 0), (0, 20), (0, 21), (0, 22), (0, 23)]) g0 (fM_X8_again_117 k63 s0 s1 x1 x2 x3 x4 x5 g) := by
  unfold fM_X8_again_117
  refine fr_ck ?_
  refine fr_letG (fr_up hg (z_tch_row rfl _)) (fun g2 hg2 => ?_)
  refine fr_letI (fun y3 => ?_)
  exact hk63 (x1, x2, x3, x4, y3, g2) hg2
theorem frM_X8_again_93 {g0 : z_G} (k63 : Int32 × Int32 × Int32 × Int32 × Int32 × z_G → Option (Int32 × z_G)) (hk63 : ∀ w, z_ag (z_tch [1, 2, 3, 4, 5, 8, 9, 10, 12, 20, 21, 22, 23, 24, 25, 26, 27, 28, 29] [(0, 0), (0, 20), (0, 21), (0, 22), (0, 23)]) g0 w.2.2.2.2.2 → z_Fr (z_tch [1, 2, 3, 4, 5, 8, 9, 10, 12, 20, 21, 22, 23, 24, 25, 26, 27, 28, 29] [(0, 0), (0, 20), (0, 21), (0, 22), (0, 23)]) g0 (k63 w)) (s0 : Int32) (s1 : Int32) (x1 : Int32) (x2 : Int32) (x3 : Int32) (x4 : Int32) (x5 : Int32) (g : z_G) (hg : z_ag (z_tch [1, 2, 3, 4, 5, 8, 9, 10, 12, 20, 21, 22, 23, 24, 25, 26, 27, 28, 29] [(0, 0), (0, 20), (0, 21), (0, 22), (0, 23)]) g0 g) : z_Fr (z_tch [1, 2, 3, 4, 5, 8, 9, 10, 12, 20, 21, 22, 23, 24, 25, 26, 27, 28, 29] [(0, 0), (0, 20), (0, 21), (0, 22), (0, 23)]) g0 (fM_X8_again_93 k63 s0 s1 x1 x2 x3 x4 x5 g) := by
  unfold fM_X8_again_93
  refine fr_ck ?_
  refine fr_letG (fr_up hg (z_tch_row rfl _)) (fun g5 hg5 => ?_)
  refine fr_ite ?_ ?_
  · exact frM_X8_again_117 k63 hk63 x3 x5 x1 x2 x3 x4 x5 g5 hg5
  · refine fr_ck ?_
    exact frM_X8_again_117 k63 hk63 (g5 21 (Int32.toNatClampNeg x5)) x5 x1 x2 x3 x4 x5 g5 hg5
theorem frM_X8_again_343 {g0 : z_G} (k264 : Int32 × Int32 × Int32 × z_G → Option (Int32 × z_G)) (hk264 : ∀ w, z_ag (z_tch [1, 2, 3, 4, 5, 8, 9, 10, 12, 20, 21, 22, 23, 24, 25, 26, 27, 28, 29] [(0, 0), (0, 20), (0, 21), (0, 22), (0, 23)]) g0 w.2.2.2 → z_Fr (z_tch [1, 2, 3, 4, 5, 8, 9, 10, 12, 20, 21, 22, 23, 24, 25, 26, 27, 28, 29] [(0, 0), (0, 20), (0, 21), (0, 22), (0, 23)]) g0 (k264 w)) (x4 : Int32) (x5 : Int32) (x6 : Int32) (g : z_G) (hg : z_ag (z_tch [1, 2, 3, 4, 5, 8, 9, 10, 12, 20, 21, 22, 23, 24, 25, 26, 27, 28, 29] [(0, 0), (0, 20), (0, 21), (0, 22), (0, 23)]) g0 g) : z_Fr (z_tch [1, 2, 3, 4, 5, 8, 9, 10, 12, 20, 21, 22, 23, 24, 25, 26, 27, 28, 29] [(0, 0), (0, 20), (0, 21), (0, 22), (0, 23)]) g0 (fM_X8_again_343 k264 x4 x5 x6 g) := by
  unfold fM_X8_again_343
  refine fr_letI (fun y8 => ?_)
  exact hk264 (x4, x5, y8, g) hg
theorem frM_X8_again_316 {g0 : z_G} (k264 : Int32 × Int32 × Int32 × z_G → Option (Int32 × z_G)) (hk264 : ∀ w, z_ag (z_tch [1, 2, 3, 4, 5, 8, 9, 10, 12, 20, 21, 22, 23, 24, 25, 26, 27, 28, 29] [(0, 0), (0, 20), (0, 21), (0, 22), (0, 23)]) g0 w.2.2.2 → z_Fr (z_tch [1, 2, 3, 4, 5, 8, 9, 10, 12, 20, 21, 22, 23, 24, 25, 26, 27, 28, 29] [(0, 0), (0, 20), (0, 21), (0, 22), (0, 23)]) g0 (k264 w)) (x4 : Int32) (x5 : Int32) (x6 : Int32) (g : z_G) (hg : z_ag (z_tch [1, 2, 3, 4, 5, 8, 9, 10, 12, 20, 21, 22, 23, 24, 25, 26, 27, 28, 29] [(0, 0), (0, 20), (0, 21), (0, 22), (0, 23)]) g0 g) : z_Fr (z_tch [1, 2, 3, 4, 5, 8, 9, 10, 12, 20, 21, 22, 23, 24, 25, 26, 27, 28, 29] [(0, 0), (0, 20), (0, 21), (0, 22), (0, 23)]) g0 (fM_X8_again_316 k264 x4 x5 x6 g) := by
  unfold fM_X8_again_316
  refine fr_ite ?_ ?_
  · exact frM_X8_again_343 k264 hk264 x4 x5 x6 g hg
  · refine fr_ck ?_
    refine fr_ck ?_
    refine fr_bind (frM_X8_works (g 28 (Int32.toNatClampNeg x6)) (g 29 (Int32.toNatClampNeg x6)) g) (z_tch_sub rfl) hg (fun r12 g13 hg13 => ?_)
    exact frM_X8_again_343 k264 hk264 x4 x5 x6 g13 hg13
theorem frM_X8_again_271 {g0 : z_G} (k264 : Int32 × Int32 × Int32 × z_G → Option (Int32 × z_G)) (hk264 : ∀ w, z_ag (z_tch [1, 2, 3, 4, 5, 8, 9, 10, 12, 20, 21, 22, 23, 24, 25, 26, 27, 28, 29] [(0, 0), (0, 20), (0, 21), (0, 22), (0, 23)]) g0 w.2.2.2 → z_Fr (z_tch [1, 2, 3, 4, 5, 8, 9, 10, 12, 20, 21, 22, 23, 24, 25, 26, 27, 28, 29] [(0, 0), (0, 20), (0, 21), (0, 22), (0, 23)]) g0 (k264 w)) (k271 : Int32 × Int32 × Int32 × z_G → Option (Int32 × z_G)) (hk271 : ∀ w, z_ag (z_tch [1, 2, 3, 4, 5, 8, 9, 10, 12, 20, 21, 22, 23, 24, 25, 26, 27, 28, 29] [(0, 0), (0, 20), (0, 21), (0, 22), (0, 23)]) g0 w.2.2.2 → z_Fr (z_tch [1, 2, 3, 4, 5, 8, 9, 10, 12, 20, 21, 22, 23, 24, 25, 26, 27, 28, 29] [(0, 0), (0, 20), (0, 21), (0, 22), (0, 23)]) g0 (k271 w)) (x4 : Int32) (x5 : Int32) (x6 : Int32) (g : z_G) (hg : z_ag (z_tch [1, 2, 3, 4, 5, 8, 9, 10, 12, 20, 21, 22, 23, 24, 25, 26, 27, 28, 29] [(0, 0), (0, 20), (0, 21), (0, 22), (0, 23)]) g0 g) : z_Fr (z_tch [1, 2, 3, 4, 5, 8, 9, 10, 12, 20, 21, 22, 23, 24, 25, 26, 27, 28, 29] [(0, 0), (0, 20), (0, 21), (0, 22), (0, 23)]) g0 (fM_X8_again_271 k264 k271 x4 x5 x6 g) := by
  unfold fM_X8_again_271
  refine fr_ite ?_ ?_
  · exact frM_X8_again_316 k264 hk264 x4 x5 x6 g hg
  · refine fr_ck ?_
    refine fr_ite ?_ ?_
    · refine fr_ck ?_
      refine fr_ck ?_
      refine fr_bind (frM_X8_does (g 17 (Int32.toNatClampNeg x5)) (g 18 (Int32.toNatClampNeg x5)) g) (z_tch_sub rfl) hg (fun r20 g21 hg21 => ?_)
      refine fr_letI (fun y23 => ?_)
      exact hk271 (x4, y23, x6, g21) hg21
    · exact frM_X8_again_316 k264 hk264 x4 x5 x6 g hg
theorem frM_X8_again_271_go {g0 : z_G} (k264 : Int32 × Int32 × Int32 × z_G → Option (Int32 × z_G)) (hk264 : ∀ w, z_ag (z_tch [1, 2, 3, 4, 5, 8, 9, 10, 12, 20, 21, 22, 23, 24, 25, 26, 27, 28, 29] [(0, 0), (0, 20), (0, 21), (0, 22), (0, 23)]) g0 w.2.2.2 → z_Fr (z_tch [1, 2, 3, 4, 5, 8, 9, 10, 12, 20, 21, 22, 23, 24, 25, 26, 27, 28, 29] [(0, 0), (0, 20), (0, 21), (0, 22), (0, 23)]) g0 (k264 w)) (x4 : Int32) (x5 : Int32) (x6 : Int32) (g : z_G) (hg : z_ag (z_tch [1, 2, 3, 4, 5, 8, 9, 10, 12, 20, 21, 22, 23, 24, 25, 26, 27, 28, 29] [(0, 0), (0, 20), (0, 21), (0, 22), (0, 23)]) g0 g) : z_Fr (z_tch [1, 2, 3, 4, 5, 8, 9, 10, 12, 20, 21, 22, 23, 24, 25, 26, 27, 28, 29] [(0, 0), (0, 20), (0, 21), (0, 22), (0, 23)]) g0 (fM_X8_again_271_go k264 x4 x5 x6 g) := by
  refine fr_loop (P := fun w : Int32 × Int32 × Int32 × z_G => z_ag (z_tch [1, 2, 3, 4, 5, 8, 9, 10, 12, 20, 21, 22, 23, 24, 25, 26, 27, 28, 29] [(0, 0), (0, 20), (0, 21), (0, 22), (0, 23)]) g0 w.2.2.2) (fun k hk w hw => ?_) z_fuel (x4, x5, x6, g) hg
  exact frM_X8_again_271 k264 hk264 k hk w.1 w.2.1 w.2.2.1 w.2.2.2 hw
theorem frM_X8_again_264 {g0 : z_G} (k264 : Int32 × Int32 × Int32 × z_G → Option (Int32 × z_G)) (hk264 : ∀ w, z_ag (z_tch [1, 2, 3, 4, 5, 8, 9, 10, 12, 20, 21, 22, 23, 24, 25, 26, 27, 28, 29] [(0, 0), (0, 20), (0, 21), (0, 22), (0, 23)]) g0 w.2.2.2 → z_Fr (z_tch [1, 2, 3, 4, 5, 8, 9, 10, 12, 20, 21, 22, 23, 24, 25, 26, 27, 28, 29] [(0, 0), (0, 20), (0, 21), (0, 22), (0, 23)]) g0 (k264 w)) (x4 : Int32) (x5 : Int32) (x6 : Int32) (g : z_G) (hg : z_ag (z_tch [1, 2, 3, 4, 5, 8, 9, 10, 12, 20, 21, 22, 23, 24, 25, 26, 27, 28, 29] [(0, 0), (0, 20), (0, 21), (0, 22), (0, 23)]) g0 g) : z_Fr (z_tch [1, 2, 3, 4, 5, 8, 9, 10, 12, 20, 21, 22, 23, 24, 25, 26, 27, 28, 29] [(0, 0), (0, 20), (0, 21), (0, 22), (0, 23)]) g0 (fM_X8_again_264 k264 x4 x5 x6 g) := by
  unfold fM_X8_again_264
  refine fr_ite ?_ ?_
  · refine fr_bind (frM_X8_sum_r2 g) (z_tch_sub rfl) hg (fun r25 g26 hg26 => ?_)
    exact fr_some hg26
  · exact frM_X8_again_271_go k264 hk264 x4 x5 x6 g hg
theorem frM_X8_again_264_go {g0 : z_G} (x4 : Int32) (x5 : Int32) (x6 : Int32) (g : z_G) (hg : z_ag (z_tch [1, 2, 3, 4, 5, 8, 9, 10, 12, 20, 21, 22, 23, 24, 25, 26, 27, 28, 29] [(0, 0), (0, 20), (0, 21), (0, 22), (0, 23)]) g0 g) : z_Fr (z_tch [1, 2, 3, 4, 5, 8, 9, 10, 12, 20, 21, 22, 23, 24, 25, 26, 27, 28, 29] [(0, 0), (0, 20), (0, 21), (0, 22), (0, 23)]) g0 (fM_X8_again_264_go x4 x5 x6 g) := by
  refine fr_loop (P := fun w : Int32 × Int32 × Int32 × z_G => z_ag (z_tch [1, 2, 3, 4, 5, 8, 9, 10, 12, 20, 21, 22, 23, 24, 25, 26, 27, 28, 29] [(0, 0), (0, 20), (0, 21), (0, 22), (0, 23)]) g0 w.2.2.2) (fun k hk w hw => ?_) z_fuel (x4, x5, x6, g) hg
  exact frM_X8_again_264 k hk w.1 w.2.1 w.2.2.1 w.2.2.2 hw
theorem frM_X8_again_225 {g0 : z_G} (k225 : Int32 × Int32 × z_G → Option (Int32 × z_G)) (hk225 : ∀ w, z_ag (z_tch [1, 2, 3, 4, 5, 8, 9, 10, 12, 20, 21, 22, 23, 24, 25, 26, 27, 28, 29] [(0, 0), (0, 20), (0, 21), (0, 22), (0, 23)]) g0 w.2.2 → z_Fr (z_tch [1, 2, 3, 4, 5, 8, 9, 10, 12, 20, 21, 22, 23, 24, 25, 26, 27, 28, 29] [(0, 0), (0, 20), (0, 21), (0, 22), (0, 23)]) g0 (k225 w)) (x4 : Int32) (x5 : Int32) (g : z_G) (hg : z_ag (z_tch [1, 2, 3, 4, 5, 8, 9, 10, 12, 20, 21, 22, 23, 24, 25, 26, 27, 28, 29] [(0, 0), (0, 20), (0, 21), (0, 22), (0, 23)]) g0 g) : z_Fr (z_tch [1, 2, 3, 4, 5, 8, 9, 10, 12, 20, 21, 22, 23, 24, 25, 26, 27, 28, 29] [(0, 0), (0, 20), (0, 21), (0, 22), (0, 23)]) g0 (fM_X8_again_225 k225 x4 x5 g) := by
  unfold fM_X8_again_225
  refine fr_ite ?_ ?_
  · refine fr_bind (frM_X8_lights g) (z_tch_sub rfl) hg (fun r29 g30 hg30 => ?_)
    exact frM_X8_again_264_go x4 0 0 g30 hg30
  · refine fr_ck ?_
    refine fr_ck ?_
    refine fr_letG (fr_up hg (z_tch_row rfl _)) (fun g34 hg34 => ?_)
    refine fr_letI (fun y35 => ?_)
    exact hk225 (x4, y35, g34) hg34
theorem frM_X8_again_225_go {g0 : z_G} (x4 : Int32) (x5 : Int32) (g : z_G) (hg : z_ag (z_tch [1, 2, 3, 4, 5, 8, 9, 10, 12, 20, 21, 22, 23, 24, 25, 26, 27, 28, 29] [(0, 0), (0, 20), (0, 21), (0, 22), (0, 23)]) g0 g) : z_Fr (z_tch [1, 2, 3, 4, 5, 8, 9, 10, 12, 20, 21, 22, 23, 24, 25, 26, 27, 28, 29] [(0, 0), (0, 20), (0, 21), (0, 22), (0, 23)]) g0 (fM_X8_again_225_go x4 x5 g) := by
  refine fr_loop (P := fun w : Int32 × Int32 × z_G => z_ag (z_tch [1, 2, 3, 4, 5, 8, 9, 10, 12, 20, 21, 22, 23, 24, 25, 26, 27, 28, 29] [(0, 0), (0, 20), (0, 21), (0, 22), (0, 23)]) g0 w.2.2) (fun k hk w hw => ?_) z_fuel (x4, x5, g) hg
  exact frM_X8_again_225 k hk w.1 w.2.1 w.2.2 hw
theorem frM_X8_again_127 {g0 : z_G} (k127 : Int32 × Int32 × z_G → Option (Int32 × z_G)) (hk127 : ∀ w, z_ag (z_tch [1, 2, 3, 4, 5, 8, 9, 10, 12, 20, 21, 22, 23, 24, 25, 26, 27, 28, 29] [(0, 0), (0, 20), (0, 21), (0, 22), (0, 23)]) g0 w.2.2 → z_Fr (z_tch [1, 2, 3, 4, 5, 8, 9, 10, 12, 20, 21, 22, 23, 24, 25, 26, 27, 28, 29] [(0, 0), (0, 20), (0, 21), (0, 22), (0, 23)]) g0 (k127 w)) (x4 : Int32) (x5 : Int32) (g : z_G) (hg : z_ag (z_tch [1, 2, 3, 4, 5, 8, 9, 10, 12, 20, 21, 22, 23, 24, 25, 26, 27, 28, 29] [(0, 0), (0, 20), (0, 21), (0, 22), (0, 23)]) g0 g) : z_Fr (z_tch [1, 2, 3, 4, 5, 8, 9, 10, 12, 20, 21, 22, 23, 24, 25, 26, 27, 28, 29] [(0, 0), (0, 20), (0, 21), (0, 22), (0, 23)]) g0 (fM_X8_again_127 k127 x4 x5 g) := by
  unfold fM_X8_again_127
  refine fr_ite ?_ ?_
  · exact frM_X8_again_225_go x4 0 g hg
  · refine fr_ck ?_
    refine fr_ck ?_
    refine fr_letG (fr_up hg (z_tch_row rfl _)) (fun g39 hg39 => ?_)
    refine fr_ck ?_
    refine fr_ck ?_
    refine fr_letG (fr_up hg39 (z_tch_row rfl _)) (fun g42 hg42 => ?_)
    refine fr_ck ?_
    refine fr_ck ?_
    refine fr_letG (fr_up hg42 (z_tch_row rfl _)) (fun g45 hg45 => ?_)
    refine fr_ck ?_
    refine fr_letG (fr_up hg45 (z_tch_row rfl _)) (fun g47 hg47 => ?_)
    refine fr_ck ?_
    refine fr_letG (fr_up hg47 (z_tch_row rfl _)) (fun g49 hg49 => ?_)
    refine fr_ck ?_
    refine fr_letG (fr_up hg49 (z_tch_row rfl _)) (fun g51 hg51 => ?_)
    refine fr_ck ?_
    refine fr_letG (fr_up hg51 (z_tch_row rfl _)) (fun g53 hg53 => ?_)
    refine fr_ck ?_
    refine fr_letG (fr_up hg53 (z_tch_row rfl _)) (fun g55 hg55 => ?_)
    refine fr_letI (fun y56 => ?_)
    exact hk127 (x4, y56, g55) hg55
theorem frM_X8_again_127_go {g0 : z_G} (x4 : Int32) (x5 : Int32) (g : z_G) (hg : z_ag (z_tch [1, 2, 3, 4, 5, 8, 9, 10, 12, 20, 21, 22, 23, 24, 25, 26, 27, 28, 29] [(0, 0), (0, 20), (0, 21), (0, 22), (0, 23)]) g0 g) : z_Fr (z_tch [1, 2, 3, 4, 5, 8, 9, 10, 12, 20, 21, 22, 23, 24, 25, 26, 27, 28, 29] [(0, 0), (0, 20), (0, 21), (0, 22), (0, 23)]) g0 (fM_X8_again_127_go x4 x5 g) := by
  refine fr_loop (P := fun w : Int32 × Int32 × z_G => z_ag (z_tch [1, 2, 3, 4, 5, 8, 9, 10, 12, 20, 21, 22, 23, 24, 25, 26, 27, 28, 29] [(0, 0), (0, 20), (0, 21), (0, 22), (0, 23)]) g0 w.2.2) (fun k hk w hw => ?_) z_fuel (x4, x5, g) hg
  exact frM_X8_again_127 k hk w.1 w.2.1 w.2.2 hw
theorem frM_X8_again_63 {g0 : z_G} (k63 : Int32 × Int32 × Int32 × Int32 × Int32 × z_G → Option (Int32 × z_G)) (hk63 : ∀ w, z_ag (z_tch [1, 2, 3, 4, 5, 8, 9, 10, 12, 20, 21, 22, 23, 24, 25, 26, 27, 28, 29] [(0, 0), (0, 20), (0, 21), (0, 22), (0, 23)]) g0 w.2.2.2.2.2 → z_Fr (z_tch [1, 2, 3, 4, 5, 8, 9, 10, 12, 20, 21, 22, 23, 24, 25, 26, 27, 28, 29] [(0, 0), (0, 20), (0, 21), (0, 22), (0, 23)]) g0 (k63 w)) (x1 : Int32) (x2 : Int32) (x3 : Int32) (x4 : Int32) (x5 : Int32) (g : z_G) (hg : z_ag (z_tch [1, 2, 3, 4, 5, 8, 9, 10, 12, 20, 21, 22, 23, 24, 25, 26, 27, 28, 29] [(0, 0), (0, 20), (0, 21), (0, 22), (0, 23)]) g0 g) : z_Fr (z_tch [1, 2, 3, 4, 5, 8, 9, 10, 12, 20, 21, 22, 23, 24, 25, 26, 27, 28, 29] [(0, 0), (0, 20), (0, 21), (0, 22), (0, 23)]) g0 (fM_X8_again_63 k63 x1 x2 x3 x4 x5 g) := by
  unfold fM_X8_again_63
  refine fr_ite ?_ ?_
  · exact frM_X8_again_127_go x4 0 g hg
  · refine fr_ite ?_ ?_
    · exact frM_X8_again_93 k63 hk63 x2 x5 x1 x2 x3 x4 x5 g hg
    · refine fr_ck ?_
      exact frM_X8_again_93 k63 hk63 (g 20 (Int32.toNatClampNeg x5)) x5 x1 x2 x3 x4 x5 g hg
theorem frM_X8_again_63_go {g0 : z_G} (x1 : Int32) (x2 : Int32) (x3 : Int32) (x4 : Int32) (x5 : Int32) (g : z_G) (hg : z_ag (z_tch [1, 2, 3, 4, 5, 8, 9, 10, 12, 20, 21, 22, 23, 24, 25, 26, 27, 28, 29] [(0, 0), (0, 20), (0, 21), (0, 22), (0, 23)]) g0 g) : z_Fr (z_tch [1, 2, 3, 4, 5, 8, 9, 10, 12, 20, 21, 22, 23, 24, 25, 26, 27, 28, 29] [(0, 0), (0, 20), (0, 21), (0, 22), (0, 23)]) g0 (fM_X8_again_63_go x1 x2 x3 x4 x5 g) := by
  refine fr_loop (P := fun w : Int32 × Int32 × Int32 × Int32 × Int32 × z_G => z_ag (z_tch [1, 2, 3, 4, 5, 8, 9, 10, 12, 20, 21, 22, 23, 24, 25, 26, 27, 28, 29] [(0, 0), (0, 20), (0, 21), (0, 22), (0, 23)]) g0 w.2.2.2.2.2) (fun k hk w hw => ?_) z_fuel (x1, x2, x3, x4, x5, g) hg
  exact frM_X8_again_63 k hk w.1 w.2.1 w.2.2.1 w.2.2.2.1 w.2.2.2.2.1 w.2.2.2.2.2 hw
theorem frM_X8_again (a0 : Int32) (a1 : Int32) (a2 : Int32) (g : z_G) : z_Fr (z_tch [1, 2, 3, 4, 5, 8, 9, 10, 12, 20, 21, 22, 23, 24, 25, 26, 27, 28, 29] [(0, 0), (0, 20), (0, 21), (0, 22), (0, 23)]) g (fM_X8_again a0 a1 a2 g) := by
  have hg : z_ag (z_tch [1, 2, 3, 4, 5, 8, 9, 10, 12, 20, 21, 22, 23, 24, 25, 26, 27, 28, 29] [(0, 0), (0, 20), (0, 21), (0, 22), (0, 23)]) g g := fr_rf
  unfold fM_X8_again
  refine fr_letG (fr_up hg rfl) (fun g60 hg60 => ?_)
  refine fr_ite ?_ ?_
  · exact frM_X8_again_52 g60 hg60
  · refine fr_bind (frM_X8_in ((a0 : Int32).toInt64) 0 (((g60 0 21) - 1 : Int32).toInt64) g60) (z_tch_sub rfl) hg60 (fun r62 g63 hg63 => ?_)
    refine fr_ite ?_ ?_
    · exact frM_X8_again_52 g63 hg63
    · refine fr_bind (frM_X8_in ((a1 : Int32).toInt64) 0 9 g63) (z_tch_sub rfl) hg63 (fun r66 g67 hg67 => ?_)
      refine fr_ite ?_ ?_
      · exact frM_X8_again_52 g67 hg67
      · refine fr_bind (frM_X8_in ((a2 : Int32).toInt64) 0 3 g67) (z_tch_sub rfl) hg67 (fun r70 g71 hg71 => ?_)
        refine fr_ite ?_ ?_
        · exact frM_X8_again_52 g71 hg71
        · refine fr_letI (fun y74 => ?_)
          exact frM_X8_again_63_go a0 a1 a2 y74 0 g71 hg71
theorem frM_X8_rake_41 {g0 : z_G} (k41 : Int32 × Int32 × z_G → Option (Int32 × z_G)) (hk41 : ∀ w, z_ag (z_tch [1, 2, 3, 4, 5, 6, 7, 8, 9, 10, 12] [(0, 0), (0, 20), (0, 21), (0, 22), (0, 23), (0, 25), (0, 26)]) g0 w.2.2 → z_Fr (z_tch [1, 2, 3, 4, 5, 6, 7, 8, 9, 10, 12] [(0, 0), (0, 20), (0, 21), (0, 22), (0, 23), (0, 25), (0, 26)]) g0 (k41 w)) (x1 : Int32) (x2 : Int32) (g : z_G) (hg : z_ag (z_tch [1, 2, 3, 4, 5, 6, 7, 8, 9, 10, 12] [(0, 0), (0, 20), (0, 21), (0, 22), (0, 23), (0, 25), (0, 26)]) g0 g) : z_Fr (z_tch [1, 2, 3, 4, 5, 6, 7, 8, 9, 10, 12] [(0, 0), (0, 20), (0, 21), (0, 22), (0, 23), (0, 25), (0, 26)]) g0 (fM_X8_rake_41 k41 x1 x2 g) := by
  unfold fM_X8_rake_41
  refine fr_ite ?_ ?_
  · exact fr_some hg
  · refine fr_ck ?_
    refine fr_letG (fr_up hg (z_tch_row rfl _)) (fun g3 hg3 => ?_)
    refine fr_letI (fun y4 => ?_)
    exact hk41 (x1, y4, g3) hg3
theorem frM_X8_rake_41_go {g0 : z_G} (x1 : Int32) (x2 : Int32) (g : z_G) (hg : z_ag (z_tch [1, 2, 3, 4, 5, 6, 7, 8, 9, 10, 12] [(0, 0), (0, 20), (0, 21), (0, 22), (0, 23), (0, 25), (0, 26)]) g0 g) : z_Fr (z_tch [1, 2, 3, 4, 5, 6, 7, 8, 9, 10, 12] [(0, 0), (0, 20), (0, 21), (0, 22), (0, 23), (0, 25), (0, 26)]) g0 (fM_X8_rake_41_go x1 x2 g) := by
  refine fr_loop (P := fun w : Int32 × Int32 × z_G => z_ag (z_tch [1, 2, 3, 4, 5, 6, 7, 8, 9, 10, 12] [(0, 0), (0, 20), (0, 21), (0, 22), (0, 23), (0, 25), (0, 26)]) g0 w.2.2) (fun k hk w hw => ?_) z_fuel (x1, x2, g) hg
  exact frM_X8_rake_41 k hk w.1 w.2.1 w.2.2 hw
theorem frM_X8_rake (g : z_G) : z_Fr (z_tch [1, 2, 3, 4, 5, 6, 7, 8, 9, 10, 12] [(0, 0), (0, 20), (0, 21), (0, 22), (0, 23), (0, 25), (0, 26)]) g (fM_X8_rake g) := by
  have hg : z_ag (z_tch [1, 2, 3, 4, 5, 6, 7, 8, 9, 10, 12] [(0, 0), (0, 20), (0, 21), (0, 22), (0, 23), (0, 25), (0, 26)]) g g := fr_rf
  unfold fM_X8_rake
  refine fr_letG (fr_up hg rfl) (fun g5 hg5 => ?_)
  refine fr_ite ?_ ?_
  · exact fr_some hg5
  · refine fr_bind (frM_X8_sum_r2 g5) (z_tch_sub rfl) hg5 (fun r7 g8 hg8 => ?_)
    refine fr_letI (fun y10 => ?_)
    refine fr_letG (fr_up hg8 rfl) (fun g11 hg11 => ?_)
    refine fr_bind (frM_X8_empties g11) (z_tch_sub rfl) hg11 (fun r12 g13 hg13 => ?_)
    exact frM_X8_rake_41_go y10 0 g13 hg13
theorem frM_X8_count_110 {g0 : z_G} (s0 : Int32) (g : z_G) (hg : z_ag (z_tch [] [(0, 0)]) g0 g) : z_Fr (z_tch [] [(0, 0)]) g0 (fM_X8_count_110 s0 g) := by
  unfold fM_X8_count_110
  exact fr_some hg
theorem frM_X8_count (a0 : Int32) (g : z_G) : z_Fr (z_tch [] [(0, 0)]) g (fM_X8_count a0 g) := by
  have hg : z_ag (z_tch [] [(0, 0)]) g g := fr_rf
  unfold fM_X8_count
  refine fr_letG (fr_up hg rfl) (fun g1 hg1 => ?_)
  refine fr_ite ?_ ?_
  · exact fr_some hg1
  · refine fr_ite ?_ ?_
    · exact fr_some hg1
    · refine fr_ite ?_ ?_
      · exact fr_some hg1
      · refine fr_ite ?_ ?_
        · refine fr_bind (frM_X8_opened g1) (z_tch_sub rfl) hg1 (fun r6 g7 hg7 => ?_)
          exact fr_some hg7
        · refine fr_ite ?_ ?_
          · exact fr_some hg1
          · refine fr_ite ?_ ?_
            · exact fr_some hg1
            · refine fr_ite ?_ ?_
              · refine fr_ite ?_ ?_
                · exact frM_X8_count_110 0 g1 hg1
                · exact frM_X8_count_110 1 g1 hg1
              · refine fr_ite ?_ ?_
                · refine fr_bind (frM_X8_burning g1) (z_tch_sub rfl) hg1 (fun r14 g15 hg15 => ?_)
                  exact fr_some hg15
                · refine fr_ite ?_ ?_
                  · exact fr_some hg1
                  · refine fr_ite ?_ ?_
                    · exact fr_some hg1
                    · refine fr_ite ?_ ?_
                      · exact fr_some hg1
                      · refine fr_ite ?_ ?_
                        · exact fr_some hg1
                        · exact fr_some hg1
theorem frM_X8_cell_26 {g0 : z_G} (g : z_G) (hg : z_ag (z_tch [] [(0, 0)]) g0 g) : z_Fr (z_tch [] [(0, 0)]) g0 (fM_X8_cell_26 g) := by
  unfold fM_X8_cell_26
  refine fr_bind (frM_X8_refuse g) (z_tch_sub rfl) hg (fun r1 g2 hg2 => ?_)
  exact fr_some hg2
theorem frM_X8_cell_135 {g0 : z_G} (s0 : Int32) (g : z_G) (hg : z_ag (z_tch [] [(0, 0)]) g0 g) : z_Fr (z_tch [] [(0, 0)]) g0 (fM_X8_cell_135 s0 g) := by
  unfold fM_X8_cell_135
  exact fr_some hg
theorem frM_X8_cell_156 {g0 : z_G} (s0 : Int32) (g : z_G) (hg : z_ag (z_tch [] [(0, 0)]) g0 g) : z_Fr (z_tch [] [(0, 0)]) g0 (fM_X8_cell_156 s0 g) := by
  unfold fM_X8_cell_156
  exact fr_some hg
theorem frM_X8_cell (a0 : Int32) (a1 : Int32) (a2 : Int32) (g : z_G) : z_Fr (z_tch [] [(0, 0)]) g (fM_X8_cell a0 a1 a2 g) := by
  have hg : z_ag (z_tch [] [(0, 0)]) g g := fr_rf
  unfold fM_X8_cell
  refine fr_letG (fr_up hg rfl) (fun g4 hg4 => ?_)
  refine fr_bind (frM_X8_isCell a0 a1 g4) (z_tch_sub rfl) hg4 (fun r5 g6 hg6 => ?_)
  refine fr_ite ?_ ?_
  · exact frM_X8_cell_26 g6 hg6
  · refine fr_bind (frM_X8_in ((a2 : Int32).toInt64) 0 8 g6) (z_tch_sub rfl) hg6 (fun r9 g10 hg10 => ?_)
    refine fr_ite ?_ ?_
    · exact frM_X8_cell_26 g10 hg10
    · refine fr_letI (fun y13 => ?_)
      refine fr_ite ?_ ?_
      · refine fr_ck ?_
        exact fr_some hg10
      · refine fr_ite ?_ ?_
        · refine fr_ck ?_
          exact fr_some hg10
        · refine fr_ite ?_ ?_
          · refine fr_ck ?_
            exact fr_some hg10
          · refine fr_ite ?_ ?_
            · refine fr_ck ?_
              exact fr_some hg10
            · refine fr_ite ?_ ?_
              · refine fr_ck ?_
                refine fr_ite ?_ ?_
                · exact frM_X8_cell_135 0 g10 hg10
                · exact frM_X8_cell_135 1 g10 hg10
              · refine fr_ite ?_ ?_
                · refine fr_bind (frM_X8_isOutside y13 g10) (z_tch_sub rfl) hg10 (fun r26 g27 hg27 => ?_)
                  refine fr_ite ?_ ?_
                  · exact frM_X8_cell_156 (-1) g27 hg27
                  · refine fr_ck ?_
                    exact frM_X8_cell_156 (g27 8 (Int32.toNatClampNeg y13)) g27 hg27
                · refine fr_ite ?_ ?_
                  · refine fr_ck ?_
                    exact fr_some hg10
                  · refine fr_ite ?_ ?_
                    · refine fr_ck ?_
                      exact fr_some hg10
                    · refine fr_ck ?_
                      exact fr_some hg10
theorem frM_X8_sum_r7_4 {g0 : z_G} (k4 : Int32 × Int32 × z_G → Option (Int32 × z_G)) (hk4 : ∀ w, z_ag (z_tch [] []) g0 w.2.2 → z_Fr (z_tch [] []) g0 (k4 w)) (x1 : Int32) (x2 : Int32) (g : z_G) (hg : z_ag (z_tch [] []) g0 g) : z_Fr (z_tch [] []) g0 (fM_X8_sum_r7_4 k4 x1 x2 g) := by
  unfold fM_X8_sum_r7_4
  refine fr_ite ?_ ?_
  · exact fr_some hg
  · refine fr_ck ?_
    refine fr_letI (fun y3 => ?_)
    refine fr_letI (fun y4 => ?_)
    exact hk4 (y3, y4, g) hg
theorem frM_X8_sum_r7_4_go {g0 : z_G} (x1 : Int32) (x2 : Int32) (g : z_G) (hg : z_ag (z_tch [] []) g0 g) : z_Fr (z_tch [] []) g0 (fM_X8_sum_r7_4_go x1 x2 g) := by
  refine fr_loop (P := fun w : Int32 × Int32 × z_G => z_ag (z_tch [] []) g0 w.2.2) (fun k hk w hw => ?_) z_fuel (x1, x2, g) hg
  exact frM_X8_sum_r7_4 k hk w.1 w.2.1 w.2.2 hw
theorem frM_X8_sum_r7 (g : z_G) : z_Fr (z_tch [] []) g (fM_X8_sum_r7 g) := by
  have hg : z_ag (z_tch [] []) g g := fr_rf
  unfold fM_X8_sum_r7
  exact frM_X8_sum_r7_4_go 0 0 g hg
theorem frM_X8_sum_r1_4 {g0 : z_G} (k4 : Int32 × Int32 × z_G → Option (Int32 × z_G)) (hk4 : ∀ w, z_ag (z_tch [] []) g0 w.2.2 → z_Fr (z_tch [] []) g0 (k4 w)) (x1 : Int32) (x2 : Int32) (g : z_G) (hg : z_ag (z_tch [] []) g0 g) : z_Fr (z_tch [] []) g0 (fM_X8_sum_r1_4 k4 x1 x2 g) := by
  unfold fM_X8_sum_r1_4
  refine fr_ite ?_ ?_
  · exact fr_some hg
  · refine fr_ck ?_
    refine fr_letI (fun y3 => ?_)
    refine fr_letI (fun y4 => ?_)
    exact hk4 (y3, y4, g) hg
theorem frM_X8_sum_r1_4_go {g0 : z_G} (x1 : Int32) (x2 : Int32) (g : z_G) (hg : z_ag (z_tch [] []) g0 g) : z_Fr (z_tch [] []) g0 (fM_X8_sum_r1_4_go x1 x2 g) := by
  refine fr_loop (P := fun w : Int32 × Int32 × z_G => z_ag (z_tch [] []) g0 w.2.2) (fun k hk w hw => ?_) z_fuel (x1, x2, g) hg
  exact frM_X8_sum_r1_4 k hk w.1 w.2.1 w.2.2 hw
theorem frM_X8_sum_r1 (g : z_G) : z_Fr (z_tch [] []) g (fM_X8_sum_r1 g) := by
  have hg : z_ag (z_tch [] []) g g := fr_rf
  unfold fM_X8_sum_r1
  exact frM_X8_sum_r1_4_go 0 0 g hg
theorem frM_X8_all (a0 : Int32) (g : z_G) : z_Fr (z_tch [] [(0, 0)]) g (fM_X8_all a0 g) := by
  have hg : z_ag (z_tch [] [(0, 0)]) g g := fr_rf
  unfold fM_X8_all
  refine fr_letG (fr_up hg rfl) (fun g1 hg1 => ?_)
  refine fr_ite ?_ ?_
  · refine fr_bind (frM_X8_sum_r7 g1) (z_tch_sub rfl) hg1 (fun r3 g4 hg4 => ?_)
    exact fr_some hg4
  · refine fr_ite ?_ ?_
    · refine fr_bind (frM_X8_sum_r1 g1) (z_tch_sub rfl) hg1 (fun r7 g8 hg8 => ?_)
      exact fr_some hg8
    · refine fr_ite ?_ ?_
      · refine fr_bind (frM_X8_sum_r2 g1) (z_tch_sub rfl) hg1 (fun r11 g12 hg12 => ?_)
        exact fr_some hg12
      · refine fr_ite ?_ ?_
        · exact fr_some hg1
        · refine fr_ite ?_ ?_
          · exact fr_some hg1
          · exact fr_some hg1
theorem frM_X8_told (a0 : Int32) (a1 : Int32) (g : z_G) : z_Fr (z_tch [] [(0, 0)]) g (fM_X8_told a0 a1 g) := by
  have hg : z_ag (z_tch [] [(0, 0)]) g g := fr_rf
  unfold fM_X8_told
  refine fr_letG (fr_up hg rfl) (fun g1 hg1 => ?_)
  refine fr_bind (frM_X8_in ((a0 : Int32).toInt64) 0 (((g1 0 21) - 1 : Int32).toInt64) g1) (z_tch_sub rfl) hg1 (fun r2 g3 hg3 => ?_)
  refine fr_ite ?_ ?_
  · exact fr_some hg3
  · refine fr_ite ?_ ?_
    · refine fr_ck ?_
      exact fr_some hg3
    · refine fr_ite ?_ ?_
      · refine fr_ck ?_
        exact fr_some hg3
      · refine fr_ite ?_ ?_
        · refine fr_ck ?_
          exact fr_some hg3
        · refine fr_ite ?_ ?_
          · refine fr_ck ?_
            exact fr_some hg3
          · refine fr_ite ?_ ?_
            · refine fr_ck ?_
              exact fr_some hg3
            · refine fr_ite ?_ ?_
              · refine fr_ck ?_
                exact fr_some hg3
              · exact fr_some hg3
theorem frM_X8_breach_29 {g0 : z_G} (s0 : Int32) (g : z_G) (hg : z_ag (z_tch [] [(0, 0)]) g0 g) : z_Fr (z_tch [] [(0, 0)]) g0 (fM_X8_breach_29 s0 g) := by
  unfold fM_X8_breach_29
  exact fr_some hg
theorem frM_X8_breach (a0 : Int32) (a1 : Int32) (g : z_G) : z_Fr (z_tch [] [(0, 0)]) g (fM_X8_breach a0 a1 g) := by
  have hg : z_ag (z_tch [] [(0, 0)]) g g := fr_rf
  unfold fM_X8_breach
  refine fr_letG (fr_up hg rfl) (fun g1 hg1 => ?_)
  refine fr_bind (frM_X8_isCell a0 a1 g1) (z_tch_sub rfl) hg1 (fun r2 g3 hg3 => ?_)
  refine fr_ite ?_ ?_
  · exact frM_X8_breach_29 (-1) g3 hg3
  · refine fr_ck ?_
    exact frM_X8_breach_29 (g3 10 (Int32.toNatClampNeg ((a1 * 8) + a0))) g3 hg3
theorem frM_X8_sign_18 {g0 : z_G} (k18 : Int32 × Int32 × z_G → Option (Int32 × z_G)) (hk18 : ∀ w, z_ag (z_tch [30] [(0, 0), (0, 41)]) g0 w.2.2 → z_Fr (z_tch [30] [(0, 0), (0, 41)]) g0 (k18 w)) (x1 : Int32) (x2 : Int32) (g : z_G) (hg : z_ag (z_tch [30] [(0, 0), (0, 41)]) g0 g) : z_Fr (z_tch [30] [(0, 0), (0, 41)]) g0 (fM_X8_sign_18 k18 x1 x2 g) := by
  unfold fM_X8_sign_18
  refine fr_ite ?_ ?_
  · refine fr_letG (fr_up hg rfl) (fun g2 hg2 => ?_)
    exact fr_some hg2
  · refine fr_ck ?_
    refine fr_letG (fr_up hg (z_tch_row rfl _)) (fun g4 hg4 => ?_)
    refine fr_letI (fun y5 => ?_)
    exact hk18 (x1, y5, g4) hg4
theorem frM_X8_sign_18_go {g0 : z_G} (x1 : Int32) (x2 : Int32) (g : z_G) (hg : z_ag (z_tch [30] [(0, 0), (0, 41)]) g0 g) : z_Fr (z_tch [30] [(0, 0), (0, 41)]) g0 (fM_X8_sign_18_go x1 x2 g) := by
  refine fr_loop (P := fun w : Int32 × Int32 × z_G => z_ag (z_tch [30] [(0, 0), (0, 41)]) g0 w.2.2) (fun k hk w hw => ?_) z_fuel (x1, x2, g) hg
  exact frM_X8_sign_18 k hk w.1 w.2.1 w.2.2 hw
theorem frM_X8_sign (a0 : Int32) (g : z_G) : z_Fr (z_tch [30] [(0, 0), (0, 41)]) g (fM_X8_sign a0 g) := by
  have hg : z_ag (z_tch [30] [(0, 0), (0, 41)]) g g := fr_rf
  unfold fM_X8_sign
  refine fr_letG (fr_up hg rfl) (fun g6 hg6 => ?_)
  refine fr_ite ?_ ?_
  · exact frM_X8_sign_18_go a0 0 g6 hg6
  · exact fr_some hg6
theorem frM_X8_end (a0 : Int32) (g : z_G) : z_Fr (z_tch [] [(0, 0), (0, 41)]) g (fM_X8_end a0 g) := by
  have hg : z_ag (z_tch [] [(0, 0), (0, 41)]) g g := fr_rf
  unfold fM_X8_end
  refine fr_letG (fr_up hg rfl) (fun g1 hg1 => ?_)
  refine fr_bind (frM_X8_in ((a0 : Int32).toInt64) 0 ((g1 0 41 : Int32).toInt64) g1) (z_tch_sub rfl) hg1 (fun r2 g3 hg3 => ?_)
  refine fr_ite ?_ ?_
  · refine fr_bo ?_
    exact fr_some hg3
  · refine fr_letG (fr_up hg3 rfl) (fun g6 hg6 => ?_)
    refine fr_bo ?_
    exact fr_some hg6
theorem frM_X8_repeal (g : z_G) : z_Fr (z_tch [] [(0, 0), (0, 42)]) g (fM_X8_repeal g) := by
  have hg : z_ag (z_tch [] [(0, 0), (0, 42)]) g g := fr_rf
  unfold fM_X8_repeal
  refine fr_letG (fr_up hg rfl) (fun g1 hg1 => ?_)
  refine fr_ite ?_ ?_
  · refine fr_letI (fun y3 => ?_)
    refine fr_letG (fr_up hg1 rfl) (fun g4 hg4 => ?_)
    exact fr_some hg4
  · exact fr_some hg1
theorem frM_X8_wood_50 {g0 : z_G} (g : z_G) (hg : z_ag (z_tch [38, 39, 40] [(0, 0), (0, 52)]) g0 g) : z_Fr (z_tch [38, 39, 40] [(0, 0), (0, 52)]) g0 (fM_X8_wood_50 g) := by
  unfold fM_X8_wood_50
  exact fr_some hg
theorem frM_X8_wood (a0 : Int32) (a1 : Int32) (a2 : Int32) (g : z_G) : z_Fr (z_tch [38, 39, 40] [(0, 0), (0, 52)]) g (fM_X8_wood a0 a1 a2 g) := by
  have hg : z_ag (z_tch [38, 39, 40] [(0, 0), (0, 52)]) g g := fr_rf
  unfold fM_X8_wood
  refine fr_letG (fr_up hg rfl) (fun g1 hg1 => ?_)
  refine fr_bind (frM_X8_in ((a0 : Int32).toInt64) 0 200 g1) (z_tch_sub rfl) hg1 (fun r2 g3 hg3 => ?_)
  refine fr_ite ?_ ?_
  · exact frM_X8_wood_50 g3 hg3
  · refine fr_bind (frM_X8_in ((a1 : Int32).toInt64) 1 100 g3) (z_tch_sub rfl) hg3 (fun r6 g7 hg7 => ?_)
    refine fr_ite ?_ ?_
    · exact frM_X8_wood_50 g7 hg7
    · refine fr_bind (frM_X8_in ((a2 : Int32).toInt64) 1 1000 g7) (z_tch_sub rfl) hg7 (fun r10 g11 hg11 => ?_)
      refine fr_ite ?_ ?_
      · exact frM_X8_wood_50 g11 hg11
      · refine fr_ite ?_ ?_
        · exact frM_X8_wood_50 g11 hg11
        · refine fr_ck ?_
          refine fr_letG (fr_up hg11 (z_tch_row rfl _)) (fun g16 hg16 => ?_)
          refine fr_ck ?_
          refine fr_letG (fr_up hg16 (z_tch_row rfl _)) (fun g18 hg18 => ?_)
          refine fr_ck ?_
          refine fr_letG (fr_up hg18 (z_tch_row rfl _)) (fun g20 hg20 => ?_)
          refine fr_letG (fr_up hg20 rfl) (fun g21 hg21 => ?_)
          exact fr_some hg21
theorem frM_X8_years_21 {g0 : z_G} (k21 : Int32 × Int32 × z_G → Option (Int32 × z_G)) (hk21 : ∀ w, z_ag (z_tch [38] [(0, 0)]) g0 w.2.2 → z_Fr (z_tch [38] [(0, 0)]) g0 (k21 w)) (x1 : Int32) (x2 : Int32) (g : z_G) (hg : z_ag (z_tch [38] [(0, 0)]) g0 g) : z_Fr (z_tch [38] [(0, 0)]) g0 (fM_X8_years_21 k21 x1 x2 g) := by
  unfold fM_X8_years_21
  refine fr_ite ?_ ?_
  · refine fr_bo ?_
    exact fr_some hg
  · refine fr_ck ?_
    refine fr_letI (fun y3 => ?_)
    refine fr_ck ?_
    refine fr_letG (fr_up hg (z_tch_row rfl _)) (fun g5 hg5 => ?_)
    refine fr_letI (fun y6 => ?_)
    exact hk21 (x1, y6, g5) hg5
theorem frM_X8_years_21_go {g0 : z_G} (x1 : Int32) (x2 : Int32) (g : z_G) (hg : z_ag (z_tch [38] [(0, 0)]) g0 g) : z_Fr (z_tch [38] [(0, 0)]) g0 (fM_X8_years_21_go x1 x2 g) := by
  refine fr_loop (P := fun w : Int32 × Int32 × z_G => z_ag (z_tch [38] [(0, 0)]) g0 w.2.2) (fun k hk w hw => ?_) z_fuel (x1, x2, g) hg
  exact frM_X8_years_21 k hk w.1 w.2.1 w.2.2 hw
theorem frM_X8_years (a0 : Int32) (g : z_G) : z_Fr (z_tch [38] [(0, 0)]) g (fM_X8_years a0 g) := by
  have hg : z_ag (z_tch [38] [(0, 0)]) g g := fr_rf
  unfold fM_X8_years
  refine fr_letG (fr_up hg rfl) (fun g7 hg7 => ?_)
  refine fr_bind (frM_X8_in ((a0 : Int32).toInt64) 0 200 g7) (z_tch_sub rfl) hg7 (fun r8 g9 hg9 => ?_)
  refine fr_ite ?_ ?_
  · refine fr_bo ?_
    exact fr_some hg9
  · exact frM_X8_years_21_go a0 0 g9 hg9
theorem frM_X8_cut_36 {g0 : z_G} (g : z_G) (hg : z_ag (z_tch [38] [(0, 0)]) g0 g) : z_Fr (z_tch [38] [(0, 0)]) g0 (fM_X8_cut_36 g) := by
  unfold fM_X8_cut_36
  exact fr_some hg
theorem frM_X8_cut (a0 : Int32) (g : z_G) : z_Fr (z_tch [38] [(0, 0)]) g (fM_X8_cut a0 g) := by
  have hg : z_ag (z_tch [38] [(0, 0)]) g g := fr_rf
  unfold fM_X8_cut
  refine fr_letG (fr_up hg rfl) (fun g1 hg1 => ?_)
  refine fr_bind (frM_X8_in ((a0 : Int32).toInt64) 0 (((g1 0 52) - 1 : Int32).toInt64) g1) (z_tch_sub rfl) hg1 (fun r2 g3 hg3 => ?_)
  refine fr_ite ?_ ?_
  · exact frM_X8_cut_36 g3 hg3
  · refine fr_ck ?_
    refine fr_ck ?_
    refine fr_ite ?_ ?_
    · refine fr_ck ?_
      refine fr_letG (fr_up hg3 (z_tch_row rfl _)) (fun g10 hg10 => ?_)
      refine fr_ck ?_
      exact fr_some hg10
    · exact frM_X8_cut_36 g3 hg3
theorem frM_X8_loadsOf_47 {g0 : z_G} (k4 : Int32 × Int32 × Int32 × z_G → Option (Int32 × z_G)) (hk4 : ∀ w, z_ag (z_tch [] []) g0 w.2.2.2 → z_Fr (z_tch [] []) g0 (k4 w)) (x1 : Int32) (x2 : Int32) (x3 : Int32) (g : z_G) (hg : z_ag (z_tch [] []) g0 g) : z_Fr (z_tch [] []) g0 (fM_X8_loadsOf_47 k4 x1 x2 x3 g) := by
  unfold fM_X8_loadsOf_47
  refine fr_letI (fun y1 => ?_)
  exact hk4 (x1, x2, y1, g) hg
theorem frM_X8_loadsOf_4 {g0 : z_G} (k4 : Int32 × Int32 × Int32 × z_G → Option (Int32 × z_G)) (hk4 : ∀ w, z_ag (z_tch [] []) g0 w.2.2.2 → z_Fr (z_tch [] []) g0 (k4 w)) (x1 : Int32) (x2 : Int32) (x3 : Int32) (g : z_G) (hg : z_ag (z_tch [] []) g0 g) : z_Fr (z_tch [] []) g0 (fM_X8_loadsOf_4 k4 x1 x2 x3 g) := by
  unfold fM_X8_loadsOf_4
  refine fr_ite ?_ ?_
  · exact fr_some hg
  · refine fr_ite ?_ ?_
    · refine fr_ck ?_
      refine fr_ck ?_
      refine fr_ite ?_ ?_
      · refine fr_ck ?_
        refine fr_letI (fun y8 => ?_)
        exact frM_X8_loadsOf_47 k4 hk4 x1 y8 x3 g hg
      · exact fr_some hg
    · exact frM_X8_loadsOf_47 k4 hk4 x1 x2 x3 g hg
theorem frM_X8_loadsOf_4_go {g0 : z_G} (x1 : Int32) (x2 : Int32) (x3 : Int32) (g : z_G) (hg : z_ag (z_tch [] []) g0 g) : z_Fr (z_tch [] []) g0 (fM_X8_loadsOf_4_go x1 x2 x3 g) := by
  refine fr_loop (P := fun w : Int32 × Int32 × Int32 × z_G => z_ag (z_tch [] []) g0 w.2.2.2) (fun k hk w hw => ?_) z_fuel (x1, x2, x3, g) hg
  exact frM_X8_loadsOf_4 k hk w.1 w.2.1 w.2.2.1 w.2.2.2 hw
theorem frM_X8_loadsOf (a0 : Int32) (g : z_G) : z_Fr (z_tch [] []) g (fM_X8_loadsOf a0 g) := by
  have hg : z_ag (z_tch [] []) g g := fr_rf
  unfold fM_X8_loadsOf
  exact frM_X8_loadsOf_4_go a0 0 0 g hg
theorem frM_J6_bitCount_0f7a4 (a0 : Int32) (g : z_G) : z_Fr (z_tch [] []) g (fM_J6_bitCount_0f7a4 a0 g) := by
  have hg : z_ag (z_tch [] []) g g := fr_rf
  unfold fM_J6_bitCount_0f7a4
  refine fr_letI (fun y1 => ?_)
  refine fr_letI (fun y2 => ?_)
  refine fr_letI (fun y3 => ?_)
  refine fr_letI (fun y4 => ?_)
  refine fr_letI (fun y5 => ?_)
  exact fr_some hg
theorem frM_X8_plan_97 {g0 : z_G} (k27 : Int32 × Int32 × Int32 × Int32 × z_G → Option (Int32 × z_G)) (hk27 : ∀ w, z_ag (z_tch [] [(0, 0)]) g0 w.2.2.2.2 → z_Fr (z_tch [] [(0, 0)]) g0 (k27 w)) (x1 : Int32) (x2 : Int32) (x3 : Int32) (x4 : Int32) (g : z_G) (hg : z_ag (z_tch [] [(0, 0)]) g0 g) : z_Fr (z_tch [] [(0, 0)]) g0 (fM_X8_plan_97 k27 x1 x2 x3 x4 g) := by
  unfold fM_X8_plan_97
  refine fr_letI (fun y1 => ?_)
  exact hk27 (x1, x2, x3, y1, g) hg
theorem frM_X8_plan_91 {g0 : z_G} (k27 : Int32 × Int32 × Int32 × Int32 × z_G → Option (Int32 × z_G)) (hk27 : ∀ w, z_ag (z_tch [] [(0, 0)]) g0 w.2.2.2.2 → z_Fr (z_tch [] [(0, 0)]) g0 (k27 w)) (x1 : Int32) (x4 : Int32) (x5 : Int32) (g : z_G) (hg : z_ag (z_tch [] [(0, 0)]) g0 g) : z_Fr (z_tch [] [(0, 0)]) g0 (fM_X8_plan_91 k27 x1 x4 x5 g) := by
  unfold fM_X8_plan_91
  exact frM_X8_plan_97 k27 hk27 x1 x4 x5 x4 g hg
theorem frM_X8_plan_73 {g0 : z_G} (k27 : Int32 × Int32 × Int32 × Int32 × z_G → Option (Int32 × z_G)) (hk27 : ∀ w, z_ag (z_tch [] [(0, 0)]) g0 w.2.2.2.2 → z_Fr (z_tch [] [(0, 0)]) g0 (k27 w)) (s0 : Int32) (x1 : Int32) (x2 : Int32) (x3 : Int32) (x4 : Int32) (x5 : Int32) (g : z_G) (hg : z_ag (z_tch [] [(0, 0)]) g0 g) : z_Fr (z_tch [] [(0, 0)]) g0 (fM_X8_plan_73 k27 s0 x1 x2 x3 x4 x5 g) := by
  unfold fM_X8_plan_73
  refine fr_ite ?_ ?_
  · exact frM_X8_plan_91 k27 hk27 x1 x4 x5 g hg
  · refine fr_ite ?_ ?_
    · refine fr_ite ?_ ?_
      · exact frM_X8_plan_97 k27 hk27 x1 x2 x3 x4 g hg
      · exact frM_X8_plan_91 k27 hk27 x1 x4 x5 g hg
    · exact frM_X8_plan_97 k27 hk27 x1 x2 x3 x4 g hg
theorem frM_X8_plan_27 {g0 : z_G} (k27 : Int32 × Int32 × Int32 × Int32 × z_G → Option (Int32 × z_G)) (hk27 : ∀ w, z_ag (z_tch [] [(0, 0)]) g0 w.2.2.2.2 → z_Fr (z_tch [] [(0, 0)]) g0 (k27 w)) (x1 : Int32) (x2 : Int32) (x3 : Int32) (x4 : Int32) (g : z_G) (hg : z_ag (z_tch [] [(0, 0)]) g0 g) : z_Fr (z_tch [] [(0, 0)]) g0 (fM_X8_plan_27 k27 x1 x2 x3 x4 g) := by
  unfold fM_X8_plan_27
  refine fr_ite ?_ ?_
  · exact fr_some hg
  · refine fr_bind (frM_X8_loadsOf x4 g) (z_tch_sub rfl) hg (fun r6 g7 hg7 => ?_)
    refine fr_ite ?_ ?_
    · refine fr_ite ?_ ?_
      · refine fr_bind (frM_J6_bitCount_0f7a4 x4 g7) (z_tch_sub rfl) hg7 (fun r11 g12 hg12 => ?_)
        refine fr_bind (frM_J6_bitCount_0f7a4 x2 g12) (z_tch_sub rfl) hg12 (fun r14 g15 hg15 => ?_)
        exact frM_X8_plan_73 k27 hk27 (r11 - r14) x1 x2 x3 x4 r6 g15 hg15
      · exact frM_X8_plan_73 k27 hk27 (-1) x1 x2 x3 x4 r6 g7 hg7
    · exact frM_X8_plan_97 k27 hk27 x1 x2 x3 x4 g7 hg7
theorem frM_X8_plan_27_go {g0 : z_G} (x1 : Int32) (x2 : Int32) (x3 : Int32) (x4 : Int32) (g : z_G) (hg : z_ag (z_tch [] [(0, 0)]) g0 g) : z_Fr (z_tch [] [(0, 0)]) g0 (fM_X8_plan_27_go x1 x2 x3 x4 g) := by
  refine fr_loop (P := fun w : Int32 × Int32 × Int32 × Int32 × z_G => z_ag (z_tch [] [(0, 0)]) g0 w.2.2.2.2) (fun k hk w hw => ?_) z_fuel (x1, x2, x3, x4, g) hg
  exact frM_X8_plan_27 k hk w.1 w.2.1 w.2.2.1 w.2.2.2.1 w.2.2.2.2 hw
theorem frM_X8_plan (a0 : Int32) (g : z_G) : z_Fr (z_tch [] [(0, 0)]) g (fM_X8_plan a0 g) := by
  have hg : z_ag (z_tch [] [(0, 0)]) g g := fr_rf
  unfold fM_X8_plan
  refine fr_letG (fr_up hg rfl) (fun g17 hg17 => ?_)
  refine fr_bind (frM_X8_in ((a0 : Int32).toInt64) 1 20000 g17) (z_tch_sub rfl) hg17 (fun r18 g19 hg19 => ?_)
  refine fr_ite ?_ ?_
  · exact fr_some hg19
  · exact frM_X8_plan_27_go a0 (-3) 0 0 g19 hg19
theorem frM_X8_stand_33 {g0 : z_G} (g : z_G) (hg : z_ag (z_tch [] [(0, 0)]) g0 g) : z_Fr (z_tch [] [(0, 0)]) g0 (fM_X8_stand_33 g) := by
  unfold fM_X8_stand_33
  refine fr_bind (frM_X8_refuse g) (z_tch_sub rfl) hg (fun r1 g2 hg2 => ?_)
  exact fr_some hg2
theorem frM_X8_stand_96 {g0 : z_G} (s0 : Int32) (g : z_G) (hg : z_ag (z_tch [] [(0, 0)]) g0 g) : z_Fr (z_tch [] [(0, 0)]) g0 (fM_X8_stand_96 s0 g) := by
  unfold fM_X8_stand_96
  exact fr_some hg
theorem frM_X8_stand (a0 : Int32) (a1 : Int32) (g : z_G) : z_Fr (z_tch [] [(0, 0)]) g (fM_X8_stand a0 a1 g) := by
  have hg : z_ag (z_tch [] [(0, 0)]) g g := fr_rf
  unfold fM_X8_stand
  refine fr_letG (fr_up hg rfl) (fun g4 hg4 => ?_)
  refine fr_bind (frM_X8_in ((a0 : Int32).toInt64) 0 (((g4 0 52) - 1 : Int32).toInt64) g4) (z_tch_sub rfl) hg4 (fun r5 g6 hg6 => ?_)
  refine fr_ite ?_ ?_
  · exact frM_X8_stand_33 g6 hg6
  · refine fr_bind (frM_X8_in ((a1 : Int32).toInt64) 0 3 g6) (z_tch_sub rfl) hg6 (fun r9 g10 hg10 => ?_)
    refine fr_ite ?_ ?_
    · exact frM_X8_stand_33 g10 hg10
    · refine fr_ite ?_ ?_
      · refine fr_ck ?_
        exact frM_X8_stand_96 (g10 38 (Int32.toNatClampNeg a0)) g10 hg10
      · refine fr_ite ?_ ?_
        · refine fr_ck ?_
          exact frM_X8_stand_96 (g10 39 (Int32.toNatClampNeg a0)) g10 hg10
        · refine fr_ite ?_ ?_
          · refine fr_ck ?_
            exact frM_X8_stand_96 (g10 40 (Int32.toNatClampNeg a0)) g10 hg10
          · refine fr_ck ?_
            refine fr_ck ?_
            refine fr_letI (fun y18 => ?_)
            exact frM_X8_stand_96 y18 g10 hg10
theorem frS_J0_isLatin1_aae02_S0_18 {g0 : z_G} (s0 : Int32) (g : z_G) (hg : z_ag (z_tch [] []) g0 g) : z_Fr (z_tch [] []) g0 (fS_J0_isLatin1_aae02_S0_18 s0 g) := by
  unfold fS_J0_isLatin1_aae02_S0_18
  refine fr_bo ?_
  exact fr_some hg
theorem frS_J0_isLatin1_aae02_S0_17 {g0 : z_G} (g : z_G) (hg : z_ag (z_tch [] []) g0 g) : z_Fr (z_tch [] []) g0 (fS_J0_isLatin1_aae02_S0_17 g) := by
  unfold fS_J0_isLatin1_aae02_S0_17
  exact frS_J0_isLatin1_aae02_S0_18 0 g hg
theorem frS_J0_isLatin1_aae02_S0 (g : z_G) : z_Fr (z_tch [] []) g (fS_J0_isLatin1_aae02_S0 g) := by
  have hg : z_ag (z_tch [] []) g g := fr_rf
  unfold fS_J0_isLatin1_aae02_S0
  refine fr_ite ?_ ?_
  · exact frS_J0_isLatin1_aae02_S0_17 g hg
  · refine fr_ite ?_ ?_
    · exact frS_J0_isLatin1_aae02_S0_18 1 g hg
    · exact frS_J0_isLatin1_aae02_S0_17 g hg
theorem frS_J0_coder_7d493_S0_14 {g0 : z_G} (s0 : Int32) (g : z_G) (hg : z_ag (z_tch [] []) g0 g) : z_Fr (z_tch [] []) g0 (fS_J0_coder_7d493_S0_14 s0 g) := by
  unfold fS_J0_coder_7d493_S0_14
  refine fr_bo ?_
  exact fr_some hg
theorem frS_J0_coder_7d493_S0 (g : z_G) : z_Fr (z_tch [] []) g (fS_J0_coder_7d493_S0 g) := by
  have hg : z_ag (z_tch [] []) g g := fr_rf
  unfold fS_J0_coder_7d493_S0
  refine fr_ite ?_ ?_
  · exact frS_J0_coder_7d493_S0_14 1 g hg
  · exact frS_J0_coder_7d493_S0_14 0 g hg
theorem frS_J0_length_8abf5_S0 (g : z_G) : z_Fr (z_tch [] []) g (fS_J0_length_8abf5_S0 g) := by
  have hg : z_ag (z_tch [] []) g g := fr_rf
  unfold fS_J0_length_8abf5_S0
  refine fr_bind (frS_J0_coder_7d493_S0 g) (z_tch_sub rfl) hg (fun r1 g2 hg2 => ?_)
  exact fr_some hg2
theorem frS_J1_canEncode_9a6ad_16 {g0 : z_G} (s0 : Int32) (g : z_G) (hg : z_ag (z_tch [] []) g0 g) : z_Fr (z_tch [] []) g0 (fS_J1_canEncode_9a6ad_16 s0 g) := by
  unfold fS_J1_canEncode_9a6ad_16
  refine fr_bo ?_
  exact fr_some hg
theorem frS_J1_canEncode_9a6ad_15 {g0 : z_G} (g : z_G) (hg : z_ag (z_tch [] []) g0 g) : z_Fr (z_tch [] []) g0 (fS_J1_canEncode_9a6ad_15 g) := by
  unfold fS_J1_canEncode_9a6ad_15
  exact frS_J1_canEncode_9a6ad_16 0 g hg
theorem frS_J1_canEncode_9a6ad (a0 : Int32) (g : z_G) : z_Fr (z_tch [] []) g (fS_J1_canEncode_9a6ad a0 g) := by
  have hg : z_ag (z_tch [] []) g g := fr_rf
  unfold fS_J1_canEncode_9a6ad
  refine fr_ite ?_ ?_
  · exact frS_J1_canEncode_9a6ad_15 g hg
  · refine fr_ite ?_ ?_
    · exact frS_J1_canEncode_9a6ad_15 g hg
    · exact frS_J1_canEncode_9a6ad_16 1 g hg
theorem frS_J1_indexOfChar_4cfef_B0_7 {g0 : z_G} (k7 : Int32 × Int32 × Int32 × z_G → Option (Int32 × z_G)) (hk7 : ∀ w, z_ag (z_tch [] []) g0 w.2.2.2 → z_Fr (z_tch [] []) g0 (k7 w)) (x3 : Int32) (x4 : Int32) (x5 : Int32) (g : z_G) (hg : z_ag (z_tch [] []) g0 g) : z_Fr (z_tch [] []) g0 (fS_J1_indexOfChar_4cfef_B0_7 k7 x3 x4 x5 g) := by
  unfold fS_J1_indexOfChar_4cfef_B0_7
  refine fr_ite ?_ ?_
  · exact fr_some hg
  · refine fr_ck ?_
    refine fr_ite ?_ ?_
    · exact fr_some hg
    · refine fr_letI (fun y4 => ?_)
      exact hk7 (x3, x4, y4, g) hg
theorem frS_J1_indexOfChar_4cfef_B0_7_go {g0 : z_G} (x3 : Int32) (x4 : Int32) (x5 : Int32) (g : z_G) (hg : z_ag (z_tch [] []) g0 g) : z_Fr (z_tch [] []) g0 (fS_J1_indexOfChar_4cfef_B0_7_go x3 x4 x5 g) := by
  refine fr_loop (P := fun w : Int32 × Int32 × Int32 × z_G => z_ag (z_tch [] []) g0 w.2.2.2) (fun k hk w hw => ?_) z_fuel (x3, x4, x5, g) hg
  exact frS_J1_indexOfChar_4cfef_B0_7 k hk w.1 w.2.1 w.2.2.1 w.2.2.2 hw
theorem frS_J1_indexOfChar_4cfef_B0 (a1 : Int32) (a2 : Int32) (a3 : Int32) (g : z_G) : z_Fr (z_tch [] []) g (fS_J1_indexOfChar_4cfef_B0 a1 a2 a3 g) := by
  have hg : z_ag (z_tch [] []) g g := fr_rf
  unfold fS_J1_indexOfChar_4cfef_B0
  refine fr_letI (fun y5 => ?_)
  exact frS_J1_indexOfChar_4cfef_B0_7_go a3 y5 a2 g hg
theorem frS_J1_indexOf_4cfef_B0 (a1 : Int32) (a2 : Int32) (a3 : Int32) (g : z_G) : z_Fr (z_tch [] []) g (fS_J1_indexOf_4cfef_B0 a1 a2 a3 g) := by
  have hg : z_ag (z_tch [] []) g g := fr_rf
  unfold fS_J1_indexOf_4cfef_B0
  refine fr_bind (frS_J1_canEncode_9a6ad a1 g) (z_tch_sub rfl) hg (fun r1 g2 hg2 => ?_)
  refine fr_ite ?_ ?_
  · exact fr_some hg2
  · refine fr_letI (fun y5 => ?_)
    refine fr_letI (fun y6 => ?_)
    refine fr_ite ?_ ?_
    · refine fr_bind (frS_J1_indexOfChar_4cfef_B0 a1 y5 y6 g2) (z_tch_sub rfl) hg2 (fun r8 g9 hg9 => ?_)
      exact fr_some hg9
    · exact fr_some hg2
theorem frS_J0_indexOf_7cf53_S0_36 {g0 : z_G} (s0 : Int32) (g : z_G) (hg : z_ag (z_tch [] []) g0 g) : z_Fr (z_tch [] []) g0 (fS_J0_indexOf_7cf53_S0_36 s0 g) := by
  unfold fS_J0_indexOf_7cf53_S0_36
  exact fr_some hg
theorem frS_J0_indexOf_7cf53_S0 (a0 : Int32) (a1 : Int32) (g : z_G) : z_Fr (z_tch [] []) g (fS_J0_indexOf_7cf53_S0 a0 a1 g) := by
  have hg : z_ag (z_tch [] []) g g := fr_rf
  unfold fS_J0_indexOf_7cf53_S0
  refine fr_bind (frS_J0_isLatin1_aae02_S0 g) (z_tch_sub rfl) hg (fun r1 g2 hg2 => ?_)
  refine fr_ite ?_ ?_
  · refine fr_bind (frS_J0_length_8abf5_S0 g2) (z_tch_sub rfl) hg2 (fun r5 g6 hg6 => ?_)
    exact fr_none
  · refine fr_bind (frS_J0_length_8abf5_S0 g2) (z_tch_sub rfl) hg2 (fun r8 g9 hg9 => ?_)
    refine fr_bind (frS_J1_indexOf_4cfef_B0 a0 a1 r8 g9) (z_tch_sub rfl) hg9 (fun r11 g12 hg12 => ?_)
    exact frS_J0_indexOf_7cf53_S0_36 r11 g12 hg12
theorem frS_J0_indexOf_0f7a4_S0 (a0 : Int32) (g : z_G) : z_Fr (z_tch [] []) g (fS_J0_indexOf_0f7a4_S0 a0 g) := by
  have hg : z_ag (z_tch [] []) g g := fr_rf
  unfold fS_J0_indexOf_0f7a4_S0
  refine fr_bind (frS_J0_indexOf_7cf53_S0 a0 0 g) (z_tch_sub rfl) hg (fun r1 g2 hg2 => ?_)
  exact fr_some hg2
theorem frS_X8_isSign_S0_41 {g0 : z_G} (s0 : Int32) (g : z_G) (hg : z_ag (z_tch [] []) g0 g) : z_Fr (z_tch [] []) g0 (fS_X8_isSign_S0_41 s0 g) := by
  unfold fS_X8_isSign_S0_41
  refine fr_bo ?_
  exact fr_some hg
theorem frS_X8_isSign_S0_40 {g0 : z_G} (g : z_G) (hg : z_ag (z_tch [] []) g0 g) : z_Fr (z_tch [] []) g0 (fS_X8_isSign_S0_40 g) := by
  unfold fS_X8_isSign_S0_40
  exact frS_X8_isSign_S0_41 0 g hg
theorem frS_X8_isSign_S0 (a0 : Int32) (g : z_G) : z_Fr (z_tch [] []) g (fS_X8_isSign_S0 a0 g) := by
  have hg : z_ag (z_tch [] []) g g := fr_rf
  unfold fS_X8_isSign_S0
  refine fr_ite ?_ ?_
  · exact frS_X8_isSign_S0_40 g hg
  · refine fr_ck ?_
    refine fr_ite ?_ ?_
    · exact frS_X8_isSign_S0_40 g hg
    · refine fr_ck ?_
      refine fr_bind (frS_J0_indexOf_0f7a4_S0 (g 30 (Int32.toNatClampNeg (g 0 50))) g) (z_tch_sub rfl) hg (fun r5 g6 hg6 => ?_)
      refine fr_ite ?_ ?_
      · exact frS_X8_isSign_S0_40 g6 hg6
      · exact frS_X8_isSign_S0_41 1 g6 hg6
theorem frS_X8_numbers_81 {g0 : z_G} (s0 : Int32) (g : z_G) (hg : z_ag (z_tch [] [(0, 50), (0, 51)]) g0 g) : z_Fr (z_tch [] [(0, 50), (0, 51)]) g0 (fS_X8_numbers_81 s0 g) := by
  unfold fS_X8_numbers_81
  refine fr_bo ?_
  exact fr_some hg
theorem frS_X8_numbers_68 {g0 : z_G} (x2 : Int32) (g : z_G) (hg : z_ag (z_tch [] [(0, 50), (0, 51)]) g0 g) : z_Fr (z_tch [] [(0, 50), (0, 51)]) g0 (fS_X8_numbers_68 x2 g) := by
  unfold fS_X8_numbers_68
  refine fr_ite ?_ ?_
  · exact frS_X8_numbers_81 0 g hg
  · exact frS_X8_numbers_81 1 g hg
theorem frS_X8_numbers_10 {g0 : z_G} (k10 : Int32 × Int32 × z_G → Option (Int32 × z_G)) (hk10 : ∀ w, z_ag (z_tch [] [(0, 50), (0, 51)]) g0 w.2.2 → z_Fr (z_tch [] [(0, 50), (0, 51)]) g0 (k10 w)) (x1 : Int32) (x2 : Int32) (g : z_G) (hg : z_ag (z_tch [] [(0, 50), (0, 51)]) g0 g) : z_Fr (z_tch [] [(0, 50), (0, 51)]) g0 (fS_X8_numbers_10 k10 x1 x2 g) := by
  unfold fS_X8_numbers_10
  refine fr_ite ?_ ?_
  · exact frS_X8_numbers_68 x2 g hg
  · refine fr_bind (frS_X8_isSign_S0 x1 g) (z_tch_sub rfl) hg (fun r3 g4 hg4 => ?_)
    refine fr_ite ?_ ?_
    · exact frS_X8_numbers_68 x2 g4 hg4
    · refine fr_ck ?_
      refine fr_letG (fr_up hg4 rfl) (fun g8 hg8 => ?_)
      refine fr_letG (fr_up hg8 rfl) (fun g9 hg9 => ?_)
      exact hk10 (x1, x2, g9) hg9
theorem frS_X8_numbers_10_go {g0 : z_G} (x1 : Int32) (x2 : Int32) (g : z_G) (hg : z_ag (z_tch [] [(0, 50), (0, 51)]) g0 g) : z_Fr (z_tch [] [(0, 50), (0, 51)]) g0 (fS_X8_numbers_10_go x1 x2 g) := by
  refine fr_loop (P := fun w : Int32 × Int32 × z_G => z_ag (z_tch [] [(0, 50), (0, 51)]) g0 w.2.2) (fun k hk w hw => ?_) z_fuel (x1, x2, g) hg
  exact frS_X8_numbers_10 k hk w.1 w.2.1 w.2.2 hw
theorem frS_X8_numbers (a0 : Int32) (g : z_G) : z_Fr (z_tch [] [(0, 50), (0, 51)]) g (fS_X8_numbers a0 g) := by
  have hg : z_ag (z_tch [] [(0, 50), (0, 51)]) g g := fr_rf
  unfold fS_X8_numbers
  refine fr_letI (fun y10 => ?_)
  refine fr_letG (fr_up hg rfl) (fun g11 hg11 => ?_)
  exact frS_X8_numbers_10_go a0 y10 g11 hg11
theorem frS_J0_isLatin1_aae02_S3_18 {g0 : z_G} (s0 : Int32) (g : z_G) (hg : z_ag (z_tch [] []) g0 g) : z_Fr (z_tch [] []) g0 (fS_J0_isLatin1_aae02_S3_18 s0 g) := by
  unfold fS_J0_isLatin1_aae02_S3_18
  refine fr_bo ?_
  exact fr_some hg
theorem frS_J0_isLatin1_aae02_S3_17 {g0 : z_G} (g : z_G) (hg : z_ag (z_tch [] []) g0 g) : z_Fr (z_tch [] []) g0 (fS_J0_isLatin1_aae02_S3_17 g) := by
  unfold fS_J0_isLatin1_aae02_S3_17
  exact frS_J0_isLatin1_aae02_S3_18 0 g hg
theorem frS_J0_isLatin1_aae02_S3 (g : z_G) : z_Fr (z_tch [] []) g (fS_J0_isLatin1_aae02_S3 g) := by
  have hg : z_ag (z_tch [] []) g g := fr_rf
  unfold fS_J0_isLatin1_aae02_S3
  refine fr_ite ?_ ?_
  · exact frS_J0_isLatin1_aae02_S3_17 g hg
  · refine fr_ite ?_ ?_
    · exact frS_J0_isLatin1_aae02_S3_18 1 g hg
    · exact frS_J0_isLatin1_aae02_S3_17 g hg
theorem frS_J0_coder_7d493_S3_14 {g0 : z_G} (s0 : Int32) (g : z_G) (hg : z_ag (z_tch [] []) g0 g) : z_Fr (z_tch [] []) g0 (fS_J0_coder_7d493_S3_14 s0 g) := by
  unfold fS_J0_coder_7d493_S3_14
  refine fr_bo ?_
  exact fr_some hg
theorem frS_J0_coder_7d493_S3 (g : z_G) : z_Fr (z_tch [] []) g (fS_J0_coder_7d493_S3 g) := by
  have hg : z_ag (z_tch [] []) g g := fr_rf
  unfold fS_J0_coder_7d493_S3
  refine fr_ite ?_ ?_
  · exact frS_J0_coder_7d493_S3_14 1 g hg
  · exact frS_J0_coder_7d493_S3_14 0 g hg
theorem frS_J0_length_8abf5_S3 (g : z_G) : z_Fr (z_tch [] []) g (fS_J0_length_8abf5_S3 g) := by
  have hg : z_ag (z_tch [] []) g g := fr_rf
  unfold fS_J0_length_8abf5_S3
  refine fr_bind (frS_J0_coder_7d493_S3 g) (z_tch_sub rfl) hg (fun r1 g2 hg2 => ?_)
  exact fr_some hg2
theorem frS_J1_indexOfChar_4cfef_B3_7 {g0 : z_G} (k7 : Int32 × Int32 × Int32 × z_G → Option (Int32 × z_G)) (hk7 : ∀ w, z_ag (z_tch [] []) g0 w.2.2.2 → z_Fr (z_tch [] []) g0 (k7 w)) (x3 : Int32) (x4 : Int32) (x5 : Int32) (g : z_G) (hg : z_ag (z_tch [] []) g0 g) : z_Fr (z_tch [] []) g0 (fS_J1_indexOfChar_4cfef_B3_7 k7 x3 x4 x5 g) := by
  unfold fS_J1_indexOfChar_4cfef_B3_7
  refine fr_ite ?_ ?_
  · exact fr_some hg
  · refine fr_ck ?_
    refine fr_ite ?_ ?_
    · exact fr_some hg
    · refine fr_letI (fun y4 => ?_)
      exact hk7 (x3, x4, y4, g) hg
theorem frS_J1_indexOfChar_4cfef_B3_7_go {g0 : z_G} (x3 : Int32) (x4 : Int32) (x5 : Int32) (g : z_G) (hg : z_ag (z_tch [] []) g0 g) : z_Fr (z_tch [] []) g0 (fS_J1_indexOfChar_4cfef_B3_7_go x3 x4 x5 g) := by
  refine fr_loop (P := fun w : Int32 × Int32 × Int32 × z_G => z_ag (z_tch [] []) g0 w.2.2.2) (fun k hk w hw => ?_) z_fuel (x3, x4, x5, g) hg
  exact frS_J1_indexOfChar_4cfef_B3_7 k hk w.1 w.2.1 w.2.2.1 w.2.2.2 hw
theorem frS_J1_indexOfChar_4cfef_B3 (a1 : Int32) (a2 : Int32) (a3 : Int32) (g : z_G) : z_Fr (z_tch [] []) g (fS_J1_indexOfChar_4cfef_B3 a1 a2 a3 g) := by
  have hg : z_ag (z_tch [] []) g g := fr_rf
  unfold fS_J1_indexOfChar_4cfef_B3
  refine fr_letI (fun y5 => ?_)
  exact frS_J1_indexOfChar_4cfef_B3_7_go a3 y5 a2 g hg
theorem frS_J1_indexOf_4cfef_B3 (a1 : Int32) (a2 : Int32) (a3 : Int32) (g : z_G) : z_Fr (z_tch [] []) g (fS_J1_indexOf_4cfef_B3 a1 a2 a3 g) := by
  have hg : z_ag (z_tch [] []) g g := fr_rf
  unfold fS_J1_indexOf_4cfef_B3
  refine fr_bind (frS_J1_canEncode_9a6ad a1 g) (z_tch_sub rfl) hg (fun r1 g2 hg2 => ?_)
  refine fr_ite ?_ ?_
  · exact fr_some hg2
  · refine fr_letI (fun y5 => ?_)
    refine fr_letI (fun y6 => ?_)
    refine fr_ite ?_ ?_
    · refine fr_bind (frS_J1_indexOfChar_4cfef_B3 a1 y5 y6 g2) (z_tch_sub rfl) hg2 (fun r8 g9 hg9 => ?_)
      exact fr_some hg9
    · exact fr_some hg2
theorem frS_J0_indexOf_7cf53_S3_36 {g0 : z_G} (s0 : Int32) (g : z_G) (hg : z_ag (z_tch [] []) g0 g) : z_Fr (z_tch [] []) g0 (fS_J0_indexOf_7cf53_S3_36 s0 g) := by
  unfold fS_J0_indexOf_7cf53_S3_36
  exact fr_some hg
theorem frS_J0_indexOf_7cf53_S3 (a0 : Int32) (a1 : Int32) (g : z_G) : z_Fr (z_tch [] []) g (fS_J0_indexOf_7cf53_S3 a0 a1 g) := by
  have hg : z_ag (z_tch [] []) g g := fr_rf
  unfold fS_J0_indexOf_7cf53_S3
  refine fr_bind (frS_J0_isLatin1_aae02_S3 g) (z_tch_sub rfl) hg (fun r1 g2 hg2 => ?_)
  refine fr_ite ?_ ?_
  · refine fr_bind (frS_J0_length_8abf5_S3 g2) (z_tch_sub rfl) hg2 (fun r5 g6 hg6 => ?_)
    exact fr_none
  · refine fr_bind (frS_J0_length_8abf5_S3 g2) (z_tch_sub rfl) hg2 (fun r8 g9 hg9 => ?_)
    refine fr_bind (frS_J1_indexOf_4cfef_B3 a0 a1 r8 g9) (z_tch_sub rfl) hg9 (fun r11 g12 hg12 => ?_)
    exact frS_J0_indexOf_7cf53_S3_36 r11 g12 hg12
theorem frS_J0_indexOf_0f7a4_S3 (a0 : Int32) (g : z_G) : z_Fr (z_tch [] []) g (fS_J0_indexOf_0f7a4_S3 a0 g) := by
  have hg : z_ag (z_tch [] []) g g := fr_rf
  unfold fS_J0_indexOf_0f7a4_S3
  refine fr_bind (frS_J0_indexOf_7cf53_S3 a0 0 g) (z_tch_sub rfl) hg (fun r1 g2 hg2 => ?_)
  exact fr_some hg2
theorem frS_X8_isSign_S3_41 {g0 : z_G} (s0 : Int32) (g : z_G) (hg : z_ag (z_tch [] []) g0 g) : z_Fr (z_tch [] []) g0 (fS_X8_isSign_S3_41 s0 g) := by
  unfold fS_X8_isSign_S3_41
  refine fr_bo ?_
  exact fr_some hg
theorem frS_X8_isSign_S3_40 {g0 : z_G} (g : z_G) (hg : z_ag (z_tch [] []) g0 g) : z_Fr (z_tch [] []) g0 (fS_X8_isSign_S3_40 g) := by
  unfold fS_X8_isSign_S3_40
  exact frS_X8_isSign_S3_41 0 g hg
theorem frS_X8_isSign_S3 (a0 : Int32) (g : z_G) : z_Fr (z_tch [] []) g (fS_X8_isSign_S3 a0 g) := by
  have hg : z_ag (z_tch [] []) g g := fr_rf
  unfold fS_X8_isSign_S3
  refine fr_ite ?_ ?_
  · exact frS_X8_isSign_S3_40 g hg
  · refine fr_ck ?_
    refine fr_ite ?_ ?_
    · exact frS_X8_isSign_S3_40 g hg
    · refine fr_ck ?_
      refine fr_bind (frS_J0_indexOf_0f7a4_S3 (g 30 (Int32.toNatClampNeg (g 0 50))) g) (z_tch_sub rfl) hg (fun r5 g6 hg6 => ?_)
      refine fr_ite ?_ ?_
      · exact frS_X8_isSign_S3_40 g6 hg6
      · exact frS_X8_isSign_S3_41 1 g6 hg6
theorem frS_J0_isLatin1_aae02_S4_18 {g0 : z_G} (s0 : Int32) (g : z_G) (hg : z_ag (z_tch [] []) g0 g) : z_Fr (z_tch [] []) g0 (fS_J0_isLatin1_aae02_S4_18 s0 g) := by
  unfold fS_J0_isLatin1_aae02_S4_18
  refine fr_bo ?_
  exact fr_some hg
theorem frS_J0_isLatin1_aae02_S4_17 {g0 : z_G} (g : z_G) (hg : z_ag (z_tch [] []) g0 g) : z_Fr (z_tch [] []) g0 (fS_J0_isLatin1_aae02_S4_17 g) := by
  unfold fS_J0_isLatin1_aae02_S4_17
  exact frS_J0_isLatin1_aae02_S4_18 0 g hg
theorem frS_J0_isLatin1_aae02_S4 (g : z_G) : z_Fr (z_tch [] []) g (fS_J0_isLatin1_aae02_S4 g) := by
  have hg : z_ag (z_tch [] []) g g := fr_rf
  unfold fS_J0_isLatin1_aae02_S4
  refine fr_ite ?_ ?_
  · exact frS_J0_isLatin1_aae02_S4_17 g hg
  · refine fr_ite ?_ ?_
    · exact frS_J0_isLatin1_aae02_S4_18 1 g hg
    · exact frS_J0_isLatin1_aae02_S4_17 g hg
theorem frS_J0_coder_7d493_S4_14 {g0 : z_G} (s0 : Int32) (g : z_G) (hg : z_ag (z_tch [] []) g0 g) : z_Fr (z_tch [] []) g0 (fS_J0_coder_7d493_S4_14 s0 g) := by
  unfold fS_J0_coder_7d493_S4_14
  refine fr_bo ?_
  exact fr_some hg
theorem frS_J0_coder_7d493_S4 (g : z_G) : z_Fr (z_tch [] []) g (fS_J0_coder_7d493_S4 g) := by
  have hg : z_ag (z_tch [] []) g g := fr_rf
  unfold fS_J0_coder_7d493_S4
  refine fr_ite ?_ ?_
  · exact frS_J0_coder_7d493_S4_14 1 g hg
  · exact frS_J0_coder_7d493_S4_14 0 g hg
theorem frS_J0_length_8abf5_S4 (g : z_G) : z_Fr (z_tch [] []) g (fS_J0_length_8abf5_S4 g) := by
  have hg : z_ag (z_tch [] []) g g := fr_rf
  unfold fS_J0_length_8abf5_S4
  refine fr_bind (frS_J0_coder_7d493_S4 g) (z_tch_sub rfl) hg (fun r1 g2 hg2 => ?_)
  exact fr_some hg2
theorem frS_J1_indexOfChar_4cfef_B4_7 {g0 : z_G} (k7 : Int32 × Int32 × Int32 × z_G → Option (Int32 × z_G)) (hk7 : ∀ w, z_ag (z_tch [] []) g0 w.2.2.2 → z_Fr (z_tch [] []) g0 (k7 w)) (x3 : Int32) (x4 : Int32) (x5 : Int32) (g : z_G) (hg : z_ag (z_tch [] []) g0 g) : z_Fr (z_tch [] []) g0 (fS_J1_indexOfChar_4cfef_B4_7 k7 x3 x4 x5 g) := by
  unfold fS_J1_indexOfChar_4cfef_B4_7
  refine fr_ite ?_ ?_
  · exact fr_some hg
  · refine fr_ck ?_
    refine fr_ite ?_ ?_
    · exact fr_some hg
    · refine fr_letI (fun y4 => ?_)
      exact hk7 (x3, x4, y4, g) hg
theorem frS_J1_indexOfChar_4cfef_B4_7_go {g0 : z_G} (x3 : Int32) (x4 : Int32) (x5 : Int32) (g : z_G) (hg : z_ag (z_tch [] []) g0 g) : z_Fr (z_tch [] []) g0 (fS_J1_indexOfChar_4cfef_B4_7_go x3 x4 x5 g) := by
  refine fr_loop (P := fun w : Int32 × Int32 × Int32 × z_G => z_ag (z_tch [] []) g0 w.2.2.2) (fun k hk w hw => ?_) z_fuel (x3, x4, x5, g) hg
  exact frS_J1_indexOfChar_4cfef_B4_7 k hk w.1 w.2.1 w.2.2.1 w.2.2.2 hw
theorem frS_J1_indexOfChar_4cfef_B4 (a1 : Int32) (a2 : Int32) (a3 : Int32) (g : z_G) : z_Fr (z_tch [] []) g (fS_J1_indexOfChar_4cfef_B4 a1 a2 a3 g) := by
  have hg : z_ag (z_tch [] []) g g := fr_rf
  unfold fS_J1_indexOfChar_4cfef_B4
  refine fr_letI (fun y5 => ?_)
  exact frS_J1_indexOfChar_4cfef_B4_7_go a3 y5 a2 g hg
theorem frS_J1_indexOf_4cfef_B4 (a1 : Int32) (a2 : Int32) (a3 : Int32) (g : z_G) : z_Fr (z_tch [] []) g (fS_J1_indexOf_4cfef_B4 a1 a2 a3 g) := by
  have hg : z_ag (z_tch [] []) g g := fr_rf
  unfold fS_J1_indexOf_4cfef_B4
  refine fr_bind (frS_J1_canEncode_9a6ad a1 g) (z_tch_sub rfl) hg (fun r1 g2 hg2 => ?_)
  refine fr_ite ?_ ?_
  · exact fr_some hg2
  · refine fr_letI (fun y5 => ?_)
    refine fr_letI (fun y6 => ?_)
    refine fr_ite ?_ ?_
    · refine fr_bind (frS_J1_indexOfChar_4cfef_B4 a1 y5 y6 g2) (z_tch_sub rfl) hg2 (fun r8 g9 hg9 => ?_)
      exact fr_some hg9
    · exact fr_some hg2
theorem frS_J0_indexOf_7cf53_S4_36 {g0 : z_G} (s0 : Int32) (g : z_G) (hg : z_ag (z_tch [] []) g0 g) : z_Fr (z_tch [] []) g0 (fS_J0_indexOf_7cf53_S4_36 s0 g) := by
  unfold fS_J0_indexOf_7cf53_S4_36
  exact fr_some hg
theorem frS_J0_indexOf_7cf53_S4 (a0 : Int32) (a1 : Int32) (g : z_G) : z_Fr (z_tch [] []) g (fS_J0_indexOf_7cf53_S4 a0 a1 g) := by
  have hg : z_ag (z_tch [] []) g g := fr_rf
  unfold fS_J0_indexOf_7cf53_S4
  refine fr_bind (frS_J0_isLatin1_aae02_S4 g) (z_tch_sub rfl) hg (fun r1 g2 hg2 => ?_)
  refine fr_ite ?_ ?_
  · refine fr_bind (frS_J0_length_8abf5_S4 g2) (z_tch_sub rfl) hg2 (fun r5 g6 hg6 => ?_)
    exact fr_none
  · refine fr_bind (frS_J0_length_8abf5_S4 g2) (z_tch_sub rfl) hg2 (fun r8 g9 hg9 => ?_)
    refine fr_bind (frS_J1_indexOf_4cfef_B4 a0 a1 r8 g9) (z_tch_sub rfl) hg9 (fun r11 g12 hg12 => ?_)
    exact frS_J0_indexOf_7cf53_S4_36 r11 g12 hg12
theorem frS_J0_indexOf_0f7a4_S4 (a0 : Int32) (g : z_G) : z_Fr (z_tch [] []) g (fS_J0_indexOf_0f7a4_S4 a0 g) := by
  have hg : z_ag (z_tch [] []) g g := fr_rf
  unfold fS_J0_indexOf_0f7a4_S4
  refine fr_bind (frS_J0_indexOf_7cf53_S4 a0 0 g) (z_tch_sub rfl) hg (fun r1 g2 hg2 => ?_)
  exact fr_some hg2
theorem frS_X8_isSign_S4_41 {g0 : z_G} (s0 : Int32) (g : z_G) (hg : z_ag (z_tch [] []) g0 g) : z_Fr (z_tch [] []) g0 (fS_X8_isSign_S4_41 s0 g) := by
  unfold fS_X8_isSign_S4_41
  refine fr_bo ?_
  exact fr_some hg
theorem frS_X8_isSign_S4_40 {g0 : z_G} (g : z_G) (hg : z_ag (z_tch [] []) g0 g) : z_Fr (z_tch [] []) g0 (fS_X8_isSign_S4_40 g) := by
  unfold fS_X8_isSign_S4_40
  exact frS_X8_isSign_S4_41 0 g hg
theorem frS_X8_isSign_S4 (a0 : Int32) (g : z_G) : z_Fr (z_tch [] []) g (fS_X8_isSign_S4 a0 g) := by
  have hg : z_ag (z_tch [] []) g g := fr_rf
  unfold fS_X8_isSign_S4
  refine fr_ite ?_ ?_
  · exact frS_X8_isSign_S4_40 g hg
  · refine fr_ck ?_
    refine fr_ite ?_ ?_
    · exact frS_X8_isSign_S4_40 g hg
    · refine fr_ck ?_
      refine fr_bind (frS_J0_indexOf_0f7a4_S4 (g 30 (Int32.toNatClampNeg (g 0 50))) g) (z_tch_sub rfl) hg (fun r5 g6 hg6 => ?_)
      refine fr_ite ?_ ?_
      · exact frS_X8_isSign_S4_40 g6 hg6
      · exact frS_X8_isSign_S4_41 1 g6 hg6
theorem frS_J0_isLatin1_aae02_S5_18 {g0 : z_G} (s0 : Int32) (g : z_G) (hg : z_ag (z_tch [] []) g0 g) : z_Fr (z_tch [] []) g0 (fS_J0_isLatin1_aae02_S5_18 s0 g) := by
  unfold fS_J0_isLatin1_aae02_S5_18
  refine fr_bo ?_
  exact fr_some hg
theorem frS_J0_isLatin1_aae02_S5_17 {g0 : z_G} (g : z_G) (hg : z_ag (z_tch [] []) g0 g) : z_Fr (z_tch [] []) g0 (fS_J0_isLatin1_aae02_S5_17 g) := by
  unfold fS_J0_isLatin1_aae02_S5_17
  exact frS_J0_isLatin1_aae02_S5_18 0 g hg
theorem frS_J0_isLatin1_aae02_S5 (g : z_G) : z_Fr (z_tch [] []) g (fS_J0_isLatin1_aae02_S5 g) := by
  have hg : z_ag (z_tch [] []) g g := fr_rf
  unfold fS_J0_isLatin1_aae02_S5
  refine fr_ite ?_ ?_
  · exact frS_J0_isLatin1_aae02_S5_17 g hg
  · refine fr_ite ?_ ?_
    · exact frS_J0_isLatin1_aae02_S5_18 1 g hg
    · exact frS_J0_isLatin1_aae02_S5_17 g hg
theorem frS_J0_coder_7d493_S5_14 {g0 : z_G} (s0 : Int32) (g : z_G) (hg : z_ag (z_tch [] []) g0 g) : z_Fr (z_tch [] []) g0 (fS_J0_coder_7d493_S5_14 s0 g) := by
  unfold fS_J0_coder_7d493_S5_14
  refine fr_bo ?_
  exact fr_some hg
theorem frS_J0_coder_7d493_S5 (g : z_G) : z_Fr (z_tch [] []) g (fS_J0_coder_7d493_S5 g) := by
  have hg : z_ag (z_tch [] []) g g := fr_rf
  unfold fS_J0_coder_7d493_S5
  refine fr_ite ?_ ?_
  · exact frS_J0_coder_7d493_S5_14 1 g hg
  · exact frS_J0_coder_7d493_S5_14 0 g hg
theorem frS_J0_length_8abf5_S5 (g : z_G) : z_Fr (z_tch [] []) g (fS_J0_length_8abf5_S5 g) := by
  have hg : z_ag (z_tch [] []) g g := fr_rf
  unfold fS_J0_length_8abf5_S5
  refine fr_bind (frS_J0_coder_7d493_S5 g) (z_tch_sub rfl) hg (fun r1 g2 hg2 => ?_)
  exact fr_some hg2
theorem frS_J1_indexOfChar_4cfef_B5_7 {g0 : z_G} (k7 : Int32 × Int32 × Int32 × z_G → Option (Int32 × z_G)) (hk7 : ∀ w, z_ag (z_tch [] []) g0 w.2.2.2 → z_Fr (z_tch [] []) g0 (k7 w)) (x3 : Int32) (x4 : Int32) (x5 : Int32) (g : z_G) (hg : z_ag (z_tch [] []) g0 g) : z_Fr (z_tch [] []) g0 (fS_J1_indexOfChar_4cfef_B5_7 k7 x3 x4 x5 g) := by
  unfold fS_J1_indexOfChar_4cfef_B5_7
  refine fr_ite ?_ ?_
  · exact fr_some hg
  · refine fr_ck ?_
    refine fr_ite ?_ ?_
    · exact fr_some hg
    · refine fr_letI (fun y4 => ?_)
      exact hk7 (x3, x4, y4, g) hg
theorem frS_J1_indexOfChar_4cfef_B5_7_go {g0 : z_G} (x3 : Int32) (x4 : Int32) (x5 : Int32) (g : z_G) (hg : z_ag (z_tch [] []) g0 g) : z_Fr (z_tch [] []) g0 (fS_J1_indexOfChar_4cfef_B5_7_go x3 x4 x5 g) := by
  refine fr_loop (P := fun w : Int32 × Int32 × Int32 × z_G => z_ag (z_tch [] []) g0 w.2.2.2) (fun k hk w hw => ?_) z_fuel (x3, x4, x5, g) hg
  exact frS_J1_indexOfChar_4cfef_B5_7 k hk w.1 w.2.1 w.2.2.1 w.2.2.2 hw
theorem frS_J1_indexOfChar_4cfef_B5 (a1 : Int32) (a2 : Int32) (a3 : Int32) (g : z_G) : z_Fr (z_tch [] []) g (fS_J1_indexOfChar_4cfef_B5 a1 a2 a3 g) := by
  have hg : z_ag (z_tch [] []) g g := fr_rf
  unfold fS_J1_indexOfChar_4cfef_B5
  refine fr_letI (fun y5 => ?_)
  exact frS_J1_indexOfChar_4cfef_B5_7_go a3 y5 a2 g hg
theorem frS_J1_indexOf_4cfef_B5 (a1 : Int32) (a2 : Int32) (a3 : Int32) (g : z_G) : z_Fr (z_tch [] []) g (fS_J1_indexOf_4cfef_B5 a1 a2 a3 g) := by
  have hg : z_ag (z_tch [] []) g g := fr_rf
  unfold fS_J1_indexOf_4cfef_B5
  refine fr_bind (frS_J1_canEncode_9a6ad a1 g) (z_tch_sub rfl) hg (fun r1 g2 hg2 => ?_)
  refine fr_ite ?_ ?_
  · exact fr_some hg2
  · refine fr_letI (fun y5 => ?_)
    refine fr_letI (fun y6 => ?_)
    refine fr_ite ?_ ?_
    · refine fr_bind (frS_J1_indexOfChar_4cfef_B5 a1 y5 y6 g2) (z_tch_sub rfl) hg2 (fun r8 g9 hg9 => ?_)
      exact fr_some hg9
    · exact fr_some hg2
theorem frS_J0_indexOf_7cf53_S5_36 {g0 : z_G} (s0 : Int32) (g : z_G) (hg : z_ag (z_tch [] []) g0 g) : z_Fr (z_tch [] []) g0 (fS_J0_indexOf_7cf53_S5_36 s0 g) := by
  unfold fS_J0_indexOf_7cf53_S5_36
  exact fr_some hg
theorem frS_J0_indexOf_7cf53_S5 (a0 : Int32) (a1 : Int32) (g : z_G) : z_Fr (z_tch [] []) g (fS_J0_indexOf_7cf53_S5 a0 a1 g) := by
  have hg : z_ag (z_tch [] []) g g := fr_rf
  unfold fS_J0_indexOf_7cf53_S5
  refine fr_bind (frS_J0_isLatin1_aae02_S5 g) (z_tch_sub rfl) hg (fun r1 g2 hg2 => ?_)
  refine fr_ite ?_ ?_
  · refine fr_bind (frS_J0_length_8abf5_S5 g2) (z_tch_sub rfl) hg2 (fun r5 g6 hg6 => ?_)
    exact fr_none
  · refine fr_bind (frS_J0_length_8abf5_S5 g2) (z_tch_sub rfl) hg2 (fun r8 g9 hg9 => ?_)
    refine fr_bind (frS_J1_indexOf_4cfef_B5 a0 a1 r8 g9) (z_tch_sub rfl) hg9 (fun r11 g12 hg12 => ?_)
    exact frS_J0_indexOf_7cf53_S5_36 r11 g12 hg12
theorem frS_J0_indexOf_0f7a4_S5 (a0 : Int32) (g : z_G) : z_Fr (z_tch [] []) g (fS_J0_indexOf_0f7a4_S5 a0 g) := by
  have hg : z_ag (z_tch [] []) g g := fr_rf
  unfold fS_J0_indexOf_0f7a4_S5
  refine fr_bind (frS_J0_indexOf_7cf53_S5 a0 0 g) (z_tch_sub rfl) hg (fun r1 g2 hg2 => ?_)
  exact fr_some hg2
theorem frS_X8_isSign_S5_41 {g0 : z_G} (s0 : Int32) (g : z_G) (hg : z_ag (z_tch [] []) g0 g) : z_Fr (z_tch [] []) g0 (fS_X8_isSign_S5_41 s0 g) := by
  unfold fS_X8_isSign_S5_41
  refine fr_bo ?_
  exact fr_some hg
theorem frS_X8_isSign_S5_40 {g0 : z_G} (g : z_G) (hg : z_ag (z_tch [] []) g0 g) : z_Fr (z_tch [] []) g0 (fS_X8_isSign_S5_40 g) := by
  unfold fS_X8_isSign_S5_40
  exact frS_X8_isSign_S5_41 0 g hg
theorem frS_X8_isSign_S5 (a0 : Int32) (g : z_G) : z_Fr (z_tch [] []) g (fS_X8_isSign_S5 a0 g) := by
  have hg : z_ag (z_tch [] []) g g := fr_rf
  unfold fS_X8_isSign_S5
  refine fr_ite ?_ ?_
  · exact frS_X8_isSign_S5_40 g hg
  · refine fr_ck ?_
    refine fr_ite ?_ ?_
    · exact frS_X8_isSign_S5_40 g hg
    · refine fr_ck ?_
      refine fr_bind (frS_J0_indexOf_0f7a4_S5 (g 30 (Int32.toNatClampNeg (g 0 50))) g) (z_tch_sub rfl) hg (fun r5 g6 hg6 => ?_)
      refine fr_ite ?_ ?_
      · exact frS_X8_isSign_S5_40 g6 hg6
      · exact frS_X8_isSign_S5_41 1 g6 hg6
theorem frS_J0_isLatin1_aae02_S1_18 {g0 : z_G} (s0 : Int32) (g : z_G) (hg : z_ag (z_tch [] []) g0 g) : z_Fr (z_tch [] []) g0 (fS_J0_isLatin1_aae02_S1_18 s0 g) := by
  unfold fS_J0_isLatin1_aae02_S1_18
  refine fr_bo ?_
  exact fr_some hg
theorem frS_J0_isLatin1_aae02_S1_17 {g0 : z_G} (g : z_G) (hg : z_ag (z_tch [] []) g0 g) : z_Fr (z_tch [] []) g0 (fS_J0_isLatin1_aae02_S1_17 g) := by
  unfold fS_J0_isLatin1_aae02_S1_17
  exact frS_J0_isLatin1_aae02_S1_18 0 g hg
theorem frS_J0_isLatin1_aae02_S1 (g : z_G) : z_Fr (z_tch [] []) g (fS_J0_isLatin1_aae02_S1 g) := by
  have hg : z_ag (z_tch [] []) g g := fr_rf
  unfold fS_J0_isLatin1_aae02_S1
  refine fr_ite ?_ ?_
  · exact frS_J0_isLatin1_aae02_S1_17 g hg
  · refine fr_ite ?_ ?_
    · exact frS_J0_isLatin1_aae02_S1_18 1 g hg
    · exact frS_J0_isLatin1_aae02_S1_17 g hg
theorem frS_J0_coder_7d493_S1_14 {g0 : z_G} (s0 : Int32) (g : z_G) (hg : z_ag (z_tch [] []) g0 g) : z_Fr (z_tch [] []) g0 (fS_J0_coder_7d493_S1_14 s0 g) := by
  unfold fS_J0_coder_7d493_S1_14
  refine fr_bo ?_
  exact fr_some hg
theorem frS_J0_coder_7d493_S1 (g : z_G) : z_Fr (z_tch [] []) g (fS_J0_coder_7d493_S1 g) := by
  have hg : z_ag (z_tch [] []) g g := fr_rf
  unfold fS_J0_coder_7d493_S1
  refine fr_ite ?_ ?_
  · exact frS_J0_coder_7d493_S1_14 1 g hg
  · exact frS_J0_coder_7d493_S1_14 0 g hg
theorem frS_J0_length_8abf5_S1 (g : z_G) : z_Fr (z_tch [] []) g (fS_J0_length_8abf5_S1 g) := by
  have hg : z_ag (z_tch [] []) g g := fr_rf
  unfold fS_J0_length_8abf5_S1
  refine fr_bind (frS_J0_coder_7d493_S1 g) (z_tch_sub rfl) hg (fun r1 g2 hg2 => ?_)
  exact fr_some hg2
theorem frS_J1_indexOfChar_4cfef_B1_7 {g0 : z_G} (k7 : Int32 × Int32 × Int32 × z_G → Option (Int32 × z_G)) (hk7 : ∀ w, z_ag (z_tch [] []) g0 w.2.2.2 → z_Fr (z_tch [] []) g0 (k7 w)) (x3 : Int32) (x4 : Int32) (x5 : Int32) (g : z_G) (hg : z_ag (z_tch [] []) g0 g) : z_Fr (z_tch [] []) g0 (fS_J1_indexOfChar_4cfef_B1_7 k7 x3 x4 x5 g) := by
  unfold fS_J1_indexOfChar_4cfef_B1_7
  refine fr_ite ?_ ?_
  · exact fr_some hg
  · refine fr_ck ?_
    refine fr_ite ?_ ?_
    · exact fr_some hg
    · refine fr_letI (fun y4 => ?_)
      exact hk7 (x3, x4, y4, g) hg
theorem frS_J1_indexOfChar_4cfef_B1_7_go {g0 : z_G} (x3 : Int32) (x4 : Int32) (x5 : Int32) (g : z_G) (hg : z_ag (z_tch [] []) g0 g) : z_Fr (z_tch [] []) g0 (fS_J1_indexOfChar_4cfef_B1_7_go x3 x4 x5 g) := by
  refine fr_loop (P := fun w : Int32 × Int32 × Int32 × z_G => z_ag (z_tch [] []) g0 w.2.2.2) (fun k hk w hw => ?_) z_fuel (x3, x4, x5, g) hg
  exact frS_J1_indexOfChar_4cfef_B1_7 k hk w.1 w.2.1 w.2.2.1 w.2.2.2 hw
theorem frS_J1_indexOfChar_4cfef_B1 (a1 : Int32) (a2 : Int32) (a3 : Int32) (g : z_G) : z_Fr (z_tch [] []) g (fS_J1_indexOfChar_4cfef_B1 a1 a2 a3 g) := by
  have hg : z_ag (z_tch [] []) g g := fr_rf
  unfold fS_J1_indexOfChar_4cfef_B1
  refine fr_letI (fun y5 => ?_)
  exact frS_J1_indexOfChar_4cfef_B1_7_go a3 y5 a2 g hg
theorem frS_J1_indexOf_4cfef_B1 (a1 : Int32) (a2 : Int32) (a3 : Int32) (g : z_G) : z_Fr (z_tch [] []) g (fS_J1_indexOf_4cfef_B1 a1 a2 a3 g) := by
  have hg : z_ag (z_tch [] []) g g := fr_rf
  unfold fS_J1_indexOf_4cfef_B1
  refine fr_bind (frS_J1_canEncode_9a6ad a1 g) (z_tch_sub rfl) hg (fun r1 g2 hg2 => ?_)
  refine fr_ite ?_ ?_
  · exact fr_some hg2
  · refine fr_letI (fun y5 => ?_)
    refine fr_letI (fun y6 => ?_)
    refine fr_ite ?_ ?_
    · refine fr_bind (frS_J1_indexOfChar_4cfef_B1 a1 y5 y6 g2) (z_tch_sub rfl) hg2 (fun r8 g9 hg9 => ?_)
      exact fr_some hg9
    · exact fr_some hg2
theorem frS_J0_indexOf_7cf53_S1_36 {g0 : z_G} (s0 : Int32) (g : z_G) (hg : z_ag (z_tch [] []) g0 g) : z_Fr (z_tch [] []) g0 (fS_J0_indexOf_7cf53_S1_36 s0 g) := by
  unfold fS_J0_indexOf_7cf53_S1_36
  exact fr_some hg
theorem frS_J0_indexOf_7cf53_S1 (a0 : Int32) (a1 : Int32) (g : z_G) : z_Fr (z_tch [] []) g (fS_J0_indexOf_7cf53_S1 a0 a1 g) := by
  have hg : z_ag (z_tch [] []) g g := fr_rf
  unfold fS_J0_indexOf_7cf53_S1
  refine fr_bind (frS_J0_isLatin1_aae02_S1 g) (z_tch_sub rfl) hg (fun r1 g2 hg2 => ?_)
  refine fr_ite ?_ ?_
  · refine fr_bind (frS_J0_length_8abf5_S1 g2) (z_tch_sub rfl) hg2 (fun r5 g6 hg6 => ?_)
    exact fr_none
  · refine fr_bind (frS_J0_length_8abf5_S1 g2) (z_tch_sub rfl) hg2 (fun r8 g9 hg9 => ?_)
    refine fr_bind (frS_J1_indexOf_4cfef_B1 a0 a1 r8 g9) (z_tch_sub rfl) hg9 (fun r11 g12 hg12 => ?_)
    exact frS_J0_indexOf_7cf53_S1_36 r11 g12 hg12
theorem frS_J0_indexOf_0f7a4_S1 (a0 : Int32) (g : z_G) : z_Fr (z_tch [] []) g (fS_J0_indexOf_0f7a4_S1 a0 g) := by
  have hg : z_ag (z_tch [] []) g g := fr_rf
  unfold fS_J0_indexOf_0f7a4_S1
  refine fr_bind (frS_J0_indexOf_7cf53_S1 a0 0 g) (z_tch_sub rfl) hg (fun r1 g2 hg2 => ?_)
  exact fr_some hg2
theorem frS_X8_isSign_S1_41 {g0 : z_G} (s0 : Int32) (g : z_G) (hg : z_ag (z_tch [] []) g0 g) : z_Fr (z_tch [] []) g0 (fS_X8_isSign_S1_41 s0 g) := by
  unfold fS_X8_isSign_S1_41
  refine fr_bo ?_
  exact fr_some hg
theorem frS_X8_isSign_S1_40 {g0 : z_G} (g : z_G) (hg : z_ag (z_tch [] []) g0 g) : z_Fr (z_tch [] []) g0 (fS_X8_isSign_S1_40 g) := by
  unfold fS_X8_isSign_S1_40
  exact frS_X8_isSign_S1_41 0 g hg
theorem frS_X8_isSign_S1 (a0 : Int32) (g : z_G) : z_Fr (z_tch [] []) g (fS_X8_isSign_S1 a0 g) := by
  have hg : z_ag (z_tch [] []) g g := fr_rf
  unfold fS_X8_isSign_S1
  refine fr_ite ?_ ?_
  · exact frS_X8_isSign_S1_40 g hg
  · refine fr_ck ?_
    refine fr_ite ?_ ?_
    · exact frS_X8_isSign_S1_40 g hg
    · refine fr_ck ?_
      refine fr_bind (frS_J0_indexOf_0f7a4_S1 (g 30 (Int32.toNatClampNeg (g 0 50))) g) (z_tch_sub rfl) hg (fun r5 g6 hg6 => ?_)
      refine fr_ite ?_ ?_
      · exact frS_X8_isSign_S1_40 g6 hg6
      · exact frS_X8_isSign_S1_41 1 g6 hg6
theorem frS_J0_isLatin1_aae02_S2_18 {g0 : z_G} (s0 : Int32) (g : z_G) (hg : z_ag (z_tch [] []) g0 g) : z_Fr (z_tch [] []) g0 (fS_J0_isLatin1_aae02_S2_18 s0 g) := by
  unfold fS_J0_isLatin1_aae02_S2_18
  refine fr_bo ?_
  exact fr_some hg
theorem frS_J0_isLatin1_aae02_S2_17 {g0 : z_G} (g : z_G) (hg : z_ag (z_tch [] []) g0 g) : z_Fr (z_tch [] []) g0 (fS_J0_isLatin1_aae02_S2_17 g) := by
  unfold fS_J0_isLatin1_aae02_S2_17
  exact frS_J0_isLatin1_aae02_S2_18 0 g hg
theorem frS_J0_isLatin1_aae02_S2 (g : z_G) : z_Fr (z_tch [] []) g (fS_J0_isLatin1_aae02_S2 g) := by
  have hg : z_ag (z_tch [] []) g g := fr_rf
  unfold fS_J0_isLatin1_aae02_S2
  refine fr_ite ?_ ?_
  · exact frS_J0_isLatin1_aae02_S2_17 g hg
  · refine fr_ite ?_ ?_
    · exact frS_J0_isLatin1_aae02_S2_18 1 g hg
    · exact frS_J0_isLatin1_aae02_S2_17 g hg
theorem frS_J0_coder_7d493_S2_14 {g0 : z_G} (s0 : Int32) (g : z_G) (hg : z_ag (z_tch [] []) g0 g) : z_Fr (z_tch [] []) g0 (fS_J0_coder_7d493_S2_14 s0 g) := by
  unfold fS_J0_coder_7d493_S2_14
  refine fr_bo ?_
  exact fr_some hg
theorem frS_J0_coder_7d493_S2 (g : z_G) : z_Fr (z_tch [] []) g (fS_J0_coder_7d493_S2 g) := by
  have hg : z_ag (z_tch [] []) g g := fr_rf
  unfold fS_J0_coder_7d493_S2
  refine fr_ite ?_ ?_
  · exact frS_J0_coder_7d493_S2_14 1 g hg
  · exact frS_J0_coder_7d493_S2_14 0 g hg
theorem frS_J0_length_8abf5_S2 (g : z_G) : z_Fr (z_tch [] []) g (fS_J0_length_8abf5_S2 g) := by
  have hg : z_ag (z_tch [] []) g g := fr_rf
  unfold fS_J0_length_8abf5_S2
  refine fr_bind (frS_J0_coder_7d493_S2 g) (z_tch_sub rfl) hg (fun r1 g2 hg2 => ?_)
  exact fr_some hg2
theorem frS_J1_indexOfChar_4cfef_B2_7 {g0 : z_G} (k7 : Int32 × Int32 × Int32 × z_G → Option (Int32 × z_G)) (hk7 : ∀ w, z_ag (z_tch [] []) g0 w.2.2.2 → z_Fr (z_tch [] []) g0 (k7 w)) (x3 : Int32) (x4 : Int32) (x5 : Int32) (g : z_G) (hg : z_ag (z_tch [] []) g0 g) : z_Fr (z_tch [] []) g0 (fS_J1_indexOfChar_4cfef_B2_7 k7 x3 x4 x5 g) := by
  unfold fS_J1_indexOfChar_4cfef_B2_7
  refine fr_ite ?_ ?_
  · exact fr_some hg
  · refine fr_ck ?_
    refine fr_ite ?_ ?_
    · exact fr_some hg
    · refine fr_letI (fun y4 => ?_)
      exact hk7 (x3, x4, y4, g) hg
theorem frS_J1_indexOfChar_4cfef_B2_7_go {g0 : z_G} (x3 : Int32) (x4 : Int32) (x5 : Int32) (g : z_G) (hg : z_ag (z_tch [] []) g0 g) : z_Fr (z_tch [] []) g0 (fS_J1_indexOfChar_4cfef_B2_7_go x3 x4 x5 g) := by
  refine fr_loop (P := fun w : Int32 × Int32 × Int32 × z_G => z_ag (z_tch [] []) g0 w.2.2.2) (fun k hk w hw => ?_) z_fuel (x3, x4, x5, g) hg
  exact frS_J1_indexOfChar_4cfef_B2_7 k hk w.1 w.2.1 w.2.2.1 w.2.2.2 hw
theorem frS_J1_indexOfChar_4cfef_B2 (a1 : Int32) (a2 : Int32) (a3 : Int32) (g : z_G) : z_Fr (z_tch [] []) g (fS_J1_indexOfChar_4cfef_B2 a1 a2 a3 g) := by
  have hg : z_ag (z_tch [] []) g g := fr_rf
  unfold fS_J1_indexOfChar_4cfef_B2
  refine fr_letI (fun y5 => ?_)
  exact frS_J1_indexOfChar_4cfef_B2_7_go a3 y5 a2 g hg
theorem frS_J1_indexOf_4cfef_B2 (a1 : Int32) (a2 : Int32) (a3 : Int32) (g : z_G) : z_Fr (z_tch [] []) g (fS_J1_indexOf_4cfef_B2 a1 a2 a3 g) := by
  have hg : z_ag (z_tch [] []) g g := fr_rf
  unfold fS_J1_indexOf_4cfef_B2
  refine fr_bind (frS_J1_canEncode_9a6ad a1 g) (z_tch_sub rfl) hg (fun r1 g2 hg2 => ?_)
  refine fr_ite ?_ ?_
  · exact fr_some hg2
  · refine fr_letI (fun y5 => ?_)
    refine fr_letI (fun y6 => ?_)
    refine fr_ite ?_ ?_
    · refine fr_bind (frS_J1_indexOfChar_4cfef_B2 a1 y5 y6 g2) (z_tch_sub rfl) hg2 (fun r8 g9 hg9 => ?_)
      exact fr_some hg9
    · exact fr_some hg2
theorem frS_J0_indexOf_7cf53_S2_36 {g0 : z_G} (s0 : Int32) (g : z_G) (hg : z_ag (z_tch [] []) g0 g) : z_Fr (z_tch [] []) g0 (fS_J0_indexOf_7cf53_S2_36 s0 g) := by
  unfold fS_J0_indexOf_7cf53_S2_36
  exact fr_some hg
theorem frS_J0_indexOf_7cf53_S2 (a0 : Int32) (a1 : Int32) (g : z_G) : z_Fr (z_tch [] []) g (fS_J0_indexOf_7cf53_S2 a0 a1 g) := by
  have hg : z_ag (z_tch [] []) g g := fr_rf
  unfold fS_J0_indexOf_7cf53_S2
  refine fr_bind (frS_J0_isLatin1_aae02_S2 g) (z_tch_sub rfl) hg (fun r1 g2 hg2 => ?_)
  refine fr_ite ?_ ?_
  · refine fr_bind (frS_J0_length_8abf5_S2 g2) (z_tch_sub rfl) hg2 (fun r5 g6 hg6 => ?_)
    exact fr_none
  · refine fr_bind (frS_J0_length_8abf5_S2 g2) (z_tch_sub rfl) hg2 (fun r8 g9 hg9 => ?_)
    refine fr_bind (frS_J1_indexOf_4cfef_B2 a0 a1 r8 g9) (z_tch_sub rfl) hg9 (fun r11 g12 hg12 => ?_)
    exact frS_J0_indexOf_7cf53_S2_36 r11 g12 hg12
theorem frS_J0_indexOf_0f7a4_S2 (a0 : Int32) (g : z_G) : z_Fr (z_tch [] []) g (fS_J0_indexOf_0f7a4_S2 a0 g) := by
  have hg : z_ag (z_tch [] []) g g := fr_rf
  unfold fS_J0_indexOf_0f7a4_S2
  refine fr_bind (frS_J0_indexOf_7cf53_S2 a0 0 g) (z_tch_sub rfl) hg (fun r1 g2 hg2 => ?_)
  exact fr_some hg2
theorem frS_X8_isSign_S2_41 {g0 : z_G} (s0 : Int32) (g : z_G) (hg : z_ag (z_tch [] []) g0 g) : z_Fr (z_tch [] []) g0 (fS_X8_isSign_S2_41 s0 g) := by
  unfold fS_X8_isSign_S2_41
  refine fr_bo ?_
  exact fr_some hg
theorem frS_X8_isSign_S2_40 {g0 : z_G} (g : z_G) (hg : z_ag (z_tch [] []) g0 g) : z_Fr (z_tch [] []) g0 (fS_X8_isSign_S2_40 g) := by
  unfold fS_X8_isSign_S2_40
  exact frS_X8_isSign_S2_41 0 g hg
theorem frS_X8_isSign_S2 (a0 : Int32) (g : z_G) : z_Fr (z_tch [] []) g (fS_X8_isSign_S2 a0 g) := by
  have hg : z_ag (z_tch [] []) g g := fr_rf
  unfold fS_X8_isSign_S2
  refine fr_ite ?_ ?_
  · exact frS_X8_isSign_S2_40 g hg
  · refine fr_ck ?_
    refine fr_ite ?_ ?_
    · exact frS_X8_isSign_S2_40 g hg
    · refine fr_ck ?_
      refine fr_bind (frS_J0_indexOf_0f7a4_S2 (g 30 (Int32.toNatClampNeg (g 0 50))) g) (z_tch_sub rfl) hg (fun r5 g6 hg6 => ?_)
      refine fr_ite ?_ ?_
      · exact frS_X8_isSign_S2_40 g6 hg6
      · exact frS_X8_isSign_S2_41 1 g6 hg6
theorem frS_X8_ask (a0 : Int32) (g : z_G) : z_Fr (z_tch [34, 35, 36, 37] [(0, 50), (0, 51)]) g (fS_X8_ask a0 g) := by
  have hg : z_ag (z_tch [34, 35, 36, 37] [(0, 50), (0, 51)]) g g := fr_rf
  unfold fS_X8_ask
  refine fr_ck ?_
  refine fr_letI (fun y2 => ?_)
  refine fr_bind (frS_X8_isSign_S1 a0 g) (z_tch_sub rfl) hg (fun r3 g4 hg4 => ?_)
  refine fr_ite ?_ ?_
  · refine fr_bo ?_
    exact fr_some hg4
  · refine fr_ck ?_
    refine fr_ck ?_
    refine fr_letG (fr_up hg4 (z_tch_row rfl _)) (fun g9 hg9 => ?_)
    refine fr_letG (fr_up hg9 rfl) (fun g10 hg10 => ?_)
    refine fr_bind (frS_X8_isSign_S2 a0 g10) (z_tch_sub rfl) hg10 (fun r11 g12 hg12 => ?_)
    refine fr_ite ?_ ?_
    · refine fr_bo ?_
      exact fr_some hg12
    · refine fr_ck ?_
      refine fr_ck ?_
      refine fr_letG (fr_up hg12 (z_tch_row rfl _)) (fun g17 hg17 => ?_)
      refine fr_letG (fr_up hg17 rfl) (fun g18 hg18 => ?_)
      refine fr_bind (frS_X8_numbers a0 g18) (z_tch_sub rfl) hg18 (fun r19 g20 hg20 => ?_)
      refine fr_ite ?_ ?_
      · refine fr_bo ?_
        exact fr_some hg20
      · refine fr_ck ?_
        refine fr_letG (fr_up hg20 (z_tch_row rfl _)) (fun g24 hg24 => ?_)
        refine fr_ck ?_
        refine fr_ck ?_
        refine fr_letG (fr_up hg24 (z_tch_row rfl _)) (fun g27 hg27 => ?_)
        refine fr_bo ?_
        exact fr_some hg27
theorem frS_X8_reads_184 {g0 : z_G} (s0 : Int32) (g : z_G) (hg : z_ag (z_tch [32, 33, 34, 35, 36, 37] [(0, 50), (0, 51)]) g0 g) : z_Fr (z_tch [32, 33, 34, 35, 36, 37] [(0, 50), (0, 51)]) g0 (fS_X8_reads_184 s0 g) := by
  unfold fS_X8_reads_184
  refine fr_bo ?_
  exact fr_some hg
theorem frS_X8_reads_171 {g0 : z_G} (x1 : Int32) (g : z_G) (hg : z_ag (z_tch [32, 33, 34, 35, 36, 37] [(0, 50), (0, 51)]) g0 g) : z_Fr (z_tch [32, 33, 34, 35, 36, 37] [(0, 50), (0, 51)]) g0 (fS_X8_reads_171 x1 g) := by
  unfold fS_X8_reads_171
  refine fr_ite ?_ ?_
  · exact frS_X8_reads_184 1 g hg
  · exact frS_X8_reads_184 0 g hg
theorem frS_X8_reads_148 {g0 : z_G} (x1 : Int32) (g : z_G) (hg : z_ag (z_tch [32, 33, 34, 35, 36, 37] [(0, 50), (0, 51)]) g0 g) : z_Fr (z_tch [32, 33, 34, 35, 36, 37] [(0, 50), (0, 51)]) g0 (fS_X8_reads_148 x1 g) := by
  unfold fS_X8_reads_148
  refine fr_bind (frS_X8_numbers x1 g) (z_tch_sub rfl) hg (fun r2 g3 hg3 => ?_)
  refine fr_ite ?_ ?_
  · refine fr_bo ?_
    exact fr_some hg3
  · refine fr_ck ?_
    refine fr_letG (fr_up hg3 (z_tch_row rfl _)) (fun g7 hg7 => ?_)
    exact frS_X8_reads_171 x1 g7 hg7
theorem frS_X8_reads_25 {g0 : z_G} (k25 : Int32 × z_G → Option (Int32 × z_G)) (hk25 : ∀ w, z_ag (z_tch [32, 33, 34, 35, 36, 37] [(0, 50), (0, 51)]) g0 w.2 → z_Fr (z_tch [32, 33, 34, 35, 36, 37] [(0, 50), (0, 51)]) g0 (k25 w)) (x1 : Int32) (g : z_G) (hg : z_ag (z_tch [32, 33, 34, 35, 36, 37] [(0, 50), (0, 51)]) g0 g) : z_Fr (z_tch [32, 33, 34, 35, 36, 37] [(0, 50), (0, 51)]) g0 (fS_X8_reads_25 k25 x1 g) := by
  unfold fS_X8_reads_25
  refine fr_bind (frS_X8_isSign_S3 x1 g) (z_tch_sub rfl) hg (fun r8 g9 hg9 => ?_)
  refine fr_ite ?_ ?_
  · refine fr_bind (frS_X8_isSign_S4 x1 g9) (z_tch_sub rfl) hg9 (fun r12 g13 hg13 => ?_)
    refine fr_ite ?_ ?_
    · refine fr_bo ?_
      exact fr_some hg13
    · refine fr_letG (fr_up hg13 rfl) (fun g16 hg16 => ?_)
      refine fr_bind (frS_X8_isSign_S5 x1 g16) (z_tch_sub rfl) hg16 (fun r17 g18 hg18 => ?_)
      refine fr_ite ?_ ?_
      · refine fr_bo ?_
        exact fr_some hg18
      · refine fr_ck ?_
        refine fr_ck ?_
        refine fr_letG (fr_up hg18 (z_tch_row rfl _)) (fun g23 hg23 => ?_)
        refine fr_letG (fr_up hg23 rfl) (fun g24 hg24 => ?_)
        refine fr_ck ?_
        refine fr_ite ?_ ?_
        · exact frS_X8_reads_148 x1 g24 hg24
        · refine fr_ck ?_
          refine fr_ite ?_ ?_
          · exact frS_X8_reads_148 x1 g24 hg24
          · exact frS_X8_reads_171 x1 g24 hg24
  · refine fr_letG (fr_up hg9 rfl) (fun g29 hg29 => ?_)
    refine fr_bind (frS_X8_ask x1 g29) (z_tch_sub rfl) hg29 (fun r30 g31 hg31 => ?_)
    refine fr_ite ?_ ?_
    · refine fr_bo ?_
      exact fr_some hg31
    · exact hk25 (x1, g31) hg31
theorem frS_X8_reads_25_go {g0 : z_G} (x1 : Int32) (g : z_G) (hg : z_ag (z_tch [32, 33, 34, 35, 36, 37] [(0, 50), (0, 51)]) g0 g) : z_Fr (z_tch [32, 33, 34, 35, 36, 37] [(0, 50), (0, 51)]) g0 (fS_X8_reads_25_go x1 g) := by
  refine fr_loop (P := fun w : Int32 × z_G => z_ag (z_tch [32, 33, 34, 35, 36, 37] [(0, 50), (0, 51)]) g0 w.2) (fun k hk w hw => ?_) z_fuel (x1, g) hg
  exact frS_X8_reads_25 k hk w.1 w.2 hw
theorem frS_X8_reads (a0 : Int32) (g : z_G) : z_Fr (z_tch [32, 33, 34, 35, 36, 37] [(0, 50), (0, 51)]) g (fS_X8_reads a0 g) := by
  have hg : z_ag (z_tch [32, 33, 34, 35, 36, 37] [(0, 50), (0, 51)]) g g := fr_rf
  unfold fS_X8_reads
  refine fr_letG (fr_up hg rfl) (fun g34 hg34 => ?_)
  refine fr_ck ?_
  refine fr_letG (fr_up hg34 (z_tch_row rfl _)) (fun g36 hg36 => ?_)
  refine fr_bind (frS_X8_ask a0 g36) (z_tch_sub rfl) hg36 (fun r37 g38 hg38 => ?_)
  refine fr_ite ?_ ?_
  · refine fr_bo ?_
    exact fr_some hg38
  · exact frS_X8_reads_25_go a0 g38 hg38
theorem frS_X8_rule_57 {g0 : z_G} (g : z_G) (hg : z_ag (z_tch [31, 32, 33, 34, 35, 36, 37] [(0, 0), (0, 41), (0, 42), (0, 50), (0, 51)]) g0 g) : z_Fr (z_tch [31, 32, 33, 34, 35, 36, 37] [(0, 0), (0, 41), (0, 42), (0, 50), (0, 51)]) g0 (fS_X8_rule_57 g) := by
  unfold fS_X8_rule_57
  exact fr_some hg
theorem frS_X8_rule_94 {g0 : z_G} (s0 : Int32) (s1 : Int32) (g : z_G) (hg : z_ag (z_tch [31, 32, 33, 34, 35, 36, 37] [(0, 0), (0, 41), (0, 42), (0, 50), (0, 51)]) g0 g) : z_Fr (z_tch [31, 32, 33, 34, 35, 36, 37] [(0, 0), (0, 41), (0, 42), (0, 50), (0, 51)]) g0 (fS_X8_rule_94 s0 s1 g) := by
  unfold fS_X8_rule_94
  refine fr_ck ?_
  refine fr_letG (fr_up hg (z_tch_row rfl _)) (fun g2 hg2 => ?_)
  refine fr_letG (fr_up hg2 rfl) (fun g3 hg3 => ?_)
  exact fr_some hg3
theorem frS_X8_rule_60 {g0 : z_G} (x2 : Int32) (g : z_G) (hg : z_ag (z_tch [31, 32, 33, 34, 35, 36, 37] [(0, 0), (0, 41), (0, 42), (0, 50), (0, 51)]) g0 g) : z_Fr (z_tch [31, 32, 33, 34, 35, 36, 37] [(0, 0), (0, 41), (0, 42), (0, 50), (0, 51)]) g0 (fS_X8_rule_60 x2 g) := by
  unfold fS_X8_rule_60
  refine fr_ite ?_ ?_
  · exact fr_some hg
  · refine fr_ite ?_ ?_
    · exact frS_X8_rule_94 0 (g 0 42) g hg
    · exact frS_X8_rule_94 (g 0 21) (g 0 42) g hg
theorem frS_X8_rule (g : z_G) : z_Fr (z_tch [31, 32, 33, 34, 35, 36, 37] [(0, 0), (0, 41), (0, 42), (0, 50), (0, 51)]) g (fS_X8_rule g) := by
  have hg : z_ag (z_tch [31, 32, 33, 34, 35, 36, 37] [(0, 0), (0, 41), (0, 42), (0, 50), (0, 51)]) g g := fr_rf
  unfold fS_X8_rule
  refine fr_letG (fr_up hg rfl) (fun g6 hg6 => ?_)
  refine fr_letI (fun y7 => ?_)
  refine fr_letG (fr_up hg6 rfl) (fun g8 hg8 => ?_)
  refine fr_ite ?_ ?_
  · exact fr_some hg8
  · refine fr_letI (fun y10 => ?_)
    refine fr_bind (frS_X8_reads y10 g8) (z_tch_sub rfl) hg8 (fun r11 g12 hg12 => ?_)
    refine fr_ite ?_ ?_
    · exact frS_X8_rule_60 r11 g12 hg12
    · refine fr_ite ?_ ?_
      · refine fr_ite ?_ ?_
        · exact frS_X8_rule_60 r11 g12 hg12
        · exact frS_X8_rule_57 g12 hg12
      · exact frS_X8_rule_57 g12 hg12
