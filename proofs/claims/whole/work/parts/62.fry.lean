theorem frY_X0_forget (g : z_G) : z_Fr (z_tch [] [(3, 0), (3, 7)]) g (fY_X0_forget g) := by
  have hg : z_ag (z_tch [] [(3, 0), (3, 7)]) g g := fr_rf
  unfold fY_X0_forget
  refine fr_letG (fr_up hg rfl) (fun g1 hg1 => ?_)
  refine fr_letG (fr_up hg1 rfl) (fun g2 hg2 => ?_)
  exact fr_some hg2
theorem frY_X0_has_17 {g0 : z_G} (s0 : Int32) (g : z_G) (hg : z_ag (z_tch [] []) g0 g) : z_Fr (z_tch [] []) g0 (fY_X0_has_17 s0 g) := by
  unfold fY_X0_has_17
  refine fr_bo ?_
  exact fr_some hg
theorem frY_X0_has_16 {g0 : z_G} (g : z_G) (hg : z_ag (z_tch [] []) g0 g) : z_Fr (z_tch [] []) g0 (fY_X0_has_16 g) := by
  unfold fY_X0_has_16
  exact frY_X0_has_17 0 g hg
theorem frY_X0_has (a0 : Int32) (g : z_G) : z_Fr (z_tch [] []) g (fY_X0_has a0 g) := by
  have hg : z_ag (z_tch [] []) g g := fr_rf
  unfold fY_X0_has
  refine fr_ite ?_ ?_
  · exact frY_X0_has_16 g hg
  · refine fr_ite ?_ ?_
    · exact frY_X0_has_16 g hg
    · exact frY_X0_has_17 1 g hg
theorem frY_X0_isFull_15 {g0 : z_G} (s0 : Int32) (g : z_G) (hg : z_ag (z_tch [] []) g0 g) : z_Fr (z_tch [] []) g0 (fY_X0_isFull_15 s0 g) := by
  unfold fY_X0_isFull_15
  refine fr_bo ?_
  exact fr_some hg
theorem frY_X0_isFull (g : z_G) : z_Fr (z_tch [] []) g (fY_X0_isFull g) := by
  have hg : z_ag (z_tch [] []) g g := fr_rf
  unfold fY_X0_isFull
  refine fr_ite ?_ ?_
  · exact frY_X0_isFull_15 0 g hg
  · exact frY_X0_isFull_15 1 g hg
theorem frY_X0_note (a0 : Int32) (a1 : Int32) (a2 : Int32) (a3 : Int32) (a4 : Int32) (a5 : Int32) (g : z_G) : z_Fr (z_tch [25, 26, 27, 28, 29, 30] [(3, 0)]) g (fY_X0_note a0 a1 a2 a3 a4 a5 g) := by
  have hg : z_ag (z_tch [25, 26, 27, 28, 29, 30] [(3, 0)]) g g := fr_rf
  unfold fY_X0_note
  refine fr_bind (frY_X0_isFull g) (z_tch_sub rfl) hg (fun r1 g2 hg2 => ?_)
  refine fr_ite ?_ ?_
  · refine fr_ck ?_
    refine fr_letG (fr_up hg2 (z_tch_row rfl _)) (fun g6 hg6 => ?_)
    refine fr_ck ?_
    refine fr_letG (fr_up hg6 (z_tch_row rfl _)) (fun g8 hg8 => ?_)
    refine fr_ck ?_
    refine fr_letG (fr_up hg8 (z_tch_row rfl _)) (fun g10 hg10 => ?_)
    refine fr_ck ?_
    refine fr_letG (fr_up hg10 (z_tch_row rfl _)) (fun g12 hg12 => ?_)
    refine fr_ck ?_
    refine fr_letG (fr_up hg12 (z_tch_row rfl _)) (fun g14 hg14 => ?_)
    refine fr_ck ?_
    refine fr_letG (fr_up hg14 (z_tch_row rfl _)) (fun g16 hg16 => ?_)
    refine fr_letG (fr_up hg16 rfl) (fun g17 hg17 => ?_)
    exact fr_some hg17
  · exact fr_some hg2
theorem frY_X0_keepAct (a0 : Int32) (a1 : Int32) (a2 : Int32) (g : z_G) : z_Fr (z_tch [31, 32, 33, 34] [(3, 7)]) g (fY_X0_keepAct a0 a1 a2 g) := by
  have hg : z_ag (z_tch [31, 32, 33, 34] [(3, 7)]) g g := fr_rf
  unfold fY_X0_keepAct
  refine fr_ite ?_ ?_
  · refine fr_ck ?_
    refine fr_letG (fr_up hg (z_tch_row rfl _)) (fun g3 hg3 => ?_)
    refine fr_ck ?_
    refine fr_letG (fr_up hg3 (z_tch_row rfl _)) (fun g5 hg5 => ?_)
    refine fr_ck ?_
    refine fr_letG (fr_up hg5 (z_tch_row rfl _)) (fun g7 hg7 => ?_)
    refine fr_ck ?_
    refine fr_letG (fr_up hg7 (z_tch_row rfl _)) (fun g9 hg9 => ?_)
    refine fr_letG (fr_up hg9 rfl) (fun g10 hg10 => ?_)
    refine fr_bo ?_
    exact fr_some hg10
  · refine fr_bo ?_
    exact fr_some hg
theorem frY_X1_forget (g : z_G) : z_Fr (z_tch [] [(2, 0)]) g (fY_X1_forget g) := by
  have hg : z_ag (z_tch [] [(2, 0)]) g g := fr_rf
  unfold fY_X1_forget
  refine fr_letG (fr_up hg rfl) (fun g1 hg1 => ?_)
  exact fr_some hg1
theorem frY_X1_has_17 {g0 : z_G} (s0 : Int32) (g : z_G) (hg : z_ag (z_tch [] []) g0 g) : z_Fr (z_tch [] []) g0 (fY_X1_has_17 s0 g) := by
  unfold fY_X1_has_17
  refine fr_bo ?_
  exact fr_some hg
theorem frY_X1_has_16 {g0 : z_G} (g : z_G) (hg : z_ag (z_tch [] []) g0 g) : z_Fr (z_tch [] []) g0 (fY_X1_has_16 g) := by
  unfold fY_X1_has_16
  exact frY_X1_has_17 0 g hg
theorem frY_X1_has (a0 : Int32) (g : z_G) : z_Fr (z_tch [] []) g (fY_X1_has a0 g) := by
  have hg : z_ag (z_tch [] []) g g := fr_rf
  unfold fY_X1_has
  refine fr_ite ?_ ?_
  · exact frY_X1_has_16 g hg
  · refine fr_ite ?_ ?_
    · exact frY_X1_has_16 g hg
    · exact frY_X1_has_17 1 g hg
theorem frY_X1_bore (a0 : Int32) (g : z_G) : z_Fr (z_tch [22, 23] [(2, 0)]) g (fY_X1_bore a0 g) := by
  have hg : z_ag (z_tch [22, 23] [(2, 0)]) g g := fr_rf
  unfold fY_X1_bore
  refine fr_ite ?_ ?_
  · refine fr_ck ?_
    refine fr_letG (fr_up hg (z_tch_row rfl _)) (fun g3 hg3 => ?_)
    refine fr_ck ?_
    refine fr_letG (fr_up hg3 (z_tch_row rfl _)) (fun g5 hg5 => ?_)
    refine fr_letG (fr_up hg5 rfl) (fun g6 hg6 => ?_)
    exact fr_some hg6
  · exact fr_some hg
theorem frY_X1_turn_15 {g0 : z_G} (g : z_G) (hg : z_ag (z_tch [23] []) g0 g) : z_Fr (z_tch [23] []) g0 (fY_X1_turn_15 g) := by
  unfold fY_X1_turn_15
  exact fr_some hg
theorem frY_X1_turn (a0 : Int32) (a1 : Int32) (g : z_G) : z_Fr (z_tch [23] []) g (fY_X1_turn a0 a1 g) := by
  have hg : z_ag (z_tch [23] []) g g := fr_rf
  unfold fY_X1_turn
  refine fr_bind (frY_X1_has a0 g) (z_tch_sub rfl) hg (fun r1 g2 hg2 => ?_)
  refine fr_ite ?_ ?_
  · exact frY_X1_turn_15 g2 hg2
  · refine fr_ck ?_
    refine fr_letG (fr_up hg2 (z_tch_row rfl _)) (fun g6 hg6 => ?_)
    exact frY_X1_turn_15 g6 hg6
theorem frY_X1_shutAll_2 {g0 : z_G} (k2 : Int32 × z_G → Option (Int32 × z_G)) (hk2 : ∀ w, z_ag (z_tch [23] []) g0 w.2 → z_Fr (z_tch [23] []) g0 (k2 w)) (x1 : Int32) (g : z_G) (hg : z_ag (z_tch [23] []) g0 g) : z_Fr (z_tch [23] []) g0 (fY_X1_shutAll_2 k2 x1 g) := by
  unfold fY_X1_shutAll_2
  refine fr_ite ?_ ?_
  · exact fr_some hg
  · refine fr_ck ?_
    refine fr_letG (fr_up hg (z_tch_row rfl _)) (fun g3 hg3 => ?_)
    refine fr_letI (fun y4 => ?_)
    exact hk2 (y4, g3) hg3
theorem frY_X1_shutAll_2_go {g0 : z_G} (x1 : Int32) (g : z_G) (hg : z_ag (z_tch [23] []) g0 g) : z_Fr (z_tch [23] []) g0 (fY_X1_shutAll_2_go x1 g) := by
  refine fr_loop (P := fun w : Int32 × z_G => z_ag (z_tch [23] []) g0 w.2) (fun k hk w hw => ?_) z_fuel (x1, g) hg
  exact frY_X1_shutAll_2 k hk w.1 w.2 hw
theorem frY_X1_shutAll (g : z_G) : z_Fr (z_tch [23] []) g (fY_X1_shutAll g) := by
  have hg : z_ag (z_tch [23] []) g g := fr_rf
  unfold fY_X1_shutAll
  exact frY_X1_shutAll_2_go 0 g hg
theorem frY_X1_countOpen_24 {g0 : z_G} (k4 : Int32 × Int32 × z_G → Option (Int32 × z_G)) (hk4 : ∀ w, z_ag (z_tch [] []) g0 w.2.2 → z_Fr (z_tch [] []) g0 (k4 w)) (x1 : Int32) (x2 : Int32) (g : z_G) (hg : z_ag (z_tch [] []) g0 g) : z_Fr (z_tch [] []) g0 (fY_X1_countOpen_24 k4 x1 x2 g) := by
  unfold fY_X1_countOpen_24
  refine fr_letI (fun y1 => ?_)
  exact hk4 (x1, y1, g) hg
theorem frY_X1_countOpen_4 {g0 : z_G} (k4 : Int32 × Int32 × z_G → Option (Int32 × z_G)) (hk4 : ∀ w, z_ag (z_tch [] []) g0 w.2.2 → z_Fr (z_tch [] []) g0 (k4 w)) (x1 : Int32) (x2 : Int32) (g : z_G) (hg : z_ag (z_tch [] []) g0 g) : z_Fr (z_tch [] []) g0 (fY_X1_countOpen_4 k4 x1 x2 g) := by
  unfold fY_X1_countOpen_4
  refine fr_ite ?_ ?_
  · exact fr_some hg
  · refine fr_ck ?_
    refine fr_ite ?_ ?_
    · exact frY_X1_countOpen_24 k4 hk4 x1 x2 g hg
    · refine fr_letI (fun y5 => ?_)
      exact frY_X1_countOpen_24 k4 hk4 y5 x2 g hg
theorem frY_X1_countOpen_4_go {g0 : z_G} (x1 : Int32) (x2 : Int32) (g : z_G) (hg : z_ag (z_tch [] []) g0 g) : z_Fr (z_tch [] []) g0 (fY_X1_countOpen_4_go x1 x2 g) := by
  refine fr_loop (P := fun w : Int32 × Int32 × z_G => z_ag (z_tch [] []) g0 w.2.2) (fun k hk w hw => ?_) z_fuel (x1, x2, g) hg
  exact frY_X1_countOpen_4 k hk w.1 w.2.1 w.2.2 hw
theorem frY_X1_countOpen (g : z_G) : z_Fr (z_tch [] []) g (fY_X1_countOpen g) := by
  have hg : z_ag (z_tch [] []) g g := fr_rf
  unfold fY_X1_countOpen
  exact frY_X1_countOpen_4_go 0 0 g hg
theorem frY_X1_keepOpen_2 {g0 : z_G} (k2 : Int32 × z_G → Option (Int32 × z_G)) (hk2 : ∀ w, z_ag (z_tch [24] []) g0 w.2 → z_Fr (z_tch [24] []) g0 (k2 w)) (x1 : Int32) (g : z_G) (hg : z_ag (z_tch [24] []) g0 g) : z_Fr (z_tch [24] []) g0 (fY_X1_keepOpen_2 k2 x1 g) := by
  unfold fY_X1_keepOpen_2
  refine fr_ite ?_ ?_
  · exact fr_some hg
  · refine fr_ck ?_
    refine fr_ck ?_
    refine fr_letG (fr_up hg (z_tch_row rfl _)) (fun g4 hg4 => ?_)
    refine fr_letI (fun y5 => ?_)
    exact hk2 (y5, g4) hg4
theorem frY_X1_keepOpen_2_go {g0 : z_G} (x1 : Int32) (g : z_G) (hg : z_ag (z_tch [24] []) g0 g) : z_Fr (z_tch [24] []) g0 (fY_X1_keepOpen_2_go x1 g) := by
  refine fr_loop (P := fun w : Int32 × z_G => z_ag (z_tch [24] []) g0 w.2) (fun k hk w hw => ?_) z_fuel (x1, g) hg
  exact frY_X1_keepOpen_2 k hk w.1 w.2 hw
theorem frY_X1_keepOpen (g : z_G) : z_Fr (z_tch [24] []) g (fY_X1_keepOpen g) := by
  have hg : z_ag (z_tch [24] []) g g := fr_rf
  unfold fY_X1_keepOpen
  exact frY_X1_keepOpen_2_go 0 g hg
theorem frY_X1_backToLight_2 {g0 : z_G} (k2 : Int32 × z_G → Option (Int32 × z_G)) (hk2 : ∀ w, z_ag (z_tch [23] []) g0 w.2 → z_Fr (z_tch [23] []) g0 (k2 w)) (x1 : Int32) (g : z_G) (hg : z_ag (z_tch [23] []) g0 g) : z_Fr (z_tch [23] []) g0 (fY_X1_backToLight_2 k2 x1 g) := by
  unfold fY_X1_backToLight_2
  refine fr_ite ?_ ?_
  · exact fr_some hg
  · refine fr_ck ?_
    refine fr_ck ?_
    refine fr_letG (fr_up hg (z_tch_row rfl _)) (fun g4 hg4 => ?_)
    refine fr_letI (fun y5 => ?_)
    exact hk2 (y5, g4) hg4
theorem frY_X1_backToLight_2_go {g0 : z_G} (x1 : Int32) (g : z_G) (hg : z_ag (z_tch [23] []) g0 g) : z_Fr (z_tch [23] []) g0 (fY_X1_backToLight_2_go x1 g) := by
  refine fr_loop (P := fun w : Int32 × z_G => z_ag (z_tch [23] []) g0 w.2) (fun k hk w hw => ?_) z_fuel (x1, g) hg
  exact frY_X1_backToLight_2 k hk w.1 w.2 hw
theorem frY_X1_backToLight (g : z_G) : z_Fr (z_tch [23] []) g (fY_X1_backToLight g) := by
  have hg : z_ag (z_tch [23] []) g g := fr_rf
  unfold fY_X1_backToLight
  exact frY_X1_backToLight_2_go 0 g hg
theorem frY_X5_addFour_16 {g0 : z_G} (k16 : Int32 × Int32 × z_G → Option (Int32 × z_G)) (hk16 : ∀ w, z_ag (z_tch [35] [(4, 0)]) g0 w.2.2 → z_Fr (z_tch [35] [(4, 0)]) g0 (k16 w)) (x1 : Int32) (x2 : Int32) (g : z_G) (hg : z_ag (z_tch [35] [(4, 0)]) g0 g) : z_Fr (z_tch [35] [(4, 0)]) g0 (fY_X5_addFour_16 k16 x1 x2 g) := by
  unfold fY_X5_addFour_16
  refine fr_ite ?_ ?_
  · exact fr_some hg
  · refine fr_ck ?_
    refine fr_letG (fr_up hg (z_tch_row rfl _)) (fun g3 hg3 => ?_)
    refine fr_letG (fr_up hg3 rfl) (fun g4 hg4 => ?_)
    refine fr_letI (fun y5 => ?_)
    exact hk16 (x1, y5, g4) hg4
theorem frY_X5_addFour_16_go {g0 : z_G} (x1 : Int32) (x2 : Int32) (g : z_G) (hg : z_ag (z_tch [35] [(4, 0)]) g0 g) : z_Fr (z_tch [35] [(4, 0)]) g0 (fY_X5_addFour_16_go x1 x2 g) := by
  refine fr_loop (P := fun w : Int32 × Int32 × z_G => z_ag (z_tch [35] [(4, 0)]) g0 w.2.2) (fun k hk w hw => ?_) z_fuel (x1, x2, g) hg
  exact frY_X5_addFour_16 k hk w.1 w.2.1 w.2.2 hw
theorem frY_X5_addFour (a0 : Int32) (g : z_G) : z_Fr (z_tch [35] [(4, 0)]) g (fY_X5_addFour a0 g) := by
  have hg : z_ag (z_tch [35] [(4, 0)]) g g := fr_rf
  unfold fY_X5_addFour
  refine fr_ite ?_ ?_
  · exact frY_X5_addFour_16_go a0 24 g hg
  · exact fr_some hg
theorem frY_X5_signAt_22 {g0 : z_G} (s0 : Int32) (g : z_G) (hg : z_ag (z_tch [] []) g0 g) : z_Fr (z_tch [] []) g0 (fY_X5_signAt_22 s0 g) := by
  unfold fY_X5_signAt_22
  exact fr_some hg
theorem frY_X5_signAt_21 {g0 : z_G} (g : z_G) (hg : z_ag (z_tch [] []) g0 g) : z_Fr (z_tch [] []) g0 (fY_X5_signAt_21 g) := by
  unfold fY_X5_signAt_21
  exact frY_X5_signAt_22 (-1) g hg
theorem frY_X5_signAt (a0 : Int32) (g : z_G) : z_Fr (z_tch [] []) g (fY_X5_signAt a0 g) := by
  have hg : z_ag (z_tch [] []) g g := fr_rf
  unfold fY_X5_signAt
  refine fr_ite ?_ ?_
  · exact frY_X5_signAt_21 g hg
  · refine fr_ite ?_ ?_
    · exact frY_X5_signAt_21 g hg
    · refine fr_ck ?_
      exact frY_X5_signAt_22 (g 35 (Int32.toNatClampNeg a0)) g hg
theorem frY_X4_letterOf_2 {g0 : z_G} (k2 : Int32 × Int32 × z_G → Option (Int32 × z_G)) (hk2 : ∀ w, z_ag (z_tch [] []) g0 w.2.2 → z_Fr (z_tch [] []) g0 (k2 w)) (x0 : Int32) (x1 : Int32) (g : z_G) (hg : z_ag (z_tch [] []) g0 g) : z_Fr (z_tch [] []) g0 (fY_X4_letterOf_2 k2 x0 x1 g) := by
  unfold fY_X4_letterOf_2
  refine fr_ite ?_ ?_
  · exact fr_some hg
  · refine fr_ck ?_
    refine fr_ite ?_ ?_
    · exact fr_some hg
    · refine fr_letI (fun y4 => ?_)
      exact hk2 (x0, y4, g) hg
theorem frY_X4_letterOf_2_go {g0 : z_G} (x0 : Int32) (x1 : Int32) (g : z_G) (hg : z_ag (z_tch [] []) g0 g) : z_Fr (z_tch [] []) g0 (fY_X4_letterOf_2_go x0 x1 g) := by
  refine fr_loop (P := fun w : Int32 × Int32 × z_G => z_ag (z_tch [] []) g0 w.2.2) (fun k hk w hw => ?_) z_fuel (x0, x1, g) hg
  exact frY_X4_letterOf_2 k hk w.1 w.2.1 w.2.2 hw
theorem frY_X4_letterOf (a0 : Int32) (g : z_G) : z_Fr (z_tch [] []) g (fY_X4_letterOf a0 g) := by
  have hg : z_ag (z_tch [] []) g g := fr_rf
  unfold fY_X4_letterOf
  exact frY_X4_letterOf_2_go a0 0 g hg
theorem frY_X4_isFull_14 {g0 : z_G} (s0 : Int32) (g : z_G) (hg : z_ag (z_tch [] []) g0 g) : z_Fr (z_tch [] []) g0 (fY_X4_isFull_14 s0 g) := by
  unfold fY_X4_isFull_14
  refine fr_bo ?_
  exact fr_some hg
theorem frY_X4_isFull (g : z_G) : z_Fr (z_tch [] []) g (fY_X4_isFull g) := by
  have hg : z_ag (z_tch [] []) g g := fr_rf
  unfold fY_X4_isFull
  refine fr_ite ?_ ?_
  · exact frY_X4_isFull_14 0 g hg
  · exact frY_X4_isFull_14 1 g hg
theorem frY_X4_accept (a0 : Int32) (g : z_G) : z_Fr (z_tch [39] [(5, 0)]) g (fY_X4_accept a0 g) := by
  have hg : z_ag (z_tch [39] [(5, 0)]) g g := fr_rf
  unfold fY_X4_accept
  refine fr_ck ?_
  refine fr_letG (fr_up hg (z_tch_row rfl _)) (fun g2 hg2 => ?_)
  refine fr_letG (fr_up hg2 rfl) (fun g3 hg3 => ?_)
  exact fr_some hg3
theorem frY_J7_fill_53178_r39_5 {g0 : z_G} (k5 : Int32 × Int32 × Int32 × z_G → Option (Int32 × z_G)) (hk5 : ∀ w, z_ag (z_tch [39] []) g0 w.2.2.2 → z_Fr (z_tch [39] []) g0 (k5 w)) (x1 : Int32) (x2 : Int32) (x3 : Int32) (g : z_G) (hg : z_ag (z_tch [39] []) g0 g) : z_Fr (z_tch [39] []) g0 (fY_J7_fill_53178_r39_5 k5 x1 x2 x3 g) := by
  unfold fY_J7_fill_53178_r39_5
  refine fr_ite ?_ ?_
  · exact fr_some hg
  · refine fr_ck ?_
    refine fr_letG (fr_up hg (z_tch_row rfl _)) (fun g3 hg3 => ?_)
    refine fr_letI (fun y4 => ?_)
    exact hk5 (x1, y4, x3, g3) hg3
theorem frY_J7_fill_53178_r39_5_go {g0 : z_G} (x1 : Int32) (x2 : Int32) (x3 : Int32) (g : z_G) (hg : z_ag (z_tch [39] []) g0 g) : z_Fr (z_tch [39] []) g0 (fY_J7_fill_53178_r39_5_go x1 x2 x3 g) := by
  refine fr_loop (P := fun w : Int32 × Int32 × Int32 × z_G => z_ag (z_tch [39] []) g0 w.2.2.2) (fun k hk w hw => ?_) z_fuel (x1, x2, x3, g) hg
  exact frY_J7_fill_53178_r39_5 k hk w.1 w.2.1 w.2.2.1 w.2.2.2 hw
theorem frY_J7_fill_53178_r39 (a1 : Int32) (g : z_G) : z_Fr (z_tch [39] []) g (fY_J7_fill_53178_r39 a1 g) := by
  have hg : z_ag (z_tch [39] []) g g := fr_rf
  unfold fY_J7_fill_53178_r39
  exact frY_J7_fill_53178_r39_5_go a1 0 8 g hg
theorem frY_X4_actFromFirstHour (g : z_G) : z_Fr (z_tch [39] []) g (fY_X4_actFromFirstHour g) := by
  have hg : z_ag (z_tch [39] []) g g := fr_rf
  unfold fY_X4_actFromFirstHour
  refine fr_bind (frY_J7_fill_53178_r39 0 g) (z_tch_sub rfl) hg (fun r1 g2 hg2 => ?_)
  exact fr_some hg2
theorem frY_X4_putAsk (a0 : Int32) (a1 : Int32) (a2 : Int32) (a3 : Int32) (g : z_G) : z_Fr (z_tch [38, 40, 41, 42] []) g (fY_X4_putAsk a0 a1 a2 a3 g) := by
  have hg : z_ag (z_tch [38, 40, 41, 42] []) g g := fr_rf
  unfold fY_X4_putAsk
  refine fr_letI (fun y1 => ?_)
  refine fr_ck ?_
  refine fr_letG (fr_up hg (z_tch_row rfl _)) (fun g3 hg3 => ?_)
  refine fr_ck ?_
  refine fr_letG (fr_up hg3 (z_tch_row rfl _)) (fun g5 hg5 => ?_)
  refine fr_ck ?_
  refine fr_letG (fr_up hg5 (z_tch_row rfl _)) (fun g7 hg7 => ?_)
  refine fr_ck ?_
  refine fr_letG (fr_up hg7 (z_tch_row rfl _)) (fun g9 hg9 => ?_)
  exact fr_some hg9
theorem frY_X4_putAct (a0 : Int32) (a1 : Int32) (g : z_G) : z_Fr (z_tch [36, 37] []) g (fY_X4_putAct a0 a1 g) := by
  have hg : z_ag (z_tch [36, 37] []) g g := fr_rf
  unfold fY_X4_putAct
  refine fr_ck ?_
  refine fr_letG (fr_up hg (z_tch_row rfl _)) (fun g2 hg2 => ?_)
  refine fr_ck ?_
  refine fr_letG (fr_up hg2 (z_tch_row rfl _)) (fun g4 hg4 => ?_)
  exact fr_some hg4
theorem frY_X4_see (a0 : Int32) (a1 : Int32) (g : z_G) : z_Fr (z_tch [43] []) g (fY_X4_see a0 a1 g) := by
  have hg : z_ag (z_tch [43] []) g g := fr_rf
  unfold fY_X4_see
  refine fr_ck ?_
  refine fr_letG (fr_up hg (z_tch_row rfl _)) (fun g2 hg2 => ?_)
  exact fr_some hg2
theorem frY_X4_isSo_16 {g0 : z_G} (s0 : Int32) (g : z_G) (hg : z_ag (z_tch [] []) g0 g) : z_Fr (z_tch [] []) g0 (fY_X4_isSo_16 s0 g) := by
  unfold fY_X4_isSo_16
  refine fr_bo ?_
  exact fr_some hg
theorem frY_X4_isSo_46 {g0 : z_G} (s0 : Int32) (g : z_G) (hg : z_ag (z_tch [] []) g0 g) : z_Fr (z_tch [] []) g0 (fY_X4_isSo_46 s0 g) := by
  unfold fY_X4_isSo_46
  refine fr_bo ?_
  exact fr_some hg
theorem frY_X4_isSo (a0 : Int32) (a1 : Int32) (a2 : Int32) (g : z_G) : z_Fr (z_tch [] []) g (fY_X4_isSo a0 a1 a2 g) := by
  have hg : z_ag (z_tch [] []) g g := fr_rf
  unfold fY_X4_isSo
  refine fr_ite ?_ ?_
  · refine fr_ite ?_ ?_
    · exact frY_X4_isSo_16 0 g hg
    · exact frY_X4_isSo_16 1 g hg
  · refine fr_ite ?_ ?_
    · refine fr_ite ?_ ?_
      · exact frY_X4_isSo_46 0 g hg
      · exact frY_X4_isSo_46 1 g hg
    · refine fr_ite ?_ ?_
      · exact frY_X4_isSo_46 1 g hg
      · exact frY_X4_isSo_46 0 g hg
theorem frY_X4_holdsAt_17 {g0 : z_G} (k17 : Int32 × Int32 × z_G → Option (Int32 × z_G)) (hk17 : ∀ w, z_ag (z_tch [] []) g0 w.2.2 → z_Fr (z_tch [] []) g0 (k17 w)) (x1 : Int32) (x3 : Int32) (g : z_G) (hg : z_ag (z_tch [] []) g0 g) : z_Fr (z_tch [] []) g0 (fY_X4_holdsAt_17 k17 x1 x3 g) := by
  unfold fY_X4_holdsAt_17
  refine fr_ck ?_
  refine fr_ite ?_ ?_
  · refine fr_bo ?_
    exact fr_some hg
  · refine fr_ck ?_
    refine fr_ck ?_
    refine fr_ck ?_
    refine fr_ck ?_
    refine fr_bind (frY_X4_isSo (g 43 (Int32.toNatClampNeg (g 40 (Int32.toNatClampNeg x3)))) (g 41 (Int32.toNatClampNeg x3)) (g 42 (Int32.toNatClampNeg x3)) g) (z_tch_sub rfl) hg (fun r7 g8 hg8 => ?_)
    refine fr_ite ?_ ?_
    · refine fr_bo ?_
      exact fr_some hg8
    · refine fr_letI (fun y11 => ?_)
      exact hk17 (x1, y11, g8) hg8
theorem frY_X4_holdsAt_17_go {g0 : z_G} (x1 : Int32) (x3 : Int32) (g : z_G) (hg : z_ag (z_tch [] []) g0 g) : z_Fr (z_tch [] []) g0 (fY_X4_holdsAt_17_go x1 x3 g) := by
  refine fr_loop (P := fun w : Int32 × Int32 × z_G => z_ag (z_tch [] []) g0 w.2.2) (fun k hk w hw => ?_) z_fuel (x1, x3, g) hg
  exact frY_X4_holdsAt_17 k hk w.1 w.2.1 w.2.2 hw
theorem frY_X4_holdsAt (a0 : Int32) (a1 : Int32) (g : z_G) : z_Fr (z_tch [] []) g (fY_X4_holdsAt a0 a1 g) := by
  have hg : z_ag (z_tch [] []) g g := fr_rf
  unfold fY_X4_holdsAt
  refine fr_ck ?_
  refine fr_ite ?_ ?_
  · refine fr_letI (fun y14 => ?_)
    exact frY_X4_holdsAt_17_go a0 y14 g hg
  · refine fr_bo ?_
    exact fr_some hg
theorem frY_X6_has_17 {g0 : z_G} (s0 : Int32) (g : z_G) (hg : z_ag (z_tch [] []) g0 g) : z_Fr (z_tch [] []) g0 (fY_X6_has_17 s0 g) := by
  unfold fY_X6_has_17
  refine fr_bo ?_
  exact fr_some hg
theorem frY_X6_has_16 {g0 : z_G} (g : z_G) (hg : z_ag (z_tch [] []) g0 g) : z_Fr (z_tch [] []) g0 (fY_X6_has_16 g) := by
  unfold fY_X6_has_16
  exact frY_X6_has_17 0 g hg
theorem frY_X6_has (a0 : Int32) (g : z_G) : z_Fr (z_tch [] []) g (fY_X6_has a0 g) := by
  have hg : z_ag (z_tch [] []) g g := fr_rf
  unfold fY_X6_has
  refine fr_ite ?_ ?_
  · exact frY_X6_has_16 g hg
  · refine fr_ite ?_ ?_
    · exact frY_X6_has_16 g hg
    · exact frY_X6_has_17 1 g hg
theorem frY_X6_plant (a0 : Int32) (a1 : Int32) (a2 : Int32) (g : z_G) : z_Fr (z_tch [44, 45, 46] [(7, 0)]) g (fY_X6_plant a0 a1 a2 g) := by
  have hg : z_ag (z_tch [44, 45, 46] [(7, 0)]) g g := fr_rf
  unfold fY_X6_plant
  refine fr_ite ?_ ?_
  · refine fr_ck ?_
    refine fr_letG (fr_up hg (z_tch_row rfl _)) (fun g3 hg3 => ?_)
    refine fr_ck ?_
    refine fr_letG (fr_up hg3 (z_tch_row rfl _)) (fun g5 hg5 => ?_)
    refine fr_ck ?_
    refine fr_letG (fr_up hg5 (z_tch_row rfl _)) (fun g7 hg7 => ?_)
    refine fr_letG (fr_up hg7 rfl) (fun g8 hg8 => ?_)
    exact fr_some hg8
  · exact fr_some hg
theorem frY_X6_grow_2 {g0 : z_G} (k2 : Int32 × Int32 × z_G → Option (Int32 × z_G)) (hk2 : ∀ w, z_ag (z_tch [44] []) g0 w.2.2 → z_Fr (z_tch [44] []) g0 (k2 w)) (x1 : Int32) (x2 : Int32) (g : z_G) (hg : z_ag (z_tch [44] []) g0 g) : z_Fr (z_tch [44] []) g0 (fY_X6_grow_2 k2 x1 x2 g) := by
  unfold fY_X6_grow_2
  refine fr_ite ?_ ?_
  · exact fr_some hg
  · refine fr_ck ?_
    refine fr_letI (fun y3 => ?_)
    refine fr_ck ?_
    refine fr_letG (fr_up hg (z_tch_row rfl _)) (fun g5 hg5 => ?_)
    refine fr_letI (fun y6 => ?_)
    exact hk2 (x1, y6, g5) hg5
theorem frY_X6_grow_2_go {g0 : z_G} (x1 : Int32) (x2 : Int32) (g : z_G) (hg : z_ag (z_tch [44] []) g0 g) : z_Fr (z_tch [44] []) g0 (fY_X6_grow_2_go x1 x2 g) := by
  refine fr_loop (P := fun w : Int32 × Int32 × z_G => z_ag (z_tch [44] []) g0 w.2.2) (fun k hk w hw => ?_) z_fuel (x1, x2, g) hg
  exact frY_X6_grow_2 k hk w.1 w.2.1 w.2.2 hw
theorem frY_X6_grow (a0 : Int32) (g : z_G) : z_Fr (z_tch [44] []) g (fY_X6_grow a0 g) := by
  have hg : z_ag (z_tch [44] []) g g := fr_rf
  unfold fY_X6_grow
  exact frY_X6_grow_2_go a0 0 g hg
theorem frY_X6_yearsLeft (a0 : Int32) (g : z_G) : z_Fr (z_tch [] []) g (fY_X6_yearsLeft a0 g) := by
  have hg : z_ag (z_tch [] []) g g := fr_rf
  unfold fY_X6_yearsLeft
  refine fr_ck ?_
  refine fr_ck ?_
  refine fr_letI (fun y3 => ?_)
  exact fr_some hg
theorem frY_X6_ripeOnes_26 {g0 : z_G} (k4 : Int32 × Int32 × z_G → Option (Int32 × z_G)) (hk4 : ∀ w, z_ag (z_tch [] []) g0 w.2.2 → z_Fr (z_tch [] []) g0 (k4 w)) (x1 : Int32) (x2 : Int32) (g : z_G) (hg : z_ag (z_tch [] []) g0 g) : z_Fr (z_tch [] []) g0 (fY_X6_ripeOnes_26 k4 x1 x2 g) := by
  unfold fY_X6_ripeOnes_26
  refine fr_letI (fun y1 => ?_)
  exact hk4 (x1, y1, g) hg
theorem frY_X6_ripeOnes_4 {g0 : z_G} (k4 : Int32 × Int32 × z_G → Option (Int32 × z_G)) (hk4 : ∀ w, z_ag (z_tch [] []) g0 w.2.2 → z_Fr (z_tch [] []) g0 (k4 w)) (x1 : Int32) (x2 : Int32) (g : z_G) (hg : z_ag (z_tch [] []) g0 g) : z_Fr (z_tch [] []) g0 (fY_X6_ripeOnes_4 k4 x1 x2 g) := by
  unfold fY_X6_ripeOnes_4
  refine fr_ite ?_ ?_
  · exact fr_some hg
  · refine fr_bind (frY_X6_yearsLeft x2 g) (z_tch_sub rfl) hg (fun r3 g4 hg4 => ?_)
    refine fr_ite ?_ ?_
    · refine fr_letI (fun y7 => ?_)
      exact frY_X6_ripeOnes_26 k4 hk4 y7 x2 g4 hg4
    · exact frY_X6_ripeOnes_26 k4 hk4 x1 x2 g4 hg4
theorem frY_X6_ripeOnes_4_go {g0 : z_G} (x1 : Int32) (x2 : Int32) (g : z_G) (hg : z_ag (z_tch [] []) g0 g) : z_Fr (z_tch [] []) g0 (fY_X6_ripeOnes_4_go x1 x2 g) := by
  refine fr_loop (P := fun w : Int32 × Int32 × z_G => z_ag (z_tch [] []) g0 w.2.2) (fun k hk w hw => ?_) z_fuel (x1, x2, g) hg
  exact frY_X6_ripeOnes_4 k hk w.1 w.2.1 w.2.2 hw
theorem frY_X6_ripeOnes (g : z_G) : z_Fr (z_tch [] []) g (fY_X6_ripeOnes g) := by
  have hg : z_ag (z_tch [] []) g g := fr_rf
  unfold fY_X6_ripeOnes
  exact frY_X6_ripeOnes_4_go 0 0 g hg
theorem frY_X6_greatestOf_48 {g0 : z_G} (k7 : Int32 × Int32 × Int32 × Int32 × z_G → Option (Int32 × z_G)) (hk7 : ∀ w, z_ag (z_tch [] []) g0 w.2.2.2.2 → z_Fr (z_tch [] []) g0 (k7 w)) (x1 : Int32) (x2 : Int32) (x3 : Int32) (x4 : Int32) (g : z_G) (hg : z_ag (z_tch [] []) g0 g) : z_Fr (z_tch [] []) g0 (fY_X6_greatestOf_48 k7 x1 x2 x3 x4 g) := by
  unfold fY_X6_greatestOf_48
  refine fr_letI (fun y1 => ?_)
  exact hk7 (x1, x2, x3, y1, g) hg
theorem frY_X6_greatestOf_7 {g0 : z_G} (k7 : Int32 × Int32 × Int32 × Int32 × z_G → Option (Int32 × z_G)) (hk7 : ∀ w, z_ag (z_tch [] []) g0 w.2.2.2.2 → z_Fr (z_tch [] []) g0 (k7 w)) (x1 : Int32) (x2 : Int32) (x3 : Int32) (x4 : Int32) (g : z_G) (hg : z_ag (z_tch [] []) g0 g) : z_Fr (z_tch [] []) g0 (fY_X6_greatestOf_7 k7 x1 x2 x3 x4 g) := by
  unfold fY_X6_greatestOf_7
  refine fr_ite ?_ ?_
  · exact fr_some hg
  · refine fr_ite ?_ ?_
    · refine fr_ck ?_
      refine fr_ite ?_ ?_
      · exact frY_X6_greatestOf_48 k7 hk7 x1 x2 x3 x4 g hg
      · refine fr_ck ?_
        refine fr_letI (fun y7 => ?_)
        exact frY_X6_greatestOf_48 k7 hk7 x1 x4 y7 x4 g hg
    · exact frY_X6_greatestOf_48 k7 hk7 x1 x2 x3 x4 g hg
theorem frY_X6_greatestOf_7_go {g0 : z_G} (x1 : Int32) (x2 : Int32) (x3 : Int32) (x4 : Int32) (g : z_G) (hg : z_ag (z_tch [] []) g0 g) : z_Fr (z_tch [] []) g0 (fY_X6_greatestOf_7_go x1 x2 x3 x4 g) := by
  refine fr_loop (P := fun w : Int32 × Int32 × Int32 × Int32 × z_G => z_ag (z_tch [] []) g0 w.2.2.2.2) (fun k hk w hw => ?_) z_fuel (x1, x2, x3, x4, g) hg
  exact frY_X6_greatestOf_7 k hk w.1 w.2.1 w.2.2.1 w.2.2.2.1 w.2.2.2.2 hw
theorem frY_X6_greatestOf (a0 : Int32) (g : z_G) : z_Fr (z_tch [] []) g (fY_X6_greatestOf a0 g) := by
  have hg : z_ag (z_tch [] []) g g := fr_rf
  unfold fY_X6_greatestOf
  exact frY_X6_greatestOf_7_go a0 0 0 0 g hg
theorem frY_X6_fewestOf_64 {g0 : z_G} (g : z_G) (hg : z_ag (z_tch [] []) g0 g) : z_Fr (z_tch [] []) g0 (fY_X6_fewestOf_64 g) := by
  unfold fY_X6_fewestOf_64
  exact fr_some hg
theorem frY_X6_fewestOf_8 {g0 : z_G} (k8 : Int32 × Int32 × Int32 × Int32 × z_G → Option (Int32 × z_G)) (hk8 : ∀ w, z_ag (z_tch [] []) g0 w.2.2.2.2 → z_Fr (z_tch [] []) g0 (k8 w)) (x2 : Int32) (x3 : Int32) (x4 : Int32) (x5 : Int32) (g : z_G) (hg : z_ag (z_tch [] []) g0 g) : z_Fr (z_tch [] []) g0 (fY_X6_fewestOf_8 k8 x2 x3 x4 x5 g) := by
  unfold fY_X6_fewestOf_8
  refine fr_ite ?_ ?_
  · exact frY_X6_fewestOf_64 g hg
  · refine fr_ite ?_ ?_
    · exact frY_X6_fewestOf_64 g hg
    · refine fr_bind (frY_X6_greatestOf x3 g) (z_tch_sub rfl) hg (fun r3 g4 hg4 => ?_)
      refine fr_ck ?_
      refine fr_letI (fun y7 => ?_)
      refine fr_letI (fun y8 => ?_)
      refine fr_ite ?_ ?_
      · refine fr_letI (fun y10 => ?_)
        exact hk8 (x2, y8, y7, y10, g4) hg4
      · exact fr_some hg4
theorem frY_X6_fewestOf_8_go {g0 : z_G} (x2 : Int32) (x3 : Int32) (x4 : Int32) (x5 : Int32) (g : z_G) (hg : z_ag (z_tch [] []) g0 g) : z_Fr (z_tch [] []) g0 (fY_X6_fewestOf_8_go x2 x3 x4 x5 g) := by
  refine fr_loop (P := fun w : Int32 × Int32 × Int32 × Int32 × z_G => z_ag (z_tch [] []) g0 w.2.2.2.2) (fun k hk w hw => ?_) z_fuel (x2, x3, x4, x5, g) hg
  exact frY_X6_fewestOf_8 k hk w.1 w.2.1 w.2.2.1 w.2.2.2.1 w.2.2.2.2 hw
theorem frY_X6_fewestOf (a0 : Int32) (a1 : Int32) (g : z_G) : z_Fr (z_tch [] []) g (fY_X6_fewestOf a0 a1 g) := by
  have hg : z_ag (z_tch [] []) g g := fr_rf
  unfold fY_X6_fewestOf
  exact frY_X6_fewestOf_8_go a1 a0 0 1 g hg
theorem frY_J6_bitCount_0f7a4 (a0 : Int32) (g : z_G) : z_Fr (z_tch [] []) g (fY_J6_bitCount_0f7a4 a0 g) := by
  have hg : z_ag (z_tch [] []) g g := fr_rf
  unfold fY_J6_bitCount_0f7a4
  refine fr_letI (fun y1 => ?_)
  refine fr_letI (fun y2 => ?_)
  refine fr_letI (fun y3 => ?_)
  refine fr_letI (fun y4 => ?_)
  refine fr_letI (fun y5 => ?_)
  exact fr_some hg
theorem frY_X6_loadsOf_30 {g0 : z_G} (k4 : Int32 × Int32 × Int32 × z_G → Option (Int32 × z_G)) (hk4 : ∀ w, z_ag (z_tch [] []) g0 w.2.2.2 → z_Fr (z_tch [] []) g0 (k4 w)) (x1 : Int32) (x2 : Int32) (x3 : Int32) (g : z_G) (hg : z_ag (z_tch [] []) g0 g) : z_Fr (z_tch [] []) g0 (fY_X6_loadsOf_30 k4 x1 x2 x3 g) := by
  unfold fY_X6_loadsOf_30
  refine fr_letI (fun y1 => ?_)
  exact hk4 (x1, x2, y1, g) hg
theorem frY_X6_loadsOf_4 {g0 : z_G} (k4 : Int32 × Int32 × Int32 × z_G → Option (Int32 × z_G)) (hk4 : ∀ w, z_ag (z_tch [] []) g0 w.2.2.2 → z_Fr (z_tch [] []) g0 (k4 w)) (x1 : Int32) (x2 : Int32) (x3 : Int32) (g : z_G) (hg : z_ag (z_tch [] []) g0 g) : z_Fr (z_tch [] []) g0 (fY_X6_loadsOf_4 k4 x1 x2 x3 g) := by
  unfold fY_X6_loadsOf_4
  refine fr_ite ?_ ?_
  · exact fr_some hg
  · refine fr_ite ?_ ?_
    · refine fr_ck ?_
      refine fr_letI (fun y5 => ?_)
      exact frY_X6_loadsOf_30 k4 hk4 x1 y5 x3 g hg
    · exact frY_X6_loadsOf_30 k4 hk4 x1 x2 x3 g hg
theorem frY_X6_loadsOf_4_go {g0 : z_G} (x1 : Int32) (x2 : Int32) (x3 : Int32) (g : z_G) (hg : z_ag (z_tch [] []) g0 g) : z_Fr (z_tch [] []) g0 (fY_X6_loadsOf_4_go x1 x2 x3 g) := by
  refine fr_loop (P := fun w : Int32 × Int32 × Int32 × z_G => z_ag (z_tch [] []) g0 w.2.2.2) (fun k hk w hw => ?_) z_fuel (x1, x2, x3, g) hg
  exact frY_X6_loadsOf_4 k hk w.1 w.2.1 w.2.2.1 w.2.2.2 hw
theorem frY_X6_loadsOf (a0 : Int32) (g : z_G) : z_Fr (z_tch [] []) g (fY_X6_loadsOf a0 g) := by
  have hg : z_ag (z_tch [] []) g g := fr_rf
  unfold fY_X6_loadsOf
  exact frY_X6_loadsOf_4_go a0 0 0 g hg
theorem frY_X6_leastOf_72 {g0 : z_G} (k9 : Int32 × Int32 × Int32 × Int32 × Int32 × Int32 × z_G → Option (Int32 × z_G)) (hk9 : ∀ w, z_ag (z_tch [] []) g0 w.2.2.2.2.2.2 → z_Fr (z_tch [] []) g0 (k9 w)) (x1 : Int32) (x2 : Int32) (x3 : Int32) (x4 : Int32) (x5 : Int32) (x6 : Int32) (g : z_G) (hg : z_ag (z_tch [] []) g0 g) : z_Fr (z_tch [] []) g0 (fY_X6_leastOf_72 k9 x1 x2 x3 x4 x5 x6 g) := by
  unfold fY_X6_leastOf_72
  refine fr_letI (fun y1 => ?_)
  exact hk9 (x1, x2, x3, x4, x5, y1, g) hg
theorem frY_X6_leastOf_64 {g0 : z_G} (k9 : Int32 × Int32 × Int32 × Int32 × Int32 × Int32 × z_G → Option (Int32 × z_G)) (hk9 : ∀ w, z_ag (z_tch [] []) g0 w.2.2.2.2.2.2 → z_Fr (z_tch [] []) g0 (k9 w)) (x1 : Int32) (x2 : Int32) (x3 : Int32) (x6 : Int32) (x7 : Int32) (g : z_G) (hg : z_ag (z_tch [] []) g0 g) : z_Fr (z_tch [] []) g0 (fY_X6_leastOf_64 k9 x1 x2 x3 x6 x7 g) := by
  unfold fY_X6_leastOf_64
  exact frY_X6_leastOf_72 k9 hk9 x1 x2 x3 x6 x7 x6 g hg
theorem frY_X6_leastOf_9 {g0 : z_G} (k9 : Int32 × Int32 × Int32 × Int32 × Int32 × Int32 × z_G → Option (Int32 × z_G)) (hk9 : ∀ w, z_ag (z_tch [] []) g0 w.2.2.2.2.2.2 → z_Fr (z_tch [] []) g0 (k9 w)) (x1 : Int32) (x2 : Int32) (x3 : Int32) (x4 : Int32) (x5 : Int32) (x6 : Int32) (g : z_G) (hg : z_ag (z_tch [] []) g0 g) : z_Fr (z_tch [] []) g0 (fY_X6_leastOf_9 k9 x1 x2 x3 x4 x5 x6 g) := by
  unfold fY_X6_leastOf_9
  refine fr_ite ?_ ?_
  · exact fr_some hg
  · refine fr_ite ?_ ?_
    · refine fr_bind (frY_J6_bitCount_0f7a4 x6 g) (z_tch_sub rfl) hg (fun r4 g5 hg5 => ?_)
      refine fr_ite ?_ ?_
      · refine fr_bind (frY_X6_loadsOf x6 g5) (z_tch_sub rfl) hg5 (fun r8 g9 hg9 => ?_)
        refine fr_ite ?_ ?_
        · exact frY_X6_leastOf_72 k9 hk9 x1 x2 x3 x4 x5 x6 g9 hg9
        · refine fr_ite ?_ ?_
          · exact frY_X6_leastOf_64 k9 hk9 x1 x2 x3 x6 r8 g9 hg9
          · refine fr_ite ?_ ?_
            · exact frY_X6_leastOf_72 k9 hk9 x1 x2 x3 x4 x5 x6 g9 hg9
            · exact frY_X6_leastOf_64 k9 hk9 x1 x2 x3 x6 r8 g9 hg9
      · exact frY_X6_leastOf_72 k9 hk9 x1 x2 x3 x4 x5 x6 g5 hg5
    · exact frY_X6_leastOf_72 k9 hk9 x1 x2 x3 x4 x5 x6 g hg
theorem frY_X6_leastOf_9_go {g0 : z_G} (x1 : Int32) (x2 : Int32) (x3 : Int32) (x4 : Int32) (x5 : Int32) (x6 : Int32) (g : z_G) (hg : z_ag (z_tch [] []) g0 g) : z_Fr (z_tch [] []) g0 (fY_X6_leastOf_9_go x1 x2 x3 x4 x5 x6 g) := by
  refine fr_loop (P := fun w : Int32 × Int32 × Int32 × Int32 × Int32 × Int32 × z_G => z_ag (z_tch [] []) g0 w.2.2.2.2.2.2) (fun k hk w hw => ?_) z_fuel (x1, x2, x3, x4, x5, x6, g) hg
  exact frY_X6_leastOf_9 k hk w.1 w.2.1 w.2.2.1 w.2.2.2.1 w.2.2.2.2.1 w.2.2.2.2.2.1 w.2.2.2.2.2.2 hw
theorem frY_X6_leastOf (a0 : Int32) (a1 : Int32) (a2 : Int32) (g : z_G) : z_Fr (z_tch [] []) g (fY_X6_leastOf a0 a1 a2 g) := by
  have hg : z_ag (z_tch [] []) g g := fr_rf
  unfold fY_X6_leastOf
  exact frY_X6_leastOf_9_go a0 a1 a2 0 0 1 g hg
theorem frY_X6_choose_29 {g0 : z_G} (s0 : Int32) (g : z_G) (hg : z_ag (z_tch [] []) g0 g) : z_Fr (z_tch [] []) g0 (fY_X6_choose_29 s0 g) := by
  unfold fY_X6_choose_29
  exact fr_some hg
theorem frY_X6_choose (a0 : Int32) (g : z_G) : z_Fr (z_tch [] []) g (fY_X6_choose a0 g) := by
  have hg : z_ag (z_tch [] []) g g := fr_rf
  unfold fY_X6_choose
  refine fr_bind (frY_X6_ripeOnes g) (z_tch_sub rfl) hg (fun r1 g2 hg2 => ?_)
  refine fr_bind (frY_X6_fewestOf r1 a0 g2) (z_tch_sub rfl) hg2 (fun r4 g5 hg5 => ?_)
  refine fr_ite ?_ ?_
  · exact frY_X6_choose_29 (-3) g5 hg5
  · refine fr_bind (frY_X6_leastOf r1 r4 a0 g5) (z_tch_sub rfl) hg5 (fun r8 g9 hg9 => ?_)
    exact frY_X6_choose_29 r8 g9 hg9
theorem frY_X3_next_24 {g0 : z_G} (s0 : Int32) (g : z_G) (hg : z_ag (z_tch [] []) g0 g) : z_Fr (z_tch [] []) g0 (fY_X3_next_24 s0 g) := by
  unfold fY_X3_next_24
  exact fr_some hg
theorem frY_X3_next (g : z_G) : z_Fr (z_tch [] []) g (fY_X3_next g) := by
  have hg : z_ag (z_tch [] []) g g := fr_rf
  unfold fY_X3_next
  refine fr_ite ?_ ?_
  · exact frY_X3_next_24 (-1) g hg
  · refine fr_bind (frY_X5_signAt (g 6 2) g) (z_tch_sub rfl) hg (fun r2 g3 hg3 => ?_)
    exact frY_X3_next_24 r2 g3 hg3
theorem frY_X3_readNumber_74 {g0 : z_G} (s0 : Int32) (g : z_G) (hg : z_ag (z_tch [] [(6, 2), (6, 3)]) g0 g) : z_Fr (z_tch [] [(6, 2), (6, 3)]) g0 (fY_X3_readNumber_74 s0 g) := by
  unfold fY_X3_readNumber_74
  refine fr_bo ?_
  exact fr_some hg
theorem frY_X3_readNumber_65 {g0 : z_G} (x1 : Int32) (g : z_G) (hg : z_ag (z_tch [] [(6, 2), (6, 3)]) g0 g) : z_Fr (z_tch [] [(6, 2), (6, 3)]) g0 (fY_X3_readNumber_65 x1 g) := by
  unfold fY_X3_readNumber_65
  refine fr_ite ?_ ?_
  · exact frY_X3_readNumber_74 0 g hg
  · exact frY_X3_readNumber_74 1 g hg
theorem frY_X3_readNumber_7 {g0 : z_G} (k7 : Int32 × z_G → Option (Int32 × z_G)) (hk7 : ∀ w, z_ag (z_tch [] [(6, 2), (6, 3)]) g0 w.2 → z_Fr (z_tch [] [(6, 2), (6, 3)]) g0 (k7 w)) (x1 : Int32) (g : z_G) (hg : z_ag (z_tch [] [(6, 2), (6, 3)]) g0 g) : z_Fr (z_tch [] [(6, 2), (6, 3)]) g0 (fY_X3_readNumber_7 k7 x1 g) := by
  unfold fY_X3_readNumber_7
  refine fr_ite ?_ ?_
  · exact frY_X3_readNumber_65 x1 g hg
  · refine fr_bind (frY_X3_next g) (z_tch_sub rfl) hg (fun r3 g4 hg4 => ?_)
    refine fr_ite ?_ ?_
    · exact frY_X3_readNumber_65 x1 g4 hg4
    · refine fr_bind (frY_X3_next g4) (z_tch_sub rfl) hg4 (fun r7 g8 hg8 => ?_)
      refine fr_ite ?_ ?_
      · exact frY_X3_readNumber_65 x1 g8 hg8
      · refine fr_bind (frY_X3_next g8) (z_tch_sub rfl) hg8 (fun r11 g12 hg12 => ?_)
        refine fr_letG (fr_up hg12 rfl) (fun g14 hg14 => ?_)
        refine fr_letG (fr_up hg14 rfl) (fun g15 hg15 => ?_)
        refine fr_letI (fun y16 => ?_)
        exact hk7 (y16, g15) hg15
theorem frY_X3_readNumber_7_go {g0 : z_G} (x1 : Int32) (g : z_G) (hg : z_ag (z_tch [] [(6, 2), (6, 3)]) g0 g) : z_Fr (z_tch [] [(6, 2), (6, 3)]) g0 (fY_X3_readNumber_7_go x1 g) := by
  refine fr_loop (P := fun w : Int32 × z_G => z_ag (z_tch [] [(6, 2), (6, 3)]) g0 w.2) (fun k hk w hw => ?_) z_fuel (x1, g) hg
  exact frY_X3_readNumber_7 k hk w.1 w.2 hw
theorem frY_X3_readNumber (g : z_G) : z_Fr (z_tch [] [(6, 2), (6, 3)]) g (fY_X3_readNumber g) := by
  have hg : z_ag (z_tch [] [(6, 2), (6, 3)]) g g := fr_rf
  unfold fY_X3_readNumber
  refine fr_letG (fr_up hg rfl) (fun g17 hg17 => ?_)
  exact frY_X3_readNumber_7_go 0 g17 hg17
theorem frY_X3_take (a0 : Int32) (g : z_G) : z_Fr (z_tch [] [(6, 2)]) g (fY_X3_take a0 g) := by
  have hg : z_ag (z_tch [] [(6, 2)]) g g := fr_rf
  unfold fY_X3_take
  refine fr_bind (frY_X3_next g) (z_tch_sub rfl) hg (fun r1 g2 hg2 => ?_)
  refine fr_ite ?_ ?_
  · refine fr_letG (fr_up hg2 rfl) (fun g5 hg5 => ?_)
    refine fr_bo ?_
    exact fr_some hg5
  · refine fr_bo ?_
    exact fr_some hg2
theorem frY_X3_readAsk_64 {g0 : z_G} (g : z_G) (hg : z_ag (z_tch [38, 40, 41, 42] [(6, 2), (6, 3)]) g0 g) : z_Fr (z_tch [38, 40, 41, 42] [(6, 2), (6, 3)]) g0 (fY_X3_readAsk_64 g) := by
  unfold fY_X3_readAsk_64
  refine fr_bo ?_
  exact fr_some hg
theorem frY_X3_readAsk_57 {g0 : z_G} (x1 : Int32) (x2 : Int32) (x3 : Int32) (g : z_G) (hg : z_ag (z_tch [38, 40, 41, 42] [(6, 2), (6, 3)]) g0 g) : z_Fr (z_tch [38, 40, 41, 42] [(6, 2), (6, 3)]) g0 (fY_X3_readAsk_57 x1 x2 x3 g) := by
  unfold fY_X3_readAsk_57
  refine fr_bind (frY_X3_readNumber g) (z_tch_sub rfl) hg (fun r1 g2 hg2 => ?_)
  refine fr_ite ?_ ?_
  · exact frY_X3_readAsk_64 g2 hg2
  · refine fr_bind (frY_X4_putAsk x1 x2 x3 (g2 6 3) g2) (z_tch_sub rfl) hg2 (fun r5 g6 hg6 => ?_)
    refine fr_bo ?_
    exact fr_some hg6
theorem frY_X3_readAsk (a0 : Int32) (g : z_G) : z_Fr (z_tch [38, 40, 41, 42] [(6, 2), (6, 3)]) g (fY_X3_readAsk a0 g) := by
  have hg : z_ag (z_tch [38, 40, 41, 42] [(6, 2), (6, 3)]) g g := fr_rf
  unfold fY_X3_readAsk
  refine fr_bind (frY_X3_next g) (z_tch_sub rfl) hg (fun r8 g9 hg9 => ?_)
  refine fr_bind (frY_X4_letterOf r8 g9) (z_tch_sub rfl) hg9 (fun r11 g12 hg12 => ?_)
  refine fr_ite ?_ ?_
  · refine fr_bo ?_
    exact fr_some hg12
  · refine fr_letG (fr_up hg12 rfl) (fun g15 hg15 => ?_)
    refine fr_bind (frY_X3_next g15) (z_tch_sub rfl) hg15 (fun r16 g17 hg17 => ?_)
    refine fr_bind (frY_X3_take 60 g17) (z_tch_sub rfl) hg17 (fun r19 g20 hg20 => ?_)
    refine fr_ite ?_ ?_
    · refine fr_bind (frY_X3_take 62 g20) (z_tch_sub rfl) hg20 (fun r23 g24 hg24 => ?_)
      refine fr_ite ?_ ?_
      · refine fr_bind (frY_X3_take 61 g24) (z_tch_sub rfl) hg24 (fun r27 g28 hg28 => ?_)
        refine fr_ite ?_ ?_
        · exact frY_X3_readAsk_64 g28 hg28
        · exact frY_X3_readAsk_57 a0 r11 r16 g28 hg28
      · exact frY_X3_readAsk_57 a0 r11 r16 g24 hg24
    · exact frY_X3_readAsk_57 a0 r11 r16 g20 hg20
theorem frY_X3_readAsks_2 {g0 : z_G} (k2 : Int32 × z_G → Option (Int32 × z_G)) (hk2 : ∀ w, z_ag (z_tch [38, 40, 41, 42] [(6, 2), (6, 3)]) g0 w.2 → z_Fr (z_tch [38, 40, 41, 42] [(6, 2), (6, 3)]) g0 (k2 w)) (x1 : Int32) (g : z_G) (hg : z_ag (z_tch [38, 40, 41, 42] [(6, 2), (6, 3)]) g0 g) : z_Fr (z_tch [38, 40, 41, 42] [(6, 2), (6, 3)]) g0 (fY_X3_readAsks_2 k2 x1 g) := by
  unfold fY_X3_readAsks_2
  refine fr_ite ?_ ?_
  · refine fr_bo ?_
    exact fr_some hg
  · refine fr_bind (frY_X3_readAsk x1 g) (z_tch_sub rfl) hg (fun r2 g3 hg3 => ?_)
    refine fr_ite ?_ ?_
    · refine fr_bo ?_
      exact fr_some hg3
    · refine fr_bind (frY_X3_take 38 g3) (z_tch_sub rfl) hg3 (fun r6 g7 hg7 => ?_)
      refine fr_ite ?_ ?_
      · refine fr_bo ?_
        exact fr_some hg7
      · refine fr_letI (fun y10 => ?_)
        exact hk2 (y10, g7) hg7
theorem frY_X3_readAsks_2_go {g0 : z_G} (x1 : Int32) (g : z_G) (hg : z_ag (z_tch [38, 40, 41, 42] [(6, 2), (6, 3)]) g0 g) : z_Fr (z_tch [38, 40, 41, 42] [(6, 2), (6, 3)]) g0 (fY_X3_readAsks_2_go x1 g) := by
  refine fr_loop (P := fun w : Int32 × z_G => z_ag (z_tch [38, 40, 41, 42] [(6, 2), (6, 3)]) g0 w.2) (fun k hk w hw => ?_) z_fuel (x1, g) hg
  exact frY_X3_readAsks_2 k hk w.1 w.2 hw
theorem frY_X3_readAsks (g : z_G) : z_Fr (z_tch [38, 40, 41, 42] [(6, 2), (6, 3)]) g (fY_X3_readAsks g) := by
  have hg : z_ag (z_tch [38, 40, 41, 42] [(6, 2), (6, 3)]) g g := fr_rf
  unfold fY_X3_readAsks
  exact frY_X3_readAsks_2_go 0 g hg
theorem frY_X3_readAct_75 {g0 : z_G} (x2 : Int32) (g : z_G) (hg : z_ag (z_tch [36, 37] [(6, 2), (6, 3)]) g0 g) : z_Fr (z_tch [36, 37] [(6, 2), (6, 3)]) g0 (fY_X3_readAct_75 x2 g) := by
  unfold fY_X3_readAct_75
  refine fr_bo ?_
  exact fr_some hg
theorem frY_X3_readAct_58 {g0 : z_G} (s0 : Int32) (x1 : Int32) (g : z_G) (hg : z_ag (z_tch [36, 37] [(6, 2), (6, 3)]) g0 g) : z_Fr (z_tch [36, 37] [(6, 2), (6, 3)]) g0 (fY_X3_readAct_58 s0 x1 g) := by
  unfold fY_X3_readAct_58
  refine fr_ite ?_ ?_
  · exact frY_X3_readAct_75 s0 g hg
  · refine fr_bind (frY_X4_putAct x1 (g 6 3) g) (z_tch_sub rfl) hg (fun r2 g3 hg3 => ?_)
    exact frY_X3_readAct_75 s0 g3 hg3
theorem frY_X3_readAct_53 {g0 : z_G} (x1 : Int32) (g : z_G) (hg : z_ag (z_tch [36, 37] [(6, 2), (6, 3)]) g0 g) : z_Fr (z_tch [36, 37] [(6, 2), (6, 3)]) g0 (fY_X3_readAct_53 x1 g) := by
  unfold fY_X3_readAct_53
  exact frY_X3_readAct_58 1 x1 g hg
theorem frY_X3_readAct_57 {g0 : z_G} (x1 : Int32) (g : z_G) (hg : z_ag (z_tch [36, 37] [(6, 2), (6, 3)]) g0 g) : z_Fr (z_tch [36, 37] [(6, 2), (6, 3)]) g0 (fY_X3_readAct_57 x1 g) := by
  unfold fY_X3_readAct_57
  exact frY_X3_readAct_58 0 x1 g hg
theorem frY_X3_readAct_46 {g0 : z_G} (x1 : Int32) (g : z_G) (hg : z_ag (z_tch [36, 37] [(6, 2), (6, 3)]) g0 g) : z_Fr (z_tch [36, 37] [(6, 2), (6, 3)]) g0 (fY_X3_readAct_46 x1 g) := by
  unfold fY_X3_readAct_46
  refine fr_bind (frY_X3_readNumber g) (z_tch_sub rfl) hg (fun r5 g6 hg6 => ?_)
  refine fr_ite ?_ ?_
  · exact frY_X3_readAct_57 x1 g6 hg6
  · exact frY_X3_readAct_53 x1 g6 hg6
theorem frY_X3_readAct (g : z_G) : z_Fr (z_tch [36, 37] [(6, 2), (6, 3)]) g (fY_X3_readAct g) := by
  have hg : z_ag (z_tch [36, 37] [(6, 2), (6, 3)]) g g := fr_rf
  unfold fY_X3_readAct
  refine fr_bind (frY_X3_next g) (z_tch_sub rfl) hg (fun r9 g10 hg10 => ?_)
  refine fr_letG (fr_up hg10 rfl) (fun g12 hg12 => ?_)
  refine fr_bind (frY_X3_take 94 g12) (z_tch_sub rfl) hg12 (fun r13 g14 hg14 => ?_)
  refine fr_ite ?_ ?_
  · refine fr_bind (frY_X3_take 126 g14) (z_tch_sub rfl) hg14 (fun r17 g18 hg18 => ?_)
    refine fr_ite ?_ ?_
    · refine fr_bind (frY_X3_take 43 g18) (z_tch_sub rfl) hg18 (fun r21 g22 hg22 => ?_)
      refine fr_ite ?_ ?_
      · refine fr_bind (frY_X3_take 45 g22) (z_tch_sub rfl) hg22 (fun r25 g26 hg26 => ?_)
        refine fr_ite ?_ ?_
        · exact frY_X3_readAct_57 r9 g26 hg26
        · exact frY_X3_readAct_46 r9 g26 hg26
      · exact frY_X3_readAct_46 r9 g22 hg22
    · exact frY_X3_readAct_53 r9 g18 hg18
  · exact frY_X3_readAct_53 r9 g14 hg14
theorem frY_X3_findFault_70 {g0 : z_G} (s0 : Int32) (g : z_G) (hg : z_ag (z_tch [36, 37, 38, 40, 41, 42] [(6, 2), (6, 3)]) g0 g) : z_Fr (z_tch [36, 37, 38, 40, 41, 42] [(6, 2), (6, 3)]) g0 (fY_X3_findFault_70 s0 g) := by
  unfold fY_X3_findFault_70
  exact fr_some hg
theorem frY_X3_findFault_57 {g0 : z_G} (s0 : Int32) (g : z_G) (hg : z_ag (z_tch [36, 37, 38, 40, 41, 42] [(6, 2), (6, 3)]) g0 g) : z_Fr (z_tch [36, 37, 38, 40, 41, 42] [(6, 2), (6, 3)]) g0 (fY_X3_findFault_57 s0 g) := by
  unfold fY_X3_findFault_57
  refine fr_ite ?_ ?_
  · exact frY_X3_findFault_70 (g 6 2) g hg
  · exact frY_X3_findFault_70 (-1) g hg
theorem frY_X3_findFault_56 {g0 : z_G} (g : z_G) (hg : z_ag (z_tch [36, 37, 38, 40, 41, 42] [(6, 2), (6, 3)]) g0 g) : z_Fr (z_tch [36, 37, 38, 40, 41, 42] [(6, 2), (6, 3)]) g0 (fY_X3_findFault_56 g) := by
  unfold fY_X3_findFault_56
  exact frY_X3_findFault_57 0 g hg
theorem frY_X3_findFault (g : z_G) : z_Fr (z_tch [36, 37, 38, 40, 41, 42] [(6, 2), (6, 3)]) g (fY_X3_findFault g) := by
  have hg : z_ag (z_tch [36, 37, 38, 40, 41, 42] [(6, 2), (6, 3)]) g g := fr_rf
  unfold fY_X3_findFault
  refine fr_letG (fr_up hg rfl) (fun g2 hg2 => ?_)
  refine fr_bind (frY_X4_isFull g2) (z_tch_sub rfl) hg2 (fun r3 g4 hg4 => ?_)
  refine fr_ite ?_ ?_
  · refine fr_bind (frY_X3_readAsks g4) (z_tch_sub rfl) hg4 (fun r7 g8 hg8 => ?_)
    refine fr_ite ?_ ?_
    · exact frY_X3_findFault_56 g8 hg8
    · refine fr_bind (frY_X3_take 58 g8) (z_tch_sub rfl) hg8 (fun r11 g12 hg12 => ?_)
      refine fr_ite ?_ ?_
      · exact frY_X3_findFault_56 g12 hg12
      · refine fr_bind (frY_X3_readAct g12) (z_tch_sub rfl) hg12 (fun r15 g16 hg16 => ?_)
        refine fr_ite ?_ ?_
        · exact frY_X3_findFault_56 g16 hg16
        · refine fr_ite ?_ ?_
          · exact frY_X3_findFault_57 1 g16 hg16
          · exact frY_X3_findFault_56 g16 hg16
  · exact frY_X3_findFault_56 g4 hg4
theorem frY_X2_isKind_17 {g0 : z_G} (s0 : Int32) (g : z_G) (hg : z_ag (z_tch [] []) g0 g) : z_Fr (z_tch [] []) g0 (fY_X2_isKind_17 s0 g) := by
  unfold fY_X2_isKind_17
  refine fr_bo ?_
  exact fr_some hg
theorem frY_X2_isKind_16 {g0 : z_G} (g : z_G) (hg : z_ag (z_tch [] []) g0 g) : z_Fr (z_tch [] []) g0 (fY_X2_isKind_16 g) := by
  unfold fY_X2_isKind_16
  exact frY_X2_isKind_17 0 g hg
theorem frY_X2_isKind (a0 : Int32) (g : z_G) : z_Fr (z_tch [] []) g (fY_X2_isKind a0 g) := by
  have hg : z_ag (z_tch [] []) g g := fr_rf
  unfold fY_X2_isKind
  refine fr_ite ?_ ?_
  · exact frY_X2_isKind_16 g hg
  · refine fr_ite ?_ ?_
    · exact frY_X2_isKind_16 g hg
    · exact frY_X2_isKind_17 1 g hg
theorem frY_X2_holds_29 {g0 : z_G} (s0 : Int32) (g : z_G) (hg : z_ag (z_tch [] []) g0 g) : z_Fr (z_tch [] []) g0 (fY_X2_holds_29 s0 g) := by
  unfold fY_X2_holds_29
  refine fr_bo ?_
  exact fr_some hg
theorem frY_X2_holds_28 {g0 : z_G} (g : z_G) (hg : z_ag (z_tch [] []) g0 g) : z_Fr (z_tch [] []) g0 (fY_X2_holds_28 g) := by
  unfold fY_X2_holds_28
  exact frY_X2_holds_29 0 g hg
theorem frY_X2_holds (a0 : Int32) (a1 : Int32) (g : z_G) : z_Fr (z_tch [] []) g (fY_X2_holds a0 a1 g) := by
  have hg : z_ag (z_tch [] []) g g := fr_rf
  unfold fY_X2_holds
  refine fr_ite ?_ ?_
  · exact frY_X2_holds_28 g hg
  · refine fr_ite ?_ ?_
    · exact frY_X2_holds_28 g hg
    · refine fr_ite ?_ ?_
      · exact frY_X2_holds_28 g hg
      · refine fr_ite ?_ ?_
        · exact frY_X2_holds_28 g hg
        · exact frY_X2_holds_29 1 g hg
theorem frY_X2_at (a0 : Int32) (a1 : Int32) (g : z_G) : z_Fr (z_tch [] []) g (fY_X2_at a0 a1 g) := by
  have hg : z_ag (z_tch [] []) g g := fr_rf
  unfold fY_X2_at
  exact fr_some hg
theorem frY_X2_isOutsideAt_28 {g0 : z_G} (s0 : Int32) (g : z_G) (hg : z_ag (z_tch [] []) g0 g) : z_Fr (z_tch [] []) g0 (fY_X2_isOutsideAt_28 s0 g) := by
  unfold fY_X2_isOutsideAt_28
  refine fr_bo ?_
  exact fr_some hg
theorem frY_X2_isOutsideAt_27 {g0 : z_G} (g : z_G) (hg : z_ag (z_tch [] []) g0 g) : z_Fr (z_tch [] []) g0 (fY_X2_isOutsideAt_27 g) := by
  unfold fY_X2_isOutsideAt_27
  exact frY_X2_isOutsideAt_28 0 g hg
theorem frY_X2_isOutsideAt (a0 : Int32) (a1 : Int32) (g : z_G) : z_Fr (z_tch [] []) g (fY_X2_isOutsideAt a0 a1 g) := by
  have hg : z_ag (z_tch [] []) g g := fr_rf
  unfold fY_X2_isOutsideAt
  refine fr_bind (frY_X2_holds a0 a1 g) (z_tch_sub rfl) hg (fun r1 g2 hg2 => ?_)
  refine fr_ite ?_ ?_
  · exact frY_X2_isOutsideAt_27 g2 hg2
  · refine fr_bind (frY_X2_at a0 a1 g2) (z_tch_sub rfl) hg2 (fun r5 g6 hg6 => ?_)
    refine fr_ck ?_
    refine fr_ite ?_ ?_
    · exact frY_X2_isOutsideAt_27 g6 hg6
    · exact frY_X2_isOutsideAt_28 1 g6 hg6
theorem frY_X2_dampOf_30 {g0 : z_G} (s0 : Int32) (g : z_G) (hg : z_ag (z_tch [] []) g0 g) : z_Fr (z_tch [] []) g0 (fY_X2_dampOf_30 s0 g) := by
  unfold fY_X2_dampOf_30
  exact fr_some hg
theorem frY_X2_dampOf (a0 : Int32) (g : z_G) : z_Fr (z_tch [] []) g (fY_X2_dampOf a0 g) := by
  have hg : z_ag (z_tch [] []) g g := fr_rf
  unfold fY_X2_dampOf
  refine fr_ck ?_
  refine fr_ite ?_ ?_
  · exact frY_X2_dampOf_30 0 g hg
  · refine fr_ck ?_
    refine fr_ck ?_
    refine fr_ck ?_
    exact frY_X2_dampOf_30 ((kDAMP (Int32.toNatClampNeg (g 18 (Int32.toNatClampNeg a0)))) * (g 8 (Int32.toNatClampNeg a0))) g hg
theorem frY_X2_backToLaid_12 {g0 : z_G} (k12 : Int32 × z_G → Option (Int32 × z_G)) (hk12 : ∀ w, z_ag (z_tch [10, 11, 12, 13, 14, 15, 16, 19] [(1, 2), (1, 3)]) g0 w.2 → z_Fr (z_tch [10, 11, 12, 13, 14, 15, 16, 19] [(1, 2), (1, 3)]) g0 (k12 w)) (x1 : Int32) (g : z_G) (hg : z_ag (z_tch [10, 11, 12, 13, 14, 15, 16, 19] [(1, 2), (1, 3)]) g0 g) : z_Fr (z_tch [10, 11, 12, 13, 14, 15, 16, 19] [(1, 2), (1, 3)]) g0 (fY_X2_backToLaid_12 k12 x1 g) := by
  unfold fY_X2_backToLaid_12
  refine fr_ite ?_ ?_
  · exact fr_some hg
  · refine fr_ck ?_
    refine fr_ck ?_
    refine fr_letG (fr_up hg (z_tch_row rfl _)) (fun g4 hg4 => ?_)
    refine fr_ck ?_
    refine fr_letG (fr_up hg4 (z_tch_row rfl _)) (fun g6 hg6 => ?_)
    refine fr_bind (frY_X2_dampOf x1 g6) (z_tch_sub rfl) hg6 (fun r7 g8 hg8 => ?_)
    refine fr_ck ?_
    refine fr_letG (fr_up hg8 (z_tch_row rfl _)) (fun g11 hg11 => ?_)
    refine fr_ck ?_
    refine fr_letG (fr_up hg11 (z_tch_row rfl _)) (fun g13 hg13 => ?_)
    refine fr_ck ?_
    refine fr_letG (fr_up hg13 (z_tch_row rfl _)) (fun g15 hg15 => ?_)
    refine fr_ck ?_
    refine fr_ck ?_
    refine fr_letG (fr_up hg15 (z_tch_row rfl _)) (fun g18 hg18 => ?_)
    refine fr_ck ?_
    refine fr_letG (fr_up hg18 (z_tch_row rfl _)) (fun g20 hg20 => ?_)
    refine fr_ck ?_
    refine fr_letG (fr_up hg20 (z_tch_row rfl _)) (fun g22 hg22 => ?_)
    refine fr_letI (fun y23 => ?_)
    exact hk12 (y23, g22) hg22
theorem frY_X2_backToLaid_12_go {g0 : z_G} (x1 : Int32) (g : z_G) (hg : z_ag (z_tch [10, 11, 12, 13, 14, 15, 16, 19] [(1, 2), (1, 3)]) g0 g) : z_Fr (z_tch [10, 11, 12, 13, 14, 15, 16, 19] [(1, 2), (1, 3)]) g0 (fY_X2_backToLaid_12_go x1 g) := by
  refine fr_loop (P := fun w : Int32 × z_G => z_ag (z_tch [10, 11, 12, 13, 14, 15, 16, 19] [(1, 2), (1, 3)]) g0 w.2) (fun k hk w hw => ?_) z_fuel (x1, g) hg
  exact frY_X2_backToLaid_12 k hk w.1 w.2 hw
theorem frY_X2_backToLaid (g : z_G) : z_Fr (z_tch [10, 11, 12, 13, 14, 15, 16, 19] [(1, 2), (1, 3)]) g (fY_X2_backToLaid g) := by
  have hg : z_ag (z_tch [10, 11, 12, 13, 14, 15, 16, 19] [(1, 2), (1, 3)]) g g := fr_rf
  unfold fY_X2_backToLaid
  refine fr_letG (fr_up hg rfl) (fun g24 hg24 => ?_)
  refine fr_letG (fr_up hg24 rfl) (fun g25 hg25 => ?_)
  exact frY_X2_backToLaid_12_go 0 g25 hg25
theorem frY_J7_fill_53178_r17_5 {g0 : z_G} (k5 : Int32 × Int32 × Int32 × z_G → Option (Int32 × z_G)) (hk5 : ∀ w, z_ag (z_tch [17] []) g0 w.2.2.2 → z_Fr (z_tch [17] []) g0 (k5 w)) (x1 : Int32) (x2 : Int32) (x3 : Int32) (g : z_G) (hg : z_ag (z_tch [17] []) g0 g) : z_Fr (z_tch [17] []) g0 (fY_J7_fill_53178_r17_5 k5 x1 x2 x3 g) := by
  unfold fY_J7_fill_53178_r17_5
  refine fr_ite ?_ ?_
  · exact fr_some hg
  · refine fr_ck ?_
    refine fr_letG (fr_up hg (z_tch_row rfl _)) (fun g3 hg3 => ?_)
    refine fr_letI (fun y4 => ?_)
    exact hk5 (x1, y4, x3, g3) hg3
theorem frY_J7_fill_53178_r17_5_go {g0 : z_G} (x1 : Int32) (x2 : Int32) (x3 : Int32) (g : z_G) (hg : z_ag (z_tch [17] []) g0 g) : z_Fr (z_tch [17] []) g0 (fY_J7_fill_53178_r17_5_go x1 x2 x3 g) := by
  refine fr_loop (P := fun w : Int32 × Int32 × Int32 × z_G => z_ag (z_tch [17] []) g0 w.2.2.2) (fun k hk w hw => ?_) z_fuel (x1, x2, x3, g) hg
  exact frY_J7_fill_53178_r17_5 k hk w.1 w.2.1 w.2.2.1 w.2.2.2 hw
theorem frY_J7_fill_53178_r17 (a1 : Int32) (g : z_G) : z_Fr (z_tch [17] []) g (fY_J7_fill_53178_r17 a1 g) := by
  have hg : z_ag (z_tch [17] []) g g := fr_rf
  unfold fY_J7_fill_53178_r17
  exact frY_J7_fill_53178_r17_5_go a1 0 64 g hg
theorem frY_J7_fill_53178_r18_5 {g0 : z_G} (k5 : Int32 × Int32 × Int32 × z_G → Option (Int32 × z_G)) (hk5 : ∀ w, z_ag (z_tch [18] []) g0 w.2.2.2 → z_Fr (z_tch [18] []) g0 (k5 w)) (x1 : Int32) (x2 : Int32) (x3 : Int32) (g : z_G) (hg : z_ag (z_tch [18] []) g0 g) : z_Fr (z_tch [18] []) g0 (fY_J7_fill_53178_r18_5 k5 x1 x2 x3 g) := by
  unfold fY_J7_fill_53178_r18_5
  refine fr_ite ?_ ?_
  · exact fr_some hg
  · refine fr_ck ?_
    refine fr_letG (fr_up hg (z_tch_row rfl _)) (fun g3 hg3 => ?_)
    refine fr_letI (fun y4 => ?_)
    exact hk5 (x1, y4, x3, g3) hg3
theorem frY_J7_fill_53178_r18_5_go {g0 : z_G} (x1 : Int32) (x2 : Int32) (x3 : Int32) (g : z_G) (hg : z_ag (z_tch [18] []) g0 g) : z_Fr (z_tch [18] []) g0 (fY_J7_fill_53178_r18_5_go x1 x2 x3 g) := by
  refine fr_loop (P := fun w : Int32 × Int32 × Int32 × z_G => z_ag (z_tch [18] []) g0 w.2.2.2) (fun k hk w hw => ?_) z_fuel (x1, x2, x3, g) hg
  exact frY_J7_fill_53178_r18_5 k hk w.1 w.2.1 w.2.2.1 w.2.2.2 hw
theorem frY_J7_fill_53178_r18 (a1 : Int32) (g : z_G) : z_Fr (z_tch [18] []) g (fY_J7_fill_53178_r18 a1 g) := by
  have hg : z_ag (z_tch [18] []) g g := fr_rf
  unfold fY_J7_fill_53178_r18
  exact frY_J7_fill_53178_r18_5_go a1 0 64 g hg
theorem frY_J7_fill_53178_r20_5 {g0 : z_G} (k5 : Int32 × Int32 × Int32 × z_G → Option (Int32 × z_G)) (hk5 : ∀ w, z_ag (z_tch [20] []) g0 w.2.2.2 → z_Fr (z_tch [20] []) g0 (k5 w)) (x1 : Int32) (x2 : Int32) (x3 : Int32) (g : z_G) (hg : z_ag (z_tch [20] []) g0 g) : z_Fr (z_tch [20] []) g0 (fY_J7_fill_53178_r20_5 k5 x1 x2 x3 g) := by
  unfold fY_J7_fill_53178_r20_5
  refine fr_ite ?_ ?_
  · exact fr_some hg
  · refine fr_ck ?_
    refine fr_letG (fr_up hg (z_tch_row rfl _)) (fun g3 hg3 => ?_)
    refine fr_letI (fun y4 => ?_)
    exact hk5 (x1, y4, x3, g3) hg3
theorem frY_J7_fill_53178_r20_5_go {g0 : z_G} (x1 : Int32) (x2 : Int32) (x3 : Int32) (g : z_G) (hg : z_ag (z_tch [20] []) g0 g) : z_Fr (z_tch [20] []) g0 (fY_J7_fill_53178_r20_5_go x1 x2 x3 g) := by
  refine fr_loop (P := fun w : Int32 × Int32 × Int32 × z_G => z_ag (z_tch [20] []) g0 w.2.2.2) (fun k hk w hw => ?_) z_fuel (x1, x2, x3, g) hg
  exact frY_J7_fill_53178_r20_5 k hk w.1 w.2.1 w.2.2.1 w.2.2.2 hw
theorem frY_J7_fill_53178_r20 (a1 : Int32) (g : z_G) : z_Fr (z_tch [20] []) g (fY_J7_fill_53178_r20 a1 g) := by
  have hg : z_ag (z_tch [20] []) g g := fr_rf
  unfold fY_J7_fill_53178_r20
  exact frY_J7_fill_53178_r20_5_go a1 0 64 g hg
theorem frY_X2_build_116 {g0 : z_G} (k54 : Int32 × Int32 × z_G → Option (Int32 × z_G)) (hk54 : ∀ w, z_ag (z_tch [8, 9, 10, 11, 12, 13, 14, 15, 16, 17, 18, 19, 20] [(1, 0), (1, 1), (1, 2), (1, 3), (1, 4)]) g0 w.2.2 → z_Fr (z_tch [8, 9, 10, 11, 12, 13, 14, 15, 16, 17, 18, 19, 20] [(1, 0), (1, 1), (1, 2), (1, 3), (1, 4)]) g0 (k54 w)) (s0 : Int32) (s1 : Int32) (x3 : Int32) (x4 : Int32) (g : z_G) (hg : z_ag (z_tch [8, 9, 10, 11, 12, 13, 14, 15, 16, 17, 18, 19, 20] [(1, 0), (1, 1), (1, 2), (1, 3), (1, 4)]) g0 g) : z_Fr (z_tch [8, 9, 10, 11, 12, 13, 14, 15, 16, 17, 18, 19, 20] [(1, 0), (1, 1), (1, 2), (1, 3), (1, 4)]) g0 (fY_X2_build_116 k54 s0 s1 x3 x4 g) := by
  unfold fY_X2_build_116
  refine fr_ck ?_
  refine fr_letG (fr_up hg (z_tch_row rfl _)) (fun g2 hg2 => ?_)
  refine fr_letI (fun y3 => ?_)
  exact hk54 (x3, y3, g2) hg2
theorem frY_X2_build_111 {g0 : z_G} (k54 : Int32 × Int32 × z_G → Option (Int32 × z_G)) (hk54 : ∀ w, z_ag (z_tch [8, 9, 10, 11, 12, 13, 14, 15, 16, 17, 18, 19, 20] [(1, 0), (1, 1), (1, 2), (1, 3), (1, 4)]) g0 w.2.2 → z_Fr (z_tch [8, 9, 10, 11, 12, 13, 14, 15, 16, 17, 18, 19, 20] [(1, 0), (1, 1), (1, 2), (1, 3), (1, 4)]) g0 (k54 w)) (s0 : Int32) (x3 : Int32) (x4 : Int32) (g : z_G) (hg : z_ag (z_tch [8, 9, 10, 11, 12, 13, 14, 15, 16, 17, 18, 19, 20] [(1, 0), (1, 1), (1, 2), (1, 3), (1, 4)]) g0 g) : z_Fr (z_tch [8, 9, 10, 11, 12, 13, 14, 15, 16, 17, 18, 19, 20] [(1, 0), (1, 1), (1, 2), (1, 3), (1, 4)]) g0 (fY_X2_build_111 k54 s0 x3 x4 g) := by
  unfold fY_X2_build_111
  exact frY_X2_build_116 k54 hk54 1 s0 x3 x4 g hg
theorem frY_X2_build_54 {g0 : z_G} (k43 : Int32 × z_G → Option (Int32 × z_G)) (hk43 : ∀ w, z_ag (z_tch [8, 9, 10, 11, 12, 13, 14, 15, 16, 17, 18, 19, 20] [(1, 0), (1, 1), (1, 2), (1, 3), (1, 4)]) g0 w.2 → z_Fr (z_tch [8, 9, 10, 11, 12, 13, 14, 15, 16, 17, 18, 19, 20] [(1, 0), (1, 1), (1, 2), (1, 3), (1, 4)]) g0 (k43 w)) (k54 : Int32 × Int32 × z_G → Option (Int32 × z_G)) (hk54 : ∀ w, z_ag (z_tch [8, 9, 10, 11, 12, 13, 14, 15, 16, 17, 18, 19, 20] [(1, 0), (1, 1), (1, 2), (1, 3), (1, 4)]) g0 w.2.2 → z_Fr (z_tch [8, 9, 10, 11, 12, 13, 14, 15, 16, 17, 18, 19, 20] [(1, 0), (1, 1), (1, 2), (1, 3), (1, 4)]) g0 (k54 w)) (x3 : Int32) (x4 : Int32) (g : z_G) (hg : z_ag (z_tch [8, 9, 10, 11, 12, 13, 14, 15, 16, 17, 18, 19, 20] [(1, 0), (1, 1), (1, 2), (1, 3), (1, 4)]) g0 g) : z_Fr (z_tch [8, 9, 10, 11, 12, 13, 14, 15, 16, 17, 18, 19, 20] [(1, 0), (1, 1), (1, 2), (1, 3), (1, 4)]) g0 (fY_X2_build_54 k43 k54 x3 x4 g) := by
  unfold fY_X2_build_54
  refine fr_ite ?_ ?_
  · refine fr_letI (fun y5 => ?_)
    exact hk43 (y5, g) hg
  · refine fr_bind (frY_X2_at x3 x4 g) (z_tch_sub rfl) hg (fun r6 g7 hg7 => ?_)
    refine fr_ck ?_
    refine fr_letG (fr_up hg7 (z_tch_row rfl _)) (fun g10 hg10 => ?_)
    refine fr_ite ?_ ?_
    · exact frY_X2_build_111 k54 hk54 r6 x3 x4 g10 hg10
    · refine fr_ite ?_ ?_
      · exact frY_X2_build_111 k54 hk54 r6 x3 x4 g10 hg10
      · exact frY_X2_build_116 k54 hk54 0 r6 x3 x4 g10 hg10
theorem frY_X2_build_54_go {g0 : z_G} (k43 : Int32 × z_G → Option (Int32 × z_G)) (hk43 : ∀ w, z_ag (z_tch [8, 9, 10, 11, 12, 13, 14, 15, 16, 17, 18, 19, 20] [(1, 0), (1, 1), (1, 2), (1, 3), (1, 4)]) g0 w.2 → z_Fr (z_tch [8, 9, 10, 11, 12, 13, 14, 15, 16, 17, 18, 19, 20] [(1, 0), (1, 1), (1, 2), (1, 3), (1, 4)]) g0 (k43 w)) (x3 : Int32) (x4 : Int32) (g : z_G) (hg : z_ag (z_tch [8, 9, 10, 11, 12, 13, 14, 15, 16, 17, 18, 19, 20] [(1, 0), (1, 1), (1, 2), (1, 3), (1, 4)]) g0 g) : z_Fr (z_tch [8, 9, 10, 11, 12, 13, 14, 15, 16, 17, 18, 19, 20] [(1, 0), (1, 1), (1, 2), (1, 3), (1, 4)]) g0 (fY_X2_build_54_go k43 x3 x4 g) := by
  refine fr_loop (P := fun w : Int32 × Int32 × z_G => z_ag (z_tch [8, 9, 10, 11, 12, 13, 14, 15, 16, 17, 18, 19, 20] [(1, 0), (1, 1), (1, 2), (1, 3), (1, 4)]) g0 w.2.2) (fun k hk w hw => ?_) z_fuel (x3, x4, g) hg
  exact frY_X2_build_54 k43 hk43 k hk w.1 w.2.1 w.2.2 hw
theorem frY_X2_build_43 {g0 : z_G} (k43 : Int32 × z_G → Option (Int32 × z_G)) (hk43 : ∀ w, z_ag (z_tch [8, 9, 10, 11, 12, 13, 14, 15, 16, 17, 18, 19, 20] [(1, 0), (1, 1), (1, 2), (1, 3), (1, 4)]) g0 w.2 → z_Fr (z_tch [8, 9, 10, 11, 12, 13, 14, 15, 16, 17, 18, 19, 20] [(1, 0), (1, 1), (1, 2), (1, 3), (1, 4)]) g0 (k43 w)) (x3 : Int32) (g : z_G) (hg : z_ag (z_tch [8, 9, 10, 11, 12, 13, 14, 15, 16, 17, 18, 19, 20] [(1, 0), (1, 1), (1, 2), (1, 3), (1, 4)]) g0 g) : z_Fr (z_tch [8, 9, 10, 11, 12, 13, 14, 15, 16, 17, 18, 19, 20] [(1, 0), (1, 1), (1, 2), (1, 3), (1, 4)]) g0 (fY_X2_build_43 k43 x3 g) := by
  unfold fY_X2_build_43
  refine fr_ite ?_ ?_
  · refine fr_bind (frY_X2_backToLaid g) (z_tch_sub rfl) hg (fun r14 g15 hg15 => ?_)
    exact fr_some hg15
  · exact frY_X2_build_54_go k43 hk43 x3 0 g hg
theorem frY_X2_build_43_go {g0 : z_G} (x3 : Int32) (g : z_G) (hg : z_ag (z_tch [8, 9, 10, 11, 12, 13, 14, 15, 16, 17, 18, 19, 20] [(1, 0), (1, 1), (1, 2), (1, 3), (1, 4)]) g0 g) : z_Fr (z_tch [8, 9, 10, 11, 12, 13, 14, 15, 16, 17, 18, 19, 20] [(1, 0), (1, 1), (1, 2), (1, 3), (1, 4)]) g0 (fY_X2_build_43_go x3 g) := by
  refine fr_loop (P := fun w : Int32 × z_G => z_ag (z_tch [8, 9, 10, 11, 12, 13, 14, 15, 16, 17, 18, 19, 20] [(1, 0), (1, 1), (1, 2), (1, 3), (1, 4)]) g0 w.2) (fun k hk w hw => ?_) z_fuel (x3, g) hg
  exact frY_X2_build_43 k hk w.1 w.2 hw
theorem frY_X2_build (a0 : Int32) (a1 : Int32) (g : z_G) : z_Fr (z_tch [8, 9, 10, 11, 12, 13, 14, 15, 16, 17, 18, 19, 20] [(1, 0), (1, 1), (1, 2), (1, 3), (1, 4)]) g (fY_X2_build a0 a1 g) := by
  have hg : z_ag (z_tch [8, 9, 10, 11, 12, 13, 14, 15, 16, 17, 18, 19, 20] [(1, 0), (1, 1), (1, 2), (1, 3), (1, 4)]) g g := fr_rf
  unfold fY_X2_build
  refine fr_letG (fr_up hg rfl) (fun g17 hg17 => ?_)
  refine fr_letG (fr_up hg17 rfl) (fun g18 hg18 => ?_)
  refine fr_letG (fr_up hg18 rfl) (fun g19 hg19 => ?_)
  refine fr_bind (frY_J7_fill_53178_r17 0 g19) (z_tch_sub rfl) hg19 (fun r20 g21 hg21 => ?_)
  refine fr_bind (frY_J7_fill_53178_r18 0 g21) (z_tch_sub rfl) hg21 (fun r23 g24 hg24 => ?_)
  refine fr_bind (frY_J7_fill_53178_r20 5 g24) (z_tch_sub rfl) hg24 (fun r26 g27 hg27 => ?_)
  exact frY_X2_build_43_go 0 g27 hg27
theorem frY_X2_fill (a0 : Int32) (a1 : Int32) (g : z_G) : z_Fr (z_tch [10, 11, 12, 13, 17, 18] []) g (fY_X2_fill a0 a1 g) := by
  have hg : z_ag (z_tch [10, 11, 12, 13, 17, 18] []) g g := fr_rf
  unfold fY_X2_fill
  refine fr_ck ?_
  refine fr_letG (fr_up hg (z_tch_row rfl _)) (fun g2 hg2 => ?_)
  refine fr_ck ?_
  refine fr_ck ?_
  refine fr_letG (fr_up hg2 (z_tch_row rfl _)) (fun g5 hg5 => ?_)
  refine fr_ck ?_
  refine fr_ck ?_
  refine fr_letG (fr_up hg5 (z_tch_row rfl _)) (fun g8 hg8 => ?_)
  refine fr_bind (frY_X2_dampOf a0 g8) (z_tch_sub rfl) hg8 (fun r9 g10 hg10 => ?_)
  refine fr_ck ?_
  refine fr_letG (fr_up hg10 (z_tch_row rfl _)) (fun g13 hg13 => ?_)
  refine fr_ck ?_
  refine fr_letG (fr_up hg13 (z_tch_row rfl _)) (fun g15 hg15 => ?_)
  refine fr_ck ?_
  refine fr_letG (fr_up hg15 (z_tch_row rfl _)) (fun g17 hg17 => ?_)
  refine fr_ck ?_
  exact fr_some hg17
theorem frY_X2_keepCover (g : z_G) : z_Fr (z_tch [20] []) g (fY_X2_keepCover g) := by
  have hg : z_ag (z_tch [20] []) g g := fr_rf
  unfold fY_X2_keepCover
  refine fr_letG (fr_row hg (z_tch_row rfl)) (fun g1 hg1 => ?_)
  exact fr_some hg1
theorem frY_X2_setAlight (g : z_G) : z_Fr (z_tch [13, 14] []) g (fY_X2_setAlight g) := by
  have hg : z_ag (z_tch [13, 14] []) g g := fr_rf
  unfold fY_X2_setAlight
  refine fr_ck ?_
  refine fr_letG (fr_up hg (z_tch_row rfl _)) (fun g2 hg2 => ?_)
  refine fr_ck ?_
  refine fr_letG (fr_up hg2 (z_tch_row rfl _)) (fun g4 hg4 => ?_)
  exact fr_some hg4
theorem frY_X2_backToLight (g : z_G) : z_Fr (z_tch [10, 11, 12, 13, 14, 15, 16, 19] [(1, 2), (1, 3)]) g (fY_X2_backToLight g) := by
  have hg : z_ag (z_tch [10, 11, 12, 13, 14, 15, 16, 19] [(1, 2), (1, 3)]) g g := fr_rf
  unfold fY_X2_backToLight
  refine fr_bind (frY_X2_backToLaid g) (z_tch_sub rfl) hg (fun r1 g2 hg2 => ?_)
  refine fr_bind (frY_X2_setAlight g2) (z_tch_sub rfl) hg2 (fun r4 g5 hg5 => ?_)
  exact fr_some hg5
theorem frY_X2_spreadOutwards_64 {g0 : z_G} (k12 : Int32 × Int32 × z_G → Option (Int32 × z_G)) (hk12 : ∀ w, z_ag (z_tch [16] []) g0 w.2.2 → z_Fr (z_tch [16] []) g0 (k12 w)) (s0 : Int32) (x1 : Int32) (x2 : Int32) (x3 : Int32) (x4 : Int32) (g : z_G) (hg : z_ag (z_tch [16] []) g0 g) : z_Fr (z_tch [16] []) g0 (fY_X2_spreadOutwards_64 k12 s0 x1 x2 x3 x4 g) := by
  unfold fY_X2_spreadOutwards_64
  refine fr_ck ?_
  refine fr_letI (fun y2 => ?_)
  refine fr_letI (fun y3 => ?_)
  refine fr_ck ?_
  refine fr_letG (fr_up hg (z_tch_row rfl _)) (fun g5 hg5 => ?_)
  refine fr_letI (fun y6 => ?_)
  exact hk12 (x1, y6, g5) hg5
theorem frY_X2_spreadOutwards_43 {g0 : z_G} (k12 : Int32 × Int32 × z_G → Option (Int32 × z_G)) (hk12 : ∀ w, z_ag (z_tch [16] []) g0 w.2.2 → z_Fr (z_tch [16] []) g0 (k12 w)) (s0 : Int32) (x1 : Int32) (x2 : Int32) (x3 : Int32) (g : z_G) (hg : z_ag (z_tch [16] []) g0 g) : z_Fr (z_tch [16] []) g0 (fY_X2_spreadOutwards_43 k12 s0 x1 x2 x3 g) := by
  unfold fY_X2_spreadOutwards_43
  refine fr_ite ?_ ?_
  · exact frY_X2_spreadOutwards_64 k12 hk12 0 x1 x2 x3 s0 g hg
  · refine fr_ck ?_
    exact frY_X2_spreadOutwards_64 k12 hk12 (g 16 (Int32.toNatClampNeg (x3 - (g 1 1)))) x1 x2 x3 s0 g hg
theorem frY_X2_spreadOutwards_12 {g0 : z_G} (k2 : Int32 × z_G → Option (Int32 × z_G)) (hk2 : ∀ w, z_ag (z_tch [16] []) g0 w.2 → z_Fr (z_tch [16] []) g0 (k2 w)) (k12 : Int32 × Int32 × z_G → Option (Int32 × z_G)) (hk12 : ∀ w, z_ag (z_tch [16] []) g0 w.2.2 → z_Fr (z_tch [16] []) g0 (k12 w)) (x1 : Int32) (x2 : Int32) (g : z_G) (hg : z_ag (z_tch [16] []) g0 g) : z_Fr (z_tch [16] []) g0 (fY_X2_spreadOutwards_12 k2 k12 x1 x2 g) := by
  unfold fY_X2_spreadOutwards_12
  refine fr_ite ?_ ?_
  · refine fr_letI (fun y10 => ?_)
    exact hk2 (y10, g) hg
  · refine fr_bind (frY_X2_at x1 x2 g) (z_tch_sub rfl) hg (fun r11 g12 hg12 => ?_)
    refine fr_ite ?_ ?_
    · exact frY_X2_spreadOutwards_43 k12 hk12 0 x1 x2 r11 g12 hg12
    · refine fr_ck ?_
      exact frY_X2_spreadOutwards_43 k12 hk12 (g12 16 (Int32.toNatClampNeg (r11 - 1))) x1 x2 r11 g12 hg12
theorem frY_X2_spreadOutwards_12_go {g0 : z_G} (k2 : Int32 × z_G → Option (Int32 × z_G)) (hk2 : ∀ w, z_ag (z_tch [16] []) g0 w.2 → z_Fr (z_tch [16] []) g0 (k2 w)) (x1 : Int32) (x2 : Int32) (g : z_G) (hg : z_ag (z_tch [16] []) g0 g) : z_Fr (z_tch [16] []) g0 (fY_X2_spreadOutwards_12_go k2 x1 x2 g) := by
  refine fr_loop (P := fun w : Int32 × Int32 × z_G => z_ag (z_tch [16] []) g0 w.2.2) (fun k hk w hw => ?_) z_fuel (x1, x2, g) hg
  exact frY_X2_spreadOutwards_12 k2 hk2 k hk w.1 w.2.1 w.2.2 hw
theorem frY_X2_spreadOutwards_2 {g0 : z_G} (k2 : Int32 × z_G → Option (Int32 × z_G)) (hk2 : ∀ w, z_ag (z_tch [16] []) g0 w.2 → z_Fr (z_tch [16] []) g0 (k2 w)) (x1 : Int32) (g : z_G) (hg : z_ag (z_tch [16] []) g0 g) : z_Fr (z_tch [16] []) g0 (fY_X2_spreadOutwards_2 k2 x1 g) := by
  unfold fY_X2_spreadOutwards_2
  refine fr_ite ?_ ?_
  · exact fr_some hg
  · exact frY_X2_spreadOutwards_12_go k2 hk2 x1 0 g hg
theorem frY_X2_spreadOutwards_2_go {g0 : z_G} (x1 : Int32) (g : z_G) (hg : z_ag (z_tch [16] []) g0 g) : z_Fr (z_tch [16] []) g0 (fY_X2_spreadOutwards_2_go x1 g) := by
  refine fr_loop (P := fun w : Int32 × z_G => z_ag (z_tch [16] []) g0 w.2) (fun k hk w hw => ?_) z_fuel (x1, g) hg
  exact frY_X2_spreadOutwards_2 k hk w.1 w.2 hw
theorem frY_X2_spreadOutwards (g : z_G) : z_Fr (z_tch [16] []) g (fY_X2_spreadOutwards g) := by
  have hg : z_ag (z_tch [16] []) g g := fr_rf
  unfold fY_X2_spreadOutwards
  exact frY_X2_spreadOutwards_2_go 0 g hg
theorem frY_X2_spreadInwards_78 {g0 : z_G} (k18 : Int32 × Int32 × z_G → Option (Int32 × z_G)) (hk18 : ∀ w, z_ag (z_tch [16] []) g0 w.2.2 → z_Fr (z_tch [16] []) g0 (k18 w)) (s0 : Int32) (x1 : Int32) (x2 : Int32) (x3 : Int32) (x4 : Int32) (g : z_G) (hg : z_ag (z_tch [16] []) g0 g) : z_Fr (z_tch [16] []) g0 (fY_X2_spreadInwards_78 k18 s0 x1 x2 x3 x4 g) := by
  unfold fY_X2_spreadInwards_78
  refine fr_ck ?_
  refine fr_letI (fun y2 => ?_)
  refine fr_letI (fun y3 => ?_)
  refine fr_ck ?_
  refine fr_letG (fr_up hg (z_tch_row rfl _)) (fun g5 hg5 => ?_)
  refine fr_letI (fun y6 => ?_)
  exact hk18 (x1, y6, g5) hg5
theorem frY_X2_spreadInwards_51 {g0 : z_G} (k18 : Int32 × Int32 × z_G → Option (Int32 × z_G)) (hk18 : ∀ w, z_ag (z_tch [16] []) g0 w.2.2 → z_Fr (z_tch [16] []) g0 (k18 w)) (s0 : Int32) (x1 : Int32) (x2 : Int32) (x3 : Int32) (g : z_G) (hg : z_ag (z_tch [16] []) g0 g) : z_Fr (z_tch [16] []) g0 (fY_X2_spreadInwards_51 k18 s0 x1 x2 x3 g) := by
  unfold fY_X2_spreadInwards_51
  refine fr_ite ?_ ?_
  · exact frY_X2_spreadInwards_78 k18 hk18 0 x1 x2 x3 s0 g hg
  · refine fr_ck ?_
    exact frY_X2_spreadInwards_78 k18 hk18 (g 16 (Int32.toNatClampNeg (x3 + (g 1 1)))) x1 x2 x3 s0 g hg
theorem frY_X2_spreadInwards_18 {g0 : z_G} (k7 : Int32 × z_G → Option (Int32 × z_G)) (hk7 : ∀ w, z_ag (z_tch [16] []) g0 w.2 → z_Fr (z_tch [16] []) g0 (k7 w)) (k18 : Int32 × Int32 × z_G → Option (Int32 × z_G)) (hk18 : ∀ w, z_ag (z_tch [16] []) g0 w.2.2 → z_Fr (z_tch [16] []) g0 (k18 w)) (x1 : Int32) (x2 : Int32) (g : z_G) (hg : z_ag (z_tch [16] []) g0 g) : z_Fr (z_tch [16] []) g0 (fY_X2_spreadInwards_18 k7 k18 x1 x2 g) := by
  unfold fY_X2_spreadInwards_18
  refine fr_ite ?_ ?_
  · refine fr_letI (fun y10 => ?_)
    exact hk7 (y10, g) hg
  · refine fr_bind (frY_X2_at x1 x2 g) (z_tch_sub rfl) hg (fun r11 g12 hg12 => ?_)
    refine fr_ite ?_ ?_
    · exact frY_X2_spreadInwards_51 k18 hk18 0 x1 x2 r11 g12 hg12
    · refine fr_ck ?_
      exact frY_X2_spreadInwards_51 k18 hk18 (g12 16 (Int32.toNatClampNeg (r11 + 1))) x1 x2 r11 g12 hg12
theorem frY_X2_spreadInwards_18_go {g0 : z_G} (k7 : Int32 × z_G → Option (Int32 × z_G)) (hk7 : ∀ w, z_ag (z_tch [16] []) g0 w.2 → z_Fr (z_tch [16] []) g0 (k7 w)) (x1 : Int32) (x2 : Int32) (g : z_G) (hg : z_ag (z_tch [16] []) g0 g) : z_Fr (z_tch [16] []) g0 (fY_X2_spreadInwards_18_go k7 x1 x2 g) := by
  refine fr_loop (P := fun w : Int32 × Int32 × z_G => z_ag (z_tch [16] []) g0 w.2.2) (fun k hk w hw => ?_) z_fuel (x1, x2, g) hg
  exact frY_X2_spreadInwards_18 k7 hk7 k hk w.1 w.2.1 w.2.2 hw
theorem frY_X2_spreadInwards_7 {g0 : z_G} (k7 : Int32 × z_G → Option (Int32 × z_G)) (hk7 : ∀ w, z_ag (z_tch [16] []) g0 w.2 → z_Fr (z_tch [16] []) g0 (k7 w)) (x1 : Int32) (g : z_G) (hg : z_ag (z_tch [16] []) g0 g) : z_Fr (z_tch [16] []) g0 (fY_X2_spreadInwards_7 k7 x1 g) := by
  unfold fY_X2_spreadInwards_7
  refine fr_ite ?_ ?_
  · exact fr_some hg
  · refine fr_letI (fun y17 => ?_)
    exact frY_X2_spreadInwards_18_go k7 hk7 x1 y17 g hg
theorem frY_X2_spreadInwards_7_go {g0 : z_G} (x1 : Int32) (g : z_G) (hg : z_ag (z_tch [16] []) g0 g) : z_Fr (z_tch [16] []) g0 (fY_X2_spreadInwards_7_go x1 g) := by
  refine fr_loop (P := fun w : Int32 × z_G => z_ag (z_tch [16] []) g0 w.2) (fun k hk w hw => ?_) z_fuel (x1, g) hg
  exact frY_X2_spreadInwards_7 k hk w.1 w.2 hw
theorem frY_X2_spreadInwards (g : z_G) : z_Fr (z_tch [16] []) g (fY_X2_spreadInwards g) := by
  have hg : z_ag (z_tch [16] []) g g := fr_rf
  unfold fY_X2_spreadInwards
  refine fr_letI (fun y18 => ?_)
  exact frY_X2_spreadInwards_7_go y18 g hg
theorem frY_X2_isBare_23 {g0 : z_G} (s0 : Int32) (g : z_G) (hg : z_ag (z_tch [] []) g0 g) : z_Fr (z_tch [] []) g0 (fY_X2_isBare_23 s0 g) := by
  unfold fY_X2_isBare_23
  refine fr_bo ?_
  exact fr_some hg
theorem frY_X2_isBare_22 {g0 : z_G} (g : z_G) (hg : z_ag (z_tch [] []) g0 g) : z_Fr (z_tch [] []) g0 (fY_X2_isBare_22 g) := by
  unfold fY_X2_isBare_22
  exact frY_X2_isBare_23 0 g hg
theorem frY_X2_isBare (a0 : Int32) (g : z_G) : z_Fr (z_tch [] []) g (fY_X2_isBare a0 g) := by
  have hg : z_ag (z_tch [] []) g g := fr_rf
  unfold fY_X2_isBare
  refine fr_ck ?_
  refine fr_ite ?_ ?_
  · exact frY_X2_isBare_22 g hg
  · refine fr_ck ?_
    refine fr_ite ?_ ?_
    · exact frY_X2_isBare_23 1 g hg
    · exact frY_X2_isBare_22 g hg
theorem frY_X2_breathe_r2_28 {g0 : z_G} (k2 : Int32 × Int32 × z_G → Option (Int32 × z_G)) (hk2 : ∀ w, z_ag (z_tch [16] []) g0 w.2.2 → z_Fr (z_tch [16] []) g0 (k2 w)) (s0 : Int32) (s1 : Int32) (x2 : Int32) (x3 : Int32) (g : z_G) (hg : z_ag (z_tch [16] []) g0 g) : z_Fr (z_tch [16] []) g0 (fY_X2_breathe_r2_28 k2 s0 s1 x2 x3 g) := by
  unfold fY_X2_breathe_r2_28
  refine fr_ck ?_
  refine fr_letG (fr_up hg (z_tch_row rfl _)) (fun g2 hg2 => ?_)
  refine fr_letI (fun y3 => ?_)
  exact hk2 (x2, y3, g2) hg2
theorem frY_X2_breathe_r2_66 {g0 : z_G} (k37 : Int32 × Int32 × z_G → Option (Int32 × z_G)) (hk37 : ∀ w, z_ag (z_tch [16] []) g0 w.2.2 → z_Fr (z_tch [16] []) g0 (k37 w)) (x2 : Int32) (x3 : Int32) (g : z_G) (hg : z_ag (z_tch [16] []) g0 g) : z_Fr (z_tch [16] []) g0 (fY_X2_breathe_r2_66 k37 x2 x3 g) := by
  unfold fY_X2_breathe_r2_66
  refine fr_letI (fun y4 => ?_)
  exact hk37 (x2, y4, g) hg
theorem frY_X2_breathe_r2_37 {g0 : z_G} (k37 : Int32 × Int32 × z_G → Option (Int32 × z_G)) (hk37 : ∀ w, z_ag (z_tch [16] []) g0 w.2.2 → z_Fr (z_tch [16] []) g0 (k37 w)) (x2 : Int32) (x3 : Int32) (g : z_G) (hg : z_ag (z_tch [16] []) g0 g) : z_Fr (z_tch [16] []) g0 (fY_X2_breathe_r2_37 k37 x2 x3 g) := by
  unfold fY_X2_breathe_r2_37
  refine fr_ite ?_ ?_
  · refine fr_bind (frY_X2_spreadOutwards g) (z_tch_sub rfl) hg (fun r6 g7 hg7 => ?_)
    refine fr_bind (frY_X2_spreadInwards g7) (z_tch_sub rfl) hg7 (fun r9 g10 hg10 => ?_)
    exact fr_some hg10
  · refine fr_ck ?_
    refine fr_ite ?_ ?_
    · exact frY_X2_breathe_r2_66 k37 hk37 x2 x3 g hg
    · refine fr_ck ?_
      refine fr_ck ?_
      refine fr_letG (fr_up hg (z_tch_row rfl _)) (fun g16 hg16 => ?_)
      exact frY_X2_breathe_r2_66 k37 hk37 x2 x3 g16 hg16
theorem frY_X2_breathe_r2_37_go {g0 : z_G} (x2 : Int32) (x3 : Int32) (g : z_G) (hg : z_ag (z_tch [16] []) g0 g) : z_Fr (z_tch [16] []) g0 (fY_X2_breathe_r2_37_go x2 x3 g) := by
  refine fr_loop (P := fun w : Int32 × Int32 × z_G => z_ag (z_tch [16] []) g0 w.2.2) (fun k hk w hw => ?_) z_fuel (x2, x3, g) hg
  exact frY_X2_breathe_r2_37 k hk w.1 w.2.1 w.2.2 hw
theorem frY_X2_breathe_r2_2 {g0 : z_G} (k2 : Int32 × Int32 × z_G → Option (Int32 × z_G)) (hk2 : ∀ w, z_ag (z_tch [16] []) g0 w.2.2 → z_Fr (z_tch [16] []) g0 (k2 w)) (x2 : Int32) (x3 : Int32) (g : z_G) (hg : z_ag (z_tch [16] []) g0 g) : z_Fr (z_tch [16] []) g0 (fY_X2_breathe_r2_2 k2 x2 x3 g) := by
  unfold fY_X2_breathe_r2_2
  refine fr_ite ?_ ?_
  · exact frY_X2_breathe_r2_37_go x2 0 g hg
  · refine fr_bind (frY_X2_isBare x3 g) (z_tch_sub rfl) hg (fun r18 g19 hg19 => ?_)
    refine fr_ite ?_ ?_
    · exact frY_X2_breathe_r2_28 k2 hk2 0 x3 x2 x3 g19 hg19
    · exact frY_X2_breathe_r2_28 k2 hk2 x2 x3 x2 x3 g19 hg19
theorem frY_X2_breathe_r2_2_go {g0 : z_G} (x2 : Int32) (x3 : Int32) (g : z_G) (hg : z_ag (z_tch [16] []) g0 g) : z_Fr (z_tch [16] []) g0 (fY_X2_breathe_r2_2_go x2 x3 g) := by
  refine fr_loop (P := fun w : Int32 × Int32 × z_G => z_ag (z_tch [16] []) g0 w.2.2) (fun k hk w hw => ?_) z_fuel (x2, x3, g) hg
  exact frY_X2_breathe_r2_2 k hk w.1 w.2.1 w.2.2 hw
theorem frY_X2_breathe_r2 (a1 : Int32) (g : z_G) : z_Fr (z_tch [16] []) g (fY_X2_breathe_r2 a1 g) := by
  have hg : z_ag (z_tch [16] []) g g := fr_rf
  unfold fY_X2_breathe_r2
  exact frY_X2_breathe_r2_2_go a1 0 g hg
theorem frY_X2_turnToCoal (a0 : Int32) (g : z_G) : z_Fr (z_tch [10, 11, 13] []) g (fY_X2_turnToCoal a0 g) := by
  have hg : z_ag (z_tch [10, 11, 13] []) g g := fr_rf
  unfold fY_X2_turnToCoal
  refine fr_ck ?_
  refine fr_ck ?_
  refine fr_ck ?_
  refine fr_ck ?_
  refine fr_ck ?_
  refine fr_letI (fun y6 => ?_)
  refine fr_ck ?_
  refine fr_ck ?_
  refine fr_letI (fun y9 => ?_)
  refine fr_ck ?_
  refine fr_ck ?_
  refine fr_letG (fr_up hg (z_tch_row rfl _)) (fun g12 hg12 => ?_)
  refine fr_ck ?_
  refine fr_ck ?_
  refine fr_letG (fr_up hg12 (z_tch_row rfl _)) (fun g15 hg15 => ?_)
  refine fr_ck ?_
  refine fr_ck ?_
  refine fr_letI (fun y18 => ?_)
  refine fr_ck ?_
  refine fr_letG (fr_up hg15 (z_tch_row rfl _)) (fun g20 hg20 => ?_)
  exact fr_some hg20
theorem frY_X2_turnToAsh_57 {g0 : z_G} (g : z_G) (hg : z_ag (z_tch [11] [(1, 3)]) g0 g) : z_Fr (z_tch [11] [(1, 3)]) g0 (fY_X2_turnToAsh_57 g) := by
  unfold fY_X2_turnToAsh_57
  exact fr_some hg
theorem frY_X2_turnToAsh (a0 : Int32) (g : z_G) : z_Fr (z_tch [11] [(1, 3)]) g (fY_X2_turnToAsh a0 g) := by
  have hg : z_ag (z_tch [11] [(1, 3)]) g g := fr_rf
  unfold fY_X2_turnToAsh
  refine fr_ck ?_
  refine fr_ite ?_ ?_
  · exact frY_X2_turnToAsh_57 g hg
  · refine fr_ck ?_
    refine fr_ck ?_
    refine fr_ck ?_
    refine fr_letI (fun y6 => ?_)
    refine fr_ck ?_
    refine fr_ck ?_
    refine fr_letG (fr_up hg (z_tch_row rfl _)) (fun g9 hg9 => ?_)
    refine fr_letG (fr_up hg9 rfl) (fun g10 hg10 => ?_)
    exact frY_X2_turnToAsh_57 g10 hg10
theorem frY_X2_burnCell_116 {g0 : z_G} (x2 : Int32) (g : z_G) (hg : z_ag (z_tch [10, 11, 12, 13, 14] [(1, 3)]) g0 g) : z_Fr (z_tch [10, 11, 12, 13, 14] [(1, 3)]) g0 (fY_X2_burnCell_116 x2 g) := by
  unfold fY_X2_burnCell_116
  exact fr_some hg
theorem frY_X2_burnCell_109 {g0 : z_G} (x1 : Int32) (x2 : Int32) (g : z_G) (hg : z_ag (z_tch [10, 11, 12, 13, 14] [(1, 3)]) g0 g) : z_Fr (z_tch [10, 11, 12, 13, 14] [(1, 3)]) g0 (fY_X2_burnCell_109 x1 x2 g) := by
  unfold fY_X2_burnCell_109
  refine fr_ck ?_
  refine fr_letG (fr_up hg (z_tch_row rfl _)) (fun g2 hg2 => ?_)
  exact frY_X2_burnCell_116 x2 g2 hg2
theorem frY_X2_burnCell_82 {g0 : z_G} (x1 : Int32) (x2 : Int32) (g : z_G) (hg : z_ag (z_tch [10, 11, 12, 13, 14] [(1, 3)]) g0 g) : z_Fr (z_tch [10, 11, 12, 13, 14] [(1, 3)]) g0 (fY_X2_burnCell_82 x1 x2 g) := by
  unfold fY_X2_burnCell_82
  refine fr_ck ?_
  refine fr_ite ?_ ?_
  · exact frY_X2_burnCell_109 x1 x2 g hg
  · refine fr_ck ?_
    refine fr_ite ?_ ?_
    · refine fr_ck ?_
      refine fr_ite ?_ ?_
      · exact frY_X2_burnCell_109 x1 x2 g hg
      · exact frY_X2_burnCell_116 x2 g hg
    · exact frY_X2_burnCell_116 x2 g hg
theorem frY_X2_burnCell (a0 : Int32) (g : z_G) : z_Fr (z_tch [10, 11, 12, 13, 14] [(1, 3)]) g (fY_X2_burnCell a0 g) := by
  have hg : z_ag (z_tch [10, 11, 12, 13, 14] [(1, 3)]) g g := fr_rf
  unfold fY_X2_burnCell
  refine fr_ck ?_
  refine fr_ite ?_ ?_
  · refine fr_ck ?_
    refine fr_letI (fun y25 => ?_)
    refine fr_ck ?_
    refine fr_letG (fr_up hg (z_tch_row rfl _)) (fun g27 hg27 => ?_)
    exact frY_X2_burnCell_82 a0 0 g27 hg27
  · refine fr_ck ?_
    refine fr_ite ?_ ?_
    · refine fr_bind (frY_X2_turnToCoal a0 g) (z_tch_sub rfl) hg (fun r13 g14 hg14 => ?_)
      refine fr_bind (frY_X2_turnToAsh a0 g14) (z_tch_sub rfl) hg14 (fun r16 g17 hg17 => ?_)
      exact frY_X2_burnCell_82 a0 r13 g17 hg17
    · refine fr_ck ?_
      refine fr_ck ?_
      refine fr_letI (fun y21 => ?_)
      refine fr_ck ?_
      refine fr_letG (fr_up hg (z_tch_row rfl _)) (fun g23 hg23 => ?_)
      exact frY_X2_burnCell_82 a0 0 g23 hg23
theorem frY_X2_burn_49 {g0 : z_G} (k4 : Int32 × Int32 × z_G → Option (Int32 × z_G)) (hk4 : ∀ w, z_ag (z_tch [10, 11, 12, 13, 14, 21] [(1, 2), (1, 3)]) g0 w.2.2 → z_Fr (z_tch [10, 11, 12, 13, 14, 21] [(1, 2), (1, 3)]) g0 (k4 w)) (x1 : Int32) (x2 : Int32) (g : z_G) (hg : z_ag (z_tch [10, 11, 12, 13, 14, 21] [(1, 2), (1, 3)]) g0 g) : z_Fr (z_tch [10, 11, 12, 13, 14, 21] [(1, 2), (1, 3)]) g0 (fY_X2_burn_49 k4 x1 x2 g) := by
  unfold fY_X2_burn_49
  refine fr_letI (fun y1 => ?_)
  exact hk4 (x1, y1, g) hg
theorem frY_X2_burn_4 {g0 : z_G} (k4 : Int32 × Int32 × z_G → Option (Int32 × z_G)) (hk4 : ∀ w, z_ag (z_tch [10, 11, 12, 13, 14, 21] [(1, 2), (1, 3)]) g0 w.2.2 → z_Fr (z_tch [10, 11, 12, 13, 14, 21] [(1, 2), (1, 3)]) g0 (k4 w)) (x1 : Int32) (x2 : Int32) (g : z_G) (hg : z_ag (z_tch [10, 11, 12, 13, 14, 21] [(1, 2), (1, 3)]) g0 g) : z_Fr (z_tch [10, 11, 12, 13, 14, 21] [(1, 2), (1, 3)]) g0 (fY_X2_burn_4 k4 x1 x2 g) := by
  unfold fY_X2_burn_4
  refine fr_ite ?_ ?_
  · refine fr_letG (fr_up hg rfl) (fun g3 hg3 => ?_)
    exact fr_some hg3
  · refine fr_ck ?_
    refine fr_letG (fr_up hg (z_tch_row rfl _)) (fun g5 hg5 => ?_)
    refine fr_ck ?_
    refine fr_ite ?_ ?_
    · refine fr_ck ?_
      refine fr_ck ?_
      refine fr_letG (fr_up hg5 (z_tch_row rfl _)) (fun g10 hg10 => ?_)
      refine fr_bind (frY_X2_burnCell x2 g10) (z_tch_sub rfl) hg10 (fun r11 g12 hg12 => ?_)
      refine fr_letI (fun y14 => ?_)
      exact frY_X2_burn_49 k4 hk4 y14 x2 g12 hg12
    · exact frY_X2_burn_49 k4 hk4 x1 x2 g5 hg5
theorem frY_X2_burn_4_go {g0 : z_G} (x1 : Int32) (x2 : Int32) (g : z_G) (hg : z_ag (z_tch [10, 11, 12, 13, 14, 21] [(1, 2), (1, 3)]) g0 g) : z_Fr (z_tch [10, 11, 12, 13, 14, 21] [(1, 2), (1, 3)]) g0 (fY_X2_burn_4_go x1 x2 g) := by
  refine fr_loop (P := fun w : Int32 × Int32 × z_G => z_ag (z_tch [10, 11, 12, 13, 14, 21] [(1, 2), (1, 3)]) g0 w.2.2) (fun k hk w hw => ?_) z_fuel (x1, x2, g) hg
  exact frY_X2_burn_4 k hk w.1 w.2.1 w.2.2 hw
theorem frY_X2_burn (g : z_G) : z_Fr (z_tch [10, 11, 12, 13, 14, 21] [(1, 2), (1, 3)]) g (fY_X2_burn g) := by
  have hg : z_ag (z_tch [10, 11, 12, 13, 14, 21] [(1, 2), (1, 3)]) g g := fr_rf
  unfold fY_X2_burn
  exact frY_X2_burn_4_go 0 0 g hg
theorem frY_X2_glowAround_95 {g0 : z_G} (s0 : Int32) (x4 : Int32) (x5 : Int32) (x6 : Int32) (g : z_G) (hg : z_ag (z_tch [] []) g0 g) : z_Fr (z_tch [] []) g0 (fY_X2_glowAround_95 s0 x4 x5 x6 g) := by
  unfold fY_X2_glowAround_95
  exact fr_some hg
theorem frY_X2_glowAround_68 {g0 : z_G} (s0 : Int32) (x1 : Int32) (x3 : Int32) (x4 : Int32) (x5 : Int32) (g : z_G) (hg : z_ag (z_tch [] []) g0 g) : z_Fr (z_tch [] []) g0 (fY_X2_glowAround_68 s0 x1 x3 x4 x5 g) := by
  unfold fY_X2_glowAround_68
  refine fr_ite ?_ ?_
  · exact frY_X2_glowAround_95 0 x4 x5 s0 g hg
  · refine fr_ck ?_
    exact frY_X2_glowAround_95 (g 21 (Int32.toNatClampNeg (x3 + (g 1 1)))) x4 x5 s0 g hg
theorem frY_X2_glowAround_47 {g0 : z_G} (s0 : Int32) (x1 : Int32) (x3 : Int32) (x4 : Int32) (g : z_G) (hg : z_ag (z_tch [] []) g0 g) : z_Fr (z_tch [] []) g0 (fY_X2_glowAround_47 s0 x1 x3 x4 g) := by
  unfold fY_X2_glowAround_47
  refine fr_ite ?_ ?_
  · exact frY_X2_glowAround_68 0 x1 x3 x4 s0 g hg
  · refine fr_ck ?_
    exact frY_X2_glowAround_68 (g 21 (Int32.toNatClampNeg (x3 - (g 1 1)))) x1 x3 x4 s0 g hg
theorem frY_X2_glowAround_23 {g0 : z_G} (s0 : Int32) (x1 : Int32) (x2 : Int32) (x3 : Int32) (g : z_G) (hg : z_ag (z_tch [] []) g0 g) : z_Fr (z_tch [] []) g0 (fY_X2_glowAround_23 s0 x1 x2 x3 g) := by
  unfold fY_X2_glowAround_23
  refine fr_ite ?_ ?_
  · exact frY_X2_glowAround_47 0 x1 x3 s0 g hg
  · refine fr_ck ?_
    exact frY_X2_glowAround_47 (g 21 (Int32.toNatClampNeg (x3 + 1))) x1 x3 s0 g hg
theorem frY_X2_glowAround (a0 : Int32) (a1 : Int32) (g : z_G) : z_Fr (z_tch [] []) g (fY_X2_glowAround a0 a1 g) := by
  have hg : z_ag (z_tch [] []) g g := fr_rf
  unfold fY_X2_glowAround
  refine fr_bind (frY_X2_at a0 a1 g) (z_tch_sub rfl) hg (fun r7 g8 hg8 => ?_)
  refine fr_ite ?_ ?_
  · exact frY_X2_glowAround_23 0 a0 a1 r7 g8 hg8
  · refine fr_ck ?_
    exact frY_X2_glowAround_23 (g8 21 (Int32.toNatClampNeg (r7 - 1))) a0 a1 r7 g8 hg8
theorem frY_X2_warm_105 {g0 : z_G} (k12 : Int32 × Int32 × z_G → Option (Int32 × z_G)) (hk12 : ∀ w, z_ag (z_tch [13, 14] []) g0 w.2.2 → z_Fr (z_tch [13, 14] []) g0 (k12 w)) (x1 : Int32) (x2 : Int32) (g : z_G) (hg : z_ag (z_tch [13, 14] []) g0 g) : z_Fr (z_tch [13, 14] []) g0 (fY_X2_warm_105 k12 x1 x2 g) := by
  unfold fY_X2_warm_105
  refine fr_letI (fun y1 => ?_)
  exact hk12 (x1, y1, g) hg
theorem frY_X2_warm_104 {g0 : z_G} (k12 : Int32 × Int32 × z_G → Option (Int32 × z_G)) (hk12 : ∀ w, z_ag (z_tch [13, 14] []) g0 w.2.2 → z_Fr (z_tch [13, 14] []) g0 (k12 w)) (s0 : Int32) (s1 : Int32) (x1 : Int32) (x2 : Int32) (g : z_G) (hg : z_ag (z_tch [13, 14] []) g0 g) : z_Fr (z_tch [13, 14] []) g0 (fY_X2_warm_104 k12 s0 s1 x1 x2 g) := by
  unfold fY_X2_warm_104
  refine fr_ck ?_
  refine fr_letG (fr_up hg (z_tch_row rfl _)) (fun g3 hg3 => ?_)
  exact frY_X2_warm_105 k12 hk12 x1 x2 g3 hg3
theorem frY_X2_warm_54 {g0 : z_G} (k12 : Int32 × Int32 × z_G → Option (Int32 × z_G)) (hk12 : ∀ w, z_ag (z_tch [13, 14] []) g0 w.2.2 → z_Fr (z_tch [13, 14] []) g0 (k12 w)) (x1 : Int32) (x2 : Int32) (x3 : Int32) (g : z_G) (hg : z_ag (z_tch [13, 14] []) g0 g) : z_Fr (z_tch [13, 14] []) g0 (fY_X2_warm_54 k12 x1 x2 x3 g) := by
  unfold fY_X2_warm_54
  refine fr_ck ?_
  refine fr_bind (frY_X2_glowAround x1 x2 g) (z_tch_sub rfl) hg (fun r5 g6 hg6 => ?_)
  refine fr_letI (fun y8 => ?_)
  refine fr_ck ?_
  refine fr_letG (fr_up hg6 (z_tch_row rfl _)) (fun g10 hg10 => ?_)
  refine fr_ck ?_
  refine fr_ite ?_ ?_
  · exact frY_X2_warm_104 k12 hk12 0 x3 x1 x2 g10 hg10
  · exact frY_X2_warm_104 k12 hk12 1 x3 x1 x2 g10 hg10
theorem frY_X2_warm_12 {g0 : z_G} (k2 : Int32 × z_G → Option (Int32 × z_G)) (hk2 : ∀ w, z_ag (z_tch [13, 14] []) g0 w.2 → z_Fr (z_tch [13, 14] []) g0 (k2 w)) (k12 : Int32 × Int32 × z_G → Option (Int32 × z_G)) (hk12 : ∀ w, z_ag (z_tch [13, 14] []) g0 w.2.2 → z_Fr (z_tch [13, 14] []) g0 (k12 w)) (x1 : Int32) (x2 : Int32) (g : z_G) (hg : z_ag (z_tch [13, 14] []) g0 g) : z_Fr (z_tch [13, 14] []) g0 (fY_X2_warm_12 k2 k12 x1 x2 g) := by
  unfold fY_X2_warm_12
  refine fr_ite ?_ ?_
  · refine fr_letI (fun y14 => ?_)
    exact hk2 (y14, g) hg
  · refine fr_bind (frY_X2_at x1 x2 g) (z_tch_sub rfl) hg (fun r15 g16 hg16 => ?_)
    refine fr_ck ?_
    refine fr_ite ?_ ?_
    · refine fr_ck ?_
      refine fr_ite ?_ ?_
      · exact frY_X2_warm_54 k12 hk12 x1 x2 r15 g16 hg16
      · refine fr_ck ?_
        refine fr_ite ?_ ?_
        · exact frY_X2_warm_105 k12 hk12 x1 x2 g16 hg16
        · exact frY_X2_warm_54 k12 hk12 x1 x2 r15 g16 hg16
    · exact frY_X2_warm_105 k12 hk12 x1 x2 g16 hg16
theorem frY_X2_warm_12_go {g0 : z_G} (k2 : Int32 × z_G → Option (Int32 × z_G)) (hk2 : ∀ w, z_ag (z_tch [13, 14] []) g0 w.2 → z_Fr (z_tch [13, 14] []) g0 (k2 w)) (x1 : Int32) (x2 : Int32) (g : z_G) (hg : z_ag (z_tch [13, 14] []) g0 g) : z_Fr (z_tch [13, 14] []) g0 (fY_X2_warm_12_go k2 x1 x2 g) := by
  refine fr_loop (P := fun w : Int32 × Int32 × z_G => z_ag (z_tch [13, 14] []) g0 w.2.2) (fun k hk w hw => ?_) z_fuel (x1, x2, g) hg
  exact frY_X2_warm_12 k2 hk2 k hk w.1 w.2.1 w.2.2 hw
theorem frY_X2_warm_2 {g0 : z_G} (k2 : Int32 × z_G → Option (Int32 × z_G)) (hk2 : ∀ w, z_ag (z_tch [13, 14] []) g0 w.2 → z_Fr (z_tch [13, 14] []) g0 (k2 w)) (x1 : Int32) (g : z_G) (hg : z_ag (z_tch [13, 14] []) g0 g) : z_Fr (z_tch [13, 14] []) g0 (fY_X2_warm_2 k2 x1 g) := by
  unfold fY_X2_warm_2
  refine fr_ite ?_ ?_
  · exact fr_some hg
  · exact frY_X2_warm_12_go k2 hk2 x1 0 g hg
theorem frY_X2_warm_2_go {g0 : z_G} (x1 : Int32) (g : z_G) (hg : z_ag (z_tch [13, 14] []) g0 g) : z_Fr (z_tch [13, 14] []) g0 (fY_X2_warm_2_go x1 g) := by
  refine fr_loop (P := fun w : Int32 × z_G => z_ag (z_tch [13, 14] []) g0 w.2) (fun k hk w hw => ?_) z_fuel (x1, g) hg
  exact frY_X2_warm_2 k hk w.1 w.2 hw
theorem frY_X2_warm (g : z_G) : z_Fr (z_tch [13, 14] []) g (fY_X2_warm g) := by
  have hg : z_ag (z_tch [13, 14] []) g g := fr_rf
  unfold fY_X2_warm
  exact frY_X2_warm_2_go 0 g hg
theorem frY_X2_sink_90 {g0 : z_G} (k2 : Int32 × Int32 × z_G → Option (Int32 × z_G)) (hk2 : ∀ w, z_ag (z_tch [15, 19] []) g0 w.2.2 → z_Fr (z_tch [15, 19] []) g0 (k2 w)) (x1 : Int32) (x2 : Int32) (g : z_G) (hg : z_ag (z_tch [15, 19] []) g0 g) : z_Fr (z_tch [15, 19] []) g0 (fY_X2_sink_90 k2 x1 x2 g) := by
  unfold fY_X2_sink_90
  refine fr_letI (fun y1 => ?_)
  exact hk2 (x1, y1, g) hg
theorem frY_X2_sink_2 {g0 : z_G} (k2 : Int32 × Int32 × z_G → Option (Int32 × z_G)) (hk2 : ∀ w, z_ag (z_tch [15, 19] []) g0 w.2.2 → z_Fr (z_tch [15, 19] []) g0 (k2 w)) (x1 : Int32) (x2 : Int32) (g : z_G) (hg : z_ag (z_tch [15, 19] []) g0 g) : z_Fr (z_tch [15, 19] []) g0 (fY_X2_sink_2 k2 x1 x2 g) := by
  unfold fY_X2_sink_2
  refine fr_ite ?_ ?_
  · exact fr_some hg
  · refine fr_ck ?_
    refine fr_ite ?_ ?_
    · exact frY_X2_sink_90 k2 hk2 x1 x2 g hg
    · refine fr_ck ?_
      refine fr_ite ?_ ?_
      · exact frY_X2_sink_90 k2 hk2 x1 x2 g hg
      · refine fr_ck ?_
        refine fr_ck ?_
        refine fr_ck ?_
        refine fr_ite ?_ ?_
        · exact frY_X2_sink_90 k2 hk2 x1 x2 g hg
        · refine fr_ck ?_
          refine fr_ck ?_
          refine fr_letG (fr_up hg (z_tch_row rfl _)) (fun g13 hg13 => ?_)
          refine fr_ck ?_
          refine fr_ite ?_ ?_
          · refine fr_ck ?_
            refine fr_ite ?_ ?_
            · refine fr_ck ?_
              refine fr_letG (fr_up hg13 (z_tch_row rfl _)) (fun g19 hg19 => ?_)
              exact frY_X2_sink_90 k2 hk2 x1 x2 g19 hg19
            · exact frY_X2_sink_90 k2 hk2 x1 x2 g13 hg13
          · exact frY_X2_sink_90 k2 hk2 x1 x2 g13 hg13
theorem frY_X2_sink_2_go {g0 : z_G} (x1 : Int32) (x2 : Int32) (g : z_G) (hg : z_ag (z_tch [15, 19] []) g0 g) : z_Fr (z_tch [15, 19] []) g0 (fY_X2_sink_2_go x1 x2 g) := by
  refine fr_loop (P := fun w : Int32 × Int32 × z_G => z_ag (z_tch [15, 19] []) g0 w.2.2) (fun k hk w hw => ?_) z_fuel (x1, x2, g) hg
  exact frY_X2_sink_2 k hk w.1 w.2.1 w.2.2 hw
theorem frY_X2_sink (a0 : Int32) (g : z_G) : z_Fr (z_tch [15, 19] []) g (fY_X2_sink a0 g) := by
  have hg : z_ag (z_tch [15, 19] []) g g := fr_rf
  unfold fY_X2_sink
  exact frY_X2_sink_2_go a0 0 g hg
theorem frY_X2_soak_2 {g0 : z_G} (k2 : Int32 × Int32 × z_G → Option (Int32 × z_G)) (hk2 : ∀ w, z_ag (z_tch [12] []) g0 w.2.2 → z_Fr (z_tch [12] []) g0 (k2 w)) (x1 : Int32) (x2 : Int32) (g : z_G) (hg : z_ag (z_tch [12] []) g0 g) : z_Fr (z_tch [12] []) g0 (fY_X2_soak_2 k2 x1 x2 g) := by
  unfold fY_X2_soak_2
  refine fr_ite ?_ ?_
  · exact fr_some hg
  · refine fr_bind (frY_X2_at x2 ((g 1 1) - 1) g) (z_tch_sub rfl) hg (fun r2 g3 hg3 => ?_)
    refine fr_ck ?_
    refine fr_ck ?_
    refine fr_ck ?_
    refine fr_letI (fun y8 => ?_)
    refine fr_ck ?_
    refine fr_letG (fr_up hg3 (z_tch_row rfl _)) (fun g10 hg10 => ?_)
    refine fr_letI (fun y11 => ?_)
    exact hk2 (x1, y11, g10) hg10
theorem frY_X2_soak_2_go {g0 : z_G} (x1 : Int32) (x2 : Int32) (g : z_G) (hg : z_ag (z_tch [12] []) g0 g) : z_Fr (z_tch [12] []) g0 (fY_X2_soak_2_go x1 x2 g) := by
  refine fr_loop (P := fun w : Int32 × Int32 × z_G => z_ag (z_tch [12] []) g0 w.2.2) (fun k hk w hw => ?_) z_fuel (x1, x2, g) hg
  exact frY_X2_soak_2 k hk w.1 w.2.1 w.2.2 hw
theorem frY_X2_soak (a0 : Int32) (g : z_G) : z_Fr (z_tch [12] []) g (fY_X2_soak a0 g) := by
  have hg : z_ag (z_tch [12] []) g g := fr_rf
  unfold fY_X2_soak
  exact frY_X2_soak_2_go a0 0 g hg
theorem frY_X2_countBare_23 {g0 : z_G} (k4 : Int32 × Int32 × z_G → Option (Int32 × z_G)) (hk4 : ∀ w, z_ag (z_tch [] []) g0 w.2.2 → z_Fr (z_tch [] []) g0 (k4 w)) (x1 : Int32) (x2 : Int32) (g : z_G) (hg : z_ag (z_tch [] []) g0 g) : z_Fr (z_tch [] []) g0 (fY_X2_countBare_23 k4 x1 x2 g) := by
  unfold fY_X2_countBare_23
  refine fr_letI (fun y1 => ?_)
  exact hk4 (x1, y1, g) hg
theorem frY_X2_countBare_4 {g0 : z_G} (k4 : Int32 × Int32 × z_G → Option (Int32 × z_G)) (hk4 : ∀ w, z_ag (z_tch [] []) g0 w.2.2 → z_Fr (z_tch [] []) g0 (k4 w)) (x1 : Int32) (x2 : Int32) (g : z_G) (hg : z_ag (z_tch [] []) g0 g) : z_Fr (z_tch [] []) g0 (fY_X2_countBare_4 k4 x1 x2 g) := by
  unfold fY_X2_countBare_4
  refine fr_ite ?_ ?_
  · exact fr_some hg
  · refine fr_bind (frY_X2_isBare x2 g) (z_tch_sub rfl) hg (fun r3 g4 hg4 => ?_)
    refine fr_ite ?_ ?_
    · exact frY_X2_countBare_23 k4 hk4 x1 x2 g4 hg4
    · refine fr_letI (fun y7 => ?_)
      exact frY_X2_countBare_23 k4 hk4 y7 x2 g4 hg4
theorem frY_X2_countBare_4_go {g0 : z_G} (x1 : Int32) (x2 : Int32) (g : z_G) (hg : z_ag (z_tch [] []) g0 g) : z_Fr (z_tch [] []) g0 (fY_X2_countBare_4_go x1 x2 g) := by
  refine fr_loop (P := fun w : Int32 × Int32 × z_G => z_ag (z_tch [] []) g0 w.2.2) (fun k hk w hw => ?_) z_fuel (x1, x2, g) hg
  exact frY_X2_countBare_4 k hk w.1 w.2.1 w.2.2 hw
theorem frY_X2_countBare (g : z_G) : z_Fr (z_tch [] []) g (fY_X2_countBare g) := by
  have hg : z_ag (z_tch [] []) g g := fr_rf
  unfold fY_X2_countBare
  exact frY_X2_countBare_4_go 0 0 g hg
theorem frY_X2_thinnest_44 {g0 : z_G} (k14 : Int32 × Int32 × z_G → Option (Int32 × z_G)) (hk14 : ∀ w, z_ag (z_tch [] []) g0 w.2.2 → z_Fr (z_tch [] []) g0 (k14 w)) (x1 : Int32) (x2 : Int32) (g : z_G) (hg : z_ag (z_tch [] []) g0 g) : z_Fr (z_tch [] []) g0 (fY_X2_thinnest_44 k14 x1 x2 g) := by
  unfold fY_X2_thinnest_44
  refine fr_letI (fun y1 => ?_)
  exact hk14 (x1, y1, g) hg
theorem frY_X2_thinnest_14 {g0 : z_G} (k14 : Int32 × Int32 × z_G → Option (Int32 × z_G)) (hk14 : ∀ w, z_ag (z_tch [] []) g0 w.2.2 → z_Fr (z_tch [] []) g0 (k14 w)) (x1 : Int32) (x2 : Int32) (g : z_G) (hg : z_ag (z_tch [] []) g0 g) : z_Fr (z_tch [] []) g0 (fY_X2_thinnest_14 k14 x1 x2 g) := by
  unfold fY_X2_thinnest_14
  refine fr_ite ?_ ?_
  · exact fr_some hg
  · refine fr_ck ?_
    refine fr_ite ?_ ?_
    · exact frY_X2_thinnest_44 k14 hk14 x1 x2 g hg
    · refine fr_ck ?_
      refine fr_ck ?_
      refine fr_ite ?_ ?_
      · exact frY_X2_thinnest_44 k14 hk14 x1 x2 g hg
      · exact frY_X2_thinnest_44 k14 hk14 x2 x2 g hg
theorem frY_X2_thinnest_14_go {g0 : z_G} (x1 : Int32) (x2 : Int32) (g : z_G) (hg : z_ag (z_tch [] []) g0 g) : z_Fr (z_tch [] []) g0 (fY_X2_thinnest_14_go x1 x2 g) := by
  refine fr_loop (P := fun w : Int32 × Int32 × z_G => z_ag (z_tch [] []) g0 w.2.2) (fun k hk w hw => ?_) z_fuel (x1, x2, g) hg
  exact frY_X2_thinnest_14 k hk w.1 w.2.1 w.2.2 hw
theorem frY_X2_thinnest (g : z_G) : z_Fr (z_tch [] []) g (fY_X2_thinnest g) := by
  have hg : z_ag (z_tch [] []) g g := fr_rf
  unfold fY_X2_thinnest
  refine fr_letI (fun y8 => ?_)
  refine fr_letI (fun y9 => ?_)
  exact frY_X2_thinnest_14_go y8 y9 g hg
theorem frY_X2_mend (g : z_G) : z_Fr (z_tch [15] []) g (fY_X2_mend g) := by
  have hg : z_ag (z_tch [15] []) g g := fr_rf
  unfold fY_X2_mend
  refine fr_bind (frY_X2_thinnest g) (z_tch_sub rfl) hg (fun r1 g2 hg2 => ?_)
  refine fr_ck ?_
  refine fr_letI (fun y5 => ?_)
  refine fr_ck ?_
  refine fr_letG (fr_up hg2 (z_tch_row rfl _)) (fun g7 hg7 => ?_)
  exact fr_some hg7
theorem frY_X7_clamp_22 {g0 : z_G} (g : z_G) (hg : z_ag (z_tch [8, 9, 10, 11, 12, 13, 14, 15, 16, 17, 18, 19, 20] [(0, 7), (1, 0), (1, 1), (1, 2), (1, 3), (1, 4), (2, 0), (3, 0), (3, 7)]) g0 g) : z_Fr (z_tch [8, 9, 10, 11, 12, 13, 14, 15, 16, 17, 18, 19, 20] [(0, 7), (1, 0), (1, 1), (1, 2), (1, 3), (1, 4), (2, 0), (3, 0), (3, 7)]) g0 (fY_X7_clamp_22 g) := by
  unfold fY_X7_clamp_22
  refine fr_bo ?_
  exact fr_some hg
theorem frY_X7_clamp (a0 : Int32) (a1 : Int32) (g : z_G) : z_Fr (z_tch [8, 9, 10, 11, 12, 13, 14, 15, 16, 17, 18, 19, 20] [(0, 7), (1, 0), (1, 1), (1, 2), (1, 3), (1, 4), (2, 0), (3, 0), (3, 7)]) g (fY_X7_clamp a0 a1 g) := by
  have hg : z_ag (z_tch [8, 9, 10, 11, 12, 13, 14, 15, 16, 17, 18, 19, 20] [(0, 7), (1, 0), (1, 1), (1, 2), (1, 3), (1, 4), (2, 0), (3, 0), (3, 7)]) g g := fr_rf
  unfold fY_X7_clamp
  refine fr_ite ?_ ?_
  · exact frY_X7_clamp_22 g hg
  · refine fr_ite ?_ ?_
    · exact frY_X7_clamp_22 g hg
    · refine fr_ite ?_ ?_
      · exact frY_X7_clamp_22 g hg
      · refine fr_ite ?_ ?_
        · refine fr_bind (frY_X2_build a0 a1 g) (z_tch_sub rfl) hg (fun r5 g6 hg6 => ?_)
          refine fr_bind (frY_X1_forget g6) (z_tch_sub rfl) hg6 (fun r8 g9 hg9 => ?_)
          refine fr_bind (frY_X0_forget g9) (z_tch_sub rfl) hg9 (fun r11 g12 hg12 => ?_)
          refine fr_letG (fr_up hg12 rfl) (fun g14 hg14 => ?_)
          refine fr_bo ?_
          exact fr_some hg14
        · exact frY_X7_clamp_22 g hg
theorem frY_X7_lay_26 {g0 : z_G} (g : z_G) (hg : z_ag (z_tch [10, 11, 12, 13, 17, 18] []) g0 g) : z_Fr (z_tch [10, 11, 12, 13, 17, 18] []) g0 (fY_X7_lay_26 g) := by
  unfold fY_X7_lay_26
  exact fr_some hg
theorem frY_X7_lay (a0 : Int32) (a1 : Int32) (a2 : Int32) (g : z_G) : z_Fr (z_tch [10, 11, 12, 13, 17, 18] []) g (fY_X7_lay a0 a1 a2 g) := by
  have hg : z_ag (z_tch [10, 11, 12, 13, 17, 18] []) g g := fr_rf
  unfold fY_X7_lay
  refine fr_ite ?_ ?_
  · refine fr_bind (frY_X2_holds a0 a1 g) (z_tch_sub rfl) hg (fun r2 g3 hg3 => ?_)
    refine fr_ite ?_ ?_
    · exact frY_X7_lay_26 g3 hg3
    · refine fr_bind (frY_X2_isKind a2 g3) (z_tch_sub rfl) hg3 (fun r6 g7 hg7 => ?_)
      refine fr_ite ?_ ?_
      · exact frY_X7_lay_26 g7 hg7
      · refine fr_bind (frY_X2_at a0 a1 g7) (z_tch_sub rfl) hg7 (fun r10 g11 hg11 => ?_)
        refine fr_bind (frY_X2_fill r10 a2 g11) (z_tch_sub rfl) hg11 (fun r13 g14 hg14 => ?_)
        exact fr_some hg14
  · exact frY_X7_lay_26 g hg
theorem frY_X7_narrowed_18 {g0 : z_G} (s0 : Int32) (g : z_G) (hg : z_ag (z_tch [] []) g0 g) : z_Fr (z_tch [] []) g0 (fY_X7_narrowed_18 s0 g) := by
  unfold fY_X7_narrowed_18
  exact fr_some hg
theorem frY_X7_narrowed (a0 : Int32) (a1 : Int32) (g : z_G) : z_Fr (z_tch [] []) g (fY_X7_narrowed a0 a1 g) := by
  have hg : z_ag (z_tch [] []) g g := fr_rf
  unfold fY_X7_narrowed
  refine fr_ite ?_ ?_
  · exact fr_some hg
  · refine fr_ite ?_ ?_
    · exact frY_X7_narrowed_18 ((a0 : Int32).toInt16.toInt32) g hg
    · exact frY_X7_narrowed_18 a0 g hg
theorem frY_X7_layRow_34 {g0 : z_G} (g : z_G) (hg : z_ag (z_tch [10, 11, 12, 13, 17, 18] []) g0 g) : z_Fr (z_tch [10, 11, 12, 13, 17, 18] []) g0 (fY_X7_layRow_34 g) := by
  unfold fY_X7_layRow_34
  exact fr_some hg
theorem frY_X7_layRow_124 {g0 : z_G} (x6 : Int32) (g : z_G) (hg : z_ag (z_tch [10, 11, 12, 13, 17, 18] []) g0 g) : z_Fr (z_tch [10, 11, 12, 13, 17, 18] []) g0 (fY_X7_layRow_124 x6 g) := by
  unfold fY_X7_layRow_124
  exact fr_some hg
theorem frY_X7_layRow_57 {g0 : z_G} (k57 : Int32 × Int32 × Int32 × Int32 × Int32 × Int32 × z_G → Option (Int32 × z_G)) (hk57 : ∀ w, z_ag (z_tch [10, 11, 12, 13, 17, 18] []) g0 w.2.2.2.2.2.2 → z_Fr (z_tch [10, 11, 12, 13, 17, 18] []) g0 (k57 w)) (x1 : Int32) (x2 : Int32) (x3 : Int32) (x5 : Int32) (x6 : Int32) (x7 : Int32) (g : z_G) (hg : z_ag (z_tch [10, 11, 12, 13, 17, 18] []) g0 g) : z_Fr (z_tch [10, 11, 12, 13, 17, 18] []) g0 (fY_X7_layRow_57 k57 x1 x2 x3 x5 x6 x7 g) := by
  unfold fY_X7_layRow_57
  refine fr_ite ?_ ?_
  · exact frY_X7_layRow_124 x6 g hg
  · refine fr_ite ?_ ?_
    · exact frY_X7_layRow_124 x6 g hg
    · refine fr_bind (frY_X7_narrowed x7 x2 g) (z_tch_sub rfl) hg (fun r3 g4 hg4 => ?_)
      refine fr_bind (frY_X2_isKind r3 g4) (z_tch_sub rfl) hg4 (fun r6 g7 hg7 => ?_)
      refine fr_ite ?_ ?_
      · exact frY_X7_layRow_124 x6 g7 hg7
      · refine fr_bind (frY_X2_at x6 x1 g7) (z_tch_sub rfl) hg7 (fun r10 g11 hg11 => ?_)
        refine fr_bind (frY_X7_narrowed x7 x2 g11) (z_tch_sub rfl) hg11 (fun r13 g14 hg14 => ?_)
        refine fr_bind (frY_X2_fill r10 r13 g14) (z_tch_sub rfl) hg14 (fun r16 g17 hg17 => ?_)
        refine fr_letI (fun y19 => ?_)
        refine fr_letI (fun y20 => ?_)
        exact hk57 (x1, x2, x3, x5, y19, y20, g17) hg17
theorem frY_X7_layRow_57_go {g0 : z_G} (x1 : Int32) (x2 : Int32) (x3 : Int32) (x5 : Int32) (x6 : Int32) (x7 : Int32) (g : z_G) (hg : z_ag (z_tch [10, 11, 12, 13, 17, 18] []) g0 g) : z_Fr (z_tch [10, 11, 12, 13, 17, 18] []) g0 (fY_X7_layRow_57_go x1 x2 x3 x5 x6 x7 g) := by
  refine fr_loop (P := fun w : Int32 × Int32 × Int32 × Int32 × Int32 × Int32 × z_G => z_ag (z_tch [10, 11, 12, 13, 17, 18] []) g0 w.2.2.2.2.2.2) (fun k hk w hw => ?_) z_fuel (x1, x2, x3, x5, x6, x7, g) hg
  exact frY_X7_layRow_57 k hk w.1 w.2.1 w.2.2.1 w.2.2.2.1 w.2.2.2.2.1 w.2.2.2.2.2.1 w.2.2.2.2.2.2 hw
theorem frY_X7_layRow (a0 : Int32) (a1 : Int32) (a2 : Int32) (a3 : Int32) (a4 : Int32) (g : z_G) : z_Fr (z_tch [10, 11, 12, 13, 17, 18] []) g (fY_X7_layRow a0 a1 a2 a3 a4 g) := by
  have hg : z_ag (z_tch [10, 11, 12, 13, 17, 18] []) g g := fr_rf
  unfold fY_X7_layRow
  refine fr_ite ?_ ?_
  · refine fr_bind (frY_X2_holds 0 a0 g) (z_tch_sub rfl) hg (fun r22 g23 hg23 => ?_)
    refine fr_ite ?_ ?_
    · exact frY_X7_layRow_34 g23 hg23
    · refine fr_ite ?_ ?_
      · exact frY_X7_layRow_34 g23 hg23
      · refine fr_ite ?_ ?_
        · exact frY_X7_layRow_34 g23 hg23
        · refine fr_ite ?_ ?_
          · refine fr_ite ?_ ?_
            · exact fr_some hg23
            · refine fr_ite ?_ ?_
              · exact frY_X7_layRow_57_go a0 a1 a2 a4 0 a3 g23 hg23
              · exact fr_some hg23
          · exact frY_X7_layRow_34 g23 hg23
  · exact frY_X7_layRow_34 g hg
theorem frY_X7_hole_19 {g0 : z_G} (g : z_G) (hg : z_ag (z_tch [22, 23] [(2, 0)]) g0 g) : z_Fr (z_tch [22, 23] [(2, 0)]) g0 (fY_X7_hole_19 g) := by
  unfold fY_X7_hole_19
  exact fr_some hg
theorem frY_X7_hole (a0 : Int32) (a1 : Int32) (g : z_G) : z_Fr (z_tch [22, 23] [(2, 0)]) g (fY_X7_hole a0 a1 g) := by
  have hg : z_ag (z_tch [22, 23] [(2, 0)]) g g := fr_rf
  unfold fY_X7_hole
  refine fr_ite ?_ ?_
  · refine fr_bind (frY_X2_isOutsideAt a0 a1 g) (z_tch_sub rfl) hg (fun r2 g3 hg3 => ?_)
    refine fr_ite ?_ ?_
    · exact frY_X7_hole_19 g3 hg3
    · refine fr_bind (frY_X2_at a0 a1 g3) (z_tch_sub rfl) hg3 (fun r6 g7 hg7 => ?_)
      refine fr_bind (frY_X1_bore r6 g7) (z_tch_sub rfl) hg7 (fun r9 g10 hg10 => ?_)
      exact fr_some hg10
  · exact frY_X7_hole_19 g hg
theorem frY_X7_light_19 {g0 : z_G} (g : z_G) (hg : z_ag (z_tch [13, 14, 20, 24, 39] [(0, 7)]) g0 g) : z_Fr (z_tch [13, 14, 20, 24, 39] [(0, 7)]) g0 (fY_X7_light_19 g) := by
  unfold fY_X7_light_19
  refine fr_bo ?_
  exact fr_some hg
theorem frY_X7_light (g : z_G) : z_Fr (z_tch [13, 14, 20, 24, 39] [(0, 7)]) g (fY_X7_light g) := by
  have hg : z_ag (z_tch [13, 14, 20, 24, 39] [(0, 7)]) g g := fr_rf
  unfold fY_X7_light
  refine fr_ite ?_ ?_
  · refine fr_ck ?_
    refine fr_ite ?_ ?_
    · exact frY_X7_light_19 g hg
    · refine fr_letG (fr_up hg rfl) (fun g4 hg4 => ?_)
      refine fr_bind (frY_X2_keepCover g4) (z_tch_sub rfl) hg4 (fun r5 g6 hg6 => ?_)
      refine fr_bind (frY_X1_keepOpen g6) (z_tch_sub rfl) hg6 (fun r8 g9 hg9 => ?_)
      refine fr_bind (frY_X4_actFromFirstHour g9) (z_tch_sub rfl) hg9 (fun r11 g12 hg12 => ?_)
      refine fr_bind (frY_X2_setAlight g12) (z_tch_sub rfl) hg12 (fun r14 g15 hg15 => ?_)
      refine fr_bo ?_
      exact fr_some hg15
  · exact frY_X7_light_19 g hg
theorem frY_X7_handle_35 {g0 : z_G} (g : z_G) (hg : z_ag (z_tch [15, 23] []) g0 g) : z_Fr (z_tch [15, 23] []) g0 (fY_X7_handle_35 g) := by
  unfold fY_X7_handle_35
  exact fr_some hg
theorem frY_X7_handle_19 {g0 : z_G} (s0 : Int32) (s1 : Int32) (g : z_G) (hg : z_ag (z_tch [15, 23] []) g0 g) : z_Fr (z_tch [15, 23] []) g0 (fY_X7_handle_19 s0 s1 g) := by
  unfold fY_X7_handle_19
  refine fr_bind (frY_X1_turn s1 s0 g) (z_tch_sub rfl) hg (fun r1 g2 hg2 => ?_)
  exact frY_X7_handle_35 g2 hg2
theorem frY_X7_handle (a0 : Int32) (a1 : Int32) (a2 : Int32) (g : z_G) : z_Fr (z_tch [15, 23] []) g (fY_X7_handle a0 a1 a2 g) := by
  have hg : z_ag (z_tch [15, 23] []) g g := fr_rf
  unfold fY_X7_handle
  refine fr_ite ?_ ?_
  · refine fr_ite ?_ ?_
    · exact frY_X7_handle_19 1 a1 g hg
    · exact frY_X7_handle_19 0 a1 g hg
  · refine fr_ck ?_
    refine fr_letG (fr_up hg (z_tch_row rfl _)) (fun g6 hg6 => ?_)
    exact frY_X7_handle_35 g6 hg6
theorem frY_X7_workByHand_22 {g0 : z_G} (x1 : Int32) (x2 : Int32) (x3 : Int32) (g : z_G) (hg : z_ag (z_tch [15, 23, 31, 32, 33, 34] [(3, 7)]) g0 g) : z_Fr (z_tch [15, 23, 31, 32, 33, 34] [(3, 7)]) g0 (fY_X7_workByHand_22 x1 x2 x3 g) := by
  unfold fY_X7_workByHand_22
  refine fr_bind (frY_X7_handle x1 x2 x3 g) (z_tch_sub rfl) hg (fun r1 g2 hg2 => ?_)
  refine fr_bo ?_
  exact fr_some hg2
theorem frY_X7_workByHand (a0 : Int32) (a1 : Int32) (a2 : Int32) (g : z_G) : z_Fr (z_tch [15, 23, 31, 32, 33, 34] [(3, 7)]) g (fY_X7_workByHand a0 a1 a2 g) := by
  have hg : z_ag (z_tch [15, 23, 31, 32, 33, 34] [(3, 7)]) g g := fr_rf
  unfold fY_X7_workByHand
  refine fr_ite ?_ ?_
  · exact frY_X7_workByHand_22 a0 a1 a2 g hg
  · refine fr_bind (frY_X0_keepAct a0 a1 a2 g) (z_tch_sub rfl) hg (fun r5 g6 hg6 => ?_)
    refine fr_ite ?_ ?_
    · refine fr_bo ?_
      exact fr_some hg6
    · exact frY_X7_workByHand_22 a0 a1 a2 g6 hg6
theorem frY_X7_open_34 {g0 : z_G} (s0 : Int32) (g : z_G) (hg : z_ag (z_tch [15, 23, 31, 32, 33, 34] [(3, 7)]) g0 g) : z_Fr (z_tch [15, 23, 31, 32, 33, 34] [(3, 7)]) g0 (fY_X7_open_34 s0 g) := by
  unfold fY_X7_open_34
  refine fr_bo ?_
  exact fr_some hg
theorem frY_X7_open_33 {g0 : z_G} (g : z_G) (hg : z_ag (z_tch [15, 23, 31, 32, 33, 34] [(3, 7)]) g0 g) : z_Fr (z_tch [15, 23, 31, 32, 33, 34] [(3, 7)]) g0 (fY_X7_open_33 g) := by
  unfold fY_X7_open_33
  exact frY_X7_open_34 0 g hg
theorem frY_X7_open_23 {g0 : z_G} (s0 : Int32) (s1 : Int32) (s2 : Int32) (g : z_G) (hg : z_ag (z_tch [15, 23, 31, 32, 33, 34] [(3, 7)]) g0 g) : z_Fr (z_tch [15, 23, 31, 32, 33, 34] [(3, 7)]) g0 (fY_X7_open_23 s0 s1 s2 g) := by
  unfold fY_X7_open_23
  refine fr_bind (frY_X7_workByHand s2 s1 s0 g) (z_tch_sub rfl) hg (fun r1 g2 hg2 => ?_)
  refine fr_ite ?_ ?_
  · exact frY_X7_open_33 g2 hg2
  · exact frY_X7_open_34 1 g2 hg2
theorem frY_X7_open (a0 : Int32) (a1 : Int32) (g : z_G) : z_Fr (z_tch [15, 23, 31, 32, 33, 34] [(3, 7)]) g (fY_X7_open a0 a1 g) := by
  have hg : z_ag (z_tch [15, 23, 31, 32, 33, 34] [(3, 7)]) g g := fr_rf
  unfold fY_X7_open
  refine fr_bind (frY_X1_has a0 g) (z_tch_sub rfl) hg (fun r5 g6 hg6 => ?_)
  refine fr_ite ?_ ?_
  · exact frY_X7_open_33 g6 hg6
  · refine fr_ite ?_ ?_
    · exact frY_X7_open_23 0 a0 0 g6 hg6
    · exact frY_X7_open_23 1 a0 0 g6 hg6
theorem frY_X7_cover_22 {g0 : z_G} (g : z_G) (hg : z_ag (z_tch [15, 23, 31, 32, 33, 34] [(3, 7)]) g0 g) : z_Fr (z_tch [15, 23, 31, 32, 33, 34] [(3, 7)]) g0 (fY_X7_cover_22 g) := by
  unfold fY_X7_cover_22
  refine fr_bo ?_
  exact fr_some hg
theorem frY_X7_cover (a0 : Int32) (a1 : Int32) (a2 : Int32) (g : z_G) : z_Fr (z_tch [15, 23, 31, 32, 33, 34] [(3, 7)]) g (fY_X7_cover a0 a1 a2 g) := by
  have hg : z_ag (z_tch [15, 23, 31, 32, 33, 34] [(3, 7)]) g g := fr_rf
  unfold fY_X7_cover
  refine fr_ite ?_ ?_
  · exact frY_X7_cover_22 g hg
  · refine fr_ite ?_ ?_
    · exact frY_X7_cover_22 g hg
    · refine fr_bind (frY_X2_isOutsideAt a0 a1 g) (z_tch_sub rfl) hg (fun r3 g4 hg4 => ?_)
      refine fr_ite ?_ ?_
      · exact frY_X7_cover_22 g4 hg4
      · refine fr_bind (frY_X2_at a0 a1 g4) (z_tch_sub rfl) hg4 (fun r7 g8 hg8 => ?_)
        refine fr_bind (frY_X7_workByHand 1 r7 a2 g8) (z_tch_sub rfl) hg8 (fun r10 g11 hg11 => ?_)
        refine fr_bo ?_
        exact fr_some hg11
theorem frY_X7_watch (a0 : Int32) (g : z_G) : z_Fr (z_tch [] [(0, 8)]) g (fY_X7_watch a0 g) := by
  have hg : z_ag (z_tch [] [(0, 8)]) g g := fr_rf
  unfold fY_X7_watch
  refine fr_ite ?_ ?_
  · refine fr_letG (fr_up hg rfl) (fun g2 hg2 => ?_)
    refine fr_bo ?_
    exact fr_some hg2
  · refine fr_bo ?_
    exact fr_some hg
theorem frY_X7_isWeather_24 {g0 : z_G} (s0 : Int32) (g : z_G) (hg : z_ag (z_tch [] []) g0 g) : z_Fr (z_tch [] []) g0 (fY_X7_isWeather_24 s0 g) := by
  unfold fY_X7_isWeather_24
  refine fr_bo ?_
  exact fr_some hg
theorem frY_X7_isWeather_23 {g0 : z_G} (g : z_G) (hg : z_ag (z_tch [] []) g0 g) : z_Fr (z_tch [] []) g0 (fY_X7_isWeather_23 g) := by
  unfold fY_X7_isWeather_23
  exact frY_X7_isWeather_24 0 g hg
theorem frY_X7_isWeather (a0 : Int32) (a1 : Int32) (g : z_G) : z_Fr (z_tch [] []) g (fY_X7_isWeather a0 a1 g) := by
  have hg : z_ag (z_tch [] []) g g := fr_rf
  unfold fY_X7_isWeather
  refine fr_ite ?_ ?_
  · exact frY_X7_isWeather_23 g hg
  · refine fr_ite ?_ ?_
    · exact frY_X7_isWeather_23 g hg
    · refine fr_ite ?_ ?_
      · exact frY_X7_isWeather_23 g hg
      · refine fr_ite ?_ ?_
        · exact frY_X7_isWeather_23 g hg
        · exact frY_X7_isWeather_24 1 g hg
theorem frY_X7_look_98 {g0 : z_G} (s0 : Int32) (s1 : Int32) (x3 : Int32) (g : z_G) (hg : z_ag (z_tch [43] []) g0 g) : z_Fr (z_tch [43] []) g0 (fY_X7_look_98 s0 s1 x3 g) := by
  unfold fY_X7_look_98
  refine fr_bind (frY_X4_see s1 s0 g) (z_tch_sub rfl) hg (fun r1 g2 hg2 => ?_)
  refine fr_bind (frY_X4_see 3 x3 g2) (z_tch_sub rfl) hg2 (fun r4 g5 hg5 => ?_)
  exact fr_some hg5
theorem frY_X7_look_66 {g0 : z_G} (s0 : Int32) (s1 : Int32) (x3 : Int32) (x4 : Int32) (g : z_G) (hg : z_ag (z_tch [43] []) g0 g) : z_Fr (z_tch [43] []) g0 (fY_X7_look_66 s0 s1 x3 x4 g) := by
  unfold fY_X7_look_66
  refine fr_bind (frY_X4_see s1 s0 g) (z_tch_sub rfl) hg (fun r7 g8 hg8 => ?_)
  refine fr_ite ?_ ?_
  · exact frY_X7_look_98 0 2 x3 g8 hg8
  · refine fr_bind (frY_X2_thinnest g8) (z_tch_sub rfl) hg8 (fun r11 g12 hg12 => ?_)
    refine fr_ck ?_
    exact frY_X7_look_98 (g12 15 (Int32.toNatClampNeg r11)) 2 x3 g12 hg12
theorem frY_X7_look_47 {g0 : z_G} (s0 : Int32) (s1 : Int32) (x2 : Int32) (x3 : Int32) (x4 : Int32) (g : z_G) (hg : z_ag (z_tch [43] []) g0 g) : z_Fr (z_tch [43] []) g0 (fY_X7_look_47 s0 s1 x2 x3 x4 g) := by
  unfold fY_X7_look_47
  refine fr_bind (frY_X4_see s1 s0 g) (z_tch_sub rfl) hg (fun r15 g16 hg16 => ?_)
  refine fr_ite ?_ ?_
  · exact frY_X7_look_66 99 1 x3 x4 g16 hg16
  · exact frY_X7_look_66 x2 1 x3 x4 g16 hg16
theorem frY_X7_look_28 {g0 : z_G} (s0 : Int32) (x1 : Int32) (x2 : Int32) (x3 : Int32) (g : z_G) (hg : z_ag (z_tch [43] []) g0 g) : z_Fr (z_tch [43] []) g0 (fY_X7_look_28 s0 x1 x2 x3 g) := by
  unfold fY_X7_look_28
  refine fr_ite ?_ ?_
  · exact frY_X7_look_47 9999 0 x2 x3 s0 g hg
  · exact frY_X7_look_47 x1 0 x2 x3 s0 g hg
theorem frY_X7_look (a0 : Int32) (a1 : Int32) (g : z_G) : z_Fr (z_tch [43] []) g (fY_X7_look a0 a1 g) := by
  have hg : z_ag (z_tch [43] []) g g := fr_rf
  unfold fY_X7_look
  refine fr_letI (fun y20 => ?_)
  refine fr_ite ?_ ?_
  · exact frY_X7_look_28 1 a0 a1 y20 g hg
  · exact frY_X7_look_28 0 a0 a1 y20 g hg
theorem frY_X7_actBy_101 {g0 : z_G} (g : z_G) (hg : z_ag (z_tch [15, 23] []) g0 g) : z_Fr (z_tch [15, 23] []) g0 (fY_X7_actBy_101 g) := by
  unfold fY_X7_actBy_101
  exact fr_some hg
theorem frY_X7_actBy (a0 : Int32) (g : z_G) : z_Fr (z_tch [15, 23] []) g (fY_X7_actBy a0 g) := by
  have hg : z_ag (z_tch [15, 23] []) g g := fr_rf
  unfold fY_X7_actBy
  refine fr_ck ?_
  refine fr_ite ?_ ?_
  · refine fr_ck ?_
    refine fr_bind (frY_X1_turn (g 37 (Int32.toNatClampNeg a0)) 1 g) (z_tch_sub rfl) hg (fun r4 g5 hg5 => ?_)
    exact frY_X7_actBy_101 g5 hg5
  · refine fr_ite ?_ ?_
    · refine fr_ck ?_
      refine fr_bind (frY_X1_turn (g 37 (Int32.toNatClampNeg a0)) 0 g) (z_tch_sub rfl) hg (fun r9 g10 hg10 => ?_)
      exact frY_X7_actBy_101 g10 hg10
    · refine fr_ite ?_ ?_
      · refine fr_bind (frY_X2_mend g) (z_tch_sub rfl) hg (fun r13 g14 hg14 => ?_)
        exact frY_X7_actBy_101 g14 hg14
      · refine fr_bind (frY_X1_shutAll g) (z_tch_sub rfl) hg (fun r16 g17 hg17 => ?_)
        exact frY_X7_actBy_101 g17 hg17
theorem frY_X7_actByRules_59 {g0 : z_G} (k4 : Int32 × Int32 × z_G → Option (Int32 × z_G)) (hk4 : ∀ w, z_ag (z_tch [15, 23, 43] []) g0 w.2.2 → z_Fr (z_tch [15, 23, 43] []) g0 (k4 w)) (x1 : Int32) (x2 : Int32) (g : z_G) (hg : z_ag (z_tch [15, 23, 43] []) g0 g) : z_Fr (z_tch [15, 23, 43] []) g0 (fY_X7_actByRules_59 k4 x1 x2 g) := by
  unfold fY_X7_actByRules_59
  refine fr_letI (fun y1 => ?_)
  exact hk4 (x1, y1, g) hg
theorem frY_X7_actByRules_4 {g0 : z_G} (k4 : Int32 × Int32 × z_G → Option (Int32 × z_G)) (hk4 : ∀ w, z_ag (z_tch [15, 23, 43] []) g0 w.2.2 → z_Fr (z_tch [15, 23, 43] []) g0 (k4 w)) (x1 : Int32) (x2 : Int32) (g : z_G) (hg : z_ag (z_tch [15, 23, 43] []) g0 g) : z_Fr (z_tch [15, 23, 43] []) g0 (fY_X7_actByRules_4 k4 x1 x2 g) := by
  unfold fY_X7_actByRules_4
  refine fr_ite ?_ ?_
  · exact fr_some hg
  · refine fr_bind (frY_X1_countOpen g) (z_tch_sub rfl) hg (fun r3 g4 hg4 => ?_)
    refine fr_bind (frY_X4_see 4 r3 g4) (z_tch_sub rfl) hg4 (fun r6 g7 hg7 => ?_)
    refine fr_bind (frY_X4_holdsAt x2 (g7 3 0) g7) (z_tch_sub rfl) hg7 (fun r9 g10 hg10 => ?_)
    refine fr_ite ?_ ?_
    · exact frY_X7_actByRules_59 k4 hk4 x1 x2 g10 hg10
    · refine fr_bind (frY_X7_actBy x2 g10) (z_tch_sub rfl) hg10 (fun r13 g14 hg14 => ?_)
      refine fr_letI (fun y16 => ?_)
      exact frY_X7_actByRules_59 k4 hk4 y16 x2 g14 hg14
theorem frY_X7_actByRules_4_go {g0 : z_G} (x1 : Int32) (x2 : Int32) (g : z_G) (hg : z_ag (z_tch [15, 23, 43] []) g0 g) : z_Fr (z_tch [15, 23, 43] []) g0 (fY_X7_actByRules_4_go x1 x2 g) := by
  refine fr_loop (P := fun w : Int32 × Int32 × z_G => z_ag (z_tch [15, 23, 43] []) g0 w.2.2) (fun k hk w hw => ?_) z_fuel (x1, x2, g) hg
  exact frY_X7_actByRules_4 k hk w.1 w.2.1 w.2.2 hw
theorem frY_X7_actByRules (g : z_G) : z_Fr (z_tch [15, 23, 43] []) g (fY_X7_actByRules g) := by
  have hg : z_ag (z_tch [15, 23, 43] []) g g := fr_rf
  unfold fY_X7_actByRules
  exact frY_X7_actByRules_4_go 0 0 g hg
theorem frY_X2_sum_r14_4 {g0 : z_G} (k4 : Int32 × Int32 × z_G → Option (Int32 × z_G)) (hk4 : ∀ w, z_ag (z_tch [] []) g0 w.2.2 → z_Fr (z_tch [] []) g0 (k4 w)) (x2 : Int32) (x3 : Int32) (g : z_G) (hg : z_ag (z_tch [] []) g0 g) : z_Fr (z_tch [] []) g0 (fY_X2_sum_r14_4 k4 x2 x3 g) := by
  unfold fY_X2_sum_r14_4
  refine fr_ite ?_ ?_
  · exact fr_some hg
  · refine fr_ck ?_
    refine fr_letI (fun y3 => ?_)
    refine fr_letI (fun y4 => ?_)
    exact hk4 (y3, y4, g) hg
theorem frY_X2_sum_r14_4_go {g0 : z_G} (x2 : Int32) (x3 : Int32) (g : z_G) (hg : z_ag (z_tch [] []) g0 g) : z_Fr (z_tch [] []) g0 (fY_X2_sum_r14_4_go x2 x3 g) := by
  refine fr_loop (P := fun w : Int32 × Int32 × z_G => z_ag (z_tch [] []) g0 w.2.2) (fun k hk w hw => ?_) z_fuel (x2, x3, g) hg
  exact frY_X2_sum_r14_4 k hk w.1 w.2.1 w.2.2 hw
theorem frY_X2_sum_r14 (g : z_G) : z_Fr (z_tch [] []) g (fY_X2_sum_r14 g) := by
  have hg : z_ag (z_tch [] []) g g := fr_rf
  unfold fY_X2_sum_r14
  exact frY_X2_sum_r14_4_go 0 0 g hg
theorem frY_X7_workHour (a0 : Int32) (a1 : Int32) (g : z_G) : z_Fr (z_tch [10, 11, 12, 13, 14, 15, 16, 19, 21, 23, 25, 26, 27, 28, 29, 30, 43] [(1, 2), (1, 3), (3, 0)]) g (fY_X7_workHour a0 a1 g) := by
  have hg : z_ag (z_tch [10, 11, 12, 13, 14, 15, 16, 19, 21, 23, 25, 26, 27, 28, 29, 30, 43] [(1, 2), (1, 3), (3, 0)]) g g := fr_rf
  unfold fY_X7_workHour
  refine fr_bind (frY_X2_breathe_r2 (4 + a1) g) (z_tch_sub rfl) hg (fun r1 g2 hg2 => ?_)
  refine fr_bind (frY_X2_burn g2) (z_tch_sub rfl) hg2 (fun r4 g5 hg5 => ?_)
  refine fr_bind (frY_X2_warm g5) (z_tch_sub rfl) hg5 (fun r7 g8 hg8 => ?_)
  refine fr_bind (frY_X2_sink (g8 3 0) g8) (z_tch_sub rfl) hg8 (fun r10 g11 hg11 => ?_)
  refine fr_bind (frY_X2_soak a0 g11) (z_tch_sub rfl) hg11 (fun r13 g14 hg14 => ?_)
  refine fr_bind (frY_X2_countBare g14) (z_tch_sub rfl) hg14 (fun r16 g17 hg17 => ?_)
  refine fr_bind (frY_X7_look r4 r16 g17) (z_tch_sub rfl) hg17 (fun r19 g20 hg20 => ?_)
  refine fr_bind (frY_X4_see 5 a0 g20) (z_tch_sub rfl) hg20 (fun r22 g23 hg23 => ?_)
  refine fr_bind (frY_X4_see 6 a1 g23) (z_tch_sub rfl) hg23 (fun r25 g26 hg26 => ?_)
  refine fr_bind (frY_X7_actByRules g26) (z_tch_sub rfl) hg26 (fun r28 g29 hg29 => ?_)
  refine fr_bind (frY_X2_sum_r14 g29) (z_tch_sub rfl) hg29 (fun r31 g32 hg32 => ?_)
  refine fr_bind (frY_X0_note a0 a1 r4 r28 r31 r16 g32) (z_tch_sub rfl) hg32 (fun r34 g35 hg35 => ?_)
  exact fr_some hg35
theorem frY_X7_hour_25 {g0 : z_G} (g : z_G) (hg : z_ag (z_tch [10, 11, 12, 13, 14, 15, 16, 19, 21, 23, 25, 26, 27, 28, 29, 30, 43] [(1, 2), (1, 3), (3, 0)]) g0 g) : z_Fr (z_tch [10, 11, 12, 13, 14, 15, 16, 19, 21, 23, 25, 26, 27, 28, 29, 30, 43] [(1, 2), (1, 3), (3, 0)]) g0 (fY_X7_hour_25 g) := by
  unfold fY_X7_hour_25
  exact fr_some hg
theorem frY_X7_hour (a0 : Int32) (a1 : Int32) (g : z_G) : z_Fr (z_tch [10, 11, 12, 13, 14, 15, 16, 19, 21, 23, 25, 26, 27, 28, 29, 30, 43] [(1, 2), (1, 3), (3, 0)]) g (fY_X7_hour a0 a1 g) := by
  have hg : z_ag (z_tch [10, 11, 12, 13, 14, 15, 16, 19, 21, 23, 25, 26, 27, 28, 29, 30, 43] [(1, 2), (1, 3), (3, 0)]) g g := fr_rf
  unfold fY_X7_hour
  refine fr_ite ?_ ?_
  · exact frY_X7_hour_25 g hg
  · refine fr_bind (frY_X7_isWeather a0 a1 g) (z_tch_sub rfl) hg (fun r2 g3 hg3 => ?_)
    refine fr_ite ?_ ?_
    · exact frY_X7_hour_25 g3 hg3
    · refine fr_bind (frY_X0_isFull g3) (z_tch_sub rfl) hg3 (fun r6 g7 hg7 => ?_)
      refine fr_ite ?_ ?_
      · refine fr_bind (frY_X7_workHour a0 a1 g7) (z_tch_sub rfl) hg7 (fun r10 g11 hg11 => ?_)
        exact fr_some hg11
      · exact frY_X7_hour_25 g7 hg7
theorem frY_X7_handleAllOf_63 {g0 : z_G} (x3 : Int32) (g : z_G) (hg : z_ag (z_tch [15, 23] []) g0 g) : z_Fr (z_tch [15, 23] []) g0 (fY_X7_handleAllOf_63 x3 g) := by
  unfold fY_X7_handleAllOf_63
  exact fr_some hg
theorem frY_X7_handleAllOf_2 {g0 : z_G} (k2 : Int32 × Int32 × z_G → Option (Int32 × z_G)) (hk2 : ∀ w, z_ag (z_tch [15, 23] []) g0 w.2.2 → z_Fr (z_tch [15, 23] []) g0 (k2 w)) (x1 : Int32) (x3 : Int32) (g : z_G) (hg : z_ag (z_tch [15, 23] []) g0 g) : z_Fr (z_tch [15, 23] []) g0 (fY_X7_handleAllOf_2 k2 x1 x3 g) := by
  unfold fY_X7_handleAllOf_2
  refine fr_ite ?_ ?_
  · exact frY_X7_handleAllOf_63 x3 g hg
  · refine fr_ck ?_
    refine fr_ite ?_ ?_
    · refine fr_ck ?_
      refine fr_ck ?_
      refine fr_ck ?_
      refine fr_bind (frY_X7_handle (g 32 (Int32.toNatClampNeg x3)) (g 33 (Int32.toNatClampNeg x3)) (g 34 (Int32.toNatClampNeg x3)) g) (z_tch_sub rfl) hg (fun r7 g8 hg8 => ?_)
      refine fr_letI (fun y10 => ?_)
      exact hk2 (x1, y10, g8) hg8
    · exact frY_X7_handleAllOf_63 x3 g hg
theorem frY_X7_handleAllOf_2_go {g0 : z_G} (x1 : Int32) (x3 : Int32) (g : z_G) (hg : z_ag (z_tch [15, 23] []) g0 g) : z_Fr (z_tch [15, 23] []) g0 (fY_X7_handleAllOf_2_go x1 x3 g) := by
  refine fr_loop (P := fun w : Int32 × Int32 × z_G => z_ag (z_tch [15, 23] []) g0 w.2.2) (fun k hk w hw => ?_) z_fuel (x1, x3, g) hg
  exact frY_X7_handleAllOf_2 k hk w.1 w.2.1 w.2.2 hw
theorem frY_X7_handleAllOf (a0 : Int32) (a1 : Int32) (g : z_G) : z_Fr (z_tch [15, 23] []) g (fY_X7_handleAllOf a0 a1 g) := by
  have hg : z_ag (z_tch [15, 23] []) g g := fr_rf
  unfold fY_X7_handleAllOf
  exact frY_X7_handleAllOf_2_go a0 a1 g hg
theorem frY_X7_workAgain_34 {g0 : z_G} (k34 : Int32 × Int32 × Int32 × z_G → Option (Int32 × z_G)) (hk34 : ∀ w, z_ag (z_tch [10, 11, 12, 13, 14, 15, 16, 19, 21, 23, 25, 26, 27, 28, 29, 30, 43] [(1, 2), (1, 3), (3, 0)]) g0 w.2.2.2 → z_Fr (z_tch [10, 11, 12, 13, 14, 15, 16, 19, 21, 23, 25, 26, 27, 28, 29, 30, 43] [(1, 2), (1, 3), (3, 0)]) g0 (k34 w)) (x1 : Int32) (x2 : Int32) (x3 : Int32) (g : z_G) (hg : z_ag (z_tch [10, 11, 12, 13, 14, 15, 16, 19, 21, 23, 25, 26, 27, 28, 29, 30, 43] [(1, 2), (1, 3), (3, 0)]) g0 g) : z_Fr (z_tch [10, 11, 12, 13, 14, 15, 16, 19, 21, 23, 25, 26, 27, 28, 29, 30, 43] [(1, 2), (1, 3), (3, 0)]) g0 (fY_X7_workAgain_34 k34 x1 x2 x3 g) := by
  unfold fY_X7_workAgain_34
  refine fr_ite ?_ ?_
  · refine fr_bind (frY_X7_handleAllOf x1 x2 g) (z_tch_sub rfl) hg (fun r2 g3 hg3 => ?_)
    exact fr_some hg3
  · refine fr_bind (frY_X7_handleAllOf x3 x2 g) (z_tch_sub rfl) hg (fun r5 g6 hg6 => ?_)
    refine fr_ck ?_
    refine fr_ck ?_
    refine fr_bind (frY_X7_workHour (g6 25 (Int32.toNatClampNeg x3)) (g6 26 (Int32.toNatClampNeg x3)) g6) (z_tch_sub rfl) hg6 (fun r10 g11 hg11 => ?_)
    refine fr_letI (fun y13 => ?_)
    exact hk34 (x1, r5, y13, g11) hg11
theorem frY_X7_workAgain_34_go {g0 : z_G} (x1 : Int32) (x2 : Int32) (x3 : Int32) (g : z_G) (hg : z_ag (z_tch [10, 11, 12, 13, 14, 15, 16, 19, 21, 23, 25, 26, 27, 28, 29, 30, 43] [(1, 2), (1, 3), (3, 0)]) g0 g) : z_Fr (z_tch [10, 11, 12, 13, 14, 15, 16, 19, 21, 23, 25, 26, 27, 28, 29, 30, 43] [(1, 2), (1, 3), (3, 0)]) g0 (fY_X7_workAgain_34_go x1 x2 x3 g) := by
  refine fr_loop (P := fun w : Int32 × Int32 × Int32 × z_G => z_ag (z_tch [10, 11, 12, 13, 14, 15, 16, 19, 21, 23, 25, 26, 27, 28, 29, 30, 43] [(1, 2), (1, 3), (3, 0)]) g0 w.2.2.2) (fun k hk w hw => ?_) z_fuel (x1, x2, x3, g) hg
  exact frY_X7_workAgain_34 k hk w.1 w.2.1 w.2.2.1 w.2.2.2 hw
theorem frY_X7_workAgain (g : z_G) : z_Fr (z_tch [10, 11, 12, 13, 14, 15, 16, 19, 21, 23, 25, 26, 27, 28, 29, 30, 43] [(1, 2), (1, 3), (3, 0)]) g (fY_X7_workAgain g) := by
  have hg : z_ag (z_tch [10, 11, 12, 13, 14, 15, 16, 19, 21, 23, 25, 26, 27, 28, 29, 30, 43] [(1, 2), (1, 3), (3, 0)]) g g := fr_rf
  unfold fY_X7_workAgain
  refine fr_letI (fun y14 => ?_)
  refine fr_bind (frY_X2_backToLight g) (z_tch_sub rfl) hg (fun r15 g16 hg16 => ?_)
  refine fr_bind (frY_X1_backToLight g16) (z_tch_sub rfl) hg16 (fun r18 g19 hg19 => ?_)
  refine fr_letG (fr_up hg19 rfl) (fun g21 hg21 => ?_)
  exact frY_X7_workAgain_34_go y14 0 0 g21 hg21
theorem frY_X2_sum_r11_4 {g0 : z_G} (k4 : Int32 × Int32 × z_G → Option (Int32 × z_G)) (hk4 : ∀ w, z_ag (z_tch [] []) g0 w.2.2 → z_Fr (z_tch [] []) g0 (k4 w)) (x2 : Int32) (x3 : Int32) (g : z_G) (hg : z_ag (z_tch [] []) g0 g) : z_Fr (z_tch [] []) g0 (fY_X2_sum_r11_4 k4 x2 x3 g) := by
  unfold fY_X2_sum_r11_4
  refine fr_ite ?_ ?_
  · exact fr_some hg
  · refine fr_ck ?_
    refine fr_letI (fun y3 => ?_)
    refine fr_letI (fun y4 => ?_)
    exact hk4 (y3, y4, g) hg
theorem frY_X2_sum_r11_4_go {g0 : z_G} (x2 : Int32) (x3 : Int32) (g : z_G) (hg : z_ag (z_tch [] []) g0 g) : z_Fr (z_tch [] []) g0 (fY_X2_sum_r11_4_go x2 x3 g) := by
  refine fr_loop (P := fun w : Int32 × Int32 × z_G => z_ag (z_tch [] []) g0 w.2.2) (fun k hk w hw => ?_) z_fuel (x2, x3, g) hg
  exact frY_X2_sum_r11_4 k hk w.1 w.2.1 w.2.2 hw
theorem frY_X2_sum_r11 (g : z_G) : z_Fr (z_tch [] []) g (fY_X2_sum_r11 g) := by
  have hg : z_ag (z_tch [] []) g g := fr_rf
  unfold fY_X2_sum_r11
  exact frY_X2_sum_r11_4_go 0 0 g hg
theorem frY_X7_again_19 {g0 : z_G} (g : z_G) (hg : z_ag (z_tch [10, 11, 12, 13, 14, 15, 16, 19, 21, 23, 25, 26, 27, 28, 29, 30, 43] [(1, 2), (1, 3), (3, 0)]) g0 g) : z_Fr (z_tch [10, 11, 12, 13, 14, 15, 16, 19, 21, 23, 25, 26, 27, 28, 29, 30, 43] [(1, 2), (1, 3), (3, 0)]) g0 (fY_X7_again_19 g) := by
  unfold fY_X7_again_19
  exact fr_some hg
theorem frY_X7_again (a0 : Int32) (a1 : Int32) (a2 : Int32) (g : z_G) : z_Fr (z_tch [10, 11, 12, 13, 14, 15, 16, 19, 21, 23, 25, 26, 27, 28, 29, 30, 43] [(1, 2), (1, 3), (3, 0)]) g (fY_X7_again a0 a1 a2 g) := by
  have hg : z_ag (z_tch [10, 11, 12, 13, 14, 15, 16, 19, 21, 23, 25, 26, 27, 28, 29, 30, 43] [(1, 2), (1, 3), (3, 0)]) g g := fr_rf
  unfold fY_X7_again
  refine fr_bind (frY_X0_has a0 g) (z_tch_sub rfl) hg (fun r1 g2 hg2 => ?_)
  refine fr_ite ?_ ?_
  · exact frY_X7_again_19 g2 hg2
  · refine fr_bind (frY_X7_isWeather a1 a2 g2) (z_tch_sub rfl) hg2 (fun r5 g6 hg6 => ?_)
    refine fr_ite ?_ ?_
    · exact frY_X7_again_19 g6 hg6
    · refine fr_ck ?_
      refine fr_letG (fr_up hg6 (z_tch_row rfl _)) (fun g10 hg10 => ?_)
      refine fr_ck ?_
      refine fr_letG (fr_up hg10 (z_tch_row rfl _)) (fun g12 hg12 => ?_)
      refine fr_bind (frY_X7_workAgain g12) (z_tch_sub rfl) hg12 (fun r13 g14 hg14 => ?_)
      refine fr_bind (frY_X2_sum_r11 g14) (z_tch_sub rfl) hg14 (fun r16 g17 hg17 => ?_)
      exact fr_some hg17
theorem frY_X7_rake (g : z_G) : z_Fr (z_tch [8, 9, 10, 11, 12, 13, 14, 15, 16, 17, 18, 19, 20, 23] [(0, 7), (0, 9), (1, 0), (1, 1), (1, 2), (1, 3), (1, 4), (3, 0), (3, 7)]) g (fY_X7_rake g) := by
  have hg : z_ag (z_tch [8, 9, 10, 11, 12, 13, 14, 15, 16, 17, 18, 19, 20, 23] [(0, 7), (0, 9), (1, 0), (1, 1), (1, 2), (1, 3), (1, 4), (3, 0), (3, 7)]) g g := fr_rf
  unfold fY_X7_rake
  refine fr_ite ?_ ?_
  · exact fr_some hg
  · refine fr_bind (frY_X2_sum_r11 g) (z_tch_sub rfl) hg (fun r2 g3 hg3 => ?_)
    refine fr_letI (fun y5 => ?_)
    refine fr_letG (fr_up hg3 rfl) (fun g6 hg6 => ?_)
    refine fr_bind (frY_X2_build (g6 1 0) (g6 1 1) g6) (z_tch_sub rfl) hg6 (fun r7 g8 hg8 => ?_)
    refine fr_bind (frY_X1_shutAll g8) (z_tch_sub rfl) hg8 (fun r10 g11 hg11 => ?_)
    refine fr_bind (frY_X0_forget g11) (z_tch_sub rfl) hg11 (fun r13 g14 hg14 => ?_)
    refine fr_letG (fr_up hg14 rfl) (fun g16 hg16 => ?_)
    exact fr_some hg16
theorem frY_X7_count_124 {g0 : z_G} (s0 : Int32) (g : z_G) (hg : z_ag (z_tch [] []) g0 g) : z_Fr (z_tch [] []) g0 (fY_X7_count_124 s0 g) := by
  unfold fY_X7_count_124
  exact fr_some hg
theorem frY_X7_count (a0 : Int32) (g : z_G) : z_Fr (z_tch [] []) g (fY_X7_count a0 g) := by
  have hg : z_ag (z_tch [] []) g g := fr_rf
  unfold fY_X7_count
  refine fr_ite ?_ ?_
  · exact fr_some hg
  · refine fr_ite ?_ ?_
    · exact fr_some hg
    · refine fr_ite ?_ ?_
      · exact fr_some hg
      · refine fr_ite ?_ ?_
        · refine fr_bind (frY_X1_countOpen g) (z_tch_sub rfl) hg (fun r5 g6 hg6 => ?_)
          exact fr_some hg6
        · refine fr_ite ?_ ?_
          · exact fr_some hg
          · refine fr_ite ?_ ?_
            · exact fr_some hg
            · refine fr_ite ?_ ?_
              · refine fr_ite ?_ ?_
                · exact frY_X7_count_124 0 g hg
                · exact frY_X7_count_124 1 g hg
              · refine fr_ite ?_ ?_
                · refine fr_bind (frY_X2_sum_r14 g) (z_tch_sub rfl) hg (fun r13 g14 hg14 => ?_)
                  exact fr_some hg14
                · refine fr_ite ?_ ?_
                  · exact fr_some hg
                  · refine fr_ite ?_ ?_
                    · exact fr_some hg
                    · refine fr_ite ?_ ?_
                      · exact fr_some hg
                      · refine fr_ite ?_ ?_
                        · exact fr_some hg
                        · exact fr_some hg
theorem frY_X7_cell_22 {g0 : z_G} (g : z_G) (hg : z_ag (z_tch [] []) g0 g) : z_Fr (z_tch [] []) g0 (fY_X7_cell_22 g) := by
  unfold fY_X7_cell_22
  exact fr_none
theorem frY_X7_cell_170 {g0 : z_G} (s0 : Int32) (g : z_G) (hg : z_ag (z_tch [] []) g0 g) : z_Fr (z_tch [] []) g0 (fY_X7_cell_170 s0 g) := by
  unfold fY_X7_cell_170
  exact fr_some hg
theorem frY_X7_cell (a0 : Int32) (a1 : Int32) (a2 : Int32) (g : z_G) : z_Fr (z_tch [] []) g (fY_X7_cell a0 a1 a2 g) := by
  have hg : z_ag (z_tch [] []) g g := fr_rf
  unfold fY_X7_cell
  refine fr_bind (frY_X2_holds a0 a1 g) (z_tch_sub rfl) hg (fun r1 g2 hg2 => ?_)
  refine fr_ite ?_ ?_
  · exact frY_X7_cell_22 g2 hg2
  · refine fr_ite ?_ ?_
    · exact frY_X7_cell_22 g2 hg2
    · refine fr_ite ?_ ?_
      · refine fr_bind (frY_X2_at a0 a1 g2) (z_tch_sub rfl) hg2 (fun r7 g8 hg8 => ?_)
        refine fr_ite ?_ ?_
        · refine fr_ck ?_
          exact fr_some hg8
        · refine fr_ite ?_ ?_
          · refine fr_ck ?_
            exact fr_some hg8
          · refine fr_ite ?_ ?_
            · refine fr_ck ?_
              exact fr_some hg8
            · refine fr_ite ?_ ?_
              · refine fr_ck ?_
                exact fr_some hg8
              · refine fr_ite ?_ ?_
                · refine fr_ck ?_
                  exact fr_some hg8
                · refine fr_ite ?_ ?_
                  · refine fr_ck ?_
                    refine fr_ite ?_ ?_
                    · exact frY_X7_cell_170 (-1) g8 hg8
                    · refine fr_ck ?_
                      exact frY_X7_cell_170 (g8 15 (Int32.toNatClampNeg r7)) g8 hg8
                  · refine fr_ite ?_ ?_
                    · refine fr_ck ?_
                      exact fr_some hg8
                    · refine fr_ite ?_ ?_
                      · refine fr_ck ?_
                        exact fr_some hg8
                      · refine fr_ck ?_
                        exact fr_some hg8
      · exact frY_X7_cell_22 g2 hg2
theorem frY_X2_sum_r17_4 {g0 : z_G} (k4 : Int32 × Int32 × z_G → Option (Int32 × z_G)) (hk4 : ∀ w, z_ag (z_tch [] []) g0 w.2.2 → z_Fr (z_tch [] []) g0 (k4 w)) (x2 : Int32) (x3 : Int32) (g : z_G) (hg : z_ag (z_tch [] []) g0 g) : z_Fr (z_tch [] []) g0 (fY_X2_sum_r17_4 k4 x2 x3 g) := by
  unfold fY_X2_sum_r17_4
  refine fr_ite ?_ ?_
  · exact fr_some hg
  · refine fr_ck ?_
    refine fr_letI (fun y3 => ?_)
    refine fr_letI (fun y4 => ?_)
    exact hk4 (y3, y4, g) hg
theorem frY_X2_sum_r17_4_go {g0 : z_G} (x2 : Int32) (x3 : Int32) (g : z_G) (hg : z_ag (z_tch [] []) g0 g) : z_Fr (z_tch [] []) g0 (fY_X2_sum_r17_4_go x2 x3 g) := by
  refine fr_loop (P := fun w : Int32 × Int32 × z_G => z_ag (z_tch [] []) g0 w.2.2) (fun k hk w hw => ?_) z_fuel (x2, x3, g) hg
  exact frY_X2_sum_r17_4 k hk w.1 w.2.1 w.2.2 hw
theorem frY_X2_sum_r17 (g : z_G) : z_Fr (z_tch [] []) g (fY_X2_sum_r17 g) := by
  have hg : z_ag (z_tch [] []) g g := fr_rf
  unfold fY_X2_sum_r17
  exact frY_X2_sum_r17_4_go 0 0 g hg
theorem frY_X2_sum_r10_4 {g0 : z_G} (k4 : Int32 × Int32 × z_G → Option (Int32 × z_G)) (hk4 : ∀ w, z_ag (z_tch [] []) g0 w.2.2 → z_Fr (z_tch [] []) g0 (k4 w)) (x2 : Int32) (x3 : Int32) (g : z_G) (hg : z_ag (z_tch [] []) g0 g) : z_Fr (z_tch [] []) g0 (fY_X2_sum_r10_4 k4 x2 x3 g) := by
  unfold fY_X2_sum_r10_4
  refine fr_ite ?_ ?_
  · exact fr_some hg
  · refine fr_ck ?_
    refine fr_letI (fun y3 => ?_)
    refine fr_letI (fun y4 => ?_)
    exact hk4 (y3, y4, g) hg
theorem frY_X2_sum_r10_4_go {g0 : z_G} (x2 : Int32) (x3 : Int32) (g : z_G) (hg : z_ag (z_tch [] []) g0 g) : z_Fr (z_tch [] []) g0 (fY_X2_sum_r10_4_go x2 x3 g) := by
  refine fr_loop (P := fun w : Int32 × Int32 × z_G => z_ag (z_tch [] []) g0 w.2.2) (fun k hk w hw => ?_) z_fuel (x2, x3, g) hg
  exact frY_X2_sum_r10_4 k hk w.1 w.2.1 w.2.2 hw
theorem frY_X2_sum_r10 (g : z_G) : z_Fr (z_tch [] []) g (fY_X2_sum_r10 g) := by
  have hg : z_ag (z_tch [] []) g g := fr_rf
  unfold fY_X2_sum_r10
  exact frY_X2_sum_r10_4_go 0 0 g hg
theorem frY_X7_all (a0 : Int32) (g : z_G) : z_Fr (z_tch [] []) g (fY_X7_all a0 g) := by
  have hg : z_ag (z_tch [] []) g g := fr_rf
  unfold fY_X7_all
  refine fr_ite ?_ ?_
  · refine fr_bind (frY_X2_sum_r17 g) (z_tch_sub rfl) hg (fun r2 g3 hg3 => ?_)
    exact fr_some hg3
  · refine fr_ite ?_ ?_
    · refine fr_bind (frY_X2_sum_r10 g) (z_tch_sub rfl) hg (fun r6 g7 hg7 => ?_)
      exact fr_some hg7
    · refine fr_ite ?_ ?_
      · refine fr_bind (frY_X2_sum_r11 g) (z_tch_sub rfl) hg (fun r10 g11 hg11 => ?_)
        exact fr_some hg11
      · refine fr_ite ?_ ?_
        · exact fr_some hg
        · refine fr_ite ?_ ?_
          · exact fr_some hg
          · exact fr_some hg
theorem frY_X7_told (a0 : Int32) (a1 : Int32) (g : z_G) : z_Fr (z_tch [] []) g (fY_X7_told a0 a1 g) := by
  have hg : z_ag (z_tch [] []) g g := fr_rf
  unfold fY_X7_told
  refine fr_bind (frY_X0_has a0 g) (z_tch_sub rfl) hg (fun r1 g2 hg2 => ?_)
  refine fr_ite ?_ ?_
  · exact fr_some hg2
  · refine fr_ite ?_ ?_
    · refine fr_ck ?_
      exact fr_some hg2
    · refine fr_ite ?_ ?_
      · refine fr_ck ?_
        exact fr_some hg2
      · refine fr_ite ?_ ?_
        · refine fr_ck ?_
          exact fr_some hg2
        · refine fr_ite ?_ ?_
          · refine fr_ck ?_
            exact fr_some hg2
          · refine fr_ite ?_ ?_
            · refine fr_ck ?_
              exact fr_some hg2
            · refine fr_ite ?_ ?_
              · refine fr_ck ?_
                exact fr_some hg2
              · exact fr_some hg2
theorem frY_X7_breach_33 {g0 : z_G} (s0 : Int32) (g : z_G) (hg : z_ag (z_tch [] []) g0 g) : z_Fr (z_tch [] []) g0 (fY_X7_breach_33 s0 g) := by
  unfold fY_X7_breach_33
  exact fr_some hg
theorem frY_X7_breach (a0 : Int32) (a1 : Int32) (g : z_G) : z_Fr (z_tch [] []) g (fY_X7_breach a0 a1 g) := by
  have hg : z_ag (z_tch [] []) g g := fr_rf
  unfold fY_X7_breach
  refine fr_bind (frY_X2_holds a0 a1 g) (z_tch_sub rfl) hg (fun r1 g2 hg2 => ?_)
  refine fr_ite ?_ ?_
  · exact frY_X7_breach_33 (-1) g2 hg2
  · refine fr_bind (frY_X2_at a0 a1 g2) (z_tch_sub rfl) hg2 (fun r5 g6 hg6 => ?_)
    refine fr_ck ?_
    exact frY_X7_breach_33 (g6 19 (Int32.toNatClampNeg r5)) g6 hg6
theorem frY_X7_sign (a0 : Int32) (g : z_G) : z_Fr (z_tch [35] [(4, 0)]) g (fY_X7_sign a0 g) := by
  have hg : z_ag (z_tch [35] [(4, 0)]) g g := fr_rf
  unfold fY_X7_sign
  refine fr_bind (frY_X5_addFour a0 g) (z_tch_sub rfl) hg (fun r1 g2 hg2 => ?_)
  exact fr_some hg2
theorem frY_X7_end_15 {g0 : z_G} (g : z_G) (hg : z_ag (z_tch [] [(4, 0)]) g0 g) : z_Fr (z_tch [] [(4, 0)]) g0 (fY_X7_end_15 g) := by
  unfold fY_X7_end_15
  refine fr_bo ?_
  exact fr_some hg
theorem frY_X7_end (a0 : Int32) (g : z_G) : z_Fr (z_tch [] [(4, 0)]) g (fY_X7_end a0 g) := by
  have hg : z_ag (z_tch [] [(4, 0)]) g g := fr_rf
  unfold fY_X7_end
  refine fr_ite ?_ ?_
  · exact frY_X7_end_15 g hg
  · refine fr_ite ?_ ?_
    · refine fr_letG (fr_up hg rfl) (fun g3 hg3 => ?_)
      refine fr_bo ?_
      exact fr_some hg3
    · exact frY_X7_end_15 g hg
theorem frY_X7_acceptTape_44 {g0 : z_G} (s0 : Int32) (g : z_G) (hg : z_ag (z_tch [36, 37, 38, 39, 40, 41, 42] [(5, 0), (6, 2), (6, 3)]) g0 g) : z_Fr (z_tch [36, 37, 38, 39, 40, 41, 42] [(5, 0), (6, 2), (6, 3)]) g0 (fY_X7_acceptTape_44 s0 g) := by
  unfold fY_X7_acceptTape_44
  exact fr_some hg
theorem frY_X7_acceptTape_35 {g0 : z_G} (s0 : Int32) (g : z_G) (hg : z_ag (z_tch [36, 37, 38, 39, 40, 41, 42] [(5, 0), (6, 2), (6, 3)]) g0 g) : z_Fr (z_tch [36, 37, 38, 39, 40, 41, 42] [(5, 0), (6, 2), (6, 3)]) g0 (fY_X7_acceptTape_35 s0 g) := by
  unfold fY_X7_acceptTape_35
  refine fr_bind (frY_X4_accept s0 g) (z_tch_sub rfl) hg (fun r1 g2 hg2 => ?_)
  exact frY_X7_acceptTape_44 r1 g2 hg2
theorem frY_X7_acceptTape (g : z_G) : z_Fr (z_tch [36, 37, 38, 39, 40, 41, 42] [(5, 0), (6, 2), (6, 3)]) g (fY_X7_acceptTape g) := by
  have hg : z_ag (z_tch [36, 37, 38, 39, 40, 41, 42] [(5, 0), (6, 2), (6, 3)]) g g := fr_rf
  unfold fY_X7_acceptTape
  refine fr_bind (frY_X3_findFault g) (z_tch_sub rfl) hg (fun r4 g5 hg5 => ?_)
  refine fr_ite ?_ ?_
  · refine fr_ite ?_ ?_
    · exact frY_X7_acceptTape_35 0 g5 hg5
    · exact frY_X7_acceptTape_35 (g5 3 0) g5 hg5
  · exact frY_X7_acceptTape_44 ((-1) - r4) g5 hg5
theorem frY_X7_rule_19 {g0 : z_G} (s0 : Int32) (g : z_G) (hg : z_ag (z_tch [36, 37, 38, 39, 40, 41, 42] [(4, 0), (5, 0), (6, 2), (6, 3)]) g0 g) : z_Fr (z_tch [36, 37, 38, 39, 40, 41, 42] [(4, 0), (5, 0), (6, 2), (6, 3)]) g0 (fY_X7_rule_19 s0 g) := by
  unfold fY_X7_rule_19
  refine fr_letG (fr_up hg rfl) (fun g1 hg1 => ?_)
  exact fr_some hg1
theorem frY_X7_rule (g : z_G) : z_Fr (z_tch [36, 37, 38, 39, 40, 41, 42] [(4, 0), (5, 0), (6, 2), (6, 3)]) g (fY_X7_rule g) := by
  have hg : z_ag (z_tch [36, 37, 38, 39, 40, 41, 42] [(4, 0), (5, 0), (6, 2), (6, 3)]) g g := fr_rf
  unfold fY_X7_rule
  refine fr_bind (frY_X4_isFull g) (z_tch_sub rfl) hg (fun r2 g3 hg3 => ?_)
  refine fr_ite ?_ ?_
  · refine fr_bind (frY_X7_acceptTape g3) (z_tch_sub rfl) hg3 (fun r6 g7 hg7 => ?_)
    exact frY_X7_rule_19 r6 g7 hg7
  · exact frY_X7_rule_19 (-100) g3 hg3
theorem frY_X7_repeal (g : z_G) : z_Fr (z_tch [] [(5, 0)]) g (fY_X7_repeal g) := by
  have hg : z_ag (z_tch [] [(5, 0)]) g g := fr_rf
  unfold fY_X7_repeal
  refine fr_ite ?_ ?_
  · refine fr_letI (fun y2 => ?_)
    refine fr_letG (fr_up hg rfl) (fun g3 hg3 => ?_)
    exact fr_some hg3
  · exact fr_some hg
theorem frY_X7_wood_34 {g0 : z_G} (g : z_G) (hg : z_ag (z_tch [44, 45, 46] [(7, 0)]) g0 g) : z_Fr (z_tch [44, 45, 46] [(7, 0)]) g0 (fY_X7_wood_34 g) := by
  unfold fY_X7_wood_34
  exact fr_some hg
theorem frY_X7_wood (a0 : Int32) (a1 : Int32) (a2 : Int32) (g : z_G) : z_Fr (z_tch [44, 45, 46] [(7, 0)]) g (fY_X7_wood a0 a1 a2 g) := by
  have hg : z_ag (z_tch [44, 45, 46] [(7, 0)]) g g := fr_rf
  unfold fY_X7_wood
  refine fr_ite ?_ ?_
  · exact frY_X7_wood_34 g hg
  · refine fr_ite ?_ ?_
    · exact frY_X7_wood_34 g hg
    · refine fr_ite ?_ ?_
      · exact frY_X7_wood_34 g hg
      · refine fr_ite ?_ ?_
        · exact frY_X7_wood_34 g hg
        · refine fr_ite ?_ ?_
          · exact frY_X7_wood_34 g hg
          · refine fr_ite ?_ ?_
            · refine fr_bind (frY_X6_plant a0 a1 a2 g) (z_tch_sub rfl) hg (fun r7 g8 hg8 => ?_)
              exact fr_some hg8
            · exact frY_X7_wood_34 g hg
theorem frY_X7_years_11 {g0 : z_G} (g : z_G) (hg : z_ag (z_tch [44] []) g0 g) : z_Fr (z_tch [44] []) g0 (fY_X7_years_11 g) := by
  unfold fY_X7_years_11
  refine fr_bo ?_
  exact fr_some hg
theorem frY_X7_years (a0 : Int32) (g : z_G) : z_Fr (z_tch [44] []) g (fY_X7_years a0 g) := by
  have hg : z_ag (z_tch [44] []) g g := fr_rf
  unfold fY_X7_years
  refine fr_ite ?_ ?_
  · exact frY_X7_years_11 g hg
  · refine fr_ite ?_ ?_
    · refine fr_bind (frY_X6_grow a0 g) (z_tch_sub rfl) hg (fun r3 g4 hg4 => ?_)
      refine fr_bo ?_
      exact fr_some hg4
    · exact frY_X7_years_11 g hg
theorem frY_X7_cut_22 {g0 : z_G} (g : z_G) (hg : z_ag (z_tch [44] []) g0 g) : z_Fr (z_tch [44] []) g0 (fY_X7_cut_22 g) := by
  unfold fY_X7_cut_22
  exact fr_some hg
theorem frY_X7_cut (a0 : Int32) (g : z_G) : z_Fr (z_tch [44] []) g (fY_X7_cut a0 g) := by
  have hg : z_ag (z_tch [44] []) g g := fr_rf
  unfold fY_X7_cut
  refine fr_bind (frY_X6_has a0 g) (z_tch_sub rfl) hg (fun r1 g2 hg2 => ?_)
  refine fr_ite ?_ ?_
  · exact frY_X7_cut_22 g2 hg2
  · refine fr_bind (frY_X6_yearsLeft a0 g2) (z_tch_sub rfl) hg2 (fun r5 g6 hg6 => ?_)
    refine fr_ite ?_ ?_
    · refine fr_ck ?_
      refine fr_letG (fr_up hg6 (z_tch_row rfl _)) (fun g10 hg10 => ?_)
      refine fr_ck ?_
      exact fr_some hg10
    · exact frY_X7_cut_22 g6 hg6
theorem frY_X7_plan_12 {g0 : z_G} (g : z_G) (hg : z_ag (z_tch [] []) g0 g) : z_Fr (z_tch [] []) g0 (fY_X7_plan_12 g) := by
  unfold fY_X7_plan_12
  exact fr_some hg
theorem frY_X7_plan (a0 : Int32) (g : z_G) : z_Fr (z_tch [] []) g (fY_X7_plan a0 g) := by
  have hg : z_ag (z_tch [] []) g g := fr_rf
  unfold fY_X7_plan
  refine fr_ite ?_ ?_
  · exact frY_X7_plan_12 g hg
  · refine fr_ite ?_ ?_
    · refine fr_bind (frY_X6_choose a0 g) (z_tch_sub rfl) hg (fun r3 g4 hg4 => ?_)
      exact fr_some hg4
    · exact frY_X7_plan_12 g hg
theorem frY_X7_stand_20 {g0 : z_G} (g : z_G) (hg : z_ag (z_tch [] []) g0 g) : z_Fr (z_tch [] []) g0 (fY_X7_stand_20 g) := by
  unfold fY_X7_stand_20
  exact fr_none
theorem frY_X7_stand (a0 : Int32) (a1 : Int32) (g : z_G) : z_Fr (z_tch [] []) g (fY_X7_stand a0 a1 g) := by
  have hg : z_ag (z_tch [] []) g g := fr_rf
  unfold fY_X7_stand
  refine fr_bind (frY_X6_has a0 g) (z_tch_sub rfl) hg (fun r1 g2 hg2 => ?_)
  refine fr_ite ?_ ?_
  · exact frY_X7_stand_20 g2 hg2
  · refine fr_ite ?_ ?_
    · exact frY_X7_stand_20 g2 hg2
    · refine fr_ite ?_ ?_
      · refine fr_ite ?_ ?_
        · refine fr_ck ?_
          exact fr_some hg2
        · refine fr_ite ?_ ?_
          · refine fr_ck ?_
            exact fr_some hg2
          · refine fr_ite ?_ ?_
            · refine fr_ck ?_
              exact fr_some hg2
            · refine fr_bind (frY_X6_yearsLeft a0 g2) (z_tch_sub rfl) hg2 (fun r13 g14 hg14 => ?_)
              exact fr_some hg14
      · exact frY_X7_stand_20 g2 hg2
theorem frY_X7_cellT_22 {g0 : z_G} (g : z_G) (hg : z_ag (z_tch [] []) g0 g) : z_Fr (z_tch [] []) g0 (fY_X7_cellT_22 g) := by
  unfold fY_X7_cellT_22
  exact fr_some hg
theorem frY_X7_cellT_170 {g0 : z_G} (s0 : Int32) (g : z_G) (hg : z_ag (z_tch [] []) g0 g) : z_Fr (z_tch [] []) g0 (fY_X7_cellT_170 s0 g) := by
  unfold fY_X7_cellT_170
  exact fr_none
theorem frY_X7_cellT (a0 : Int32) (a1 : Int32) (a2 : Int32) (g : z_G) : z_Fr (z_tch [] []) g (fY_X7_cellT a0 a1 a2 g) := by
  have hg : z_ag (z_tch [] []) g g := fr_rf
  unfold fY_X7_cellT
  refine fr_bind (frY_X2_holds a0 a1 g) (z_tch_sub rfl) hg (fun r1 g2 hg2 => ?_)
  refine fr_ite ?_ ?_
  · exact frY_X7_cellT_22 g2 hg2
  · refine fr_ite ?_ ?_
    · exact frY_X7_cellT_22 g2 hg2
    · refine fr_ite ?_ ?_
      · refine fr_bind (frY_X2_at a0 a1 g2) (z_tch_sub rfl) hg2 (fun r7 g8 hg8 => ?_)
        refine fr_ite ?_ ?_
        · refine fr_ck ?_
          exact fr_none
        · refine fr_ite ?_ ?_
          · refine fr_ck ?_
            exact fr_none
          · refine fr_ite ?_ ?_
            · refine fr_ck ?_
              exact fr_none
            · refine fr_ite ?_ ?_
              · refine fr_ck ?_
                exact fr_none
              · refine fr_ite ?_ ?_
                · refine fr_ck ?_
                  exact fr_none
                · refine fr_ite ?_ ?_
                  · refine fr_ck ?_
                    refine fr_ite ?_ ?_
                    · exact frY_X7_cellT_170 (-1) g8 hg8
                    · refine fr_ck ?_
                      exact frY_X7_cellT_170 (g8 15 (Int32.toNatClampNeg r7)) g8 hg8
                  · refine fr_ite ?_ ?_
                    · refine fr_ck ?_
                      exact fr_none
                    · refine fr_ite ?_ ?_
                      · refine fr_ck ?_
                        exact fr_none
                      · refine fr_ck ?_
                        exact fr_none
      · exact frY_X7_cellT_22 g2 hg2
theorem frY_X7_standT_20 {g0 : z_G} (g : z_G) (hg : z_ag (z_tch [] []) g0 g) : z_Fr (z_tch [] []) g0 (fY_X7_standT_20 g) := by
  unfold fY_X7_standT_20
  exact fr_some hg
theorem frY_X7_standT (a0 : Int32) (a1 : Int32) (g : z_G) : z_Fr (z_tch [] []) g (fY_X7_standT a0 a1 g) := by
  have hg : z_ag (z_tch [] []) g g := fr_rf
  unfold fY_X7_standT
  refine fr_bind (frY_X6_has a0 g) (z_tch_sub rfl) hg (fun r1 g2 hg2 => ?_)
  refine fr_ite ?_ ?_
  · exact frY_X7_standT_20 g2 hg2
  · refine fr_ite ?_ ?_
    · exact frY_X7_standT_20 g2 hg2
    · refine fr_ite ?_ ?_
      · refine fr_ite ?_ ?_
        · refine fr_ck ?_
          exact fr_none
        · refine fr_ite ?_ ?_
          · refine fr_ck ?_
            exact fr_none
          · refine fr_ite ?_ ?_
            · refine fr_ck ?_
              exact fr_none
            · refine fr_bind (frY_X6_yearsLeft a0 g2) (z_tch_sub rfl) hg2 (fun r13 g14 hg14 => ?_)
              exact fr_none
      · exact frY_X7_standT_20 g2 hg2
