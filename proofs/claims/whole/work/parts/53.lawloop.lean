theorem z_lawI {L : Nat} (hL : L ≤ 3072) : (Int32.ofNat L - 6).toInt = (L : Int) - 6 := pk_sub_toInt (a := L) (b := 6) (by omega) (by omega)
theorem z_lawlt {L n : Nat} (hL : L ≤ 3072) (hn : n < 2 ^ 31) (h : L < n + 6) : Int32.ofNat L - 6 < nI n := by
  rw [Int32.lt_iff_toInt_lt, z_lawI hL, nI_toInt hn]
  omega
theorem z_lawle {L n : Nat} (hL : L ≤ 3072) (hn : n < 2 ^ 31) (h : ¬ Int32.ofNat L - 6 < nI n) : n + 6 ≤ L := by
  rw [Int32.lt_iff_toInt_lt, z_lawI hL, nI_toInt hn] at h
  omega
theorem z_lawin {L n : Nat} {j : Int32} (h : n + 6 ≤ L) (hL : L < 2 ^ 31) (hj : j = 0 ∨ j = 1 ∨ j = 2 ∨ j = 3 ∨ j = 4 ∨ j = 5) : vp_in (nI n + j) L := by
  rcases hj with rfl | rfl | rfl | rfl | rfl | rfl
  · rw [show (0 : Int32) = nI 0 from rfl, nI_add]; exact vp_in_nI (by omega) hL
  · rw [show (1 : Int32) = nI 1 from rfl, nI_add]; exact vp_in_nI (by omega) hL
  · rw [show (2 : Int32) = nI 2 from rfl, nI_add]; exact vp_in_nI (by omega) hL
  · rw [show (3 : Int32) = nI 3 from rfl, nI_add]; exact vp_in_nI (by omega) hL
  · rw [show (4 : Int32) = nI 4 from rfl, nI_add]; exact vp_in_nI (by omega) hL
  · rw [show (5 : Int32) = nI 5 from rfl, nI_add]; exact vp_in_nI (by omega) hL
/-- what the law's loop asks of a relation between the two states: each call keeps it, with one answer -/
def z_sims (rel : z_G → z_G → Prop) : Prop := z_sim2 rel fY_X7_clamp fM_X8_clamp ∧ z_sim3 rel fY_X7_lay fM_X8_lay ∧ z_sim5 rel fY_X7_layRow fM_X8_layRow ∧ z_sim2 rel fY_X7_hole fM_X8_hole ∧ z_sim0 rel fY_X7_light fM_X8_light ∧ z_simO rel fY_X7_open fM_X8_open ∧ z_sim3 rel fY_X7_cover fM_X8_cover ∧ z_sim1 rel fY_X7_watch fM_X8_watch ∧ z_sim2 rel fY_X7_hour fM_X8_hour ∧ z_sim3 rel fY_X7_again fM_X8_again ∧ z_sim0 rel fY_X7_rake fM_X8_rake ∧ z_sim1 rel fY_X7_count fM_X8_count ∧ z_simT3 rel fY_X7_cell fY_X7_cellT fM_X8_cell ∧ z_sim1 rel fY_X7_all fM_X8_all ∧ z_sim2 rel fY_X7_told fM_X8_told ∧ z_sim2 rel fY_X7_breach fM_X8_breach ∧ z_sim1 rel fY_X7_sign fM_X8_sign ∧ z_sim1 rel fY_X7_end fM_X8_end ∧ z_sim0 rel fY_X7_rule fS_X8_rule ∧ z_sim0 rel fY_X7_repeal fM_X8_repeal ∧ z_sim3 rel fY_X7_wood fM_X8_wood ∧ z_sim1 rel fY_X7_years fM_X8_years ∧ z_sim1 rel fY_X7_cut fM_X8_cut ∧ z_sim1 rel fY_X7_plan fM_X8_plan ∧ z_simT2 rel fY_X7_stand fY_X7_standT fM_X8_stand
set_option maxRecDepth 100000 in
set_option maxHeartbeats 4000000 in
theorem law_loop {rel : z_G → z_G → Prop} {J : z_LJ} {l : Launch} {dC : Nat → ClassId} {dI : Nat → Nat → Nat} {ca : Nat → ClassId} {q : Nat → Nat} {cb : Nat → ClassId} {qm : Nat → Nat} {cL : ClassId} {qo : Nat} {tt sk sv : Nat → Nat} {b L : Nat} {xs : Nat → Int32} (hC : z_LC J l cL_law 7 wsL_law RL room_1 (dC, dI) ca q cb qm cL qo tt sk sv b L xs) (hls : l.stackTraces = false) (hL : L ≤ 3072) (S : z_sims rel) (hend : ∀ (i : Int32) (g h : z_G) (x : Nat → Int64) (cells slots : Nat), cells ≤ 601024 → slots ≤ 7293034 → J 1069 [(4, .int i), (0, .ref b), (1, .ref (q 0)), (2, .ref (qm 0)), (3, .ref qo)] [] g h x cells slots) : ∀ (m k : Nat) (g h : z_G) (x : Nat → Int64), L + 6 ≤ 6 * k + m → k ≤ 513 → rel g h → J 23 [(4, .int (nI (6 * k))), (0, .ref b), (1, .ref (q 0)), (2, .ref (qm 0)), (3, .ref qo)] [] g h x (89 + k) (8036 + 6 * k) := by
  intro m
  induction m with
  | zero =>
    intro k g h x hm hk hrel
    refine zl_iload 0 hC dL_law_23 rfl ?_
    refine zl_aload_n 1 hC dL_law_25 rfl ?_
    refine zl_slen hC dL_law_26 ?_
    refine zl_bipush (v := 6) hC dL_law_27 (by decide) ?_
    refine zl_isub hC dL_law_29 ?_
    refine zl_gt 1069 hC dL_law_30 (by decide) (fun c0 => ?_) (fun c0 => ?_)
    · exact hend _ g h x _ _ (by omega) (by omega)
    · exact absurd (z_lawlt (L := L) (n := 6 * k) (by omega) (by omega) (by omega)) c0
  | succ m ih =>
    intro k g h x hm hk hrel
    refine zl_iload 0 hC dL_law_23 rfl ?_
    refine zl_aload_n 1 hC dL_law_25 rfl ?_
    refine zl_slen hC dL_law_26 ?_
    refine zl_bipush (v := 6) hC dL_law_27 (by decide) ?_
    refine zl_isub hC dL_law_29 ?_
    refine zl_gt 1069 hC dL_law_30 (by decide) (fun c0 => ?_) (fun c0 => ?_)
    · exact hend _ g h x _ _ (by omega) (by omega)
    · have hle : 6 * k + 6 ≤ L := z_lawle (by omega) (by omega) c0
      have hi : ∀ j : Int32, j = 0 ∨ j = 1 ∨ j = 2 ∨ j = 3 ∨ j = 4 ∨ j = 5 → vp_in (nI (6 * k) + j) L := fun j hj => z_lawin hle (by omega) hj
      have hcs : 89 + k + 1 ≤ room_1.cells ∧ 8036 + 6 * k + 6 ≤ room_1.slots := ⟨by show 89 + k + 1 ≤ 601024; omega, by show 8036 + 6 * k + 6 ≤ 7293034; omega⟩
      have hback : ∀ (g' h' : z_G) (x' : Nat → Int64), rel g' h' → J 1063 [(4, .int (nI (6 * k))), (0, .ref b), (1, .ref (q 0)), (2, .ref (qm 0)), (3, .ref qo)] [] g' h' x' (89 + k + 1) (8036 + 6 * k + 6) := by
        intro g' h' x' hr
        refine zl_iinc (v := nI (6 * (k + 1))) (lv1 := [(4, .int (nI (6 * (k + 1)))), (0, .ref b), (1, .ref (q 0)), (2, .ref (qm 0)), (3, .ref qo)]) 0 hC dL_law_1063 rfl (by rw [show (Int32.ofInt 6) = nI 6 from by decide, nI_add]; rfl) (by decide) rfl ?_
        refine zl_goto 23 hC dL_law_1066 (by decide) ?_
        refine zl_widen hC (show 89 + k + 1 ≤ 89 + (k + 1) by omega) (show 8036 + 6 * k + 6 ≤ 8036 + 6 * (k + 1) by omega) ?_
        exact ih (k + 1) g' h' x' (by omega) (by omega) hr
      refine zl_aload_n 1 hC dL_law_33 rfl ?_
      refine zl_iload 0 hC dL_law_34 rfl ?_
      refine zl_sld hC (by have h9 := hi 0 (Or.inl rfl); rw [show nI (6 * k) + (0 : Int32) = nI (6 * k) from by rw [show (0 : Int32) = nI 0 from rfl, nI_add]; rfl] at h9; exact h9) dL_law_36 ?_
      refine zl_bipush (v := 31) hC dL_law_37 (by decide) ?_
      refine zl_iand hC dL_law_39 ?_
      generalize (xs (nI (6 * k)).toNatClampNeg &&& 31) = y
      by_cases c1 : y = 0
      · refine zl_tabIn 156 hC dL_law_40 c1 (by decide) (by decide) rfl (by decide) ?_
        exact law_clamp hC hls (nI (6 * k)) hi g h x (89 + k) (8036 + 6 * k) hcs hrel S.1 hback
      by_cases c2 : y = 1
      · refine zl_tabIn 193 hC dL_law_40 c2 (by decide) (by decide) rfl (by decide) ?_
        exact law_lay hC hls (nI (6 * k)) hi g h x (89 + k) (8036 + 6 * k) hcs hrel S.2.1 hback
      by_cases c3 : y = 2
      · refine zl_tabIn 242 hC dL_law_40 c3 (by decide) (by decide) rfl (by decide) ?_
        exact law_layRow hC hls (nI (6 * k)) hi g h x (89 + k) (8036 + 6 * k) hcs hrel S.2.2.1 hback
      by_cases c4 : y = 3
      · refine zl_tabIn 315 hC dL_law_40 c4 (by decide) (by decide) rfl (by decide) ?_
        exact law_hole hC hls (nI (6 * k)) hi g h x (89 + k) (8036 + 6 * k) hcs hrel S.2.2.2.1 hback
      by_cases c5 : y = 4
      · refine zl_tabIn 352 hC dL_law_40 c5 (by decide) (by decide) rfl (by decide) ?_
        exact law_light hC hls (nI (6 * k)) hi g h x (89 + k) (8036 + 6 * k) hcs hrel S.2.2.2.2.1 hback
      by_cases c6 : y = 5
      · refine zl_tabIn 365 hC dL_law_40 c6 (by decide) (by decide) rfl (by decide) ?_
        exact law_open hC hls (nI (6 * k)) hi g h x (89 + k) (8036 + 6 * k) hcs hrel S.2.2.2.2.2.1 hback
      by_cases c7 : y = 6
      · refine zl_tabIn 418 hC dL_law_40 c7 (by decide) (by decide) rfl (by decide) ?_
        exact law_cover hC hls (nI (6 * k)) hi g h x (89 + k) (8036 + 6 * k) hcs hrel S.2.2.2.2.2.2.1 hback
      by_cases c8 : y = 7
      · refine zl_tabIn 467 hC dL_law_40 c8 (by decide) (by decide) rfl (by decide) ?_
        exact law_watch hC hls (nI (6 * k)) hi g h x (89 + k) (8036 + 6 * k) hcs hrel S.2.2.2.2.2.2.2.1 hback
      by_cases c9 : y = 8
      · refine zl_tabIn 492 hC dL_law_40 c9 (by decide) (by decide) rfl (by decide) ?_
        exact law_hour hC hls (nI (6 * k)) hi g h x (89 + k) (8036 + 6 * k) hcs hrel S.2.2.2.2.2.2.2.2.1 hback
      by_cases c10 : y = 9
      · refine zl_tabIn 529 hC dL_law_40 c10 (by decide) (by decide) rfl (by decide) ?_
        exact law_again hC hls (nI (6 * k)) hi g h x (89 + k) (8036 + 6 * k) hcs hrel S.2.2.2.2.2.2.2.2.2.1 hback
      by_cases c11 : y = 10
      · refine zl_tabIn 578 hC dL_law_40 c11 (by decide) (by decide) rfl (by decide) ?_
        exact law_rake hC hls (nI (6 * k)) hi g h x (89 + k) (8036 + 6 * k) hcs hrel S.2.2.2.2.2.2.2.2.2.2.1 hback
      by_cases c12 : y = 11
      · refine zl_tabIn 591 hC dL_law_40 c12 (by decide) (by decide) rfl (by decide) ?_
        exact law_count hC hls (nI (6 * k)) hi g h x (89 + k) (8036 + 6 * k) hcs hrel S.2.2.2.2.2.2.2.2.2.2.2.1 hback
      by_cases c13 : y = 12
      · refine zl_tabIn 616 hC dL_law_40 c13 (by decide) (by decide) rfl (by decide) ?_
        exact law_cell hC hls (nI (6 * k)) hi g h x (89 + k) (8036 + 6 * k) hcs hrel S.2.2.2.2.2.2.2.2.2.2.2.2.1 hback
      by_cases c14 : y = 13
      · refine zl_tabIn 696 hC dL_law_40 c14 (by decide) (by decide) rfl (by decide) ?_
        exact law_all hC hls (nI (6 * k)) hi g h x (89 + k) (8036 + 6 * k) hcs hrel S.2.2.2.2.2.2.2.2.2.2.2.2.2.1 hback
      by_cases c15 : y = 14
      · refine zl_tabIn 721 hC dL_law_40 c15 (by decide) (by decide) rfl (by decide) ?_
        exact law_told hC hls (nI (6 * k)) hi g h x (89 + k) (8036 + 6 * k) hcs hrel S.2.2.2.2.2.2.2.2.2.2.2.2.2.2.1 hback
      by_cases c16 : y = 15
      · refine zl_tabIn 758 hC dL_law_40 c16 (by decide) (by decide) rfl (by decide) ?_
        exact law_breach hC hls (nI (6 * k)) hi g h x (89 + k) (8036 + 6 * k) hcs hrel S.2.2.2.2.2.2.2.2.2.2.2.2.2.2.2.1 hback
      by_cases c17 : y = 16
      · refine zl_tabIn 795 hC dL_law_40 c17 (by decide) (by decide) rfl (by decide) ?_
        exact law_sign hC hls (nI (6 * k)) hi g h x (89 + k) (8036 + 6 * k) hcs hrel S.2.2.2.2.2.2.2.2.2.2.2.2.2.2.2.2.1 hback
      by_cases c18 : y = 17
      · refine zl_tabIn 820 hC dL_law_40 c18 (by decide) (by decide) rfl (by decide) ?_
        exact law_end hC hls (nI (6 * k)) hi g h x (89 + k) (8036 + 6 * k) hcs hrel S.2.2.2.2.2.2.2.2.2.2.2.2.2.2.2.2.2.1 hback
      by_cases c19 : y = 18
      · refine zl_tabIn 845 hC dL_law_40 c19 (by decide) (by decide) rfl (by decide) ?_
        exact law_rule hC hls (nI (6 * k)) hi g h x (89 + k) (8036 + 6 * k) hcs hrel S.2.2.2.2.2.2.2.2.2.2.2.2.2.2.2.2.2.2.1 hback
      by_cases c20 : y = 19
      · refine zl_tabIn 858 hC dL_law_40 c20 (by decide) (by decide) rfl (by decide) ?_
        exact law_repeal hC hls (nI (6 * k)) hi g h x (89 + k) (8036 + 6 * k) hcs hrel S.2.2.2.2.2.2.2.2.2.2.2.2.2.2.2.2.2.2.2.1 hback
      by_cases c21 : y = 20
      · refine zl_tabIn 871 hC dL_law_40 c21 (by decide) (by decide) rfl (by decide) ?_
        exact law_wood hC hls (nI (6 * k)) hi g h x (89 + k) (8036 + 6 * k) hcs hrel S.2.2.2.2.2.2.2.2.2.2.2.2.2.2.2.2.2.2.2.2.1 hback
      by_cases c22 : y = 21
      · refine zl_tabIn 920 hC dL_law_40 c22 (by decide) (by decide) rfl (by decide) ?_
        exact law_years hC hls (nI (6 * k)) hi g h x (89 + k) (8036 + 6 * k) hcs hrel S.2.2.2.2.2.2.2.2.2.2.2.2.2.2.2.2.2.2.2.2.2.1 hback
      by_cases c23 : y = 22
      · refine zl_tabIn 945 hC dL_law_40 c23 (by decide) (by decide) rfl (by decide) ?_
        exact law_cut hC hls (nI (6 * k)) hi g h x (89 + k) (8036 + 6 * k) hcs hrel S.2.2.2.2.2.2.2.2.2.2.2.2.2.2.2.2.2.2.2.2.2.2.1 hback
      by_cases c24 : y = 23
      · refine zl_tabIn 970 hC dL_law_40 c24 (by decide) (by decide) rfl (by decide) ?_
        exact law_plan hC hls (nI (6 * k)) hi g h x (89 + k) (8036 + 6 * k) hcs hrel S.2.2.2.2.2.2.2.2.2.2.2.2.2.2.2.2.2.2.2.2.2.2.2.1 hback
      by_cases c25 : y = 24
      · refine zl_tabIn 995 hC dL_law_40 c25 (by decide) (by decide) rfl (by decide) ?_
        exact law_stand hC hls (nI (6 * k)) hi g h x (89 + k) (8036 + 6 * k) hcs hrel S.2.2.2.2.2.2.2.2.2.2.2.2.2.2.2.2.2.2.2.2.2.2.2.2 hback
      refine zl_tabOut 1063 hC dL_law_40 (by have e1 := lv_neT (a := 0) c1 rfl; have e2 := lv_neT (a := 1) c2 rfl; have e3 := lv_neT (a := 2) c3 rfl; have e4 := lv_neT (a := 3) c4 rfl; have e5 := lv_neT (a := 4) c5 rfl; have e6 := lv_neT (a := 5) c6 rfl; have e7 := lv_neT (a := 6) c7 rfl; have e8 := lv_neT (a := 7) c8 rfl; have e9 := lv_neT (a := 8) c9 rfl; have e10 := lv_neT (a := 9) c10 rfl; have e11 := lv_neT (a := 10) c11 rfl; have e12 := lv_neT (a := 11) c12 rfl; have e13 := lv_neT (a := 12) c13 rfl; have e14 := lv_neT (a := 13) c14 rfl; have e15 := lv_neT (a := 14) c15 rfl; have e16 := lv_neT (a := 15) c16 rfl; have e17 := lv_neT (a := 16) c17 rfl; have e18 := lv_neT (a := 17) c18 rfl; have e19 := lv_neT (a := 18) c19 rfl; have e20 := lv_neT (a := 19) c20 rfl; have e21 := lv_neT (a := 20) c21 rfl; have e22 := lv_neT (a := 21) c22 rfl; have e23 := lv_neT (a := 22) c23 rfl; have e24 := lv_neT (a := 23) c24 rfl; have e25 := lv_neT (a := 24) c25 rfl; omega) (by decide) ?_
      refine zl_widen hC (Nat.le_succ (89 + k)) (Nat.le_add_right (8036 + 6 * k) 6) ?_
      exact hback g h x hrel
