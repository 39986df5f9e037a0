theorem i_vc : Claimed_1_1 ∧ Claimed_1_2 :=
  let ⟨_, _, _, _, hg1, hh1, h0⟩ := rel_start
  z_whole all_sims hg1 hh1 h0
