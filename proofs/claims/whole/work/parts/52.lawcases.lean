section ZLAWC
variable {J : z_LJ} {l : Launch} {cc : ByteArray} {nL : Nat} {Ts : List Cond} {own : String} {R : Room} {D : va_G} {ca : Nat → ClassId} {q : Nat → Nat} {cb : Nat → ClassId} {qm : Nat → Nat} {cL : ClassId} {qo : Nat} {tt sk sv : Nat → Nat} {b L : Nat} {xs : Nat → Int32}
variable {pc : Nat} {lv : List (Nat × Value)} {st : List Value} {g h : z_G} {x : Nat → Int64} {cells slots : Nat}
theorem zl_callH {y : MethodName} {ws ws' : List Cond} {bytes : ByteArray} {maxL fr lo n index : Nat} {ret1 : Option FieldType} {hh : List (Nat × Nat × Nat × Nat)} {r : Int32} {g1 : z_G} {x1 : Nat → Int64} (As : List Value) (hC : z_LC J l cc nL Ts own R D ca q cb qm cL qo tt sk sv b L xs) (hM : z_CL l y ws { frames := fr, cells := 1, slots := 6, locals := lo } D ca q cL qo tt As g x r g1 x1) (hG : GoodIn Ts (va_wsS own index y ws)) (hw : ws = Cond.codeWith y bytes maxL ret1 hh :: ws') (hd : y.cls ≠ "java/lang/invoke/MethodHandle" ∧ y.cls ≠ "java/lang/invoke/VarHandle" ∧ (parseMethodDescriptor y.desc).map (fun d => d.parameters.length) = some n) (hR : fr + 1 ≤ R.frames ∧ 8 + (maxL + 11) + lo ≤ R.locals) (hn : As.length = n) (hst : (st.map fun v => v.category).sum ≤ 8) (hcs : cells + 1 ≤ R.cells ∧ slots + 6 ≤ R.slots) (hdg : decode cc pc = .ok (.invokestatic index, 3)) {st0 : List Value} (h0 : st0 = As.reverse ++ st) (k : J (pc + 3) lv (.int r :: st) g1 h x1 (cells + 1) (slots + 6)) : J pc lv st0 g h x cells slots := by
  obtain ⟨p, e, s, m, args, below, meth, c, Q, A, rfl, hx, hb, hml, hts, hown, hK, hZY, hZM, hA, hX, hbl, hbA⟩ := hC
  intro H locs ls hP hD hS0 hl
  have hPc : va_P D vwCl (wO ca q cL qo g x) H := hP.sub (List.range 47 ++ [88]) rfl
  have hDc : va_D A (wO ca q cL qo g x) := hD.sub (List.range 47 ++ [88]) rfl rfl
  have hKc : va_K D vwCl (tyO ca cL) s := hK.sub (List.range 39 ++ [79]) rfl
  have hFc : ∀ w, va_A (wO ca q cL qo g x) H.size w → A w := va_free hD hS0 hA (List.range 47 ++ [88]) rfl
  refine va_calli (A1 := va_A (wO ca q cL qo g x) H.size) (vx_runSW (As := As) (rest := st) ⟨hx, hb, hml, hown, hts⟩ (hM H.size) (vx_cwSW n hts hG hw rfl rfl hd hR) ⟨fun a9 U g9 mk w => by obtain ⟨q0, q1, qP, qK, qD, qZ⟩ := w; exact ⟨q0, q1, qP, va_K.moved (u := U) (U := U.calling g9 mk a9) (Vm.Alike.refl U.vm) qK, qD, (zY_ok tt).1.1 _ U (U.calling g9 mk a9) _ rfl qZ⟩, fun U hU hW => ⟨rfl, by rw [hU], by rw [hU]; exact hPc, va_K.moved hW.alike hKc, hDc.weaken (fun _ _ _ _ => trivial), by rw [hU]; exact (zY_ok tt).2.2 _ _ _ _ ((zY_ok tt).2.1 _ _ _ _ ((zY_ok tt).1.2 _ _ _ _ hW hZY) hS0.2.1) hFc⟩⟩ rfl hn hl.1 h0 (lv_room hst) hdg hcs) hS0 (fun w _ hw9 => hFc w hw9) hFc (fun r9 u t H1 locs1 ht hvm hw9 hB hz1 hk1 hS => ?_)
  obtain ⟨rfl, rfl⟩ := hw9
  obtain ⟨hP1, hK1, hD1⟩ := hB
  rw [ht] at hP1
  obtain ⟨hP2, hD2⟩ := va_join (wc := wO ca q cL qo g x) (wr := wM cb qm h) hP hD (List.range 47 ++ [88]) ((List.range 41).map (· + 47)) rfl rfl rfl (by decide) hk1 hFc hP1 hD1
  exact k H1 locs1 ls (hP2.sub ((List.range 47).map (· + 41) ++ List.range 41 ++ [88]) rfl) (hD2.sub ((List.range 47).map (· + 41) ++ List.range 41 ++ [88]) rfl rfl) hS hl
end ZLAWC
theorem z_cmp_same (x : Nat → Int64) (r : Int32) : lg_cmp (vp_updL x 0 r.toInt64 (0 : Int32).toNatClampNeg) r.toInt64 = 0 := by
  have e : vp_updL x 0 r.toInt64 (0 : Int32).toNatClampNeg = r.toInt64 := by unfold vp_updL; rw [if_pos (by decide)]
  rw [e]; unfold lg_cmp; simp
set_option maxRecDepth 100000 in
set_option maxHeartbeats 4000000 in
theorem law_clamp {rel : z_G → z_G → Prop} {J : z_LJ} {l : Launch} {dC : Nat → ClassId} {dI : Nat → Nat → Nat} {ca : Nat → ClassId} {q : Nat → Nat} {cb : Nat → ClassId} {qm : Nat → Nat} {cL : ClassId} {qo : Nat} {tt sk sv : Nat → Nat} {b L : Nat} {xs : Nat → Int32} (hC : z_LC J l cL_law 7 wsL_law RL room_1 (dC, dI) ca q cb qm cL qo tt sk sv b L xs) (hls : l.stackTraces = false) (i : Int32) (hi : ∀ j : Int32, j = 0 ∨ j = 1 ∨ j = 2 ∨ j = 3 ∨ j = 4 ∨ j = 5 → vp_in (i + j) L) (g h : z_G) (x : Nat → Int64) (cells slots : Nat) (hcs : cells + 1 ≤ room_1.cells ∧ slots + 6 ≤ room_1.slots) (hrel : rel g h) (hsim : z_sim2 rel fY_X7_clamp fM_X8_clamp) (hback : ∀ (g' h' : z_G) (x' : Nat → Int64), rel g' h' → J 1063 [(4, .int i), (0, .ref b), (1, .ref (q 0)), (2, .ref (qm 0)), (3, .ref qo)] [] g' h' x' (cells + 1) (slots + 6)) : J 156 [(4, .int i), (0, .ref b), (1, .ref (q 0)), (2, .ref (qm 0)), (3, .ref qo)] [] g h x cells slots := by
  obtain ⟨r, g', h', hy9, hm9, hr9⟩ := hsim (xs (i + 1).toNatClampNeg) (xs (i + 2).toNatClampNeg) g h hrel
  refine zl_aload_n 2 hC dL_law_156 rfl ?_
  refine zl_aload_n 1 hC dL_law_157 rfl ?_
  refine zl_iload 0 hC dL_law_158 rfl ?_
  refine zl_iconst (v := 1) hC dL_law_160 (by decide) ?_
  refine zl_iadd hC dL_law_161 ?_
  refine zl_sld hC (hi 1 (Or.inr (Or.inl rfl))) dL_law_162 ?_
  refine zl_aload_n 1 hC dL_law_163 rfl ?_
  refine zl_iload 0 hC dL_law_164 rfl ?_
  refine zl_iconst (v := 2) hC dL_law_166 (by decide) ?_
  refine zl_iadd hC dL_law_167 ?_
  refine zl_sld hC (hi 2 (Or.inr (Or.inr (Or.inl rfl)))) dL_law_168 ?_
  refine zl_callY [.int (xs (i + 1).toNatClampNeg), .int (xs (i + 2).toNatClampNeg)] hC (cY_X7_clamp l dC dI ca q tt ((xs (i + 1).toNatClampNeg)) ((xs (i + 2).toNatClampNeg)) g r g' hy9) gL_law_X7_clamp rfl nY_X7_clamp ⟨(Nat.le_of_ble_eq_true rfl), (Nat.le_of_ble_eq_true rfl)⟩ 0 yo_0 rfl rfl rfl (Nat.le_of_ble_eq_true rfl) ⟨Nat.le_of_succ_le hcs.1, Nat.le_trans (Nat.le_add_right slots 6) hcs.2⟩ dL_law_169 rfl ?_
  refine zl_aload_n 3 hC dL_law_172 rfl ?_
  refine zl_aload_n 1 hC dL_law_173 rfl ?_
  refine zl_iload 0 hC dL_law_174 rfl ?_
  refine zl_iconst (v := 1) hC dL_law_176 (by decide) ?_
  refine zl_iadd hC dL_law_177 ?_
  refine zl_sld hC (hi 1 (Or.inr (Or.inl rfl))) dL_law_178 ?_
  refine zl_aload_n 1 hC dL_law_179 rfl ?_
  refine zl_iload 0 hC dL_law_180 rfl ?_
  refine zl_iconst (v := 2) hC dL_law_182 (by decide) ?_
  refine zl_iadd hC dL_law_183 ?_
  refine zl_sld hC (hi 2 (Or.inr (Or.inr (Or.inl rfl)))) dL_law_184 ?_
  refine zl_callM [.int (xs (i + 1).toNatClampNeg), .int (xs (i + 2).toNatClampNeg)] hC (cM_X8_clamp l dC dI cb qm (zM sk sv) (zM_ok sk sv) ((xs (i + 1).toNatClampNeg)) ((xs (i + 2).toNatClampNeg)) h r h' hm9) gL_law_X8_clamp rfl nM_X8_clamp ⟨(Nat.le_of_ble_eq_true rfl), (Nat.le_of_ble_eq_true rfl)⟩ 0 mo_0 rfl rfl rfl (Nat.le_of_ble_eq_true rfl) ⟨Nat.le_of_succ_le hcs.1, Nat.le_trans (Nat.le_add_right slots 6) hcs.2⟩ dL_law_185 rfl ?_
  refine zl_same 1063 hC dL_law_188 (by decide) ?_
  refine zl_widen hC (Nat.le_succ cells) (Nat.le_add_right slots 6) ?_
  exact hback g' h' x hr9
set_option maxRecDepth 100000 in
set_option maxHeartbeats 4000000 in
theorem law_lay {rel : z_G → z_G → Prop} {J : z_LJ} {l : Launch} {dC : Nat → ClassId} {dI : Nat → Nat → Nat} {ca : Nat → ClassId} {q : Nat → Nat} {cb : Nat → ClassId} {qm : Nat → Nat} {cL : ClassId} {qo : Nat} {tt sk sv : Nat → Nat} {b L : Nat} {xs : Nat → Int32} (hC : z_LC J l cL_law 7 wsL_law RL room_1 (dC, dI) ca q cb qm cL qo tt sk sv b L xs) (hls : l.stackTraces = false) (i : Int32) (hi : ∀ j : Int32, j = 0 ∨ j = 1 ∨ j = 2 ∨ j = 3 ∨ j = 4 ∨ j = 5 → vp_in (i + j) L) (g h : z_G) (x : Nat → Int64) (cells slots : Nat) (hcs : cells + 1 ≤ room_1.cells ∧ slots + 6 ≤ room_1.slots) (hrel : rel g h) (hsim : z_sim3 rel fY_X7_lay fM_X8_lay) (hback : ∀ (g' h' : z_G) (x' : Nat → Int64), rel g' h' → J 1063 [(4, .int i), (0, .ref b), (1, .ref (q 0)), (2, .ref (qm 0)), (3, .ref qo)] [] g' h' x' (cells + 1) (slots + 6)) : J 193 [(4, .int i), (0, .ref b), (1, .ref (q 0)), (2, .ref (qm 0)), (3, .ref qo)] [] g h x cells slots := by
  obtain ⟨r, g', h', hy9, hm9, hr9⟩ := hsim (xs (i + 1).toNatClampNeg) (xs (i + 2).toNatClampNeg) (xs (i + 3).toNatClampNeg) g h hrel
  refine zl_aload_n 2 hC dL_law_193 rfl ?_
  refine zl_aload_n 1 hC dL_law_194 rfl ?_
  refine zl_iload 0 hC dL_law_195 rfl ?_
  refine zl_iconst (v := 1) hC dL_law_197 (by decide) ?_
  refine zl_iadd hC dL_law_198 ?_
  refine zl_sld hC (hi 1 (Or.inr (Or.inl rfl))) dL_law_199 ?_
  refine zl_aload_n 1 hC dL_law_200 rfl ?_
  refine zl_iload 0 hC dL_law_201 rfl ?_
  refine zl_iconst (v := 2) hC dL_law_203 (by decide) ?_
  refine zl_iadd hC dL_law_204 ?_
  refine zl_sld hC (hi 2 (Or.inr (Or.inr (Or.inl rfl)))) dL_law_205 ?_
  refine zl_aload_n 1 hC dL_law_206 rfl ?_
  refine zl_iload 0 hC dL_law_207 rfl ?_
  refine zl_iconst (v := 3) hC dL_law_209 (by decide) ?_
  refine zl_iadd hC dL_law_210 ?_
  refine zl_sld hC (hi 3 (Or.inr (Or.inr (Or.inr (Or.inl rfl))))) dL_law_211 ?_
  refine zl_callY [.int (xs (i + 1).toNatClampNeg), .int (xs (i + 2).toNatClampNeg), .int (xs (i + 3).toNatClampNeg)] hC (cY_X7_lay l dC dI ca q tt ((xs (i + 1).toNatClampNeg)) ((xs (i + 2).toNatClampNeg)) ((xs (i + 3).toNatClampNeg)) g r g' hy9) gL_law_X7_lay rfl nY_X7_lay ⟨(Nat.le_of_ble_eq_true rfl), (Nat.le_of_ble_eq_true rfl)⟩ 0 yo_0 rfl rfl rfl (Nat.le_of_ble_eq_true rfl) ⟨Nat.le_of_succ_le hcs.1, Nat.le_trans (Nat.le_add_right slots 6) hcs.2⟩ dL_law_212 rfl ?_
  refine zl_aload_n 3 hC dL_law_215 rfl ?_
  refine zl_aload_n 1 hC dL_law_216 rfl ?_
  refine zl_iload 0 hC dL_law_217 rfl ?_
  refine zl_iconst (v := 1) hC dL_law_219 (by decide) ?_
  refine zl_iadd hC dL_law_220 ?_
  refine zl_sld hC (hi 1 (Or.inr (Or.inl rfl))) dL_law_221 ?_
  refine zl_aload_n 1 hC dL_law_222 rfl ?_
  refine zl_iload 0 hC dL_law_223 rfl ?_
  refine zl_iconst (v := 2) hC dL_law_225 (by decide) ?_
  refine zl_iadd hC dL_law_226 ?_
  refine zl_sld hC (hi 2 (Or.inr (Or.inr (Or.inl rfl)))) dL_law_227 ?_
  refine zl_aload_n 1 hC dL_law_228 rfl ?_
  refine zl_iload 0 hC dL_law_229 rfl ?_
  refine zl_iconst (v := 3) hC dL_law_231 (by decide) ?_
  refine zl_iadd hC dL_law_232 ?_
  refine zl_sld hC (hi 3 (Or.inr (Or.inr (Or.inr (Or.inl rfl))))) dL_law_233 ?_
  refine zl_callM [.int (xs (i + 1).toNatClampNeg), .int (xs (i + 2).toNatClampNeg), .int (xs (i + 3).toNatClampNeg)] hC (cM_X8_lay l dC dI cb qm (zM sk sv) (zM_ok sk sv) ((xs (i + 1).toNatClampNeg)) ((xs (i + 2).toNatClampNeg)) ((xs (i + 3).toNatClampNeg)) h r h' hm9) gL_law_X8_lay rfl nM_X8_lay ⟨(Nat.le_of_ble_eq_true rfl), (Nat.le_of_ble_eq_true rfl)⟩ 0 mo_0 rfl rfl rfl (Nat.le_of_ble_eq_true rfl) ⟨Nat.le_of_succ_le hcs.1, Nat.le_trans (Nat.le_add_right slots 6) hcs.2⟩ dL_law_234 rfl ?_
  refine zl_same 1063 hC dL_law_237 (by decide) ?_
  refine zl_widen hC (Nat.le_succ cells) (Nat.le_add_right slots 6) ?_
  exact hback g' h' x hr9
set_option maxRecDepth 100000 in
set_option maxHeartbeats 4000000 in
theorem law_layRow {rel : z_G → z_G → Prop} {J : z_LJ} {l : Launch} {dC : Nat → ClassId} {dI : Nat → Nat → Nat} {ca : Nat → ClassId} {q : Nat → Nat} {cb : Nat → ClassId} {qm : Nat → Nat} {cL : ClassId} {qo : Nat} {tt sk sv : Nat → Nat} {b L : Nat} {xs : Nat → Int32} (hC : z_LC J l cL_law 7 wsL_law RL room_1 (dC, dI) ca q cb qm cL qo tt sk sv b L xs) (hls : l.stackTraces = false) (i : Int32) (hi : ∀ j : Int32, j = 0 ∨ j = 1 ∨ j = 2 ∨ j = 3 ∨ j = 4 ∨ j = 5 → vp_in (i + j) L) (g h : z_G) (x : Nat → Int64) (cells slots : Nat) (hcs : cells + 1 ≤ room_1.cells ∧ slots + 6 ≤ room_1.slots) (hrel : rel g h) (hsim : z_sim5 rel fY_X7_layRow fM_X8_layRow) (hback : ∀ (g' h' : z_G) (x' : Nat → Int64), rel g' h' → J 1063 [(4, .int i), (0, .ref b), (1, .ref (q 0)), (2, .ref (qm 0)), (3, .ref qo)] [] g' h' x' (cells + 1) (slots + 6)) : J 242 [(4, .int i), (0, .ref b), (1, .ref (q 0)), (2, .ref (qm 0)), (3, .ref qo)] [] g h x cells slots := by
  obtain ⟨r, g', h', hy9, hm9, hr9⟩ := hsim (xs (i + 1).toNatClampNeg) (xs (i + 2).toNatClampNeg) (xs (i + 3).toNatClampNeg) (xs (i + 4).toNatClampNeg) (xs (i + 5).toNatClampNeg) g h hrel
  refine zl_aload_n 2 hC dL_law_242 rfl ?_
  refine zl_aload_n 1 hC dL_law_243 rfl ?_
  refine zl_iload 0 hC dL_law_244 rfl ?_
  refine zl_iconst (v := 1) hC dL_law_246 (by decide) ?_
  refine zl_iadd hC dL_law_247 ?_
  refine zl_sld hC (hi 1 (Or.inr (Or.inl rfl))) dL_law_248 ?_
  refine zl_aload_n 1 hC dL_law_249 rfl ?_
  refine zl_iload 0 hC dL_law_250 rfl ?_
  refine zl_iconst (v := 2) hC dL_law_252 (by decide) ?_
  refine zl_iadd hC dL_law_253 ?_
  refine zl_sld hC (hi 2 (Or.inr (Or.inr (Or.inl rfl)))) dL_law_254 ?_
  refine zl_aload_n 1 hC dL_law_255 rfl ?_
  refine zl_iload 0 hC dL_law_256 rfl ?_
  refine zl_iconst (v := 3) hC dL_law_258 (by decide) ?_
  refine zl_iadd hC dL_law_259 ?_
  refine zl_sld hC (hi 3 (Or.inr (Or.inr (Or.inr (Or.inl rfl))))) dL_law_260 ?_
  refine zl_aload_n 1 hC dL_law_261 rfl ?_
  refine zl_iload 0 hC dL_law_262 rfl ?_
  refine zl_iconst (v := 4) hC dL_law_264 (by decide) ?_
  refine zl_iadd hC dL_law_265 ?_
  refine zl_sld hC (hi 4 (Or.inr (Or.inr (Or.inr (Or.inr (Or.inl rfl)))))) dL_law_266 ?_
  refine zl_aload_n 1 hC dL_law_267 rfl ?_
  refine zl_iload 0 hC dL_law_268 rfl ?_
  refine zl_iconst (v := 5) hC dL_law_270 (by decide) ?_
  refine zl_iadd hC dL_law_271 ?_
  refine zl_sld hC (hi 5 (Or.inr (Or.inr (Or.inr (Or.inr (Or.inr rfl)))))) dL_law_272 ?_
  refine zl_callY [.int (xs (i + 1).toNatClampNeg), .int (xs (i + 2).toNatClampNeg), .int (xs (i + 3).toNatClampNeg), .int (xs (i + 4).toNatClampNeg), .int (xs (i + 5).toNatClampNeg)] hC (cY_X7_layRow l dC dI ca q tt ((xs (i + 1).toNatClampNeg)) ((xs (i + 2).toNatClampNeg)) ((xs (i + 3).toNatClampNeg)) ((xs (i + 4).toNatClampNeg)) ((xs (i + 5).toNatClampNeg)) g r g' hy9) gL_law_X7_layRow rfl nY_X7_layRow ⟨(Nat.le_of_ble_eq_true rfl), (Nat.le_of_ble_eq_true rfl)⟩ 0 yo_0 rfl rfl rfl (Nat.le_of_ble_eq_true rfl) ⟨Nat.le_of_succ_le hcs.1, Nat.le_trans (Nat.le_add_right slots 6) hcs.2⟩ dL_law_273 rfl ?_
  refine zl_aload_n 3 hC dL_law_276 rfl ?_
  refine zl_aload_n 1 hC dL_law_277 rfl ?_
  refine zl_iload 0 hC dL_law_278 rfl ?_
  refine zl_iconst (v := 1) hC dL_law_280 (by decide) ?_
  refine zl_iadd hC dL_law_281 ?_
  refine zl_sld hC (hi 1 (Or.inr (Or.inl rfl))) dL_law_282 ?_
  refine zl_aload_n 1 hC dL_law_283 rfl ?_
  refine zl_iload 0 hC dL_law_284 rfl ?_
  refine zl_iconst (v := 2) hC dL_law_286 (by decide) ?_
  refine zl_iadd hC dL_law_287 ?_
  refine zl_sld hC (hi 2 (Or.inr (Or.inr (Or.inl rfl)))) dL_law_288 ?_
  refine zl_aload_n 1 hC dL_law_289 rfl ?_
  refine zl_iload 0 hC dL_law_290 rfl ?_
  refine zl_iconst (v := 3) hC dL_law_292 (by decide) ?_
  refine zl_iadd hC dL_law_293 ?_
  refine zl_sld hC (hi 3 (Or.inr (Or.inr (Or.inr (Or.inl rfl))))) dL_law_294 ?_
  refine zl_aload_n 1 hC dL_law_295 rfl ?_
  refine zl_iload 0 hC dL_law_296 rfl ?_
  refine zl_iconst (v := 4) hC dL_law_298 (by decide) ?_
  refine zl_iadd hC dL_law_299 ?_
  refine zl_sld hC (hi 4 (Or.inr (Or.inr (Or.inr (Or.inr (Or.inl rfl)))))) dL_law_300 ?_
  refine zl_aload_n 1 hC dL_law_301 rfl ?_
  refine zl_iload 0 hC dL_law_302 rfl ?_
  refine zl_iconst (v := 5) hC dL_law_304 (by decide) ?_
  refine zl_iadd hC dL_law_305 ?_
  refine zl_sld hC (hi 5 (Or.inr (Or.inr (Or.inr (Or.inr (Or.inr rfl)))))) dL_law_306 ?_
  refine zl_callM [.int (xs (i + 1).toNatClampNeg), .int (xs (i + 2).toNatClampNeg), .int (xs (i + 3).toNatClampNeg), .int (xs (i + 4).toNatClampNeg), .int (xs (i + 5).toNatClampNeg)] hC (cM_X8_layRow l dC dI cb qm (zM sk sv) (zM_ok sk sv) ((xs (i + 1).toNatClampNeg)) ((xs (i + 2).toNatClampNeg)) ((xs (i + 3).toNatClampNeg)) ((xs (i + 4).toNatClampNeg)) ((xs (i + 5).toNatClampNeg)) h r h' hm9) gL_law_X8_layRow rfl nM_X8_layRow ⟨(Nat.le_of_ble_eq_true rfl), (Nat.le_of_ble_eq_true rfl)⟩ 0 mo_0 rfl rfl rfl (Nat.le_of_ble_eq_true rfl) ⟨Nat.le_of_succ_le hcs.1, Nat.le_trans (Nat.le_add_right slots 6) hcs.2⟩ dL_law_307 rfl ?_
  refine zl_same 1063 hC dL_law_310 (by decide) ?_
  refine zl_widen hC (Nat.le_succ cells) (Nat.le_add_right slots 6) ?_
  exact hback g' h' x hr9
set_option maxRecDepth 100000 in
set_option maxHeartbeats 4000000 in
theorem law_hole {rel : z_G → z_G → Prop} {J : z_LJ} {l : Launch} {dC : Nat → ClassId} {dI : Nat → Nat → Nat} {ca : Nat → ClassId} {q : Nat → Nat} {cb : Nat → ClassId} {qm : Nat → Nat} {cL : ClassId} {qo : Nat} {tt sk sv : Nat → Nat} {b L : Nat} {xs : Nat → Int32} (hC : z_LC J l cL_law 7 wsL_law RL room_1 (dC, dI) ca q cb qm cL qo tt sk sv b L xs) (hls : l.stackTraces = false) (i : Int32) (hi : ∀ j : Int32, j = 0 ∨ j = 1 ∨ j = 2 ∨ j = 3 ∨ j = 4 ∨ j = 5 → vp_in (i + j) L) (g h : z_G) (x : Nat → Int64) (cells slots : Nat) (hcs : cells + 1 ≤ room_1.cells ∧ slots + 6 ≤ room_1.slots) (hrel : rel g h) (hsim : z_sim2 rel fY_X7_hole fM_X8_hole) (hback : ∀ (g' h' : z_G) (x' : Nat → Int64), rel g' h' → J 1063 [(4, .int i), (0, .ref b), (1, .ref (q 0)), (2, .ref (qm 0)), (3, .ref qo)] [] g' h' x' (cells + 1) (slots + 6)) : J 315 [(4, .int i), (0, .ref b), (1, .ref (q 0)), (2, .ref (qm 0)), (3, .ref qo)] [] g h x cells slots := by
  obtain ⟨r, g', h', hy9, hm9, hr9⟩ := hsim (xs (i + 1).toNatClampNeg) (xs (i + 2).toNatClampNeg) g h hrel
  refine zl_aload_n 2 hC dL_law_315 rfl ?_
  refine zl_aload_n 1 hC dL_law_316 rfl ?_
  refine zl_iload 0 hC dL_law_317 rfl ?_
  refine zl_iconst (v := 1) hC dL_law_319 (by decide) ?_
  refine zl_iadd hC dL_law_320 ?_
  refine zl_sld hC (hi 1 (Or.inr (Or.inl rfl))) dL_law_321 ?_
  refine zl_aload_n 1 hC dL_law_322 rfl ?_
  refine zl_iload 0 hC dL_law_323 rfl ?_
  refine zl_iconst (v := 2) hC dL_law_325 (by decide) ?_
  refine zl_iadd hC dL_law_326 ?_
  refine zl_sld hC (hi 2 (Or.inr (Or.inr (Or.inl rfl)))) dL_law_327 ?_
  refine zl_callY [.int (xs (i + 1).toNatClampNeg), .int (xs (i + 2).toNatClampNeg)] hC (cY_X7_hole l dC dI ca q tt ((xs (i + 1).toNatClampNeg)) ((xs (i + 2).toNatClampNeg)) g r g' hy9) gL_law_X7_hole rfl nY_X7_hole ⟨(Nat.le_of_ble_eq_true rfl), (Nat.le_of_ble_eq_true rfl)⟩ 0 yo_0 rfl rfl rfl (Nat.le_of_ble_eq_true rfl) ⟨Nat.le_of_succ_le hcs.1, Nat.le_trans (Nat.le_add_right slots 6) hcs.2⟩ dL_law_328 rfl ?_
  refine zl_aload_n 3 hC dL_law_331 rfl ?_
  refine zl_aload_n 1 hC dL_law_332 rfl ?_
  refine zl_iload 0 hC dL_law_333 rfl ?_
  refine zl_iconst (v := 1) hC dL_law_335 (by decide) ?_
  refine zl_iadd hC dL_law_336 ?_
  refine zl_sld hC (hi 1 (Or.inr (Or.inl rfl))) dL_law_337 ?_
  refine zl_aload_n 1 hC dL_law_338 rfl ?_
  refine zl_iload 0 hC dL_law_339 rfl ?_
  refine zl_iconst (v := 2) hC dL_law_341 (by decide) ?_
  refine zl_iadd hC dL_law_342 ?_
  refine zl_sld hC (hi 2 (Or.inr (Or.inr (Or.inl rfl)))) dL_law_343 ?_
  refine zl_callM [.int (xs (i + 1).toNatClampNeg), .int (xs (i + 2).toNatClampNeg)] hC (cM_X8_hole l dC dI cb qm (zM sk sv) (zM_ok sk sv) ((xs (i + 1).toNatClampNeg)) ((xs (i + 2).toNatClampNeg)) h r h' hm9) gL_law_X8_hole rfl nM_X8_hole ⟨(Nat.le_of_ble_eq_true rfl), (Nat.le_of_ble_eq_true rfl)⟩ 0 mo_0 rfl rfl rfl (Nat.le_of_ble_eq_true rfl) ⟨Nat.le_of_succ_le hcs.1, Nat.le_trans (Nat.le_add_right slots 6) hcs.2⟩ dL_law_344 rfl ?_
  refine zl_same 1063 hC dL_law_347 (by decide) ?_
  refine zl_widen hC (Nat.le_succ cells) (Nat.le_add_right slots 6) ?_
  exact hback g' h' x hr9
set_option maxRecDepth 100000 in
set_option maxHeartbeats 4000000 in
theorem law_light {rel : z_G → z_G → Prop} {J : z_LJ} {l : Launch} {dC : Nat → ClassId} {dI : Nat → Nat → Nat} {ca : Nat → ClassId} {q : Nat → Nat} {cb : Nat → ClassId} {qm : Nat → Nat} {cL : ClassId} {qo : Nat} {tt sk sv : Nat → Nat} {b L : Nat} {xs : Nat → Int32} (hC : z_LC J l cL_law 7 wsL_law RL room_1 (dC, dI) ca q cb qm cL qo tt sk sv b L xs) (hls : l.stackTraces = false) (i : Int32) (hi : ∀ j : Int32, j = 0 ∨ j = 1 ∨ j = 2 ∨ j = 3 ∨ j = 4 ∨ j = 5 → vp_in (i + j) L) (g h : z_G) (x : Nat → Int64) (cells slots : Nat) (hcs : cells + 1 ≤ room_1.cells ∧ slots + 6 ≤ room_1.slots) (hrel : rel g h) (hsim : z_sim0 rel fY_X7_light fM_X8_light) (hback : ∀ (g' h' : z_G) (x' : Nat → Int64), rel g' h' → J 1063 [(4, .int i), (0, .ref b), (1, .ref (q 0)), (2, .ref (qm 0)), (3, .ref qo)] [] g' h' x' (cells + 1) (slots + 6)) : J 352 [(4, .int i), (0, .ref b), (1, .ref (q 0)), (2, .ref (qm 0)), (3, .ref qo)] [] g h x cells slots := by
  obtain ⟨r, g', h', hy9, hm9, hr9⟩ := hsim g h hrel
  refine zl_aload_n 2 hC dL_law_352 rfl ?_
  refine zl_callY [] hC (cY_X7_light l dC dI ca q tt  g r g' hy9) gL_law_X7_light rfl nY_X7_light ⟨(Nat.le_of_ble_eq_true rfl), (Nat.le_of_ble_eq_true rfl)⟩ 0 yo_0 rfl rfl rfl (Nat.le_of_ble_eq_true rfl) ⟨Nat.le_of_succ_le hcs.1, Nat.le_trans (Nat.le_add_right slots 6) hcs.2⟩ dL_law_353 rfl ?_
  refine zl_aload_n 3 hC dL_law_356 rfl ?_
  refine zl_callM [] hC (cM_X8_light l dC dI cb qm (zM sk sv) (zM_ok sk sv)  h r h' hm9) gL_law_X8_light rfl nM_X8_light ⟨(Nat.le_of_ble_eq_true rfl), (Nat.le_of_ble_eq_true rfl)⟩ 0 mo_0 rfl rfl rfl (Nat.le_of_ble_eq_true rfl) ⟨Nat.le_of_succ_le hcs.1, Nat.le_trans (Nat.le_add_right slots 6) hcs.2⟩ dL_law_357 rfl ?_
  refine zl_same 1063 hC dL_law_360 (by decide) ?_
  refine zl_widen hC (Nat.le_succ cells) (Nat.le_add_right slots 6) ?_
  exact hback g' h' x hr9
set_option maxRecDepth 100000 in
set_option maxHeartbeats 4000000 in
theorem law_open {rel : z_G → z_G → Prop} {J : z_LJ} {l : Launch} {dC : Nat → ClassId} {dI : Nat → Nat → Nat} {ca : Nat → ClassId} {q : Nat → Nat} {cb : Nat → ClassId} {qm : Nat → Nat} {cL : ClassId} {qo : Nat} {tt sk sv : Nat → Nat} {b L : Nat} {xs : Nat → Int32} (hC : z_LC J l cL_law 7 wsL_law RL room_1 (dC, dI) ca q cb qm cL qo tt sk sv b L xs) (hls : l.stackTraces = false) (i : Int32) (hi : ∀ j : Int32, j = 0 ∨ j = 1 ∨ j = 2 ∨ j = 3 ∨ j = 4 ∨ j = 5 → vp_in (i + j) L) (g h : z_G) (x : Nat → Int64) (cells slots : Nat) (hcs : cells + 1 ≤ room_1.cells ∧ slots + 6 ≤ room_1.slots) (hrel : rel g h) (hsim : z_simO rel fY_X7_open fM_X8_open) (hback : ∀ (g' h' : z_G) (x' : Nat → Int64), rel g' h' → J 1063 [(4, .int i), (0, .ref b), (1, .ref (q 0)), (2, .ref (qm 0)), (3, .ref qo)] [] g' h' x' (cells + 1) (slots + 6)) : J 365 [(4, .int i), (0, .ref b), (1, .ref (q 0)), (2, .ref (qm 0)), (3, .ref qo)] [] g h x cells slots := by
  by_cases c0 : (xs (i + 2).toNatClampNeg) = 0
  · obtain ⟨r, g', h', hy9, hm9, hr9⟩ := hsim (xs (i + 1).toNatClampNeg) 0 g h (Or.inl rfl) hrel
    refine zl_aload_n 2 hC dL_law_365 rfl ?_
    refine zl_aload_n 1 hC dL_law_366 rfl ?_
    refine zl_iload 0 hC dL_law_367 rfl ?_
    refine zl_iconst (v := 1) hC dL_law_369 (by decide) ?_
    refine zl_iadd hC dL_law_370 ?_
    refine zl_sld hC (hi 1 (Or.inr (Or.inl rfl))) dL_law_371 ?_
    refine zl_aload_n 1 hC dL_law_372 rfl ?_
    refine zl_iload 0 hC dL_law_373 rfl ?_
    refine zl_iconst (v := 2) hC dL_law_375 (by decide) ?_
    refine zl_iadd hC dL_law_376 ?_
    refine zl_sld hC (hi 2 (Or.inr (Or.inr (Or.inl rfl)))) dL_law_377 ?_
    refine zl_if_eq 385 hC dL_law_378 (by decide) (fun _ => ?_) (fun w => absurd c0 w)
    refine zl_iconst (v := 0) hC dL_law_385 (by decide) ?_
    refine zl_callY [.int (xs (i + 1).toNatClampNeg), .int 0] hC (cY_X7_open l dC dI ca q tt ((xs (i + 1).toNatClampNeg)) (0) g r g' hy9) gL_law_X7_open rfl nY_X7_open ⟨(Nat.le_of_ble_eq_true rfl), (Nat.le_of_ble_eq_true rfl)⟩ 0 yo_0 rfl rfl rfl (Nat.le_of_ble_eq_true rfl) ⟨Nat.le_of_succ_le hcs.1, Nat.le_trans (Nat.le_add_right slots 6) hcs.2⟩ dL_law_386 rfl ?_
    refine zl_aload_n 3 hC dL_law_389 rfl ?_
    refine zl_aload_n 1 hC dL_law_390 rfl ?_
    refine zl_iload 0 hC dL_law_391 rfl ?_
    refine zl_iconst (v := 1) hC dL_law_393 (by decide) ?_
    refine zl_iadd hC dL_law_394 ?_
    refine zl_sld hC (hi 1 (Or.inr (Or.inl rfl))) dL_law_395 ?_
    refine zl_aload_n 1 hC dL_law_396 rfl ?_
    refine zl_iload 0 hC dL_law_397 rfl ?_
    refine zl_iconst (v := 2) hC dL_law_399 (by decide) ?_
    refine zl_iadd hC dL_law_400 ?_
    refine zl_sld hC (hi 2 (Or.inr (Or.inr (Or.inl rfl)))) dL_law_401 ?_
    refine zl_if_eq 409 hC dL_law_402 (by decide) (fun _ => ?_) (fun w => absurd c0 w)
    refine zl_iconst (v := 0) hC dL_law_409 (by decide) ?_
    refine zl_callM [.int (xs (i + 1).toNatClampNeg), .int 0] hC (cM_X8_open l dC dI cb qm (zM sk sv) (zM_ok sk sv) ((xs (i + 1).toNatClampNeg)) (0) h r h' hm9) gL_law_X8_open rfl nM_X8_open ⟨(Nat.le_of_ble_eq_true rfl), (Nat.le_of_ble_eq_true rfl)⟩ 0 mo_0 rfl rfl rfl (Nat.le_of_ble_eq_true rfl) ⟨Nat.le_of_succ_le hcs.1, Nat.le_trans (Nat.le_add_right slots 6) hcs.2⟩ dL_law_410 rfl ?_
    refine zl_same 1063 hC dL_law_413 (by decide) ?_
    refine zl_widen hC (Nat.le_succ cells) (Nat.le_add_right slots 6) ?_
    exact hback g' h' x hr9
  · obtain ⟨r, g', h', hy9, hm9, hr9⟩ := hsim (xs (i + 1).toNatClampNeg) 1 g h (Or.inr rfl) hrel
    refine zl_aload_n 2 hC dL_law_365 rfl ?_
    refine zl_aload_n 1 hC dL_law_366 rfl ?_
    refine zl_iload 0 hC dL_law_367 rfl ?_
    refine zl_iconst (v := 1) hC dL_law_369 (by decide) ?_
    refine zl_iadd hC dL_law_370 ?_
    refine zl_sld hC (hi 1 (Or.inr (Or.inl rfl))) dL_law_371 ?_
    refine zl_aload_n 1 hC dL_law_372 rfl ?_
    refine zl_iload 0 hC dL_law_373 rfl ?_
    refine zl_iconst (v := 2) hC dL_law_375 (by decide) ?_
    refine zl_iadd hC dL_law_376 ?_
    refine zl_sld hC (hi 2 (Or.inr (Or.inr (Or.inl rfl)))) dL_law_377 ?_
    refine zl_if_eq 385 hC dL_law_378 (by decide) (fun w => absurd w c0) (fun _ => ?_)
    refine zl_iconst (v := 1) hC dL_law_381 (by decide) ?_
    refine zl_goto 386 hC dL_law_382 (by decide) ?_
    refine zl_callY [.int (xs (i + 1).toNatClampNeg), .int 1] hC (cY_X7_open l dC dI ca q tt ((xs (i + 1).toNatClampNeg)) (1) g r g' hy9) gL_law_X7_open rfl nY_X7_open ⟨(Nat.le_of_ble_eq_true rfl), (Nat.le_of_ble_eq_true rfl)⟩ 0 yo_0 rfl rfl rfl (Nat.le_of_ble_eq_true rfl) ⟨Nat.le_of_succ_le hcs.1, Nat.le_trans (Nat.le_add_right slots 6) hcs.2⟩ dL_law_386 rfl ?_
    refine zl_aload_n 3 hC dL_law_389 rfl ?_
    refine zl_aload_n 1 hC dL_law_390 rfl ?_
    refine zl_iload 0 hC dL_law_391 rfl ?_
    refine zl_iconst (v := 1) hC dL_law_393 (by decide) ?_
    refine zl_iadd hC dL_law_394 ?_
    refine zl_sld hC (hi 1 (Or.inr (Or.inl rfl))) dL_law_395 ?_
    refine zl_aload_n 1 hC dL_law_396 rfl ?_
    refine zl_iload 0 hC dL_law_397 rfl ?_
    refine zl_iconst (v := 2) hC dL_law_399 (by decide) ?_
    refine zl_iadd hC dL_law_400 ?_
    refine zl_sld hC (hi 2 (Or.inr (Or.inr (Or.inl rfl)))) dL_law_401 ?_
    refine zl_if_eq 409 hC dL_law_402 (by decide) (fun w => absurd w c0) (fun _ => ?_)
    refine zl_iconst (v := 1) hC dL_law_405 (by decide) ?_
    refine zl_goto 410 hC dL_law_406 (by decide) ?_
    refine zl_callM [.int (xs (i + 1).toNatClampNeg), .int 1] hC (cM_X8_open l dC dI cb qm (zM sk sv) (zM_ok sk sv) ((xs (i + 1).toNatClampNeg)) (1) h r h' hm9) gL_law_X8_open rfl nM_X8_open ⟨(Nat.le_of_ble_eq_true rfl), (Nat.le_of_ble_eq_true rfl)⟩ 0 mo_0 rfl rfl rfl (Nat.le_of_ble_eq_true rfl) ⟨Nat.le_of_succ_le hcs.1, Nat.le_trans (Nat.le_add_right slots 6) hcs.2⟩ dL_law_410 rfl ?_
    refine zl_same 1063 hC dL_law_413 (by decide) ?_
    refine zl_widen hC (Nat.le_succ cells) (Nat.le_add_right slots 6) ?_
    exact hback g' h' x hr9
set_option maxRecDepth 100000 in
set_option maxHeartbeats 4000000 in
theorem law_cover {rel : z_G → z_G → Prop} {J : z_LJ} {l : Launch} {dC : Nat → ClassId} {dI : Nat → Nat → Nat} {ca : Nat → ClassId} {q : Nat → Nat} {cb : Nat → ClassId} {qm : Nat → Nat} {cL : ClassId} {qo : Nat} {tt sk sv : Nat → Nat} {b L : Nat} {xs : Nat → Int32} (hC : z_LC J l cL_law 7 wsL_law RL room_1 (dC, dI) ca q cb qm cL qo tt sk sv b L xs) (hls : l.stackTraces = false) (i : Int32) (hi : ∀ j : Int32, j = 0 ∨ j = 1 ∨ j = 2 ∨ j = 3 ∨ j = 4 ∨ j = 5 → vp_in (i + j) L) (g h : z_G) (x : Nat → Int64) (cells slots : Nat) (hcs : cells + 1 ≤ room_1.cells ∧ slots + 6 ≤ room_1.slots) (hrel : rel g h) (hsim : z_sim3 rel fY_X7_cover fM_X8_cover) (hback : ∀ (g' h' : z_G) (x' : Nat → Int64), rel g' h' → J 1063 [(4, .int i), (0, .ref b), (1, .ref (q 0)), (2, .ref (qm 0)), (3, .ref qo)] [] g' h' x' (cells + 1) (slots + 6)) : J 418 [(4, .int i), (0, .ref b), (1, .ref (q 0)), (2, .ref (qm 0)), (3, .ref qo)] [] g h x cells slots := by
  obtain ⟨r, g', h', hy9, hm9, hr9⟩ := hsim (xs (i + 1).toNatClampNeg) (xs (i + 2).toNatClampNeg) (xs (i + 3).toNatClampNeg) g h hrel
  refine zl_aload_n 2 hC dL_law_418 rfl ?_
  refine zl_aload_n 1 hC dL_law_419 rfl ?_
  refine zl_iload 0 hC dL_law_420 rfl ?_
  refine zl_iconst (v := 1) hC dL_law_422 (by decide) ?_
  refine zl_iadd hC dL_law_423 ?_
  refine zl_sld hC (hi 1 (Or.inr (Or.inl rfl))) dL_law_424 ?_
  refine zl_aload_n 1 hC dL_law_425 rfl ?_
  refine zl_iload 0 hC dL_law_426 rfl ?_
  refine zl_iconst (v := 2) hC dL_law_428 (by decide) ?_
  refine zl_iadd hC dL_law_429 ?_
  refine zl_sld hC (hi 2 (Or.inr (Or.inr (Or.inl rfl)))) dL_law_430 ?_
  refine zl_aload_n 1 hC dL_law_431 rfl ?_
  refine zl_iload 0 hC dL_law_432 rfl ?_
  refine zl_iconst (v := 3) hC dL_law_434 (by decide) ?_
  refine zl_iadd hC dL_law_435 ?_
  refine zl_sld hC (hi 3 (Or.inr (Or.inr (Or.inr (Or.inl rfl))))) dL_law_436 ?_
  refine zl_callY [.int (xs (i + 1).toNatClampNeg), .int (xs (i + 2).toNatClampNeg), .int (xs (i + 3).toNatClampNeg)] hC (cY_X7_cover l dC dI ca q tt ((xs (i + 1).toNatClampNeg)) ((xs (i + 2).toNatClampNeg)) ((xs (i + 3).toNatClampNeg)) g r g' hy9) gL_law_X7_cover rfl nY_X7_cover ⟨(Nat.le_of_ble_eq_true rfl), (Nat.le_of_ble_eq_true rfl)⟩ 0 yo_0 rfl rfl rfl (Nat.le_of_ble_eq_true rfl) ⟨Nat.le_of_succ_le hcs.1, Nat.le_trans (Nat.le_add_right slots 6) hcs.2⟩ dL_law_437 rfl ?_
  refine zl_aload_n 3 hC dL_law_440 rfl ?_
  refine zl_aload_n 1 hC dL_law_441 rfl ?_
  refine zl_iload 0 hC dL_law_442 rfl ?_
  refine zl_iconst (v := 1) hC dL_law_444 (by decide) ?_
  refine zl_iadd hC dL_law_445 ?_
  refine zl_sld hC (hi 1 (Or.inr (Or.inl rfl))) dL_law_446 ?_
  refine zl_aload_n 1 hC dL_law_447 rfl ?_
  refine zl_iload 0 hC dL_law_448 rfl ?_
  refine zl_iconst (v := 2) hC dL_law_450 (by decide) ?_
  refine zl_iadd hC dL_law_451 ?_
  refine zl_sld hC (hi 2 (Or.inr (Or.inr (Or.inl rfl)))) dL_law_452 ?_
  refine zl_aload_n 1 hC dL_law_453 rfl ?_
  refine zl_iload 0 hC dL_law_454 rfl ?_
  refine zl_iconst (v := 3) hC dL_law_456 (by decide) ?_
  refine zl_iadd hC dL_law_457 ?_
  refine zl_sld hC (hi 3 (Or.inr (Or.inr (Or.inr (Or.inl rfl))))) dL_law_458 ?_
  refine zl_callM [.int (xs (i + 1).toNatClampNeg), .int (xs (i + 2).toNatClampNeg), .int (xs (i + 3).toNatClampNeg)] hC (cM_X8_cover l dC dI cb qm (zM sk sv) (zM_ok sk sv) ((xs (i + 1).toNatClampNeg)) ((xs (i + 2).toNatClampNeg)) ((xs (i + 3).toNatClampNeg)) h r h' hm9) gL_law_X8_cover rfl nM_X8_cover ⟨(Nat.le_of_ble_eq_true rfl), (Nat.le_of_ble_eq_true rfl)⟩ 0 mo_0 rfl rfl rfl (Nat.le_of_ble_eq_true rfl) ⟨Nat.le_of_succ_le hcs.1, Nat.le_trans (Nat.le_add_right slots 6) hcs.2⟩ dL_law_459 rfl ?_
  refine zl_same 1063 hC dL_law_462 (by decide) ?_
  refine zl_widen hC (Nat.le_succ cells) (Nat.le_add_right slots 6) ?_
  exact hback g' h' x hr9
set_option maxRecDepth 100000 in
set_option maxHeartbeats 4000000 in
theorem law_watch {rel : z_G → z_G → Prop} {J : z_LJ} {l : Launch} {dC : Nat → ClassId} {dI : Nat → Nat → Nat} {ca : Nat → ClassId} {q : Nat → Nat} {cb : Nat → ClassId} {qm : Nat → Nat} {cL : ClassId} {qo : Nat} {tt sk sv : Nat → Nat} {b L : Nat} {xs : Nat → Int32} (hC : z_LC J l cL_law 7 wsL_law RL room_1 (dC, dI) ca q cb qm cL qo tt sk sv b L xs) (hls : l.stackTraces = false) (i : Int32) (hi : ∀ j : Int32, j = 0 ∨ j = 1 ∨ j = 2 ∨ j = 3 ∨ j = 4 ∨ j = 5 → vp_in (i + j) L) (g h : z_G) (x : Nat → Int64) (cells slots : Nat) (hcs : cells + 1 ≤ room_1.cells ∧ slots + 6 ≤ room_1.slots) (hrel : rel g h) (hsim : z_sim1 rel fY_X7_watch fM_X8_watch) (hback : ∀ (g' h' : z_G) (x' : Nat → Int64), rel g' h' → J 1063 [(4, .int i), (0, .ref b), (1, .ref (q 0)), (2, .ref (qm 0)), (3, .ref qo)] [] g' h' x' (cells + 1) (slots + 6)) : J 467 [(4, .int i), (0, .ref b), (1, .ref (q 0)), (2, .ref (qm 0)), (3, .ref qo)] [] g h x cells slots := by
  obtain ⟨r, g', h', hy9, hm9, hr9⟩ := hsim (xs (i + 1).toNatClampNeg) g h hrel
  refine zl_aload_n 2 hC dL_law_467 rfl ?_
  refine zl_aload_n 1 hC dL_law_468 rfl ?_
  refine zl_iload 0 hC dL_law_469 rfl ?_
  refine zl_iconst (v := 1) hC dL_law_471 (by decide) ?_
  refine zl_iadd hC dL_law_472 ?_
  refine zl_sld hC (hi 1 (Or.inr (Or.inl rfl))) dL_law_473 ?_
  refine zl_callY [.int (xs (i + 1).toNatClampNeg)] hC (cY_X7_watch l dC dI ca q tt ((xs (i + 1).toNatClampNeg)) g r g' hy9) gL_law_X7_watch rfl nY_X7_watch ⟨(Nat.le_of_ble_eq_true rfl), (Nat.le_of_ble_eq_true rfl)⟩ 0 yo_0 rfl rfl rfl (Nat.le_of_ble_eq_true rfl) ⟨Nat.le_of_succ_le hcs.1, Nat.le_trans (Nat.le_add_right slots 6) hcs.2⟩ dL_law_474 rfl ?_
  refine zl_aload_n 3 hC dL_law_477 rfl ?_
  refine zl_aload_n 1 hC dL_law_478 rfl ?_
  refine zl_iload 0 hC dL_law_479 rfl ?_
  refine zl_iconst (v := 1) hC dL_law_481 (by decide) ?_
  refine zl_iadd hC dL_law_482 ?_
  refine zl_sld hC (hi 1 (Or.inr (Or.inl rfl))) dL_law_483 ?_
  refine zl_callM [.int (xs (i + 1).toNatClampNeg)] hC (cM_X8_watch l dC dI cb qm (zM sk sv) (zM_ok sk sv) ((xs (i + 1).toNatClampNeg)) h r h' hm9) gL_law_X8_watch rfl nM_X8_watch ⟨(Nat.le_of_ble_eq_true rfl), (Nat.le_of_ble_eq_true rfl)⟩ 0 mo_0 rfl rfl rfl (Nat.le_of_ble_eq_true rfl) ⟨Nat.le_of_succ_le hcs.1, Nat.le_trans (Nat.le_add_right slots 6) hcs.2⟩ dL_law_484 rfl ?_
  refine zl_same 1063 hC dL_law_487 (by decide) ?_
  refine zl_widen hC (Nat.le_succ cells) (Nat.le_add_right slots 6) ?_
  exact hback g' h' x hr9
set_option maxRecDepth 100000 in
set_option maxHeartbeats 4000000 in
theorem law_hour {rel : z_G → z_G → Prop} {J : z_LJ} {l : Launch} {dC : Nat → ClassId} {dI : Nat → Nat → Nat} {ca : Nat → ClassId} {q : Nat → Nat} {cb : Nat → ClassId} {qm : Nat → Nat} {cL : ClassId} {qo : Nat} {tt sk sv : Nat → Nat} {b L : Nat} {xs : Nat → Int32} (hC : z_LC J l cL_law 7 wsL_law RL room_1 (dC, dI) ca q cb qm cL qo tt sk sv b L xs) (hls : l.stackTraces = false) (i : Int32) (hi : ∀ j : Int32, j = 0 ∨ j = 1 ∨ j = 2 ∨ j = 3 ∨ j = 4 ∨ j = 5 → vp_in (i + j) L) (g h : z_G) (x : Nat → Int64) (cells slots : Nat) (hcs : cells + 1 ≤ room_1.cells ∧ slots + 6 ≤ room_1.slots) (hrel : rel g h) (hsim : z_sim2 rel fY_X7_hour fM_X8_hour) (hback : ∀ (g' h' : z_G) (x' : Nat → Int64), rel g' h' → J 1063 [(4, .int i), (0, .ref b), (1, .ref (q 0)), (2, .ref (qm 0)), (3, .ref qo)] [] g' h' x' (cells + 1) (slots + 6)) : J 492 [(4, .int i), (0, .ref b), (1, .ref (q 0)), (2, .ref (qm 0)), (3, .ref qo)] [] g h x cells slots := by
  obtain ⟨r, g', h', hy9, hm9, hr9⟩ := hsim (xs (i + 1).toNatClampNeg) (xs (i + 2).toNatClampNeg) g h hrel
  refine zl_aload_n 2 hC dL_law_492 rfl ?_
  refine zl_aload_n 1 hC dL_law_493 rfl ?_
  refine zl_iload 0 hC dL_law_494 rfl ?_
  refine zl_iconst (v := 1) hC dL_law_496 (by decide) ?_
  refine zl_iadd hC dL_law_497 ?_
  refine zl_sld hC (hi 1 (Or.inr (Or.inl rfl))) dL_law_498 ?_
  refine zl_aload_n 1 hC dL_law_499 rfl ?_
  refine zl_iload 0 hC dL_law_500 rfl ?_
  refine zl_iconst (v := 2) hC dL_law_502 (by decide) ?_
  refine zl_iadd hC dL_law_503 ?_
  refine zl_sld hC (hi 2 (Or.inr (Or.inr (Or.inl rfl)))) dL_law_504 ?_
  refine zl_callY [.int (xs (i + 1).toNatClampNeg), .int (xs (i + 2).toNatClampNeg)] hC (cY_X7_hour l dC dI ca q tt ((xs (i + 1).toNatClampNeg)) ((xs (i + 2).toNatClampNeg)) g r g' hy9) gL_law_X7_hour rfl nY_X7_hour ⟨(Nat.le_of_ble_eq_true rfl), (Nat.le_of_ble_eq_true rfl)⟩ 0 yo_0 rfl rfl rfl (Nat.le_of_ble_eq_true rfl) ⟨Nat.le_of_succ_le hcs.1, Nat.le_trans (Nat.le_add_right slots 6) hcs.2⟩ dL_law_505 rfl ?_
  refine zl_aload_n 3 hC dL_law_508 rfl ?_
  refine zl_aload_n 1 hC dL_law_509 rfl ?_
  refine zl_iload 0 hC dL_law_510 rfl ?_
  refine zl_iconst (v := 1) hC dL_law_512 (by decide) ?_
  refine zl_iadd hC dL_law_513 ?_
  refine zl_sld hC (hi 1 (Or.inr (Or.inl rfl))) dL_law_514 ?_
  refine zl_aload_n 1 hC dL_law_515 rfl ?_
  refine zl_iload 0 hC dL_law_516 rfl ?_
  refine zl_iconst (v := 2) hC dL_law_518 (by decide) ?_
  refine zl_iadd hC dL_law_519 ?_
  refine zl_sld hC (hi 2 (Or.inr (Or.inr (Or.inl rfl)))) dL_law_520 ?_
  refine zl_callM [.int (xs (i + 1).toNatClampNeg), .int (xs (i + 2).toNatClampNeg)] hC (cM_X8_hour l dC dI cb qm (zM sk sv) (zM_ok sk sv) ((xs (i + 1).toNatClampNeg)) ((xs (i + 2).toNatClampNeg)) h r h' hm9) gL_law_X8_hour rfl nM_X8_hour ⟨(Nat.le_of_ble_eq_true rfl), (Nat.le_of_ble_eq_true rfl)⟩ 0 mo_0 rfl rfl rfl (Nat.le_of_ble_eq_true rfl) ⟨Nat.le_of_succ_le hcs.1, Nat.le_trans (Nat.le_add_right slots 6) hcs.2⟩ dL_law_521 rfl ?_
  refine zl_same 1063 hC dL_law_524 (by decide) ?_
  refine zl_widen hC (Nat.le_succ cells) (Nat.le_add_right slots 6) ?_
  exact hback g' h' x hr9
set_option maxRecDepth 100000 in
set_option maxHeartbeats 4000000 in
theorem law_again {rel : z_G → z_G → Prop} {J : z_LJ} {l : Launch} {dC : Nat → ClassId} {dI : Nat → Nat → Nat} {ca : Nat → ClassId} {q : Nat → Nat} {cb : Nat → ClassId} {qm : Nat → Nat} {cL : ClassId} {qo : Nat} {tt sk sv : Nat → Nat} {b L : Nat} {xs : Nat → Int32} (hC : z_LC J l cL_law 7 wsL_law RL room_1 (dC, dI) ca q cb qm cL qo tt sk sv b L xs) (hls : l.stackTraces = false) (i : Int32) (hi : ∀ j : Int32, j = 0 ∨ j = 1 ∨ j = 2 ∨ j = 3 ∨ j = 4 ∨ j = 5 → vp_in (i + j) L) (g h : z_G) (x : Nat → Int64) (cells slots : Nat) (hcs : cells + 1 ≤ room_1.cells ∧ slots + 6 ≤ room_1.slots) (hrel : rel g h) (hsim : z_sim3 rel fY_X7_again fM_X8_again) (hback : ∀ (g' h' : z_G) (x' : Nat → Int64), rel g' h' → J 1063 [(4, .int i), (0, .ref b), (1, .ref (q 0)), (2, .ref (qm 0)), (3, .ref qo)] [] g' h' x' (cells + 1) (slots + 6)) : J 529 [(4, .int i), (0, .ref b), (1, .ref (q 0)), (2, .ref (qm 0)), (3, .ref qo)] [] g h x cells slots := by
  obtain ⟨r, g', h', hy9, hm9, hr9⟩ := hsim (xs (i + 1).toNatClampNeg) (xs (i + 2).toNatClampNeg) (xs (i + 3).toNatClampNeg) g h hrel
  refine zl_aload_n 2 hC dL_law_529 rfl ?_
  refine zl_aload_n 1 hC dL_law_530 rfl ?_
  refine zl_iload 0 hC dL_law_531 rfl ?_
  refine zl_iconst (v := 1) hC dL_law_533 (by decide) ?_
  refine zl_iadd hC dL_law_534 ?_
  refine zl_sld hC (hi 1 (Or.inr (Or.inl rfl))) dL_law_535 ?_
  refine zl_aload_n 1 hC dL_law_536 rfl ?_
  refine zl_iload 0 hC dL_law_537 rfl ?_
  refine zl_iconst (v := 2) hC dL_law_539 (by decide) ?_
  refine zl_iadd hC dL_law_540 ?_
  refine zl_sld hC (hi 2 (Or.inr (Or.inr (Or.inl rfl)))) dL_law_541 ?_
  refine zl_aload_n 1 hC dL_law_542 rfl ?_
  refine zl_iload 0 hC dL_law_543 rfl ?_
  refine zl_iconst (v := 3) hC dL_law_545 (by decide) ?_
  refine zl_iadd hC dL_law_546 ?_
  refine zl_sld hC (hi 3 (Or.inr (Or.inr (Or.inr (Or.inl rfl))))) dL_law_547 ?_
  refine zl_callY [.int (xs (i + 1).toNatClampNeg), .int (xs (i + 2).toNatClampNeg), .int (xs (i + 3).toNatClampNeg)] hC (cY_X7_again l dC dI ca q tt ((xs (i + 1).toNatClampNeg)) ((xs (i + 2).toNatClampNeg)) ((xs (i + 3).toNatClampNeg)) g r g' hy9) gL_law_X7_again rfl nY_X7_again ⟨(Nat.le_of_ble_eq_true rfl), (Nat.le_of_ble_eq_true rfl)⟩ 0 yo_0 rfl rfl rfl (Nat.le_of_ble_eq_true rfl) ⟨Nat.le_of_succ_le hcs.1, Nat.le_trans (Nat.le_add_right slots 6) hcs.2⟩ dL_law_548 rfl ?_
  refine zl_aload_n 3 hC dL_law_551 rfl ?_
  refine zl_aload_n 1 hC dL_law_552 rfl ?_
  refine zl_iload 0 hC dL_law_553 rfl ?_
  refine zl_iconst (v := 1) hC dL_law_555 (by decide) ?_
  refine zl_iadd hC dL_law_556 ?_
  refine zl_sld hC (hi 1 (Or.inr (Or.inl rfl))) dL_law_557 ?_
  refine zl_aload_n 1 hC dL_law_558 rfl ?_
  refine zl_iload 0 hC dL_law_559 rfl ?_
  refine zl_iconst (v := 2) hC dL_law_561 (by decide) ?_
  refine zl_iadd hC dL_law_562 ?_
  refine zl_sld hC (hi 2 (Or.inr (Or.inr (Or.inl rfl)))) dL_law_563 ?_
  refine zl_aload_n 1 hC dL_law_564 rfl ?_
  refine zl_iload 0 hC dL_law_565 rfl ?_
  refine zl_iconst (v := 3) hC dL_law_567 (by decide) ?_
  refine zl_iadd hC dL_law_568 ?_
  refine zl_sld hC (hi 3 (Or.inr (Or.inr (Or.inr (Or.inl rfl))))) dL_law_569 ?_
  refine zl_callM [.int (xs (i + 1).toNatClampNeg), .int (xs (i + 2).toNatClampNeg), .int (xs (i + 3).toNatClampNeg)] hC (cM_X8_again l dC dI cb qm (zM sk sv) (zM_ok sk sv) ((xs (i + 1).toNatClampNeg)) ((xs (i + 2).toNatClampNeg)) ((xs (i + 3).toNatClampNeg)) h r h' hm9) gL_law_X8_again rfl nM_X8_again ⟨(Nat.le_of_ble_eq_true rfl), (Nat.le_of_ble_eq_true rfl)⟩ 0 mo_0 rfl rfl rfl (Nat.le_of_ble_eq_true rfl) ⟨Nat.le_of_succ_le hcs.1, Nat.le_trans (Nat.le_add_right slots 6) hcs.2⟩ dL_law_570 rfl ?_
  refine zl_same 1063 hC dL_law_573 (by decide) ?_
  refine zl_widen hC (Nat.le_succ cells) (Nat.le_add_right slots 6) ?_
  exact hback g' h' x hr9
set_option maxRecDepth 100000 in
set_option maxHeartbeats 4000000 in
theorem law_rake {rel : z_G → z_G → Prop} {J : z_LJ} {l : Launch} {dC : Nat → ClassId} {dI : Nat → Nat → Nat} {ca : Nat → ClassId} {q : Nat → Nat} {cb : Nat → ClassId} {qm : Nat → Nat} {cL : ClassId} {qo : Nat} {tt sk sv : Nat → Nat} {b L : Nat} {xs : Nat → Int32} (hC : z_LC J l cL_law 7 wsL_law RL room_1 (dC, dI) ca q cb qm cL qo tt sk sv b L xs) (hls : l.stackTraces = false) (i : Int32) (hi : ∀ j : Int32, j = 0 ∨ j = 1 ∨ j = 2 ∨ j = 3 ∨ j = 4 ∨ j = 5 → vp_in (i + j) L) (g h : z_G) (x : Nat → Int64) (cells slots : Nat) (hcs : cells + 1 ≤ room_1.cells ∧ slots + 6 ≤ room_1.slots) (hrel : rel g h) (hsim : z_sim0 rel fY_X7_rake fM_X8_rake) (hback : ∀ (g' h' : z_G) (x' : Nat → Int64), rel g' h' → J 1063 [(4, .int i), (0, .ref b), (1, .ref (q 0)), (2, .ref (qm 0)), (3, .ref qo)] [] g' h' x' (cells + 1) (slots + 6)) : J 578 [(4, .int i), (0, .ref b), (1, .ref (q 0)), (2, .ref (qm 0)), (3, .ref qo)] [] g h x cells slots := by
  obtain ⟨r, g', h', hy9, hm9, hr9⟩ := hsim g h hrel
  refine zl_aload_n 2 hC dL_law_578 rfl ?_
  refine zl_callY [] hC (cY_X7_rake l dC dI ca q tt  g r g' hy9) gL_law_X7_rake rfl nY_X7_rake ⟨(Nat.le_of_ble_eq_true rfl), (Nat.le_of_ble_eq_true rfl)⟩ 0 yo_0 rfl rfl rfl (Nat.le_of_ble_eq_true rfl) ⟨Nat.le_of_succ_le hcs.1, Nat.le_trans (Nat.le_add_right slots 6) hcs.2⟩ dL_law_579 rfl ?_
  refine zl_aload_n 3 hC dL_law_582 rfl ?_
  refine zl_callM [] hC (cM_X8_rake l dC dI cb qm (zM sk sv) (zM_ok sk sv)  h r h' hm9) gL_law_X8_rake rfl nM_X8_rake ⟨(Nat.le_of_ble_eq_true rfl), (Nat.le_of_ble_eq_true rfl)⟩ 0 mo_0 rfl rfl rfl (Nat.le_of_ble_eq_true rfl) ⟨Nat.le_of_succ_le hcs.1, Nat.le_trans (Nat.le_add_right slots 6) hcs.2⟩ dL_law_583 rfl ?_
  refine zl_same 1063 hC dL_law_586 (by decide) ?_
  refine zl_widen hC (Nat.le_succ cells) (Nat.le_add_right slots 6) ?_
  exact hback g' h' x hr9
set_option maxRecDepth 100000 in
set_option maxHeartbeats 4000000 in
theorem law_count {rel : z_G → z_G → Prop} {J : z_LJ} {l : Launch} {dC : Nat → ClassId} {dI : Nat → Nat → Nat} {ca : Nat → ClassId} {q : Nat → Nat} {cb : Nat → ClassId} {qm : Nat → Nat} {cL : ClassId} {qo : Nat} {tt sk sv : Nat → Nat} {b L : Nat} {xs : Nat → Int32} (hC : z_LC J l cL_law 7 wsL_law RL room_1 (dC, dI) ca q cb qm cL qo tt sk sv b L xs) (hls : l.stackTraces = false) (i : Int32) (hi : ∀ j : Int32, j = 0 ∨ j = 1 ∨ j = 2 ∨ j = 3 ∨ j = 4 ∨ j = 5 → vp_in (i + j) L) (g h : z_G) (x : Nat → Int64) (cells slots : Nat) (hcs : cells + 1 ≤ room_1.cells ∧ slots + 6 ≤ room_1.slots) (hrel : rel g h) (hsim : z_sim1 rel fY_X7_count fM_X8_count) (hback : ∀ (g' h' : z_G) (x' : Nat → Int64), rel g' h' → J 1063 [(4, .int i), (0, .ref b), (1, .ref (q 0)), (2, .ref (qm 0)), (3, .ref qo)] [] g' h' x' (cells + 1) (slots + 6)) : J 591 [(4, .int i), (0, .ref b), (1, .ref (q 0)), (2, .ref (qm 0)), (3, .ref qo)] [] g h x cells slots := by
  obtain ⟨r, g', h', hy9, hm9, hr9⟩ := hsim (xs (i + 1).toNatClampNeg) g h hrel
  refine zl_aload_n 2 hC dL_law_591 rfl ?_
  refine zl_aload_n 1 hC dL_law_592 rfl ?_
  refine zl_iload 0 hC dL_law_593 rfl ?_
  refine zl_iconst (v := 1) hC dL_law_595 (by decide) ?_
  refine zl_iadd hC dL_law_596 ?_
  refine zl_sld hC (hi 1 (Or.inr (Or.inl rfl))) dL_law_597 ?_
  refine zl_callY [.int (xs (i + 1).toNatClampNeg)] hC (cY_X7_count l dC dI ca q tt ((xs (i + 1).toNatClampNeg)) g r g' hy9) gL_law_X7_count rfl nY_X7_count ⟨(Nat.le_of_ble_eq_true rfl), (Nat.le_of_ble_eq_true rfl)⟩ 0 yo_0 rfl rfl rfl (Nat.le_of_ble_eq_true rfl) ⟨Nat.le_of_succ_le hcs.1, Nat.le_trans (Nat.le_add_right slots 6) hcs.2⟩ dL_law_598 rfl ?_
  refine zl_aload_n 3 hC dL_law_601 rfl ?_
  refine zl_aload_n 1 hC dL_law_602 rfl ?_
  refine zl_iload 0 hC dL_law_603 rfl ?_
  refine zl_iconst (v := 1) hC dL_law_605 (by decide) ?_
  refine zl_iadd hC dL_law_606 ?_
  refine zl_sld hC (hi 1 (Or.inr (Or.inl rfl))) dL_law_607 ?_
  refine zl_callM [.int (xs (i + 1).toNatClampNeg)] hC (cM_X8_count l dC dI cb qm (zM sk sv) (zM_ok sk sv) ((xs (i + 1).toNatClampNeg)) h r h' hm9) gL_law_X8_count rfl nM_X8_count ⟨(Nat.le_of_ble_eq_true rfl), (Nat.le_of_ble_eq_true rfl)⟩ 0 mo_0 rfl rfl rfl (Nat.le_of_ble_eq_true rfl) ⟨Nat.le_of_succ_le hcs.1, Nat.le_trans (Nat.le_add_right slots 6) hcs.2⟩ dL_law_608 rfl ?_
  refine zl_same 1063 hC dL_law_611 (by decide) ?_
  refine zl_widen hC (Nat.le_succ cells) (Nat.le_add_right slots 6) ?_
  exact hback g' h' x hr9
set_option maxRecDepth 100000 in
set_option maxHeartbeats 4000000 in
theorem law_cell {rel : z_G → z_G → Prop} {J : z_LJ} {l : Launch} {dC : Nat → ClassId} {dI : Nat → Nat → Nat} {ca : Nat → ClassId} {q : Nat → Nat} {cb : Nat → ClassId} {qm : Nat → Nat} {cL : ClassId} {qo : Nat} {tt sk sv : Nat → Nat} {b L : Nat} {xs : Nat → Int32} (hC : z_LC J l cL_law 7 wsL_law RL room_1 (dC, dI) ca q cb qm cL qo tt sk sv b L xs) (hls : l.stackTraces = false) (i : Int32) (hi : ∀ j : Int32, j = 0 ∨ j = 1 ∨ j = 2 ∨ j = 3 ∨ j = 4 ∨ j = 5 → vp_in (i + j) L) (g h : z_G) (x : Nat → Int64) (cells slots : Nat) (hcs : cells + 1 ≤ room_1.cells ∧ slots + 6 ≤ room_1.slots) (hrel : rel g h) (hsim : z_simT3 rel fY_X7_cell fY_X7_cellT fM_X8_cell) (hback : ∀ (g' h' : z_G) (x' : Nat → Int64), rel g' h' → J 1063 [(4, .int i), (0, .ref b), (1, .ref (q 0)), (2, .ref (qm 0)), (3, .ref qo)] [] g' h' x' (cells + 1) (slots + 6)) : J 616 [(4, .int i), (0, .ref b), (1, .ref (q 0)), (2, .ref (qm 0)), (3, .ref qo)] [] g h x cells slots := by
  obtain ⟨r, r2, g', h', hm9, hr9, ⟨hy9, ht9, e9⟩ | ⟨hy9, ht9⟩⟩ := hsim (xs (i + 1).toNatClampNeg) (xs (i + 2).toNatClampNeg) (xs (i + 3).toNatClampNeg) g h hrel
  · rw [e9] at hm9
    refine zl_aload_n 2 hC dL_law_616 rfl ?_
    refine zl_aload_n 1 hC dL_law_617 rfl ?_
    refine zl_iload 0 hC dL_law_618 rfl ?_
    refine zl_iconst (v := 1) hC dL_law_620 (by decide) ?_
    refine zl_iadd hC dL_law_621 ?_
    refine zl_sld hC (hi 1 (Or.inr (Or.inl rfl))) dL_law_622 ?_
    refine zl_aload_n 1 hC dL_law_623 rfl ?_
    refine zl_iload 0 hC dL_law_624 rfl ?_
    refine zl_iconst (v := 2) hC dL_law_626 (by decide) ?_
    refine zl_iadd hC dL_law_627 ?_
    refine zl_sld hC (hi 2 (Or.inr (Or.inr (Or.inl rfl)))) dL_law_628 ?_
    refine zl_aload_n 1 hC dL_law_629 rfl ?_
    refine zl_iload 0 hC dL_law_630 rfl ?_
    refine zl_iconst (v := 3) hC dL_law_632 (by decide) ?_
    refine zl_iadd hC dL_law_633 ?_
    refine zl_sld hC (hi 3 (Or.inr (Or.inr (Or.inr (Or.inl rfl))))) dL_law_634 ?_
    refine zl_aload_n 4 hC dL_law_635 rfl ?_
    refine zl_callH [.ref (q 0), .int (xs (i + 1).toNatClampNeg), .int (xs (i + 2).toNatClampNeg), .int (xs (i + 3).toNatClampNeg), .ref qo] hC (kL_cell l dC dI ca q cL qo tt ((xs (i + 1).toNatClampNeg)) ((xs (i + 2).toNatClampNeg)) ((xs (i + 3).toNatClampNeg)) g x r g' hy9) gL_law_L_cell rfl nL_cell ⟨(Nat.le_of_ble_eq_true rfl), (Nat.le_of_ble_eq_true rfl)⟩ rfl (Nat.le_of_ble_eq_true rfl) hcs dL_law_636 rfl ?_
    refine zl_istore (lv1 := [(5, .int 0), (4, .int i), (0, .ref b), (1, .ref (q 0)), (2, .ref (qm 0)), (3, .ref qo)]) hC dL_law_639 (by decide) rfl ?_
    refine zl_aload_n 4 hC dL_law_641 rfl ?_
    refine zl_aload_n 2 hC dL_law_642 rfl ?_
    refine zl_iload 1 hC dL_law_643 rfl ?_
    refine zl_iconst (v := 1) hC dL_law_645 (by decide) ?_
    refine zl_iadd hC dL_law_646 ?_
    refine zl_sld hC (hi 1 (Or.inr (Or.inl rfl))) dL_law_647 ?_
    refine zl_aload_n 2 hC dL_law_648 rfl ?_
    refine zl_iload 1 hC dL_law_649 rfl ?_
    refine zl_iconst (v := 2) hC dL_law_651 (by decide) ?_
    refine zl_iadd hC dL_law_652 ?_
    refine zl_sld hC (hi 2 (Or.inr (Or.inr (Or.inl rfl)))) dL_law_653 ?_
    refine zl_aload_n 2 hC dL_law_654 rfl ?_
    refine zl_iload 1 hC dL_law_655 rfl ?_
    refine zl_iconst (v := 3) hC dL_law_657 (by decide) ?_
    refine zl_iadd hC dL_law_658 ?_
    refine zl_sld hC (hi 3 (Or.inr (Or.inr (Or.inr (Or.inl rfl))))) dL_law_659 ?_
    refine zl_callM [.int (xs (i + 1).toNatClampNeg), .int (xs (i + 2).toNatClampNeg), .int (xs (i + 3).toNatClampNeg)] hC (cM_X8_cell l dC dI cb qm (zM sk sv) (zM_ok sk sv) ((xs (i + 1).toNatClampNeg)) ((xs (i + 2).toNatClampNeg)) ((xs (i + 3).toNatClampNeg)) h r h' hm9) gL_law_X8_cell rfl nM_X8_cell ⟨(Nat.le_of_ble_eq_true rfl), (Nat.le_of_ble_eq_true rfl)⟩ 0 mo_0 rfl rfl rfl (Nat.le_of_ble_eq_true rfl) hcs dL_law_660 rfl ?_
    refine zl_istore (lv1 := [(6, .int r), (5, .int 0), (4, .int i), (0, .ref b), (1, .ref (q 0)), (2, .ref (qm 0)), (3, .ref qo)]) hC dL_law_663 (by decide) rfl ?_
    refine zl_aload_n 5 hC dL_law_665 rfl ?_
    refine zl_callM [] hC (cM_X8_thrown l dC dI cb qm (zM sk sv) (zM_ok sk sv) h' (h' 0 0) h' rfl) gL_law_X8_thrown rfl nM_X8_thrown ⟨(Nat.le_of_ble_eq_true rfl), (Nat.le_of_ble_eq_true rfl)⟩ 0 mo_0 rfl rfl rfl (Nat.le_of_ble_eq_true rfl) hcs dL_law_666 rfl ?_
    refine zl_iload 1 hC dL_law_669 rfl ?_
    rw [ht9]
    refine zl_same 676 hC dL_law_671 (by decide) ?_
    refine zl_iload 1 hC dL_law_676 rfl ?_
    refine zl_if_ne 693 hC dL_law_678 (by decide) (fun w => absurd rfl w) (fun _ => ?_)
    refine zl_aload_n 6 hC dL_law_681 rfl ?_
    refine zl_iconst (v := 0) hC dL_law_682 (by decide) ?_
    refine zl_lald hC (show vp_in (nI 0) 1 from vp_in_nI (by decide) (by decide)) dL_law_683 ?_
    refine zl_iload 0 hC dL_law_684 rfl ?_
    refine zl_i2l hC dL_law_686 ?_
    refine zl_lcmp hC dL_law_687 ?_
    refine zl_if_eq 693 hC dL_law_688 (by decide) (fun _ => ?_) (fun w => absurd (z_cmp_same x r) w)
    refine zl_goto 1063 hC dL_law_693 (by decide) ?_
    refine zl_sub [2, 3, 4, 5, 6] hC rfl ?_
    exact hback g' h' (vp_updL x 0 r.toInt64) hr9
  · refine zl_aload_n 2 hC dL_law_616 rfl ?_
    refine zl_aload_n 1 hC dL_law_617 rfl ?_
    refine zl_iload 0 hC dL_law_618 rfl ?_
    refine zl_iconst (v := 1) hC dL_law_620 (by decide) ?_
    refine zl_iadd hC dL_law_621 ?_
    refine zl_sld hC (hi 1 (Or.inr (Or.inl rfl))) dL_law_622 ?_
    refine zl_aload_n 1 hC dL_law_623 rfl ?_
    refine zl_iload 0 hC dL_law_624 rfl ?_
    refine zl_iconst (v := 2) hC dL_law_626 (by decide) ?_
    refine zl_iadd hC dL_law_627 ?_
    refine zl_sld hC (hi 2 (Or.inr (Or.inr (Or.inl rfl)))) dL_law_628 ?_
    refine zl_aload_n 1 hC dL_law_629 rfl ?_
    refine zl_iload 0 hC dL_law_630 rfl ?_
    refine zl_iconst (v := 3) hC dL_law_632 (by decide) ?_
    refine zl_iadd hC dL_law_633 ?_
    refine zl_sld hC (hi 3 (Or.inr (Or.inr (Or.inr (Or.inl rfl))))) dL_law_634 ?_
    refine zl_aload_n 4 hC dL_law_635 rfl ?_
    refine zl_callH [.ref (q 0), .int (xs (i + 1).toNatClampNeg), .int (xs (i + 2).toNatClampNeg), .int (xs (i + 3).toNatClampNeg), .ref qo] hC (kL_cellT l dC dI ca q cL qo tt hls ((xs (i + 1).toNatClampNeg)) ((xs (i + 2).toNatClampNeg)) ((xs (i + 3).toNatClampNeg)) g x r g' hy9) gL_law_L_cell rfl nL_cell ⟨(Nat.le_of_ble_eq_true rfl), (Nat.le_of_ble_eq_true rfl)⟩ rfl (Nat.le_of_ble_eq_true rfl) hcs dL_law_636 rfl ?_
    refine zl_istore (lv1 := [(5, .int 1), (4, .int i), (0, .ref b), (1, .ref (q 0)), (2, .ref (qm 0)), (3, .ref qo)]) hC dL_law_639 (by decide) rfl ?_
    refine zl_aload_n 4 hC dL_law_641 rfl ?_
    refine zl_aload_n 2 hC dL_law_642 rfl ?_
    refine zl_iload 1 hC dL_law_643 rfl ?_
    refine zl_iconst (v := 1) hC dL_law_645 (by decide) ?_
    refine zl_iadd hC dL_law_646 ?_
    refine zl_sld hC (hi 1 (Or.inr (Or.inl rfl))) dL_law_647 ?_
    refine zl_aload_n 2 hC dL_law_648 rfl ?_
    refine zl_iload 1 hC dL_law_649 rfl ?_
    refine zl_iconst (v := 2) hC dL_law_651 (by decide) ?_
    refine zl_iadd hC dL_law_652 ?_
    refine zl_sld hC (hi 2 (Or.inr (Or.inr (Or.inl rfl)))) dL_law_653 ?_
    refine zl_aload_n 2 hC dL_law_654 rfl ?_
    refine zl_iload 1 hC dL_law_655 rfl ?_
    refine zl_iconst (v := 3) hC dL_law_657 (by decide) ?_
    refine zl_iadd hC dL_law_658 ?_
    refine zl_sld hC (hi 3 (Or.inr (Or.inr (Or.inr (Or.inl rfl))))) dL_law_659 ?_
    refine zl_callM [.int (xs (i + 1).toNatClampNeg), .int (xs (i + 2).toNatClampNeg), .int (xs (i + 3).toNatClampNeg)] hC (cM_X8_cell l dC dI cb qm (zM sk sv) (zM_ok sk sv) ((xs (i + 1).toNatClampNeg)) ((xs (i + 2).toNatClampNeg)) ((xs (i + 3).toNatClampNeg)) h r2 h' hm9) gL_law_X8_cell rfl nM_X8_cell ⟨(Nat.le_of_ble_eq_true rfl), (Nat.le_of_ble_eq_true rfl)⟩ 0 mo_0 rfl rfl rfl (Nat.le_of_ble_eq_true rfl) hcs dL_law_660 rfl ?_
    refine zl_istore (lv1 := [(6, .int r2), (5, .int 1), (4, .int i), (0, .ref b), (1, .ref (q 0)), (2, .ref (qm 0)), (3, .ref qo)]) hC dL_law_663 (by decide) rfl ?_
    refine zl_aload_n 5 hC dL_law_665 rfl ?_
    refine zl_callM [] hC (cM_X8_thrown l dC dI cb qm (zM sk sv) (zM_ok sk sv) h' (h' 0 0) h' rfl) gL_law_X8_thrown rfl nM_X8_thrown ⟨(Nat.le_of_ble_eq_true rfl), (Nat.le_of_ble_eq_true rfl)⟩ 0 mo_0 rfl rfl rfl (Nat.le_of_ble_eq_true rfl) hcs dL_law_666 rfl ?_
    refine zl_iload 1 hC dL_law_669 rfl ?_
    rw [ht9]
    refine zl_same 676 hC dL_law_671 (by decide) ?_
    refine zl_iload 1 hC dL_law_676 rfl ?_
    refine zl_if_ne 693 hC dL_law_678 (by decide) (fun _ => ?_) (fun w => absurd w (by decide))
    refine zl_goto 1063 hC dL_law_693 (by decide) ?_
    refine zl_sub [2, 3, 4, 5, 6] hC rfl ?_
    exact hback g' h' x hr9
set_option maxRecDepth 100000 in
set_option maxHeartbeats 4000000 in
theorem law_all {rel : z_G → z_G → Prop} {J : z_LJ} {l : Launch} {dC : Nat → ClassId} {dI : Nat → Nat → Nat} {ca : Nat → ClassId} {q : Nat → Nat} {cb : Nat → ClassId} {qm : Nat → Nat} {cL : ClassId} {qo : Nat} {tt sk sv : Nat → Nat} {b L : Nat} {xs : Nat → Int32} (hC : z_LC J l cL_law 7 wsL_law RL room_1 (dC, dI) ca q cb qm cL qo tt sk sv b L xs) (hls : l.stackTraces = false) (i : Int32) (hi : ∀ j : Int32, j = 0 ∨ j = 1 ∨ j = 2 ∨ j = 3 ∨ j = 4 ∨ j = 5 → vp_in (i + j) L) (g h : z_G) (x : Nat → Int64) (cells slots : Nat) (hcs : cells + 1 ≤ room_1.cells ∧ slots + 6 ≤ room_1.slots) (hrel : rel g h) (hsim : z_sim1 rel fY_X7_all fM_X8_all) (hback : ∀ (g' h' : z_G) (x' : Nat → Int64), rel g' h' → J 1063 [(4, .int i), (0, .ref b), (1, .ref (q 0)), (2, .ref (qm 0)), (3, .ref qo)] [] g' h' x' (cells + 1) (slots + 6)) : J 696 [(4, .int i), (0, .ref b), (1, .ref (q 0)), (2, .ref (qm 0)), (3, .ref qo)] [] g h x cells slots := by
  obtain ⟨r, g', h', hy9, hm9, hr9⟩ := hsim (xs (i + 1).toNatClampNeg) g h hrel
  refine zl_aload_n 2 hC dL_law_696 rfl ?_
  refine zl_aload_n 1 hC dL_law_697 rfl ?_
  refine zl_iload 0 hC dL_law_698 rfl ?_
  refine zl_iconst (v := 1) hC dL_law_700 (by decide) ?_
  refine zl_iadd hC dL_law_701 ?_
  refine zl_sld hC (hi 1 (Or.inr (Or.inl rfl))) dL_law_702 ?_
  refine zl_callY [.int (xs (i + 1).toNatClampNeg)] hC (cY_X7_all l dC dI ca q tt ((xs (i + 1).toNatClampNeg)) g r g' hy9) gL_law_X7_all rfl nY_X7_all ⟨(Nat.le_of_ble_eq_true rfl), (Nat.le_of_ble_eq_true rfl)⟩ 0 yo_0 rfl rfl rfl (Nat.le_of_ble_eq_true rfl) ⟨Nat.le_of_succ_le hcs.1, Nat.le_trans (Nat.le_add_right slots 6) hcs.2⟩ dL_law_703 rfl ?_
  refine zl_aload_n 3 hC dL_law_706 rfl ?_
  refine zl_aload_n 1 hC dL_law_707 rfl ?_
  refine zl_iload 0 hC dL_law_708 rfl ?_
  refine zl_iconst (v := 1) hC dL_law_710 (by decide) ?_
  refine zl_iadd hC dL_law_711 ?_
  refine zl_sld hC (hi 1 (Or.inr (Or.inl rfl))) dL_law_712 ?_
  refine zl_callM [.int (xs (i + 1).toNatClampNeg)] hC (cM_X8_all l dC dI cb qm (zM sk sv) (zM_ok sk sv) ((xs (i + 1).toNatClampNeg)) h r h' hm9) gL_law_X8_all rfl nM_X8_all ⟨(Nat.le_of_ble_eq_true rfl), (Nat.le_of_ble_eq_true rfl)⟩ 0 mo_0 rfl rfl rfl (Nat.le_of_ble_eq_true rfl) ⟨Nat.le_of_succ_le hcs.1, Nat.le_trans (Nat.le_add_right slots 6) hcs.2⟩ dL_law_713 rfl ?_
  refine zl_same 1063 hC dL_law_716 (by decide) ?_
  refine zl_widen hC (Nat.le_succ cells) (Nat.le_add_right slots 6) ?_
  exact hback g' h' x hr9
set_option maxRecDepth 100000 in
set_option maxHeartbeats 4000000 in
theorem law_told {rel : z_G → z_G → Prop} {J : z_LJ} {l : Launch} {dC : Nat → ClassId} {dI : Nat → Nat → Nat} {ca : Nat → ClassId} {q : Nat → Nat} {cb : Nat → ClassId} {qm : Nat → Nat} {cL : ClassId} {qo : Nat} {tt sk sv : Nat → Nat} {b L : Nat} {xs : Nat → Int32} (hC : z_LC J l cL_law 7 wsL_law RL room_1 (dC, dI) ca q cb qm cL qo tt sk sv b L xs) (hls : l.stackTraces = false) (i : Int32) (hi : ∀ j : Int32, j = 0 ∨ j = 1 ∨ j = 2 ∨ j = 3 ∨ j = 4 ∨ j = 5 → vp_in (i + j) L) (g h : z_G) (x : Nat → Int64) (cells slots : Nat) (hcs : cells + 1 ≤ room_1.cells ∧ slots + 6 ≤ room_1.slots) (hrel : rel g h) (hsim : z_sim2 rel fY_X7_told fM_X8_told) (hback : ∀ (g' h' : z_G) (x' : Nat → Int64), rel g' h' → J 1063 [(4, .int i), (0, .ref b), (1, .ref (q 0)), (2, .ref (qm 0)), (3, .ref qo)] [] g' h' x' (cells + 1) (slots + 6)) : J 721 [(4, .int i), (0, .ref b), (1, .ref (q 0)), (2, .ref (qm 0)), (3, .ref qo)] [] g h x cells slots := by
  obtain ⟨r, g', h', hy9, hm9, hr9⟩ := hsim (xs (i + 1).toNatClampNeg) (xs (i + 2).toNatClampNeg) g h hrel
  refine zl_aload_n 2 hC dL_law_721 rfl ?_
  refine zl_aload_n 1 hC dL_law_722 rfl ?_
  refine zl_iload 0 hC dL_law_723 rfl ?_
  refine zl_iconst (v := 1) hC dL_law_725 (by decide) ?_
  refine zl_iadd hC dL_law_726 ?_
  refine zl_sld hC (hi 1 (Or.inr (Or.inl rfl))) dL_law_727 ?_
  refine zl_aload_n 1 hC dL_law_728 rfl ?_
  refine zl_iload 0 hC dL_law_729 rfl ?_
  refine zl_iconst (v := 2) hC dL_law_731 (by decide) ?_
  refine zl_iadd hC dL_law_732 ?_
  refine zl_sld hC (hi 2 (Or.inr (Or.inr (Or.inl rfl)))) dL_law_733 ?_
  refine zl_callY [.int (xs (i + 1).toNatClampNeg), .int (xs (i + 2).toNatClampNeg)] hC (cY_X7_told l dC dI ca q tt ((xs (i + 1).toNatClampNeg)) ((xs (i + 2).toNatClampNeg)) g r g' hy9) gL_law_X7_told rfl nY_X7_told ⟨(Nat.le_of_ble_eq_true rfl), (Nat.le_of_ble_eq_true rfl)⟩ 0 yo_0 rfl rfl rfl (Nat.le_of_ble_eq_true rfl) ⟨Nat.le_of_succ_le hcs.1, Nat.le_trans (Nat.le_add_right slots 6) hcs.2⟩ dL_law_734 rfl ?_
  refine zl_aload_n 3 hC dL_law_737 rfl ?_
  refine zl_aload_n 1 hC dL_law_738 rfl ?_
  refine zl_iload 0 hC dL_law_739 rfl ?_
  refine zl_iconst (v := 1) hC dL_law_741 (by decide) ?_
  refine zl_iadd hC dL_law_742 ?_
  refine zl_sld hC (hi 1 (Or.inr (Or.inl rfl))) dL_law_743 ?_
  refine zl_aload_n 1 hC dL_law_744 rfl ?_
  refine zl_iload 0 hC dL_law_745 rfl ?_
  refine zl_iconst (v := 2) hC dL_law_747 (by decide) ?_
  refine zl_iadd hC dL_law_748 ?_
  refine zl_sld hC (hi 2 (Or.inr (Or.inr (Or.inl rfl)))) dL_law_749 ?_
  refine zl_callM [.int (xs (i + 1).toNatClampNeg), .int (xs (i + 2).toNatClampNeg)] hC (cM_X8_told l dC dI cb qm (zM sk sv) (zM_ok sk sv) ((xs (i + 1).toNatClampNeg)) ((xs (i + 2).toNatClampNeg)) h r h' hm9) gL_law_X8_told rfl nM_X8_told ⟨(Nat.le_of_ble_eq_true rfl), (Nat.le_of_ble_eq_true rfl)⟩ 0 mo_0 rfl rfl rfl (Nat.le_of_ble_eq_true rfl) ⟨Nat.le_of_succ_le hcs.1, Nat.le_trans (Nat.le_add_right slots 6) hcs.2⟩ dL_law_750 rfl ?_
  refine zl_same 1063 hC dL_law_753 (by decide) ?_
  refine zl_widen hC (Nat.le_succ cells) (Nat.le_add_right slots 6) ?_
  exact hback g' h' x hr9
set_option maxRecDepth 100000 in
set_option maxHeartbeats 4000000 in
theorem law_breach {rel : z_G → z_G → Prop} {J : z_LJ} {l : Launch} {dC : Nat → ClassId} {dI : Nat → Nat → Nat} {ca : Nat → ClassId} {q : Nat → Nat} {cb : Nat → ClassId} {qm : Nat → Nat} {cL : ClassId} {qo : Nat} {tt sk sv : Nat → Nat} {b L : Nat} {xs : Nat → Int32} (hC : z_LC J l cL_law 7 wsL_law RL room_1 (dC, dI) ca q cb qm cL qo tt sk sv b L xs) (hls : l.stackTraces = false) (i : Int32) (hi : ∀ j : Int32, j = 0 ∨ j = 1 ∨ j = 2 ∨ j = 3 ∨ j = 4 ∨ j = 5 → vp_in (i + j) L) (g h : z_G) (x : Nat → Int64) (cells slots : Nat) (hcs : cells + 1 ≤ room_1.cells ∧ slots + 6 ≤ room_1.slots) (hrel : rel g h) (hsim : z_sim2 rel fY_X7_breach fM_X8_breach) (hback : ∀ (g' h' : z_G) (x' : Nat → Int64), rel g' h' → J 1063 [(4, .int i), (0, .ref b), (1, .ref (q 0)), (2, .ref (qm 0)), (3, .ref qo)] [] g' h' x' (cells + 1) (slots + 6)) : J 758 [(4, .int i), (0, .ref b), (1, .ref (q 0)), (2, .ref (qm 0)), (3, .ref qo)] [] g h x cells slots := by
  obtain ⟨r, g', h', hy9, hm9, hr9⟩ := hsim (xs (i + 1).toNatClampNeg) (xs (i + 2).toNatClampNeg) g h hrel
  refine zl_aload_n 2 hC dL_law_758 rfl ?_
  refine zl_aload_n 1 hC dL_law_759 rfl ?_
  refine zl_iload 0 hC dL_law_760 rfl ?_
  refine zl_iconst (v := 1) hC dL_law_762 (by decide) ?_
  refine zl_iadd hC dL_law_763 ?_
  refine zl_sld hC (hi 1 (Or.inr (Or.inl rfl))) dL_law_764 ?_
  refine zl_aload_n 1 hC dL_law_765 rfl ?_
  refine zl_iload 0 hC dL_law_766 rfl ?_
  refine zl_iconst (v := 2) hC dL_law_768 (by decide) ?_
  refine zl_iadd hC dL_law_769 ?_
  refine zl_sld hC (hi 2 (Or.inr (Or.inr (Or.inl rfl)))) dL_law_770 ?_
  refine zl_callY [.int (xs (i + 1).toNatClampNeg), .int (xs (i + 2).toNatClampNeg)] hC (cY_X7_breach l dC dI ca q tt ((xs (i + 1).toNatClampNeg)) ((xs (i + 2).toNatClampNeg)) g r g' hy9) gL_law_X7_breach rfl nY_X7_breach ⟨(Nat.le_of_ble_eq_true rfl), (Nat.le_of_ble_eq_true rfl)⟩ 0 yo_0 rfl rfl rfl (Nat.le_of_ble_eq_true rfl) ⟨Nat.le_of_succ_le hcs.1, Nat.le_trans (Nat.le_add_right slots 6) hcs.2⟩ dL_law_771 rfl ?_
  refine zl_aload_n 3 hC dL_law_774 rfl ?_
  refine zl_aload_n 1 hC dL_law_775 rfl ?_
  refine zl_iload 0 hC dL_law_776 rfl ?_
  refine zl_iconst (v := 1) hC dL_law_778 (by decide) ?_
  refine zl_iadd hC dL_law_779 ?_
  refine zl_sld hC (hi 1 (Or.inr (Or.inl rfl))) dL_law_780 ?_
  refine zl_aload_n 1 hC dL_law_781 rfl ?_
  refine zl_iload 0 hC dL_law_782 rfl ?_
  refine zl_iconst (v := 2) hC dL_law_784 (by decide) ?_
  refine zl_iadd hC dL_law_785 ?_
  refine zl_sld hC (hi 2 (Or.inr (Or.inr (Or.inl rfl)))) dL_law_786 ?_
  refine zl_callM [.int (xs (i + 1).toNatClampNeg), .int (xs (i + 2).toNatClampNeg)] hC (cM_X8_breach l dC dI cb qm (zM sk sv) (zM_ok sk sv) ((xs (i + 1).toNatClampNeg)) ((xs (i + 2).toNatClampNeg)) h r h' hm9) gL_law_X8_breach rfl nM_X8_breach ⟨(Nat.le_of_ble_eq_true rfl), (Nat.le_of_ble_eq_true rfl)⟩ 0 mo_0 rfl rfl rfl (Nat.le_of_ble_eq_true rfl) ⟨Nat.le_of_succ_le hcs.1, Nat.le_trans (Nat.le_add_right slots 6) hcs.2⟩ dL_law_787 rfl ?_
  refine zl_same 1063 hC dL_law_790 (by decide) ?_
  refine zl_widen hC (Nat.le_succ cells) (Nat.le_add_right slots 6) ?_
  exact hback g' h' x hr9
set_option maxRecDepth 100000 in
set_option maxHeartbeats 4000000 in
theorem law_sign {rel : z_G → z_G → Prop} {J : z_LJ} {l : Launch} {dC : Nat → ClassId} {dI : Nat → Nat → Nat} {ca : Nat → ClassId} {q : Nat → Nat} {cb : Nat → ClassId} {qm : Nat → Nat} {cL : ClassId} {qo : Nat} {tt sk sv : Nat → Nat} {b L : Nat} {xs : Nat → Int32} (hC : z_LC J l cL_law 7 wsL_law RL room_1 (dC, dI) ca q cb qm cL qo tt sk sv b L xs) (hls : l.stackTraces = false) (i : Int32) (hi : ∀ j : Int32, j = 0 ∨ j = 1 ∨ j = 2 ∨ j = 3 ∨ j = 4 ∨ j = 5 → vp_in (i + j) L) (g h : z_G) (x : Nat → Int64) (cells slots : Nat) (hcs : cells + 1 ≤ room_1.cells ∧ slots + 6 ≤ room_1.slots) (hrel : rel g h) (hsim : z_sim1 rel fY_X7_sign fM_X8_sign) (hback : ∀ (g' h' : z_G) (x' : Nat → Int64), rel g' h' → J 1063 [(4, .int i), (0, .ref b), (1, .ref (q 0)), (2, .ref (qm 0)), (3, .ref qo)] [] g' h' x' (cells + 1) (slots + 6)) : J 795 [(4, .int i), (0, .ref b), (1, .ref (q 0)), (2, .ref (qm 0)), (3, .ref qo)] [] g h x cells slots := by
  obtain ⟨r, g', h', hy9, hm9, hr9⟩ := hsim (xs (i + 1).toNatClampNeg) g h hrel
  refine zl_aload_n 2 hC dL_law_795 rfl ?_
  refine zl_aload_n 1 hC dL_law_796 rfl ?_
  refine zl_iload 0 hC dL_law_797 rfl ?_
  refine zl_iconst (v := 1) hC dL_law_799 (by decide) ?_
  refine zl_iadd hC dL_law_800 ?_
  refine zl_sld hC (hi 1 (Or.inr (Or.inl rfl))) dL_law_801 ?_
  refine zl_callY [.int (xs (i + 1).toNatClampNeg)] hC (cY_X7_sign l dC dI ca q tt ((xs (i + 1).toNatClampNeg)) g r g' hy9) gL_law_X7_sign rfl nY_X7_sign ⟨(Nat.le_of_ble_eq_true rfl), (Nat.le_of_ble_eq_true rfl)⟩ 0 yo_0 rfl rfl rfl (Nat.le_of_ble_eq_true rfl) ⟨Nat.le_of_succ_le hcs.1, Nat.le_trans (Nat.le_add_right slots 6) hcs.2⟩ dL_law_802 rfl ?_
  refine zl_aload_n 3 hC dL_law_805 rfl ?_
  refine zl_aload_n 1 hC dL_law_806 rfl ?_
  refine zl_iload 0 hC dL_law_807 rfl ?_
  refine zl_iconst (v := 1) hC dL_law_809 (by decide) ?_
  refine zl_iadd hC dL_law_810 ?_
  refine zl_sld hC (hi 1 (Or.inr (Or.inl rfl))) dL_law_811 ?_
  refine zl_callM [.int (xs (i + 1).toNatClampNeg)] hC (cM_X8_sign l dC dI cb qm (zM sk sv) (zM_ok sk sv) ((xs (i + 1).toNatClampNeg)) h r h' hm9) gL_law_X8_sign rfl nM_X8_sign ⟨(Nat.le_of_ble_eq_true rfl), (Nat.le_of_ble_eq_true rfl)⟩ 0 mo_0 rfl rfl rfl (Nat.le_of_ble_eq_true rfl) ⟨Nat.le_of_succ_le hcs.1, Nat.le_trans (Nat.le_add_right slots 6) hcs.2⟩ dL_law_812 rfl ?_
  refine zl_same 1063 hC dL_law_815 (by decide) ?_
  refine zl_widen hC (Nat.le_succ cells) (Nat.le_add_right slots 6) ?_
  exact hback g' h' x hr9
set_option maxRecDepth 100000 in
set_option maxHeartbeats 4000000 in
theorem law_end {rel : z_G → z_G → Prop} {J : z_LJ} {l : Launch} {dC : Nat → ClassId} {dI : Nat → Nat → Nat} {ca : Nat → ClassId} {q : Nat → Nat} {cb : Nat → ClassId} {qm : Nat → Nat} {cL : ClassId} {qo : Nat} {tt sk sv : Nat → Nat} {b L : Nat} {xs : Nat → Int32} (hC : z_LC J l cL_law 7 wsL_law RL room_1 (dC, dI) ca q cb qm cL qo tt sk sv b L xs) (hls : l.stackTraces = false) (i : Int32) (hi : ∀ j : Int32, j = 0 ∨ j = 1 ∨ j = 2 ∨ j = 3 ∨ j = 4 ∨ j = 5 → vp_in (i + j) L) (g h : z_G) (x : Nat → Int64) (cells slots : Nat) (hcs : cells + 1 ≤ room_1.cells ∧ slots + 6 ≤ room_1.slots) (hrel : rel g h) (hsim : z_sim1 rel fY_X7_end fM_X8_end) (hback : ∀ (g' h' : z_G) (x' : Nat → Int64), rel g' h' → J 1063 [(4, .int i), (0, .ref b), (1, .ref (q 0)), (2, .ref (qm 0)), (3, .ref qo)] [] g' h' x' (cells + 1) (slots + 6)) : J 820 [(4, .int i), (0, .ref b), (1, .ref (q 0)), (2, .ref (qm 0)), (3, .ref qo)] [] g h x cells slots := by
  obtain ⟨r, g', h', hy9, hm9, hr9⟩ := hsim (xs (i + 1).toNatClampNeg) g h hrel
  refine zl_aload_n 2 hC dL_law_820 rfl ?_
  refine zl_aload_n 1 hC dL_law_821 rfl ?_
  refine zl_iload 0 hC dL_law_822 rfl ?_
  refine zl_iconst (v := 1) hC dL_law_824 (by decide) ?_
  refine zl_iadd hC dL_law_825 ?_
  refine zl_sld hC (hi 1 (Or.inr (Or.inl rfl))) dL_law_826 ?_
  refine zl_callY [.int (xs (i + 1).toNatClampNeg)] hC (cY_X7_end l dC dI ca q tt ((xs (i + 1).toNatClampNeg)) g r g' hy9) gL_law_X7_end rfl nY_X7_end ⟨(Nat.le_of_ble_eq_true rfl), (Nat.le_of_ble_eq_true rfl)⟩ 0 yo_0 rfl rfl rfl (Nat.le_of_ble_eq_true rfl) ⟨Nat.le_of_succ_le hcs.1, Nat.le_trans (Nat.le_add_right slots 6) hcs.2⟩ dL_law_827 rfl ?_
  refine zl_aload_n 3 hC dL_law_830 rfl ?_
  refine zl_aload_n 1 hC dL_law_831 rfl ?_
  refine zl_iload 0 hC dL_law_832 rfl ?_
  refine zl_iconst (v := 1) hC dL_law_834 (by decide) ?_
  refine zl_iadd hC dL_law_835 ?_
  refine zl_sld hC (hi 1 (Or.inr (Or.inl rfl))) dL_law_836 ?_
  refine zl_callM [.int (xs (i + 1).toNatClampNeg)] hC (cM_X8_end l dC dI cb qm (zM sk sv) (zM_ok sk sv) ((xs (i + 1).toNatClampNeg)) h r h' hm9) gL_law_X8_end rfl nM_X8_end ⟨(Nat.le_of_ble_eq_true rfl), (Nat.le_of_ble_eq_true rfl)⟩ 0 mo_0 rfl rfl rfl (Nat.le_of_ble_eq_true rfl) ⟨Nat.le_of_succ_le hcs.1, Nat.le_trans (Nat.le_add_right slots 6) hcs.2⟩ dL_law_837 rfl ?_
  refine zl_same 1063 hC dL_law_840 (by decide) ?_
  refine zl_widen hC (Nat.le_succ cells) (Nat.le_add_right slots 6) ?_
  exact hback g' h' x hr9
set_option maxRecDepth 100000 in
set_option maxHeartbeats 4000000 in
theorem law_rule {rel : z_G → z_G → Prop} {J : z_LJ} {l : Launch} {dC : Nat → ClassId} {dI : Nat → Nat → Nat} {ca : Nat → ClassId} {q : Nat → Nat} {cb : Nat → ClassId} {qm : Nat → Nat} {cL : ClassId} {qo : Nat} {tt sk sv : Nat → Nat} {b L : Nat} {xs : Nat → Int32} (hC : z_LC J l cL_law 7 wsL_law RL room_1 (dC, dI) ca q cb qm cL qo tt sk sv b L xs) (hls : l.stackTraces = false) (i : Int32) (hi : ∀ j : Int32, j = 0 ∨ j = 1 ∨ j = 2 ∨ j = 3 ∨ j = 4 ∨ j = 5 → vp_in (i + j) L) (g h : z_G) (x : Nat → Int64) (cells slots : Nat) (hcs : cells + 1 ≤ room_1.cells ∧ slots + 6 ≤ room_1.slots) (hrel : rel g h) (hsim : z_sim0 rel fY_X7_rule fS_X8_rule) (hback : ∀ (g' h' : z_G) (x' : Nat → Int64), rel g' h' → J 1063 [(4, .int i), (0, .ref b), (1, .ref (q 0)), (2, .ref (qm 0)), (3, .ref qo)] [] g' h' x' (cells + 1) (slots + 6)) : J 845 [(4, .int i), (0, .ref b), (1, .ref (q 0)), (2, .ref (qm 0)), (3, .ref qo)] [] g h x cells slots := by
  obtain ⟨r, g', h', hy9, hm9, hr9⟩ := hsim g h hrel
  refine zl_aload_n 2 hC dL_law_845 rfl ?_
  refine zl_callY [] hC (cY_X7_rule l dC dI ca q tt  g r g' hy9) gL_law_X7_rule rfl nY_X7_rule ⟨(Nat.le_of_ble_eq_true rfl), (Nat.le_of_ble_eq_true rfl)⟩ 0 yo_0 rfl rfl rfl (Nat.le_of_ble_eq_true rfl) ⟨Nat.le_of_succ_le hcs.1, Nat.le_trans (Nat.le_add_right slots 6) hcs.2⟩ dL_law_846 rfl ?_
  refine zl_aload_n 3 hC dL_law_849 rfl ?_
  refine zl_callM [] hC (cS_X8_rule l dC dI cb qm sk sv  h r h' hm9) gL_law_X8_rule rfl nS_X8_rule ⟨(Nat.le_of_ble_eq_true rfl), (Nat.le_of_ble_eq_true rfl)⟩ 0 mo_0 rfl rfl rfl (Nat.le_of_ble_eq_true rfl) ⟨Nat.le_of_succ_le hcs.1, Nat.le_trans (Nat.le_add_right slots 6) hcs.2⟩ dL_law_850 rfl ?_
  refine zl_same 1063 hC dL_law_853 (by decide) ?_
  refine zl_widen hC (Nat.le_succ cells) (Nat.le_add_right slots 6) ?_
  exact hback g' h' x hr9
set_option maxRecDepth 100000 in
set_option maxHeartbeats 4000000 in
theorem law_repeal {rel : z_G → z_G → Prop} {J : z_LJ} {l : Launch} {dC : Nat → ClassId} {dI : Nat → Nat → Nat} {ca : Nat → ClassId} {q : Nat → Nat} {cb : Nat → ClassId} {qm : Nat → Nat} {cL : ClassId} {qo : Nat} {tt sk sv : Nat → Nat} {b L : Nat} {xs : Nat → Int32} (hC : z_LC J l cL_law 7 wsL_law RL room_1 (dC, dI) ca q cb qm cL qo tt sk sv b L xs) (hls : l.stackTraces = false) (i : Int32) (hi : ∀ j : Int32, j = 0 ∨ j = 1 ∨ j = 2 ∨ j = 3 ∨ j = 4 ∨ j = 5 → vp_in (i + j) L) (g h : z_G) (x : Nat → Int64) (cells slots : Nat) (hcs : cells + 1 ≤ room_1.cells ∧ slots + 6 ≤ room_1.slots) (hrel : rel g h) (hsim : z_sim0 rel fY_X7_repeal fM_X8_repeal) (hback : ∀ (g' h' : z_G) (x' : Nat → Int64), rel g' h' → J 1063 [(4, .int i), (0, .ref b), (1, .ref (q 0)), (2, .ref (qm 0)), (3, .ref qo)] [] g' h' x' (cells + 1) (slots + 6)) : J 858 [(4, .int i), (0, .ref b), (1, .ref (q 0)), (2, .ref (qm 0)), (3, .ref qo)] [] g h x cells slots := by
  obtain ⟨r, g', h', hy9, hm9, hr9⟩ := hsim g h hrel
  refine zl_aload_n 2 hC dL_law_858 rfl ?_
  refine zl_callY [] hC (cY_X7_repeal l dC dI ca q tt  g r g' hy9) gL_law_X7_repeal rfl nY_X7_repeal ⟨(Nat.le_of_ble_eq_true rfl), (Nat.le_of_ble_eq_true rfl)⟩ 0 yo_0 rfl rfl rfl (Nat.le_of_ble_eq_true rfl) ⟨Nat.le_of_succ_le hcs.1, Nat.le_trans (Nat.le_add_right slots 6) hcs.2⟩ dL_law_859 rfl ?_
  refine zl_aload_n 3 hC dL_law_862 rfl ?_
  refine zl_callM [] hC (cM_X8_repeal l dC dI cb qm (zM sk sv) (zM_ok sk sv)  h r h' hm9) gL_law_X8_repeal rfl nM_X8_repeal ⟨(Nat.le_of_ble_eq_true rfl), (Nat.le_of_ble_eq_true rfl)⟩ 0 mo_0 rfl rfl rfl (Nat.le_of_ble_eq_true rfl) ⟨Nat.le_of_succ_le hcs.1, Nat.le_trans (Nat.le_add_right slots 6) hcs.2⟩ dL_law_863 rfl ?_
  refine zl_same 1063 hC dL_law_866 (by decide) ?_
  refine zl_widen hC (Nat.le_succ cells) (Nat.le_add_right slots 6) ?_
  exact hback g' h' x hr9
set_option maxRecDepth 100000 in
set_option maxHeartbeats 4000000 in
theorem law_wood {rel : z_G → z_G → Prop} {J : z_LJ} {l : Launch} {dC : Nat → ClassId} {dI : Nat → Nat → Nat} {ca : Nat → ClassId} {q : Nat → Nat} {cb : Nat → ClassId} {qm : Nat → Nat} {cL : ClassId} {qo : Nat} {tt sk sv : Nat → Nat} {b L : Nat} {xs : Nat → Int32} (hC : z_LC J l cL_law 7 wsL_law RL room_1 (dC, dI) ca q cb qm cL qo tt sk sv b L xs) (hls : l.stackTraces = false) (i : Int32) (hi : ∀ j : Int32, j = 0 ∨ j = 1 ∨ j = 2 ∨ j = 3 ∨ j = 4 ∨ j = 5 → vp_in (i + j) L) (g h : z_G) (x : Nat → Int64) (cells slots : Nat) (hcs : cells + 1 ≤ room_1.cells ∧ slots + 6 ≤ room_1.slots) (hrel : rel g h) (hsim : z_sim3 rel fY_X7_wood fM_X8_wood) (hback : ∀ (g' h' : z_G) (x' : Nat → Int64), rel g' h' → J 1063 [(4, .int i), (0, .ref b), (1, .ref (q 0)), (2, .ref (qm 0)), (3, .ref qo)] [] g' h' x' (cells + 1) (slots + 6)) : J 871 [(4, .int i), (0, .ref b), (1, .ref (q 0)), (2, .ref (qm 0)), (3, .ref qo)] [] g h x cells slots := by
  obtain ⟨r, g', h', hy9, hm9, hr9⟩ := hsim (xs (i + 1).toNatClampNeg) (xs (i + 2).toNatClampNeg) (xs (i + 3).toNatClampNeg) g h hrel
  refine zl_aload_n 2 hC dL_law_871 rfl ?_
  refine zl_aload_n 1 hC dL_law_872 rfl ?_
  refine zl_iload 0 hC dL_law_873 rfl ?_
  refine zl_iconst (v := 1) hC dL_law_875 (by decide) ?_
  refine zl_iadd hC dL_law_876 ?_
  refine zl_sld hC (hi 1 (Or.inr (Or.inl rfl))) dL_law_877 ?_
  refine zl_aload_n 1 hC dL_law_878 rfl ?_
  refine zl_iload 0 hC dL_law_879 rfl ?_
  refine zl_iconst (v := 2) hC dL_law_881 (by decide) ?_
  refine zl_iadd hC dL_law_882 ?_
  refine zl_sld hC (hi 2 (Or.inr (Or.inr (Or.inl rfl)))) dL_law_883 ?_
  refine zl_aload_n 1 hC dL_law_884 rfl ?_
  refine zl_iload 0 hC dL_law_885 rfl ?_
  refine zl_iconst (v := 3) hC dL_law_887 (by decide) ?_
  refine zl_iadd hC dL_law_888 ?_
  refine zl_sld hC (hi 3 (Or.inr (Or.inr (Or.inr (Or.inl rfl))))) dL_law_889 ?_
  refine zl_callY [.int (xs (i + 1).toNatClampNeg), .int (xs (i + 2).toNatClampNeg), .int (xs (i + 3).toNatClampNeg)] hC (cY_X7_wood l dC dI ca q tt ((xs (i + 1).toNatClampNeg)) ((xs (i + 2).toNatClampNeg)) ((xs (i + 3).toNatClampNeg)) g r g' hy9) gL_law_X7_wood rfl nY_X7_wood ⟨(Nat.le_of_ble_eq_true rfl), (Nat.le_of_ble_eq_true rfl)⟩ 0 yo_0 rfl rfl rfl (Nat.le_of_ble_eq_true rfl) ⟨Nat.le_of_succ_le hcs.1, Nat.le_trans (Nat.le_add_right slots 6) hcs.2⟩ dL_law_890 rfl ?_
  refine zl_aload_n 3 hC dL_law_893 rfl ?_
  refine zl_aload_n 1 hC dL_law_894 rfl ?_
  refine zl_iload 0 hC dL_law_895 rfl ?_
  refine zl_iconst (v := 1) hC dL_law_897 (by decide) ?_
  refine zl_iadd hC dL_law_898 ?_
  refine zl_sld hC (hi 1 (Or.inr (Or.inl rfl))) dL_law_899 ?_
  refine zl_aload_n 1 hC dL_law_900 rfl ?_
  refine zl_iload 0 hC dL_law_901 rfl ?_
  refine zl_iconst (v := 2) hC dL_law_903 (by decide) ?_
  refine zl_iadd hC dL_law_904 ?_
  refine zl_sld hC (hi 2 (Or.inr (Or.inr (Or.inl rfl)))) dL_law_905 ?_
  refine zl_aload_n 1 hC dL_law_906 rfl ?_
  refine zl_iload 0 hC dL_law_907 rfl ?_
  refine zl_iconst (v := 3) hC dL_law_909 (by decide) ?_
  refine zl_iadd hC dL_law_910 ?_
  refine zl_sld hC (hi 3 (Or.inr (Or.inr (Or.inr (Or.inl rfl))))) dL_law_911 ?_
  refine zl_callM [.int (xs (i + 1).toNatClampNeg), .int (xs (i + 2).toNatClampNeg), .int (xs (i + 3).toNatClampNeg)] hC (cM_X8_wood l dC dI cb qm (zM sk sv) (zM_ok sk sv) ((xs (i + 1).toNatClampNeg)) ((xs (i + 2).toNatClampNeg)) ((xs (i + 3).toNatClampNeg)) h r h' hm9) gL_law_X8_wood rfl nM_X8_wood ⟨(Nat.le_of_ble_eq_true rfl), (Nat.le_of_ble_eq_true rfl)⟩ 0 mo_0 rfl rfl rfl (Nat.le_of_ble_eq_true rfl) ⟨Nat.le_of_succ_le hcs.1, Nat.le_trans (Nat.le_add_right slots 6) hcs.2⟩ dL_law_912 rfl ?_
  refine zl_same 1063 hC dL_law_915 (by decide) ?_
  refine zl_widen hC (Nat.le_succ cells) (Nat.le_add_right slots 6) ?_
  exact hback g' h' x hr9
set_option maxRecDepth 100000 in
set_option maxHeartbeats 4000000 in
theorem law_years {rel : z_G → z_G → Prop} {J : z_LJ} {l : Launch} {dC : Nat → ClassId} {dI : Nat → Nat → Nat} {ca : Nat → ClassId} {q : Nat → Nat} {cb : Nat → ClassId} {qm : Nat → Nat} {cL : ClassId} {qo : Nat} {tt sk sv : Nat → Nat} {b L : Nat} {xs : Nat → Int32} (hC : z_LC J l cL_law 7 wsL_law RL room_1 (dC, dI) ca q cb qm cL qo tt sk sv b L xs) (hls : l.stackTraces = false) (i : Int32) (hi : ∀ j : Int32, j = 0 ∨ j = 1 ∨ j = 2 ∨ j = 3 ∨ j = 4 ∨ j = 5 → vp_in (i + j) L) (g h : z_G) (x : Nat → Int64) (cells slots : Nat) (hcs : cells + 1 ≤ room_1.cells ∧ slots + 6 ≤ room_1.slots) (hrel : rel g h) (hsim : z_sim1 rel fY_X7_years fM_X8_years) (hback : ∀ (g' h' : z_G) (x' : Nat → Int64), rel g' h' → J 1063 [(4, .int i), (0, .ref b), (1, .ref (q 0)), (2, .ref (qm 0)), (3, .ref qo)] [] g' h' x' (cells + 1) (slots + 6)) : J 920 [(4, .int i), (0, .ref b), (1, .ref (q 0)), (2, .ref (qm 0)), (3, .ref qo)] [] g h x cells slots := by
  obtain ⟨r, g', h', hy9, hm9, hr9⟩ := hsim (xs (i + 1).toNatClampNeg) g h hrel
  refine zl_aload_n 2 hC dL_law_920 rfl ?_
  refine zl_aload_n 1 hC dL_law_921 rfl ?_
  refine zl_iload 0 hC dL_law_922 rfl ?_
  refine zl_iconst (v := 1) hC dL_law_924 (by decide) ?_
  refine zl_iadd hC dL_law_925 ?_
  refine zl_sld hC (hi 1 (Or.inr (Or.inl rfl))) dL_law_926 ?_
  refine zl_callY [.int (xs (i + 1).toNatClampNeg)] hC (cY_X7_years l dC dI ca q tt ((xs (i + 1).toNatClampNeg)) g r g' hy9) gL_law_X7_years rfl nY_X7_years ⟨(Nat.le_of_ble_eq_true rfl), (Nat.le_of_ble_eq_true rfl)⟩ 0 yo_0 rfl rfl rfl (Nat.le_of_ble_eq_true rfl) ⟨Nat.le_of_succ_le hcs.1, Nat.le_trans (Nat.le_add_right slots 6) hcs.2⟩ dL_law_927 rfl ?_
  refine zl_aload_n 3 hC dL_law_930 rfl ?_
  refine zl_aload_n 1 hC dL_law_931 rfl ?_
  refine zl_iload 0 hC dL_law_932 rfl ?_
  refine zl_iconst (v := 1) hC dL_law_934 (by decide) ?_
  refine zl_iadd hC dL_law_935 ?_
  refine zl_sld hC (hi 1 (Or.inr (Or.inl rfl))) dL_law_936 ?_
  refine zl_callM [.int (xs (i + 1).toNatClampNeg)] hC (cM_X8_years l dC dI cb qm (zM sk sv) (zM_ok sk sv) ((xs (i + 1).toNatClampNeg)) h r h' hm9) gL_law_X8_years rfl nM_X8_years ⟨(Nat.le_of_ble_eq_true rfl), (Nat.le_of_ble_eq_true rfl)⟩ 0 mo_0 rfl rfl rfl (Nat.le_of_ble_eq_true rfl) ⟨Nat.le_of_succ_le hcs.1, Nat.le_trans (Nat.le_add_right slots 6) hcs.2⟩ dL_law_937 rfl ?_
  refine zl_same 1063 hC dL_law_940 (by decide) ?_
  refine zl_widen hC (Nat.le_succ cells) (Nat.le_add_right slots 6) ?_
  exact hback g' h' x hr9
set_option maxRecDepth 100000 in
set_option maxHeartbeats 4000000 in
theorem law_cut {rel : z_G → z_G → Prop} {J : z_LJ} {l : Launch} {dC : Nat → ClassId} {dI : Nat → Nat → Nat} {ca : Nat → ClassId} {q : Nat → Nat} {cb : Nat → ClassId} {qm : Nat → Nat} {cL : ClassId} {qo : Nat} {tt sk sv : Nat → Nat} {b L : Nat} {xs : Nat → Int32} (hC : z_LC J l cL_law 7 wsL_law RL room_1 (dC, dI) ca q cb qm cL qo tt sk sv b L xs) (hls : l.stackTraces = false) (i : Int32) (hi : ∀ j : Int32, j = 0 ∨ j = 1 ∨ j = 2 ∨ j = 3 ∨ j = 4 ∨ j = 5 → vp_in (i + j) L) (g h : z_G) (x : Nat → Int64) (cells slots : Nat) (hcs : cells + 1 ≤ room_1.cells ∧ slots + 6 ≤ room_1.slots) (hrel : rel g h) (hsim : z_sim1 rel fY_X7_cut fM_X8_cut) (hback : ∀ (g' h' : z_G) (x' : Nat → Int64), rel g' h' → J 1063 [(4, .int i), (0, .ref b), (1, .ref (q 0)), (2, .ref (qm 0)), (3, .ref qo)] [] g' h' x' (cells + 1) (slots + 6)) : J 945 [(4, .int i), (0, .ref b), (1, .ref (q 0)), (2, .ref (qm 0)), (3, .ref qo)] [] g h x cells slots := by
  obtain ⟨r, g', h', hy9, hm9, hr9⟩ := hsim (xs (i + 1).toNatClampNeg) g h hrel
  refine zl_aload_n 2 hC dL_law_945 rfl ?_
  refine zl_aload_n 1 hC dL_law_946 rfl ?_
  refine zl_iload 0 hC dL_law_947 rfl ?_
  refine zl_iconst (v := 1) hC dL_law_949 (by decide) ?_
  refine zl_iadd hC dL_law_950 ?_
  refine zl_sld hC (hi 1 (Or.inr (Or.inl rfl))) dL_law_951 ?_
  refine zl_callY [.int (xs (i + 1).toNatClampNeg)] hC (cY_X7_cut l dC dI ca q tt ((xs (i + 1).toNatClampNeg)) g r g' hy9) gL_law_X7_cut rfl nY_X7_cut ⟨(Nat.le_of_ble_eq_true rfl), (Nat.le_of_ble_eq_true rfl)⟩ 0 yo_0 rfl rfl rfl (Nat.le_of_ble_eq_true rfl) ⟨Nat.le_of_succ_le hcs.1, Nat.le_trans (Nat.le_add_right slots 6) hcs.2⟩ dL_law_952 rfl ?_
  refine zl_aload_n 3 hC dL_law_955 rfl ?_
  refine zl_aload_n 1 hC dL_law_956 rfl ?_
  refine zl_iload 0 hC dL_law_957 rfl ?_
  refine zl_iconst (v := 1) hC dL_law_959 (by decide) ?_
  refine zl_iadd hC dL_law_960 ?_
  refine zl_sld hC (hi 1 (Or.inr (Or.inl rfl))) dL_law_961 ?_
  refine zl_callM [.int (xs (i + 1).toNatClampNeg)] hC (cM_X8_cut l dC dI cb qm (zM sk sv) (zM_ok sk sv) ((xs (i + 1).toNatClampNeg)) h r h' hm9) gL_law_X8_cut rfl nM_X8_cut ⟨(Nat.le_of_ble_eq_true rfl), (Nat.le_of_ble_eq_true rfl)⟩ 0 mo_0 rfl rfl rfl (Nat.le_of_ble_eq_true rfl) ⟨Nat.le_of_succ_le hcs.1, Nat.le_trans (Nat.le_add_right slots 6) hcs.2⟩ dL_law_962 rfl ?_
  refine zl_same 1063 hC dL_law_965 (by decide) ?_
  refine zl_widen hC (Nat.le_succ cells) (Nat.le_add_right slots 6) ?_
  exact hback g' h' x hr9
set_option maxRecDepth 100000 in
set_option maxHeartbeats 4000000 in
theorem law_plan {rel : z_G → z_G → Prop} {J : z_LJ} {l : Launch} {dC : Nat → ClassId} {dI : Nat → Nat → Nat} {ca : Nat → ClassId} {q : Nat → Nat} {cb : Nat → ClassId} {qm : Nat → Nat} {cL : ClassId} {qo : Nat} {tt sk sv : Nat → Nat} {b L : Nat} {xs : Nat → Int32} (hC : z_LC J l cL_law 7 wsL_law RL room_1 (dC, dI) ca q cb qm cL qo tt sk sv b L xs) (hls : l.stackTraces = false) (i : Int32) (hi : ∀ j : Int32, j = 0 ∨ j = 1 ∨ j = 2 ∨ j = 3 ∨ j = 4 ∨ j = 5 → vp_in (i + j) L) (g h : z_G) (x : Nat → Int64) (cells slots : Nat) (hcs : cells + 1 ≤ room_1.cells ∧ slots + 6 ≤ room_1.slots) (hrel : rel g h) (hsim : z_sim1 rel fY_X7_plan fM_X8_plan) (hback : ∀ (g' h' : z_G) (x' : Nat → Int64), rel g' h' → J 1063 [(4, .int i), (0, .ref b), (1, .ref (q 0)), (2, .ref (qm 0)), (3, .ref qo)] [] g' h' x' (cells + 1) (slots + 6)) : J 970 [(4, .int i), (0, .ref b), (1, .ref (q 0)), (2, .ref (qm 0)), (3, .ref qo)] [] g h x cells slots := by
  obtain ⟨r, g', h', hy9, hm9, hr9⟩ := hsim (xs (i + 1).toNatClampNeg) g h hrel
  refine zl_aload_n 2 hC dL_law_970 rfl ?_
  refine zl_aload_n 1 hC dL_law_971 rfl ?_
  refine zl_iload 0 hC dL_law_972 rfl ?_
  refine zl_iconst (v := 1) hC dL_law_974 (by decide) ?_
  refine zl_iadd hC dL_law_975 ?_
  refine zl_sld hC (hi 1 (Or.inr (Or.inl rfl))) dL_law_976 ?_
  refine zl_callY [.int (xs (i + 1).toNatClampNeg)] hC (cY_X7_plan l dC dI ca q tt ((xs (i + 1).toNatClampNeg)) g r g' hy9) gL_law_X7_plan rfl nY_X7_plan ⟨(Nat.le_of_ble_eq_true rfl), (Nat.le_of_ble_eq_true rfl)⟩ 0 yo_0 rfl rfl rfl (Nat.le_of_ble_eq_true rfl) ⟨Nat.le_of_succ_le hcs.1, Nat.le_trans (Nat.le_add_right slots 6) hcs.2⟩ dL_law_977 rfl ?_
  refine zl_aload_n 3 hC dL_law_980 rfl ?_
  refine zl_aload_n 1 hC dL_law_981 rfl ?_
  refine zl_iload 0 hC dL_law_982 rfl ?_
  refine zl_iconst (v := 1) hC dL_law_984 (by decide) ?_
  refine zl_iadd hC dL_law_985 ?_
  refine zl_sld hC (hi 1 (Or.inr (Or.inl rfl))) dL_law_986 ?_
  refine zl_callM [.int (xs (i + 1).toNatClampNeg)] hC (cM_X8_plan l dC dI cb qm (zM sk sv) (zM_ok sk sv) ((xs (i + 1).toNatClampNeg)) h r h' hm9) gL_law_X8_plan rfl nM_X8_plan ⟨(Nat.le_of_ble_eq_true rfl), (Nat.le_of_ble_eq_true rfl)⟩ 0 mo_0 rfl rfl rfl (Nat.le_of_ble_eq_true rfl) ⟨Nat.le_of_succ_le hcs.1, Nat.le_trans (Nat.le_add_right slots 6) hcs.2⟩ dL_law_987 rfl ?_
  refine zl_same 1063 hC dL_law_990 (by decide) ?_
  refine zl_widen hC (Nat.le_succ cells) (Nat.le_add_right slots 6) ?_
  exact hback g' h' x hr9
set_option maxRecDepth 100000 in
set_option maxHeartbeats 4000000 in
theorem law_stand {rel : z_G → z_G → Prop} {J : z_LJ} {l : Launch} {dC : Nat → ClassId} {dI : Nat → Nat → Nat} {ca : Nat → ClassId} {q : Nat → Nat} {cb : Nat → ClassId} {qm : Nat → Nat} {cL : ClassId} {qo : Nat} {tt sk sv : Nat → Nat} {b L : Nat} {xs : Nat → Int32} (hC : z_LC J l cL_law 7 wsL_law RL room_1 (dC, dI) ca q cb qm cL qo tt sk sv b L xs) (hls : l.stackTraces = false) (i : Int32) (hi : ∀ j : Int32, j = 0 ∨ j = 1 ∨ j = 2 ∨ j = 3 ∨ j = 4 ∨ j = 5 → vp_in (i + j) L) (g h : z_G) (x : Nat → Int64) (cells slots : Nat) (hcs : cells + 1 ≤ room_1.cells ∧ slots + 6 ≤ room_1.slots) (hrel : rel g h) (hsim : z_simT2 rel fY_X7_stand fY_X7_standT fM_X8_stand) (hback : ∀ (g' h' : z_G) (x' : Nat → Int64), rel g' h' → J 1063 [(4, .int i), (0, .ref b), (1, .ref (q 0)), (2, .ref (qm 0)), (3, .ref qo)] [] g' h' x' (cells + 1) (slots + 6)) : J 995 [(4, .int i), (0, .ref b), (1, .ref (q 0)), (2, .ref (qm 0)), (3, .ref qo)] [] g h x cells slots := by
  obtain ⟨r, r2, g', h', hm9, hr9, ⟨hy9, ht9, e9⟩ | ⟨hy9, ht9⟩⟩ := hsim (xs (i + 1).toNatClampNeg) (xs (i + 2).toNatClampNeg) g h hrel
  · rw [e9] at hm9
    refine zl_aload_n 2 hC dL_law_995 rfl ?_
    refine zl_aload_n 1 hC dL_law_996 rfl ?_
    refine zl_iload 0 hC dL_law_997 rfl ?_
    refine zl_iconst (v := 1) hC dL_law_999 (by decide) ?_
    refine zl_iadd hC dL_law_1000 ?_
    refine zl_sld hC (hi 1 (Or.inr (Or.inl rfl))) dL_law_1001 ?_
    refine zl_aload_n 1 hC dL_law_1002 rfl ?_
    refine zl_iload 0 hC dL_law_1003 rfl ?_
    refine zl_iconst (v := 2) hC dL_law_1005 (by decide) ?_
    refine zl_iadd hC dL_law_1006 ?_
    refine zl_sld hC (hi 2 (Or.inr (Or.inr (Or.inl rfl)))) dL_law_1007 ?_
    refine zl_aload_n 4 hC dL_law_1008 rfl ?_
    refine zl_callH [.ref (q 0), .int (xs (i + 1).toNatClampNeg), .int (xs (i + 2).toNatClampNeg), .ref qo] hC (kL_stand l dC dI ca q cL qo tt ((xs (i + 1).toNatClampNeg)) ((xs (i + 2).toNatClampNeg)) g x r g' hy9) gL_law_L_stand rfl nL_stand ⟨(Nat.le_of_ble_eq_true rfl), (Nat.le_of_ble_eq_true rfl)⟩ rfl (Nat.le_of_ble_eq_true rfl) hcs dL_law_1009 rfl ?_
    refine zl_istore (lv1 := [(5, .int 0), (4, .int i), (0, .ref b), (1, .ref (q 0)), (2, .ref (qm 0)), (3, .ref qo)]) hC dL_law_1012 (by decide) rfl ?_
    refine zl_aload_n 4 hC dL_law_1014 rfl ?_
    refine zl_aload_n 2 hC dL_law_1015 rfl ?_
    refine zl_iload 1 hC dL_law_1016 rfl ?_
    refine zl_iconst (v := 1) hC dL_law_1018 (by decide) ?_
    refine zl_iadd hC dL_law_1019 ?_
    refine zl_sld hC (hi 1 (Or.inr (Or.inl rfl))) dL_law_1020 ?_
    refine zl_aload_n 2 hC dL_law_1021 rfl ?_
    refine zl_iload 1 hC dL_law_1022 rfl ?_
    refine zl_iconst (v := 2) hC dL_law_1024 (by decide) ?_
    refine zl_iadd hC dL_law_1025 ?_
    refine zl_sld hC (hi 2 (Or.inr (Or.inr (Or.inl rfl)))) dL_law_1026 ?_
    refine zl_callM [.int (xs (i + 1).toNatClampNeg), .int (xs (i + 2).toNatClampNeg)] hC (cM_X8_stand l dC dI cb qm (zM sk sv) (zM_ok sk sv) ((xs (i + 1).toNatClampNeg)) ((xs (i + 2).toNatClampNeg)) h r h' hm9) gL_law_X8_stand rfl nM_X8_stand ⟨(Nat.le_of_ble_eq_true rfl), (Nat.le_of_ble_eq_true rfl)⟩ 0 mo_0 rfl rfl rfl (Nat.le_of_ble_eq_true rfl) hcs dL_law_1027 rfl ?_
    refine zl_istore (lv1 := [(6, .int r), (5, .int 0), (4, .int i), (0, .ref b), (1, .ref (q 0)), (2, .ref (qm 0)), (3, .ref qo)]) hC dL_law_1030 (by decide) rfl ?_
    refine zl_aload_n 5 hC dL_law_1032 rfl ?_
    refine zl_callM [] hC (cM_X8_thrown l dC dI cb qm (zM sk sv) (zM_ok sk sv) h' (h' 0 0) h' rfl) gL_law_X8_thrown rfl nM_X8_thrown ⟨(Nat.le_of_ble_eq_true rfl), (Nat.le_of_ble_eq_true rfl)⟩ 0 mo_0 rfl rfl rfl (Nat.le_of_ble_eq_true rfl) hcs dL_law_1033 rfl ?_
    refine zl_iload 1 hC dL_law_1036 rfl ?_
    rw [ht9]
    refine zl_same 1043 hC dL_law_1038 (by decide) ?_
    refine zl_iload 1 hC dL_law_1043 rfl ?_
    refine zl_if_ne 1060 hC dL_law_1045 (by decide) (fun w => absurd rfl w) (fun _ => ?_)
    refine zl_aload_n 6 hC dL_law_1048 rfl ?_
    refine zl_iconst (v := 0) hC dL_law_1049 (by decide) ?_
    refine zl_lald hC (show vp_in (nI 0) 1 from vp_in_nI (by decide) (by decide)) dL_law_1050 ?_
    refine zl_iload 0 hC dL_law_1051 rfl ?_
    refine zl_i2l hC dL_law_1053 ?_
    refine zl_lcmp hC dL_law_1054 ?_
    refine zl_if_eq 1060 hC dL_law_1055 (by decide) (fun _ => ?_) (fun w => absurd (z_cmp_same x r) w)
    refine zl_goto 1063 hC dL_law_1060 (by decide) ?_
    refine zl_sub [2, 3, 4, 5, 6] hC rfl ?_
    exact hback g' h' (vp_updL x 0 r.toInt64) hr9
  · refine zl_aload_n 2 hC dL_law_995 rfl ?_
    refine zl_aload_n 1 hC dL_law_996 rfl ?_
    refine zl_iload 0 hC dL_law_997 rfl ?_
    refine zl_iconst (v := 1) hC dL_law_999 (by decide) ?_
    refine zl_iadd hC dL_law_1000 ?_
    refine zl_sld hC (hi 1 (Or.inr (Or.inl rfl))) dL_law_1001 ?_
    refine zl_aload_n 1 hC dL_law_1002 rfl ?_
    refine zl_iload 0 hC dL_law_1003 rfl ?_
    refine zl_iconst (v := 2) hC dL_law_1005 (by decide) ?_
    refine zl_iadd hC dL_law_1006 ?_
    refine zl_sld hC (hi 2 (Or.inr (Or.inr (Or.inl rfl)))) dL_law_1007 ?_
    refine zl_aload_n 4 hC dL_law_1008 rfl ?_
    refine zl_callH [.ref (q 0), .int (xs (i + 1).toNatClampNeg), .int (xs (i + 2).toNatClampNeg), .ref qo] hC (kL_standT l dC dI ca q cL qo tt hls ((xs (i + 1).toNatClampNeg)) ((xs (i + 2).toNatClampNeg)) g x r g' hy9) gL_law_L_stand rfl nL_stand ⟨(Nat.le_of_ble_eq_true rfl), (Nat.le_of_ble_eq_true rfl)⟩ rfl (Nat.le_of_ble_eq_true rfl) hcs dL_law_1009 rfl ?_
    refine zl_istore (lv1 := [(5, .int 1), (4, .int i), (0, .ref b), (1, .ref (q 0)), (2, .ref (qm 0)), (3, .ref qo)]) hC dL_law_1012 (by decide) rfl ?_
    refine zl_aload_n 4 hC dL_law_1014 rfl ?_
    refine zl_aload_n 2 hC dL_law_1015 rfl ?_
    refine zl_iload 1 hC dL_law_1016 rfl ?_
    refine zl_iconst (v := 1) hC dL_law_1018 (by decide) ?_
    refine zl_iadd hC dL_law_1019 ?_
    refine zl_sld hC (hi 1 (Or.inr (Or.inl rfl))) dL_law_1020 ?_
    refine zl_aload_n 2 hC dL_law_1021 rfl ?_
    refine zl_iload 1 hC dL_law_1022 rfl ?_
    refine zl_iconst (v := 2) hC dL_law_1024 (by decide) ?_
    refine zl_iadd hC dL_law_1025 ?_
    refine zl_sld hC (hi 2 (Or.inr (Or.inr (Or.inl rfl)))) dL_law_1026 ?_
    refine zl_callM [.int (xs (i + 1).toNatClampNeg), .int (xs (i + 2).toNatClampNeg)] hC (cM_X8_stand l dC dI cb qm (zM sk sv) (zM_ok sk sv) ((xs (i + 1).toNatClampNeg)) ((xs (i + 2).toNatClampNeg)) h r2 h' hm9) gL_law_X8_stand rfl nM_X8_stand ⟨(Nat.le_of_ble_eq_true rfl), (Nat.le_of_ble_eq_true rfl)⟩ 0 mo_0 rfl rfl rfl (Nat.le_of_ble_eq_true rfl) hcs dL_law_1027 rfl ?_
    refine zl_istore (lv1 := [(6, .int r2), (5, .int 1), (4, .int i), (0, .ref b), (1, .ref (q 0)), (2, .ref (qm 0)), (3, .ref qo)]) hC dL_law_1030 (by decide) rfl ?_
    refine zl_aload_n 5 hC dL_law_1032 rfl ?_
    refine zl_callM [] hC (cM_X8_thrown l dC dI cb qm (zM sk sv) (zM_ok sk sv) h' (h' 0 0) h' rfl) gL_law_X8_thrown rfl nM_X8_thrown ⟨(Nat.le_of_ble_eq_true rfl), (Nat.le_of_ble_eq_true rfl)⟩ 0 mo_0 rfl rfl rfl (Nat.le_of_ble_eq_true rfl) hcs dL_law_1033 rfl ?_
    refine zl_iload 1 hC dL_law_1036 rfl ?_
    rw [ht9]
    refine zl_same 1043 hC dL_law_1038 (by decide) ?_
    refine zl_iload 1 hC dL_law_1043 rfl ?_
    refine zl_if_ne 1060 hC dL_law_1045 (by decide) (fun _ => ?_) (fun w => absurd w (by decide))
    refine zl_goto 1063 hC dL_law_1060 (by decide) ?_
    refine zl_sub [2, 3, 4, 5, 6] hC rfl ?_
    exact hback g' h' x hr9
