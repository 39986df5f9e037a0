theorem z_startY {b : Nat} {s : State} (hts : ∀ w ∈ lw_tbl, w.before #[Value.ref b] s = true) (hgv : (Jvm.Cond.and given_1 narrow_1).before #[Value.ref b] s = true) : ∃ tt : Nat → Nat, zY tt (fun q : Nat => s.heap.size ≤ q) s s.heap := by
  have hn := flat_of_before _ hgv
  have hA : ∀ a : Nat, a < s.heap.size → ¬ (fun q : Nat => s.heap.size ≤ q) a := fun a h => Nat.not_le.mpr h
  obtain ⟨t0, e0, hT0⟩ := va_Tof (args := #[Value.ref b]) (s := s) (tm := (.static "CharcoalYard$Pile" "DAMP" "[I")) (ty := .int) (N := 4) (f := fun j => .int (kDAMP j)) (A := fun q : Nat => s.heap.size ≤ q) (by decide) (hn _ (by decide +kernel)) (va_eqt (z := 4) (hn _ (by decide +kernel))) (fun j hj => match j, hj with | 0, _ => va_eqt (z := 20) (hn _ (by decide +kernel)) | 1, _ => va_eqt (z := 20) (hn _ (by decide +kernel)) | 2, _ => va_eqt (z := 60) (hn _ (by decide +kernel)) | 3, _ => va_eqt (z := 60) (hn _ (by decide +kernel)) | j + 4, h => absurd h (by omega)) hA
  have hZ0 : va_Z "CharcoalYard$Pile" "DAMP" "[I" (.ref t0) (fun q : Nat => s.heap.size ≤ q) s s.heap := va_Zref (hts _ (by decide +kernel)) (hts _ (by decide +kernel)) e0 hA
  obtain ⟨t1, e1, hT1⟩ := va_Tof (args := #[Value.ref b]) (s := s) (tm := (.static "CharcoalYard$Pile" "RATE" "[I")) (ty := .int) (N := 4) (f := fun j => .int (kRATE j)) (A := fun q : Nat => s.heap.size ≤ q) (by decide) (hn _ (by decide +kernel)) (va_eqt (z := 4) (hn _ (by decide +kernel))) (fun j hj => match j, hj with | 0, _ => va_eqt (z := 4) (hn _ (by decide +kernel)) | 1, _ => va_eqt (z := 6) (hn _ (by decide +kernel)) | 2, _ => va_eqt (z := 4) (hn _ (by decide +kernel)) | 3, _ => va_eqt (z := 2) (hn _ (by decide +kernel)) | j + 4, h => absurd h (by omega)) hA
  have hZ1 : va_Z "CharcoalYard$Pile" "RATE" "[I" (.ref t1) (fun q : Nat => s.heap.size ≤ q) s s.heap := va_Zref (hts _ (by decide +kernel)) (hts _ (by decide +kernel)) e1 hA
  obtain ⟨t2, e2, hT2⟩ := va_Tof (args := #[Value.ref b]) (s := s) (tm := (.static "CharcoalYard$Pile" "YIELD" "[I")) (ty := .int) (N := 4) (f := fun j => .int (kYIELD j)) (A := fun q : Nat => s.heap.size ≤ q) (by decide) (hn _ (by decide +kernel)) (va_eqt (z := 4) (hn _ (by decide +kernel))) (fun j hj => match j, hj with | 0, _ => va_eqt (z := 25) (hn _ (by decide +kernel)) | 1, _ => va_eqt (z := 22) (hn _ (by decide +kernel)) | 2, _ => va_eqt (z := 25) (hn _ (by decide +kernel)) | 3, _ => va_eqt (z := 25) (hn _ (by decide +kernel)) | j + 4, h => absurd h (by omega)) hA
  have hZ2 : va_Z "CharcoalYard$Pile" "YIELD" "[I" (.ref t2) (fun q : Nat => s.heap.size ≤ q) s s.heap := va_Zref (hts _ (by decide +kernel)) (hts _ (by decide +kernel)) e2 hA
  obtain ⟨t3, e3, hT3⟩ := va_Tof (args := #[Value.ref b]) (s := s) (tm := (.static "CharcoalYard$Rules" "LETTERS" "[C")) (ty := .char) (N := 7) (f := fun j => .int (kLETTERS j)) (A := fun q : Nat => s.heap.size ≤ q) (by decide) (hn _ (by decide +kernel)) (va_eqt (z := 7) (hn _ (by decide +kernel))) (fun j hj => match j, hj with | 0, _ => va_eqt (z := 115) (hn _ (by decide +kernel)) | 1, _ => va_eqt (z := 107) (hn _ (by decide +kernel)) | 2, _ => va_eqt (z := 99) (hn _ (by decide +kernel)) | 3, _ => va_eqt (z := 116) (hn _ (by decide +kernel)) | 4, _ => va_eqt (z := 111) (hn _ (by decide +kernel)) | 5, _ => va_eqt (z := 114) (hn _ (by decide +kernel)) | 6, _ => va_eqt (z := 119) (hn _ (by decide +kernel)) | j + 7, h => absurd h (by omega)) hA
  have hZ3 : va_Z "CharcoalYard$Rules" "LETTERS" "[C" (.ref t3) (fun q : Nat => s.heap.size ≤ q) s s.heap := va_Zref (hts _ (by decide +kernel)) (hts _ (by decide +kernel)) e3 hA
  refine ⟨fun k => if k = 0 then t0 else if k = 1 then t1 else if k = 2 then t2 else t3, ⟨hZ0, hT0⟩, ⟨hZ1, hT1⟩, ⟨hZ2, hT2⟩, ⟨hZ3, hT3⟩, ?_, ?_, ?_, ?_, ?_, ?_⟩
  · exact vx_Zqof (hts _ (by decide +kernel)) (hts _ (by decide +kernel)) (hn _ (by decide +kernel)) hA
  · exact vx_Zqof (hts _ (by decide +kernel)) (hts _ (by decide +kernel)) (hn _ (by decide +kernel)) hA
  · exact va_Nw.of rfl (hts _ (by decide +kernel))
  · exact va_Nw.of rfl (hts _ (by decide +kernel))
  · exact va_Nw.of rfl (hts _ (by decide +kernel))
  · exact va_Nw.of rfl (hts _ (by decide +kernel))
def kSIX (k : Nat) : Nat := if k = 0 then 305 else if k = 1 then 311 else if k = 2 then 313 else if k = 3 then 321 else if k = 4 then 323 else 325
theorem z_sixne {b : Nat} {s : State} (hn : ∀ c ∈ flatC (Jvm.Cond.and given_1 narrow_1), c.before #[Value.ref b] s = true) : ∀ i j : Nat, i < 6 → j < 6 → i ≠ j → (Cond.not (Cond.eq (Term.string "CharcoalYardModel" (kSIX i)) (Term.string "CharcoalYardModel" (kSIX j)))).before #[Value.ref b] s = true ∨ (Cond.not (Cond.eq (Term.string "CharcoalYardModel" (kSIX j)) (Term.string "CharcoalYardModel" (kSIX i)))).before #[Value.ref b] s = true := by
  intro i j hi hj hne
  have key : (Cond.not (Cond.eq (Term.string "CharcoalYardModel" (kSIX i)) (Term.string "CharcoalYardModel" (kSIX j)))) ∈ flatC (Jvm.Cond.and given_1 narrow_1) ∨ (Cond.not (Cond.eq (Term.string "CharcoalYardModel" (kSIX j)) (Term.string "CharcoalYardModel" (kSIX i)))) ∈ flatC (Jvm.Cond.and given_1 narrow_1) := by
    revert hne; revert hj; revert j; revert hi; revert i
    decide +kernel
  exact key.elim (fun h => Or.inl (hn _ h)) (fun h => Or.inr (hn _ h))
theorem z_startM {b : Nat} {s : State} (hts : ∀ w ∈ lw_tbl, w.before #[Value.ref b] s = true) (hgv : (Jvm.Cond.and given_1 narrow_1).before #[Value.ref b] s = true) : ∃ sk sv : Nat → Nat, zM sk sv (fun q : Nat => s.heap.size ≤ q) s s.heap := by
  have hn := flat_of_before _ hgv
  have hA : ∀ a : Nat, a < s.heap.size → ¬ (fun q : Nat => s.heap.size ≤ q) a := fun a h => Nat.not_le.mpr h
  obtain ⟨sk, sv, hS, hev⟩ := vk_Sof (args := #[Value.ref b]) (s := s) (N := 6) (tm := fun i => .string "CharcoalYardModel" (kSIX i)) (len := lenM) (byt := bytM) (A := fun q : Nat => s.heap.size ≤ q) (by decide) (fun i hi => match i, hi with | 0, _ => hn _ (by decide +kernel) | 1, _ => hn _ (by decide +kernel) | 2, _ => hn _ (by decide +kernel) | 3, _ => hn _ (by decide +kernel) | 4, _ => hn _ (by decide +kernel) | 5, _ => hn _ (by decide +kernel) | i + 6, h => absurd h (by omega)) (fun i hi => match i, hi with | 0, _ => hn _ (by decide +kernel) | 1, _ => hn _ (by decide +kernel) | 2, _ => hn _ (by decide +kernel) | 3, _ => hn _ (by decide +kernel) | 4, _ => hn _ (by decide +kernel) | 5, _ => hn _ (by decide +kernel) | i + 6, h => absurd h (by omega)) (fun i hi => match i, hi with | 0, _ => hn _ (by decide +kernel) | 1, _ => hn _ (by decide +kernel) | 2, _ => hn _ (by decide +kernel) | 3, _ => hn _ (by decide +kernel) | 4, _ => hn _ (by decide +kernel) | 5, _ => hn _ (by decide +kernel) | i + 6, h => absurd h (by omega)) (fun i hi => match i, hi with | 0, _ => hn _ (by decide +kernel) | 1, _ => hn _ (by decide +kernel) | 2, _ => hn _ (by decide +kernel) | 3, _ => hn _ (by decide +kernel) | 4, _ => hn _ (by decide +kernel) | 5, _ => hn _ (by decide +kernel) | i + 6, h => absurd h (by omega)) (fun i hi => match i, hi with | 0, _ => (fun j hj => match j, hj with | 0, _ => hn _ (by decide +kernel) | 1, _ => hn _ (by decide +kernel) | 2, _ => hn _ (by decide +kernel) | 3, _ => hn _ (by decide +kernel) | 4, _ => hn _ (by decide +kernel) | 5, _ => hn _ (by decide +kernel) | 6, _ => hn _ (by decide +kernel) | 7, _ => hn _ (by decide +kernel) | 8, _ => hn _ (by decide +kernel) | 9, _ => hn _ (by decide +kernel) | j + 10, h => absurd h (by simp [lenM])) | 1, _ => (fun j hj => match j, hj with | 0, _ => hn _ (by decide +kernel) | 1, _ => hn _ (by decide +kernel) | 2, _ => hn _ (by decide +kernel) | 3, _ => hn _ (by decide +kernel) | 4, _ => hn _ (by decide +kernel) | 5, _ => hn _ (by decide +kernel) | 6, _ => hn _ (by decide +kernel) | j + 7, h => absurd h (by simp [lenM])) | 2, _ => (fun j hj => match j, hj with | 0, _ => hn _ (by decide +kernel) | 1, _ => hn _ (by decide +kernel) | 2, _ => hn _ (by decide +kernel) | j + 3, h => absurd h (by simp [lenM])) | 3, _ => (fun j hj => match j, hj with | 0, _ => hn _ (by decide +kernel) | j + 1, h => absurd h (by simp [lenM])) | 4, _ => (fun j hj => match j, hj with | 0, _ => hn _ (by decide +kernel) | j + 1, h => absurd h (by simp [lenM])) | 5, _ => (fun j hj => match j, hj with | 0, _ => hn _ (by decide +kernel) | 1, _ => hn _ (by decide +kernel) | 2, _ => hn _ (by decide +kernel) | 3, _ => hn _ (by decide +kernel) | j + 4, h => absurd h (by simp [lenM])) | i + 6, h => absurd h (by omega)) (fun i j hi hj hne => z_sixne hn i j hi hj hne) hA
  refine ⟨sk, sv, va_Zof (hts _ (by decide +kernel)) (hts _ (by decide +kernel)) (va_eqi (hn _ (by decide +kernel))) hA, hS, vk_R.of (hts _ (by decide +kernel)) (hev 0 (by decide)), vk_R.of (hts _ (by decide +kernel)) (hev 1 (by decide)), vk_R.of (hts _ (by decide +kernel)) (hev 2 (by decide)), vk_R.of (hts _ (by decide +kernel)) (hev 3 (by decide)), vk_R.of (hts _ (by decide +kernel)) (hev 4 (by decide)), vk_R.of (hts _ (by decide +kernel)) (hev 5 (by decide))⟩
theorem z_startK {b : Nat} {s : State} (hts : ∀ w ∈ lw_tbl, w.before #[Value.ref b] s = true) : ∃ (dC : Nat → ClassId) (dI : Nat → Nat → Nat), va_K (dC, dI) vwCl [] s := by
  obtain ⟨c0, i0, hK0⟩ := u_known (C := RX0) (T := TX0) (N := 12) (n := 12) hts inX0 (hts (.instantiable RX0 12) (by decide +kernel))
  obtain ⟨c1, i1, hK1⟩ := u_known (C := RX1) (T := TX1) (N := 4) (n := 4) hts inX1 (hts (.instantiable RX1 4) (by decide +kernel))
  obtain ⟨c2, i2, hK2⟩ := u_known (C := RX2) (T := TX2) (N := 19) (n := 19) hts inX2 (hts (.instantiable RX2 19) (by decide +kernel))
  obtain ⟨c3, i3, hK3⟩ := u_known (C := RX3) (T := TX3) (N := 4) (n := 4) hts inX3 (hts (.instantiable RX3 4) (by decide +kernel))
  obtain ⟨c4, i4, hK4⟩ := u_known (C := RX4) (T := TX4) (N := 9) (n := 9) hts inX4 (hts (.instantiable RX4 9) (by decide +kernel))
  obtain ⟨c5, i5, hK5⟩ := u_known (C := RX5) (T := TX5) (N := 2) (n := 2) hts inX5 (hts (.instantiable RX5 2) (by decide +kernel))
  obtain ⟨c6, i6, hK6⟩ := u_known (C := RX6) (T := TX6) (N := 4) (n := 4) hts inX6 (hts (.instantiable RX6 4) (by decide +kernel))
  obtain ⟨c7, i7, hK7⟩ := u_known (C := RX7) (T := TX7) (N := 10) (n := 10) hts inX7 (hts (.instantiable RX7 10) (by decide +kernel))
  obtain ⟨c8, i8, hK8⟩ := u_known (C := RX8) (T := TX8) (N := 56) (n := 56) hts inX8 (hts (.instantiable RX8 56) (by decide +kernel))
  refine ⟨fun k => if k = 0 then c0 else if k = 1 then c1 else if k = 2 then c2 else if k = 3 then c3 else if k = 4 then c4 else if k = 5 then c5 else if k = 6 then c6 else if k = 7 then c7 else c8, fun k => if k = 0 then i0 else if k = 1 then i1 else if k = 2 then i2 else if k = 3 then i3 else if k = 4 then i4 else if k = 5 then i5 else if k = 6 then i6 else if k = 7 then i7 else i8, fun k q hq => ?_, fun k q h => by simp at h⟩
  match k, hq with
  | 0, hq => cases hq; exact hK0
  | 1, hq => cases hq; exact hK1
  | 2, hq => cases hq; exact hK2
  | 3, hq => cases hq; exact hK3
  | 4, hq => cases hq; exact hK4
  | 5, hq => cases hq; exact hK5
  | 6, hq => cases hq; exact hK6
  | 7, hq => cases hq; exact hK7
  | 8, hq => cases hq; exact hK8
  | k + 9, hq => simp [vwCl] at hq
theorem wsL_at {i : Nat} {w : Cond} (h : wsL_law0[i]? = some w) : w ∈ wsL_law := List.mem_append_left _ (List.mem_of_getElem? h)
set_option maxRecDepth 100000 in
set_option maxHeartbeats 4000000 in
theorem whole_start_of {p : Program} {e : Env} {s : State} {m : MethodId} {below : List Frame} {meth : Method} {c : Code} (l : Launch) {b L : Nat} {xs : Nat → Int32} (hls : l.stackTraces = false) (hL : L ≤ 3072) (C0 : lw_At p s m meth c b L xs) {rel : z_G → z_G → Prop} (S : z_sims rel) {r1 r2 : Int32} {g1 h1 : z_G} (hg1 : fP_X2_build 1 1 (fun _ _ => 0) = some (r1, g1)) (hh1 : fM_X8_empties hM0 = some (r2, h1)) (h0 : rel (gY0 g1) h1) : W p l e room_1 s m #[Value.ref b] below meth c s.heap [] 0 0 (lw_Z below #[Value.ref b] s) (entryFrame m ([Value.ref b] : List Value).toArray 7) := by
  obtain ⟨hx, hb, hr, hml, hown, hts, hX, hbl, hlocks, hgv⟩ := id C0
  have hts2 : ∀ w ∈ wsL_law, w.before #[Value.ref b] s = true := fun w h => hts w (wsL_law_in w h)
  have hA : ∀ q : Nat, s.heap.size ≤ q → (fun q : Nat => s.heap.size ≤ q) q := fun _ h => h
  have hbA : ¬ (fun q : Nat => s.heap.size ≤ q) b := Nat.not_le.mpr hbl
  obtain ⟨tt, hZY⟩ := z_startY hts hgv
  obtain ⟨sk, sv, hZM⟩ := z_startM hts hgv
  obtain ⟨dC, dI, hK⟩ := z_startK hts
  have hS : va_S (fun q : Nat => s.heap.size ≤ q) s.heap s.heap [] := va_S.rf
  have hP : va_P (dC, dI) vwCl [] s.heap := fun k q h => by simp at h
  have hD : va_D (fun q : Nat => s.heap.size ≤ q) [] := ⟨fun i j p q h => by simp at h, fun k q h => by simp at h⟩
  have hl := lv_entry ([.ref b]) (n := 7) (Nat.le_of_ble_eq_true rfl)
  rw [lg_entry_eq]
  generalize (lg_sl ([.ref b]) ++ List.replicate (7 - (lg_sl ([.ref b])).length) Slot.unset).toArray = ls at hl ⊢
  have hl : lv_has ls 7 [(0, .ref b)] := hl
  refine va_new (ci := 7) (fs := [.null, .null, .null, .null, .null, .null, .null, .int 0, .int 0, .int 0]) (C := RX7) (T := TX7) (N := 10) hx hb hts inX7 tyX7 tyX7_ok hown (hts2 _ (wsL_at (i := 0) rfl)) (hts2 _ (wsL_at (i := 1) rfl)) (hts2 _ (wsL_at (i := 2) rfl)) hK hP hD hS hA rfl (fun j hj => match j, hj with | 0, _ => rfl | 1, _ => rfl | 2, _ => rfl | 3, _ => rfl | 4, _ => rfl | 5, _ => rfl | 6, _ => rfl | 7, _ => rfl | 8, _ => rfl | 9, _ => rfl | j + 10, h => absurd h (by omega)) (Nat.le_of_ble_eq_true rfl) (Nat.le_of_ble_eq_true rfl) dL_law_0 (fun a1 H hP hD hS => ?_)
  have hP : va_P (dC, dI) vwCl (((a1, .inr (7, [.null, .null, .null, .null, .null, .null, .null, .int 0, .int 0, .int 0])) :: []) : va_W) H := hP
  have hD : va_D (fun q : Nat => s.heap.size ≤ q) (((a1, .inr (7, [.null, .null, .null, .null, .null, .null, .null, .int 0, .int 0, .int 0])) :: []) : va_W) := hD
  refine lv_dup hx hb dL_law_3 rfl ?_
  have hFc := va_free (wc := (((a1, .inr (7, [.null, .null, .null, .null, .null, .null, .null, .int 0, .int 0, .int 0])) :: []) : va_W)) hD hS hA [0] rfl
  refine va_callv (va_runI (As := []) (rest := [.ref a1]) ⟨hx, hb, hml, hown, hts2⟩ (ciX7 l dC dI tt a1 r1 g1 hg1 H.size) (cwI 0 hts2 gL_law_X7_init rfl rfl rfl (hts2 _ (wsL_at (i := 2) rfl)) (hts2 _ (wsL_at (i := 7) rfl)) (hts2 _ (wsL_at (i := 8) rfl)) rfl (by decide +kernel) ⟨(Nat.le_of_ble_eq_true rfl), (Nat.le_of_ble_eq_true rfl)⟩) ⟨fun a9 U g9 mk w => by obtain ⟨q0, q1, qP, qK, qD, qX⟩ := w; exact ⟨q0, q1, qP, va_K.moved (u := U) (U := U.calling g9 mk a9) (Vm.Alike.refl U.vm) qK, qD, (zY_ok tt).1.1 _ U (U.calling g9 mk a9) _ rfl qX.1, qX.2.1.same rfl rfl, qX.2.2.1.same rfl rfl, qX.2.2.2.1.same rfl rfl, qX.2.2.2.2.1.same rfl rfl, qX.2.2.2.2.2.same rfl rfl⟩, fun U hU hW => ⟨rfl, by rw [hU], by rw [hU]; exact hP, va_K.moved hW.alike hK, hD.weaken (fun _ _ _ _ => trivial), by rw [hU]; exact (zY_ok tt).2.2 _ _ _ _ ((zY_ok tt).2.1 _ _ _ _ ((zY_ok tt).1.2 _ _ _ _ hW hZY) hS.2.1) hFc, va_Nw.warmM hW (va_Nw.of rfl (hts _ (by decide +kernel))), va_Nw.warmM hW (va_Nw.of rfl (hts _ (by decide +kernel))), va_Nw.warmM hW (va_Nw.of rfl (hts _ (by decide +kernel))), va_Nw.warmM hW (va_Nw.of rfl (hts _ (by decide +kernel))), va_Nw.warmM hW (va_Nw.of rfl (hts _ (by decide +kernel)))⟩⟩ rfl rfl hl.1 rfl (lv_room (Nat.le_of_ble_eq_true rfl)) dL_law_4 ⟨(Nat.le_of_ble_eq_true rfl), (Nat.le_of_ble_eq_true rfl)⟩) hS (fun w _ hw9 => hFc w hw9) hFc (fun u t H1 locs ht hvm hw hB hz1 hk1 hS => ?_)
  obtain ⟨ca, q1⟩ := u
  obtain ⟨hP1, hK1, hD1⟩ := hB
  rw [ht] at hP1
  have hK1 := va_K.moved hvm.symm hK1
  have hP : va_P (dC, dI) vwCl (wY ca (fun k => if k = 0 then a1 else q1 k) (gY0 g1)) H1 := hP1
  have hD : va_D (fun q : Nat => s.heap.size ≤ q) (wY ca (fun k => if k = 0 then a1 else q1 k) (gY0 g1)) := hD1.weaken (fun _ _ _ h9 => hFc _ h9)
  have hK : va_K (dC, dI) vwCl (tyY ca) s := hK1
  refine lv_astore_n (lv' := [(1, .ref a1), (0, .ref b)]) hx hb dL_law_7 rfl hl (by decide) rfl (fun ls hl => ?_)
  refine va_new (ci := 8) (fs := [.int 0, .int 0, .int 0, .null, .null, .null, .null, .null, .null, .null, .null, .null, .null, .int 0, .null, .null, .null, .null, .null, .null, .int 0, .int 0, .int 0, .int 0, .int 0, .int 0, .int 0, .null, .null, .null, .null, .null, .null, .null, .null, .null, .null, .null, .null, .null, .null, .int 0, .int 0, .null, .null, .null, .null, .null, .null, .null, .int 0, .int 0, .int 0, .null, .null, .null]) (C := RX8) (T := TX8) (N := 56) hx hb hts inX8 tyX8 tyX8_ok hown (hts2 _ (wsL_at (i := 3) rfl)) (hts2 _ (wsL_at (i := 4) rfl)) (hts2 _ (wsL_at (i := 5) rfl)) hK hP hD hS hA rfl (fun j hj => match j, hj with | 0, _ => rfl | 1, _ => rfl | 2, _ => rfl | 3, _ => rfl | 4, _ => rfl | 5, _ => rfl | 6, _ => rfl | 7, _ => rfl | 8, _ => rfl | 9, _ => rfl | 10, _ => rfl | 11, _ => rfl | 12, _ => rfl | 13, _ => rfl | 14, _ => rfl | 15, _ => rfl | 16, _ => rfl | 17, _ => rfl | 18, _ => rfl | 19, _ => rfl | 20, _ => rfl | 21, _ => rfl | 22, _ => rfl | 23, _ => rfl | 24, _ => rfl | 25, _ => rfl | 26, _ => rfl | 27, _ => rfl | 28, _ => rfl | 29, _ => rfl | 30, _ => rfl | 31, _ => rfl | 32, _ => rfl | 33, _ => rfl | 34, _ => rfl | 35, _ => rfl | 36, _ => rfl | 37, _ => rfl | 38, _ => rfl | 39, _ => rfl | 40, _ => rfl | 41, _ => rfl | 42, _ => rfl | 43, _ => rfl | 44, _ => rfl | 45, _ => rfl | 46, _ => rfl | 47, _ => rfl | 48, _ => rfl | 49, _ => rfl | 50, _ => rfl | 51, _ => rfl | 52, _ => rfl | 53, _ => rfl | 54, _ => rfl | 55, _ => rfl | j + 56, h => absurd h (by omega)) (Nat.le_of_ble_eq_true rfl) (Nat.le_of_ble_eq_true rfl) dL_law_8 (fun a2 H hP hD hS => ?_)
  refine lv_dup hx hb dL_law_11 rfl ?_
  have hPc : va_P (dC, dI) vwCl (((a2, .inr (8, [.int 0, .int 0, .int 0, .null, .null, .null, .null, .null, .null, .null, .null, .null, .null, .int 0, .null, .null, .null, .null, .null, .null, .int 0, .int 0, .int 0, .int 0, .int 0, .int 0, .int 0, .null, .null, .null, .null, .null, .null, .null, .null, .null, .null, .null, .null, .null, .null, .int 0, .int 0, .null, .null, .null, .null, .null, .null, .null, .int 0, .int 0, .int 0, .null, .null, .null])) :: []) : va_W) H := hP.sub [47] rfl
  have hDc : va_D (fun q : Nat => s.heap.size ≤ q) (((a2, .inr (8, [.int 0, .int 0, .int 0, .null, .null, .null, .null, .null, .null, .null, .null, .null, .null, .int 0, .null, .null, .null, .null, .null, .null, .int 0, .int 0, .int 0, .int 0, .int 0, .int 0, .int 0, .null, .null, .null, .null, .null, .null, .null, .null, .null, .null, .null, .null, .null, .null, .int 0, .int 0, .null, .null, .null, .null, .null, .null, .null, .int 0, .int 0, .int 0, .null, .null, .null])) :: []) : va_W) := hD.sub [47] rfl rfl
  have hFc := va_free (wc := (((a2, .inr (8, [.int 0, .int 0, .int 0, .null, .null, .null, .null, .null, .null, .null, .null, .null, .null, .int 0, .null, .null, .null, .null, .null, .null, .int 0, .int 0, .int 0, .int 0, .int 0, .int 0, .int 0, .null, .null, .null, .null, .null, .null, .null, .null, .null, .null, .null, .null, .null, .null, .int 0, .int 0, .null, .null, .null, .null, .null, .null, .null, .int 0, .int 0, .int 0, .null, .null, .null])) :: []) : va_W)) hD hS hA [47] rfl
  refine va_callv (va_runI (As := []) (rest := [.ref a2]) ⟨hx, hb, hml, hown, hts2⟩ (ciX8 l dC dI tt a2 r2 h1 hh1 H.size) (cwI 0 hts2 gL_law_X8_init rfl rfl rfl (hts2 _ (wsL_at (i := 5) rfl)) (hts2 _ (wsL_at (i := 138) rfl)) (hts2 _ (wsL_at (i := 139) rfl)) rfl (by decide +kernel) ⟨(Nat.le_of_ble_eq_true rfl), (Nat.le_of_ble_eq_true rfl)⟩) ⟨fun a9 U g9 mk w => by obtain ⟨q0, q1, qP, qK, qD, qX⟩ := w; exact ⟨q0, q1, qP, va_K.moved (u := U) (U := U.calling g9 mk a9) (Vm.Alike.refl U.vm) qK, qD, trivial⟩, fun U hU hW => ⟨rfl, by rw [hU], by rw [hU]; exact hPc, va_K.moved hW.alike (hK.sub [] rfl), hDc.weaken (fun _ _ _ _ => trivial), trivial⟩⟩ rfl rfl hl.1 rfl (lv_room (Nat.le_of_ble_eq_true rfl)) dL_law_12 ⟨(Nat.le_of_ble_eq_true rfl), (Nat.le_of_ble_eq_true rfl)⟩) hS (fun w _ hw9 => hFc w hw9) hFc (fun u t H1 locs ht hvm hw hB hz1 hk1 hS => ?_)
  obtain ⟨cb, q2⟩ := u
  obtain ⟨hP1, hK1, hD1⟩ := hB
  rw [ht] at hP1
  have hK1 := va_K.moved hvm.symm hK1
  obtain ⟨hP, hD⟩ := va_join (wr := wY ca (fun k => if k = 0 then a1 else q1 k) (gY0 g1)) (w1 := wM cb (fun k => if k = 0 then a2 else q2 k) h1) hP hD [47] (List.range 47) rfl rfl rfl (by decide) hk1 hFc hP1 hD1
  have hK := hK.app hK1
  refine lv_astore_n (lv' := [(2, .ref a2), (1, .ref a1), (0, .ref b)]) hx hb dL_law_15 rfl hl (by decide) rfl (fun ls hl => ?_)
  refine lv_iconst (v := 1) hx hb dL_law_16 (by decide) ?_
  refine va_newa (atype := .long) (N' := 1) (a0 := (1, .inr (.inl (fun _ => 0)))) hx hb (hts2 _ (wsL_at (i := 6) rfl)) rfl hK hP hD hS hA (fun cA => rfl) (by decide) (by decide) (by decide) (Nat.le_of_ble_eq_true rfl) (Nat.le_of_ble_eq_true rfl) dL_law_17 (fun qo cL H2 hK hP hD hS => ?_)
  have hP : va_P (dC, dI) vwCl (wL ca (fun k => if k = 0 then a1 else q1 k) cb (fun k => if k = 0 then a2 else q2 k) cL qo (gY0 g1) h1 (fun _ => 0)) H2 := hP.sub (List.range 89) rfl
  have hD : va_D (fun q : Nat => s.heap.size ≤ q) (wL ca (fun k => if k = 0 then a1 else q1 k) cb (fun k => if k = 0 then a2 else q2 k) cL qo (gY0 g1) h1 (fun _ => 0)) := hD.sub (List.range 89) rfl rfl
  have hK : va_K (dC, dI) vwCl (tyL ca cb cL) s := hK.sub (List.range 80) rfl
  refine lv_astore_n (lv' := [(3, .ref qo), (2, .ref a2), (1, .ref a1), (0, .ref b)]) hx hb dL_law_19 rfl hl (by decide) rfl (fun ls hl => ?_)
  refine lv_iconst (v := 0) hx hb dL_law_20 (by decide) ?_
  refine lv_istore (lv' := [(4, .int 0), (3, .ref qo), (2, .ref a2), (1, .ref a1), (0, .ref b)]) hx hb dL_law_21 hl (by decide) rfl (fun ls hl => ?_)
  have hC : z_LC (z_L p l e room_1 s m #[Value.ref b] below meth c (lw_Z below #[Value.ref b] s) (dC, dI) (fun q : Nat => s.heap.size ≤ q) 7 (wL ca (fun k => if k = 0 then a1 else q1 k) cb (fun k => if k = 0 then a2 else q2 k) cL qo)) l cL_law 7 wsL_law RL room_1 (dC, dI) ca (fun k => if k = 0 then a1 else q1 k) cb (fun k => if k = 0 then a2 else q2 k) cL qo tt sk sv b L xs := ⟨p, e, s, m, #[Value.ref b], below, meth, c, lw_Z below #[Value.ref b] s, (fun q : Nat => s.heap.size ≤ q), rfl, hx, hb, hml, hts2, hown, hK, hZY, hZM, hA, hX, hbl, hbA⟩
  refine law_loop hC hls hL S (fun i g h x cells slots h3 h4 => ?_) (L + 6) 0 (gY0 g1) h1 (fun _ => 0) (by omega) (by omega) h0 H2 locs ls hP hD hS (lv_sub hl [0, 4, 3, 2, 1] rfl)
  intro H locs ls hP hD hS hl
  refine lv_iconst (v := 1) hx hb dL_law_1069 (by decide) ?_
  refine va_forget hS.2.2 ?_
  refine W.widen h3 h4 ?_
  exact lw_ret hx hb hr hlocks dL_law_1070
