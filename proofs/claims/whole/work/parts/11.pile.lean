/-! the world of the reference: 15 cells -/
def wP (ca : Nat → ClassId) (q : Nat → Nat) (g : z_G) : va_W := [(q 0, .inr (2, [.int (g 0 0), .int (g 0 1), .int (g 0 2), .int (g 0 3), .int (g 0 4), .ref (q 1), .ref (q 2), .ref (q 3), .ref (q 4), .ref (q 5), .ref (q 6), .ref (q 7), .ref (q 8), .ref (q 9), .ref (q 10), .ref (q 11), .ref (q 12), .ref (q 13), .ref (q 14)])), (q 1, .inl (ca 1, 64, .inl (g 1))), (q 2, .inl (ca 2, 64, .inl (g 2))), (q 3, .inl (ca 3, 64, .inl (g 3))), (q 4, .inl (ca 4, 64, .inl (g 4))), (q 5, .inl (ca 5, 64, .inl (g 5))), (q 6, .inl (ca 6, 64, .inl (g 6))), (q 7, .inl (ca 7, 64, .inl (g 7))), (q 8, .inl (ca 8, 64, .inl (g 8))), (q 9, .inl (ca 9, 64, .inl (g 9))), (q 10, .inl (ca 10, 64, .inl (g 10))), (q 11, .inl (ca 11, 64, .inl (g 11))), (q 12, .inl (ca 12, 64, .inl (g 12))), (q 13, .inl (ca 13, 64, .inl (g 13))), (q 14, .inl (ca 14, 64, .inl (g 14)))]
def tyP (ca : Nat → ClassId) : List (ClassId × FieldType) := [(ca 1, .int), (ca 2, .boolean), (ca 3, .int), (ca 4, .int), (ca 5, .int), (ca 6, .int), (ca 7, .int), (ca 8, .int), (ca 9, .int), (ca 10, .int), (ca 11, .int), (ca 12, .int), (ca 13, .int), (ca 14, .int)]
theorem z_True_ok : z_Zok (fun _ _ _ => True) := ⟨⟨fun _ _ _ _ _ _ => trivial, fun _ _ _ _ _ _ => trivial⟩, fun _ _ _ _ _ _ => trivial, fun _ _ _ _ _ _ => trivial⟩
theorem wP_ok (ca : Nat → ClassId) (q : Nat → Nat) : z_Wok (wP ca q) := z_Wok_of (fun _ _ => rfl)
section ZPW
variable {J : Nat → List (Nat × Value) → List Value → z_G → Prop} {l : Launch} {cc : ByteArray} {nL : Nat} {Ts : List Cond} {own : String} {ret : Option FieldType} {R : Room} {Zt : z_ZT} {QQ : List Frame → Array Value → State → State → Prop} {XX : Code → State → Prop}
variable {pc : Nat} {lv : List (Nat × Value)} {st : List Value} {g : z_G} {index : Nat} {dC : Nat → ClassId} {dI : Nat → Nat → Nat} {ca : Nat → ClassId} {q : Nat → Nat}
theorem po_0 : (wP ca q g)[0]? = some (q 0, .inr (2, [.int (g 0 0), .int (g 0 1), .int (g 0 2), .int (g 0 3), .int (g 0 4), .ref (q 1), .ref (q 2), .ref (q 3), .ref (q 4), .ref (q 5), .ref (q 6), .ref (q 7), .ref (q 8), .ref (q 9), .ref (q 10), .ref (q 11), .ref (q 12), .ref (q 13), .ref (q 14)])) := rfl
theorem pg_0_0 (hC : z_Cx J l cc nL Ts own ret R (dC, dI) (tyP ca) (wP ca q) Zt QQ XX) (hin : ∀ w ∈ wsX20, w ∈ Ts) (hlink : Cond.fieldLink own index "CharcoalYard$Pile" "rings" "I" ∈ Ts) (hdg : decode cc pc = .ok (.getfield index, 3)) (k : J (pc + 3) lv (.int (g 0 0) :: st) g) : J pc lv (.ref (q 0) :: st) g := zj_get hC hin 0 po_0 rfl 0 (by decide) hlink rfl rfl hdg k
theorem pp_0_0 {x : Int32} (hC : z_Cx J l cc nL Ts own ret R (dC, dI) (tyP ca) (wP ca q) Zt QQ XX) (hin : ∀ w ∈ wsX20, w ∈ Ts) (hlink : Cond.fieldLink own index "CharcoalYard$Pile" "rings" "I" ∈ Ts) (hdg : decode cc pc = .ok (.putfield index, 3)) (k : ∀ g1 : z_G, g1 = z_up g 0 0 x → J (pc + 3) lv st g1) : J pc lv (.int x :: .ref (q 0) :: st) g := zj_put (ty := .int) hC hin tyX2 tyX2_ok nmX2 0 po_0 rfl 0 (by decide) hlink rfl rfl (by decide +kernel) rfl rfl (Nat.le_of_ble_eq_true rfl) rfl hdg k
theorem pg_0_1 (hC : z_Cx J l cc nL Ts own ret R (dC, dI) (tyP ca) (wP ca q) Zt QQ XX) (hin : ∀ w ∈ wsX20, w ∈ Ts) (hlink : Cond.fieldLink own index "CharcoalYard$Pile" "heights" "I" ∈ Ts) (hdg : decode cc pc = .ok (.getfield index, 3)) (k : J (pc + 3) lv (.int (g 0 1) :: st) g) : J pc lv (.ref (q 0) :: st) g := zj_get hC hin 0 po_0 rfl 1 (by decide) hlink rfl rfl hdg k
theorem pp_0_1 {x : Int32} (hC : z_Cx J l cc nL Ts own ret R (dC, dI) (tyP ca) (wP ca q) Zt QQ XX) (hin : ∀ w ∈ wsX20, w ∈ Ts) (hlink : Cond.fieldLink own index "CharcoalYard$Pile" "heights" "I" ∈ Ts) (hdg : decode cc pc = .ok (.putfield index, 3)) (k : ∀ g1 : z_G, g1 = z_up g 0 1 x → J (pc + 3) lv st g1) : J pc lv (.int x :: .ref (q 0) :: st) g := zj_put (ty := .int) hC hin tyX2 tyX2_ok nmX2 0 po_0 rfl 1 (by decide) hlink rfl rfl (by decide +kernel) rfl rfl (Nat.le_of_ble_eq_true rfl) rfl hdg k
theorem pg_0_2 (hC : z_Cx J l cc nL Ts own ret R (dC, dI) (tyP ca) (wP ca q) Zt QQ XX) (hin : ∀ w ∈ wsX20, w ∈ Ts) (hlink : Cond.fieldLink own index "CharcoalYard$Pile" "smoke" "I" ∈ Ts) (hdg : decode cc pc = .ok (.getfield index, 3)) (k : J (pc + 3) lv (.int (g 0 2) :: st) g) : J pc lv (.ref (q 0) :: st) g := zj_get hC hin 0 po_0 rfl 2 (by decide) hlink rfl rfl hdg k
theorem pp_0_2 {x : Int32} (hC : z_Cx J l cc nL Ts own ret R (dC, dI) (tyP ca) (wP ca q) Zt QQ XX) (hin : ∀ w ∈ wsX20, w ∈ Ts) (hlink : Cond.fieldLink own index "CharcoalYard$Pile" "smoke" "I" ∈ Ts) (hdg : decode cc pc = .ok (.putfield index, 3)) (k : ∀ g1 : z_G, g1 = z_up g 0 2 x → J (pc + 3) lv st g1) : J pc lv (.int x :: .ref (q 0) :: st) g := zj_put (ty := .int) hC hin tyX2 tyX2_ok nmX2 0 po_0 rfl 2 (by decide) hlink rfl rfl (by decide +kernel) rfl rfl (Nat.le_of_ble_eq_true rfl) rfl hdg k
theorem pg_0_3 (hC : z_Cx J l cc nL Ts own ret R (dC, dI) (tyP ca) (wP ca q) Zt QQ XX) (hin : ∀ w ∈ wsX20, w ∈ Ts) (hlink : Cond.fieldLink own index "CharcoalYard$Pile" "ash" "I" ∈ Ts) (hdg : decode cc pc = .ok (.getfield index, 3)) (k : J (pc + 3) lv (.int (g 0 3) :: st) g) : J pc lv (.ref (q 0) :: st) g := zj_get hC hin 0 po_0 rfl 3 (by decide) hlink rfl rfl hdg k
theorem pp_0_3 {x : Int32} (hC : z_Cx J l cc nL Ts own ret R (dC, dI) (tyP ca) (wP ca q) Zt QQ XX) (hin : ∀ w ∈ wsX20, w ∈ Ts) (hlink : Cond.fieldLink own index "CharcoalYard$Pile" "ash" "I" ∈ Ts) (hdg : decode cc pc = .ok (.putfield index, 3)) (k : ∀ g1 : z_G, g1 = z_up g 0 3 x → J (pc + 3) lv st g1) : J pc lv (.int x :: .ref (q 0) :: st) g := zj_put (ty := .int) hC hin tyX2 tyX2_ok nmX2 0 po_0 rfl 3 (by decide) hlink rfl rfl (by decide +kernel) rfl rfl (Nat.le_of_ble_eq_true rfl) rfl hdg k
theorem pg_0_4 (hC : z_Cx J l cc nL Ts own ret R (dC, dI) (tyP ca) (wP ca q) Zt QQ XX) (hin : ∀ w ∈ wsX20, w ∈ Ts) (hlink : Cond.fieldLink own index "CharcoalYard$Pile" "cells" "I" ∈ Ts) (hdg : decode cc pc = .ok (.getfield index, 3)) (k : J (pc + 3) lv (.int (g 0 4) :: st) g) : J pc lv (.ref (q 0) :: st) g := zj_get hC hin 0 po_0 rfl 4 (by decide) hlink rfl rfl hdg k
theorem pp_0_4 {x : Int32} (hC : z_Cx J l cc nL Ts own ret R (dC, dI) (tyP ca) (wP ca q) Zt QQ XX) (hin : ∀ w ∈ wsX20, w ∈ Ts) (hlink : Cond.fieldLink own index "CharcoalYard$Pile" "cells" "I" ∈ Ts) (hdg : decode cc pc = .ok (.putfield index, 3)) (k : ∀ g1 : z_G, g1 = z_up g 0 4 x → J (pc + 3) lv st g1) : J pc lv (.int x :: .ref (q 0) :: st) g := zj_put (ty := .int) hC hin tyX2 tyX2_ok nmX2 0 po_0 rfl 4 (by decide) hlink rfl rfl (by decide +kernel) rfl rfl (Nat.le_of_ble_eq_true rfl) rfl hdg k
theorem pg_0_5 (hC : z_Cx J l cc nL Ts own ret R (dC, dI) (tyP ca) (wP ca q) Zt QQ XX) (hin : ∀ w ∈ wsX20, w ∈ Ts) (hlink : Cond.fieldLink own index "CharcoalYard$Pile" "share" "[I" ∈ Ts) (hdg : decode cc pc = .ok (.getfield index, 3)) (k : J (pc + 3) lv (.ref (q 1) :: st) g) : J pc lv (.ref (q 0) :: st) g := zj_get hC hin 0 po_0 rfl 5 (by decide) hlink rfl rfl hdg k
theorem pg_0_6 (hC : z_Cx J l cc nL Ts own ret R (dC, dI) (tyP ca) (wP ca q) Zt QQ XX) (hin : ∀ w ∈ wsX20, w ∈ Ts) (hlink : Cond.fieldLink own index "CharcoalYard$Pile" "isOutside" "[Z" ∈ Ts) (hdg : decode cc pc = .ok (.getfield index, 3)) (k : J (pc + 3) lv (.ref (q 2) :: st) g) : J pc lv (.ref (q 0) :: st) g := zj_get hC hin 0 po_0 rfl 6 (by decide) hlink rfl rfl hdg k
theorem pg_0_7 (hC : z_Cx J l cc nL Ts own ret R (dC, dI) (tyP ca) (wP ca q) Zt QQ XX) (hin : ∀ w ∈ wsX20, w ∈ Ts) (hlink : Cond.fieldLink own index "CharcoalYard$Pile" "wood" "[I" ∈ Ts) (hdg : decode cc pc = .ok (.getfield index, 3)) (k : J (pc + 3) lv (.ref (q 3) :: st) g) : J pc lv (.ref (q 0) :: st) g := zj_get hC hin 0 po_0 rfl 7 (by decide) hlink rfl rfl hdg k
theorem pg_0_8 (hC : z_Cx J l cc nL Ts own ret R (dC, dI) (tyP ca) (wP ca q) Zt QQ XX) (hin : ∀ w ∈ wsX20, w ∈ Ts) (hlink : Cond.fieldLink own index "CharcoalYard$Pile" "coal" "[I" ∈ Ts) (hdg : decode cc pc = .ok (.getfield index, 3)) (k : J (pc + 3) lv (.ref (q 4) :: st) g) : J pc lv (.ref (q 0) :: st) g := zj_get hC hin 0 po_0 rfl 8 (by decide) hlink rfl rfl hdg k
theorem pg_0_9 (hC : z_Cx J l cc nL Ts own ret R (dC, dI) (tyP ca) (wP ca q) Zt QQ XX) (hin : ∀ w ∈ wsX20, w ∈ Ts) (hlink : Cond.fieldLink own index "CharcoalYard$Pile" "wet" "[I" ∈ Ts) (hdg : decode cc pc = .ok (.getfield index, 3)) (k : J (pc + 3) lv (.ref (q 5) :: st) g) : J pc lv (.ref (q 0) :: st) g := zj_get hC hin 0 po_0 rfl 9 (by decide) hlink rfl rfl hdg k
theorem pg_0_10 (hC : z_Cx J l cc nL Ts own ret R (dC, dI) (tyP ca) (wP ca q) Zt QQ XX) (hin : ∀ w ∈ wsX20, w ∈ Ts) (hlink : Cond.fieldLink own index "CharcoalYard$Pile" "heat" "[I" ∈ Ts) (hdg : decode cc pc = .ok (.getfield index, 3)) (k : J (pc + 3) lv (.ref (q 6) :: st) g) : J pc lv (.ref (q 0) :: st) g := zj_get hC hin 0 po_0 rfl 10 (by decide) hlink rfl rfl hdg k
theorem pg_0_11 (hC : z_Cx J l cc nL Ts own ret R (dC, dI) (tyP ca) (wP ca q) Zt QQ XX) (hin : ∀ w ∈ wsX20, w ∈ Ts) (hlink : Cond.fieldLink own index "CharcoalYard$Pile" "fire" "[I" ∈ Ts) (hdg : decode cc pc = .ok (.getfield index, 3)) (k : J (pc + 3) lv (.ref (q 7) :: st) g) : J pc lv (.ref (q 0) :: st) g := zj_get hC hin 0 po_0 rfl 11 (by decide) hlink rfl rfl hdg k
theorem pg_0_12 (hC : z_Cx J l cc nL Ts own ret R (dC, dI) (tyP ca) (wP ca q) Zt QQ XX) (hin : ∀ w ∈ wsX20, w ∈ Ts) (hlink : Cond.fieldLink own index "CharcoalYard$Pile" "cover" "[I" ∈ Ts) (hdg : decode cc pc = .ok (.getfield index, 3)) (k : J (pc + 3) lv (.ref (q 8) :: st) g) : J pc lv (.ref (q 0) :: st) g := zj_get hC hin 0 po_0 rfl 12 (by decide) hlink rfl rfl hdg k
theorem pg_0_13 (hC : z_Cx J l cc nL Ts own ret R (dC, dI) (tyP ca) (wP ca q) Zt QQ XX) (hin : ∀ w ∈ wsX20, w ∈ Ts) (hlink : Cond.fieldLink own index "CharcoalYard$Pile" "air" "[I" ∈ Ts) (hdg : decode cc pc = .ok (.getfield index, 3)) (k : J (pc + 3) lv (.ref (q 9) :: st) g) : J pc lv (.ref (q 0) :: st) g := zj_get hC hin 0 po_0 rfl 13 (by decide) hlink rfl rfl hdg k
theorem pg_0_14 (hC : z_Cx J l cc nL Ts own ret R (dC, dI) (tyP ca) (wP ca q) Zt QQ XX) (hin : ∀ w ∈ wsX20, w ∈ Ts) (hlink : Cond.fieldLink own index "CharcoalYard$Pile" "full" "[I" ∈ Ts) (hdg : decode cc pc = .ok (.getfield index, 3)) (k : J (pc + 3) lv (.ref (q 10) :: st) g) : J pc lv (.ref (q 0) :: st) g := zj_get hC hin 0 po_0 rfl 14 (by decide) hlink rfl rfl hdg k
theorem pg_0_15 (hC : z_Cx J l cc nL Ts own ret R (dC, dI) (tyP ca) (wP ca q) Zt QQ XX) (hin : ∀ w ∈ wsX20, w ∈ Ts) (hlink : Cond.fieldLink own index "CharcoalYard$Pile" "kind" "[I" ∈ Ts) (hdg : decode cc pc = .ok (.getfield index, 3)) (k : J (pc + 3) lv (.ref (q 11) :: st) g) : J pc lv (.ref (q 0) :: st) g := zj_get hC hin 0 po_0 rfl 15 (by decide) hlink rfl rfl hdg k
theorem pg_0_16 (hC : z_Cx J l cc nL Ts own ret R (dC, dI) (tyP ca) (wP ca q) Zt QQ XX) (hin : ∀ w ∈ wsX20, w ∈ Ts) (hlink : Cond.fieldLink own index "CharcoalYard$Pile" "breached" "[I" ∈ Ts) (hdg : decode cc pc = .ok (.getfield index, 3)) (k : J (pc + 3) lv (.ref (q 12) :: st) g) : J pc lv (.ref (q 0) :: st) g := zj_get hC hin 0 po_0 rfl 16 (by decide) hlink rfl rfl hdg k
theorem pg_0_17 (hC : z_Cx J l cc nL Ts own ret R (dC, dI) (tyP ca) (wP ca q) Zt QQ XX) (hin : ∀ w ∈ wsX20, w ∈ Ts) (hlink : Cond.fieldLink own index "CharcoalYard$Pile" "coverAtLight" "[I" ∈ Ts) (hdg : decode cc pc = .ok (.getfield index, 3)) (k : J (pc + 3) lv (.ref (q 13) :: st) g) : J pc lv (.ref (q 0) :: st) g := zj_get hC hin 0 po_0 rfl 17 (by decide) hlink rfl rfl hdg k
theorem pg_0_18 (hC : z_Cx J l cc nL Ts own ret R (dC, dI) (tyP ca) (wP ca q) Zt QQ XX) (hin : ∀ w ∈ wsX20, w ∈ Ts) (hlink : Cond.fieldLink own index "CharcoalYard$Pile" "glow" "[I" ∈ Ts) (hdg : decode cc pc = .ok (.getfield index, 3)) (k : J (pc + 3) lv (.ref (q 14) :: st) g) : J pc lv (.ref (q 0) :: st) g := zj_get hC hin 0 po_0 rfl 18 (by decide) hlink rfl rfl hdg k
theorem pa_1 {i : Int32} (hC : z_Cx J l cc nL Ts own ret R (dC, dI) (tyP ca) (wP ca q) Zt QQ XX) (hin : vp_in i 64) (hdg : decode cc pc = .ok (.iaload, 1)) (k : J (pc + 1) lv (.int (g 1 i.toNatClampNeg) :: st) g) : J pc lv (.int i :: .ref (q 1) :: st) g := zj_iald hC 1 0 rfl rfl hin hdg k
theorem ps_1 {i x : Int32} (hC : z_Cx J l cc nL Ts own ret R (dC, dI) (tyP ca) (wP ca q) Zt QQ XX) (hin : vp_in i 64) (hdg : decode cc pc = .ok (.iastore, 1)) (k : ∀ g1 : z_G, g1 = z_up g 1 i.toNatClampNeg x → J (pc + 1) lv st g1) : J pc lv (.int x :: .int i :: .ref (q 1) :: st) g := zj_iast hC 1 0 rfl rfl hin rfl hdg k
theorem pl_1 (hC : z_Cx J l cc nL Ts own ret R (dC, dI) (tyP ca) (wP ca q) Zt QQ XX) (hdg : decode cc pc = .ok (.arraylength, 1)) (k : J (pc + 1) lv (.int 64 :: st) g) : J pc lv (.ref (q 1) :: st) g := zj_alen hC 1 0 rfl rfl rfl hdg k
theorem pa_2 {i : Int32} (hC : z_Cx J l cc nL Ts own ret R (dC, dI) (tyP ca) (wP ca q) Zt QQ XX) (hin : vp_in i 64) (hdg : decode cc pc = .ok (.baload, 1)) (k : J (pc + 1) lv (.int (g 2 i.toNatClampNeg) :: st) g) : J pc lv (.int i :: .ref (q 2) :: st) g := zj_zald hC 2 1 rfl rfl hin hdg k
theorem ps_2 {i x : Int32} (hC : z_Cx J l cc nL Ts own ret R (dC, dI) (tyP ca) (wP ca q) Zt QQ XX) (hin : vp_in i 64) (hdg : decode cc pc = .ok (.bastore, 1)) (k : ∀ g1 : z_G, g1 = z_up g 2 i.toNatClampNeg (vp_nar .boolean x) → J (pc + 1) lv st g1) : J pc lv (.int x :: .int i :: .ref (q 2) :: st) g := zj_zast hC 2 1 rfl rfl hin rfl hdg k
theorem pl_2 (hC : z_Cx J l cc nL Ts own ret R (dC, dI) (tyP ca) (wP ca q) Zt QQ XX) (hdg : decode cc pc = .ok (.arraylength, 1)) (k : J (pc + 1) lv (.int 64 :: st) g) : J pc lv (.ref (q 2) :: st) g := zj_alen hC 2 1 rfl rfl rfl hdg k
theorem pa_3 {i : Int32} (hC : z_Cx J l cc nL Ts own ret R (dC, dI) (tyP ca) (wP ca q) Zt QQ XX) (hin : vp_in i 64) (hdg : decode cc pc = .ok (.iaload, 1)) (k : J (pc + 1) lv (.int (g 3 i.toNatClampNeg) :: st) g) : J pc lv (.int i :: .ref (q 3) :: st) g := zj_iald hC 3 2 rfl rfl hin hdg k
theorem ps_3 {i x : Int32} (hC : z_Cx J l cc nL Ts own ret R (dC, dI) (tyP ca) (wP ca q) Zt QQ XX) (hin : vp_in i 64) (hdg : decode cc pc = .ok (.iastore, 1)) (k : ∀ g1 : z_G, g1 = z_up g 3 i.toNatClampNeg x → J (pc + 1) lv st g1) : J pc lv (.int x :: .int i :: .ref (q 3) :: st) g := zj_iast hC 3 2 rfl rfl hin rfl hdg k
theorem pl_3 (hC : z_Cx J l cc nL Ts own ret R (dC, dI) (tyP ca) (wP ca q) Zt QQ XX) (hdg : decode cc pc = .ok (.arraylength, 1)) (k : J (pc + 1) lv (.int 64 :: st) g) : J pc lv (.ref (q 3) :: st) g := zj_alen hC 3 2 rfl rfl rfl hdg k
theorem pa_4 {i : Int32} (hC : z_Cx J l cc nL Ts own ret R (dC, dI) (tyP ca) (wP ca q) Zt QQ XX) (hin : vp_in i 64) (hdg : decode cc pc = .ok (.iaload, 1)) (k : J (pc + 1) lv (.int (g 4 i.toNatClampNeg) :: st) g) : J pc lv (.int i :: .ref (q 4) :: st) g := zj_iald hC 4 3 rfl rfl hin hdg k
theorem ps_4 {i x : Int32} (hC : z_Cx J l cc nL Ts own ret R (dC, dI) (tyP ca) (wP ca q) Zt QQ XX) (hin : vp_in i 64) (hdg : decode cc pc = .ok (.iastore, 1)) (k : ∀ g1 : z_G, g1 = z_up g 4 i.toNatClampNeg x → J (pc + 1) lv st g1) : J pc lv (.int x :: .int i :: .ref (q 4) :: st) g := zj_iast hC 4 3 rfl rfl hin rfl hdg k
theorem pl_4 (hC : z_Cx J l cc nL Ts own ret R (dC, dI) (tyP ca) (wP ca q) Zt QQ XX) (hdg : decode cc pc = .ok (.arraylength, 1)) (k : J (pc + 1) lv (.int 64 :: st) g) : J pc lv (.ref (q 4) :: st) g := zj_alen hC 4 3 rfl rfl rfl hdg k
theorem pa_5 {i : Int32} (hC : z_Cx J l cc nL Ts own ret R (dC, dI) (tyP ca) (wP ca q) Zt QQ XX) (hin : vp_in i 64) (hdg : decode cc pc = .ok (.iaload, 1)) (k : J (pc + 1) lv (.int (g 5 i.toNatClampNeg) :: st) g) : J pc lv (.int i :: .ref (q 5) :: st) g := zj_iald hC 5 4 rfl rfl hin hdg k
theorem ps_5 {i x : Int32} (hC : z_Cx J l cc nL Ts own ret R (dC, dI) (tyP ca) (wP ca q) Zt QQ XX) (hin : vp_in i 64) (hdg : decode cc pc = .ok (.iastore, 1)) (k : ∀ g1 : z_G, g1 = z_up g 5 i.toNatClampNeg x → J (pc + 1) lv st g1) : J pc lv (.int x :: .int i :: .ref (q 5) :: st) g := zj_iast hC 5 4 rfl rfl hin rfl hdg k
theorem pl_5 (hC : z_Cx J l cc nL Ts own ret R (dC, dI) (tyP ca) (wP ca q) Zt QQ XX) (hdg : decode cc pc = .ok (.arraylength, 1)) (k : J (pc + 1) lv (.int 64 :: st) g) : J pc lv (.ref (q 5) :: st) g := zj_alen hC 5 4 rfl rfl rfl hdg k
theorem pa_6 {i : Int32} (hC : z_Cx J l cc nL Ts own ret R (dC, dI) (tyP ca) (wP ca q) Zt QQ XX) (hin : vp_in i 64) (hdg : decode cc pc = .ok (.iaload, 1)) (k : J (pc + 1) lv (.int (g 6 i.toNatClampNeg) :: st) g) : J pc lv (.int i :: .ref (q 6) :: st) g := zj_iald hC 6 5 rfl rfl hin hdg k
theorem ps_6 {i x : Int32} (hC : z_Cx J l cc nL Ts own ret R (dC, dI) (tyP ca) (wP ca q) Zt QQ XX) (hin : vp_in i 64) (hdg : decode cc pc = .ok (.iastore, 1)) (k : ∀ g1 : z_G, g1 = z_up g 6 i.toNatClampNeg x → J (pc + 1) lv st g1) : J pc lv (.int x :: .int i :: .ref (q 6) :: st) g := zj_iast hC 6 5 rfl rfl hin rfl hdg k
theorem pl_6 (hC : z_Cx J l cc nL Ts own ret R (dC, dI) (tyP ca) (wP ca q) Zt QQ XX) (hdg : decode cc pc = .ok (.arraylength, 1)) (k : J (pc + 1) lv (.int 64 :: st) g) : J pc lv (.ref (q 6) :: st) g := zj_alen hC 6 5 rfl rfl rfl hdg k
theorem pa_7 {i : Int32} (hC : z_Cx J l cc nL Ts own ret R (dC, dI) (tyP ca) (wP ca q) Zt QQ XX) (hin : vp_in i 64) (hdg : decode cc pc = .ok (.iaload, 1)) (k : J (pc + 1) lv (.int (g 7 i.toNatClampNeg) :: st) g) : J pc lv (.int i :: .ref (q 7) :: st) g := zj_iald hC 7 6 rfl rfl hin hdg k
theorem ps_7 {i x : Int32} (hC : z_Cx J l cc nL Ts own ret R (dC, dI) (tyP ca) (wP ca q) Zt QQ XX) (hin : vp_in i 64) (hdg : decode cc pc = .ok (.iastore, 1)) (k : ∀ g1 : z_G, g1 = z_up g 7 i.toNatClampNeg x → J (pc + 1) lv st g1) : J pc lv (.int x :: .int i :: .ref (q 7) :: st) g := zj_iast hC 7 6 rfl rfl hin rfl hdg k
theorem pl_7 (hC : z_Cx J l cc nL Ts own ret R (dC, dI) (tyP ca) (wP ca q) Zt QQ XX) (hdg : decode cc pc = .ok (.arraylength, 1)) (k : J (pc + 1) lv (.int 64 :: st) g) : J pc lv (.ref (q 7) :: st) g := zj_alen hC 7 6 rfl rfl rfl hdg k
theorem pa_8 {i : Int32} (hC : z_Cx J l cc nL Ts own ret R (dC, dI) (tyP ca) (wP ca q) Zt QQ XX) (hin : vp_in i 64) (hdg : decode cc pc = .ok (.iaload, 1)) (k : J (pc + 1) lv (.int (g 8 i.toNatClampNeg) :: st) g) : J pc lv (.int i :: .ref (q 8) :: st) g := zj_iald hC 8 7 rfl rfl hin hdg k
theorem ps_8 {i x : Int32} (hC : z_Cx J l cc nL Ts own ret R (dC, dI) (tyP ca) (wP ca q) Zt QQ XX) (hin : vp_in i 64) (hdg : decode cc pc = .ok (.iastore, 1)) (k : ∀ g1 : z_G, g1 = z_up g 8 i.toNatClampNeg x → J (pc + 1) lv st g1) : J pc lv (.int x :: .int i :: .ref (q 8) :: st) g := zj_iast hC 8 7 rfl rfl hin rfl hdg k
theorem pl_8 (hC : z_Cx J l cc nL Ts own ret R (dC, dI) (tyP ca) (wP ca q) Zt QQ XX) (hdg : decode cc pc = .ok (.arraylength, 1)) (k : J (pc + 1) lv (.int 64 :: st) g) : J pc lv (.ref (q 8) :: st) g := zj_alen hC 8 7 rfl rfl rfl hdg k
theorem pa_9 {i : Int32} (hC : z_Cx J l cc nL Ts own ret R (dC, dI) (tyP ca) (wP ca q) Zt QQ XX) (hin : vp_in i 64) (hdg : decode cc pc = .ok (.iaload, 1)) (k : J (pc + 1) lv (.int (g 9 i.toNatClampNeg) :: st) g) : J pc lv (.int i :: .ref (q 9) :: st) g := zj_iald hC 9 8 rfl rfl hin hdg k
theorem ps_9 {i x : Int32} (hC : z_Cx J l cc nL Ts own ret R (dC, dI) (tyP ca) (wP ca q) Zt QQ XX) (hin : vp_in i 64) (hdg : decode cc pc = .ok (.iastore, 1)) (k : ∀ g1 : z_G, g1 = z_up g 9 i.toNatClampNeg x → J (pc + 1) lv st g1) : J pc lv (.int x :: .int i :: .ref (q 9) :: st) g := zj_iast hC 9 8 rfl rfl hin rfl hdg k
theorem pl_9 (hC : z_Cx J l cc nL Ts own ret R (dC, dI) (tyP ca) (wP ca q) Zt QQ XX) (hdg : decode cc pc = .ok (.arraylength, 1)) (k : J (pc + 1) lv (.int 64 :: st) g) : J pc lv (.ref (q 9) :: st) g := zj_alen hC 9 8 rfl rfl rfl hdg k
theorem pa_10 {i : Int32} (hC : z_Cx J l cc nL Ts own ret R (dC, dI) (tyP ca) (wP ca q) Zt QQ XX) (hin : vp_in i 64) (hdg : decode cc pc = .ok (.iaload, 1)) (k : J (pc + 1) lv (.int (g 10 i.toNatClampNeg) :: st) g) : J pc lv (.int i :: .ref (q 10) :: st) g := zj_iald hC 10 9 rfl rfl hin hdg k
theorem ps_10 {i x : Int32} (hC : z_Cx J l cc nL Ts own ret R (dC, dI) (tyP ca) (wP ca q) Zt QQ XX) (hin : vp_in i 64) (hdg : decode cc pc = .ok (.iastore, 1)) (k : ∀ g1 : z_G, g1 = z_up g 10 i.toNatClampNeg x → J (pc + 1) lv st g1) : J pc lv (.int x :: .int i :: .ref (q 10) :: st) g := zj_iast hC 10 9 rfl rfl hin rfl hdg k
theorem pl_10 (hC : z_Cx J l cc nL Ts own ret R (dC, dI) (tyP ca) (wP ca q) Zt QQ XX) (hdg : decode cc pc = .ok (.arraylength, 1)) (k : J (pc + 1) lv (.int 64 :: st) g) : J pc lv (.ref (q 10) :: st) g := zj_alen hC 10 9 rfl rfl rfl hdg k
theorem pa_11 {i : Int32} (hC : z_Cx J l cc nL Ts own ret R (dC, dI) (tyP ca) (wP ca q) Zt QQ XX) (hin : vp_in i 64) (hdg : decode cc pc = .ok (.iaload, 1)) (k : J (pc + 1) lv (.int (g 11 i.toNatClampNeg) :: st) g) : J pc lv (.int i :: .ref (q 11) :: st) g := zj_iald hC 11 10 rfl rfl hin hdg k
theorem ps_11 {i x : Int32} (hC : z_Cx J l cc nL Ts own ret R (dC, dI) (tyP ca) (wP ca q) Zt QQ XX) (hin : vp_in i 64) (hdg : decode cc pc = .ok (.iastore, 1)) (k : ∀ g1 : z_G, g1 = z_up g 11 i.toNatClampNeg x → J (pc + 1) lv st g1) : J pc lv (.int x :: .int i :: .ref (q 11) :: st) g := zj_iast hC 11 10 rfl rfl hin rfl hdg k
theorem pl_11 (hC : z_Cx J l cc nL Ts own ret R (dC, dI) (tyP ca) (wP ca q) Zt QQ XX) (hdg : decode cc pc = .ok (.arraylength, 1)) (k : J (pc + 1) lv (.int 64 :: st) g) : J pc lv (.ref (q 11) :: st) g := zj_alen hC 11 10 rfl rfl rfl hdg k
theorem pa_12 {i : Int32} (hC : z_Cx J l cc nL Ts own ret R (dC, dI) (tyP ca) (wP ca q) Zt QQ XX) (hin : vp_in i 64) (hdg : decode cc pc = .ok (.iaload, 1)) (k : J (pc + 1) lv (.int (g 12 i.toNatClampNeg) :: st) g) : J pc lv (.int i :: .ref (q 12) :: st) g := zj_iald hC 12 11 rfl rfl hin hdg k
theorem ps_12 {i x : Int32} (hC : z_Cx J l cc nL Ts own ret R (dC, dI) (tyP ca) (wP ca q) Zt QQ XX) (hin : vp_in i 64) (hdg : decode cc pc = .ok (.iastore, 1)) (k : ∀ g1 : z_G, g1 = z_up g 12 i.toNatClampNeg x → J (pc + 1) lv st g1) : J pc lv (.int x :: .int i :: .ref (q 12) :: st) g := zj_iast hC 12 11 rfl rfl hin rfl hdg k
theorem pl_12 (hC : z_Cx J l cc nL Ts own ret R (dC, dI) (tyP ca) (wP ca q) Zt QQ XX) (hdg : decode cc pc = .ok (.arraylength, 1)) (k : J (pc + 1) lv (.int 64 :: st) g) : J pc lv (.ref (q 12) :: st) g := zj_alen hC 12 11 rfl rfl rfl hdg k
theorem pa_13 {i : Int32} (hC : z_Cx J l cc nL Ts own ret R (dC, dI) (tyP ca) (wP ca q) Zt QQ XX) (hin : vp_in i 64) (hdg : decode cc pc = .ok (.iaload, 1)) (k : J (pc + 1) lv (.int (g 13 i.toNatClampNeg) :: st) g) : J pc lv (.int i :: .ref (q 13) :: st) g := zj_iald hC 13 12 rfl rfl hin hdg k
theorem ps_13 {i x : Int32} (hC : z_Cx J l cc nL Ts own ret R (dC, dI) (tyP ca) (wP ca q) Zt QQ XX) (hin : vp_in i 64) (hdg : decode cc pc = .ok (.iastore, 1)) (k : ∀ g1 : z_G, g1 = z_up g 13 i.toNatClampNeg x → J (pc + 1) lv st g1) : J pc lv (.int x :: .int i :: .ref (q 13) :: st) g := zj_iast hC 13 12 rfl rfl hin rfl hdg k
theorem pl_13 (hC : z_Cx J l cc nL Ts own ret R (dC, dI) (tyP ca) (wP ca q) Zt QQ XX) (hdg : decode cc pc = .ok (.arraylength, 1)) (k : J (pc + 1) lv (.int 64 :: st) g) : J pc lv (.ref (q 13) :: st) g := zj_alen hC 13 12 rfl rfl rfl hdg k
theorem pa_14 {i : Int32} (hC : z_Cx J l cc nL Ts own ret R (dC, dI) (tyP ca) (wP ca q) Zt QQ XX) (hin : vp_in i 64) (hdg : decode cc pc = .ok (.iaload, 1)) (k : J (pc + 1) lv (.int (g 14 i.toNatClampNeg) :: st) g) : J pc lv (.int i :: .ref (q 14) :: st) g := zj_iald hC 14 13 rfl rfl hin hdg k
theorem ps_14 {i x : Int32} (hC : z_Cx J l cc nL Ts own ret R (dC, dI) (tyP ca) (wP ca q) Zt QQ XX) (hin : vp_in i 64) (hdg : decode cc pc = .ok (.iastore, 1)) (k : ∀ g1 : z_G, g1 = z_up g 14 i.toNatClampNeg x → J (pc + 1) lv st g1) : J pc lv (.int x :: .int i :: .ref (q 14) :: st) g := zj_iast hC 14 13 rfl rfl hin rfl hdg k
theorem pl_14 (hC : z_Cx J l cc nL Ts own ret R (dC, dI) (tyP ca) (wP ca q) Zt QQ XX) (hdg : decode cc pc = .ok (.arraylength, 1)) (k : J (pc + 1) lv (.int 64 :: st) g) : J pc lv (.ref (q 14) :: st) g := zj_alen hC 14 13 rfl rfl rfl hdg k
end ZPW
def fP_X2_at (a0 : Int32) (a1 : Int32) (g : z_G) : Option (Int32 × z_G) := some ((a0 * (g 0 1)) + a1, g)
theorem nP_X2_at : yX2_at.cls = RX2 ∧ yX2_at.cls ≠ "java/lang/invoke/MethodHandle" ∧ yX2_at.cls ≠ "java/lang/invoke/VarHandle" ∧ (parseMethodDescriptor yX2_at.desc).map (fun d => d.parameters.length) = some 2 := by decide +kernel
set_option maxRecDepth 100000 in
set_option maxHeartbeats 4000000 in
theorem cP_X2_at (l : Launch) (dC : Nat → ClassId) (dI : Nat → Nat → Nat) (ca : Nat → ClassId) (q : Nat → Nat) (tt : Nat → Nat) (a0 : Int32) (a1 : Int32) (g : z_G) (r : Int32) (g' : z_G) (hf : fP_X2_at a0 a1 g = some (r, g')) : z_C l yX2_at wsX2_at { frames := 0, cells := 0, slots := 0, locals := 0 } (dC, dI) (tyP ca) (wP ca q) (zY tt) [.ref (q 0), .int a0, .int a1] g (some r) g' := by
  refine z_enter (wP_ok ca q) (zY_ok tt) (by decide +kernel) rfl (Nat.le_of_ble_eq_true rfl) (fun J hC => ?_)
  have hC : z_Cx J l cX2_at 3 wsX2_at RX2 (some .int) { frames := 0, cells := 0, slots := 0, locals := 0 } (dC, dI) (tyP ca) (wP ca q) (zY tt) (z_QI (dC, dI) (tyP ca) (wP ca q) (some r) g') z_X0 := hC
  show J 0 [(0, .ref (q 0)), (1, .int a0), (2, .int a1)] [] g
  have hX2 : ∀ w ∈ wsX20, w ∈ wsX2_at := fun _ h => List.mem_cons_of_mem _ (List.mem_append_right _ (h))
  unfold fP_X2_at at hf
  refine zj_iload_n 1 hC dX2_at_0 rfl ?_
  refine zj_aload_n 0 hC dX2_at_1 rfl ?_
  refine pg_0_1 hC hX2 (List.mem_of_getElem? (i := 1) rfl) dX2_at_2 ?_
  refine zj_imul hC dX2_at_5 ?_
  refine zj_iload_n 2 hC dX2_at_6 rfl ?_
  refine zj_iadd hC dX2_at_7 ?_
  exact zj_ireturn hC hf dX2_at_8

def fP_X2_dampOf_30 (s0 : Int32) (g : z_G) : Option (Int32 × z_G) := some (s0, g)
def fP_X2_dampOf (a0 : Int32) (g : z_G) : Option (Int32 × z_G) := z_ck a0 64 ((if (g 10 (Int32.toNatClampNeg a0)) ≤ 0 then fP_X2_dampOf_30 0 g else z_ck a0 64 (z_ck (g 11 (Int32.toNatClampNeg a0)) 4 (z_ck a0 64 (fP_X2_dampOf_30 ((kDAMP (Int32.toNatClampNeg (g 11 (Int32.toNatClampNeg a0)))) * (g 1 (Int32.toNatClampNeg a0))) g)))))
theorem nP_X2_dampOf : yX2_dampOf.cls = RX2 ∧ yX2_dampOf.cls ≠ "java/lang/invoke/MethodHandle" ∧ yX2_dampOf.cls ≠ "java/lang/invoke/VarHandle" ∧ (parseMethodDescriptor yX2_dampOf.desc).map (fun d => d.parameters.length) = some 1 := by decide +kernel
set_option maxRecDepth 100000 in
set_option maxHeartbeats 4000000 in
theorem cP_X2_dampOf (l : Launch) (dC : Nat → ClassId) (dI : Nat → Nat → Nat) (ca : Nat → ClassId) (q : Nat → Nat) (tt : Nat → Nat) (a0 : Int32) (g : z_G) (r : Int32) (g' : z_G) (hf : fP_X2_dampOf a0 g = some (r, g')) : z_C l yX2_dampOf wsX2_dampOf { frames := 0, cells := 0, slots := 0, locals := 0 } (dC, dI) (tyP ca) (wP ca q) (zY tt) [.ref (q 0), .int a0] g (some r) g' := by
  refine z_enter (wP_ok ca q) (zY_ok tt) (by decide +kernel) rfl (Nat.le_of_ble_eq_true rfl) (fun J hC => ?_)
  have hC : z_Cx J l cX2_dampOf 2 wsX2_dampOf RX2 (some .int) { frames := 0, cells := 0, slots := 0, locals := 0 } (dC, dI) (tyP ca) (wP ca q) (zY tt) (z_QI (dC, dI) (tyP ca) (wP ca q) (some r) g') z_X0 := hC
  show J 0 [(0, .ref (q 0)), (1, .int a0)] [] g
  have hX2 : ∀ w ∈ wsX20, w ∈ wsX2_dampOf := fun _ h => List.mem_cons_of_mem _ (List.mem_append_right _ (h))
  have hJ30 : ∀ (s0 : Int32) (g : z_G), fP_X2_dampOf_30 s0 g = some (r, g') → J 30 [] [.int s0] g := by
    intro s0 g hf
    unfold fP_X2_dampOf_30 at hf
    exact zj_ireturn hC hf dX2_dampOf_30
  unfold fP_X2_dampOf at hf
  refine zj_aload_n 0 hC dX2_dampOf_0 rfl ?_
  refine pg_0_14 hC hX2 (List.mem_of_getElem? (i := 1) rfl) dX2_dampOf_1 ?_
  refine zj_iload_n 1 hC dX2_dampOf_4 rfl ?_
  obtain ⟨hq1, hf⟩ := z_ckE hf
  refine pa_10 hC hq1 dX2_dampOf_5 ?_
  refine zj_if_le 29 hC dX2_dampOf_6 (by decide) (fun c2 => ?_) (fun c2 => ?_)
  · have hf := z_iteT hf c2
    refine zj_iconst (v := 0) hC dX2_dampOf_29 (by decide) ?_
    exact zj_sub hC [] rfl (hJ30 0 g hf)
  · have hf := z_iteF hf c2
    refine zj_gets (C := "CharcoalYard$Pile") (v := .ref (tt 0)) hC (fun A U H h => h.1.1) (List.mem_of_getElem? (i := 2) rfl) rfl dX2_dampOf_9 ?_
    refine zj_aload_n 0 hC dX2_dampOf_12 rfl ?_
    refine pg_0_15 hC hX2 (List.mem_of_getElem? (i := 3) rfl) dX2_dampOf_13 ?_
    refine zj_iload_n 1 hC dX2_dampOf_16 rfl ?_
    obtain ⟨hq3, hf⟩ := z_ckE hf
    refine pa_11 hC hq3 dX2_dampOf_17 ?_
    obtain ⟨hq4, hf⟩ := z_ckE hf
    refine zj_ti (f := kDAMP) hC (fun A U H h => h.1.2) hq4 dX2_dampOf_18 ?_
    refine zj_aload_n 0 hC dX2_dampOf_19 rfl ?_
    refine pg_0_5 hC hX2 (List.mem_of_getElem? (i := 4) rfl) dX2_dampOf_20 ?_
    refine zj_iload_n 1 hC dX2_dampOf_23 rfl ?_
    obtain ⟨hq5, hf⟩ := z_ckE hf
    refine pa_1 hC hq5 dX2_dampOf_24 ?_
    refine zj_imul hC dX2_dampOf_25 ?_
    refine zj_goto 30 hC dX2_dampOf_26 (by decide) ?_
    exact zj_sub hC [] rfl (hJ30 ((kDAMP (Int32.toNatClampNeg (g 11 (Int32.toNatClampNeg a0)))) * (g 1 (Int32.toNatClampNeg a0))) g hf)

def fP_X2_backToLaid_12 (k12 : Int32 × z_G → Option (Int32 × z_G)) (x1 : Int32) (g : z_G) : Option (Int32 × z_G) := (if (g 0 4) ≤ x1 then some (0, g) else z_ck x1 64 (z_ck x1 64 (z_let (z_up g 3 (Int32.toNatClampNeg x1) (g 10 (Int32.toNatClampNeg x1))) (fun g4 => z_ck x1 64 (z_let (z_up g4 4 (Int32.toNatClampNeg x1) 0) (fun g6 => z_bind (fP_X2_dampOf x1 g6) (fun r7 g8 => z_ck x1 64 (z_let (z_up g8 5 (Int32.toNatClampNeg x1) r7) (fun g11 => z_ck x1 64 (z_let (z_up g11 6 (Int32.toNatClampNeg x1) 0) (fun g13 => z_ck x1 64 (z_let (z_up g13 7 (Int32.toNatClampNeg x1) 0) (fun g15 => z_ck x1 64 (z_ck x1 64 (z_let (z_up g15 8 (Int32.toNatClampNeg x1) (g15 13 (Int32.toNatClampNeg x1))) (fun g18 => z_ck x1 64 (z_let (z_up g18 9 (Int32.toNatClampNeg x1) 0) (fun g20 => z_ck x1 64 (z_let (z_up g20 12 (Int32.toNatClampNeg x1) (-1)) (fun g22 => z_let (x1 + 1) (fun y23 => k12 (y23, g22))))))))))))))))))))))
def fP_X2_backToLaid_12_go (x1 : Int32) (g : z_G) : Option (Int32 × z_G) := z_loop (fun k (w : Int32 × z_G) => fP_X2_backToLaid_12 k w.1 w.2) z_fuel (x1, g)
def fP_X2_backToLaid (g : z_G) : Option (Int32 × z_G) := z_let (z_up g 0 2 0) (fun g24 => z_let (z_up g24 0 3 0) (fun g25 => fP_X2_backToLaid_12_go 0 g25))
theorem nP_X2_backToLaid : yX2_backToLaid.cls = RX2 ∧ yX2_backToLaid.cls ≠ "java/lang/invoke/MethodHandle" ∧ yX2_backToLaid.cls ≠ "java/lang/invoke/VarHandle" ∧ (parseMethodDescriptor yX2_backToLaid.desc).map (fun d => d.parameters.length) = some 0 := by decide +kernel
set_option maxRecDepth 100000 in
set_option maxHeartbeats 4000000 in
theorem cP_X2_backToLaid (l : Launch) (dC : Nat → ClassId) (dI : Nat → Nat → Nat) (ca : Nat → ClassId) (q : Nat → Nat) (tt : Nat → Nat) (g : z_G) (r : Int32) (g' : z_G) (hf : fP_X2_backToLaid g = some (r, g')) : z_C l yX2_backToLaid wsX2_backToLaid { frames := 1, cells := 0, slots := 0, locals := 21 } (dC, dI) (tyP ca) (wP ca q) (zY tt) [.ref (q 0)] g none g' := by
  refine z_enter (wP_ok ca q) (zY_ok tt) (by decide +kernel) rfl (Nat.le_of_ble_eq_true rfl) (fun J hC => ?_)
  have hC : z_Cx J l cX2_backToLaid 2 wsX2_backToLaid RX2 none { frames := 1, cells := 0, slots := 0, locals := 21 } (dC, dI) (tyP ca) (wP ca q) (zY tt) (z_QI (dC, dI) (tyP ca) (wP ca q) none g') z_X0 := hC
  show J 0 [(0, .ref (q 0))] [] g
  have hX2 : ∀ w ∈ wsX20, w ∈ wsX2_backToLaid := fun _ h => List.mem_cons_of_mem _ (List.mem_append_right _ (h))
  have hJ12 : ∀ (x1 : Int32) (g : z_G), fP_X2_backToLaid_12_go x1 g = some (r, g') → J 12 [(0, .ref (q 0)), (1, .int x1)] [] g := by
    intro x1 g hf
    refine z_loopE (P := fun w : Int32 × z_G => J 12 [(0, .ref (q 0)), (1, .int w.1)] [] w.2) (fun k12 hk12 w hf => ?_) z_fuel (x1, g) hf
    obtain ⟨x1, g⟩ := w
    have hf : fP_X2_backToLaid_12 k12 x1 g = some (r, g') := hf
    show J 12 [(0, .ref (q 0)), (1, .int x1)] [] g
    unfold fP_X2_backToLaid_12 at hf
    refine zj_iload_n 1 hC dX2_backToLaid_12 rfl ?_
    refine zj_aload_n 0 hC dX2_backToLaid_13 rfl ?_
    refine pg_0_4 hC hX2 (List.mem_of_getElem? (i := 3) rfl) dX2_backToLaid_14 ?_
    refine zj_icmp_ge 96 hC dX2_backToLaid_17 (by decide) (fun c1 => ?_) (fun c1 => ?_)
    · have hf := z_iteT hf c1
      exact zj_vreturn hC hf dX2_backToLaid_96
    · have hf := z_iteF hf c1
      refine zj_aload_n 0 hC dX2_backToLaid_20 rfl ?_
      refine pg_0_7 hC hX2 (List.mem_of_getElem? (i := 4) rfl) dX2_backToLaid_21 ?_
      refine zj_iload_n 1 hC dX2_backToLaid_24 rfl ?_
      refine zj_aload_n 0 hC dX2_backToLaid_25 rfl ?_
      refine pg_0_14 hC hX2 (List.mem_of_getElem? (i := 5) rfl) dX2_backToLaid_26 ?_
      refine zj_iload_n 1 hC dX2_backToLaid_29 rfl ?_
      obtain ⟨hq2, hf⟩ := z_ckE hf
      refine pa_10 hC hq2 dX2_backToLaid_30 ?_
      obtain ⟨hq3, hf⟩ := z_ckE hf
      refine ps_3 hC hq3 dX2_backToLaid_31 (fun g4 eg4 => ?_)
      have hf := z_letE hf eg4
      refine zj_aload_n 0 hC dX2_backToLaid_32 rfl ?_
      refine pg_0_8 hC hX2 (List.mem_of_getElem? (i := 6) rfl) dX2_backToLaid_33 ?_
      refine zj_iload_n 1 hC dX2_backToLaid_36 rfl ?_
      refine zj_iconst (v := 0) hC dX2_backToLaid_37 (by decide) ?_
      obtain ⟨hq5, hf⟩ := z_ckE hf
      refine ps_4 hC hq5 dX2_backToLaid_38 (fun g6 eg6 => ?_)
      have hf := z_letE hf eg6
      refine zj_aload_n 0 hC dX2_backToLaid_39 rfl ?_
      refine pg_0_9 hC hX2 (List.mem_of_getElem? (i := 7) rfl) dX2_backToLaid_40 ?_
      refine zj_iload_n 1 hC dX2_backToLaid_43 rfl ?_
      refine zj_aload_n 0 hC dX2_backToLaid_44 rfl ?_
      refine zj_iload_n 1 hC dX2_backToLaid_45 rfl ?_
      obtain ⟨r7, g8, hq9, hf⟩ := z_bindE hf
      refine zj_callVi [.int x1] hC (cP_X2_dampOf l dC dI ca q tt x1 g6 r7 g8 hq9) gX2_backToLaid_X2_dampOf rfl nP_X2_dampOf ⟨Nat.le_of_ble_eq_true rfl, Nat.le_of_ble_eq_true rfl⟩ 0 po_0 rfl rfl rfl (Nat.le_of_ble_eq_true rfl) dX2_backToLaid_46 rfl ?_
      obtain ⟨hq10, hf⟩ := z_ckE hf
      refine ps_5 hC hq10 dX2_backToLaid_49 (fun g11 eg11 => ?_)
      have hf := z_letE hf eg11
      refine zj_aload_n 0 hC dX2_backToLaid_50 rfl ?_
      refine pg_0_10 hC hX2 (List.mem_of_getElem? (i := 8) rfl) dX2_backToLaid_51 ?_
      refine zj_iload_n 1 hC dX2_backToLaid_54 rfl ?_
      refine zj_iconst (v := 0) hC dX2_backToLaid_55 (by decide) ?_
      obtain ⟨hq12, hf⟩ := z_ckE hf
      refine ps_6 hC hq12 dX2_backToLaid_56 (fun g13 eg13 => ?_)
      have hf := z_letE hf eg13
      refine zj_aload_n 0 hC dX2_backToLaid_57 rfl ?_
      refine pg_0_11 hC hX2 (List.mem_of_getElem? (i := 9) rfl) dX2_backToLaid_58 ?_
      refine zj_iload_n 1 hC dX2_backToLaid_61 rfl ?_
      refine zj_iconst (v := 0) hC dX2_backToLaid_62 (by decide) ?_
      obtain ⟨hq14, hf⟩ := z_ckE hf
      refine ps_7 hC hq14 dX2_backToLaid_63 (fun g15 eg15 => ?_)
      have hf := z_letE hf eg15
      refine zj_aload_n 0 hC dX2_backToLaid_64 rfl ?_
      refine pg_0_12 hC hX2 (List.mem_of_getElem? (i := 10) rfl) dX2_backToLaid_65 ?_
      refine zj_iload_n 1 hC dX2_backToLaid_68 rfl ?_
      refine zj_aload_n 0 hC dX2_backToLaid_69 rfl ?_
      refine pg_0_17 hC hX2 (List.mem_of_getElem? (i := 11) rfl) dX2_backToLaid_70 ?_
      refine zj_iload_n 1 hC dX2_backToLaid_73 rfl ?_
      obtain ⟨hq16, hf⟩ := z_ckE hf
      refine pa_13 hC hq16 dX2_backToLaid_74 ?_
      obtain ⟨hq17, hf⟩ := z_ckE hf
      refine ps_8 hC hq17 dX2_backToLaid_75 (fun g18 eg18 => ?_)
      have hf := z_letE hf eg18
      refine zj_aload_n 0 hC dX2_backToLaid_76 rfl ?_
      refine pg_0_13 hC hX2 (List.mem_of_getElem? (i := 12) rfl) dX2_backToLaid_77 ?_
      refine zj_iload_n 1 hC dX2_backToLaid_80 rfl ?_
      refine zj_iconst (v := 0) hC dX2_backToLaid_81 (by decide) ?_
      obtain ⟨hq19, hf⟩ := z_ckE hf
      refine ps_9 hC hq19 dX2_backToLaid_82 (fun g20 eg20 => ?_)
      have hf := z_letE hf eg20
      refine zj_aload_n 0 hC dX2_backToLaid_83 rfl ?_
      refine pg_0_16 hC hX2 (List.mem_of_getElem? (i := 13) rfl) dX2_backToLaid_84 ?_
      refine zj_iload_n 1 hC dX2_backToLaid_87 rfl ?_
      refine zj_iconst (v := (-1)) hC dX2_backToLaid_88 (by decide) ?_
      obtain ⟨hq21, hf⟩ := z_ckE hf
      refine ps_12 hC hq21 dX2_backToLaid_89 (fun g22 eg22 => ?_)
      have hf := z_letE hf eg22
      refine zj_iinc (lv1 := fun v => [(1, .int v), (0, .ref (q 0))]) 1 hC dX2_backToLaid_90 rfl (by decide) (fun _ => rfl) (fun y23 ey23 => ?_)
      have hf := z_letE hf (show y23 = x1 + 1 from ey23)
      refine zj_goto 12 hC dX2_backToLaid_93 (by decide) ?_
      exact zj_sub hC [1, 0] rfl (hk12 (y23, g22) hf)
  unfold fP_X2_backToLaid at hf
  refine zj_aload_n 0 hC dX2_backToLaid_0 rfl ?_
  refine zj_iconst (v := 0) hC dX2_backToLaid_1 (by decide) ?_
  refine pp_0_2 hC hX2 (List.mem_of_getElem? (i := 1) rfl) dX2_backToLaid_2 (fun g24 eg24 => ?_)
  have hf := z_letE hf eg24
  refine zj_aload_n 0 hC dX2_backToLaid_5 rfl ?_
  refine zj_iconst (v := 0) hC dX2_backToLaid_6 (by decide) ?_
  refine pp_0_3 hC hX2 (List.mem_of_getElem? (i := 2) rfl) dX2_backToLaid_7 (fun g25 eg25 => ?_)
  have hf := z_letE hf eg25
  refine zj_iconst (v := 0) hC dX2_backToLaid_10 (by decide) ?_
  refine zj_istore_n (lv1 := [(1, .int 0), (0, .ref (q 0))]) hC dX2_backToLaid_11 (by decide) rfl ?_
  exact zj_sub hC [1, 0] rfl (hJ12 0 g25 hf)

def fP_J7_fill_53178_r10_5 (k5 : Int32 × Int32 × Int32 × z_G → Option (Int32 × z_G)) (x1 : Int32) (x2 : Int32) (x3 : Int32) (g : z_G) : Option (Int32 × z_G) := (if x3 ≤ x2 then some (0, g) else z_ck x2 64 (z_let (z_up g 10 (Int32.toNatClampNeg x2) x1) (fun g3 => z_let (x2 + 1) (fun y4 => k5 (x1, y4, x3, g3)))))
def fP_J7_fill_53178_r10_5_go (x1 : Int32) (x2 : Int32) (x3 : Int32) (g : z_G) : Option (Int32 × z_G) := z_loop (fun k (w : Int32 × Int32 × Int32 × z_G) => fP_J7_fill_53178_r10_5 k w.1 w.2.1 w.2.2.1 w.2.2.2) z_fuel (x1, x2, x3, g)
def fP_J7_fill_53178_r10 (a1 : Int32) (g : z_G) : Option (Int32 × z_G) := fP_J7_fill_53178_r10_5_go a1 0 64 g
theorem nP_J7_fill_53178_r10 : yJ7_fill_53178.cls ≠ "java/lang/invoke/MethodHandle" ∧ yJ7_fill_53178.cls ≠ "java/lang/invoke/VarHandle" ∧ (parseMethodDescriptor yJ7_fill_53178.desc).map (fun d => d.parameters.length) = some 2 := by decide +kernel
set_option maxRecDepth 100000 in
set_option maxHeartbeats 4000000 in
theorem cP_J7_fill_53178_r10 (l : Launch) (dC : Nat → ClassId) (dI : Nat → Nat → Nat) (ca : Nat → ClassId) (q : Nat → Nat) (tt : Nat → Nat) (a1 : Int32) (g : z_G) (r : Int32) (g' : z_G) (hf : fP_J7_fill_53178_r10 a1 g = some (r, g')) : z_C l yJ7_fill_53178 wsJ7_fill_53178 { frames := 0, cells := 0, slots := 0, locals := 0 } (dC, dI) (tyP ca) (wP ca q) (zY tt) [.ref (q 10), .int a1] g none g' := by
  refine z_enter (wP_ok ca q) (zY_ok tt) (by decide +kernel) rfl (Nat.le_of_ble_eq_true rfl) (fun J hC => ?_)
  have hC : z_Cx J l cJ7_fill_53178 4 wsJ7_fill_53178 RJ7 none { frames := 0, cells := 0, slots := 0, locals := 0 } (dC, dI) (tyP ca) (wP ca q) (zY tt) (z_QI (dC, dI) (tyP ca) (wP ca q) none g') z_X0 := hC
  show J 0 [(0, .ref (q 10)), (1, .int a1)] [] g
  have hJ5 : ∀ (x1 : Int32) (x2 : Int32) (x3 : Int32) (g : z_G), fP_J7_fill_53178_r10_5_go x1 x2 x3 g = some (r, g') → J 5 [(0, .ref (q 10)), (1, .int x1), (2, .int x2), (3, .int x3)] [] g := by
    intro x1 x2 x3 g hf
    refine z_loopE (P := fun w : Int32 × Int32 × Int32 × z_G => J 5 [(0, .ref (q 10)), (1, .int w.1), (2, .int w.2.1), (3, .int w.2.2.1)] [] w.2.2.2) (fun k5 hk5 w hf => ?_) z_fuel (x1, x2, x3, g) hf
    obtain ⟨x1, x2, x3, g⟩ := w
    have hf : fP_J7_fill_53178_r10_5 k5 x1 x2 x3 g = some (r, g') := hf
    show J 5 [(0, .ref (q 10)), (1, .int x1), (2, .int x2), (3, .int x3)] [] g
    unfold fP_J7_fill_53178_r10_5 at hf
    refine zj_iload_n 2 hC dJ7_fill_53178_5 rfl ?_
    refine zj_iload_n 3 hC dJ7_fill_53178_6 rfl ?_
    refine zj_icmp_ge 20 hC dJ7_fill_53178_7 (by decide) (fun c1 => ?_) (fun c1 => ?_)
    · have hf := z_iteT hf c1
      exact zj_vreturn hC hf dJ7_fill_53178_20
    · have hf := z_iteF hf c1
      refine zj_aload_n 0 hC dJ7_fill_53178_10 rfl ?_
      refine zj_iload_n 2 hC dJ7_fill_53178_11 rfl ?_
      refine zj_iload_n 1 hC dJ7_fill_53178_12 rfl ?_
      obtain ⟨hq2, hf⟩ := z_ckE hf
      refine ps_10 hC hq2 dJ7_fill_53178_13 (fun g3 eg3 => ?_)
      have hf := z_letE hf eg3
      refine zj_iinc (lv1 := fun v => [(2, .int v), (0, .ref (q 10)), (1, .int x1), (3, .int x3)]) 2 hC dJ7_fill_53178_14 rfl (by decide) (fun _ => rfl) (fun y4 ey4 => ?_)
      have hf := z_letE hf (show y4 = x2 + 1 from ey4)
      refine zj_goto 5 hC dJ7_fill_53178_17 (by decide) ?_
      exact zj_sub hC [1, 2, 0, 3] rfl (hk5 (x1, y4, x3, g3) hf)
  unfold fP_J7_fill_53178_r10 at hf
  refine zj_iconst (v := 0) hC dJ7_fill_53178_0 (by decide) ?_
  refine zj_istore_n (lv1 := [(2, .int 0), (0, .ref (q 10)), (1, .int a1)]) hC dJ7_fill_53178_1 (by decide) rfl ?_
  refine zj_aload_n 1 hC dJ7_fill_53178_2 rfl ?_
  refine pl_10 hC dJ7_fill_53178_3 ?_
  refine zj_istore_n (lv1 := [(3, .int 64), (2, .int 0), (0, .ref (q 10)), (1, .int a1)]) hC dJ7_fill_53178_4 (by decide) rfl ?_
  exact zj_sub hC [2, 3, 1, 0] rfl (hJ5 a1 0 64 g hf)

def fP_J7_fill_53178_r11_5 (k5 : Int32 × Int32 × Int32 × z_G → Option (Int32 × z_G)) (x1 : Int32) (x2 : Int32) (x3 : Int32) (g : z_G) : Option (Int32 × z_G) := (if x3 ≤ x2 then some (0, g) else z_ck x2 64 (z_let (z_up g 11 (Int32.toNatClampNeg x2) x1) (fun g3 => z_let (x2 + 1) (fun y4 => k5 (x1, y4, x3, g3)))))
def fP_J7_fill_53178_r11_5_go (x1 : Int32) (x2 : Int32) (x3 : Int32) (g : z_G) : Option (Int32 × z_G) := z_loop (fun k (w : Int32 × Int32 × Int32 × z_G) => fP_J7_fill_53178_r11_5 k w.1 w.2.1 w.2.2.1 w.2.2.2) z_fuel (x1, x2, x3, g)
def fP_J7_fill_53178_r11 (a1 : Int32) (g : z_G) : Option (Int32 × z_G) := fP_J7_fill_53178_r11_5_go a1 0 64 g
theorem nP_J7_fill_53178_r11 : yJ7_fill_53178.cls ≠ "java/lang/invoke/MethodHandle" ∧ yJ7_fill_53178.cls ≠ "java/lang/invoke/VarHandle" ∧ (parseMethodDescriptor yJ7_fill_53178.desc).map (fun d => d.parameters.length) = some 2 := by decide +kernel
set_option maxRecDepth 100000 in
set_option maxHeartbeats 4000000 in
theorem cP_J7_fill_53178_r11 (l : Launch) (dC : Nat → ClassId) (dI : Nat → Nat → Nat) (ca : Nat → ClassId) (q : Nat → Nat) (tt : Nat → Nat) (a1 : Int32) (g : z_G) (r : Int32) (g' : z_G) (hf : fP_J7_fill_53178_r11 a1 g = some (r, g')) : z_C l yJ7_fill_53178 wsJ7_fill_53178 { frames := 0, cells := 0, slots := 0, locals := 0 } (dC, dI) (tyP ca) (wP ca q) (zY tt) [.ref (q 11), .int a1] g none g' := by
  refine z_enter (wP_ok ca q) (zY_ok tt) (by decide +kernel) rfl (Nat.le_of_ble_eq_true rfl) (fun J hC => ?_)
  have hC : z_Cx J l cJ7_fill_53178 4 wsJ7_fill_53178 RJ7 none { frames := 0, cells := 0, slots := 0, locals := 0 } (dC, dI) (tyP ca) (wP ca q) (zY tt) (z_QI (dC, dI) (tyP ca) (wP ca q) none g') z_X0 := hC
  show J 0 [(0, .ref (q 11)), (1, .int a1)] [] g
  have hJ5 : ∀ (x1 : Int32) (x2 : Int32) (x3 : Int32) (g : z_G), fP_J7_fill_53178_r11_5_go x1 x2 x3 g = some (r, g') → J 5 [(0, .ref (q 11)), (1, .int x1), (2, .int x2), (3, .int x3)] [] g := by
    intro x1 x2 x3 g hf
    refine z_loopE (P := fun w : Int32 × Int32 × Int32 × z_G => J 5 [(0, .ref (q 11)), (1, .int w.1), (2, .int w.2.1), (3, .int w.2.2.1)] [] w.2.2.2) (fun k5 hk5 w hf => ?_) z_fuel (x1, x2, x3, g) hf
    obtain ⟨x1, x2, x3, g⟩ := w
    have hf : fP_J7_fill_53178_r11_5 k5 x1 x2 x3 g = some (r, g') := hf
    show J 5 [(0, .ref (q 11)), (1, .int x1), (2, .int x2), (3, .int x3)] [] g
    unfold fP_J7_fill_53178_r11_5 at hf
    refine zj_iload_n 2 hC dJ7_fill_53178_5 rfl ?_
    refine zj_iload_n 3 hC dJ7_fill_53178_6 rfl ?_
    refine zj_icmp_ge 20 hC dJ7_fill_53178_7 (by decide) (fun c1 => ?_) (fun c1 => ?_)
    · have hf := z_iteT hf c1
      exact zj_vreturn hC hf dJ7_fill_53178_20
    · have hf := z_iteF hf c1
      refine zj_aload_n 0 hC dJ7_fill_53178_10 rfl ?_
      refine zj_iload_n 2 hC dJ7_fill_53178_11 rfl ?_
      refine zj_iload_n 1 hC dJ7_fill_53178_12 rfl ?_
      obtain ⟨hq2, hf⟩ := z_ckE hf
      refine ps_11 hC hq2 dJ7_fill_53178_13 (fun g3 eg3 => ?_)
      have hf := z_letE hf eg3
      refine zj_iinc (lv1 := fun v => [(2, .int v), (0, .ref (q 11)), (1, .int x1), (3, .int x3)]) 2 hC dJ7_fill_53178_14 rfl (by decide) (fun _ => rfl) (fun y4 ey4 => ?_)
      have hf := z_letE hf (show y4 = x2 + 1 from ey4)
      refine zj_goto 5 hC dJ7_fill_53178_17 (by decide) ?_
      exact zj_sub hC [1, 2, 0, 3] rfl (hk5 (x1, y4, x3, g3) hf)
  unfold fP_J7_fill_53178_r11 at hf
  refine zj_iconst (v := 0) hC dJ7_fill_53178_0 (by decide) ?_
  refine zj_istore_n (lv1 := [(2, .int 0), (0, .ref (q 11)), (1, .int a1)]) hC dJ7_fill_53178_1 (by decide) rfl ?_
  refine zj_aload_n 1 hC dJ7_fill_53178_2 rfl ?_
  refine pl_11 hC dJ7_fill_53178_3 ?_
  refine zj_istore_n (lv1 := [(3, .int 64), (2, .int 0), (0, .ref (q 11)), (1, .int a1)]) hC dJ7_fill_53178_4 (by decide) rfl ?_
  exact zj_sub hC [2, 3, 1, 0] rfl (hJ5 a1 0 64 g hf)

def fP_J7_fill_53178_r13_5 (k5 : Int32 × Int32 × Int32 × z_G → Option (Int32 × z_G)) (x1 : Int32) (x2 : Int32) (x3 : Int32) (g : z_G) : Option (Int32 × z_G) := (if x3 ≤ x2 then some (0, g) else z_ck x2 64 (z_let (z_up g 13 (Int32.toNatClampNeg x2) x1) (fun g3 => z_let (x2 + 1) (fun y4 => k5 (x1, y4, x3, g3)))))
def fP_J7_fill_53178_r13_5_go (x1 : Int32) (x2 : Int32) (x3 : Int32) (g : z_G) : Option (Int32 × z_G) := z_loop (fun k (w : Int32 × Int32 × Int32 × z_G) => fP_J7_fill_53178_r13_5 k w.1 w.2.1 w.2.2.1 w.2.2.2) z_fuel (x1, x2, x3, g)
def fP_J7_fill_53178_r13 (a1 : Int32) (g : z_G) : Option (Int32 × z_G) := fP_J7_fill_53178_r13_5_go a1 0 64 g
theorem nP_J7_fill_53178_r13 : yJ7_fill_53178.cls ≠ "java/lang/invoke/MethodHandle" ∧ yJ7_fill_53178.cls ≠ "java/lang/invoke/VarHandle" ∧ (parseMethodDescriptor yJ7_fill_53178.desc).map (fun d => d.parameters.length) = some 2 := by decide +kernel
set_option maxRecDepth 100000 in
set_option maxHeartbeats 4000000 in
theorem cP_J7_fill_53178_r13 (l : Launch) (dC : Nat → ClassId) (dI : Nat → Nat → Nat) (ca : Nat → ClassId) (q : Nat → Nat) (tt : Nat → Nat) (a1 : Int32) (g : z_G) (r : Int32) (g' : z_G) (hf : fP_J7_fill_53178_r13 a1 g = some (r, g')) : z_C l yJ7_fill_53178 wsJ7_fill_53178 { frames := 0, cells := 0, slots := 0, locals := 0 } (dC, dI) (tyP ca) (wP ca q) (zY tt) [.ref (q 13), .int a1] g none g' := by
  refine z_enter (wP_ok ca q) (zY_ok tt) (by decide +kernel) rfl (Nat.le_of_ble_eq_true rfl) (fun J hC => ?_)
  have hC : z_Cx J l cJ7_fill_53178 4 wsJ7_fill_53178 RJ7 none { frames := 0, cells := 0, slots := 0, locals := 0 } (dC, dI) (tyP ca) (wP ca q) (zY tt) (z_QI (dC, dI) (tyP ca) (wP ca q) none g') z_X0 := hC
  show J 0 [(0, .ref (q 13)), (1, .int a1)] [] g
  have hJ5 : ∀ (x1 : Int32) (x2 : Int32) (x3 : Int32) (g : z_G), fP_J7_fill_53178_r13_5_go x1 x2 x3 g = some (r, g') → J 5 [(0, .ref (q 13)), (1, .int x1), (2, .int x2), (3, .int x3)] [] g := by
    intro x1 x2 x3 g hf
    refine z_loopE (P := fun w : Int32 × Int32 × Int32 × z_G => J 5 [(0, .ref (q 13)), (1, .int w.1), (2, .int w.2.1), (3, .int w.2.2.1)] [] w.2.2.2) (fun k5 hk5 w hf => ?_) z_fuel (x1, x2, x3, g) hf
    obtain ⟨x1, x2, x3, g⟩ := w
    have hf : fP_J7_fill_53178_r13_5 k5 x1 x2 x3 g = some (r, g') := hf
    show J 5 [(0, .ref (q 13)), (1, .int x1), (2, .int x2), (3, .int x3)] [] g
    unfold fP_J7_fill_53178_r13_5 at hf
    refine zj_iload_n 2 hC dJ7_fill_53178_5 rfl ?_
    refine zj_iload_n 3 hC dJ7_fill_53178_6 rfl ?_
    refine zj_icmp_ge 20 hC dJ7_fill_53178_7 (by decide) (fun c1 => ?_) (fun c1 => ?_)
    · have hf := z_iteT hf c1
      exact zj_vreturn hC hf dJ7_fill_53178_20
    · have hf := z_iteF hf c1
      refine zj_aload_n 0 hC dJ7_fill_53178_10 rfl ?_
      refine zj_iload_n 2 hC dJ7_fill_53178_11 rfl ?_
      refine zj_iload_n 1 hC dJ7_fill_53178_12 rfl ?_
      obtain ⟨hq2, hf⟩ := z_ckE hf
      refine ps_13 hC hq2 dJ7_fill_53178_13 (fun g3 eg3 => ?_)
      have hf := z_letE hf eg3
      refine zj_iinc (lv1 := fun v => [(2, .int v), (0, .ref (q 13)), (1, .int x1), (3, .int x3)]) 2 hC dJ7_fill_53178_14 rfl (by decide) (fun _ => rfl) (fun y4 ey4 => ?_)
      have hf := z_letE hf (show y4 = x2 + 1 from ey4)
      refine zj_goto 5 hC dJ7_fill_53178_17 (by decide) ?_
      exact zj_sub hC [1, 2, 0, 3] rfl (hk5 (x1, y4, x3, g3) hf)
  unfold fP_J7_fill_53178_r13 at hf
  refine zj_iconst (v := 0) hC dJ7_fill_53178_0 (by decide) ?_
  refine zj_istore_n (lv1 := [(2, .int 0), (0, .ref (q 13)), (1, .int a1)]) hC dJ7_fill_53178_1 (by decide) rfl ?_
  refine zj_aload_n 1 hC dJ7_fill_53178_2 rfl ?_
  refine pl_13 hC dJ7_fill_53178_3 ?_
  refine zj_istore_n (lv1 := [(3, .int 64), (2, .int 0), (0, .ref (q 13)), (1, .int a1)]) hC dJ7_fill_53178_4 (by decide) rfl ?_
  exact zj_sub hC [2, 3, 1, 0] rfl (hJ5 a1 0 64 g hf)

def fP_X2_build_116 (k54 : Int32 × Int32 × z_G → Option (Int32 × z_G)) (s0 : Int32) (s1 : Int32) (x3 : Int32) (x4 : Int32) (g : z_G) : Option (Int32 × z_G) := z_ck s1 64 (z_let (z_up g 2 (Int32.toNatClampNeg s1) (vp_nar .boolean s0)) (fun g2 => z_let (x4 + 1) (fun y3 => k54 (x3, y3, g2))))
def fP_X2_build_111 (k54 : Int32 × Int32 × z_G → Option (Int32 × z_G)) (s0 : Int32) (x3 : Int32) (x4 : Int32) (g : z_G) : Option (Int32 × z_G) := fP_X2_build_116 k54 1 s0 x3 x4 g
def fP_X2_build_54 (k43 : Int32 × z_G → Option (Int32 × z_G)) (k54 : Int32 × Int32 × z_G → Option (Int32 × z_G)) (x3 : Int32) (x4 : Int32) (g : z_G) : Option (Int32 × z_G) := (if (g 0 1) ≤ x4 then z_let (x3 + 1) (fun y5 => k43 (y5, g)) else z_bind (fP_X2_at x3 x4 g) (fun r6 g7 => z_ck r6 64 (z_let (z_up g7 1 (Int32.toNatClampNeg r6) ((2 * x3) + 1)) (fun g10 => (if x3 = ((g10 0 0) - 1) then fP_X2_build_111 k54 r6 x3 x4 g10 else (if x4 = ((g10 0 1) - 1) then fP_X2_build_111 k54 r6 x3 x4 g10 else fP_X2_build_116 k54 0 r6 x3 x4 g10))))))
def fP_X2_build_54_go (k43 : Int32 × z_G → Option (Int32 × z_G)) (x3 : Int32) (x4 : Int32) (g : z_G) : Option (Int32 × z_G) := z_loop (fun k (w : Int32 × Int32 × z_G) => fP_X2_build_54 k43 k w.1 w.2.1 w.2.2) z_fuel (x3, x4, g)
def fP_X2_build_43 (k43 : Int32 × z_G → Option (Int32 × z_G)) (x3 : Int32) (g : z_G) : Option (Int32 × z_G) := (if (g 0 0) ≤ x3 then z_bind (fP_X2_backToLaid g) (fun r14 g15 => some (0, g15)) else fP_X2_build_54_go k43 x3 0 g)
def fP_X2_build_43_go (x3 : Int32) (g : z_G) : Option (Int32 × z_G) := z_loop (fun k (w : Int32 × z_G) => fP_X2_build_43 k w.1 w.2) z_fuel (x3, g)
def fP_X2_build (a0 : Int32) (a1 : Int32) (g : z_G) : Option (Int32 × z_G) := z_let (z_up g 0 0 a0) (fun g17 => z_let (z_up g17 0 1 a1) (fun g18 => z_let (z_up g18 0 4 (a0 * a1)) (fun g19 => z_bind (fP_J7_fill_53178_r10 0 g19) (fun r20 g21 => z_bind (fP_J7_fill_53178_r11 0 g21) (fun r23 g24 => z_bind (fP_J7_fill_53178_r13 5 g24) (fun r26 g27 => fP_X2_build_43_go 0 g27))))))
theorem nP_X2_build : yX2_build.cls = RX2 ∧ yX2_build.cls ≠ "java/lang/invoke/MethodHandle" ∧ yX2_build.cls ≠ "java/lang/invoke/VarHandle" ∧ (parseMethodDescriptor yX2_build.desc).map (fun d => d.parameters.length) = some 2 := by decide +kernel
set_option maxRecDepth 100000 in
set_option maxHeartbeats 4000000 in
theorem cP_X2_build (l : Launch) (dC : Nat → ClassId) (dI : Nat → Nat → Nat) (ca : Nat → ClassId) (q : Nat → Nat) (tt : Nat → Nat) (a0 : Int32) (a1 : Int32) (g : z_G) (r : Int32) (g' : z_G) (hf : fP_X2_build a0 a1 g = some (r, g')) : z_C l yX2_build wsX2_build { frames := 2, cells := 0, slots := 0, locals := 42 } (dC, dI) (tyP ca) (wP ca q) (zY tt) [.ref (q 0), .int a0, .int a1] g none g' := by
  refine z_enter (wP_ok ca q) (zY_ok tt) (by decide +kernel) rfl (Nat.le_of_ble_eq_true rfl) (fun J hC => ?_)
  have hC : z_Cx J l cX2_build 6 wsX2_build RX2 none { frames := 2, cells := 0, slots := 0, locals := 42 } (dC, dI) (tyP ca) (wP ca q) (zY tt) (z_QI (dC, dI) (tyP ca) (wP ca q) none g') z_X0 := hC
  show J 0 [(0, .ref (q 0)), (1, .int a0), (2, .int a1)] [] g
  have hX2 : ∀ w ∈ wsX20, w ∈ wsX2_build := fun _ h => List.mem_cons_of_mem _ (List.mem_append_right _ (h))
  have hJ116 : ∀ (k54 : Int32 × Int32 × z_G → Option (Int32 × z_G)) (_ : ∀ w : Int32 × Int32 × z_G, k54 w = some (r, g') → J 54 [(0, .ref (q 0)), (3, .int w.1), (4, .int w.2.1)] [] w.2.2) (s0 : Int32) (s1 : Int32) (x3 : Int32) (x4 : Int32) (g : z_G), fP_X2_build_116 k54 s0 s1 x3 x4 g = some (r, g') → J 116 [(0, .ref (q 0)), (3, .int x3), (4, .int x4)] [.int s0, .int s1, .ref (q 2)] g := by
    intro k54 hk54 s0 s1 x3 x4 g hf
    unfold fP_X2_build_116 at hf
    obtain ⟨hq1, hf⟩ := z_ckE hf
    refine ps_2 hC hq1 dX2_build_116 (fun g2 eg2 => ?_)
    have hf := z_letE hf eg2
    refine zj_iinc (lv1 := fun v => [(4, .int v), (0, .ref (q 0)), (3, .int x3)]) 2 hC dX2_build_117 rfl (by decide) (fun _ => rfl) (fun y3 ey3 => ?_)
    have hf := z_letE hf (show y3 = x4 + 1 from ey3)
    refine zj_goto 54 hC dX2_build_120 (by decide) ?_
    exact zj_sub hC [1, 2, 0] rfl (hk54 (x3, y3, g2) hf)
  have hJ111 : ∀ (k54 : Int32 × Int32 × z_G → Option (Int32 × z_G)) (_ : ∀ w : Int32 × Int32 × z_G, k54 w = some (r, g') → J 54 [(0, .ref (q 0)), (3, .int w.1), (4, .int w.2.1)] [] w.2.2) (s0 : Int32) (x3 : Int32) (x4 : Int32) (g : z_G), fP_X2_build_111 k54 s0 x3 x4 g = some (r, g') → J 111 [(0, .ref (q 0)), (3, .int x3), (4, .int x4)] [.int s0, .ref (q 2)] g := by
    intro k54 hk54 s0 x3 x4 g hf
    unfold fP_X2_build_111 at hf
    refine zj_iconst (v := 1) hC dX2_build_111 (by decide) ?_
    refine zj_goto 116 hC dX2_build_112 (by decide) ?_
    exact (hJ116 k54 hk54 1 s0 x3 x4 g hf)
  have hJ54 : ∀ (k43 : Int32 × z_G → Option (Int32 × z_G)) (_ : ∀ w : Int32 × z_G, k43 w = some (r, g') → J 43 [(0, .ref (q 0)), (3, .int w.1)] [] w.2) (x3 : Int32) (x4 : Int32) (g : z_G), fP_X2_build_54_go k43 x3 x4 g = some (r, g') → J 54 [(0, .ref (q 0)), (3, .int x3), (4, .int x4)] [] g := by
    intro k43 hk43 x3 x4 g hf
    refine z_loopE (P := fun w : Int32 × Int32 × z_G => J 54 [(0, .ref (q 0)), (3, .int w.1), (4, .int w.2.1)] [] w.2.2) (fun k54 hk54 w hf => ?_) z_fuel (x3, x4, g) hf
    obtain ⟨x3, x4, g⟩ := w
    have hf : fP_X2_build_54 k43 k54 x3 x4 g = some (r, g') := hf
    show J 54 [(0, .ref (q 0)), (3, .int x3), (4, .int x4)] [] g
    unfold fP_X2_build_54 at hf
    refine zj_iload 2 hC dX2_build_54 rfl ?_
    refine zj_aload_n 0 hC dX2_build_56 rfl ?_
    refine pg_0_1 hC hX2 (List.mem_of_getElem? (i := 2) rfl) dX2_build_57 ?_
    refine zj_icmp_ge 123 hC dX2_build_60 (by decide) (fun c4 => ?_) (fun c4 => ?_)
    · have hf := z_iteT hf c4
      refine zj_iinc (lv1 := fun v => [(3, .int v), (0, .ref (q 0)), (4, .int x4)]) 1 hC dX2_build_123 rfl (by decide) (fun _ => rfl) (fun y5 ey5 => ?_)
      have hf := z_letE hf (show y5 = x3 + 1 from ey5)
      refine zj_goto 43 hC dX2_build_126 (by decide) ?_
      exact zj_sub hC [1, 0] rfl (hk43 (y5, g) hf)
    · have hf := z_iteF hf c4
      refine zj_aload_n 0 hC dX2_build_63 rfl ?_
      refine zj_iload_n 1 hC dX2_build_64 rfl ?_
      refine zj_iload 2 hC dX2_build_65 rfl ?_
      obtain ⟨r6, g7, hq8, hf⟩ := z_bindE hf
      refine zj_callVi [.int x3, .int x4] hC (cP_X2_at l dC dI ca q tt x3 x4 g r6 g7 hq8) gX2_build_X2_at rfl nP_X2_at ⟨Nat.le_of_ble_eq_true rfl, Nat.le_of_ble_eq_true rfl⟩ 0 po_0 rfl rfl rfl (Nat.le_of_ble_eq_true rfl) dX2_build_67 rfl ?_
      refine zj_istore (lv1 := [(5, .int r6), (0, .ref (q 0)), (3, .int x3), (4, .int x4)]) hC dX2_build_70 (by decide) rfl ?_
      refine zj_aload_n 1 hC dX2_build_72 rfl ?_
      refine pg_0_5 hC hX2 (List.mem_of_getElem? (i := 7) rfl) dX2_build_73 ?_
      refine zj_iload 0 hC dX2_build_76 rfl ?_
      refine zj_iconst (v := 2) hC dX2_build_78 (by decide) ?_
      refine zj_iload_n 2 hC dX2_build_79 rfl ?_
      refine zj_imul hC dX2_build_80 ?_
      refine zj_iconst (v := 1) hC dX2_build_81 (by decide) ?_
      refine zj_iadd hC dX2_build_82 ?_
      obtain ⟨hq9, hf⟩ := z_ckE hf
      refine ps_1 hC hq9 dX2_build_83 (fun g10 eg10 => ?_)
      have hf := z_letE hf eg10
      refine zj_aload_n 1 hC dX2_build_84 rfl ?_
      refine pg_0_6 hC hX2 (List.mem_of_getElem? (i := 8) rfl) dX2_build_85 ?_
      refine zj_iload 0 hC dX2_build_88 rfl ?_
      refine zj_iload_n 2 hC dX2_build_90 rfl ?_
      refine zj_aload_n 1 hC dX2_build_91 rfl ?_
      refine pg_0_0 hC hX2 (List.mem_of_getElem? (i := 1) rfl) dX2_build_92 ?_
      refine zj_iconst (v := 1) hC dX2_build_95 (by decide) ?_
      refine zj_isub hC dX2_build_96 ?_
      refine zj_icmp_eq 111 hC dX2_build_97 (by decide) (fun c11 => ?_) (fun c11 => ?_)
      · have hf := z_iteT hf c11
        exact zj_sub hC [1, 2, 3] rfl (hJ111 k54 hk54 r6 x3 x4 g10 hf)
      · have hf := z_iteF hf c11
        refine zj_iload 3 hC dX2_build_100 rfl ?_
        refine zj_aload_n 1 hC dX2_build_102 rfl ?_
        refine pg_0_1 hC hX2 (List.mem_of_getElem? (i := 2) rfl) dX2_build_103 ?_
        refine zj_iconst (v := 1) hC dX2_build_106 (by decide) ?_
        refine zj_isub hC dX2_build_107 ?_
        refine zj_icmp_ne 115 hC dX2_build_108 (by decide) (fun c12 => ?_) (fun c12 => ?_)
        · have hf := z_iteF hf c12
          refine zj_iconst (v := 0) hC dX2_build_115 (by decide) ?_
          exact zj_sub hC [1, 2, 3] rfl (hJ116 k54 hk54 0 r6 x3 x4 g10 hf)
        · have hf := z_iteT hf c12
          exact zj_sub hC [1, 2, 3] rfl (hJ111 k54 hk54 r6 x3 x4 g10 hf)
  have hJ43 : ∀ (x3 : Int32) (g : z_G), fP_X2_build_43_go x3 g = some (r, g') → J 43 [(0, .ref (q 0)), (3, .int x3)] [] g := by
    intro x3 g hf
    refine z_loopE (P := fun w : Int32 × z_G => J 43 [(0, .ref (q 0)), (3, .int w.1)] [] w.2) (fun k43 hk43 w hf => ?_) z_fuel (x3, g) hf
    obtain ⟨x3, g⟩ := w
    have hf : fP_X2_build_43 k43 x3 g = some (r, g') := hf
    show J 43 [(0, .ref (q 0)), (3, .int x3)] [] g
    unfold fP_X2_build_43 at hf
    refine zj_iload_n 1 hC dX2_build_43 rfl ?_
    refine zj_aload_n 0 hC dX2_build_44 rfl ?_
    refine pg_0_0 hC hX2 (List.mem_of_getElem? (i := 1) rfl) dX2_build_45 ?_
    refine zj_icmp_ge 129 hC dX2_build_48 (by decide) (fun c13 => ?_) (fun c13 => ?_)
    · have hf := z_iteT hf c13
      refine zj_aload_n 0 hC dX2_build_129 rfl ?_
      obtain ⟨r14, g15, hq16, hf⟩ := z_bindE hf
      refine zj_callVv [] hC (cP_X2_backToLaid l dC dI ca q tt g r14 g15 hq16) gX2_build_X2_backToLaid rfl nP_X2_backToLaid ⟨Nat.le_of_ble_eq_true rfl, Nat.le_of_ble_eq_true rfl⟩ 0 po_0 rfl rfl rfl (Nat.le_of_ble_eq_true rfl) dX2_build_130 rfl ?_
      exact zj_vreturn hC hf dX2_build_133
    · have hf := z_iteF hf c13
      refine zj_iconst (v := 0) hC dX2_build_51 (by decide) ?_
      refine zj_istore (lv1 := [(4, .int 0), (0, .ref (q 0)), (3, .int x3)]) hC dX2_build_52 (by decide) rfl ?_
      exact zj_sub hC [1, 2, 0] rfl (hJ54 k43 hk43 x3 0 g hf)
  unfold fP_X2_build at hf
  refine zj_aload_n 0 hC dX2_build_0 rfl ?_
  refine zj_iload_n 1 hC dX2_build_1 rfl ?_
  refine pp_0_0 hC hX2 (List.mem_of_getElem? (i := 1) rfl) dX2_build_2 (fun g17 eg17 => ?_)
  have hf := z_letE hf eg17
  refine zj_aload_n 0 hC dX2_build_5 rfl ?_
  refine zj_iload_n 2 hC dX2_build_6 rfl ?_
  refine pp_0_1 hC hX2 (List.mem_of_getElem? (i := 2) rfl) dX2_build_7 (fun g18 eg18 => ?_)
  have hf := z_letE hf eg18
  refine zj_aload_n 0 hC dX2_build_10 rfl ?_
  refine zj_iload_n 1 hC dX2_build_11 rfl ?_
  refine zj_iload_n 2 hC dX2_build_12 rfl ?_
  refine zj_imul hC dX2_build_13 ?_
  refine pp_0_4 hC hX2 (List.mem_of_getElem? (i := 3) rfl) dX2_build_14 (fun g19 eg19 => ?_)
  have hf := z_letE hf eg19
  refine zj_aload_n 0 hC dX2_build_17 rfl ?_
  refine pg_0_14 hC hX2 (List.mem_of_getElem? (i := 4) rfl) dX2_build_18 ?_
  refine zj_iconst (v := 0) hC dX2_build_21 (by decide) ?_
  obtain ⟨r20, g21, hq22, hf⟩ := z_bindE hf
  refine zj_callSv [.ref (q 10), .int 0] hC (cP_J7_fill_53178_r10 l dC dI ca q tt 0 g19 r20 g21 hq22) gX2_build_J7_fill_53178 rfl nP_J7_fill_53178_r10 ⟨Nat.le_of_ble_eq_true rfl, Nat.le_of_ble_eq_true rfl⟩ rfl (Nat.le_of_ble_eq_true rfl) dX2_build_22 rfl ?_
  refine zj_aload_n 0 hC dX2_build_25 rfl ?_
  refine pg_0_15 hC hX2 (List.mem_of_getElem? (i := 5) rfl) dX2_build_26 ?_
  refine zj_iconst (v := 0) hC dX2_build_29 (by decide) ?_
  obtain ⟨r23, g24, hq25, hf⟩ := z_bindE hf
  refine zj_callSv [.ref (q 11), .int 0] hC (cP_J7_fill_53178_r11 l dC dI ca q tt 0 g21 r23 g24 hq25) gX2_build_J7_fill_53178 rfl nP_J7_fill_53178_r11 ⟨Nat.le_of_ble_eq_true rfl, Nat.le_of_ble_eq_true rfl⟩ rfl (Nat.le_of_ble_eq_true rfl) dX2_build_30 rfl ?_
  refine zj_aload_n 0 hC dX2_build_33 rfl ?_
  refine pg_0_17 hC hX2 (List.mem_of_getElem? (i := 6) rfl) dX2_build_34 ?_
  refine zj_iconst (v := 5) hC dX2_build_37 (by decide) ?_
  obtain ⟨r26, g27, hq28, hf⟩ := z_bindE hf
  refine zj_callSv [.ref (q 13), .int 5] hC (cP_J7_fill_53178_r13 l dC dI ca q tt 5 g24 r26 g27 hq28) gX2_build_J7_fill_53178 rfl nP_J7_fill_53178_r13 ⟨Nat.le_of_ble_eq_true rfl, Nat.le_of_ble_eq_true rfl⟩ rfl (Nat.le_of_ble_eq_true rfl) dX2_build_38 rfl ?_
  refine zj_iconst (v := 0) hC dX2_build_41 (by decide) ?_
  refine zj_istore_n (lv1 := [(3, .int 0), (0, .ref (q 0)), (1, .int a0), (2, .int a1)]) hC dX2_build_42 (by decide) rfl ?_
  exact zj_sub hC [1, 0] rfl (hJ43 0 g27 hf)
