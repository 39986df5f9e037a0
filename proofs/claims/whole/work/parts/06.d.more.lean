section ZMORE
variable {J : Nat → List (Nat × Value) → List Value → z_G → Prop} {l : Launch} {cc : ByteArray} {nL : Nat} {Ts : List Cond} {own : String} {ret : Option FieldType} {R : Room} {D : va_G} {tys : List (ClassId × FieldType)} {Wd : z_G → va_W} {Zt : z_ZT} {QQ : List Frame → Array Value → State → State → Prop} {XX : Code → State → Prop} {g' : z_G}
variable {pc : Nat} {lv : List (Nat × Value)} {st : List Value} {g : z_G}
theorem zj_ireturn {r x : Int32} (hC : z_Cx J l cc nL Ts own (some .int) R D tys Wd Zt (z_QI D tys Wd (some r) g') XX) (hf : some (x, g) = some (r, g')) (hdg : decode cc pc = .ok (.ireturn, 1)) : J pc lv [.int x] g := by
  cases hf
  exact zj_iret hC hdg
theorem zj_zreturn {r x : Int32} (hC : z_Cx J l cc nL Ts own (some .boolean) R D tys Wd Zt (z_QI D tys Wd (some r) g') XX) (hf : z_bo x (some (x, g)) = some (r, g')) (hdg : decode cc pc = .ok (.ireturn, 1)) : J pc lv [.int x] g := by
  obtain ⟨h01, hf⟩ := z_boE hf
  cases hf
  exact zj_zret hC h01 hdg
theorem zj_breturn {r x : Int32} (hC : z_Cx J l cc nL Ts own (some .byte) R D tys Wd Zt (z_QI D tys Wd (some r) g') XX) (hf : z_bo x (some (x, g)) = some (r, g')) (hdg : decode cc pc = .ok (.ireturn, 1)) : J pc lv [.int x] g := by
  obtain ⟨h01, hf⟩ := z_boE hf
  cases hf
  obtain ⟨p, e, s, m, args, below, meth, c, rfl, hXX, hx, hb, hml, hr, hlocks, hts, hown, hK, hZ, hWd, hZt⟩ := hC
  intro H locs ls hY hl
  exact W.zret hx hb hr (by rcases h01 with h | h <;> rw [h] <;> rfl) (fun t ht hW => ⟨⟨_, _, rfl, ⟨rfl, rfl⟩, by rw [ht]; exact hY.1, va_K.moved hW.alike hK, hY.2.1⟩, hY.2.2.F ht⟩) hY.2.2.2.2 hdg hlocks
theorem zj_vreturn {r : Int32} (hC : z_Cx J l cc nL Ts own none R D tys Wd Zt (z_QI D tys Wd none g') XX) (hf : some ((0 : Int32), g) = some (r, g')) (hdg : decode cc pc = .ok (.return_, 1)) : J pc lv [] g := by
  cases hf
  exact zj_vret hC hdg
theorem zj_copy {a a0 n0 n1 index : Nat} {c0 c1 : ClassId} {f f1 : Nat → Int32} {ty : FieldType} {sp dp n : Int32} (hC : z_Cx J l cc nL Ts own ret R D tys Wd Zt QQ XX) (h1 : Cond.methodLink own index arraycopyName ∈ Ts) (h2 : Cond.native arraycopyName ∈ Ts) (h3 : Cond.static arraycopyName ∈ Ts) (h4 : Cond.initialized "java/lang/System" ∈ Ts)
    (q0 q1 t0 t1 : Nat) (ha0 : (Wd g)[q0]? = some (a0, .inl (c0, n0, .inl f))) (ha1 : (Wd g)[q1]? = some (a, .inl (c1, n1, .inl f1))) (ht0 : tys[t0]? = some (c0, ty)) (ht1 : tys[t1]? = some (c1, ty)) (hprim : refKind ty = false) (k1 : ¬ sp < 0) (k2 : ¬ dp < 0) (k3 : ¬ n < 0) (k4 : sp.toNatClampNeg + n.toNatClampNeg ≤ n0) (k5 : dp.toNatClampNeg + n.toNatClampNeg ≤ n1)
    (hfit : ∀ i, i < n.toNatClampNeg → fits ty (.int (f (sp.toNatClampNeg + i))) = true) (hfr : 1 ≤ R.frames) (hlo : (st.map fun v => v.category).sum + (nativeFrameWords "java/lang/System" "arraycopy" 5 + 11) ≤ R.locals)
    (hset : (Wd g).set q1 (a, .inl (c1, n1, .inl (va_cpy f f1 sp.toNatClampNeg dp.toNatClampNeg n.toNatClampNeg))) = Wd (z_row g q1 (va_cpy f f1 sp.toNatClampNeg dp.toNatClampNeg n.toNatClampNeg))) (hdg : decode cc pc = .ok (.invokestatic index, 3))
    (k : ∀ g1 : z_G, g1 = z_row g q1 (va_cpy f f1 sp.toNatClampNeg dp.toNatClampNeg n.toNatClampNeg) → J (pc + 3) lv st g1) : J pc lv (.int n :: .int dp :: .ref a :: .int sp :: .ref a0 :: st) g := by
  obtain ⟨p, e, s, m, args, below, meth, c, rfl, hXX, hx, hb, hml, hr, hlocks, hts, hown, hK, hZ, hWd, hZt⟩ := hC
  intro H locs ls hY hl
  exact va_copyi hx hb (by rw [hml]; exact hl.1.symm) hown (hts _ h1) (hts _ h2) (hts _ h3) (hts _ h4) hK hY.1 hY.2.1 hY.2.2 q0 q1 t0 t1 ha0 ha1 ht0 ht1 hprim k1 k2 k3 k4 k5 hfit hfr hlo hdg (fun H1 locs1 h1 h2 h3 => k _ rfl H1 locs1 ls ⟨by rw [hset] at h1; exact h1, by rw [hset] at h2; exact h2, h3⟩ hl)
end ZMORE
