theorem z_RA {U : State} {a b : ClassId} {ty : FieldType} (h1 : va_RA U a ty) (h2 : va_RA U b ty) : a = b := by
  cases ty with
  | object C =>
    obtain ⟨_, _, _, _, _, h3⟩ := h1
    obtain ⟨_, _, _, _, _, h4⟩ := h2
    exact Option.some.inj (h3.symm.trans h4)
  | _ => exact Option.some.inj (Eq.trans (Eq.symm h1) h2)
theorem z_ty {D : va_G} {y : Nat → ClassId} {s : State} {cA : ClassId} {ty : FieldType} {k : Nat} {b : ClassId} (hK : va_K D ZCL (ztys y) s) (hK1 : va_K D ZCL (ztys y ++ [(cA, ty)]) s) (h : (ztys y)[k]? = some (b, ty)) : cA = b := z_RA (hK1.2 5 (cA, ty) rfl).2 (hK.2 k _ h).2
theorem z_nn {v : Int} (h : 0 ≤ v ∧ v ≤ 160) : ¬ zI v < 0 := by
  rw [Int32.lt_iff_toInt_lt, zI_toInt (by omega) (by omega)]
  have : (0 : Int32).toInt = 0 := by decide
  omega
theorem z_cl {v : Int} (h : 0 ≤ v ∧ v ≤ 160) : (zI v).toNatClampNeg = v.toNat := Int32.toNatClampNeg_ofInt_of_le (by omega) (by omega)
theorem z_by {v : Int} (h : 0 ≤ v ∧ v ≤ 160) : v.toNat ≤ 4096 := by omega
theorem zI_ifmax (a b : Int) : zI (zmax a b) = if zI a < zI b then zI b else zI a := by
  unfold zmax
  by_cases h : zI a < zI b
  · rw [if_pos h, if_pos h]
  · rw [if_neg h, if_neg h]
theorem zI_ifmin (a b : Int) : zI (zmin a b) = if zI b < zI a then zI b else zI a := by
  unfold zmin
  by_cases h : zI b < zI a
  · rw [if_pos h, if_pos h]
  · rw [if_neg h, if_neg h]
theorem z_lim {a b c : Int} (hb : -2147483648 ≤ b ∧ b < 2147483648) (ha : 0 ≤ a ∧ a ≤ 160) (hc : 0 ≤ c ∧ c ≤ 160) : 0 ≤ zmax a (zmin b c) ∧ zmax a (zmin b c) ≤ 160 := by
  unfold zmax zmin
  by_cases h : zI c < zI b
  · rw [if_pos h]
    split <;> omega
  · rw [if_neg h]
    have h2 : b ≤ c := by
      rw [zI_lt (by omega) (by omega) (by omega) (by omega)] at h
      omega
    split
    · rename_i h3
      rw [zI_lt (by omega) (by omega) (by omega) (by omega)] at h3
      omega
    · omega
theorem zc_mid {a v c : Int} (hv : -2147483648 ≤ v ∧ v < 2147483648) (ha : 0 ≤ a ∧ a ≤ 160) (hc : a < c ∧ c ≤ 160) (h1 : zI a ≤ zI v) (h2 : zI v ≤ zI c) : zmax a (zmin v c) = v := by
  rw [zI_le (by omega) (by omega) (by omega) (by omega)] at h1 h2
  have e : zmin v c = v := if_neg (by rw [zI_lt (by omega) (by omega) (by omega) (by omega)]; omega)
  rw [e]
  unfold zmax
  by_cases h : a < v
  · rw [if_pos (by rw [zI_lt (by omega) (by omega) (by omega) (by omega)]; exact h)]
  · rw [if_neg (by rw [zI_lt (by omega) (by omega) (by omega) (by omega)]; exact h)]
    omega
theorem zc_hi {a v c : Int} (hv : -2147483648 ≤ v ∧ v < 2147483648) (ha : 0 ≤ a ∧ a ≤ 160) (hc : a < c ∧ c ≤ 160) (h2 : ¬ zI v ≤ zI c) : zmax a (zmin v c) = c := by
  rw [zI_le (by omega) (by omega) (by omega) (by omega)] at h2
  have e : zmin v c = c := if_pos (by rw [zI_lt (by omega) (by omega) (by omega) (by omega)]; omega)
  rw [e]
  exact if_pos (by rw [zI_lt (by omega) (by omega) (by omega) (by omega)]; omega)
theorem zc_lo {a v c : Int} (hv : -2147483648 ≤ v ∧ v < 2147483648) (ha : 0 ≤ a ∧ a ≤ 160) (hc : a < c ∧ c ≤ 160) (h1 : ¬ zI a ≤ zI v) : zmax a (zmin v c) = a := by
  rw [zI_le (by omega) (by omega) (by omega) (by omega)] at h1
  have e : zmin v c = v := if_neg (by rw [zI_lt (by omega) (by omega) (by omega) (by omega)]; omega)
  rw [e]
  exact if_neg (by rw [zI_lt (by omega) (by omega) (by omega) (by omega)]; omega)
theorem z_nr {C : String} (w : Option Nat) : narrow (.object C) (va_rf w) = va_rf w := by cases w <;> rfl
theorem z_fr {C : String} (w : Option Nat) : fits (.object C) (va_rf w) = true := by cases w <;> rfl
theorem z_ib {L : List Value} {n : Nat} {D : va_G} {y : Nat → ClassId} {ws : va_W} {A : Nat → Prop} : FrameBlind (va_Pc L (fun U => U.heap.size = n ∧ va_P D ZCL ws U.heap ∧ va_K D ZCL (ztys y) U ∧ va_D A ws)) := fun a U g mk h => ⟨h.1, h.2.1, h.2.2.1, va_K.moved (u := U) (U := U.calling g mk a) (Vm.Alike.refl U.vm) h.2.2.2.1, h.2.2.2.2⟩
theorem cp_row (u : ZC) (t p w k n : Nat) : (fun j => zI (cA (sCopy u t p w k n) 0 w j)) = va_cpy (fun j => zI (cA u 0 t j)) (fun j => zI (cA u 0 w j)) p k n := by
  funext j
  show zI (if 0 = 0 ∧ w = w ∧ k ≤ j ∧ j < k + n then u.2.2.2.1 0 t (p + (j - k)) else u.2.2.2.1 0 w j) = if k ≤ j ∧ j < k + n then zI (u.2.2.2.1 0 t (p + (j - k))) else zI (u.2.2.2.1 0 w j)
  by_cases h : k ≤ j ∧ j < k + n
  · rw [if_pos h, if_pos ⟨rfl, rfl, h⟩]
  · rw [if_neg h, if_neg (fun x => h x.2.2)]
theorem cp_else (u : ZC) (t p w k n g b : Nat) (h : b ≠ w) : (fun j => zI (cA (sCopy u t p w k n) g b j)) = fun j => zI (cA u g b j) := by
  funext j
  exact congrArg zI (if_neg (fun x => h x.2.1))
theorem zcl_n {a : Int} (h : 0 ≤ a) (h2 : a < 2147483648) : (zI a).toNatClampNeg = a.toNat := Int32.toNatClampNeg_ofInt_of_le (by omega) (by omega)
theorem znn_n {a : Int} (h : 0 ≤ a) (h2 : a < 2147483648) : ¬ zI a < 0 := by
  rw [Int32.lt_iff_toInt_lt, zI_toInt (by omega) (by omega)]
  have : (0 : Int32).toInt = 0 := by decide
  omega
theorem zfc {x : Int} (h : zch x) : fits .char (.int (zI x)) = true := by
  obtain ⟨n, rfl⟩ := Int.eq_ofNat_of_zero_le h.1
  have e : zI (n : Int) = nI n := Int32.ofInt_eq_ofNat
  rw [e]
  exact (pk_charN (q := n) (by omega)).2
theorem zo_cp {ad : Nat × Nat → Nat} {y : Nat → ClassId} {u : ZC} {r : ZR} {t p w k n : Nat} {j : Nat × Nat} (hj : j ≠ (2, w)) : zcell ad y (sCopy u t p w k n) r j = zcell ad y u r j := by
  unfold zcell; split <;> first | rfl | (rename_i t2; have ht : t2 ≠ w := fun h => hj (by rw [h]); simp only [cp_else _ _ _ _ _ _ _ _ ht] <;> rfl) | (split <;> first | rfl | simp_all)
section
variable {p : Program} {l : Launch} {e : Env} {R : Room} {s : State} {m : MethodId} {args : Array Value} {below : List Frame} {meth : Method} {c : Code} {H H0 : Heap} {locs : List Loc} {cells slots : Nat} {Q : State → Prop}
variable {cc : ByteArray} {pc : Nat} {ls : Array Slot} {rest : List Value} {α : Type} {o : α} {D : va_G} {B : Nat} {y : Nat → ClassId} {ad : Nat × Nat → Nat} {q : Bool} {u : ZC} {r : ZR}
theorem z_mmax {own : String} {ix nL : Nat} {a b : Int} (hx : p.tables.exec = Jvm.exec) (hb : c.code = cc) (hown : s.vm.findClass own = some m.cls) (hts : ∀ w ∈ zt, w.before args s = true) (hml : c.maxLocals = nL) (hfr : 1 ≤ R.frames) (hlo : 21 ≤ R.locals) (hz : ls.size = nL) (hrm : (rest.map fun v => v.category).sum ≤ 8) (hcs : cells ≤ R.cells ∧ slots ≤ R.slots) (hlk : (Cond.methodLink own ix Lib.Math.max.name).before args s = true) (hd : decode cc pc = .ok (.invokestatic ix, 3)) (k : W p l e R s m args below meth c H locs cells slots Q (F0 m (pc + 3) ls (.int (zI (zmax a b)) :: rest))) : W p l e R s m args below meth c H locs cells slots Q (F0 m (pc) ls (.int (zI b) :: .int (zI a) :: rest)) := by
  refine va_mmax hx hb (hml.trans hz.symm) hown hlk (hts _ w_171) (hts _ w_73) (hts _ w_172) hfr (by omega) hcs.1 hcs.2 hd ?_
  rw [← zI_ifmax]
  exact k
theorem z_mmin {own : String} {ix nL : Nat} {a b : Int} (hx : p.tables.exec = Jvm.exec) (hb : c.code = cc) (hown : s.vm.findClass own = some m.cls) (hts : ∀ w ∈ zt, w.before args s = true) (hml : c.maxLocals = nL) (hfr : 1 ≤ R.frames) (hlo : 21 ≤ R.locals) (hz : ls.size = nL) (hrm : (rest.map fun v => v.category).sum ≤ 8) (hcs : cells ≤ R.cells ∧ slots ≤ R.slots) (hlk : (Cond.methodLink own ix Lib.Math.min.name).before args s = true) (hd : decode cc pc = .ok (.invokestatic ix, 3)) (k : W p l e R s m args below meth c H locs cells slots Q (F0 m (pc + 3) ls (.int (zI (zmin a b)) :: rest))) : W p l e R s m args below meth c H locs cells slots Q (F0 m (pc) ls (.int (zI b) :: .int (zI a) :: rest)) := by
  refine va_mmin hx hb (hml.trans hz.symm) hown hlk (hts _ w_168) (hts _ w_73) (hts _ w_169) hfr (by omega) hcs.1 hcs.2 hd ?_
  rw [← zI_ifmin]
  exact k
theorem z_acopy {own : String} {ix nL t w : Nat} {a b n : Int} (M : ZM p c cc s args m own D y) (hW : ZW D B y ad q u r H) (hS : va_S (fun x => B ≤ x) H0 H locs) (hml : c.maxLocals = nL) (hz : ls.size = nL) (hi : (2, t) ∈ zid q u) (hj : (2, w) ∈ zid q u) (hc : zcp u t a w b n) (hfr : 1 ≤ R.frames) (hlo : 60 ≤ R.locals) (hrm : (rest.map fun v => v.category).sum ≤ 8) (hlk : (Cond.methodLink own ix arraycopyName).before args s = true) (hd : decode cc pc = .ok (.invokestatic ix, 3)) (kk : ∀ (H1 : Heap) (locs1 : List Loc), ZW D B y ad q (sCopy u t a.toNat w b.toNat n.toNat) r H1 → va_S (fun x => B ≤ x) H0 H1 locs1 → W p l e R s m args below meth c H1 locs1 cells slots Q (F0 m (pc + 3) ls (rest))) : W p l e R s m args below meth c H locs cells slots Q (F0 m (pc) ls (.int (zI n) :: .int (zI b) :: .ref (ad (2, w)) :: .int (zI a) :: .ref (ad (2, t)) :: rest)) := by
  obtain ⟨⟨h1, h2, h3⟩, ⟨h4, h5, h6, h7⟩, h8⟩ := hc
  have ea := zcl_n h1 (by omega)
  have eb := zcl_n h2 (by omega)
  have en := zcl_n h3 (by omega)
  obtain ⟨q0, g0⟩ := zw_at (ad := ad) (y := y) (r := r) hi
  obtain ⟨q1, g1⟩ := zw_at (ad := ad) (y := y) (r := r) hj
  refine va_copyi M.1 M.2.1 (hml.trans hz.symm) M.2.2.2.1 hlk (M.2.2.1 _ w_538) (M.2.2.1 _ w_537) (M.2.2.1 _ w_80) M.2.2.2.2 hW.1 hW.2 hS q0 q1 1 1 g0 g1 rfl rfl rfl (znn_n h1 (by omega)) (znn_n h2 (by omega)) (znn_n h3 (by omega)) (by rw [ea, en]; omega) (by rw [eb, en]; omega) (by rw [ea, en]; exact fun i hi => zfc (h8 i hi)) hfr (Nat.le_trans (Nat.add_le_add hrm (show nativeFrameWords "java/lang/System" "arraycopy" 5 + 11 ≤ 52 by decide)) hlo) hd (fun H1 locs1 hP hD hS => kk H1 locs1 ?_ hS)
  rw [ea, eb, en] at hP hD
  have E := zw_set (v := sCopy u t a.toNat w b.toNat n.toNat) (w := r) (e := .inl (y 1, cN u w, .inl (va_cpy (fun j => zI (cA u 0 t j)) (fun j => zI (cA u 0 w j)) a.toNat b.toNat n.toNat))) hW.2 g1 hj rfl (by show (.inl (y 1, cN u w, .inl (fun j => zI (cA (sCopy u t a.toNat w b.toNat n.toNat) 0 w j))) : va_E) = _; rw [cp_row]) (fun j _ hj => zo_cp hj)
  have hP : va_P D ZCL ((zws q ad y u r).set q1 (ad (2, w), .inl (y 1, cN u w, .inl (va_cpy (fun j => zI (cA u 0 t j)) (fun j => zI (cA u 0 w j)) a.toNat b.toNat n.toNat)))) H1 := hP
  have hD : va_D (fun x => B ≤ x) ((zws q ad y u r).set q1 (ad (2, w), .inl (y 1, cN u w, .inl (va_cpy (fun j => zI (cA u 0 t j)) (fun j => zI (cA u 0 w j)) a.toNat b.toNat n.toNat)))) := hD
  rw [E] at hP hD
  exact ⟨hP, hD⟩
end
