set_option maxHeartbeats 8000000 in
set_option maxRecDepth 100000 in
theorem i_Tk_new {l : Launch} {D : va_G} {y : Nat → ClassId} (h0 sz : Nat) (r1 : Nat) : Met l y_cTokens_init (.code y_cTokens_init b_cTokens_init 2 none :: zt) { frames := 1, cells := 3, slots := 192, locals := 12 } (va_Pc [.ref h0, .ref r1] (fun U => U.heap.size = sz ∧ va_P D ZCL [(h0, .inr (1, [.null, .null, .null, .null, .int (zI 0)]))] U.heap ∧ va_K D ZCL (ztys y) U ∧ va_D (fun _ => True) [(h0, .inr (1, [.null, .null, .null, .null, .int (zI 0)]))])) (va_Qv (fun _ : Nat → Nat => True) (fun x t => va_P D ZCL [(h0, .inr (1, [.ref r1, .ref (x 0), .ref (x 1), .ref (x 2), .int (zI 0)])), ((x 0), .inl (y 0, 64, .inl (fun _ => zI 0))), ((x 1), .inl (y 0, 64, .inl (fun _ => zI 0))), ((x 2), .inl (y 0, 64, .inl (fun _ => zI 0)))] t.heap ∧ va_K D ZCL (ztys y) t ∧ va_D (va_A [(h0, .inr (1, [.null, .null, .null, .null, .int (zI 0)]))] sz) [(h0, .inr (1, [.ref r1, .ref (x 0), .ref (x 1), .ref (x 2), .int (zI 0)])), ((x 0), .inl (y 0, 64, .inl (fun _ => zI 0))), ((x 1), .inl (y 0, 64, .inl (fun _ => zI 0))), ((x 2), .inl (y 0, 64, .inl (fun _ => zI 0)))]) (va_A [(h0, .inr (1, [.null, .null, .null, .null, .int (zI 0)]))] sz)) 3 192 (va_A [(h0, .inr (1, [.null, .null, .null, .null, .int (zI 0)]))] sz) := by
  refine Met.ofW (cc := b_cTokens_init) (maxL := 2) (ret := none) (by decide) rfl ?_
  intro p e s m args below meth c s₁ Bd hml hv
  obtain ⟨hargs, hsz, hP, hK, hD0⟩ := hv
  have hx := Bd.exec
  have hb := Bd.bytes
  have hr := Bd.returns
  have hts0 := atoms_spec (ws := .code y_cTokens_init b_cTokens_init 2 none :: zt) Bd.pre
  have hts : ∀ w ∈ zt, w.before args s = true := fun w h => hts0 w (List.mem_cons_of_mem _ h)
  have hown : s.vm.findClass "TreeShell$Tokens" = some m.cls := findClass_of_methodNamed Bd.named
  have hlocks := Bd.notSynchronized
  have hin : meth.name = "<init>" := (name_of_methodNamed Bd.named Bd.method).1
  subst hsz
  have hD := hD0.self (sz := s.heap.size)
  generalize hAe : va_A [(h0, .inr (1, [.null, .null, .null, .null, .int (zI 0)]))] s.heap.size = A at hD ⊢
  have hA : ∀ q : Nat, s.heap.size ≤ q → A q := fun q h => by rw [← hAe]; exact Or.inr h
  have hS : va_S A s.heap s.heap [] := va_S.rf
  have hP : va_P D ZCL [(h0, .inr (1, [.null, .null, .null, .null, .int (zI 0)]))] s.heap := hP
  have hE := lg_entry_eq m ([.ref h0, .ref r1] : List Value) 2
  rw [← hargs] at hE
  rw [hE]
  have hl := lv_entry ([.ref h0, .ref r1] : List Value) (n := 2) (Nat.le_of_ble_eq_true rfl)
  generalize (lg_sl ([.ref h0, .ref r1] : List Value) ++ List.replicate (2 - (lg_sl ([.ref h0, .ref r1] : List Value)).length) Slot.unset).toArray = ls at hl ⊢
  have hl : lv_has ls 2 [(0, .ref h0), (1, .ref r1)] := hl
  generalize hH : s.heap = H at hP
  have hS : va_S A s.heap H [] := by rw [← hH]; exact hS
  refine lv_aload_n hx hb d_cTokens_init_0 rfl (lv_at hl 0 rfl) ?_
  refine W.objInit hx hb hown (hts _ w_126) (hts _ w_91) (hts _ w_92) rfl (by rw [hml]; exact hl.1) rfl d_cTokens_init_1 (Nat.le_of_ble_eq_true rfl) (Nat.le_of_ble_eq_true rfl) ?_
  refine W.eq (g2 := F0 m 4 ls []) rfl ?_
  refine lv_aload_n hx hb d_cTokens_init_4 rfl (lv_at hl 0 rfl) ?_
  refine z_bipush hx hb d_cTokens_init_5 rfl ?_
  refine z_newa_I (N := 64) hx hb (hts _ w_148) hK hP hD hS hA (by decide) (by decide) (by decide) (Nat.le_of_ble_eq_true rfl) (by show 0 + 64 ≤ 192; omega) d_cTokens_init_7 (fun q5 H hP hD hS => ?_)
  have hP : va_P D ZCL [(h0, .inr (1, [.null, .null, .null, .null, .int (zI 0)])), (q5, .inl (y 0, 64, .inl (fun _ => zI 0)))] H := hP
  have hD : va_D A [(h0, .inr (1, [.null, .null, .null, .null, .int (zI 0)])), (q5, .inl (y 0, 64, .inl (fun _ => zI 0)))] := hD
  refine W.widen (k := 1) (n := 64) (by omega) (by omega) ?_
  refine va_putF (D := D) (ci := 1) (v := .ref q5) (ty := .array .int) (C := "TreeShell$Tokens") (T := F_Tk) (N := 5) hx hb hts i_Tk t_Tk t_Tk_ok n_Tk hown hK hP hD hS 0 rfl rfl 1 (by decide) (hts _ w_129) (fun _ h9 => h9) rfl hin rfl (by decide +kernel) rfl rfl (Nat.le_of_ble_eq_true rfl) d_cTokens_init_9 (fun H locs hP hD hS => ?_)
  have hP : va_P D ZCL [(h0, .inr (1, [.null, .ref q5, .null, .null, .int (zI 0)])), (q5, .inl (y 0, 64, .inl (fun _ => zI 0)))] H := hP
  have hD : va_D A [(h0, .inr (1, [.null, .ref q5, .null, .null, .int (zI 0)])), (q5, .inl (y 0, 64, .inl (fun _ => zI 0)))] := hD
  refine lv_aload_n hx hb d_cTokens_init_12 rfl (lv_at hl 0 rfl) ?_
  refine z_bipush hx hb d_cTokens_init_13 rfl ?_
  refine z_newa_I (N := 64) hx hb (hts _ w_148) hK hP hD hS hA (by decide) (by decide) (by decide) (Nat.le_of_ble_eq_true rfl) (by show 64 + 64 ≤ 192; omega) d_cTokens_init_15 (fun q14 H hP hD hS => ?_)
  have hP : va_P D ZCL [(h0, .inr (1, [.null, .ref q5, .null, .null, .int (zI 0)])), (q5, .inl (y 0, 64, .inl (fun _ => zI 0))), (q14, .inl (y 0, 64, .inl (fun _ => zI 0)))] H := hP
  have hD : va_D A [(h0, .inr (1, [.null, .ref q5, .null, .null, .int (zI 0)])), (q5, .inl (y 0, 64, .inl (fun _ => zI 0))), (q14, .inl (y 0, 64, .inl (fun _ => zI 0)))] := hD
  refine W.widen (k := 2) (n := 128) (by omega) (by omega) ?_
  refine va_putF (D := D) (ci := 1) (v := .ref q14) (ty := .array .int) (C := "TreeShell$Tokens") (T := F_Tk) (N := 5) hx hb hts i_Tk t_Tk t_Tk_ok n_Tk hown hK hP hD hS 0 rfl rfl 2 (by decide) (hts _ w_130) (fun _ h9 => h9) rfl hin rfl (by decide +kernel) rfl rfl (Nat.le_of_ble_eq_true rfl) d_cTokens_init_17 (fun H locs hP hD hS => ?_)
  have hP : va_P D ZCL [(h0, .inr (1, [.null, .ref q5, .ref q14, .null, .int (zI 0)])), (q5, .inl (y 0, 64, .inl (fun _ => zI 0))), (q14, .inl (y 0, 64, .inl (fun _ => zI 0)))] H := hP
  have hD : va_D A [(h0, .inr (1, [.null, .ref q5, .ref q14, .null, .int (zI 0)])), (q5, .inl (y 0, 64, .inl (fun _ => zI 0))), (q14, .inl (y 0, 64, .inl (fun _ => zI 0)))] := hD
  refine lv_aload_n hx hb d_cTokens_init_20 rfl (lv_at hl 0 rfl) ?_
  refine z_bipush hx hb d_cTokens_init_21 rfl ?_
  refine z_newa_I (N := 64) hx hb (hts _ w_148) hK hP hD hS hA (by decide) (by decide) (by decide) (Nat.le_of_ble_eq_true rfl) (by show 128 + 64 ≤ 192; omega) d_cTokens_init_23 (fun q23 H hP hD hS => ?_)
  have hP : va_P D ZCL [(h0, .inr (1, [.null, .ref q5, .ref q14, .null, .int (zI 0)])), (q5, .inl (y 0, 64, .inl (fun _ => zI 0))), (q14, .inl (y 0, 64, .inl (fun _ => zI 0))), (q23, .inl (y 0, 64, .inl (fun _ => zI 0)))] H := hP
  have hD : va_D A [(h0, .inr (1, [.null, .ref q5, .ref q14, .null, .int (zI 0)])), (q5, .inl (y 0, 64, .inl (fun _ => zI 0))), (q14, .inl (y 0, 64, .inl (fun _ => zI 0))), (q23, .inl (y 0, 64, .inl (fun _ => zI 0)))] := hD
  refine W.widen (k := 3) (n := 192) (by omega) (by omega) ?_
  refine va_putF (D := D) (ci := 1) (v := .ref q23) (ty := .array .int) (C := "TreeShell$Tokens") (T := F_Tk) (N := 5) hx hb hts i_Tk t_Tk t_Tk_ok n_Tk hown hK hP hD hS 0 rfl rfl 3 (by decide) (hts _ w_132) (fun _ h9 => h9) rfl hin rfl (by decide +kernel) rfl rfl (Nat.le_of_ble_eq_true rfl) d_cTokens_init_25 (fun H locs hP hD hS => ?_)
  have hP : va_P D ZCL [(h0, .inr (1, [.null, .ref q5, .ref q14, .ref q23, .int (zI 0)])), (q5, .inl (y 0, 64, .inl (fun _ => zI 0))), (q14, .inl (y 0, 64, .inl (fun _ => zI 0))), (q23, .inl (y 0, 64, .inl (fun _ => zI 0)))] H := hP
  have hD : va_D A [(h0, .inr (1, [.null, .ref q5, .ref q14, .ref q23, .int (zI 0)])), (q5, .inl (y 0, 64, .inl (fun _ => zI 0))), (q14, .inl (y 0, 64, .inl (fun _ => zI 0))), (q23, .inl (y 0, 64, .inl (fun _ => zI 0)))] := hD
  refine lv_aload_n hx hb d_cTokens_init_28 rfl (lv_at hl 0 rfl) ?_
  refine z_iconst hx hb d_cTokens_init_29 ?_
  refine va_put (D := D) (ci := 1) (v := .int (zI 0)) (ty := .int) (C := "TreeShell$Tokens") (T := F_Tk) (N := 5) hx hb hts i_Tk t_Tk t_Tk_ok n_Tk hown hK hP hD hS 0 rfl rfl 4 (by decide) (hts _ w_134) (fun _ h9 => h9) rfl (by decide +kernel) rfl rfl (Nat.le_of_ble_eq_true rfl) d_cTokens_init_30 (fun H locs hP hD hS => ?_)
  have hP : va_P D ZCL [(h0, .inr (1, [.null, .ref q5, .ref q14, .ref q23, .int (zI 0)])), (q5, .inl (y 0, 64, .inl (fun _ => zI 0))), (q14, .inl (y 0, 64, .inl (fun _ => zI 0))), (q23, .inl (y 0, 64, .inl (fun _ => zI 0)))] H := hP
  have hD : va_D A [(h0, .inr (1, [.null, .ref q5, .ref q14, .ref q23, .int (zI 0)])), (q5, .inl (y 0, 64, .inl (fun _ => zI 0))), (q14, .inl (y 0, 64, .inl (fun _ => zI 0))), (q23, .inl (y 0, 64, .inl (fun _ => zI 0)))] := hD
  refine lv_aload_n hx hb d_cTokens_init_33 rfl (lv_at hl 0 rfl) ?_
  refine lv_aload_n hx hb d_cTokens_init_34 rfl (lv_at hl 1 rfl) ?_
  refine va_putF (D := D) (ci := 1) (v := .ref r1) (ty := .object "TreeShell$Text") (C := "TreeShell$Tokens") (T := F_Tk) (N := 5) hx hb hts i_Tk t_Tk t_Tk_ok n_Tk hown hK hP hD hS 0 rfl rfl 0 (by decide) (hts _ w_127) (fun _ h9 => h9) rfl hin rfl (by decide +kernel) rfl rfl (Nat.le_of_ble_eq_true rfl) d_cTokens_init_35 (fun H locs hP hD hS => ?_)
  have hP : va_P D ZCL [(h0, .inr (1, [.ref r1, .ref q5, .ref q14, .ref q23, .int (zI 0)])), (q5, .inl (y 0, 64, .inl (fun _ => zI 0))), (q14, .inl (y 0, 64, .inl (fun _ => zI 0))), (q23, .inl (y 0, 64, .inl (fun _ => zI 0)))] H := hP
  have hD : va_D A [(h0, .inr (1, [.ref r1, .ref q5, .ref q14, .ref q23, .int (zI 0)])), (q5, .inl (y 0, 64, .inl (fun _ => zI 0))), (q14, .inl (y 0, 64, .inl (fun _ => zI 0))), (q23, .inl (y 0, 64, .inl (fun _ => zI 0)))] := hD
  exact W.vret hx hb hr (fun t ht hW => ⟨⟨(fun i => ([q5, q14, q23] : List Nat).getD i 0), rfl, trivial, by rw [ht]; exact hP, va_K.moved hW.alike hK, hD⟩, hS.F ht⟩) hS.2.2 d_cTokens_init_38
theorem cwi_i_Tk_new {R : Room} {s : State} {args : Array Value} {own : String} {ix : Nat} (hts : ∀ w ∈ zt, w.before args s = true) (hl : (Cond.methodLink own ix y_cTokens_init).before args s = true) (h1 : 2 ≤ R.frames) (h2 : 33 ≤ R.locals) : CallB R s args own ix y_cTokens_init b_cTokens_init 2 none (.code y_cTokens_init b_cTokens_init 2 none :: zt) { frames := 1, cells := 3, slots := 192, locals := 12 } 3 192 1 ∧ y_cTokens_init.name = "<init>" ∧ (Cond.instanceMethod y_cTokens_init).before args s = true := ⟨callB_of 1 hts (zgood w_125) rfl rfl rfl (hts _ w_70) hl ⟨by decide, by decide, by decide +kernel⟩ ⟨h1, h2⟩, rfl, hts _ w_124⟩
