set_option maxHeartbeats 8000000 in
set_option maxRecDepth 100000 in
theorem i_Tx_new {l : Launch} {D : va_G} {y : Nat → ClassId} (h0 sz : Nat) (v1 : Int) (h_v1 : 0 ≤ v1 ∧ v1 ≤ 160) : Met l y_cText_init (.code y_cText_init b_cText_init 2 none :: zt) { frames := 1, cells := 1, slots := 160, locals := 12 } (va_Pc [.ref h0, .int (zI v1)] (fun U => U.heap.size = sz ∧ va_P D ZCL [(h0, .inr (7, [.null, .int (zI 0), .int (zI 0)]))] U.heap ∧ va_K D ZCL (ztys y) U ∧ va_D (fun _ => True) [(h0, .inr (7, [.null, .int (zI 0), .int (zI 0)]))])) (va_Qv (fun _ : Nat → Nat => True) (fun x t => va_P D ZCL [(h0, .inr (7, [.ref (x 0), .int (zI 0), .int (zI 0)])), ((x 0), .inl (y 1, v1.toNat, .inl (fun _ => zI 0)))] t.heap ∧ va_K D ZCL (ztys y) t ∧ va_D (va_A [(h0, .inr (7, [.null, .int (zI 0), .int (zI 0)]))] sz) [(h0, .inr (7, [.ref (x 0), .int (zI 0), .int (zI 0)])), ((x 0), .inl (y 1, v1.toNat, .inl (fun _ => zI 0)))]) (va_A [(h0, .inr (7, [.null, .int (zI 0), .int (zI 0)]))] sz)) 1 160 (va_A [(h0, .inr (7, [.null, .int (zI 0), .int (zI 0)]))] sz) := by
  refine Met.ofW (cc := b_cText_init) (maxL := 2) (ret := none) (by decide) rfl ?_
  intro p e s m args below meth c s₁ Bd hml hv
  obtain ⟨hargs, hsz, hP, hK, hD0⟩ := hv
  have hx := Bd.exec
  have hb := Bd.bytes
  have hr := Bd.returns
  have hts0 := atoms_spec (ws := .code y_cText_init b_cText_init 2 none :: zt) Bd.pre
  have hts : ∀ w ∈ zt, w.before args s = true := fun w h => hts0 w (List.mem_cons_of_mem _ h)
  have hown : s.vm.findClass "TreeShell$Text" = some m.cls := findClass_of_methodNamed Bd.named
  have hlocks := Bd.notSynchronized
  have hin : meth.name = "<init>" := (name_of_methodNamed Bd.named Bd.method).1
  subst hsz
  have hD := hD0.self (sz := s.heap.size)
  generalize hAe : va_A [(h0, .inr (7, [.null, .int (zI 0), .int (zI 0)]))] s.heap.size = A at hD ⊢
  have hA : ∀ q : Nat, s.heap.size ≤ q → A q := fun q h => by rw [← hAe]; exact Or.inr h
  have hS : va_S A s.heap s.heap [] := va_S.rf
  have hP : va_P D ZCL [(h0, .inr (7, [.null, .int (zI 0), .int (zI 0)]))] s.heap := hP
  have hE := lg_entry_eq m ([.ref h0, .int (zI v1)] : List Value) 2
  rw [← hargs] at hE
  rw [hE]
  have hl := lv_entry ([.ref h0, .int (zI v1)] : List Value) (n := 2) (Nat.le_of_ble_eq_true rfl)
  generalize (lg_sl ([.ref h0, .int (zI v1)] : List Value) ++ List.replicate (2 - (lg_sl ([.ref h0, .int (zI v1)] : List Value)).length) Slot.unset).toArray = ls at hl ⊢
  have hl : lv_has ls 2 [(0, .ref h0), (1, .int (zI v1))] := hl
  generalize hH : s.heap = H at hP
  have hS : va_S A s.heap H [] := by rw [← hH]; exact hS
  refine lv_aload_n hx hb d_cText_init_0 rfl (lv_at hl 0 rfl) ?_
  refine W.objInit hx hb hown (hts _ w_98) (hts _ w_91) (hts _ w_92) rfl (by rw [hml]; exact hl.1) rfl d_cText_init_1 (Nat.le_of_ble_eq_true rfl) (Nat.le_of_ble_eq_true rfl) ?_
  refine W.eq (g2 := F0 m 4 ls []) rfl ?_
  refine lv_aload_n hx hb d_cText_init_4 rfl (lv_at hl 0 rfl) ?_
  refine z_iconst hx hb d_cText_init_5 ?_
  refine va_put (D := D) (ci := 7) (v := .int (zI 0)) (ty := .int) (C := "TreeShell$Text") (T := F_Tx) (N := 3) hx hb hts i_Tx t_Tx t_Tx_ok n_Tx hown hK hP hD hS 0 rfl rfl 1 (by decide) (hts _ w_105) (fun _ h9 => h9) rfl (by decide +kernel) rfl rfl (Nat.le_of_ble_eq_true rfl) d_cText_init_6 (fun H locs hP hD hS => ?_)
  have hP : va_P D ZCL [(h0, .inr (7, [.null, .int (zI 0), .int (zI 0)]))] H := hP
  have hD : va_D A [(h0, .inr (7, [.null, .int (zI 0), .int (zI 0)]))] := hD
  refine lv_aload_n hx hb d_cText_init_9 rfl (lv_at hl 0 rfl) ?_
  refine z_iconst hx hb d_cText_init_10 ?_
  refine va_put (D := D) (ci := 7) (v := .int (zI 0)) (ty := .boolean) (C := "TreeShell$Text") (T := F_Tx) (N := 3) hx hb hts i_Tx t_Tx t_Tx_ok n_Tx hown hK hP hD hS 0 rfl rfl 2 (by decide) (hts _ w_111) (fun _ h9 => h9) rfl (by decide +kernel) rfl rfl (Nat.le_of_ble_eq_true rfl) d_cText_init_11 (fun H locs hP hD hS => ?_)
  have hP : va_P D ZCL [(h0, .inr (7, [.null, .int (zI 0), .int (zI 0)]))] H := hP
  have hD : va_D A [(h0, .inr (7, [.null, .int (zI 0), .int (zI 0)]))] := hD
  refine lv_aload_n hx hb d_cText_init_14 rfl (lv_at hl 0 rfl) ?_
  refine lv_iload_n hx hb d_cText_init_15 rfl (lv_at hl 1 rfl) ?_
  refine z_newa_C (N := v1.toNat) hx hb (hts _ w_120) hK hP hD hS hA (z_nn h_v1) (z_cl h_v1) (z_by h_v1) (Nat.le_of_ble_eq_true rfl) (by show 0 + v1.toNat ≤ 160; omega) d_cText_init_16 (fun q15 H hP hD hS => ?_)
  have hP : va_P D ZCL [(h0, .inr (7, [.null, .int (zI 0), .int (zI 0)])), (q15, .inl (y 1, v1.toNat, .inl (fun _ => zI 0)))] H := hP
  have hD : va_D A [(h0, .inr (7, [.null, .int (zI 0), .int (zI 0)])), (q15, .inl (y 1, v1.toNat, .inl (fun _ => zI 0)))] := hD
  refine W.widen (k := 1) (n := 160) (by omega) (by omega) ?_
  refine va_putF (D := D) (ci := 7) (v := .ref q15) (ty := .array .char) (C := "TreeShell$Text") (T := F_Tx) (N := 3) hx hb hts i_Tx t_Tx t_Tx_ok n_Tx hown hK hP hD hS 0 rfl rfl 0 (by decide) (hts _ w_99) (fun _ h9 => h9) rfl hin rfl (by decide +kernel) rfl rfl (Nat.le_of_ble_eq_true rfl) d_cText_init_18 (fun H locs hP hD hS => ?_)
  have hP : va_P D ZCL [(h0, .inr (7, [.ref q15, .int (zI 0), .int (zI 0)])), (q15, .inl (y 1, v1.toNat, .inl (fun _ => zI 0)))] H := hP
  have hD : va_D A [(h0, .inr (7, [.ref q15, .int (zI 0), .int (zI 0)])), (q15, .inl (y 1, v1.toNat, .inl (fun _ => zI 0)))] := hD
  exact W.vret hx hb hr (fun t ht hW => ⟨⟨(fun i => ([q15] : List Nat).getD i 0), rfl, trivial, by rw [ht]; exact hP, va_K.moved hW.alike hK, hD⟩, hS.F ht⟩) hS.2.2 d_cText_init_21
theorem cwi_i_Tx_new {R : Room} {s : State} {args : Array Value} {own : String} {ix : Nat} (hts : ∀ w ∈ zt, w.before args s = true) (hl : (Cond.methodLink own ix y_cText_init).before args s = true) (h1 : 2 ≤ R.frames) (h2 : 33 ≤ R.locals) : CallB R s args own ix y_cText_init b_cText_init 2 none (.code y_cText_init b_cText_init 2 none :: zt) { frames := 1, cells := 1, slots := 160, locals := 12 } 1 160 1 ∧ y_cText_init.name = "<init>" ∧ (Cond.instanceMethod y_cText_init).before args s = true := ⟨callB_of 1 hts (zgood w_97) rfl rfl rfl (hts _ w_69) hl ⟨by decide, by decide, by decide +kernel⟩ ⟨h1, h2⟩, rfl, hts _ w_96⟩
