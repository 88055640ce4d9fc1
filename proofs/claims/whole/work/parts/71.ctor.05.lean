set_option maxHeartbeats 8000000 in
set_option maxRecDepth 100000 in
theorem i_Tr_new {l : Launch} {D : va_G} {y : Nat → ClassId} (h0 sz : Nat) (v1 v2 : Int) : Met l y_cTree_init (.code y_cTree_init b_cTree_init 3 none :: zt) { frames := 2, cells := 1, slots := 4, locals := 37 } (va_Pc [.ref h0, .int (zI v1), .int (zI v2)] (fun U => U.heap.size = sz ∧ va_P D ZCL [(h0, .inr (3, [.int (zI 0), .int (zI 0), .null, .null, .null, .int (zI 0), .int (zI 0), .null, .null, .long 0]))] U.heap ∧ va_K D ZCL (ztys y) U ∧ va_D (fun _ => True) [(h0, .inr (3, [.int (zI 0), .int (zI 0), .null, .null, .null, .int (zI 0), .int (zI 0), .null, .null, .long 0]))])) (va_Qv (fun _ : Nat → Nat => True) (fun x t => va_P D ZCL [(h0, .inr (3, [.int (zI v1), .int (zI v2), .ref (x 0), .ref (x 0), .ref (x 0), .int (zI 0), .int (zI 0), .null, .null, .long 0])), ((x 0), .inr (8, [.null, .long 0, .null, .null]))] t.heap ∧ va_K D ZCL (ztys y) t ∧ va_D (va_A [(h0, .inr (3, [.int (zI 0), .int (zI 0), .null, .null, .null, .int (zI 0), .int (zI 0), .null, .null, .long 0]))] sz) [(h0, .inr (3, [.int (zI v1), .int (zI v2), .ref (x 0), .ref (x 0), .ref (x 0), .int (zI 0), .int (zI 0), .null, .null, .long 0])), ((x 0), .inr (8, [.null, .long 0, .null, .null]))]) (va_A [(h0, .inr (3, [.int (zI 0), .int (zI 0), .null, .null, .null, .int (zI 0), .int (zI 0), .null, .null, .long 0]))] sz)) 1 4 (va_A [(h0, .inr (3, [.int (zI 0), .int (zI 0), .null, .null, .null, .int (zI 0), .int (zI 0), .null, .null, .long 0]))] sz) := by
  refine Met.ofW (cc := b_cTree_init) (maxL := 3) (ret := none) (by decide) rfl ?_
  intro p e s m args below meth c s₁ Bd hml hv
  obtain ⟨hargs, hsz, hP, hK, hD0⟩ := hv
  have hx := Bd.exec
  have hb := Bd.bytes
  have hr := Bd.returns
  have hts0 := atoms_spec (ws := .code y_cTree_init b_cTree_init 3 none :: zt) Bd.pre
  have hts : ∀ w ∈ zt, w.before args s = true := fun w h => hts0 w (List.mem_cons_of_mem _ h)
  have hown : s.vm.findClass "TreeShell$Tree" = some m.cls := findClass_of_methodNamed Bd.named
  have hlocks := Bd.notSynchronized
  have hin : meth.name = "<init>" := (name_of_methodNamed Bd.named Bd.method).1
  subst hsz
  have hD := hD0.self (sz := s.heap.size)
  generalize hAe : va_A [(h0, .inr (3, [.int (zI 0), .int (zI 0), .null, .null, .null, .int (zI 0), .int (zI 0), .null, .null, .long 0]))] s.heap.size = A at hD ⊢
  have hA : ∀ q : Nat, s.heap.size ≤ q → A q := fun q h => by rw [← hAe]; exact Or.inr h
  have hS : va_S A s.heap s.heap [] := va_S.rf
  have hP : va_P D ZCL [(h0, .inr (3, [.int (zI 0), .int (zI 0), .null, .null, .null, .int (zI 0), .int (zI 0), .null, .null, .long 0]))] s.heap := hP
  have hE := lg_entry_eq m ([.ref h0, .int (zI v1), .int (zI v2)] : List Value) 3
  rw [← hargs] at hE
  rw [hE]
  have hl := lv_entry ([.ref h0, .int (zI v1), .int (zI v2)] : List Value) (n := 3) (Nat.le_of_ble_eq_true rfl)
  generalize (lg_sl ([.ref h0, .int (zI v1), .int (zI v2)] : List Value) ++ List.replicate (3 - (lg_sl ([.ref h0, .int (zI v1), .int (zI v2)] : List Value)).length) Slot.unset).toArray = ls at hl ⊢
  have hl : lv_has ls 3 [(0, .ref h0), (1, .int (zI v1)), (2, .int (zI v2))] := hl
  generalize hH : s.heap = H at hP
  have hS : va_S A s.heap H [] := by rw [← hH]; exact hS
  refine lv_aload_n hx hb d_cTree_init_0 rfl (lv_at hl 0 rfl) ?_
  refine W.objInit hx hb hown (hts _ w_176) (hts _ w_91) (hts _ w_92) rfl (by rw [hml]; exact hl.1) rfl d_cTree_init_1 (Nat.le_of_ble_eq_true rfl) (Nat.le_of_ble_eq_true rfl) ?_
  refine W.eq (g2 := F0 m 4 ls []) rfl ?_
  refine lv_aload_n hx hb d_cTree_init_4 rfl (lv_at hl 0 rfl) ?_
  refine va_new (ci := 8) (fs := [.null, .long 0, .null, .null]) (C := "TreeShell$Node") (T := F_No) (N := 4) hx hb hts i_No t_No t_No_ok hown (hts _ w_177) (hts _ w_178) (hts _ w_74) hK hP hD hS hA rfl (fun j hj => by rcases (show j = 0 ∨ j = 1 ∨ j = 2 ∨ j = 3 by omega) with rfl | rfl | rfl | rfl <;> rfl) (Nat.le_of_ble_eq_true rfl) (Nat.le_of_ble_eq_true rfl) d_cTree_init_5 (fun q4 H hP hD hS => ?_)
  have hP : va_P D ZCL [(h0, .inr (3, [.int (zI 0), .int (zI 0), .null, .null, .null, .int (zI 0), .int (zI 0), .null, .null, .long 0])), (q4, .inr (8, [.null, .long 0, .null, .null]))] H := hP
  have hD : va_D A [(h0, .inr (3, [.int (zI 0), .int (zI 0), .null, .null, .null, .int (zI 0), .int (zI 0), .null, .null, .long 0])), (q4, .inr (8, [.null, .long 0, .null, .null]))] := hD
  refine W.widen (k := 1) (n := 4) (by omega) (by omega) ?_
  refine lv_dup hx hb d_cTree_init_8 rfl ?_
  refine lv_null hx hb d_cTree_init_9 ?_
  refine lv_lconst (v := 0) hx hb d_cTree_init_10 rfl ?_
  refine lv_null hx hb d_cTree_init_11 ?_
  refine lv_null hx hb d_cTree_init_12 ?_
  have hPc := hP.sub (ws' := [(q4, .inr (8, [.null, .long 0, .null, .null]))]) [1] rfl
  have hDc := hD.sub (ws' := [(q4, .inr (8, [.null, .long 0, .null, .null]))]) [1] (by decide) rfl
  have hFc := va_free (wc := [(q4, .inr (8, [.null, .long 0, .null, .null]))]) hD hS hA [1] rfl
  refine va_callv (va_runI (As := [.null, .long 0, .null, .null]) (rest := [.ref q4, .ref h0]) ⟨hx, hb, hml, hown, hts⟩ (i_No_new q4 H.size 0) (cwi_i_No_new hts (hts _ w_179) (Nat.le_of_ble_eq_true rfl) (Nat.le_of_ble_eq_true rfl)) ⟨z_ib, fun U hU hW => ⟨rfl, by rw [hU], by rw [hU]; exact hPc, va_K.moved hW.alike hK, hDc.weaken (fun _ _ _ _ => trivial)⟩⟩ rfl rfl hl.1 rfl (lv_room (Nat.le_of_ble_eq_true rfl)) d_cTree_init_13 ⟨Nat.le_of_ble_eq_true rfl, Nat.le_of_ble_eq_true rfl⟩) hS (fun q _ h => hFc q h) hFc (fun x13 t H1 locs ht hvm h9 hB hz1 hk1 hS => ?_)
  obtain ⟨hP1, hK1, hD1⟩ := hB
  rw [ht] at hP1
  obtain ⟨hP, hD⟩ := va_join (wr := [(h0, .inr (3, [.int (zI 0), .int (zI 0), .null, .null, .null, .int (zI 0), .int (zI 0), .null, .null, .long 0]))]) (w1 := [(q4, .inr (8, [.null, .long 0, .null, .null]))]) hP hD [1] [0] rfl rfl (by decide) (by decide) hk1 hFc hP1 hD1
  generalize H1 = H at hP hS ⊢
  have hP : va_P D ZCL [(h0, .inr (3, [.int (zI 0), .int (zI 0), .null, .null, .null, .int (zI 0), .int (zI 0), .null, .null, .long 0])), (q4, .inr (8, [.null, .long 0, .null, .null]))] H := hP
  have hD : va_D A [(h0, .inr (3, [.int (zI 0), .int (zI 0), .null, .null, .null, .int (zI 0), .int (zI 0), .null, .null, .long 0])), (q4, .inr (8, [.null, .long 0, .null, .null]))] := hD
  refine W.widen (k := 1) (n := 4) (by omega) (by omega) ?_
  refine va_putF (D := D) (ci := 3) (v := .ref q4) (ty := .object "TreeShell$Node") (C := "TreeShell$Tree") (T := F_Tr) (N := 10) hx hb hts i_Tr t_Tr t_Tr_ok n_Tr hown hK hP hD hS 0 rfl rfl 2 (by decide) (hts _ w_207) (fun _ h9 => h9) rfl hin rfl (by decide +kernel) rfl rfl (Nat.le_of_ble_eq_true rfl) d_cTree_init_16 (fun H locs hP hD hS => ?_)
  have hP : va_P D ZCL [(h0, .inr (3, [.int (zI 0), .int (zI 0), .ref q4, .null, .null, .int (zI 0), .int (zI 0), .null, .null, .long 0])), (q4, .inr (8, [.null, .long 0, .null, .null]))] H := hP
  have hD : va_D A [(h0, .inr (3, [.int (zI 0), .int (zI 0), .ref q4, .null, .null, .int (zI 0), .int (zI 0), .null, .null, .long 0])), (q4, .inr (8, [.null, .long 0, .null, .null]))] := hD
  refine lv_aload_n hx hb d_cTree_init_19 rfl (lv_at hl 0 rfl) ?_
  refine lv_aload_n hx hb d_cTree_init_20 rfl (lv_at hl 0 rfl) ?_
  refine va_get (D := D) (ci := 3) (C := "TreeShell$Tree") (T := F_Tr) (N := 10) hx hb hts i_Tr hown hK hP 0 rfl rfl 2 (by decide) (hts _ w_207) (fun _ h9 => h9) rfl d_cTree_init_21 ?_
  refine va_put (D := D) (ci := 3) (v := .ref q4) (ty := .object "TreeShell$Node") (C := "TreeShell$Tree") (T := F_Tr) (N := 10) hx hb hts i_Tr t_Tr t_Tr_ok n_Tr hown hK hP hD hS 0 rfl rfl 3 (by decide) (hts _ w_209) (fun _ h9 => h9) rfl (by decide +kernel) rfl rfl (Nat.le_of_ble_eq_true rfl) d_cTree_init_24 (fun H locs hP hD hS => ?_)
  have hP : va_P D ZCL [(h0, .inr (3, [.int (zI 0), .int (zI 0), .ref q4, .ref q4, .null, .int (zI 0), .int (zI 0), .null, .null, .long 0])), (q4, .inr (8, [.null, .long 0, .null, .null]))] H := hP
  have hD : va_D A [(h0, .inr (3, [.int (zI 0), .int (zI 0), .ref q4, .ref q4, .null, .int (zI 0), .int (zI 0), .null, .null, .long 0])), (q4, .inr (8, [.null, .long 0, .null, .null]))] := hD
  refine lv_aload_n hx hb d_cTree_init_27 rfl (lv_at hl 0 rfl) ?_
  refine lv_aload_n hx hb d_cTree_init_28 rfl (lv_at hl 0 rfl) ?_
  refine va_get (D := D) (ci := 3) (C := "TreeShell$Tree") (T := F_Tr) (N := 10) hx hb hts i_Tr hown hK hP 0 rfl rfl 2 (by decide) (hts _ w_207) (fun _ h9 => h9) rfl d_cTree_init_29 ?_
  refine va_put (D := D) (ci := 3) (v := .ref q4) (ty := .object "TreeShell$Node") (C := "TreeShell$Tree") (T := F_Tr) (N := 10) hx hb hts i_Tr t_Tr t_Tr_ok n_Tr hown hK hP hD hS 0 rfl rfl 4 (by decide) (hts _ w_210) (fun _ h9 => h9) rfl (by decide +kernel) rfl rfl (Nat.le_of_ble_eq_true rfl) d_cTree_init_32 (fun H locs hP hD hS => ?_)
  have hP : va_P D ZCL [(h0, .inr (3, [.int (zI 0), .int (zI 0), .ref q4, .ref q4, .ref q4, .int (zI 0), .int (zI 0), .null, .null, .long 0])), (q4, .inr (8, [.null, .long 0, .null, .null]))] H := hP
  have hD : va_D A [(h0, .inr (3, [.int (zI 0), .int (zI 0), .ref q4, .ref q4, .ref q4, .int (zI 0), .int (zI 0), .null, .null, .long 0])), (q4, .inr (8, [.null, .long 0, .null, .null]))] := hD
  refine lv_aload_n hx hb d_cTree_init_35 rfl (lv_at hl 0 rfl) ?_
  refine z_iconst hx hb d_cTree_init_36 ?_
  refine va_put (D := D) (ci := 3) (v := .int (zI 0)) (ty := .int) (C := "TreeShell$Tree") (T := F_Tr) (N := 10) hx hb hts i_Tr t_Tr t_Tr_ok n_Tr hown hK hP hD hS 0 rfl rfl 5 (by decide) (hts _ w_214) (fun _ h9 => h9) rfl (by decide +kernel) rfl rfl (Nat.le_of_ble_eq_true rfl) d_cTree_init_37 (fun H locs hP hD hS => ?_)
  have hP : va_P D ZCL [(h0, .inr (3, [.int (zI 0), .int (zI 0), .ref q4, .ref q4, .ref q4, .int (zI 0), .int (zI 0), .null, .null, .long 0])), (q4, .inr (8, [.null, .long 0, .null, .null]))] H := hP
  have hD : va_D A [(h0, .inr (3, [.int (zI 0), .int (zI 0), .ref q4, .ref q4, .ref q4, .int (zI 0), .int (zI 0), .null, .null, .long 0])), (q4, .inr (8, [.null, .long 0, .null, .null]))] := hD
  refine lv_aload_n hx hb d_cTree_init_40 rfl (lv_at hl 0 rfl) ?_
  refine z_iconst hx hb d_cTree_init_41 ?_
  refine va_put (D := D) (ci := 3) (v := .int (zI 0)) (ty := .int) (C := "TreeShell$Tree") (T := F_Tr) (N := 10) hx hb hts i_Tr t_Tr t_Tr_ok n_Tr hown hK hP hD hS 0 rfl rfl 6 (by decide) (hts _ w_217) (fun _ h9 => h9) rfl (by decide +kernel) rfl rfl (Nat.le_of_ble_eq_true rfl) d_cTree_init_42 (fun H locs hP hD hS => ?_)
  have hP : va_P D ZCL [(h0, .inr (3, [.int (zI 0), .int (zI 0), .ref q4, .ref q4, .ref q4, .int (zI 0), .int (zI 0), .null, .null, .long 0])), (q4, .inr (8, [.null, .long 0, .null, .null]))] H := hP
  have hD : va_D A [(h0, .inr (3, [.int (zI 0), .int (zI 0), .ref q4, .ref q4, .ref q4, .int (zI 0), .int (zI 0), .null, .null, .long 0])), (q4, .inr (8, [.null, .long 0, .null, .null]))] := hD
  refine lv_aload_n hx hb d_cTree_init_45 rfl (lv_at hl 0 rfl) ?_
  refine lv_null hx hb d_cTree_init_46 ?_
  refine va_put (D := D) (ci := 3) (v := .null) (ty := .object "TreeShell$Node") (C := "TreeShell$Tree") (T := F_Tr) (N := 10) hx hb hts i_Tr t_Tr t_Tr_ok n_Tr hown hK hP hD hS 0 rfl rfl 7 (by decide) (hts _ w_219) (fun _ h9 => h9) rfl (by decide +kernel) rfl rfl (Nat.le_of_ble_eq_true rfl) d_cTree_init_47 (fun H locs hP hD hS => ?_)
  have hP : va_P D ZCL [(h0, .inr (3, [.int (zI 0), .int (zI 0), .ref q4, .ref q4, .ref q4, .int (zI 0), .int (zI 0), .null, .null, .long 0])), (q4, .inr (8, [.null, .long 0, .null, .null]))] H := hP
  have hD : va_D A [(h0, .inr (3, [.int (zI 0), .int (zI 0), .ref q4, .ref q4, .ref q4, .int (zI 0), .int (zI 0), .null, .null, .long 0])), (q4, .inr (8, [.null, .long 0, .null, .null]))] := hD
  refine lv_aload_n hx hb d_cTree_init_50 rfl (lv_at hl 0 rfl) ?_
  refine lv_null hx hb d_cTree_init_51 ?_
  refine va_put (D := D) (ci := 3) (v := .null) (ty := .object "TreeShell$Node") (C := "TreeShell$Tree") (T := F_Tr) (N := 10) hx hb hts i_Tr t_Tr t_Tr_ok n_Tr hown hK hP hD hS 0 rfl rfl 8 (by decide) (hts _ w_221) (fun _ h9 => h9) rfl (by decide +kernel) rfl rfl (Nat.le_of_ble_eq_true rfl) d_cTree_init_52 (fun H locs hP hD hS => ?_)
  have hP : va_P D ZCL [(h0, .inr (3, [.int (zI 0), .int (zI 0), .ref q4, .ref q4, .ref q4, .int (zI 0), .int (zI 0), .null, .null, .long 0])), (q4, .inr (8, [.null, .long 0, .null, .null]))] H := hP
  have hD : va_D A [(h0, .inr (3, [.int (zI 0), .int (zI 0), .ref q4, .ref q4, .ref q4, .int (zI 0), .int (zI 0), .null, .null, .long 0])), (q4, .inr (8, [.null, .long 0, .null, .null]))] := hD
  refine lv_aload_n hx hb d_cTree_init_55 rfl (lv_at hl 0 rfl) ?_
  refine lv_lconst (v := 0) hx hb d_cTree_init_56 rfl ?_
  refine va_put (D := D) (ci := 3) (v := .long 0) (ty := .long) (C := "TreeShell$Tree") (T := F_Tr) (N := 10) hx hb hts i_Tr t_Tr t_Tr_ok n_Tr hown hK hP hD hS 0 rfl rfl 9 (by decide) (hts _ w_224) (fun _ h9 => h9) rfl (by decide +kernel) rfl rfl (Nat.le_of_ble_eq_true rfl) d_cTree_init_57 (fun H locs hP hD hS => ?_)
  have hP : va_P D ZCL [(h0, .inr (3, [.int (zI 0), .int (zI 0), .ref q4, .ref q4, .ref q4, .int (zI 0), .int (zI 0), .null, .null, .long 0])), (q4, .inr (8, [.null, .long 0, .null, .null]))] H := hP
  have hD : va_D A [(h0, .inr (3, [.int (zI 0), .int (zI 0), .ref q4, .ref q4, .ref q4, .int (zI 0), .int (zI 0), .null, .null, .long 0])), (q4, .inr (8, [.null, .long 0, .null, .null]))] := hD
  refine lv_aload_n hx hb d_cTree_init_60 rfl (lv_at hl 0 rfl) ?_
  refine lv_iload_n hx hb d_cTree_init_61 rfl (lv_at hl 1 rfl) ?_
  refine va_putF (D := D) (ci := 3) (v := .int (zI v1)) (ty := .int) (C := "TreeShell$Tree") (T := F_Tr) (N := 10) hx hb hts i_Tr t_Tr t_Tr_ok n_Tr hown hK hP hD hS 0 rfl rfl 0 (by decide) (hts _ w_204) (fun _ h9 => h9) rfl hin rfl (by decide +kernel) rfl rfl (Nat.le_of_ble_eq_true rfl) d_cTree_init_62 (fun H locs hP hD hS => ?_)
  have hP : va_P D ZCL [(h0, .inr (3, [.int (zI v1), .int (zI 0), .ref q4, .ref q4, .ref q4, .int (zI 0), .int (zI 0), .null, .null, .long 0])), (q4, .inr (8, [.null, .long 0, .null, .null]))] H := hP
  have hD : va_D A [(h0, .inr (3, [.int (zI v1), .int (zI 0), .ref q4, .ref q4, .ref q4, .int (zI 0), .int (zI 0), .null, .null, .long 0])), (q4, .inr (8, [.null, .long 0, .null, .null]))] := hD
  refine lv_aload_n hx hb d_cTree_init_65 rfl (lv_at hl 0 rfl) ?_
  refine lv_iload_n hx hb d_cTree_init_66 rfl (lv_at hl 2 rfl) ?_
  refine va_putF (D := D) (ci := 3) (v := .int (zI v2)) (ty := .int) (C := "TreeShell$Tree") (T := F_Tr) (N := 10) hx hb hts i_Tr t_Tr t_Tr_ok n_Tr hown hK hP hD hS 0 rfl rfl 1 (by decide) (hts _ w_205) (fun _ h9 => h9) rfl hin rfl (by decide +kernel) rfl rfl (Nat.le_of_ble_eq_true rfl) d_cTree_init_67 (fun H locs hP hD hS => ?_)
  have hP : va_P D ZCL [(h0, .inr (3, [.int (zI v1), .int (zI v2), .ref q4, .ref q4, .ref q4, .int (zI 0), .int (zI 0), .null, .null, .long 0])), (q4, .inr (8, [.null, .long 0, .null, .null]))] H := hP
  have hD : va_D A [(h0, .inr (3, [.int (zI v1), .int (zI v2), .ref q4, .ref q4, .ref q4, .int (zI 0), .int (zI 0), .null, .null, .long 0])), (q4, .inr (8, [.null, .long 0, .null, .null]))] := hD
  exact W.vret hx hb hr (fun t ht hW => ⟨⟨(fun i => ([q4] : List Nat).getD i 0), rfl, trivial, by rw [ht]; exact hP, va_K.moved hW.alike hK, hD⟩, hS.F ht⟩) hS.2.2 d_cTree_init_70
theorem cwi_i_Tr_new {R : Room} {s : State} {args : Array Value} {own : String} {ix : Nat} (hts : ∀ w ∈ zt, w.before args s = true) (hl : (Cond.methodLink own ix y_cTree_init).before args s = true) (h1 : 3 ≤ R.frames) (h2 : 59 ≤ R.locals) : CallB R s args own ix y_cTree_init b_cTree_init 3 none (.code y_cTree_init b_cTree_init 3 none :: zt) { frames := 2, cells := 1, slots := 4, locals := 37 } 1 4 2 ∧ y_cTree_init.name = "<init>" ∧ (Cond.instanceMethod y_cTree_init).before args s = true := ⟨callB_of 2 hts (zgood w_175) rfl rfl rfl (hts _ w_72) hl ⟨by decide, by decide, by decide +kernel⟩ ⟨h1, h2⟩, rfl, hts _ w_174⟩
