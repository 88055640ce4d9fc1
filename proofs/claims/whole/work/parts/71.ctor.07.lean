set_option maxHeartbeats 8000000 in
set_option maxRecDepth 100000 in
theorem i_Le_new {l : Launch} {D : va_G} {y : Nat → ClassId} (h0 sz : Nat) (v1 v2 : Int) (h_v1 : 0 ≤ v1 ∧ v1 ≤ 160) (h_v2 : 0 ≤ v2 ∧ v2 ≤ 160) : Met l y_cLevel_init (.code y_cLevel_init b_cLevel_init 3 none :: zt) { frames := 2, cells := 8, slots := 652, locals := 33 } (va_Pc [.ref h0, .int (zI v1), .int (zI v2)] (fun U => U.heap.size = sz ∧ va_P D ZCL [(h0, .inr (9, [.null, .null, .null, .null, .int (zI 0), .null]))] U.heap ∧ va_K D ZCL (ztys y) U ∧ va_D (fun _ => True) [(h0, .inr (9, [.null, .null, .null, .null, .int (zI 0), .null]))])) (va_Qv (fun _ : Nat → Nat => True) (fun x t => va_P D ZCL [(h0, .inr (9, [.ref (x 0), .ref (x 2), .ref (x 4), .ref (x 6), .int (zI 0), .null])), ((x 0), .inr (7, [.ref ((x 1)), .int (zI 0), .int (zI 0)])), (((x 1)), .inl (y 1, v2.toNat, .inl (fun _ => zI 0))), ((x 2), .inr (7, [.ref ((x 3)), .int (zI 0), .int (zI 0)])), (((x 3)), .inl (y 1, v2.toNat, .inl (fun _ => zI 0))), ((x 4), .inr (7, [.ref ((x 5)), .int (zI 0), .int (zI 0)])), (((x 5)), .inl (y 1, v2.toNat, .inl (fun _ => zI 0))), ((x 6), .inr (7, [.ref ((x 7)), .int (zI 0), .int (zI 0)])), (((x 7)), .inl (y 1, v1.toNat, .inl (fun _ => zI 0)))] t.heap ∧ va_K D ZCL (ztys y) t ∧ va_D (va_A [(h0, .inr (9, [.null, .null, .null, .null, .int (zI 0), .null]))] sz) [(h0, .inr (9, [.ref (x 0), .ref (x 2), .ref (x 4), .ref (x 6), .int (zI 0), .null])), ((x 0), .inr (7, [.ref ((x 1)), .int (zI 0), .int (zI 0)])), (((x 1)), .inl (y 1, v2.toNat, .inl (fun _ => zI 0))), ((x 2), .inr (7, [.ref ((x 3)), .int (zI 0), .int (zI 0)])), (((x 3)), .inl (y 1, v2.toNat, .inl (fun _ => zI 0))), ((x 4), .inr (7, [.ref ((x 5)), .int (zI 0), .int (zI 0)])), (((x 5)), .inl (y 1, v2.toNat, .inl (fun _ => zI 0))), ((x 6), .inr (7, [.ref ((x 7)), .int (zI 0), .int (zI 0)])), (((x 7)), .inl (y 1, v1.toNat, .inl (fun _ => zI 0)))]) (va_A [(h0, .inr (9, [.null, .null, .null, .null, .int (zI 0), .null]))] sz)) 8 652 (va_A [(h0, .inr (9, [.null, .null, .null, .null, .int (zI 0), .null]))] sz) := by
  refine Met.ofW (cc := b_cLevel_init) (maxL := 3) (ret := none) (by decide) rfl ?_
  intro p e s m args below meth c s₁ Bd hml hv
  obtain ⟨hargs, hsz, hP, hK, hD0⟩ := hv
  have hx := Bd.exec
  have hb := Bd.bytes
  have hr := Bd.returns
  have hts0 := atoms_spec (ws := .code y_cLevel_init b_cLevel_init 3 none :: zt) Bd.pre
  have hts : ∀ w ∈ zt, w.before args s = true := fun w h => hts0 w (List.mem_cons_of_mem _ h)
  have hown : s.vm.findClass "TreeShell$Level" = some m.cls := findClass_of_methodNamed Bd.named
  have hlocks := Bd.notSynchronized
  have hin : meth.name = "<init>" := (name_of_methodNamed Bd.named Bd.method).1
  subst hsz
  have hD := hD0.self (sz := s.heap.size)
  generalize hAe : va_A [(h0, .inr (9, [.null, .null, .null, .null, .int (zI 0), .null]))] s.heap.size = A at hD ⊢
  have hA : ∀ q : Nat, s.heap.size ≤ q → A q := fun q h => by rw [← hAe]; exact Or.inr h
  have hS : va_S A s.heap s.heap [] := va_S.rf
  have hP : va_P D ZCL [(h0, .inr (9, [.null, .null, .null, .null, .int (zI 0), .null]))] s.heap := hP
  have hE := lg_entry_eq m ([.ref h0, .int (zI v1), .int (zI v2)] : List Value) 3
  rw [← hargs] at hE
  rw [hE]
  have hl := lv_entry ([.ref h0, .int (zI v1), .int (zI v2)] : List Value) (n := 3) (Nat.le_of_ble_eq_true rfl)
  generalize (lg_sl ([.ref h0, .int (zI v1), .int (zI v2)] : List Value) ++ List.replicate (3 - (lg_sl ([.ref h0, .int (zI v1), .int (zI v2)] : List Value)).length) Slot.unset).toArray = ls at hl ⊢
  have hl : lv_has ls 3 [(0, .ref h0), (1, .int (zI v1)), (2, .int (zI v2))] := hl
  generalize hH : s.heap = H at hP
  have hS : va_S A s.heap H [] := by rw [← hH]; exact hS
  refine lv_aload_n hx hb d_cLevel_init_0 rfl (lv_at hl 0 rfl) ?_
  refine W.objInit hx hb hown (hts _ w_294) (hts _ w_91) (hts _ w_92) rfl (by rw [hml]; exact hl.1) rfl d_cLevel_init_1 (Nat.le_of_ble_eq_true rfl) (Nat.le_of_ble_eq_true rfl) ?_
  refine W.eq (g2 := F0 m 4 ls []) rfl ?_
  refine lv_aload_n hx hb d_cLevel_init_4 rfl (lv_at hl 0 rfl) ?_
  refine z_iconst hx hb d_cLevel_init_5 ?_
  refine va_put (D := D) (ci := 9) (v := .int (zI 0)) (ty := .boolean) (C := "TreeShell$Level") (T := F_Le) (N := 6) hx hb hts i_Le t_Le t_Le_ok n_Le hown hK hP hD hS 0 rfl rfl 4 (by decide) (hts _ w_305) (fun _ h9 => h9) rfl (by decide +kernel) rfl rfl (Nat.le_of_ble_eq_true rfl) d_cLevel_init_6 (fun H locs hP hD hS => ?_)
  have hP : va_P D ZCL [(h0, .inr (9, [.null, .null, .null, .null, .int (zI 0), .null]))] H := hP
  have hD : va_D A [(h0, .inr (9, [.null, .null, .null, .null, .int (zI 0), .null]))] := hD
  refine lv_aload_n hx hb d_cLevel_init_9 rfl (lv_at hl 0 rfl) ?_
  refine lv_null hx hb d_cLevel_init_10 ?_
  refine va_put (D := D) (ci := 9) (v := .null) (ty := .object "TreeShell$Text") (C := "TreeShell$Level") (T := F_Le) (N := 6) hx hb hts i_Le t_Le t_Le_ok n_Le hown hK hP hD hS 0 rfl rfl 5 (by decide) (hts _ w_307) (fun _ h9 => h9) rfl (by decide +kernel) rfl rfl (Nat.le_of_ble_eq_true rfl) d_cLevel_init_11 (fun H locs hP hD hS => ?_)
  have hP : va_P D ZCL [(h0, .inr (9, [.null, .null, .null, .null, .int (zI 0), .null]))] H := hP
  have hD : va_D A [(h0, .inr (9, [.null, .null, .null, .null, .int (zI 0), .null]))] := hD
  refine lv_aload_n hx hb d_cLevel_init_14 rfl (lv_at hl 0 rfl) ?_
  refine va_new (ci := 7) (fs := [.null, .int (zI 0), .int (zI 0)]) (C := "TreeShell$Text") (T := F_Tx) (N := 3) hx hb hts i_Tx t_Tx t_Tx_ok hown (hts _ w_295) (hts _ w_94) (hts _ w_69) hK hP hD hS hA rfl (fun j hj => by rcases (show j = 0 ∨ j = 1 ∨ j = 2 by omega) with rfl | rfl | rfl <;> rfl) (Nat.le_of_ble_eq_true rfl) (Nat.le_of_ble_eq_true rfl) d_cLevel_init_15 (fun q14 H hP hD hS => ?_)
  have hP : va_P D ZCL [(h0, .inr (9, [.null, .null, .null, .null, .int (zI 0), .null])), (q14, .inr (7, [.null, .int (zI 0), .int (zI 0)]))] H := hP
  have hD : va_D A [(h0, .inr (9, [.null, .null, .null, .null, .int (zI 0), .null])), (q14, .inr (7, [.null, .int (zI 0), .int (zI 0)]))] := hD
  refine W.widen (k := 1) (n := 3) (by omega) (by omega) ?_
  refine lv_dup hx hb d_cLevel_init_18 rfl ?_
  refine lv_iload_n hx hb d_cLevel_init_19 rfl (lv_at hl 2 rfl) ?_
  have hPc := hP.sub (ws' := [(q14, .inr (7, [.null, .int (zI 0), .int (zI 0)]))]) [1] rfl
  have hDc := hD.sub (ws' := [(q14, .inr (7, [.null, .int (zI 0), .int (zI 0)]))]) [1] (by decide) rfl
  have hFc := va_free (wc := [(q14, .inr (7, [.null, .int (zI 0), .int (zI 0)]))]) hD hS hA [1] rfl
  refine va_callv (va_runI (As := [.int (zI v2)]) (rest := [.ref q14, .ref h0]) ⟨hx, hb, hml, hown, hts⟩ (i_Tx_new q14 H.size v2 (h_v2)) (cwi_i_Tx_new hts (hts _ w_296) (Nat.le_of_ble_eq_true rfl) (Nat.le_of_ble_eq_true rfl)) ⟨z_ib, fun U hU hW => ⟨rfl, by rw [hU], by rw [hU]; exact hPc, va_K.moved hW.alike hK, hDc.weaken (fun _ _ _ _ => trivial)⟩⟩ rfl rfl hl.1 rfl (lv_room (Nat.le_of_ble_eq_true rfl)) d_cLevel_init_20 ⟨Nat.le_of_ble_eq_true rfl, Nat.le_of_ble_eq_true rfl⟩) hS (fun q _ h => hFc q h) hFc (fun x20 t H1 locs ht hvm h9 hB hz1 hk1 hS => ?_)
  obtain ⟨hP1, hK1, hD1⟩ := hB
  rw [ht] at hP1
  obtain ⟨hP, hD⟩ := va_join (wr := [(h0, .inr (9, [.null, .null, .null, .null, .int (zI 0), .null]))]) (w1 := [(q14, .inr (7, [.ref (x20 0), .int (zI 0), .int (zI 0)])), ((x20 0), .inl (y 1, v2.toNat, .inl (fun _ => zI 0)))]) hP hD [1] [0] rfl rfl (by decide) (by decide) hk1 hFc hP1 hD1
  generalize H1 = H at hP hS ⊢
  have hP : va_P D ZCL [(h0, .inr (9, [.null, .null, .null, .null, .int (zI 0), .null])), (q14, .inr (7, [.ref (x20 0), .int (zI 0), .int (zI 0)])), ((x20 0), .inl (y 1, v2.toNat, .inl (fun _ => zI 0)))] H := hP
  have hD : va_D A [(h0, .inr (9, [.null, .null, .null, .null, .int (zI 0), .null])), (q14, .inr (7, [.ref (x20 0), .int (zI 0), .int (zI 0)])), ((x20 0), .inl (y 1, v2.toNat, .inl (fun _ => zI 0)))] := hD
  refine W.widen (k := 2) (n := 163) (by omega) (by omega) ?_
  refine va_putF (D := D) (ci := 9) (v := .ref q14) (ty := .object "TreeShell$Text") (C := "TreeShell$Level") (T := F_Le) (N := 6) hx hb hts i_Le t_Le t_Le_ok n_Le hown hK hP hD hS 0 rfl rfl 0 (by decide) (hts _ w_297) (fun _ h9 => h9) rfl hin rfl (by decide +kernel) rfl rfl (Nat.le_of_ble_eq_true rfl) d_cLevel_init_23 (fun H locs hP hD hS => ?_)
  have hP : va_P D ZCL [(h0, .inr (9, [.ref q14, .null, .null, .null, .int (zI 0), .null])), (q14, .inr (7, [.ref (x20 0), .int (zI 0), .int (zI 0)])), ((x20 0), .inl (y 1, v2.toNat, .inl (fun _ => zI 0)))] H := hP
  have hD : va_D A [(h0, .inr (9, [.ref q14, .null, .null, .null, .int (zI 0), .null])), (q14, .inr (7, [.ref (x20 0), .int (zI 0), .int (zI 0)])), ((x20 0), .inl (y 1, v2.toNat, .inl (fun _ => zI 0)))] := hD
  refine lv_aload_n hx hb d_cLevel_init_26 rfl (lv_at hl 0 rfl) ?_
  refine va_new (ci := 7) (fs := [.null, .int (zI 0), .int (zI 0)]) (C := "TreeShell$Text") (T := F_Tx) (N := 3) hx hb hts i_Tx t_Tx t_Tx_ok hown (hts _ w_295) (hts _ w_94) (hts _ w_69) hK hP hD hS hA rfl (fun j hj => by rcases (show j = 0 ∨ j = 1 ∨ j = 2 by omega) with rfl | rfl | rfl <;> rfl) (Nat.le_of_ble_eq_true rfl) (Nat.le_of_ble_eq_true rfl) d_cLevel_init_27 (fun q35 H hP hD hS => ?_)
  have hP : va_P D ZCL [(h0, .inr (9, [.ref q14, .null, .null, .null, .int (zI 0), .null])), (q14, .inr (7, [.ref (x20 0), .int (zI 0), .int (zI 0)])), ((x20 0), .inl (y 1, v2.toNat, .inl (fun _ => zI 0))), (q35, .inr (7, [.null, .int (zI 0), .int (zI 0)]))] H := hP
  have hD : va_D A [(h0, .inr (9, [.ref q14, .null, .null, .null, .int (zI 0), .null])), (q14, .inr (7, [.ref (x20 0), .int (zI 0), .int (zI 0)])), ((x20 0), .inl (y 1, v2.toNat, .inl (fun _ => zI 0))), (q35, .inr (7, [.null, .int (zI 0), .int (zI 0)]))] := hD
  refine W.widen (k := 3) (n := 166) (by omega) (by omega) ?_
  refine lv_dup hx hb d_cLevel_init_30 rfl ?_
  refine lv_iload_n hx hb d_cLevel_init_31 rfl (lv_at hl 2 rfl) ?_
  have hPc := hP.sub (ws' := [(q35, .inr (7, [.null, .int (zI 0), .int (zI 0)]))]) [3] rfl
  have hDc := hD.sub (ws' := [(q35, .inr (7, [.null, .int (zI 0), .int (zI 0)]))]) [3] (by decide) rfl
  have hFc := va_free (wc := [(q35, .inr (7, [.null, .int (zI 0), .int (zI 0)]))]) hD hS hA [3] rfl
  refine va_callv (va_runI (As := [.int (zI v2)]) (rest := [.ref q35, .ref h0]) ⟨hx, hb, hml, hown, hts⟩ (i_Tx_new q35 H.size v2 (h_v2)) (cwi_i_Tx_new hts (hts _ w_296) (Nat.le_of_ble_eq_true rfl) (Nat.le_of_ble_eq_true rfl)) ⟨z_ib, fun U hU hW => ⟨rfl, by rw [hU], by rw [hU]; exact hPc, va_K.moved hW.alike hK, hDc.weaken (fun _ _ _ _ => trivial)⟩⟩ rfl rfl hl.1 rfl (lv_room (Nat.le_of_ble_eq_true rfl)) d_cLevel_init_32 ⟨Nat.le_of_ble_eq_true rfl, Nat.le_of_ble_eq_true rfl⟩) hS (fun q _ h => hFc q h) hFc (fun x41 t H1 locs ht hvm h9 hB hz1 hk1 hS => ?_)
  obtain ⟨hP1, hK1, hD1⟩ := hB
  rw [ht] at hP1
  obtain ⟨hP, hD⟩ := va_join (wr := [(h0, .inr (9, [.ref q14, .null, .null, .null, .int (zI 0), .null])), (q14, .inr (7, [.ref (x20 0), .int (zI 0), .int (zI 0)])), ((x20 0), .inl (y 1, v2.toNat, .inl (fun _ => zI 0)))]) (w1 := [(q35, .inr (7, [.ref (x41 0), .int (zI 0), .int (zI 0)])), ((x41 0), .inl (y 1, v2.toNat, .inl (fun _ => zI 0)))]) hP hD [3] [0, 1, 2] rfl rfl (by decide) (by decide) hk1 hFc hP1 hD1
  generalize H1 = H at hP hS ⊢
  have hP : va_P D ZCL [(h0, .inr (9, [.ref q14, .null, .null, .null, .int (zI 0), .null])), (q14, .inr (7, [.ref (x20 0), .int (zI 0), .int (zI 0)])), ((x20 0), .inl (y 1, v2.toNat, .inl (fun _ => zI 0))), (q35, .inr (7, [.ref (x41 0), .int (zI 0), .int (zI 0)])), ((x41 0), .inl (y 1, v2.toNat, .inl (fun _ => zI 0)))] H := hP
  have hD : va_D A [(h0, .inr (9, [.ref q14, .null, .null, .null, .int (zI 0), .null])), (q14, .inr (7, [.ref (x20 0), .int (zI 0), .int (zI 0)])), ((x20 0), .inl (y 1, v2.toNat, .inl (fun _ => zI 0))), (q35, .inr (7, [.ref (x41 0), .int (zI 0), .int (zI 0)])), ((x41 0), .inl (y 1, v2.toNat, .inl (fun _ => zI 0)))] := hD
  refine W.widen (k := 4) (n := 326) (by omega) (by omega) ?_
  refine va_putF (D := D) (ci := 9) (v := .ref q35) (ty := .object "TreeShell$Text") (C := "TreeShell$Level") (T := F_Le) (N := 6) hx hb hts i_Le t_Le t_Le_ok n_Le hown hK hP hD hS 0 rfl rfl 1 (by decide) (hts _ w_299) (fun _ h9 => h9) rfl hin rfl (by decide +kernel) rfl rfl (Nat.le_of_ble_eq_true rfl) d_cLevel_init_35 (fun H locs hP hD hS => ?_)
  have hP : va_P D ZCL [(h0, .inr (9, [.ref q14, .ref q35, .null, .null, .int (zI 0), .null])), (q14, .inr (7, [.ref (x20 0), .int (zI 0), .int (zI 0)])), ((x20 0), .inl (y 1, v2.toNat, .inl (fun _ => zI 0))), (q35, .inr (7, [.ref (x41 0), .int (zI 0), .int (zI 0)])), ((x41 0), .inl (y 1, v2.toNat, .inl (fun _ => zI 0)))] H := hP
  have hD : va_D A [(h0, .inr (9, [.ref q14, .ref q35, .null, .null, .int (zI 0), .null])), (q14, .inr (7, [.ref (x20 0), .int (zI 0), .int (zI 0)])), ((x20 0), .inl (y 1, v2.toNat, .inl (fun _ => zI 0))), (q35, .inr (7, [.ref (x41 0), .int (zI 0), .int (zI 0)])), ((x41 0), .inl (y 1, v2.toNat, .inl (fun _ => zI 0)))] := hD
  refine lv_aload_n hx hb d_cLevel_init_38 rfl (lv_at hl 0 rfl) ?_
  refine va_new (ci := 7) (fs := [.null, .int (zI 0), .int (zI 0)]) (C := "TreeShell$Text") (T := F_Tx) (N := 3) hx hb hts i_Tx t_Tx t_Tx_ok hown (hts _ w_295) (hts _ w_94) (hts _ w_69) hK hP hD hS hA rfl (fun j hj => by rcases (show j = 0 ∨ j = 1 ∨ j = 2 by omega) with rfl | rfl | rfl <;> rfl) (Nat.le_of_ble_eq_true rfl) (Nat.le_of_ble_eq_true rfl) d_cLevel_init_39 (fun q56 H hP hD hS => ?_)
  have hP : va_P D ZCL [(h0, .inr (9, [.ref q14, .ref q35, .null, .null, .int (zI 0), .null])), (q14, .inr (7, [.ref (x20 0), .int (zI 0), .int (zI 0)])), ((x20 0), .inl (y 1, v2.toNat, .inl (fun _ => zI 0))), (q35, .inr (7, [.ref (x41 0), .int (zI 0), .int (zI 0)])), ((x41 0), .inl (y 1, v2.toNat, .inl (fun _ => zI 0))), (q56, .inr (7, [.null, .int (zI 0), .int (zI 0)]))] H := hP
  have hD : va_D A [(h0, .inr (9, [.ref q14, .ref q35, .null, .null, .int (zI 0), .null])), (q14, .inr (7, [.ref (x20 0), .int (zI 0), .int (zI 0)])), ((x20 0), .inl (y 1, v2.toNat, .inl (fun _ => zI 0))), (q35, .inr (7, [.ref (x41 0), .int (zI 0), .int (zI 0)])), ((x41 0), .inl (y 1, v2.toNat, .inl (fun _ => zI 0))), (q56, .inr (7, [.null, .int (zI 0), .int (zI 0)]))] := hD
  refine W.widen (k := 5) (n := 329) (by omega) (by omega) ?_
  refine lv_dup hx hb d_cLevel_init_42 rfl ?_
  refine lv_iload_n hx hb d_cLevel_init_43 rfl (lv_at hl 2 rfl) ?_
  have hPc := hP.sub (ws' := [(q56, .inr (7, [.null, .int (zI 0), .int (zI 0)]))]) [5] rfl
  have hDc := hD.sub (ws' := [(q56, .inr (7, [.null, .int (zI 0), .int (zI 0)]))]) [5] (by decide) rfl
  have hFc := va_free (wc := [(q56, .inr (7, [.null, .int (zI 0), .int (zI 0)]))]) hD hS hA [5] rfl
  refine va_callv (va_runI (As := [.int (zI v2)]) (rest := [.ref q56, .ref h0]) ⟨hx, hb, hml, hown, hts⟩ (i_Tx_new q56 H.size v2 (h_v2)) (cwi_i_Tx_new hts (hts _ w_296) (Nat.le_of_ble_eq_true rfl) (Nat.le_of_ble_eq_true rfl)) ⟨z_ib, fun U hU hW => ⟨rfl, by rw [hU], by rw [hU]; exact hPc, va_K.moved hW.alike hK, hDc.weaken (fun _ _ _ _ => trivial)⟩⟩ rfl rfl hl.1 rfl (lv_room (Nat.le_of_ble_eq_true rfl)) d_cLevel_init_44 ⟨Nat.le_of_ble_eq_true rfl, Nat.le_of_ble_eq_true rfl⟩) hS (fun q _ h => hFc q h) hFc (fun x62 t H1 locs ht hvm h9 hB hz1 hk1 hS => ?_)
  obtain ⟨hP1, hK1, hD1⟩ := hB
  rw [ht] at hP1
  obtain ⟨hP, hD⟩ := va_join (wr := [(h0, .inr (9, [.ref q14, .ref q35, .null, .null, .int (zI 0), .null])), (q14, .inr (7, [.ref (x20 0), .int (zI 0), .int (zI 0)])), ((x20 0), .inl (y 1, v2.toNat, .inl (fun _ => zI 0))), (q35, .inr (7, [.ref (x41 0), .int (zI 0), .int (zI 0)])), ((x41 0), .inl (y 1, v2.toNat, .inl (fun _ => zI 0)))]) (w1 := [(q56, .inr (7, [.ref (x62 0), .int (zI 0), .int (zI 0)])), ((x62 0), .inl (y 1, v2.toNat, .inl (fun _ => zI 0)))]) hP hD [5] [0, 1, 2, 3, 4] rfl rfl (by decide) (by decide) hk1 hFc hP1 hD1
  generalize H1 = H at hP hS ⊢
  have hP : va_P D ZCL [(h0, .inr (9, [.ref q14, .ref q35, .null, .null, .int (zI 0), .null])), (q14, .inr (7, [.ref (x20 0), .int (zI 0), .int (zI 0)])), ((x20 0), .inl (y 1, v2.toNat, .inl (fun _ => zI 0))), (q35, .inr (7, [.ref (x41 0), .int (zI 0), .int (zI 0)])), ((x41 0), .inl (y 1, v2.toNat, .inl (fun _ => zI 0))), (q56, .inr (7, [.ref (x62 0), .int (zI 0), .int (zI 0)])), ((x62 0), .inl (y 1, v2.toNat, .inl (fun _ => zI 0)))] H := hP
  have hD : va_D A [(h0, .inr (9, [.ref q14, .ref q35, .null, .null, .int (zI 0), .null])), (q14, .inr (7, [.ref (x20 0), .int (zI 0), .int (zI 0)])), ((x20 0), .inl (y 1, v2.toNat, .inl (fun _ => zI 0))), (q35, .inr (7, [.ref (x41 0), .int (zI 0), .int (zI 0)])), ((x41 0), .inl (y 1, v2.toNat, .inl (fun _ => zI 0))), (q56, .inr (7, [.ref (x62 0), .int (zI 0), .int (zI 0)])), ((x62 0), .inl (y 1, v2.toNat, .inl (fun _ => zI 0)))] := hD
  refine W.widen (k := 6) (n := 489) (by omega) (by omega) ?_
  refine va_putF (D := D) (ci := 9) (v := .ref q56) (ty := .object "TreeShell$Text") (C := "TreeShell$Level") (T := F_Le) (N := 6) hx hb hts i_Le t_Le t_Le_ok n_Le hown hK hP hD hS 0 rfl rfl 2 (by decide) (hts _ w_301) (fun _ h9 => h9) rfl hin rfl (by decide +kernel) rfl rfl (Nat.le_of_ble_eq_true rfl) d_cLevel_init_47 (fun H locs hP hD hS => ?_)
  have hP : va_P D ZCL [(h0, .inr (9, [.ref q14, .ref q35, .ref q56, .null, .int (zI 0), .null])), (q14, .inr (7, [.ref (x20 0), .int (zI 0), .int (zI 0)])), ((x20 0), .inl (y 1, v2.toNat, .inl (fun _ => zI 0))), (q35, .inr (7, [.ref (x41 0), .int (zI 0), .int (zI 0)])), ((x41 0), .inl (y 1, v2.toNat, .inl (fun _ => zI 0))), (q56, .inr (7, [.ref (x62 0), .int (zI 0), .int (zI 0)])), ((x62 0), .inl (y 1, v2.toNat, .inl (fun _ => zI 0)))] H := hP
  have hD : va_D A [(h0, .inr (9, [.ref q14, .ref q35, .ref q56, .null, .int (zI 0), .null])), (q14, .inr (7, [.ref (x20 0), .int (zI 0), .int (zI 0)])), ((x20 0), .inl (y 1, v2.toNat, .inl (fun _ => zI 0))), (q35, .inr (7, [.ref (x41 0), .int (zI 0), .int (zI 0)])), ((x41 0), .inl (y 1, v2.toNat, .inl (fun _ => zI 0))), (q56, .inr (7, [.ref (x62 0), .int (zI 0), .int (zI 0)])), ((x62 0), .inl (y 1, v2.toNat, .inl (fun _ => zI 0)))] := hD
  refine lv_aload_n hx hb d_cLevel_init_50 rfl (lv_at hl 0 rfl) ?_
  refine va_new (ci := 7) (fs := [.null, .int (zI 0), .int (zI 0)]) (C := "TreeShell$Text") (T := F_Tx) (N := 3) hx hb hts i_Tx t_Tx t_Tx_ok hown (hts _ w_295) (hts _ w_94) (hts _ w_69) hK hP hD hS hA rfl (fun j hj => by rcases (show j = 0 ∨ j = 1 ∨ j = 2 by omega) with rfl | rfl | rfl <;> rfl) (Nat.le_of_ble_eq_true rfl) (Nat.le_of_ble_eq_true rfl) d_cLevel_init_51 (fun q77 H hP hD hS => ?_)
  have hP : va_P D ZCL [(h0, .inr (9, [.ref q14, .ref q35, .ref q56, .null, .int (zI 0), .null])), (q14, .inr (7, [.ref (x20 0), .int (zI 0), .int (zI 0)])), ((x20 0), .inl (y 1, v2.toNat, .inl (fun _ => zI 0))), (q35, .inr (7, [.ref (x41 0), .int (zI 0), .int (zI 0)])), ((x41 0), .inl (y 1, v2.toNat, .inl (fun _ => zI 0))), (q56, .inr (7, [.ref (x62 0), .int (zI 0), .int (zI 0)])), ((x62 0), .inl (y 1, v2.toNat, .inl (fun _ => zI 0))), (q77, .inr (7, [.null, .int (zI 0), .int (zI 0)]))] H := hP
  have hD : va_D A [(h0, .inr (9, [.ref q14, .ref q35, .ref q56, .null, .int (zI 0), .null])), (q14, .inr (7, [.ref (x20 0), .int (zI 0), .int (zI 0)])), ((x20 0), .inl (y 1, v2.toNat, .inl (fun _ => zI 0))), (q35, .inr (7, [.ref (x41 0), .int (zI 0), .int (zI 0)])), ((x41 0), .inl (y 1, v2.toNat, .inl (fun _ => zI 0))), (q56, .inr (7, [.ref (x62 0), .int (zI 0), .int (zI 0)])), ((x62 0), .inl (y 1, v2.toNat, .inl (fun _ => zI 0))), (q77, .inr (7, [.null, .int (zI 0), .int (zI 0)]))] := hD
  refine W.widen (k := 7) (n := 492) (by omega) (by omega) ?_
  refine lv_dup hx hb d_cLevel_init_54 rfl ?_
  refine lv_iload_n hx hb d_cLevel_init_55 rfl (lv_at hl 1 rfl) ?_
  have hPc := hP.sub (ws' := [(q77, .inr (7, [.null, .int (zI 0), .int (zI 0)]))]) [7] rfl
  have hDc := hD.sub (ws' := [(q77, .inr (7, [.null, .int (zI 0), .int (zI 0)]))]) [7] (by decide) rfl
  have hFc := va_free (wc := [(q77, .inr (7, [.null, .int (zI 0), .int (zI 0)]))]) hD hS hA [7] rfl
  refine va_callv (va_runI (As := [.int (zI v1)]) (rest := [.ref q77, .ref h0]) ⟨hx, hb, hml, hown, hts⟩ (i_Tx_new q77 H.size v1 (h_v1)) (cwi_i_Tx_new hts (hts _ w_296) (Nat.le_of_ble_eq_true rfl) (Nat.le_of_ble_eq_true rfl)) ⟨z_ib, fun U hU hW => ⟨rfl, by rw [hU], by rw [hU]; exact hPc, va_K.moved hW.alike hK, hDc.weaken (fun _ _ _ _ => trivial)⟩⟩ rfl rfl hl.1 rfl (lv_room (Nat.le_of_ble_eq_true rfl)) d_cLevel_init_56 ⟨Nat.le_of_ble_eq_true rfl, Nat.le_of_ble_eq_true rfl⟩) hS (fun q _ h => hFc q h) hFc (fun x83 t H1 locs ht hvm h9 hB hz1 hk1 hS => ?_)
  obtain ⟨hP1, hK1, hD1⟩ := hB
  rw [ht] at hP1
  obtain ⟨hP, hD⟩ := va_join (wr := [(h0, .inr (9, [.ref q14, .ref q35, .ref q56, .null, .int (zI 0), .null])), (q14, .inr (7, [.ref (x20 0), .int (zI 0), .int (zI 0)])), ((x20 0), .inl (y 1, v2.toNat, .inl (fun _ => zI 0))), (q35, .inr (7, [.ref (x41 0), .int (zI 0), .int (zI 0)])), ((x41 0), .inl (y 1, v2.toNat, .inl (fun _ => zI 0))), (q56, .inr (7, [.ref (x62 0), .int (zI 0), .int (zI 0)])), ((x62 0), .inl (y 1, v2.toNat, .inl (fun _ => zI 0)))]) (w1 := [(q77, .inr (7, [.ref (x83 0), .int (zI 0), .int (zI 0)])), ((x83 0), .inl (y 1, v1.toNat, .inl (fun _ => zI 0)))]) hP hD [7] [0, 1, 2, 3, 4, 5, 6] rfl rfl (by decide) (by decide) hk1 hFc hP1 hD1
  generalize H1 = H at hP hS ⊢
  have hP : va_P D ZCL [(h0, .inr (9, [.ref q14, .ref q35, .ref q56, .null, .int (zI 0), .null])), (q14, .inr (7, [.ref (x20 0), .int (zI 0), .int (zI 0)])), ((x20 0), .inl (y 1, v2.toNat, .inl (fun _ => zI 0))), (q35, .inr (7, [.ref (x41 0), .int (zI 0), .int (zI 0)])), ((x41 0), .inl (y 1, v2.toNat, .inl (fun _ => zI 0))), (q56, .inr (7, [.ref (x62 0), .int (zI 0), .int (zI 0)])), ((x62 0), .inl (y 1, v2.toNat, .inl (fun _ => zI 0))), (q77, .inr (7, [.ref (x83 0), .int (zI 0), .int (zI 0)])), ((x83 0), .inl (y 1, v1.toNat, .inl (fun _ => zI 0)))] H := hP
  have hD : va_D A [(h0, .inr (9, [.ref q14, .ref q35, .ref q56, .null, .int (zI 0), .null])), (q14, .inr (7, [.ref (x20 0), .int (zI 0), .int (zI 0)])), ((x20 0), .inl (y 1, v2.toNat, .inl (fun _ => zI 0))), (q35, .inr (7, [.ref (x41 0), .int (zI 0), .int (zI 0)])), ((x41 0), .inl (y 1, v2.toNat, .inl (fun _ => zI 0))), (q56, .inr (7, [.ref (x62 0), .int (zI 0), .int (zI 0)])), ((x62 0), .inl (y 1, v2.toNat, .inl (fun _ => zI 0))), (q77, .inr (7, [.ref (x83 0), .int (zI 0), .int (zI 0)])), ((x83 0), .inl (y 1, v1.toNat, .inl (fun _ => zI 0)))] := hD
  refine W.widen (k := 8) (n := 652) (by omega) (by omega) ?_
  refine va_putF (D := D) (ci := 9) (v := .ref q77) (ty := .object "TreeShell$Text") (C := "TreeShell$Level") (T := F_Le) (N := 6) hx hb hts i_Le t_Le t_Le_ok n_Le hown hK hP hD hS 0 rfl rfl 3 (by decide) (hts _ w_303) (fun _ h9 => h9) rfl hin rfl (by decide +kernel) rfl rfl (Nat.le_of_ble_eq_true rfl) d_cLevel_init_59 (fun H locs hP hD hS => ?_)
  have hP : va_P D ZCL [(h0, .inr (9, [.ref q14, .ref q35, .ref q56, .ref q77, .int (zI 0), .null])), (q14, .inr (7, [.ref (x20 0), .int (zI 0), .int (zI 0)])), ((x20 0), .inl (y 1, v2.toNat, .inl (fun _ => zI 0))), (q35, .inr (7, [.ref (x41 0), .int (zI 0), .int (zI 0)])), ((x41 0), .inl (y 1, v2.toNat, .inl (fun _ => zI 0))), (q56, .inr (7, [.ref (x62 0), .int (zI 0), .int (zI 0)])), ((x62 0), .inl (y 1, v2.toNat, .inl (fun _ => zI 0))), (q77, .inr (7, [.ref (x83 0), .int (zI 0), .int (zI 0)])), ((x83 0), .inl (y 1, v1.toNat, .inl (fun _ => zI 0)))] H := hP
  have hD : va_D A [(h0, .inr (9, [.ref q14, .ref q35, .ref q56, .ref q77, .int (zI 0), .null])), (q14, .inr (7, [.ref (x20 0), .int (zI 0), .int (zI 0)])), ((x20 0), .inl (y 1, v2.toNat, .inl (fun _ => zI 0))), (q35, .inr (7, [.ref (x41 0), .int (zI 0), .int (zI 0)])), ((x41 0), .inl (y 1, v2.toNat, .inl (fun _ => zI 0))), (q56, .inr (7, [.ref (x62 0), .int (zI 0), .int (zI 0)])), ((x62 0), .inl (y 1, v2.toNat, .inl (fun _ => zI 0))), (q77, .inr (7, [.ref (x83 0), .int (zI 0), .int (zI 0)])), ((x83 0), .inl (y 1, v1.toNat, .inl (fun _ => zI 0)))] := hD
  exact W.vret hx hb hr (fun t ht hW => ⟨⟨(fun i => ([q14, x20 0, q35, x41 0, q56, x62 0, q77, x83 0] : List Nat).getD i 0), rfl, trivial, by rw [ht]; exact hP, va_K.moved hW.alike hK, hD⟩, hS.F ht⟩) hS.2.2 d_cLevel_init_62
theorem cwi_i_Le_new {R : Room} {s : State} {args : Array Value} {own : String} {ix : Nat} (hts : ∀ w ∈ zt, w.before args s = true) (hl : (Cond.methodLink own ix y_cLevel_init).before args s = true) (h1 : 3 ≤ R.frames) (h2 : 55 ≤ R.locals) : CallB R s args own ix y_cLevel_init b_cLevel_init 3 none (.code y_cLevel_init b_cLevel_init 3 none :: zt) { frames := 2, cells := 8, slots := 652, locals := 33 } 8 652 2 ∧ y_cLevel_init.name = "<init>" ∧ (Cond.instanceMethod y_cLevel_init).before args s = true := ⟨callB_of 2 hts (zgood w_293) rfl rfl rfl (hts _ w_78) hl ⟨by decide, by decide, by decide +kernel⟩ ⟨h1, h2⟩, rfl, hts _ w_292⟩
