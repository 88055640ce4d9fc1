set_option maxHeartbeats 8000000 in
set_option maxRecDepth 100000 in
theorem i_Wo_new {l : Launch} {D : va_G} {y : Nat → ClassId} (h0 sz : Nat) : Met l y_cWords_init (.code y_cWords_init b_cWords_init 1 none :: zt) { frames := 2, cells := 3, slots := 227, locals := 33 } (va_Pc [.ref h0] (fun U => U.heap.size = sz ∧ va_P D ZCL [(h0, .inr (5, [.null, .null, .int (zI 0)]))] U.heap ∧ va_K D ZCL (ztys y) U ∧ va_D (fun _ => True) [(h0, .inr (5, [.null, .null, .int (zI 0)]))])) (va_Qv (fun _ : Nat → Nat => True) (fun x t => va_P D ZCL [(h0, .inr (5, [.ref (x 0), .ref (x 2), .int (zI 0)])), ((x 0), .inr (7, [.ref ((x 1)), .int (zI 0), .int (zI 0)])), (((x 1)), .inl (y 1, 96, .inl (fun _ => zI 0))), ((x 2), .inl (y 0, 64, .inl (fun _ => zI 0)))] t.heap ∧ va_K D ZCL (ztys y) t ∧ va_D (va_A [(h0, .inr (5, [.null, .null, .int (zI 0)]))] sz) [(h0, .inr (5, [.ref (x 0), .ref (x 2), .int (zI 0)])), ((x 0), .inr (7, [.ref ((x 1)), .int (zI 0), .int (zI 0)])), (((x 1)), .inl (y 1, 96, .inl (fun _ => zI 0))), ((x 2), .inl (y 0, 64, .inl (fun _ => zI 0)))]) (va_A [(h0, .inr (5, [.null, .null, .int (zI 0)]))] sz)) 3 227 (va_A [(h0, .inr (5, [.null, .null, .int (zI 0)]))] sz) := by
  refine Met.ofW (cc := b_cWords_init) (maxL := 1) (ret := none) (by decide) rfl ?_
  intro p e s m args below meth c s₁ Bd hml hv
  obtain ⟨hargs, hsz, hP, hK, hD0⟩ := hv
  have hx := Bd.exec
  have hb := Bd.bytes
  have hr := Bd.returns
  have hts0 := atoms_spec (ws := .code y_cWords_init b_cWords_init 1 none :: zt) Bd.pre
  have hts : ∀ w ∈ zt, w.before args s = true := fun w h => hts0 w (List.mem_cons_of_mem _ h)
  have hown : s.vm.findClass "TreeShell$Words" = some m.cls := findClass_of_methodNamed Bd.named
  have hlocks := Bd.notSynchronized
  have hin : meth.name = "<init>" := (name_of_methodNamed Bd.named Bd.method).1
  subst hsz
  have hD := hD0.self (sz := s.heap.size)
  generalize hAe : va_A [(h0, .inr (5, [.null, .null, .int (zI 0)]))] s.heap.size = A at hD ⊢
  have hA : ∀ q : Nat, s.heap.size ≤ q → A q := fun q h => by rw [← hAe]; exact Or.inr h
  have hS : va_S A s.heap s.heap [] := va_S.rf
  have hP : va_P D ZCL [(h0, .inr (5, [.null, .null, .int (zI 0)]))] s.heap := hP
  have hE := lg_entry_eq m ([.ref h0] : List Value) 1
  rw [← hargs] at hE
  rw [hE]
  have hl := lv_entry ([.ref h0] : List Value) (n := 1) (Nat.le_of_ble_eq_true rfl)
  generalize (lg_sl ([.ref h0] : List Value) ++ List.replicate (1 - (lg_sl ([.ref h0] : List Value)).length) Slot.unset).toArray = ls at hl ⊢
  have hl : lv_has ls 1 [(0, .ref h0)] := hl
  generalize hH : s.heap = H at hP
  have hS : va_S A s.heap H [] := by rw [← hH]; exact hS
  refine lv_aload_n hx hb d_cWords_init_0 rfl (lv_at hl 0 rfl) ?_
  refine W.objInit hx hb hown (hts _ w_259) (hts _ w_91) (hts _ w_92) rfl (by rw [hml]; exact hl.1) rfl d_cWords_init_1 (Nat.le_of_ble_eq_true rfl) (Nat.le_of_ble_eq_true rfl) ?_
  refine W.eq (g2 := F0 m 4 ls []) rfl ?_
  refine lv_aload_n hx hb d_cWords_init_4 rfl (lv_at hl 0 rfl) ?_
  refine va_new (ci := 7) (fs := [.null, .int (zI 0), .int (zI 0)]) (C := "TreeShell$Text") (T := F_Tx) (N := 3) hx hb hts i_Tx t_Tx t_Tx_ok hown (hts _ w_260) (hts _ w_94) (hts _ w_69) hK hP hD hS hA rfl (fun j hj => by rcases (show j = 0 ∨ j = 1 ∨ j = 2 by omega) with rfl | rfl | rfl <;> rfl) (Nat.le_of_ble_eq_true rfl) (Nat.le_of_ble_eq_true rfl) d_cWords_init_5 (fun q4 H hP hD hS => ?_)
  have hP : va_P D ZCL [(h0, .inr (5, [.null, .null, .int (zI 0)])), (q4, .inr (7, [.null, .int (zI 0), .int (zI 0)]))] H := hP
  have hD : va_D A [(h0, .inr (5, [.null, .null, .int (zI 0)])), (q4, .inr (7, [.null, .int (zI 0), .int (zI 0)]))] := hD
  refine W.widen (k := 1) (n := 3) (by omega) (by omega) ?_
  refine lv_dup hx hb d_cWords_init_8 rfl ?_
  refine z_bipush hx hb d_cWords_init_9 rfl ?_
  have hPc := hP.sub (ws' := [(q4, .inr (7, [.null, .int (zI 0), .int (zI 0)]))]) [1] rfl
  have hDc := hD.sub (ws' := [(q4, .inr (7, [.null, .int (zI 0), .int (zI 0)]))]) [1] (by decide) rfl
  have hFc := va_free (wc := [(q4, .inr (7, [.null, .int (zI 0), .int (zI 0)]))]) hD hS hA [1] rfl
  refine va_callv (va_runI (As := [.int (zI 96)]) (rest := [.ref q4, .ref h0]) ⟨hx, hb, hml, hown, hts⟩ (i_Tx_new q4 H.size 96 (by decide)) (cwi_i_Tx_new hts (hts _ w_261) (Nat.le_of_ble_eq_true rfl) (Nat.le_of_ble_eq_true rfl)) ⟨z_ib, fun U hU hW => ⟨rfl, by rw [hU], by rw [hU]; exact hPc, va_K.moved hW.alike hK, hDc.weaken (fun _ _ _ _ => trivial)⟩⟩ rfl rfl hl.1 rfl (lv_room (Nat.le_of_ble_eq_true rfl)) d_cWords_init_11 ⟨Nat.le_of_ble_eq_true rfl, Nat.le_of_ble_eq_true rfl⟩) hS (fun q _ h => hFc q h) hFc (fun x10 t H1 locs ht hvm h9 hB hz1 hk1 hS => ?_)
  obtain ⟨hP1, hK1, hD1⟩ := hB
  rw [ht] at hP1
  obtain ⟨hP, hD⟩ := va_join (wr := [(h0, .inr (5, [.null, .null, .int (zI 0)]))]) (w1 := [(q4, .inr (7, [.ref (x10 0), .int (zI 0), .int (zI 0)])), ((x10 0), .inl (y 1, 96, .inl (fun _ => zI 0)))]) hP hD [1] [0] rfl rfl (by decide) (by decide) hk1 hFc hP1 hD1
  generalize H1 = H at hP hS ⊢
  have hP : va_P D ZCL [(h0, .inr (5, [.null, .null, .int (zI 0)])), (q4, .inr (7, [.ref (x10 0), .int (zI 0), .int (zI 0)])), ((x10 0), .inl (y 1, 96, .inl (fun _ => zI 0)))] H := hP
  have hD : va_D A [(h0, .inr (5, [.null, .null, .int (zI 0)])), (q4, .inr (7, [.ref (x10 0), .int (zI 0), .int (zI 0)])), ((x10 0), .inl (y 1, 96, .inl (fun _ => zI 0)))] := hD
  refine W.widen (k := 2) (n := 163) (by omega) (by omega) ?_
  refine va_putF (D := D) (ci := 5) (v := .ref q4) (ty := .object "TreeShell$Text") (C := "TreeShell$Words") (T := F_Wo) (N := 3) hx hb hts i_Wo t_Wo t_Wo_ok n_Wo hown hK hP hD hS 0 rfl rfl 0 (by decide) (hts _ w_262) (fun _ h9 => h9) rfl hin rfl (by decide +kernel) rfl rfl (Nat.le_of_ble_eq_true rfl) d_cWords_init_14 (fun H locs hP hD hS => ?_)
  have hP : va_P D ZCL [(h0, .inr (5, [.ref q4, .null, .int (zI 0)])), (q4, .inr (7, [.ref (x10 0), .int (zI 0), .int (zI 0)])), ((x10 0), .inl (y 1, 96, .inl (fun _ => zI 0)))] H := hP
  have hD : va_D A [(h0, .inr (5, [.ref q4, .null, .int (zI 0)])), (q4, .inr (7, [.ref (x10 0), .int (zI 0), .int (zI 0)])), ((x10 0), .inl (y 1, 96, .inl (fun _ => zI 0)))] := hD
  refine lv_aload_n hx hb d_cWords_init_17 rfl (lv_at hl 0 rfl) ?_
  refine z_bipush hx hb d_cWords_init_18 rfl ?_
  refine z_newa_I (N := 64) hx hb (hts _ w_148) hK hP hD hS hA (by decide) (by decide) (by decide) (Nat.le_of_ble_eq_true rfl) (by show 163 + 64 ≤ 227; omega) d_cWords_init_20 (fun q26 H hP hD hS => ?_)
  have hP : va_P D ZCL [(h0, .inr (5, [.ref q4, .null, .int (zI 0)])), (q4, .inr (7, [.ref (x10 0), .int (zI 0), .int (zI 0)])), ((x10 0), .inl (y 1, 96, .inl (fun _ => zI 0))), (q26, .inl (y 0, 64, .inl (fun _ => zI 0)))] H := hP
  have hD : va_D A [(h0, .inr (5, [.ref q4, .null, .int (zI 0)])), (q4, .inr (7, [.ref (x10 0), .int (zI 0), .int (zI 0)])), ((x10 0), .inl (y 1, 96, .inl (fun _ => zI 0))), (q26, .inl (y 0, 64, .inl (fun _ => zI 0)))] := hD
  refine W.widen (k := 3) (n := 227) (by omega) (by omega) ?_
  refine va_putF (D := D) (ci := 5) (v := .ref q26) (ty := .array .int) (C := "TreeShell$Words") (T := F_Wo) (N := 3) hx hb hts i_Wo t_Wo t_Wo_ok n_Wo hown hK hP hD hS 0 rfl rfl 1 (by decide) (hts _ w_265) (fun _ h9 => h9) rfl hin rfl (by decide +kernel) rfl rfl (Nat.le_of_ble_eq_true rfl) d_cWords_init_22 (fun H locs hP hD hS => ?_)
  have hP : va_P D ZCL [(h0, .inr (5, [.ref q4, .ref q26, .int (zI 0)])), (q4, .inr (7, [.ref (x10 0), .int (zI 0), .int (zI 0)])), ((x10 0), .inl (y 1, 96, .inl (fun _ => zI 0))), (q26, .inl (y 0, 64, .inl (fun _ => zI 0)))] H := hP
  have hD : va_D A [(h0, .inr (5, [.ref q4, .ref q26, .int (zI 0)])), (q4, .inr (7, [.ref (x10 0), .int (zI 0), .int (zI 0)])), ((x10 0), .inl (y 1, 96, .inl (fun _ => zI 0))), (q26, .inl (y 0, 64, .inl (fun _ => zI 0)))] := hD
  refine lv_aload_n hx hb d_cWords_init_25 rfl (lv_at hl 0 rfl) ?_
  refine z_iconst hx hb d_cWords_init_26 ?_
  refine va_put (D := D) (ci := 5) (v := .int (zI 0)) (ty := .int) (C := "TreeShell$Words") (T := F_Wo) (N := 3) hx hb hts i_Wo t_Wo t_Wo_ok n_Wo hown hK hP hD hS 0 rfl rfl 2 (by decide) (hts _ w_266) (fun _ h9 => h9) rfl (by decide +kernel) rfl rfl (Nat.le_of_ble_eq_true rfl) d_cWords_init_27 (fun H locs hP hD hS => ?_)
  have hP : va_P D ZCL [(h0, .inr (5, [.ref q4, .ref q26, .int (zI 0)])), (q4, .inr (7, [.ref (x10 0), .int (zI 0), .int (zI 0)])), ((x10 0), .inl (y 1, 96, .inl (fun _ => zI 0))), (q26, .inl (y 0, 64, .inl (fun _ => zI 0)))] H := hP
  have hD : va_D A [(h0, .inr (5, [.ref q4, .ref q26, .int (zI 0)])), (q4, .inr (7, [.ref (x10 0), .int (zI 0), .int (zI 0)])), ((x10 0), .inl (y 1, 96, .inl (fun _ => zI 0))), (q26, .inl (y 0, 64, .inl (fun _ => zI 0)))] := hD
  exact W.vret hx hb hr (fun t ht hW => ⟨⟨(fun i => ([q4, x10 0, q26] : List Nat).getD i 0), rfl, trivial, by rw [ht]; exact hP, va_K.moved hW.alike hK, hD⟩, hS.F ht⟩) hS.2.2 d_cWords_init_30
theorem cwi_i_Wo_new {R : Room} {s : State} {args : Array Value} {own host : String} {ix : Nat} (hts : ∀ w ∈ zt, w.before args s = true) (hl : va_Nw (.methodLinkNest own ix y_cWords_init host) s) (h1 : 3 ≤ R.frames) (h2 : 53 ≤ R.locals) : va_CN R s args own ix y_cWords_init host b_cWords_init 1 none (.code y_cWords_init b_cWords_init 1 none :: zt) { frames := 2, cells := 3, slots := 227, locals := 33 } 3 227 0 ∧ y_cWords_init.name = "<init>" ∧ (Cond.instanceMethod y_cWords_init).before args s = true := ⟨va_cnB 0 hts (zgood w_258) rfl rfl rfl hl (hts _ w_76) ⟨by decide, by decide, by decide +kernel⟩ ⟨h1, h2⟩, rfl, hts _ w_257⟩
