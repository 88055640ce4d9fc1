set_option maxHeartbeats 8000000 in
set_option maxRecDepth 100000 in
theorem i_No_newD {l : Launch} {D : va_G} {y : Nat → ClassId} (h0 sz : Nat) (r1 r4 r5 : Nat) (v2 : Int64) : Met l y_cNode_init (.code y_cNode_init b_cNode_init 6 none :: zt) { frames := 1, cells := 0, slots := 0, locals := 12 } (va_Pc [.ref h0, .ref r1, .long v2, .null, .ref r5] (fun U => U.heap.size = sz ∧ va_P D ZCL [(h0, .inr (8, [.null, .long 0, .null, .null]))] U.heap ∧ va_K D ZCL (ztys y) U ∧ va_D (fun _ => True) [(h0, .inr (8, [.null, .long 0, .null, .null]))])) (va_Qv (fun _ : Nat → Nat => True) (fun x t => va_P D ZCL [(h0, .inr (8, [.ref r1, .long v2, .null, .ref r5]))] t.heap ∧ va_K D ZCL (ztys y) t ∧ va_D (va_A [(h0, .inr (8, [.null, .long 0, .null, .null]))] sz) [(h0, .inr (8, [.ref r1, .long v2, .null, .ref r5]))]) (va_A [(h0, .inr (8, [.null, .long 0, .null, .null]))] sz)) 0 0 (va_A [(h0, .inr (8, [.null, .long 0, .null, .null]))] sz) := by
  refine Met.ofW (cc := b_cNode_init) (maxL := 6) (ret := none) (by decide) rfl ?_
  intro p e s m args below meth c s₁ Bd hml hv
  obtain ⟨hargs, hsz, hP, hK, hD0⟩ := hv
  have hx := Bd.exec
  have hb := Bd.bytes
  have hr := Bd.returns
  have hts0 := atoms_spec (ws := .code y_cNode_init b_cNode_init 6 none :: zt) Bd.pre
  have hts : ∀ w ∈ zt, w.before args s = true := fun w h => hts0 w (List.mem_cons_of_mem _ h)
  have hown : s.vm.findClass "TreeShell$Node" = some m.cls := findClass_of_methodNamed Bd.named
  have hlocks := Bd.notSynchronized
  have hin : meth.name = "<init>" := (name_of_methodNamed Bd.named Bd.method).1
  subst hsz
  have hD := hD0.self (sz := s.heap.size)
  generalize hAe : va_A [(h0, .inr (8, [.null, .long 0, .null, .null]))] s.heap.size = A at hD ⊢
  have hA : ∀ q : Nat, s.heap.size ≤ q → A q := fun q h => by rw [← hAe]; exact Or.inr h
  have hS : va_S A s.heap s.heap [] := va_S.rf
  have hP : va_P D ZCL [(h0, .inr (8, [.null, .long 0, .null, .null]))] s.heap := hP
  have hE := lg_entry_eq m ([.ref h0, .ref r1, .long v2, .null, .ref r5] : List Value) 6
  rw [← hargs] at hE
  rw [hE]
  have hl := lv_entry ([.ref h0, .ref r1, .long v2, .null, .ref r5] : List Value) (n := 6) (Nat.le_of_ble_eq_true rfl)
  generalize (lg_sl ([.ref h0, .ref r1, .long v2, .null, .ref r5] : List Value) ++ List.replicate (6 - (lg_sl ([.ref h0, .ref r1, .long v2, .null, .ref r5] : List Value)).length) Slot.unset).toArray = ls at hl ⊢
  have hl : lv_has ls 6 [(0, .ref h0), (1, .ref r1), (2, .long v2), (4, .null), (5, .ref r5)] := hl
  generalize hH : s.heap = H at hP
  have hS : va_S A s.heap H [] := by rw [← hH]; exact hS
  refine lv_aload_n hx hb d_cNode_init_0 rfl (lv_at hl 0 rfl) ?_
  refine W.objInit hx hb hown (hts _ w_182) (hts _ w_91) (hts _ w_92) rfl (by rw [hml]; exact hl.1) rfl d_cNode_init_1 (Nat.le_of_ble_eq_true rfl) (Nat.le_of_ble_eq_true rfl) ?_
  refine W.eq (g2 := F0 m 4 ls []) rfl ?_
  refine lv_aload_n hx hb d_cNode_init_4 rfl (lv_at hl 0 rfl) ?_
  refine lv_aload_n hx hb d_cNode_init_5 rfl (lv_at hl 1 rfl) ?_
  refine va_putF (D := D) (ci := 8) (v := .ref r1) (ty := .object "TreeShell$Node") (C := "TreeShell$Node") (T := F_No) (N := 4) hx hb hts i_No t_No t_No_ok n_No hown hK hP hD hS 0 rfl rfl 0 (by decide) (hts _ w_183) (fun _ h9 => h9) rfl hin rfl (by decide +kernel) rfl rfl (Nat.le_of_ble_eq_true rfl) d_cNode_init_6 (fun H locs hP hD hS => ?_)
  have hP : va_P D ZCL [(h0, .inr (8, [.ref r1, .long 0, .null, .null]))] H := hP
  have hD : va_D A [(h0, .inr (8, [.ref r1, .long 0, .null, .null]))] := hD
  refine lv_aload_n hx hb d_cNode_init_9 rfl (lv_at hl 0 rfl) ?_
  refine lv_lload_n hx hb d_cNode_init_10 rfl (lv_at hl 2 rfl) ?_
  refine va_putF (D := D) (ci := 8) (v := .long v2) (ty := .long) (C := "TreeShell$Node") (T := F_No) (N := 4) hx hb hts i_No t_No t_No_ok n_No hown hK hP hD hS 0 rfl rfl 1 (by decide) (hts _ w_186) (fun _ h9 => h9) rfl hin rfl (by decide +kernel) rfl rfl (Nat.le_of_ble_eq_true rfl) d_cNode_init_11 (fun H locs hP hD hS => ?_)
  have hP : va_P D ZCL [(h0, .inr (8, [.ref r1, .long v2, .null, .null]))] H := hP
  have hD : va_D A [(h0, .inr (8, [.ref r1, .long v2, .null, .null]))] := hD
  refine lv_aload_n hx hb d_cNode_init_14 rfl (lv_at hl 0 rfl) ?_
  refine lv_aloadN hx hb d_cNode_init_15 (lv_at hl 3 rfl) ?_
  refine va_putF (D := D) (ci := 8) (v := .null) (ty := .object "TreeShell$Text") (C := "TreeShell$Node") (T := F_No) (N := 4) hx hb hts i_No t_No t_No_ok n_No hown hK hP hD hS 0 rfl rfl 2 (by decide) (hts _ w_189) (fun _ h9 => h9) rfl hin rfl (by decide +kernel) rfl rfl (Nat.le_of_ble_eq_true rfl) d_cNode_init_17 (fun H locs hP hD hS => ?_)
  have hP : va_P D ZCL [(h0, .inr (8, [.ref r1, .long v2, .null, .null]))] H := hP
  have hD : va_D A [(h0, .inr (8, [.ref r1, .long v2, .null, .null]))] := hD
  refine lv_aload_n hx hb d_cNode_init_20 rfl (lv_at hl 0 rfl) ?_
  refine lv_aload hx hb d_cNode_init_21 (lv_at hl 4 rfl) ?_
  refine va_putF (D := D) (ci := 8) (v := .ref r5) (ty := .object "TreeShell$Node") (C := "TreeShell$Node") (T := F_No) (N := 4) hx hb hts i_No t_No t_No_ok n_No hown hK hP hD hS 0 rfl rfl 3 (by decide) (hts _ w_193) (fun _ h9 => h9) rfl hin rfl (by decide +kernel) rfl rfl (Nat.le_of_ble_eq_true rfl) d_cNode_init_23 (fun H locs hP hD hS => ?_)
  have hP : va_P D ZCL [(h0, .inr (8, [.ref r1, .long v2, .null, .ref r5]))] H := hP
  have hD : va_D A [(h0, .inr (8, [.ref r1, .long v2, .null, .ref r5]))] := hD
  exact W.vret hx hb hr (fun t ht hW => ⟨⟨(fun i => ([] : List Nat).getD i 0), rfl, trivial, by rw [ht]; exact hP, va_K.moved hW.alike hK, hD⟩, hS.F ht⟩) hS.2.2 d_cNode_init_26
theorem cwi_i_No_newD {R : Room} {s : State} {args : Array Value} {own : String} {ix : Nat} (hts : ∀ w ∈ zt, w.before args s = true) (hl : (Cond.methodLink own ix y_cNode_init).before args s = true) (h1 : 2 ≤ R.frames) (h2 : 37 ≤ R.locals) : CallB R s args own ix y_cNode_init b_cNode_init 6 none (.code y_cNode_init b_cNode_init 6 none :: zt) { frames := 1, cells := 0, slots := 0, locals := 12 } 0 0 4 ∧ y_cNode_init.name = "<init>" ∧ (Cond.instanceMethod y_cNode_init).before args s = true := ⟨callB_of 4 hts (zgood w_181) rfl rfl rfl (hts _ w_74) hl ⟨by decide, by decide, by decide +kernel⟩ ⟨h1, h2⟩, rfl, hts _ w_180⟩
set_option maxHeartbeats 8000000 in
set_option maxRecDepth 100000 in
theorem i_No_newF {l : Launch} {D : va_G} {y : Nat → ClassId} (h0 sz : Nat) (r1 r4 r5 : Nat) (v2 : Int64) : Met l y_cNode_init (.code y_cNode_init b_cNode_init 6 none :: zt) { frames := 1, cells := 0, slots := 0, locals := 12 } (va_Pc [.ref h0, .ref r1, .long v2, .ref r4, .ref r5] (fun U => U.heap.size = sz ∧ va_P D ZCL [(h0, .inr (8, [.null, .long 0, .null, .null]))] U.heap ∧ va_K D ZCL (ztys y) U ∧ va_D (fun _ => True) [(h0, .inr (8, [.null, .long 0, .null, .null]))])) (va_Qv (fun _ : Nat → Nat => True) (fun x t => va_P D ZCL [(h0, .inr (8, [.ref r1, .long v2, .ref r4, .ref r5]))] t.heap ∧ va_K D ZCL (ztys y) t ∧ va_D (va_A [(h0, .inr (8, [.null, .long 0, .null, .null]))] sz) [(h0, .inr (8, [.ref r1, .long v2, .ref r4, .ref r5]))]) (va_A [(h0, .inr (8, [.null, .long 0, .null, .null]))] sz)) 0 0 (va_A [(h0, .inr (8, [.null, .long 0, .null, .null]))] sz) := by
  refine Met.ofW (cc := b_cNode_init) (maxL := 6) (ret := none) (by decide) rfl ?_
  intro p e s m args below meth c s₁ Bd hml hv
  obtain ⟨hargs, hsz, hP, hK, hD0⟩ := hv
  have hx := Bd.exec
  have hb := Bd.bytes
  have hr := Bd.returns
  have hts0 := atoms_spec (ws := .code y_cNode_init b_cNode_init 6 none :: zt) Bd.pre
  have hts : ∀ w ∈ zt, w.before args s = true := fun w h => hts0 w (List.mem_cons_of_mem _ h)
  have hown : s.vm.findClass "TreeShell$Node" = some m.cls := findClass_of_methodNamed Bd.named
  have hlocks := Bd.notSynchronized
  have hin : meth.name = "<init>" := (name_of_methodNamed Bd.named Bd.method).1
  subst hsz
  have hD := hD0.self (sz := s.heap.size)
  generalize hAe : va_A [(h0, .inr (8, [.null, .long 0, .null, .null]))] s.heap.size = A at hD ⊢
  have hA : ∀ q : Nat, s.heap.size ≤ q → A q := fun q h => by rw [← hAe]; exact Or.inr h
  have hS : va_S A s.heap s.heap [] := va_S.rf
  have hP : va_P D ZCL [(h0, .inr (8, [.null, .long 0, .null, .null]))] s.heap := hP
  have hE := lg_entry_eq m ([.ref h0, .ref r1, .long v2, .ref r4, .ref r5] : List Value) 6
  rw [← hargs] at hE
  rw [hE]
  have hl := lv_entry ([.ref h0, .ref r1, .long v2, .ref r4, .ref r5] : List Value) (n := 6) (Nat.le_of_ble_eq_true rfl)
  generalize (lg_sl ([.ref h0, .ref r1, .long v2, .ref r4, .ref r5] : List Value) ++ List.replicate (6 - (lg_sl ([.ref h0, .ref r1, .long v2, .ref r4, .ref r5] : List Value)).length) Slot.unset).toArray = ls at hl ⊢
  have hl : lv_has ls 6 [(0, .ref h0), (1, .ref r1), (2, .long v2), (4, .ref r4), (5, .ref r5)] := hl
  generalize hH : s.heap = H at hP
  have hS : va_S A s.heap H [] := by rw [← hH]; exact hS
  refine lv_aload_n hx hb d_cNode_init_0 rfl (lv_at hl 0 rfl) ?_
  refine W.objInit hx hb hown (hts _ w_182) (hts _ w_91) (hts _ w_92) rfl (by rw [hml]; exact hl.1) rfl d_cNode_init_1 (Nat.le_of_ble_eq_true rfl) (Nat.le_of_ble_eq_true rfl) ?_
  refine W.eq (g2 := F0 m 4 ls []) rfl ?_
  refine lv_aload_n hx hb d_cNode_init_4 rfl (lv_at hl 0 rfl) ?_
  refine lv_aload_n hx hb d_cNode_init_5 rfl (lv_at hl 1 rfl) ?_
  refine va_putF (D := D) (ci := 8) (v := .ref r1) (ty := .object "TreeShell$Node") (C := "TreeShell$Node") (T := F_No) (N := 4) hx hb hts i_No t_No t_No_ok n_No hown hK hP hD hS 0 rfl rfl 0 (by decide) (hts _ w_183) (fun _ h9 => h9) rfl hin rfl (by decide +kernel) rfl rfl (Nat.le_of_ble_eq_true rfl) d_cNode_init_6 (fun H locs hP hD hS => ?_)
  have hP : va_P D ZCL [(h0, .inr (8, [.ref r1, .long 0, .null, .null]))] H := hP
  have hD : va_D A [(h0, .inr (8, [.ref r1, .long 0, .null, .null]))] := hD
  refine lv_aload_n hx hb d_cNode_init_9 rfl (lv_at hl 0 rfl) ?_
  refine lv_lload_n hx hb d_cNode_init_10 rfl (lv_at hl 2 rfl) ?_
  refine va_putF (D := D) (ci := 8) (v := .long v2) (ty := .long) (C := "TreeShell$Node") (T := F_No) (N := 4) hx hb hts i_No t_No t_No_ok n_No hown hK hP hD hS 0 rfl rfl 1 (by decide) (hts _ w_186) (fun _ h9 => h9) rfl hin rfl (by decide +kernel) rfl rfl (Nat.le_of_ble_eq_true rfl) d_cNode_init_11 (fun H locs hP hD hS => ?_)
  have hP : va_P D ZCL [(h0, .inr (8, [.ref r1, .long v2, .null, .null]))] H := hP
  have hD : va_D A [(h0, .inr (8, [.ref r1, .long v2, .null, .null]))] := hD
  refine lv_aload_n hx hb d_cNode_init_14 rfl (lv_at hl 0 rfl) ?_
  refine lv_aload hx hb d_cNode_init_15 (lv_at hl 3 rfl) ?_
  refine va_putF (D := D) (ci := 8) (v := .ref r4) (ty := .object "TreeShell$Text") (C := "TreeShell$Node") (T := F_No) (N := 4) hx hb hts i_No t_No t_No_ok n_No hown hK hP hD hS 0 rfl rfl 2 (by decide) (hts _ w_189) (fun _ h9 => h9) rfl hin rfl (by decide +kernel) rfl rfl (Nat.le_of_ble_eq_true rfl) d_cNode_init_17 (fun H locs hP hD hS => ?_)
  have hP : va_P D ZCL [(h0, .inr (8, [.ref r1, .long v2, .ref r4, .null]))] H := hP
  have hD : va_D A [(h0, .inr (8, [.ref r1, .long v2, .ref r4, .null]))] := hD
  refine lv_aload_n hx hb d_cNode_init_20 rfl (lv_at hl 0 rfl) ?_
  refine lv_aload hx hb d_cNode_init_21 (lv_at hl 4 rfl) ?_
  refine va_putF (D := D) (ci := 8) (v := .ref r5) (ty := .object "TreeShell$Node") (C := "TreeShell$Node") (T := F_No) (N := 4) hx hb hts i_No t_No t_No_ok n_No hown hK hP hD hS 0 rfl rfl 3 (by decide) (hts _ w_193) (fun _ h9 => h9) rfl hin rfl (by decide +kernel) rfl rfl (Nat.le_of_ble_eq_true rfl) d_cNode_init_23 (fun H locs hP hD hS => ?_)
  have hP : va_P D ZCL [(h0, .inr (8, [.ref r1, .long v2, .ref r4, .ref r5]))] H := hP
  have hD : va_D A [(h0, .inr (8, [.ref r1, .long v2, .ref r4, .ref r5]))] := hD
  exact W.vret hx hb hr (fun t ht hW => ⟨⟨(fun i => ([] : List Nat).getD i 0), rfl, trivial, by rw [ht]; exact hP, va_K.moved hW.alike hK, hD⟩, hS.F ht⟩) hS.2.2 d_cNode_init_26
theorem cwi_i_No_newF {R : Room} {s : State} {args : Array Value} {own : String} {ix : Nat} (hts : ∀ w ∈ zt, w.before args s = true) (hl : (Cond.methodLink own ix y_cNode_init).before args s = true) (h1 : 2 ≤ R.frames) (h2 : 37 ≤ R.locals) : CallB R s args own ix y_cNode_init b_cNode_init 6 none (.code y_cNode_init b_cNode_init 6 none :: zt) { frames := 1, cells := 0, slots := 0, locals := 12 } 0 0 4 ∧ y_cNode_init.name = "<init>" ∧ (Cond.instanceMethod y_cNode_init).before args s = true := ⟨callB_of 4 hts (zgood w_181) rfl rfl rfl (hts _ w_74) hl ⟨by decide, by decide, by decide +kernel⟩ ⟨h1, h2⟩, rfl, hts _ w_180⟩
set_option maxHeartbeats 8000000 in
set_option maxRecDepth 100000 in
theorem i_No_new {l : Launch} {D : va_G} {y : Nat → ClassId} (h0 sz : Nat) (v2 : Int64) : Met l y_cNode_init (.code y_cNode_init b_cNode_init 6 none :: zt) { frames := 1, cells := 0, slots := 0, locals := 12 } (va_Pc [.ref h0, .null, .long v2, .null, .null] (fun U => U.heap.size = sz ∧ va_P D ZCL [(h0, .inr (8, [.null, .long 0, .null, .null]))] U.heap ∧ va_K D ZCL (ztys y) U ∧ va_D (fun _ => True) [(h0, .inr (8, [.null, .long 0, .null, .null]))])) (va_Qv (fun _ : Nat → Nat => True) (fun x t => va_P D ZCL [(h0, .inr (8, [.null, .long v2, .null, .null]))] t.heap ∧ va_K D ZCL (ztys y) t ∧ va_D (va_A [(h0, .inr (8, [.null, .long 0, .null, .null]))] sz) [(h0, .inr (8, [.null, .long v2, .null, .null]))]) (va_A [(h0, .inr (8, [.null, .long 0, .null, .null]))] sz)) 0 0 (va_A [(h0, .inr (8, [.null, .long 0, .null, .null]))] sz) := by
  refine Met.ofW (cc := b_cNode_init) (maxL := 6) (ret := none) (by decide) rfl ?_
  intro p e s m args below meth c s₁ Bd hml hv
  obtain ⟨hargs, hsz, hP, hK, hD0⟩ := hv
  have hx := Bd.exec
  have hb := Bd.bytes
  have hr := Bd.returns
  have hts0 := atoms_spec (ws := .code y_cNode_init b_cNode_init 6 none :: zt) Bd.pre
  have hts : ∀ w ∈ zt, w.before args s = true := fun w h => hts0 w (List.mem_cons_of_mem _ h)
  have hown : s.vm.findClass "TreeShell$Node" = some m.cls := findClass_of_methodNamed Bd.named
  have hlocks := Bd.notSynchronized
  have hin : meth.name = "<init>" := (name_of_methodNamed Bd.named Bd.method).1
  subst hsz
  have hD := hD0.self (sz := s.heap.size)
  generalize hAe : va_A [(h0, .inr (8, [.null, .long 0, .null, .null]))] s.heap.size = A at hD ⊢
  have hA : ∀ q : Nat, s.heap.size ≤ q → A q := fun q h => by rw [← hAe]; exact Or.inr h
  have hS : va_S A s.heap s.heap [] := va_S.rf
  have hP : va_P D ZCL [(h0, .inr (8, [.null, .long 0, .null, .null]))] s.heap := hP
  have hE := lg_entry_eq m ([.ref h0, .null, .long v2, .null, .null] : List Value) 6
  rw [← hargs] at hE
  rw [hE]
  have hl := lv_entry ([.ref h0, .null, .long v2, .null, .null] : List Value) (n := 6) (Nat.le_of_ble_eq_true rfl)
  generalize (lg_sl ([.ref h0, .null, .long v2, .null, .null] : List Value) ++ List.replicate (6 - (lg_sl ([.ref h0, .null, .long v2, .null, .null] : List Value)).length) Slot.unset).toArray = ls at hl ⊢
  have hl : lv_has ls 6 [(0, .ref h0), (1, .null), (2, .long v2), (4, .null), (5, .null)] := hl
  generalize hH : s.heap = H at hP
  have hS : va_S A s.heap H [] := by rw [← hH]; exact hS
  refine lv_aload_n hx hb d_cNode_init_0 rfl (lv_at hl 0 rfl) ?_
  refine W.objInit hx hb hown (hts _ w_182) (hts _ w_91) (hts _ w_92) rfl (by rw [hml]; exact hl.1) rfl d_cNode_init_1 (Nat.le_of_ble_eq_true rfl) (Nat.le_of_ble_eq_true rfl) ?_
  refine W.eq (g2 := F0 m 4 ls []) rfl ?_
  refine lv_aload_n hx hb d_cNode_init_4 rfl (lv_at hl 0 rfl) ?_
  refine lv_aload_nN hx hb d_cNode_init_5 rfl (lv_at hl 1 rfl) ?_
  refine va_putF (D := D) (ci := 8) (v := .null) (ty := .object "TreeShell$Node") (C := "TreeShell$Node") (T := F_No) (N := 4) hx hb hts i_No t_No t_No_ok n_No hown hK hP hD hS 0 rfl rfl 0 (by decide) (hts _ w_183) (fun _ h9 => h9) rfl hin rfl (by decide +kernel) rfl rfl (Nat.le_of_ble_eq_true rfl) d_cNode_init_6 (fun H locs hP hD hS => ?_)
  have hP : va_P D ZCL [(h0, .inr (8, [.null, .long 0, .null, .null]))] H := hP
  have hD : va_D A [(h0, .inr (8, [.null, .long 0, .null, .null]))] := hD
  refine lv_aload_n hx hb d_cNode_init_9 rfl (lv_at hl 0 rfl) ?_
  refine lv_lload_n hx hb d_cNode_init_10 rfl (lv_at hl 2 rfl) ?_
  refine va_putF (D := D) (ci := 8) (v := .long v2) (ty := .long) (C := "TreeShell$Node") (T := F_No) (N := 4) hx hb hts i_No t_No t_No_ok n_No hown hK hP hD hS 0 rfl rfl 1 (by decide) (hts _ w_186) (fun _ h9 => h9) rfl hin rfl (by decide +kernel) rfl rfl (Nat.le_of_ble_eq_true rfl) d_cNode_init_11 (fun H locs hP hD hS => ?_)
  have hP : va_P D ZCL [(h0, .inr (8, [.null, .long v2, .null, .null]))] H := hP
  have hD : va_D A [(h0, .inr (8, [.null, .long v2, .null, .null]))] := hD
  refine lv_aload_n hx hb d_cNode_init_14 rfl (lv_at hl 0 rfl) ?_
  refine lv_aloadN hx hb d_cNode_init_15 (lv_at hl 3 rfl) ?_
  refine va_putF (D := D) (ci := 8) (v := .null) (ty := .object "TreeShell$Text") (C := "TreeShell$Node") (T := F_No) (N := 4) hx hb hts i_No t_No t_No_ok n_No hown hK hP hD hS 0 rfl rfl 2 (by decide) (hts _ w_189) (fun _ h9 => h9) rfl hin rfl (by decide +kernel) rfl rfl (Nat.le_of_ble_eq_true rfl) d_cNode_init_17 (fun H locs hP hD hS => ?_)
  have hP : va_P D ZCL [(h0, .inr (8, [.null, .long v2, .null, .null]))] H := hP
  have hD : va_D A [(h0, .inr (8, [.null, .long v2, .null, .null]))] := hD
  refine lv_aload_n hx hb d_cNode_init_20 rfl (lv_at hl 0 rfl) ?_
  refine lv_aloadN hx hb d_cNode_init_21 (lv_at hl 4 rfl) ?_
  refine va_putF (D := D) (ci := 8) (v := .null) (ty := .object "TreeShell$Node") (C := "TreeShell$Node") (T := F_No) (N := 4) hx hb hts i_No t_No t_No_ok n_No hown hK hP hD hS 0 rfl rfl 3 (by decide) (hts _ w_193) (fun _ h9 => h9) rfl hin rfl (by decide +kernel) rfl rfl (Nat.le_of_ble_eq_true rfl) d_cNode_init_23 (fun H locs hP hD hS => ?_)
  have hP : va_P D ZCL [(h0, .inr (8, [.null, .long v2, .null, .null]))] H := hP
  have hD : va_D A [(h0, .inr (8, [.null, .long v2, .null, .null]))] := hD
  exact W.vret hx hb hr (fun t ht hW => ⟨⟨(fun i => ([] : List Nat).getD i 0), rfl, trivial, by rw [ht]; exact hP, va_K.moved hW.alike hK, hD⟩, hS.F ht⟩) hS.2.2 d_cNode_init_26
theorem cwi_i_No_new {R : Room} {s : State} {args : Array Value} {own : String} {ix : Nat} (hts : ∀ w ∈ zt, w.before args s = true) (hl : (Cond.methodLink own ix y_cNode_init).before args s = true) (h1 : 2 ≤ R.frames) (h2 : 37 ≤ R.locals) : CallB R s args own ix y_cNode_init b_cNode_init 6 none (.code y_cNode_init b_cNode_init 6 none :: zt) { frames := 1, cells := 0, slots := 0, locals := 12 } 0 0 4 ∧ y_cNode_init.name = "<init>" ∧ (Cond.instanceMethod y_cNode_init).before args s = true := ⟨callB_of 4 hts (zgood w_181) rfl rfl rfl (hts _ w_74) hl ⟨by decide, by decide, by decide +kernel⟩ ⟨h1, h2⟩, rfl, hts _ w_180⟩
