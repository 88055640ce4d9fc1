set_option maxHeartbeats 8000000 in
set_option maxRecDepth 100000 in
theorem i_Gr_new {l : Launch} {D : va_G} {y : Nat → ClassId} (h0 sz : Nat) (r1 : Nat) : Met l y_cGrammar_init (.code y_cGrammar_init b_cGrammar_init 2 none :: zt) { frames := 1, cells := 0, slots := 0, locals := 12 } (va_Pc [.ref h0, .ref r1] (fun U => U.heap.size = sz ∧ va_P D ZCL [(h0, .inr (2, [.null, .int (zI 0)]))] U.heap ∧ va_K D ZCL (ztys y) U ∧ va_D (fun _ => True) [(h0, .inr (2, [.null, .int (zI 0)]))])) (va_Qv (fun _ : Nat → Nat => True) (fun x t => va_P D ZCL [(h0, .inr (2, [.ref r1, .int (zI 0)]))] t.heap ∧ va_K D ZCL (ztys y) t ∧ va_D (va_A [(h0, .inr (2, [.null, .int (zI 0)]))] sz) [(h0, .inr (2, [.ref r1, .int (zI 0)]))]) (va_A [(h0, .inr (2, [.null, .int (zI 0)]))] sz)) 0 0 (va_A [(h0, .inr (2, [.null, .int (zI 0)]))] sz) := by
  refine Met.ofW (cc := b_cGrammar_init) (maxL := 2) (ret := none) (by decide) rfl ?_
  intro p e s m args below meth c s₁ Bd hml hv
  obtain ⟨hargs, hsz, hP, hK, hD0⟩ := hv
  have hx := Bd.exec
  have hb := Bd.bytes
  have hr := Bd.returns
  have hts0 := atoms_spec (ws := .code y_cGrammar_init b_cGrammar_init 2 none :: zt) Bd.pre
  have hts : ∀ w ∈ zt, w.before args s = true := fun w h => hts0 w (List.mem_cons_of_mem _ h)
  have hown : s.vm.findClass "TreeShell$Grammar" = some m.cls := findClass_of_methodNamed Bd.named
  have hlocks := Bd.notSynchronized
  have hin : meth.name = "<init>" := (name_of_methodNamed Bd.named Bd.method).1
  subst hsz
  have hD := hD0.self (sz := s.heap.size)
  generalize hAe : va_A [(h0, .inr (2, [.null, .int (zI 0)]))] s.heap.size = A at hD ⊢
  have hA : ∀ q : Nat, s.heap.size ≤ q → A q := fun q h => by rw [← hAe]; exact Or.inr h
  have hS : va_S A s.heap s.heap [] := va_S.rf
  have hP : va_P D ZCL [(h0, .inr (2, [.null, .int (zI 0)]))] s.heap := hP
  have hE := lg_entry_eq m ([.ref h0, .ref r1] : List Value) 2
  rw [← hargs] at hE
  rw [hE]
  have hl := lv_entry ([.ref h0, .ref r1] : List Value) (n := 2) (Nat.le_of_ble_eq_true rfl)
  generalize (lg_sl ([.ref h0, .ref r1] : List Value) ++ List.replicate (2 - (lg_sl ([.ref h0, .ref r1] : List Value)).length) Slot.unset).toArray = ls at hl ⊢
  have hl : lv_has ls 2 [(0, .ref h0), (1, .ref r1)] := hl
  generalize hH : s.heap = H at hP
  have hS : va_S A s.heap H [] := by rw [← hH]; exact hS
  refine lv_aload_n hx hb d_cGrammar_init_0 rfl (lv_at hl 0 rfl) ?_
  refine W.objInit hx hb hown (hts _ w_154) (hts _ w_91) (hts _ w_92) rfl (by rw [hml]; exact hl.1) rfl d_cGrammar_init_1 (Nat.le_of_ble_eq_true rfl) (Nat.le_of_ble_eq_true rfl) ?_
  refine W.eq (g2 := F0 m 4 ls []) rfl ?_
  refine lv_aload_n hx hb d_cGrammar_init_4 rfl (lv_at hl 0 rfl) ?_
  refine z_iconst hx hb d_cGrammar_init_5 ?_
  refine va_put (D := D) (ci := 2) (v := .int (zI 0)) (ty := .int) (C := "TreeShell$Grammar") (T := F_Gr) (N := 2) hx hb hts i_Gr t_Gr t_Gr_ok n_Gr hown hK hP hD hS 0 rfl rfl 1 (by decide) (hts _ w_156) (fun _ h9 => h9) rfl (by decide +kernel) rfl rfl (Nat.le_of_ble_eq_true rfl) d_cGrammar_init_6 (fun H locs hP hD hS => ?_)
  have hP : va_P D ZCL [(h0, .inr (2, [.null, .int (zI 0)]))] H := hP
  have hD : va_D A [(h0, .inr (2, [.null, .int (zI 0)]))] := hD
  refine lv_aload_n hx hb d_cGrammar_init_9 rfl (lv_at hl 0 rfl) ?_
  refine lv_aload_n hx hb d_cGrammar_init_10 rfl (lv_at hl 1 rfl) ?_
  refine va_putF (D := D) (ci := 2) (v := .ref r1) (ty := .object "TreeShell$Tokens") (C := "TreeShell$Grammar") (T := F_Gr) (N := 2) hx hb hts i_Gr t_Gr t_Gr_ok n_Gr hown hK hP hD hS 0 rfl rfl 0 (by decide) (hts _ w_155) (fun _ h9 => h9) rfl hin rfl (by decide +kernel) rfl rfl (Nat.le_of_ble_eq_true rfl) d_cGrammar_init_11 (fun H locs hP hD hS => ?_)
  have hP : va_P D ZCL [(h0, .inr (2, [.ref r1, .int (zI 0)]))] H := hP
  have hD : va_D A [(h0, .inr (2, [.ref r1, .int (zI 0)]))] := hD
  exact W.vret hx hb hr (fun t ht hW => ⟨⟨(fun i => ([] : List Nat).getD i 0), rfl, trivial, by rw [ht]; exact hP, va_K.moved hW.alike hK, hD⟩, hS.F ht⟩) hS.2.2 d_cGrammar_init_14
theorem cwi_i_Gr_new {R : Room} {s : State} {args : Array Value} {own : String} {ix : Nat} (hts : ∀ w ∈ zt, w.before args s = true) (hl : (Cond.methodLink own ix y_cGrammar_init).before args s = true) (h1 : 2 ≤ R.frames) (h2 : 33 ≤ R.locals) : CallB R s args own ix y_cGrammar_init b_cGrammar_init 2 none (.code y_cGrammar_init b_cGrammar_init 2 none :: zt) { frames := 1, cells := 0, slots := 0, locals := 12 } 0 0 1 ∧ y_cGrammar_init.name = "<init>" ∧ (Cond.instanceMethod y_cGrammar_init).before args s = true := ⟨callB_of 1 hts (zgood w_153) rfl rfl rfl (hts _ w_71) hl ⟨by decide, by decide, by decide +kernel⟩ ⟨h1, h2⟩, rfl, hts _ w_152⟩
