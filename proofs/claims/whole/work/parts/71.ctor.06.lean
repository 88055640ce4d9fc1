set_option maxHeartbeats 8000000 in
set_option maxRecDepth 100000 in
theorem i_To_new {l : Launch} {D : va_G} {y : Nat → ClassId} (h0 sz : Nat) (r1 r2 : Nat) : Met l y_cTools_init (.code y_cTools_init b_cTools_init 3 none :: zt) { frames := 1, cells := 0, slots := 0, locals := 12 } (va_Pc [.ref h0, .ref r1, .ref r2] (fun U => U.heap.size = sz ∧ va_P D ZCL [(h0, .inr (6, [.null, .null]))] U.heap ∧ va_K D ZCL (ztys y) U ∧ va_D (fun _ => True) [(h0, .inr (6, [.null, .null]))])) (va_Qv (fun _ : Nat → Nat => True) (fun x t => va_P D ZCL [(h0, .inr (6, [.ref r1, .ref r2]))] t.heap ∧ va_K D ZCL (ztys y) t ∧ va_D (va_A [(h0, .inr (6, [.null, .null]))] sz) [(h0, .inr (6, [.ref r1, .ref r2]))]) (va_A [(h0, .inr (6, [.null, .null]))] sz)) 0 0 (va_A [(h0, .inr (6, [.null, .null]))] sz) := by
  refine Met.ofW (cc := b_cTools_init) (maxL := 3) (ret := none) (by decide) rfl ?_
  intro p e s m args below meth c s₁ Bd hml hv
  obtain ⟨hargs, hsz, hP, hK, hD0⟩ := hv
  have hx := Bd.exec
  have hb := Bd.bytes
  have hr := Bd.returns
  have hts0 := atoms_spec (ws := .code y_cTools_init b_cTools_init 3 none :: zt) Bd.pre
  have hts : ∀ w ∈ zt, w.before args s = true := fun w h => hts0 w (List.mem_cons_of_mem _ h)
  have hown : s.vm.findClass "TreeShell$Tools" = some m.cls := findClass_of_methodNamed Bd.named
  have hlocks := Bd.notSynchronized
  have hin : meth.name = "<init>" := (name_of_methodNamed Bd.named Bd.method).1
  subst hsz
  have hD := hD0.self (sz := s.heap.size)
  generalize hAe : va_A [(h0, .inr (6, [.null, .null]))] s.heap.size = A at hD ⊢
  have hA : ∀ q : Nat, s.heap.size ≤ q → A q := fun q h => by rw [← hAe]; exact Or.inr h
  have hS : va_S A s.heap s.heap [] := va_S.rf
  have hP : va_P D ZCL [(h0, .inr (6, [.null, .null]))] s.heap := hP
  have hE := lg_entry_eq m ([.ref h0, .ref r1, .ref r2] : List Value) 3
  rw [← hargs] at hE
  rw [hE]
  have hl := lv_entry ([.ref h0, .ref r1, .ref r2] : List Value) (n := 3) (Nat.le_of_ble_eq_true rfl)
  generalize (lg_sl ([.ref h0, .ref r1, .ref r2] : List Value) ++ List.replicate (3 - (lg_sl ([.ref h0, .ref r1, .ref r2] : List Value)).length) Slot.unset).toArray = ls at hl ⊢
  have hl : lv_has ls 3 [(0, .ref h0), (1, .ref r1), (2, .ref r2)] := hl
  generalize hH : s.heap = H at hP
  have hS : va_S A s.heap H [] := by rw [← hH]; exact hS
  refine lv_aload_n hx hb d_cTools_init_0 rfl (lv_at hl 0 rfl) ?_
  refine W.objInit hx hb hown (hts _ w_282) (hts _ w_91) (hts _ w_92) rfl (by rw [hml]; exact hl.1) rfl d_cTools_init_1 (Nat.le_of_ble_eq_true rfl) (Nat.le_of_ble_eq_true rfl) ?_
  refine W.eq (g2 := F0 m 4 ls []) rfl ?_
  refine lv_aload_n hx hb d_cTools_init_4 rfl (lv_at hl 0 rfl) ?_
  refine lv_aload_n hx hb d_cTools_init_5 rfl (lv_at hl 1 rfl) ?_
  refine va_putF (D := D) (ci := 6) (v := .ref r1) (ty := .object "TreeShell$Words") (C := "TreeShell$Tools") (T := F_To) (N := 2) hx hb hts i_To t_To t_To_ok n_To hown hK hP hD hS 0 rfl rfl 0 (by decide) (hts _ w_283) (fun _ h9 => h9) rfl hin rfl (by decide +kernel) rfl rfl (Nat.le_of_ble_eq_true rfl) d_cTools_init_6 (fun H locs hP hD hS => ?_)
  have hP : va_P D ZCL [(h0, .inr (6, [.ref r1, .null]))] H := hP
  have hD : va_D A [(h0, .inr (6, [.ref r1, .null]))] := hD
  refine lv_aload_n hx hb d_cTools_init_9 rfl (lv_at hl 0 rfl) ?_
  refine lv_aload_n hx hb d_cTools_init_10 rfl (lv_at hl 2 rfl) ?_
  refine va_putF (D := D) (ci := 6) (v := .ref r2) (ty := .object "TreeShell$Tree") (C := "TreeShell$Tools") (T := F_To) (N := 2) hx hb hts i_To t_To t_To_ok n_To hown hK hP hD hS 0 rfl rfl 1 (by decide) (hts _ w_284) (fun _ h9 => h9) rfl hin rfl (by decide +kernel) rfl rfl (Nat.le_of_ble_eq_true rfl) d_cTools_init_11 (fun H locs hP hD hS => ?_)
  have hP : va_P D ZCL [(h0, .inr (6, [.ref r1, .ref r2]))] H := hP
  have hD : va_D A [(h0, .inr (6, [.ref r1, .ref r2]))] := hD
  exact W.vret hx hb hr (fun t ht hW => ⟨⟨(fun i => ([] : List Nat).getD i 0), rfl, trivial, by rw [ht]; exact hP, va_K.moved hW.alike hK, hD⟩, hS.F ht⟩) hS.2.2 d_cTools_init_14
theorem cwi_i_To_new {R : Room} {s : State} {args : Array Value} {own : String} {ix : Nat} (hts : ∀ w ∈ zt, w.before args s = true) (hl : (Cond.methodLink own ix y_cTools_init).before args s = true) (h1 : 2 ≤ R.frames) (h2 : 34 ≤ R.locals) : CallB R s args own ix y_cTools_init b_cTools_init 3 none (.code y_cTools_init b_cTools_init 3 none :: zt) { frames := 1, cells := 0, slots := 0, locals := 12 } 0 0 2 ∧ y_cTools_init.name = "<init>" ∧ (Cond.instanceMethod y_cTools_init).before args s = true := ⟨callB_of 2 hts (zgood w_281) rfl rfl rfl (hts _ w_77) hl ⟨by decide, by decide, by decide +kernel⟩ ⟨h1, h2⟩, rfl, hts _ w_280⟩
