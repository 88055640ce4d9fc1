/-- what the tables say beside zt: the array of levels; the link of a nest mate -/
def zxc (U : State) : Prop := va_AO "TreeShell$Level" U ∧ va_Nw (.methodLinkNest "TreeShell$Runner" 22 y_cWords_init "TreeShell") U
theorem zxc_moved {s U : State} (hW : s.WarmedH U.vm) (h : zxc s) : zxc U := ⟨va_AO.moved hW.alike h.1, va_Nw.warmM hW h.2⟩
theorem z_ibx {L : List Value} {n : Nat} {D : va_G} {y : Nat → ClassId} {ws : va_W} {A : Nat → Prop} : FrameBlind (va_Pc L (fun U => U.heap.size = n ∧ va_P D ZCL ws U.heap ∧ va_K D ZCL (ztys y) U ∧ va_D A ws ∧ zxc U)) := fun a U g mk h => ⟨h.1, h.2.1, h.2.2.1, va_K.moved (u := U) (U := U.calling g mk a) (Vm.Alike.refl U.vm) h.2.2.2.1, h.2.2.2.2.1, va_AO.moved (u := U) (U := U.calling g mk a) (Vm.Alike.refl U.vm) h.2.2.2.2.2.1, va_Nw.same (u := U) (U := U.calling g mk a) rfl rfl h.2.2.2.2.2.2⟩
set_option maxRecDepth 100000 in
theorem kw_within {l : Launch} (a b k : Int) : Met l y_cShell_within (.code y_cShell_within b_cShell_within 3 (some .int) :: zt) { frames := 1, cells := 0, slots := 0, locals := 30 } (va_Pc [.int (zI a), .int (zI b), .int (zI k)] (fun _ => True)) (va_Qi (fun v (_ : Unit) => v = zI (zmax a (zmin b k))) (fun _ _ => True) (fun _ => False)) 0 0 (fun _ => False) := by
  refine Met.ofW (cc := b_cShell_within) (maxL := 3) (ret := some .int) (by decide) rfl ?_
  intro p e s m args below meth c s₁ Bd hml hv
  obtain ⟨hargs, -⟩ := hv
  have hx := Bd.exec
  have hb := Bd.bytes
  have hr := Bd.returns
  have hts0 := atoms_spec (ws := .code y_cShell_within b_cShell_within 3 (some .int) :: zt) Bd.pre
  have hts : ∀ w ∈ zt, w.before args s = true := fun w h => hts0 w (List.mem_cons_of_mem _ h)
  have hown : s.vm.findClass "TreeShell" = some m.cls := findClass_of_methodNamed Bd.named
  have hlocks := Bd.notSynchronized
  have hS : va_S (fun _ => False) s.heap s.heap [] := va_S.rf
  have hE := lg_entry_eq m ([.int (zI a), .int (zI b), .int (zI k)] : List Value) 3
  rw [← hargs] at hE
  rw [hE]
  have hl := lv_entry ([.int (zI a), .int (zI b), .int (zI k)] : List Value) (n := 3) (Nat.le_of_ble_eq_true rfl)
  generalize (lg_sl ([.int (zI a), .int (zI b), .int (zI k)] : List Value) ++ List.replicate (3 - (lg_sl ([.int (zI a), .int (zI b), .int (zI k)] : List Value)).length) Slot.unset).toArray = ls at hl ⊢
  have hl : lv_has ls 3 [(0, .int (zI a)), (1, .int (zI b)), (2, .int (zI k))] := hl
  refine lv_iload_n hx hb d_cShell_within_0 rfl (lv_at hl 0 rfl) ?_
  refine lv_iload_n hx hb d_cShell_within_1 rfl (lv_at hl 1 rfl) ?_
  refine lv_iload_n hx hb d_cShell_within_2 rfl (lv_at hl 2 rfl) ?_
  refine z_mmin hx hb hown hts hml (Nat.le_of_ble_eq_true rfl) (Nat.le_of_ble_eq_true rfl) hl.1 (Nat.le_of_ble_eq_true rfl) ⟨Nat.zero_le _, Nat.zero_le _⟩ (hts _ w_167) d_cShell_within_3 ?_
  refine z_mmax hx hb hown hts hml (Nat.le_of_ble_eq_true rfl) (Nat.le_of_ble_eq_true rfl) hl.1 (Nat.le_of_ble_eq_true rfl) ⟨Nat.zero_le _, Nat.zero_le _⟩ (hts _ w_170) d_cShell_within_6 ?_
  exact W.iret hx hb hr (fun t ht hW => ⟨⟨_, (), rfl, rfl, trivial⟩, hS.F ht⟩) hS.2.2 d_cShell_within_9 (hlocks := hlocks)
section
variable {p : Program} {l : Launch} {e : Env} {R : Room} {s : State} {m : MethodId} {args : Array Value} {below : List Frame} {meth : Method} {c : Code} {H H0 : Heap} {locs : List Loc} {cells slots : Nat} {Q : State → Prop}
variable {cc : ByteArray} {pc : Nat} {ls : Array Slot} {rest : List Value} {α : Type} {o : α} {D : va_G} {B : Nat} {y : Nat → ClassId} {ad : Nat × Nat → Nat} {q : Bool} {u : ZC} {r : ZR}
theorem z_within {ix nL : Nat} {A : Nat → Prop} {ws : va_W} {a b k : Int} {st0 : List Value} (hx : p.tables.exec = Jvm.exec) (hb : c.code = cc) (hml : c.maxLocals = nL) (hown : s.vm.findClass "TreeShell" = some m.cls) (hts : ∀ w ∈ zt, w.before args s = true) (hlk : (Cond.methodLink "TreeShell" ix y_cShell_within).before args s = true) (hfr : 2 ≤ R.frames) (hlo : 52 ≤ R.locals) (hz : ls.size = nL) (hst : st0 = .int (zI k) :: .int (zI b) :: .int (zI a) :: rest) (hrm : (rest.map fun v => v.category).sum ≤ 8) (hcs : cells ≤ R.cells ∧ slots ≤ R.slots) (hP : va_P D ZCL ws H) (hS : va_S A s.heap H locs) (hd : decode cc pc = .ok (.invokestatic ix, 3)) (kk : ∀ (H1 : Heap) (locs1 : List Loc), va_P D ZCL ws H1 → va_S A s.heap H1 locs1 → W p l e R s m args below meth c H1 locs1 cells slots Q (F0 m (pc + 3) ls (.int (zI (zmax a (zmin b k))) :: rest))) : W p l e R s m args below meth c H locs cells slots Q (F0 m (pc) ls (st0)) := by
  refine va_calli (va_runS (As := [.int (zI a), .int (zI b), .int (zI k)]) (rest := rest) (g := F0 m pc ls st0) ⟨hx, hb, hml, hown, hts⟩ (kw_within a b k) ⟨callB_of 3 hts (zgood w_166) rfl rfl rfl (hts _ w_68) hlk ⟨by decide, by decide, by decide +kernel⟩ ⟨hfr, hlo⟩, hts _ w_165⟩ ⟨fun a U g mk h => ⟨h.1, trivial⟩, fun U hU hW => ⟨rfl, trivial⟩⟩ rfl rfl hz hst (lv_room hrm) hd hcs) hS (fun q _ h => h.elim) (fun q h => h.elim) (fun v _ t H1 locs1 ht hvm hv hP1 hz1 hk1 hS => ?_)
  obtain rfl := hv
  exact kk H1 locs1 (hP.kept (fun j x hx => hk1 x.1 ((hP j x hx).lt) (fun h => h))) hS
end
section
variable {p : Program} {l : Launch} {e : Env} {R : Room} {s : State} {m : MethodId} {args : Array Value} {below : List Frame} {meth : Method} {c : Code} {H H0 : Heap} {locs : List Loc} {cells slots : Nat} {Q : State → Prop}
variable {cc : ByteArray} {pc : Nat} {ls : Array Slot} {rest : List Value} {α : Type} {o : α} {D : va_G} {B : Nat} {y : Nat → ClassId} {ad : Nat × Nat → Nat} {q : Bool} {u : ZC} {r : ZR}
theorem z_aload_nR (hx : p.tables.exec = Jvm.exec) (hb : c.code = cc) {k9 : Fin 4} {i : Nat} {w : Option Nat} (hd : decode cc pc = .ok (.aload_n k9, 1)) (hi : (k9 : Nat) = i) (hl : ls[i]? = some (.val (va_rf w))) (k : W p l e R s m args below meth c H locs cells slots Q (F0 m (pc + 1) ls (va_rf w :: rest))) : W p l e R s m args below meth c H locs cells slots Q (F0 m (pc) ls (rest)) := by
  cases w with
  | none => exact lv_aload_nN hx hb hd hi hl k
  | some n => exact lv_aload_n hx hb hd hi hl k
theorem z_aloadR (hx : p.tables.exec = Jvm.exec) (hb : c.code = cc) {i : Nat} {w : Option Nat} (hd : decode cc pc = .ok (.aload i, 2)) (hl : ls[i]? = some (.val (va_rf w))) (k : W p l e R s m args below meth c H locs cells slots Q (F0 m (pc + 2) ls (va_rf w :: rest))) : W p l e R s m args below meth c H locs cells slots Q (F0 m (pc) ls (rest)) := by
  cases w with
  | none => exact lv_aloadN hx hb hd hl k
  | some n => exact lv_aload hx hb hd hl k
theorem z_newa_I {A : Nat → Prop} {ws : va_W} {n : Int32} {N : Nat} (hx : p.tables.exec = Jvm.exec) (hb : c.code = cc) (harr : (Cond.arrayClass .int).before args s = true) (hK : va_K D ZCL (ztys y) s) (hP : va_P D ZCL ws H) (hD : va_D A ws) (hS : va_S A s.heap H locs) (hA : ∀ q, s.heap.size ≤ q → A q) (hn : ¬ n < 0) (hN : n.toNatClampNeg = N) (hby : N ≤ 4096) (hc : cells + 1 ≤ R.cells) (hs : slots + N ≤ R.slots) (hd : decode cc pc = .ok (.newarray .int, 2)) (kk : ∀ (q : Nat) (H1 : Heap), va_P D ZCL (ws ++ [(q, .inl (y 0, N, .inl (fun _ => zI 0)))]) H1 → va_D A (ws ++ [(q, .inl (y 0, N, .inl (fun _ => zI 0)))]) → va_S A s.heap H1 locs → W p l e R s m args below meth c H1 locs (cells + 1) (slots + N) Q (F0 m (pc + 2) ls (.ref q :: rest))) : W p l e R s m args below meth c H locs cells slots Q (F0 m (pc) ls (.int n :: rest)) := by
  refine va_newa (atype := .int) (ty := .int) (a0 := (N, .inl (fun _ => zI 0))) hx hb harr rfl hK hP hD hS hA (fun _ => rfl) hn hN (Nat.le_trans (Nat.mul_le_mul hby (show componentBytes .int ≤ 8 by decide)) (by decide)) hc hs hd (fun q cA H1 hK1 hP1 hD1 hS1 => ?_)
  have e : cA = y 0 := z_ty hK hK1 (k := 0) rfl
  subst e
  exact kk q H1 hP1 hD1 hS1
theorem z_newa_C {A : Nat → Prop} {ws : va_W} {n : Int32} {N : Nat} (hx : p.tables.exec = Jvm.exec) (hb : c.code = cc) (harr : (Cond.arrayClass .char).before args s = true) (hK : va_K D ZCL (ztys y) s) (hP : va_P D ZCL ws H) (hD : va_D A ws) (hS : va_S A s.heap H locs) (hA : ∀ q, s.heap.size ≤ q → A q) (hn : ¬ n < 0) (hN : n.toNatClampNeg = N) (hby : N ≤ 4096) (hc : cells + 1 ≤ R.cells) (hs : slots + N ≤ R.slots) (hd : decode cc pc = .ok (.newarray .char, 2)) (kk : ∀ (q : Nat) (H1 : Heap), va_P D ZCL (ws ++ [(q, .inl (y 1, N, .inl (fun _ => zI 0)))]) H1 → va_D A (ws ++ [(q, .inl (y 1, N, .inl (fun _ => zI 0)))]) → va_S A s.heap H1 locs → W p l e R s m args below meth c H1 locs (cells + 1) (slots + N) Q (F0 m (pc + 2) ls (.ref q :: rest))) : W p l e R s m args below meth c H locs cells slots Q (F0 m (pc) ls (.int n :: rest)) := by
  refine va_newa (atype := .char) (ty := .char) (a0 := (N, .inl (fun _ => zI 0))) hx hb harr rfl hK hP hD hS hA (fun _ => rfl) hn hN (Nat.le_trans (Nat.mul_le_mul hby (show componentBytes .char ≤ 8 by decide)) (by decide)) hc hs hd (fun q cA H1 hK1 hP1 hD1 hS1 => ?_)
  have e : cA = y 1 := z_ty hK hK1 (k := 1) rfl
  subst e
  exact kk q H1 hP1 hD1 hS1
theorem z_newa_Z {A : Nat → Prop} {ws : va_W} {n : Int32} {N : Nat} (hx : p.tables.exec = Jvm.exec) (hb : c.code = cc) (harr : (Cond.arrayClass .boolean).before args s = true) (hK : va_K D ZCL (ztys y) s) (hP : va_P D ZCL ws H) (hD : va_D A ws) (hS : va_S A s.heap H locs) (hA : ∀ q, s.heap.size ≤ q → A q) (hn : ¬ n < 0) (hN : n.toNatClampNeg = N) (hby : N ≤ 4096) (hc : cells + 1 ≤ R.cells) (hs : slots + N ≤ R.slots) (hd : decode cc pc = .ok (.newarray .boolean, 2)) (kk : ∀ (q : Nat) (H1 : Heap), va_P D ZCL (ws ++ [(q, .inl (y 2, N, .inl (fun _ => zI 0)))]) H1 → va_D A (ws ++ [(q, .inl (y 2, N, .inl (fun _ => zI 0)))]) → va_S A s.heap H1 locs → W p l e R s m args below meth c H1 locs (cells + 1) (slots + N) Q (F0 m (pc + 2) ls (.ref q :: rest))) : W p l e R s m args below meth c H locs cells slots Q (F0 m (pc) ls (.int n :: rest)) := by
  refine va_newa (atype := .boolean) (ty := .boolean) (a0 := (N, .inl (fun _ => zI 0))) hx hb harr rfl hK hP hD hS hA (fun _ => rfl) hn hN (Nat.le_trans (Nat.mul_le_mul hby (show componentBytes .boolean ≤ 8 by decide)) (by decide)) hc hs hd (fun q cA H1 hK1 hP1 hD1 hS1 => ?_)
  have e : cA = y 2 := z_ty hK hK1 (k := 2) rfl
  subst e
  exact kk q H1 hP1 hD1 hS1
theorem z_newa_J {A : Nat → Prop} {ws : va_W} {n : Int32} {N : Nat} (hx : p.tables.exec = Jvm.exec) (hb : c.code = cc) (harr : (Cond.arrayClass .long).before args s = true) (hK : va_K D ZCL (ztys y) s) (hP : va_P D ZCL ws H) (hD : va_D A ws) (hS : va_S A s.heap H locs) (hA : ∀ q, s.heap.size ≤ q → A q) (hn : ¬ n < 0) (hN : n.toNatClampNeg = N) (hby : N ≤ 4096) (hc : cells + 1 ≤ R.cells) (hs : slots + N ≤ R.slots) (hd : decode cc pc = .ok (.newarray .long, 2)) (kk : ∀ (q : Nat) (H1 : Heap), va_P D ZCL (ws ++ [(q, .inl (y 3, N, .inr (.inl (fun _ => 0))))]) H1 → va_D A (ws ++ [(q, .inl (y 3, N, .inr (.inl (fun _ => 0))))]) → va_S A s.heap H1 locs → W p l e R s m args below meth c H1 locs (cells + 1) (slots + N) Q (F0 m (pc + 2) ls (.ref q :: rest))) : W p l e R s m args below meth c H locs cells slots Q (F0 m (pc) ls (.int n :: rest)) := by
  refine va_newa (atype := .long) (ty := .long) (a0 := (N, .inr (.inl (fun _ => 0)))) hx hb harr rfl hK hP hD hS hA (fun _ => rfl) hn hN (Nat.le_trans (Nat.mul_le_mul hby (show componentBytes .long ≤ 8 by decide)) (by decide)) hc hs hd (fun q cA H1 hK1 hP1 hD1 hS1 => ?_)
  have e : cA = y 3 := z_ty hK hK1 (k := 3) rfl
  subst e
  exact kk q H1 hP1 hD1 hS1
theorem z_suff {g g2 : JFrame} (h : W p l e R s m args below meth c H locs cells slots Q g2 → W p l e R s m args below meth c H locs cells slots Q g) (k : W p l e R s m args below meth c H locs cells slots Q g2) : W p l e R s m args below meth c H locs cells slots Q g := h k
theorem z_newq {own : String} {ix : Nat} {A : Nat → Prop} {ws : va_W} {n : Int32} {N : Nat} (hx : p.tables.exec = Jvm.exec) (hb : c.code = cc) (hown : s.vm.findClass own = some m.cls) (hcl : (Cond.classLink own ix "TreeShell$Level").before args s = true) (hao : va_AO "TreeShell$Level" s) (hK : va_K D ZCL (ztys y) s) (hP : va_P D ZCL ws H) (hD : va_D A ws) (hS : va_S A s.heap H locs) (hA : ∀ q, s.heap.size ≤ q → A q) (hn : ¬ n < 0) (hN : n.toNatClampNeg = N) (hby : N ≤ 4096) (hc : cells + 1 ≤ R.cells) (hs : slots + N ≤ R.slots) (hd : decode cc pc = .ok (.anewarray ix, 3)) (kk : ∀ (q : Nat) (H1 : Heap), va_P D ZCL (ws ++ [(q, .inl (y 4, N, .inr (.inr (.inr (.inr (fun _ => none))))))]) H1 → va_D A (ws ++ [(q, .inl (y 4, N, .inr (.inr (.inr (.inr (fun _ => none))))))]) → va_S A s.heap H1 locs → W p l e R s m args below meth c H1 locs (cells + 1) (slots + N) Q (F0 m (pc + 3) ls (.ref q :: rest))) : W p l e R s m args below meth c H locs cells slots Q (F0 m (pc) ls (.int n :: rest)) := by
  refine va_newq hx hb hown hcl hao hK hP hD hS hA hn hN (by omega) hc hs hd (fun q cA H1 hK1 hP1 hD1 hS1 => ?_)
  have e : cA = y 4 := z_ty hK hK1 (k := 4) rfl
  subst e
  exact kk q H1 hP1 hD1 hS1
end
