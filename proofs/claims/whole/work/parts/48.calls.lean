section
variable {p : Program} {l : Launch} {e : Env} {R : Room} {s : State} {m : MethodId} {args : Array Value} {below : List Frame} {meth : Method} {c : Code} {H H0 : Heap} {locs : List Loc} {cells slots : Nat} {Q : State → Prop}
variable {cc : ByteArray} {pc : Nat} {ls : Array Slot} {rest : List Value} {α : Type} {o : α} {D : va_G} {B : Nat} {y : Nat → ClassId} {ad : Nat × Nat → Nat} {q : Bool} {u : ZC} {r : ZR}
theorem z_retv (hx : p.tables.exec = Jvm.exec) (hb : c.code = cc) (hr : meth.sig.returnType = none) (hlocks : meth.locks = false) (hB : B ≤ s.heap.size) (hK : va_K D ZCL (ztys y) s) (hW : ZW D B y ad q u r H) (hS : va_S (fun x => B ≤ x) s.heap H locs) (hd : decode cc pc = .ok (.return_, 1)) : W p l e R s m args below meth c H locs cells slots (MQ below (va_Qv (fun (_ : Unit) => True) (fun _ t => ZP D B y ad q u r t) (fun x => B ≤ x)) args s cells slots (fun x => B ≤ x)) (F0 m pc ls []) := W.vret hx hb hr (fun t ht hw => ⟨⟨(), rfl, trivial, ⟨by rw [ht]; exact Nat.le_trans hB hS.1, by rw [ht]; exact hW, va_K.moved hw.alike hK⟩⟩, hS.F ht⟩) hS.2.2 hd (hlocks := hlocks)
theorem z_reti (hx : p.tables.exec = Jvm.exec) (hb : c.code = cc) {a : Int} (hr : meth.sig.returnType = some .int) (hlocks : meth.locks = false) (hB : B ≤ s.heap.size) (hK : va_K D ZCL (ztys y) s) (hW : ZW D B y ad q u r H) (hS : va_S (fun x => B ≤ x) s.heap H locs) (hd : decode cc pc = .ok (.ireturn, 1)) : W p l e R s m args below meth c H locs cells slots (MQ below (va_Qi (fun v (_ : Unit) => v = zI a) (fun _ t => ZP D B y ad q u r t) (fun x => B ≤ x)) args s cells slots (fun x => B ≤ x)) (F0 m pc ls [.int (zI a)]) := W.iret (v := zI a) hx hb hr (fun t ht hw => ⟨⟨zI a, (), rfl, rfl, ⟨by rw [ht]; exact Nat.le_trans hB hS.1, by rw [ht]; exact hW, va_K.moved hw.alike hK⟩⟩, hS.F ht⟩) hS.2.2 hd (hlocks := hlocks)
theorem z_retz (hx : p.tables.exec = Jvm.exec) (hb : c.code = cc) {a : Int} (hz : zbl a) (hr : meth.sig.returnType = some .boolean) (hlocks : meth.locks = false) (hB : B ≤ s.heap.size) (hK : va_K D ZCL (ztys y) s) (hW : ZW D B y ad q u r H) (hS : va_S (fun x => B ≤ x) s.heap H locs) (hd : decode cc pc = .ok (.ireturn, 1)) : W p l e R s m args below meth c H locs cells slots (MQ below (va_Qi (fun v (_ : Unit) => v = zI a) (fun _ t => ZP D B y ad q u r t) (fun x => B ≤ x)) args s cells slots (fun x => B ≤ x)) (F0 m pc ls [.int (zI a)]) := W.zret (v := zI a) hx hb hr (znb hz) (fun t ht hw => ⟨⟨zI a, (), rfl, rfl, ⟨by rw [ht]; exact Nat.le_trans hB hS.1, by rw [ht]; exact hW, va_K.moved hw.alike hK⟩⟩, hS.F ht⟩) hS.2.2 hd (hlocks := hlocks)
theorem z_retl (hx : p.tables.exec = Jvm.exec) (hb : c.code = cc) {a : Int64} (hr : meth.sig.returnType = some .long) (hlocks : meth.locks = false) (hB : B ≤ s.heap.size) (hK : va_K D ZCL (ztys y) s) (hW : ZW D B y ad q u r H) (hS : va_S (fun x => B ≤ x) s.heap H locs) (hd : decode cc pc = .ok (.lreturn, 1)) : W p l e R s m args below meth c H locs cells slots (MQ below (va_Ql (fun v (_ : Unit) => v = a) (fun _ t => ZP D B y ad q u r t) (fun x => B ≤ x)) args s cells slots (fun x => B ≤ x)) (F0 m pc ls [.long a]) := W.lret (v := a) hx hb hr (fun t ht hw => ⟨⟨a, (), rfl, rfl, ⟨by rw [ht]; exact Nat.le_trans hB hS.1, by rw [ht]; exact hW, va_K.moved hw.alike hK⟩⟩, hS.F ht⟩) hS.2.2 hd (hlocks := hlocks)
theorem z_retq (hx : p.tables.exec = Jvm.exec) (hb : c.code = cc) {kd : Nat} {a : Option Nat} {C : String} (hr : meth.sig.returnType = some (.object C)) (hlocks : meth.locks = false) (hB : B ≤ s.heap.size) (hK : va_K D ZCL (ztys y) s) (hW : ZW D B y ad q u r H) (hS : va_S (fun x => B ≤ x) s.heap H locs) (hd : decode cc pc = .ok (.areturn, 1)) : W p l e R s m args below meth c H locs cells slots (MQ below (va_Qq (fun v (_ : Unit) => v = a.map fun n => ad (kd, n)) (fun _ t => ZP D B y ad q u r t) (fun x => B ≤ x)) args s cells slots (fun x => B ≤ x)) (F0 m pc ls [zrf ad kd a]) := W.aret (v := zrf ad kd a) hx hb hr (Or.inl ⟨_, rfl⟩) (va_rf_or _) (fun t ht hw => ⟨⟨a.map fun n => ad (kd, n), (), rfl, rfl, ⟨by rw [ht]; exact Nat.le_trans hB hS.1, by rw [ht]; exact hW, va_K.moved hw.alike hK⟩⟩, hS.F ht⟩) hS.2.2 hd (hlocks := hlocks)
theorem zblind {L : List Value} : FrameBlind (va_Pc L (fun U => ZP D B y ad q u r U)) := fun a U g mk h => ⟨h.1, h.2.1, h.2.2.1, va_K.moved (u := U) (U := U.calling g mk a) (Vm.Alike.refl U.vm) h.2.2.2⟩
theorem zpre {L : List Value} (hB : B ≤ s.heap.size) (hK : va_K D ZCL (ztys y) s) (hW : ZW D B y ad q u r H) (hS : va_S (fun x => B ≤ x) s.heap H locs) : ∀ U : State, U.heap = H → s.WarmedH U.vm → va_Pc L (fun U => ZP D B y ad q u r U) L.toArray U := fun U hU hw => ⟨rfl, by rw [hU]; exact Nat.le_trans hB hS.1, by rw [hU]; exact hW, va_K.moved hw.alike hK⟩
theorem z_callVv {own C9 : String} {ix mL9 n9 nL : Nat} {y9 : MethodName} {by9 : ByteArray} {rt9 : Option FieldType} {rm9 : Room} {b9 : Nat} {As : List Value} {u2 : ZC} {r2 : ZR} {st0 : List Value} (hM : Met l y9 (.code y9 by9 mL9 rt9 :: zt) rm9 (va_Pc (Value.ref b9 :: As) (fun U => ZP D B y ad q u r U)) (va_Qv (fun (_ : Unit) => True) (fun _ t => ZP D B y ad q u2 r2 t) (fun x => B ≤ x)) 0 0 (fun x => B ≤ x)) (M : ZM p c cc s args m own D y) (hml : c.maxLocals = nL) (cw : CallW R s args own C9 ix y9 by9 mL9 rt9 (.code y9 by9 mL9 rt9 :: zt) rm9 0 0 n9) (hrc : ∃ cell : Cell, H[b9]? = some cell ∧ cell.vm.isStatics = false ∧ s.vm.findClass C9 = some cell.cls) (hB : B ≤ s.heap.size) (hW : ZW D B y ad q u r H) (hS : va_S (fun x => B ≤ x) s.heap H locs) (hn : As.length = n9) (hz : ls.size = nL) (hst : st0 = As.reverse ++ .ref b9 :: rest) (hrm : (rest.map fun v => v.category).sum ≤ 8) (hd : decode cc pc = .ok (.invokevirtual ix, 3)) (hcs : cells ≤ R.cells ∧ slots ≤ R.slots) (kk : ∀ (H1 : Heap) (locs1 : List Loc), ZW D B y ad q u2 r2 H1 → va_S (fun x => B ≤ x) s.heap H1 locs1 → W p l e R s m args below meth c H1 locs1 cells slots Q (F0 m (pc + 3) ls (rest))) : W p l e R s m args below meth c H locs cells slots Q (F0 m (pc) ls (st0)) := by
  refine va_callv (va_runV (As := As) (rest := rest) (g := F0 m pc ls st0) ⟨M.1, M.2.1, hml, M.2.2.2.1, M.2.2.1⟩ hM cw ⟨zblind, hrc, zpre hB M.2.2.2.2 hW hS⟩ rfl hn hz hst (lv_room hrm) hd hcs) hS (fun x _ h => h) (fun x h => h) (fun _ t H1 locs1 ht hvm hv hP hz hk hS => ?_)
  exact kk H1 locs1 (by rw [← ht]; exact hP.2.1) hS
theorem z_callSv {own : String} {ix mL9 n9 nL : Nat} {y9 : MethodName} {by9 : ByteArray} {rt9 : Option FieldType} {rm9 : Room} {As : List Value} {u2 : ZC} {r2 : ZR} {st0 : List Value} (hM : Met l y9 (.code y9 by9 mL9 rt9 :: zt) rm9 (va_Pc (As) (fun U => ZP D B y ad q u r U)) (va_Qv (fun (_ : Unit) => True) (fun _ t => ZP D B y ad q u2 r2 t) (fun x => B ≤ x)) 0 0 (fun x => B ≤ x)) (M : ZM p c cc s args m own D y) (hml : c.maxLocals = nL) (cw : CallB R s args own ix y9 by9 mL9 rt9 (.code y9 by9 mL9 rt9 :: zt) rm9 0 0 n9 ∧ (Cond.static y9).before args s = true) (hB : B ≤ s.heap.size) (hW : ZW D B y ad q u r H) (hS : va_S (fun x => B ≤ x) s.heap H locs) (hn : As.length = n9) (hz : ls.size = nL) (hst : st0 = As.reverse ++ rest) (hrm : (rest.map fun v => v.category).sum ≤ 8) (hd : decode cc pc = .ok (.invokestatic ix, 3)) (hcs : cells ≤ R.cells ∧ slots ≤ R.slots) (kk : ∀ (H1 : Heap) (locs1 : List Loc), ZW D B y ad q u2 r2 H1 → va_S (fun x => B ≤ x) s.heap H1 locs1 → W p l e R s m args below meth c H1 locs1 cells slots Q (F0 m (pc + 3) ls (rest))) : W p l e R s m args below meth c H locs cells slots Q (F0 m (pc) ls (st0)) := by
  refine va_callv (va_runS (As := As) (rest := rest) (g := F0 m pc ls st0) ⟨M.1, M.2.1, hml, M.2.2.2.1, M.2.2.1⟩ hM cw ⟨zblind, zpre hB M.2.2.2.2 hW hS⟩ rfl hn hz hst (lv_room hrm) hd hcs) hS (fun x _ h => h) (fun x h => h) (fun _ t H1 locs1 ht hvm hv hP hz hk hS => ?_)
  exact kk H1 locs1 (by rw [← ht]; exact hP.2.1) hS
theorem z_callVi {own C9 : String} {ix mL9 n9 nL : Nat} {y9 : MethodName} {by9 : ByteArray} {rt9 : Option FieldType} {rm9 : Room} {b9 : Nat} {As : List Value} {u2 : ZC} {r2 : ZR} {a : Int} {st0 : List Value} (hM : Met l y9 (.code y9 by9 mL9 rt9 :: zt) rm9 (va_Pc (Value.ref b9 :: As) (fun U => ZP D B y ad q u r U)) (va_Qi (fun v (_ : Unit) => v = zI a) (fun _ t => ZP D B y ad q u2 r2 t) (fun x => B ≤ x)) 0 0 (fun x => B ≤ x)) (M : ZM p c cc s args m own D y) (hml : c.maxLocals = nL) (cw : CallW R s args own C9 ix y9 by9 mL9 rt9 (.code y9 by9 mL9 rt9 :: zt) rm9 0 0 n9) (hrc : ∃ cell : Cell, H[b9]? = some cell ∧ cell.vm.isStatics = false ∧ s.vm.findClass C9 = some cell.cls) (hB : B ≤ s.heap.size) (hW : ZW D B y ad q u r H) (hS : va_S (fun x => B ≤ x) s.heap H locs) (hn : As.length = n9) (hz : ls.size = nL) (hst : st0 = As.reverse ++ .ref b9 :: rest) (hrm : (rest.map fun v => v.category).sum ≤ 8) (hd : decode cc pc = .ok (.invokevirtual ix, 3)) (hcs : cells ≤ R.cells ∧ slots ≤ R.slots) (kk : ∀ (H1 : Heap) (locs1 : List Loc), ZW D B y ad q u2 r2 H1 → va_S (fun x => B ≤ x) s.heap H1 locs1 → W p l e R s m args below meth c H1 locs1 cells slots Q (F0 m (pc + 3) ls (.int (zI a) :: rest))) : W p l e R s m args below meth c H locs cells slots Q (F0 m (pc) ls (st0)) := by
  refine va_calli (va_runV (As := As) (rest := rest) (g := F0 m pc ls st0) ⟨M.1, M.2.1, hml, M.2.2.2.1, M.2.2.1⟩ hM cw ⟨zblind, hrc, zpre hB M.2.2.2.2 hW hS⟩ rfl hn hz hst (lv_room hrm) hd hcs) hS (fun x _ h => h) (fun x h => h) (fun v _ t H1 locs1 ht hvm hv hP hz hk hS => ?_)
  obtain rfl := hv; exact kk H1 locs1 (by rw [← ht]; exact hP.2.1) hS
theorem z_callSi {own : String} {ix mL9 n9 nL : Nat} {y9 : MethodName} {by9 : ByteArray} {rt9 : Option FieldType} {rm9 : Room} {As : List Value} {u2 : ZC} {r2 : ZR} {a : Int} {st0 : List Value} (hM : Met l y9 (.code y9 by9 mL9 rt9 :: zt) rm9 (va_Pc (As) (fun U => ZP D B y ad q u r U)) (va_Qi (fun v (_ : Unit) => v = zI a) (fun _ t => ZP D B y ad q u2 r2 t) (fun x => B ≤ x)) 0 0 (fun x => B ≤ x)) (M : ZM p c cc s args m own D y) (hml : c.maxLocals = nL) (cw : CallB R s args own ix y9 by9 mL9 rt9 (.code y9 by9 mL9 rt9 :: zt) rm9 0 0 n9 ∧ (Cond.static y9).before args s = true) (hB : B ≤ s.heap.size) (hW : ZW D B y ad q u r H) (hS : va_S (fun x => B ≤ x) s.heap H locs) (hn : As.length = n9) (hz : ls.size = nL) (hst : st0 = As.reverse ++ rest) (hrm : (rest.map fun v => v.category).sum ≤ 8) (hd : decode cc pc = .ok (.invokestatic ix, 3)) (hcs : cells ≤ R.cells ∧ slots ≤ R.slots) (kk : ∀ (H1 : Heap) (locs1 : List Loc), ZW D B y ad q u2 r2 H1 → va_S (fun x => B ≤ x) s.heap H1 locs1 → W p l e R s m args below meth c H1 locs1 cells slots Q (F0 m (pc + 3) ls (.int (zI a) :: rest))) : W p l e R s m args below meth c H locs cells slots Q (F0 m (pc) ls (st0)) := by
  refine va_calli (va_runS (As := As) (rest := rest) (g := F0 m pc ls st0) ⟨M.1, M.2.1, hml, M.2.2.2.1, M.2.2.1⟩ hM cw ⟨zblind, zpre hB M.2.2.2.2 hW hS⟩ rfl hn hz hst (lv_room hrm) hd hcs) hS (fun x _ h => h) (fun x h => h) (fun v _ t H1 locs1 ht hvm hv hP hz hk hS => ?_)
  obtain rfl := hv; exact kk H1 locs1 (by rw [← ht]; exact hP.2.1) hS
theorem z_callVl {own C9 : String} {ix mL9 n9 nL : Nat} {y9 : MethodName} {by9 : ByteArray} {rt9 : Option FieldType} {rm9 : Room} {b9 : Nat} {As : List Value} {u2 : ZC} {r2 : ZR} {a : Int64} {st0 : List Value} (hM : Met l y9 (.code y9 by9 mL9 rt9 :: zt) rm9 (va_Pc (Value.ref b9 :: As) (fun U => ZP D B y ad q u r U)) (va_Ql (fun v (_ : Unit) => v = a) (fun _ t => ZP D B y ad q u2 r2 t) (fun x => B ≤ x)) 0 0 (fun x => B ≤ x)) (M : ZM p c cc s args m own D y) (hml : c.maxLocals = nL) (cw : CallW R s args own C9 ix y9 by9 mL9 rt9 (.code y9 by9 mL9 rt9 :: zt) rm9 0 0 n9) (hrc : ∃ cell : Cell, H[b9]? = some cell ∧ cell.vm.isStatics = false ∧ s.vm.findClass C9 = some cell.cls) (hB : B ≤ s.heap.size) (hW : ZW D B y ad q u r H) (hS : va_S (fun x => B ≤ x) s.heap H locs) (hn : As.length = n9) (hz : ls.size = nL) (hst : st0 = As.reverse ++ .ref b9 :: rest) (hrm : (rest.map fun v => v.category).sum ≤ 8) (hd : decode cc pc = .ok (.invokevirtual ix, 3)) (hcs : cells ≤ R.cells ∧ slots ≤ R.slots) (kk : ∀ (H1 : Heap) (locs1 : List Loc), ZW D B y ad q u2 r2 H1 → va_S (fun x => B ≤ x) s.heap H1 locs1 → W p l e R s m args below meth c H1 locs1 cells slots Q (F0 m (pc + 3) ls (.long a :: rest))) : W p l e R s m args below meth c H locs cells slots Q (F0 m (pc) ls (st0)) := by
  refine va_calll (va_runV (As := As) (rest := rest) (g := F0 m pc ls st0) ⟨M.1, M.2.1, hml, M.2.2.2.1, M.2.2.1⟩ hM cw ⟨zblind, hrc, zpre hB M.2.2.2.2 hW hS⟩ rfl hn hz hst (lv_room hrm) hd hcs) hS (fun x _ h => h) (fun x h => h) (fun v _ t H1 locs1 ht hvm hv hP hz hk hS => ?_)
  obtain rfl := hv; exact kk H1 locs1 (by rw [← ht]; exact hP.2.1) hS
theorem z_callSl {own : String} {ix mL9 n9 nL : Nat} {y9 : MethodName} {by9 : ByteArray} {rt9 : Option FieldType} {rm9 : Room} {As : List Value} {u2 : ZC} {r2 : ZR} {a : Int64} {st0 : List Value} (hM : Met l y9 (.code y9 by9 mL9 rt9 :: zt) rm9 (va_Pc (As) (fun U => ZP D B y ad q u r U)) (va_Ql (fun v (_ : Unit) => v = a) (fun _ t => ZP D B y ad q u2 r2 t) (fun x => B ≤ x)) 0 0 (fun x => B ≤ x)) (M : ZM p c cc s args m own D y) (hml : c.maxLocals = nL) (cw : CallB R s args own ix y9 by9 mL9 rt9 (.code y9 by9 mL9 rt9 :: zt) rm9 0 0 n9 ∧ (Cond.static y9).before args s = true) (hB : B ≤ s.heap.size) (hW : ZW D B y ad q u r H) (hS : va_S (fun x => B ≤ x) s.heap H locs) (hn : As.length = n9) (hz : ls.size = nL) (hst : st0 = As.reverse ++ rest) (hrm : (rest.map fun v => v.category).sum ≤ 8) (hd : decode cc pc = .ok (.invokestatic ix, 3)) (hcs : cells ≤ R.cells ∧ slots ≤ R.slots) (kk : ∀ (H1 : Heap) (locs1 : List Loc), ZW D B y ad q u2 r2 H1 → va_S (fun x => B ≤ x) s.heap H1 locs1 → W p l e R s m args below meth c H1 locs1 cells slots Q (F0 m (pc + 3) ls (.long a :: rest))) : W p l e R s m args below meth c H locs cells slots Q (F0 m (pc) ls (st0)) := by
  refine va_calll (va_runS (As := As) (rest := rest) (g := F0 m pc ls st0) ⟨M.1, M.2.1, hml, M.2.2.2.1, M.2.2.1⟩ hM cw ⟨zblind, zpre hB M.2.2.2.2 hW hS⟩ rfl hn hz hst (lv_room hrm) hd hcs) hS (fun x _ h => h) (fun x h => h) (fun v _ t H1 locs1 ht hvm hv hP hz hk hS => ?_)
  obtain rfl := hv; exact kk H1 locs1 (by rw [← ht]; exact hP.2.1) hS
theorem z_callVq {own C9 : String} {ix mL9 n9 nL : Nat} {y9 : MethodName} {by9 : ByteArray} {rt9 : Option FieldType} {rm9 : Room} {b9 : Nat} {As : List Value} {u2 : ZC} {r2 : ZR} {kd : Nat} {a : Option Nat} {st0 : List Value} (hM : Met l y9 (.code y9 by9 mL9 rt9 :: zt) rm9 (va_Pc (Value.ref b9 :: As) (fun U => ZP D B y ad q u r U)) (va_Qq (fun v (_ : Unit) => v = a.map fun n => ad (kd, n)) (fun _ t => ZP D B y ad q u2 r2 t) (fun x => B ≤ x)) 0 0 (fun x => B ≤ x)) (M : ZM p c cc s args m own D y) (hml : c.maxLocals = nL) (cw : CallW R s args own C9 ix y9 by9 mL9 rt9 (.code y9 by9 mL9 rt9 :: zt) rm9 0 0 n9) (hrc : ∃ cell : Cell, H[b9]? = some cell ∧ cell.vm.isStatics = false ∧ s.vm.findClass C9 = some cell.cls) (hB : B ≤ s.heap.size) (hW : ZW D B y ad q u r H) (hS : va_S (fun x => B ≤ x) s.heap H locs) (hn : As.length = n9) (hz : ls.size = nL) (hst : st0 = As.reverse ++ .ref b9 :: rest) (hrm : (rest.map fun v => v.category).sum ≤ 8) (hd : decode cc pc = .ok (.invokevirtual ix, 3)) (hcs : cells ≤ R.cells ∧ slots ≤ R.slots) (kk : ∀ (H1 : Heap) (locs1 : List Loc), ZW D B y ad q u2 r2 H1 → va_S (fun x => B ≤ x) s.heap H1 locs1 → W p l e R s m args below meth c H1 locs1 cells slots Q (F0 m (pc + 3) ls (zrf ad kd a :: rest))) : W p l e R s m args below meth c H locs cells slots Q (F0 m (pc) ls (st0)) := by
  refine va_callq (va_runV (As := As) (rest := rest) (g := F0 m pc ls st0) ⟨M.1, M.2.1, hml, M.2.2.2.1, M.2.2.1⟩ hM cw ⟨zblind, hrc, zpre hB M.2.2.2.2 hW hS⟩ rfl hn hz hst (lv_room hrm) hd hcs) hS (fun x _ h => h) (fun x h => h) (fun v _ t H1 locs1 ht hvm hv hP hz hk hS => ?_)
  obtain rfl := hv; exact kk H1 locs1 (by rw [← ht]; exact hP.2.1) hS
theorem z_callSq {own : String} {ix mL9 n9 nL : Nat} {y9 : MethodName} {by9 : ByteArray} {rt9 : Option FieldType} {rm9 : Room} {As : List Value} {u2 : ZC} {r2 : ZR} {kd : Nat} {a : Option Nat} {st0 : List Value} (hM : Met l y9 (.code y9 by9 mL9 rt9 :: zt) rm9 (va_Pc (As) (fun U => ZP D B y ad q u r U)) (va_Qq (fun v (_ : Unit) => v = a.map fun n => ad (kd, n)) (fun _ t => ZP D B y ad q u2 r2 t) (fun x => B ≤ x)) 0 0 (fun x => B ≤ x)) (M : ZM p c cc s args m own D y) (hml : c.maxLocals = nL) (cw : CallB R s args own ix y9 by9 mL9 rt9 (.code y9 by9 mL9 rt9 :: zt) rm9 0 0 n9 ∧ (Cond.static y9).before args s = true) (hB : B ≤ s.heap.size) (hW : ZW D B y ad q u r H) (hS : va_S (fun x => B ≤ x) s.heap H locs) (hn : As.length = n9) (hz : ls.size = nL) (hst : st0 = As.reverse ++ rest) (hrm : (rest.map fun v => v.category).sum ≤ 8) (hd : decode cc pc = .ok (.invokestatic ix, 3)) (hcs : cells ≤ R.cells ∧ slots ≤ R.slots) (kk : ∀ (H1 : Heap) (locs1 : List Loc), ZW D B y ad q u2 r2 H1 → va_S (fun x => B ≤ x) s.heap H1 locs1 → W p l e R s m args below meth c H1 locs1 cells slots Q (F0 m (pc + 3) ls (zrf ad kd a :: rest))) : W p l e R s m args below meth c H locs cells slots Q (F0 m (pc) ls (st0)) := by
  refine va_callq (va_runS (As := As) (rest := rest) (g := F0 m pc ls st0) ⟨M.1, M.2.1, hml, M.2.2.2.1, M.2.2.1⟩ hM cw ⟨zblind, zpre hB M.2.2.2.2 hW hS⟩ rfl hn hz hst (lv_room hrm) hd hcs) hS (fun x _ h => h) (fun x h => h) (fun v _ t H1 locs1 ht hvm hv hP hz hk hS => ?_)
  obtain rfl := hv; exact kk H1 locs1 (by rw [← ht]; exact hP.2.1) hS
theorem zv_Sh (hK : va_K D ZCL (ztys y) s) (hW : ZW D B y ad q u r H) : ∃ cell : Cell, H[ad (0, 0)]? = some cell ∧ cell.vm.isStatics = false ∧ s.vm.findClass "TreeShell" = some cell.cls := by
  have hi : (0, 0) ∈ zid q u := zid_f (by decide +kernel)
  obtain ⟨q0, h0⟩ := zw_at (ad := ad) (y := y) (r := r) hi
  exact va_recv hK hW.1 (q := ("TreeShell", F_Sh, 5)) (ci := 0) rfl h0
theorem zv_Tk (hK : va_K D ZCL (ztys y) s) (hW : ZW D B y ad q u r H) : ∃ cell : Cell, H[ad (0, 1)]? = some cell ∧ cell.vm.isStatics = false ∧ s.vm.findClass "TreeShell$Tokens" = some cell.cls := by
  have hi : (0, 1) ∈ zid q u := zid_f (by decide +kernel)
  obtain ⟨q0, h0⟩ := zw_at (ad := ad) (y := y) (r := r) hi
  exact va_recv hK hW.1 (q := ("TreeShell$Tokens", F_Tk, 5)) (ci := 1) rfl h0
theorem zv_Gr (hK : va_K D ZCL (ztys y) s) (hW : ZW D B y ad q u r H) : ∃ cell : Cell, H[ad (0, 2)]? = some cell ∧ cell.vm.isStatics = false ∧ s.vm.findClass "TreeShell$Grammar" = some cell.cls := by
  have hi : (0, 2) ∈ zid q u := zid_f (by decide +kernel)
  obtain ⟨q0, h0⟩ := zw_at (ad := ad) (y := y) (r := r) hi
  exact va_recv hK hW.1 (q := ("TreeShell$Grammar", F_Gr, 2)) (ci := 2) rfl h0
theorem zv_Tr (hK : va_K D ZCL (ztys y) s) (hW : ZW D B y ad q u r H) : ∃ cell : Cell, H[ad (0, 3)]? = some cell ∧ cell.vm.isStatics = false ∧ s.vm.findClass "TreeShell$Tree" = some cell.cls := by
  have hi : (0, 3) ∈ zid q u := zid_f (by decide +kernel)
  obtain ⟨q0, h0⟩ := zw_at (ad := ad) (y := y) (r := r) hi
  exact va_recv hK hW.1 (q := ("TreeShell$Tree", F_Tr, 10)) (ci := 3) rfl h0
theorem zv_Ru (hK : va_K D ZCL (ztys y) s) (hW : ZW D B y ad q u r H) : ∃ cell : Cell, H[ad (0, 4)]? = some cell ∧ cell.vm.isStatics = false ∧ s.vm.findClass "TreeShell$Runner" = some cell.cls := by
  have hi : (0, 4) ∈ zid q u := zid_f (by decide +kernel)
  obtain ⟨q0, h0⟩ := zw_at (ad := ad) (y := y) (r := r) hi
  exact va_recv hK hW.1 (q := ("TreeShell$Runner", F_Ru, 8)) (ci := 4) rfl h0
theorem zv_Wo (hK : va_K D ZCL (ztys y) s) (hW : ZW D B y ad q u r H) : ∃ cell : Cell, H[ad (0, 5)]? = some cell ∧ cell.vm.isStatics = false ∧ s.vm.findClass "TreeShell$Words" = some cell.cls := by
  have hi : (0, 5) ∈ zid q u := zid_f (by decide +kernel)
  obtain ⟨q0, h0⟩ := zw_at (ad := ad) (y := y) (r := r) hi
  exact va_recv hK hW.1 (q := ("TreeShell$Words", F_Wo, 3)) (ci := 5) rfl h0
theorem zv_To (hK : va_K D ZCL (ztys y) s) (hW : ZW D B y ad q u r H) : ∃ cell : Cell, H[ad (0, 6)]? = some cell ∧ cell.vm.isStatics = false ∧ s.vm.findClass "TreeShell$Tools" = some cell.cls := by
  have hi : (0, 6) ∈ zid q u := zid_f (by decide +kernel)
  obtain ⟨q0, h0⟩ := zw_at (ad := ad) (y := y) (r := r) hi
  exact va_recv hK hW.1 (q := ("TreeShell$Tools", F_To, 2)) (ci := 6) rfl h0
theorem zv_Tx {t : Nat} (hK : va_K D ZCL (ztys y) s) (hW : ZW D B y ad q u r H) (hi : (1, t) ∈ zid q u) : ∃ cell : Cell, H[ad (1, t)]? = some cell ∧ cell.vm.isStatics = false ∧ s.vm.findClass "TreeShell$Text" = some cell.cls := by
  obtain ⟨q0, h0⟩ := zw_at (ad := ad) (y := y) (r := r) hi
  exact va_recv hK hW.1 (q := ("TreeShell$Text", F_Tx, 3)) (ci := 7) rfl h0
theorem zv_No {t : Nat} (hK : va_K D ZCL (ztys y) s) (hW : ZW D B y ad q u r H) (hi : (3, t) ∈ zid q u) : ∃ cell : Cell, H[ad (3, t)]? = some cell ∧ cell.vm.isStatics = false ∧ s.vm.findClass "TreeShell$Node" = some cell.cls := by
  obtain ⟨q0, h0⟩ := zw_at (ad := ad) (y := y) (r := r) hi
  exact va_recv hK hW.1 (q := ("TreeShell$Node", F_No, 4)) (ci := 8) rfl h0
theorem zv_Le {t : Nat} (hK : va_K D ZCL (ztys y) s) (hW : ZW D B y ad q u r H) (hi : (4, t) ∈ zid q u) : ∃ cell : Cell, H[ad (4, t)]? = some cell ∧ cell.vm.isStatics = false ∧ s.vm.findClass "TreeShell$Level" = some cell.cls := by
  obtain ⟨q0, h0⟩ := zw_at (ad := ad) (y := y) (r := r) hi
  exact va_recv hK hW.1 (q := ("TreeShell$Level", F_Le, 6)) (ci := 9) rfl h0
theorem zv_Mo (hK : va_K D ZCL (ztys y) s) (hW : ZW D B y ad true u r H) : ∃ cell : Cell, H[ad (10, 0)]? = some cell ∧ cell.vm.isStatics = false ∧ s.vm.findClass "TreeShellModel" = some cell.cls := by
  have hi : (10, 0) ∈ zid true u := zid_r (by decide +kernel)
  obtain ⟨q0, h0⟩ := zw_at (ad := ad) (y := y) (r := r) hi
  exact va_recv hK hW.1 (q := ("TreeShellModel", F_Mo, 49)) (ci := 10) rfl h0
end
theorem w_73 : (Jvm.Cond.initialized "java/lang/Math") ∈ zt := List.mem_filter.mpr ⟨List.mem_of_getElem? (i := 73) (by decide +kernel), rfl⟩
theorem w_80 : (Jvm.Cond.initialized "java/lang/System") ∈ zt := List.mem_filter.mpr ⟨List.mem_of_getElem? (i := 80) (by decide +kernel), rfl⟩
theorem w_168 : (Jvm.Cond.static ({ cls := "java/lang/Math", name := "min", desc := "(II)I" } : Jvm.MethodName)) ∈ zt := List.mem_filter.mpr ⟨List.mem_of_getElem? (i := 168) (by decide +kernel), rfl⟩
theorem w_169 : (Jvm.Cond.code ({ cls := "java/lang/Math", name := "min", desc := "(II)I" } : Jvm.MethodName) prog_13_method_69_code (2 : Nat) (Option.some Jvm.ClassFile.FieldType.int)) ∈ zt := List.mem_filter.mpr ⟨List.mem_of_getElem? (i := 169) (by decide +kernel), rfl⟩
theorem w_171 : (Jvm.Cond.static ({ cls := "java/lang/Math", name := "max", desc := "(II)I" } : Jvm.MethodName)) ∈ zt := List.mem_filter.mpr ⟨List.mem_of_getElem? (i := 171) (by decide +kernel), rfl⟩
theorem w_172 : (Jvm.Cond.code ({ cls := "java/lang/Math", name := "max", desc := "(II)I" } : Jvm.MethodName) prog_13_method_65_code (2 : Nat) (Option.some Jvm.ClassFile.FieldType.int)) ∈ zt := List.mem_filter.mpr ⟨List.mem_of_getElem? (i := 172) (by decide +kernel), rfl⟩
theorem w_537 : (Jvm.Cond.static ({ cls := "java/lang/System", name := "arraycopy", desc := "(Ljava/lang/Object;ILjava/lang/Object;II)V" } : Jvm.MethodName)) ∈ zt := List.mem_filter.mpr ⟨List.mem_of_getElem? (i := 537) (by decide +kernel), rfl⟩
theorem w_538 : (Jvm.Cond.native ({ cls := "java/lang/System", name := "arraycopy", desc := "(Ljava/lang/Object;ILjava/lang/Object;II)V" } : Jvm.MethodName)) ∈ zt := List.mem_filter.mpr ⟨List.mem_of_getElem? (i := 538) (by decide +kernel), rfl⟩
theorem z_RA {U : State} {a b : ClassId} {ty : FieldType} (h1 : va_RA U a ty) (h2 : va_RA U b ty) : a = b := by
  cases ty with
  | object C =>
    obtain ⟨_, _, _, _, _, h3⟩ := h1
    obtain ⟨_, _, _, _, _, h4⟩ := h2
    exact Option.some.inj (h3.symm.trans h4)
  | _ => exact Option.some.inj (Eq.trans (Eq.symm h1) h2)
theorem z_ty {D : va_G} {y : Nat → ClassId} {s : State} {cA : ClassId} {ty : FieldType} {k : Nat} {b : ClassId} (hK : va_K D ZCL (ztys y) s) (hK1 : va_K D ZCL (ztys y ++ [(cA, ty)]) s) (h : (ztys y)[k]? = some (b, ty)) : cA = b := z_RA (hK1.2 5 (cA, ty) rfl).2 (hK.2 k _ h).2
theorem z_nn {v : Int} (h : 0 ≤ v ∧ v ≤ 160) : ¬ zI v < 0 := by
  rw [Int32.lt_iff_toInt_lt, zI_toInt (by omega) (by omega)]
  have : (0 : Int32).toInt = 0 := by decide
  omega
theorem z_cl {v : Int} (h : 0 ≤ v ∧ v ≤ 160) : (zI v).toNatClampNeg = v.toNat := Int32.toNatClampNeg_ofInt_of_le (by omega) (by omega)
theorem z_by {v : Int} (h : 0 ≤ v ∧ v ≤ 160) : v.toNat ≤ 4096 := by omega
theorem zI_ifmax (a b : Int) : zI (zmax a b) = if zI a < zI b then zI b else zI a := by
  unfold zmax
  by_cases h : zI a < zI b
  · rw [if_pos h, if_pos h]
  · rw [if_neg h, if_neg h]
theorem zI_ifmin (a b : Int) : zI (zmin a b) = if zI b < zI a then zI b else zI a := by
  unfold zmin
  by_cases h : zI b < zI a
  · rw [if_pos h, if_pos h]
  · rw [if_neg h, if_neg h]
theorem z_lim {a b c : Int} (hb : -2147483648 ≤ b ∧ b < 2147483648) (ha : 0 ≤ a ∧ a ≤ 160) (hc : 0 ≤ c ∧ c ≤ 160) : 0 ≤ zmax a (zmin b c) ∧ zmax a (zmin b c) ≤ 160 := by
  unfold zmax zmin
  by_cases h : zI c < zI b
  · rw [if_pos h]
    split <;> omega
  · rw [if_neg h]
    have h2 : b ≤ c := by
      rw [zI_lt (by omega) (by omega) (by omega) (by omega)] at h
      omega
    split
    · rename_i h3
      rw [zI_lt (by omega) (by omega) (by omega) (by omega)] at h3
      omega
    · omega
theorem zc_mid {a v c : Int} (hv : -2147483648 ≤ v ∧ v < 2147483648) (ha : 0 ≤ a ∧ a ≤ 160) (hc : a < c ∧ c ≤ 160) (h1 : zI a ≤ zI v) (h2 : zI v ≤ zI c) : zmax a (zmin v c) = v := by
  rw [zI_le (by omega) (by omega) (by omega) (by omega)] at h1 h2
  have e : zmin v c = v := if_neg (by rw [zI_lt (by omega) (by omega) (by omega) (by omega)]; omega)
  rw [e]
  unfold zmax
  by_cases h : a < v
  · rw [if_pos (by rw [zI_lt (by omega) (by omega) (by omega) (by omega)]; exact h)]
  · rw [if_neg (by rw [zI_lt (by omega) (by omega) (by omega) (by omega)]; exact h)]
    omega
theorem zc_hi {a v c : Int} (hv : -2147483648 ≤ v ∧ v < 2147483648) (ha : 0 ≤ a ∧ a ≤ 160) (hc : a < c ∧ c ≤ 160) (h2 : ¬ zI v ≤ zI c) : zmax a (zmin v c) = c := by
  rw [zI_le (by omega) (by omega) (by omega) (by omega)] at h2
  have e : zmin v c = c := if_pos (by rw [zI_lt (by omega) (by omega) (by omega) (by omega)]; omega)
  rw [e]
  exact if_pos (by rw [zI_lt (by omega) (by omega) (by omega) (by omega)]; omega)
theorem zc_lo {a v c : Int} (hv : -2147483648 ≤ v ∧ v < 2147483648) (ha : 0 ≤ a ∧ a ≤ 160) (hc : a < c ∧ c ≤ 160) (h1 : ¬ zI a ≤ zI v) : zmax a (zmin v c) = a := by
  rw [zI_le (by omega) (by omega) (by omega) (by omega)] at h1
  have e : zmin v c = v := if_neg (by rw [zI_lt (by omega) (by omega) (by omega) (by omega)]; omega)
  rw [e]
  exact if_neg (by rw [zI_lt (by omega) (by omega) (by omega) (by omega)]; omega)
theorem z_nr {C : String} (w : Option Nat) : narrow (.object C) (va_rf w) = va_rf w := by cases w <;> rfl
theorem z_fr {C : String} (w : Option Nat) : fits (.object C) (va_rf w) = true := by cases w <;> rfl
theorem z_ib {L : List Value} {n : Nat} {D : va_G} {y : Nat → ClassId} {ws : va_W} {A : Nat → Prop} : FrameBlind (va_Pc L (fun U => U.heap.size = n ∧ va_P D ZCL ws U.heap ∧ va_K D ZCL (ztys y) U ∧ va_D A ws)) := fun a U g mk h => ⟨h.1, h.2.1, h.2.2.1, va_K.moved (u := U) (U := U.calling g mk a) (Vm.Alike.refl U.vm) h.2.2.2.1, h.2.2.2.2⟩
theorem zrf_cat {ad : Nat × Nat → Nat} {k : Nat} (w : Option Nat) : (zrf ad k w).category = 1 := by cases w <;> rfl
theorem cp_row (u : ZC) (t p w k n : Nat) : (fun j => zI (cA (sCopy u t p w k n) 0 w j)) = va_cpy (fun j => zI (cA u 0 t j)) (fun j => zI (cA u 0 w j)) p k n := by
  funext j
  show zI (if 0 = 0 ∧ w = w ∧ k ≤ j ∧ j < k + n then u.2.2.2.1 0 t (p + (j - k)) else u.2.2.2.1 0 w j) = if k ≤ j ∧ j < k + n then zI (u.2.2.2.1 0 t (p + (j - k))) else zI (u.2.2.2.1 0 w j)
  by_cases h : k ≤ j ∧ j < k + n
  · rw [if_pos h, if_pos ⟨rfl, rfl, h⟩]
  · rw [if_neg h, if_neg (fun x => h x.2.2)]
theorem cp_else (u : ZC) (t p w k n g b : Nat) (h : b ≠ w) : (fun j => zI (cA (sCopy u t p w k n) g b j)) = fun j => zI (cA u g b j) := by
  funext j
  exact congrArg zI (if_neg (fun x => h x.2.1))
theorem zcl_n {a : Int} (h : 0 ≤ a) (h2 : a < 2147483648) : (zI a).toNatClampNeg = a.toNat := Int32.toNatClampNeg_ofInt_of_le (by omega) (by omega)
theorem znn_n {a : Int} (h : 0 ≤ a) (h2 : a < 2147483648) : ¬ zI a < 0 := by
  rw [Int32.lt_iff_toInt_lt, zI_toInt (by omega) (by omega)]
  have : (0 : Int32).toInt = 0 := by decide
  omega
theorem zfc {x : Int} (h : zch x) : fits .char (.int (zI x)) = true := by
  obtain ⟨n, rfl⟩ := Int.eq_ofNat_of_zero_le h.1
  have e : zI (n : Int) = nI n := Int32.ofInt_eq_ofNat
  rw [e]
  exact (pk_charN (q := n) (by omega)).2
theorem zo_cp {ad : Nat × Nat → Nat} {y : Nat → ClassId} {u : ZC} {r : ZR} {t p w k n : Nat} {j : Nat × Nat} (hj : j ≠ (2, w)) : zcell ad y (sCopy u t p w k n) r j = zcell ad y u r j := by
  unfold zcell; split <;> first | rfl | (rename_i t2; have ht : t2 ≠ w := fun h => hj (by rw [h]); simp only [cp_else _ _ _ _ _ _ _ _ ht] <;> rfl) | (split <;> first | rfl | simp_all)
section
variable {p : Program} {l : Launch} {e : Env} {R : Room} {s : State} {m : MethodId} {args : Array Value} {below : List Frame} {meth : Method} {c : Code} {H H0 : Heap} {locs : List Loc} {cells slots : Nat} {Q : State → Prop}
variable {cc : ByteArray} {pc : Nat} {ls : Array Slot} {rest : List Value} {α : Type} {o : α} {D : va_G} {B : Nat} {y : Nat → ClassId} {ad : Nat × Nat → Nat} {q : Bool} {u : ZC} {r : ZR}
theorem z_mmax {own : String} {ix nL : Nat} {a b : Int} (hx : p.tables.exec = Jvm.exec) (hb : c.code = cc) (hown : s.vm.findClass own = some m.cls) (hts : ∀ w ∈ zt, w.before args s = true) (hml : c.maxLocals = nL) (hfr : 1 ≤ R.frames) (hlo : 21 ≤ R.locals) (hz : ls.size = nL) (hrm : (rest.map fun v => v.category).sum ≤ 8) (hcs : cells ≤ R.cells ∧ slots ≤ R.slots) (hlk : (Cond.methodLink own ix Lib.Math.max.name).before args s = true) (hd : decode cc pc = .ok (.invokestatic ix, 3)) (k : W p l e R s m args below meth c H locs cells slots Q (F0 m (pc + 3) ls (.int (zI (zmax a b)) :: rest))) : W p l e R s m args below meth c H locs cells slots Q (F0 m (pc) ls (.int (zI b) :: .int (zI a) :: rest)) := by
  refine va_mmax hx hb (hml.trans hz.symm) hown hlk (hts _ w_171) (hts _ w_73) (hts _ w_172) hfr (by omega) hcs.1 hcs.2 hd ?_
  rw [← zI_ifmax]
  exact k
theorem z_mmin {own : String} {ix nL : Nat} {a b : Int} (hx : p.tables.exec = Jvm.exec) (hb : c.code = cc) (hown : s.vm.findClass own = some m.cls) (hts : ∀ w ∈ zt, w.before args s = true) (hml : c.maxLocals = nL) (hfr : 1 ≤ R.frames) (hlo : 21 ≤ R.locals) (hz : ls.size = nL) (hrm : (rest.map fun v => v.category).sum ≤ 8) (hcs : cells ≤ R.cells ∧ slots ≤ R.slots) (hlk : (Cond.methodLink own ix Lib.Math.min.name).before args s = true) (hd : decode cc pc = .ok (.invokestatic ix, 3)) (k : W p l e R s m args below meth c H locs cells slots Q (F0 m (pc + 3) ls (.int (zI (zmin a b)) :: rest))) : W p l e R s m args below meth c H locs cells slots Q (F0 m (pc) ls (.int (zI b) :: .int (zI a) :: rest)) := by
  refine va_mmin hx hb (hml.trans hz.symm) hown hlk (hts _ w_168) (hts _ w_73) (hts _ w_169) hfr (by omega) hcs.1 hcs.2 hd ?_
  rw [← zI_ifmin]
  exact k
theorem z_acopy {own : String} {ix nL t w : Nat} {a b n : Int} (M : ZM p c cc s args m own D y) (hW : ZW D B y ad q u r H) (hS : va_S (fun x => B ≤ x) H0 H locs) (hml : c.maxLocals = nL) (hz : ls.size = nL) (hi : (2, t) ∈ zid q u) (hj : (2, w) ∈ zid q u) (hc : zcp u t a w b n) (hfr : 1 ≤ R.frames) (hlo : 60 ≤ R.locals) (hrm : (rest.map fun v => v.category).sum ≤ 8) (hlk : (Cond.methodLink own ix arraycopyName).before args s = true) (hd : decode cc pc = .ok (.invokestatic ix, 3)) (kk : ∀ (H1 : Heap) (locs1 : List Loc), ZW D B y ad q (sCopy u t a.toNat w b.toNat n.toNat) r H1 → va_S (fun x => B ≤ x) H0 H1 locs1 → W p l e R s m args below meth c H1 locs1 cells slots Q (F0 m (pc + 3) ls (rest))) : W p l e R s m args below meth c H locs cells slots Q (F0 m (pc) ls (.int (zI n) :: .int (zI b) :: .ref (ad (2, w)) :: .int (zI a) :: .ref (ad (2, t)) :: rest)) := by
  obtain ⟨⟨h1, h2, h3⟩, ⟨h4, h5, h6, h7⟩, h8⟩ := hc
  have ea := zcl_n h1 (by omega)
  have eb := zcl_n h2 (by omega)
  have en := zcl_n h3 (by omega)
  obtain ⟨q0, g0⟩ := zw_at (ad := ad) (y := y) (r := r) hi
  obtain ⟨q1, g1⟩ := zw_at (ad := ad) (y := y) (r := r) hj
  refine va_copyi M.1 M.2.1 (hml.trans hz.symm) M.2.2.2.1 hlk (M.2.2.1 _ w_538) (M.2.2.1 _ w_537) (M.2.2.1 _ w_80) M.2.2.2.2 hW.1 hW.2 hS q0 q1 1 1 g0 g1 rfl rfl rfl (znn_n h1 (by omega)) (znn_n h2 (by omega)) (znn_n h3 (by omega)) (by rw [ea, en]; omega) (by rw [eb, en]; omega) (by rw [ea, en]; exact fun i hi => zfc (h8 i hi)) hfr (Nat.le_trans (Nat.add_le_add hrm (show nativeFrameWords "java/lang/System" "arraycopy" 5 + 11 ≤ 52 by decide)) hlo) hd (fun H1 locs1 hP hD hS => kk H1 locs1 ?_ hS)
  rw [ea, eb, en] at hP hD
  have E := zw_set (v := sCopy u t a.toNat w b.toNat n.toNat) (w := r) (e := .inl (y 1, cN u w, .inl (va_cpy (fun j => zI (cA u 0 t j)) (fun j => zI (cA u 0 w j)) a.toNat b.toNat n.toNat))) hW.2 g1 hj rfl (by show (.inl (y 1, cN u w, .inl (fun j => zI (cA (sCopy u t a.toNat w b.toNat n.toNat) 0 w j))) : va_E) = _; rw [cp_row]) (fun j _ hj => zo_cp hj)
  have hP : va_P D ZCL ((zws q ad y u r).set q1 (ad (2, w), .inl (y 1, cN u w, .inl (va_cpy (fun j => zI (cA u 0 t j)) (fun j => zI (cA u 0 w j)) a.toNat b.toNat n.toNat)))) H1 := hP
  have hD : va_D (fun x => B ≤ x) ((zws q ad y u r).set q1 (ad (2, w), .inl (y 1, cN u w, .inl (va_cpy (fun j => zI (cA u 0 t j)) (fun j => zI (cA u 0 w j)) a.toNat b.toNat n.toNat)))) := hD
  rw [E] at hP hD
  exact ⟨hP, hD⟩
end
