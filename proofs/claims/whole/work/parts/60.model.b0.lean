set_option maxRecDepth 100000 in
set_option maxHeartbeats 4000000 in
theorem k_r_type {l : Launch} {D : va_G} {B : Nat} {y : Nat → ClassId} {ad : Nat × Nat → Nat} {cu : ZC} (F : Nat) (u : ZR) (v1 : Int64) {res : Int} {uo : ZR} (hf : r_type F u v1 = some (res, uo)) : Met l y_r_type (.code y_r_type b_r_type 6 (some .boolean) :: zt) { frames := 0, cells := 0, slots := 0, locals := 0 } (va_Pc [.ref (ad (10, 0)), .long v1] (fun U => ZP D B y ad true cu u U)) (va_Qi (fun v (_ : Unit) => v = zI res) (fun _ t => ZP D B y ad true cu uo t) (fun x => B ≤ x)) 0 0 (fun x => B ≤ x) := by
  refine Met.ofW (cc := b_r_type) (maxL := 6) (ret := (some .boolean)) (by decide) rfl ?_
  intro p e s m args below meth c s₁ Bd hml hv
  obtain ⟨hargs, hB, hW, hK⟩ := hv
  have hx := Bd.exec
  have hb := Bd.bytes
  have hr := Bd.returns
  have hts0 := atoms_spec (ws := .code y_r_type b_r_type 6 (some .boolean) :: zt) Bd.pre
  have hown : s.vm.findClass "TreeShellModel" = some m.cls := findClass_of_methodNamed Bd.named
  have hlocks := Bd.notSynchronized
  have M : ZM p c b_r_type s args m "TreeShellModel" D y := ⟨hx, hb, fun w h => hts0 w (List.mem_cons_of_mem _ h), hown, hK⟩
  have hS : va_S (fun x => B ≤ x) s.heap s.heap [] := va_S.rf
  have hE := lg_entry_eq m ([.ref (ad (10, 0)), .long v1] : List Value) 6
  rw [← hargs] at hE
  rw [hE]
  have hl := lv_entry ([.ref (ad (10, 0)), .long v1] : List Value) (n := 6) (Nat.le_of_ble_eq_true rfl)
  generalize (lg_sl ([.ref (ad (10, 0)), .long v1] : List Value) ++ List.replicate (6 - (lg_sl ([.ref (ad (10, 0)), .long v1] : List Value)).length) Slot.unset).toArray = ls at hl ⊢
  have hl : lv_has ls 6 [(0, .ref (ad (10, 0))), (1, .long v1)] := hl
  refine z_start (fun Q R hQ hR => ?_)
  generalize hH : s.heap = H at hW
  have hS : va_S (fun x => B ≤ x) s.heap H [] := by rw [← hH]; exact hS
  have C_8 : ∀ (n : Nat), ∀ (u : ZR) (v1 : Int64) (v3 : Int) (v4 : Int) (H : Heap) (locs : List Loc) (ls : Array Slot), r_type_8 F n u v1 v3 v4 = some (res, uo) → lv_has ls 6 [(0, .ref (ad (10, 0))), (1, .long v1), (3, .int (zI v3)), (4, .int (zI v4))] → ZW D B y ad true cu u H → va_S (fun x => B ≤ x) s.heap H locs → W p l e R s m args below meth c H locs 0 0 Q (F0 m 8 ls []) := by
    intro n
    induction n with
    | zero => intro u v1 v3 v4 H locs ls hf; cases (show (none : Option (Int × ZR)) = some (res, uo) from hf)
    | succ n ih =>
      intro u v1 v3 v4 H locs ls hf hl hW hS
      rw [r_type_8] at hf
      refine lv_iload hx hb d_r_type_8 (lv_at hl 3 rfl) ?_
      refine z_bipush hx hb d_r_type_10 rfl ?_
      refine z_icmp_ge hx hb d_r_type_12 rfl hf (fun hf => ?_) (fun hf => ?_)
      · refine lv_aload_n hx hb d_r_type_81 rfl (lv_at hl 0 rfl) ?_
        refine lv_iload_n hx hb d_r_type_82 rfl (lv_at hl 2 rfl) ?_
        refine zp_Mo_lineLength M hW hS (M.2.2.1 _ w_742) d_r_type_83 (fun H locs hW hS => ?_)
        refine z_iconst hx hb d_r_type_86 ?_
        cases hf
        subst hQ
        exact z_retz hx hb (Or.inr rfl) hr hlocks hB hK hW hS d_r_type_87
      · refine lv_lload_n hx hb d_r_type_15 rfl (lv_at hl 1 rfl) ?_
        refine z_bipush hx hb d_r_type_16 rfl ?_
        refine z_bipush hx hb d_r_type_18 rfl ?_
        refine lv_iload hx hb d_r_type_20 (lv_at hl 3 rfl) ?_
        refine z_imul hx hb d_r_type_22 ?_
        refine z_isub hx hb d_r_type_23 ?_
        refine z_lushr hx hb d_r_type_24 ?_
        refine z_l2i hx hb d_r_type_25 ?_
        refine z_sipush hx hb d_r_type_26 rfl ?_
        refine z_iand hx hb d_r_type_29 ?_
        refine lv_istore (lv' := [(5, .int (zI (zand (zl2i (zlushr v1 (56 - (8 * v4)))) 255))), (0, .ref (ad (10, 0))), (1, .long v1), (3, .int (zI v3)), (4, .int (zI v4))]) hx hb d_r_type_30 hl (by decide) rfl (fun ls hl => ?_)
        refine lv_iload hx hb d_r_type_32 (lv_at hl 0 rfl) ?_
        obtain ⟨b1, g1, hf⟩ := ze1 hf
        have JT1 : b1 = true → ∀ (H : Heap) (locs : List Loc), ZW D B y ad true cu u H → va_S (fun x => B ≤ x) s.heap H locs → W p l e R s m args below meth c H locs 0 0 Q (F0 m 59 ls []) := by
          intro hv H locs hW hS
          have hf := zp (hv) hf
          refine lv_iload hx hb d_r_type_59 (lv_at hl 0 rfl) ?_
          obtain ⟨x3, u4, g2, hf⟩ := ze2 hf
          have J2 : ∀ (H : Heap) (locs : List Loc) (ls : Array Slot), lv_has ls 6 [(0, .ref (ad (10, 0))), (1, .long v1), (3, .int (zI x3)), (4, .int (zI v4))] → ZW D B y ad true cu u4 H → va_S (fun x => B ≤ x) s.heap H locs → W p l e R s m args below meth c H locs 0 0 Q (F0 m 75 ls []) := by
            intro H locs ls hl hW hS
            refine lv_iinc (k := 3) (v := zI (v4 + 1)) (lv' := [(4, .int (zI (v4 + 1))), (0, .ref (ad (10, 0))), (1, .long v1), (3, .int (zI x3))]) hx hb d_r_type_75 hl rfl (zI_add _ _) (by decide) rfl (fun ls hl => ?_)
            refine lv_goto hx hb d_r_type_78 rfl ?_
            exact ih _ _ _ _ _ _ _ hf (lv_sub hl [1, 2, 3, 0] rfl) hW hS
          refine z_if_eq hx hb d_r_type_61 rfl g2 (fun g2 => ?_) (fun g2 => ?_)
          · cases g2
            exact J2 _ _ _ (lv_sub hl [1, 2, 3, 4] rfl) hW hS
          · refine lv_aload_n hx hb d_r_type_64 rfl (lv_at hl 1 rfl) ?_
            refine zg_Mo_line M hW (M.2.2.1 _ w_743) d_r_type_65 ?_
            refine lv_iload_n hx hb d_r_type_68 rfl (lv_at hl 3 rfl) ?_
            refine lv_iload hx hb d_r_type_69 (lv_at hl 0 rfl) ?_
            obtain ⟨g3, g2⟩ := zg g2
            refine zw_11 M hW hS g3 d_r_type_71 (fun H locs hW hS => ?_)
            obtain ⟨u2, g4, g2⟩ := ze1 g2
            have g4 := Option.some.inj g4
            rw [g4] at hW
            refine lv_iinc (k := 3) (v := zI (v3 + 1)) (lv' := [(3, .int (zI (v3 + 1))), (5, .int (zI (zand (zl2i (zlushr v1 (56 - (8 * v4)))) 255))), (0, .ref (ad (10, 0))), (1, .long v1), (4, .int (zI v4))]) hx hb d_r_type_72 hl rfl (zI_add _ _) (by decide) rfl (fun ls hl => ?_)
            cases g2
            exact J2 _ _ _ (lv_sub hl [2, 3, 0, 4] rfl) hW hS
        have JF1 : b1 = false → ∀ (H : Heap) (locs : List Loc), ZW D B y ad true cu u H → va_S (fun x => B ≤ x) s.heap H locs → W p l e R s m args below meth c H locs 0 0 Q (F0 m 57 ls []) := by
          intro hv H locs hW hS
          have hf := zn (by rw [hv]; decide) hf
          refine z_iconst hx hb d_r_type_57 ?_
          cases hf
          subst hQ
          exact z_retz hx hb (Or.inl rfl) hr hlocks hB hK hW hS d_r_type_58
        refine z_if_eq hx hb d_r_type_34 rfl g1 (fun g1 => ?_) (fun g1 => ?_)
        · exact JT1 (Option.some.inj g1).symm _ _ hW hS
        · refine lv_iload hx hb d_r_type_37 (lv_at hl 0 rfl) ?_
          refine z_bipush hx hb d_r_type_39 rfl ?_
          refine z_icmp_lt hx hb d_r_type_41 rfl g1 (fun g1 => ?_) (fun g1 => ?_)
          · exact JF1 (Option.some.inj g1).symm _ _ hW hS
          · refine lv_iload hx hb d_r_type_44 (lv_at hl 0 rfl) ?_
            refine z_bipush hx hb d_r_type_46 rfl ?_
            refine z_icmp_gt hx hb d_r_type_48 rfl g1 (fun g1 => ?_) (fun g1 => ?_)
            · exact JF1 (Option.some.inj g1).symm _ _ hW hS
            · refine lv_iload_n hx hb d_r_type_51 rfl (lv_at hl 3 rfl) ?_
              refine z_bipush hx hb d_r_type_52 rfl ?_
              refine z_icmp_ne hx hb d_r_type_54 rfl g1 (fun g1 => ?_) (fun g1 => ?_)
              · exact JT1 (Option.some.inj g1).symm _ _ hW hS
              · exact JF1 (Option.some.inj g1).symm _ _ hW hS
  rw [r_type] at hf
  refine lv_aload_n hx hb d_r_type_0 rfl (lv_at hl 0 rfl) ?_
  refine zg_Mo_lineLength M hW (M.2.2.1 _ w_742) d_r_type_1 ?_
  refine lv_istore_n (lv' := [(3, .int (zI (rI u 10))), (0, .ref (ad (10, 0))), (1, .long v1)]) hx hb d_r_type_4 rfl hl (by decide) rfl (fun ls hl => ?_)
  refine z_iconst hx hb d_r_type_5 ?_
  refine lv_istore (lv' := [(4, .int (zI 0)), (3, .int (zI (rI u 10))), (0, .ref (ad (10, 0))), (1, .long v1)]) hx hb d_r_type_6 hl (by decide) rfl (fun ls hl => ?_)
  exact C_8 F _ _ _ _ _ _ _ hf (lv_sub hl [2, 3, 1, 0] rfl) hW hS
set_option maxRecDepth 100000 in
set_option maxHeartbeats 4000000 in
theorem k_r_wipe {l : Launch} {D : va_G} {B : Nat} {y : Nat → ClassId} {ad : Nat × Nat → Nat} {cu : ZC} (F : Nat) (u : ZR) {uo : ZR} (hf : r_wipe F u = some uo) : Met l y_r_wipe (.code y_r_wipe b_r_wipe 1 none :: zt) { frames := 0, cells := 0, slots := 0, locals := 0 } (va_Pc [.ref (ad (10, 0))] (fun U => ZP D B y ad true cu u U)) (va_Qv (fun (_ : Unit) => True) (fun _ t => ZP D B y ad true cu uo t) (fun x => B ≤ x)) 0 0 (fun x => B ≤ x) := by
  refine Met.ofW (cc := b_r_wipe) (maxL := 1) (ret := none) (by decide) rfl ?_
  intro p e s m args below meth c s₁ Bd hml hv
  obtain ⟨hargs, hB, hW, hK⟩ := hv
  have hx := Bd.exec
  have hb := Bd.bytes
  have hr := Bd.returns
  have hts0 := atoms_spec (ws := .code y_r_wipe b_r_wipe 1 none :: zt) Bd.pre
  have hown : s.vm.findClass "TreeShellModel" = some m.cls := findClass_of_methodNamed Bd.named
  have hlocks := Bd.notSynchronized
  have M : ZM p c b_r_wipe s args m "TreeShellModel" D y := ⟨hx, hb, fun w h => hts0 w (List.mem_cons_of_mem _ h), hown, hK⟩
  have hS : va_S (fun x => B ≤ x) s.heap s.heap [] := va_S.rf
  have hE := lg_entry_eq m ([.ref (ad (10, 0))] : List Value) 1
  rw [← hargs] at hE
  rw [hE]
  have hl := lv_entry ([.ref (ad (10, 0))] : List Value) (n := 1) (Nat.le_of_ble_eq_true rfl)
  generalize (lg_sl ([.ref (ad (10, 0))] : List Value) ++ List.replicate (1 - (lg_sl ([.ref (ad (10, 0))] : List Value)).length) Slot.unset).toArray = ls at hl ⊢
  have hl : lv_has ls 1 [(0, .ref (ad (10, 0)))] := hl
  refine z_start (fun Q R hQ hR => ?_)
  generalize hH : s.heap = H at hW
  have hS : va_S (fun x => B ≤ x) s.heap H [] := by rw [← hH]; exact hS
  rw [r_wipe] at hf
  refine lv_aload_n hx hb d_r_wipe_0 rfl (lv_at hl 0 rfl) ?_
  refine z_iconst hx hb d_r_wipe_1 ?_
  refine zp_Mo_lineLength M hW hS (M.2.2.1 _ w_742) d_r_wipe_2 (fun H locs hW hS => ?_)
  cases hf
  subst hQ
  exact z_retv hx hb hr hlocks hB hK hW hS d_r_wipe_5
set_option maxRecDepth 100000 in
set_option maxHeartbeats 4000000 in
theorem k_r_typed {l : Launch} {D : va_G} {B : Nat} {y : Nat → ClassId} {ad : Nat × Nat → Nat} {cu : ZC} (F : Nat) (u : ZR) {res : Int} (hf : r_typed F u = some res) : Met l y_r_typed (.code y_r_typed b_r_typed 1 (some .int) :: zt) { frames := 0, cells := 0, slots := 0, locals := 0 } (va_Pc [.ref (ad (10, 0))] (fun U => ZP D B y ad true cu u U)) (va_Qi (fun v (_ : Unit) => v = zI res) (fun _ t => ZP D B y ad true cu u t) (fun x => B ≤ x)) 0 0 (fun x => B ≤ x) := by
  refine Met.ofW (cc := b_r_typed) (maxL := 1) (ret := (some .int)) (by decide) rfl ?_
  intro p e s m args below meth c s₁ Bd hml hv
  obtain ⟨hargs, hB, hW, hK⟩ := hv
  have hx := Bd.exec
  have hb := Bd.bytes
  have hr := Bd.returns
  have hts0 := atoms_spec (ws := .code y_r_typed b_r_typed 1 (some .int) :: zt) Bd.pre
  have hown : s.vm.findClass "TreeShellModel" = some m.cls := findClass_of_methodNamed Bd.named
  have hlocks := Bd.notSynchronized
  have M : ZM p c b_r_typed s args m "TreeShellModel" D y := ⟨hx, hb, fun w h => hts0 w (List.mem_cons_of_mem _ h), hown, hK⟩
  have hS : va_S (fun x => B ≤ x) s.heap s.heap [] := va_S.rf
  have hE := lg_entry_eq m ([.ref (ad (10, 0))] : List Value) 1
  rw [← hargs] at hE
  rw [hE]
  have hl := lv_entry ([.ref (ad (10, 0))] : List Value) (n := 1) (Nat.le_of_ble_eq_true rfl)
  generalize (lg_sl ([.ref (ad (10, 0))] : List Value) ++ List.replicate (1 - (lg_sl ([.ref (ad (10, 0))] : List Value)).length) Slot.unset).toArray = ls at hl ⊢
  have hl : lv_has ls 1 [(0, .ref (ad (10, 0)))] := hl
  refine z_start (fun Q R hQ hR => ?_)
  generalize hH : s.heap = H at hW
  have hS : va_S (fun x => B ≤ x) s.heap H [] := by rw [← hH]; exact hS
  rw [r_typed] at hf
  refine lv_aload_n hx hb d_r_typed_0 rfl (lv_at hl 0 rfl) ?_
  refine zg_Mo_lineLength M hW (M.2.2.1 _ w_742) d_r_typed_1 ?_
  cases hf
  subst hQ
  exact z_reti hx hb hr hlocks hB hK hW hS d_r_typed_4
set_option maxRecDepth 100000 in
set_option maxHeartbeats 4000000 in
theorem k_r_at {l : Launch} {D : va_G} {B : Nat} {y : Nat → ClassId} {ad : Nat × Nat → Nat} {cu : ZC} (F : Nat) (u : ZR) (v1 : Int) {res : Int} (hf : r_at F u v1 = some res) : Met l y_r_at (.code y_r_at b_r_at 2 (some .int) :: zt) { frames := 0, cells := 0, slots := 0, locals := 0 } (va_Pc [.ref (ad (10, 0)), .int (zI v1)] (fun U => ZP D B y ad true cu u U)) (va_Qi (fun v (_ : Unit) => v = zI res) (fun _ t => ZP D B y ad true cu u t) (fun x => B ≤ x)) 0 0 (fun x => B ≤ x) := by
  refine Met.ofW (cc := b_r_at) (maxL := 2) (ret := (some .int)) (by decide) rfl ?_
  intro p e s m args below meth c s₁ Bd hml hv
  obtain ⟨hargs, hB, hW, hK⟩ := hv
  have hx := Bd.exec
  have hb := Bd.bytes
  have hr := Bd.returns
  have hts0 := atoms_spec (ws := .code y_r_at b_r_at 2 (some .int) :: zt) Bd.pre
  have hown : s.vm.findClass "TreeShellModel" = some m.cls := findClass_of_methodNamed Bd.named
  have hlocks := Bd.notSynchronized
  have M : ZM p c b_r_at s args m "TreeShellModel" D y := ⟨hx, hb, fun w h => hts0 w (List.mem_cons_of_mem _ h), hown, hK⟩
  have hS : va_S (fun x => B ≤ x) s.heap s.heap [] := va_S.rf
  have hE := lg_entry_eq m ([.ref (ad (10, 0)), .int (zI v1)] : List Value) 2
  rw [← hargs] at hE
  rw [hE]
  have hl := lv_entry ([.ref (ad (10, 0)), .int (zI v1)] : List Value) (n := 2) (Nat.le_of_ble_eq_true rfl)
  generalize (lg_sl ([.ref (ad (10, 0)), .int (zI v1)] : List Value) ++ List.replicate (2 - (lg_sl ([.ref (ad (10, 0)), .int (zI v1)] : List Value)).length) Slot.unset).toArray = ls at hl ⊢
  have hl : lv_has ls 2 [(0, .ref (ad (10, 0))), (1, .int (zI v1))] := hl
  refine z_start (fun Q R hQ hR => ?_)
  generalize hH : s.heap = H at hW
  have hS : va_S (fun x => B ≤ x) s.heap H [] := by rw [← hH]; exact hS
  rw [r_at] at hf
  refine lv_iload_n hx hb d_r_at_0 rfl (lv_at hl 1 rfl) ?_
  refine lv_aload_n hx hb d_r_at_1 rfl (lv_at hl 0 rfl) ?_
  refine zg_Mo_lineLength M hW (M.2.2.1 _ w_742) d_r_at_2 ?_
  obtain ⟨x1, g1, hf⟩ := ze1 hf
  have J1 : ∀ (H : Heap) (locs : List Loc) (ls : Array Slot), lv_has ls 2 [] → ZW D B y ad true cu u H → va_S (fun x => B ≤ x) s.heap H locs → W p l e R s m args below meth c H locs 0 0 Q (F0 m 18 ls [.int (zI x1)]) := by
    intro H locs ls hl hW hS
    cases hf
    subst hQ
    exact z_reti hx hb hr hlocks hB hK hW hS d_r_at_18
  refine z_icmp_ge hx hb d_r_at_5 rfl g1 (fun g1 => ?_) (fun g1 => ?_)
  · refine z_iconst hx hb d_r_at_17 ?_
    cases g1
    exact J1 _ _ _ (lv_sub hl [] rfl) hW hS
  · refine lv_aload_n hx hb d_r_at_8 rfl (lv_at hl 0 rfl) ?_
    refine zg_Mo_line M hW (M.2.2.1 _ w_743) d_r_at_9 ?_
    refine lv_iload_n hx hb d_r_at_12 rfl (lv_at hl 1 rfl) ?_
    obtain ⟨g2, g1⟩ := zg g1
    refine zr_11 M hW g2 d_r_at_13 ?_
    refine lv_goto hx hb d_r_at_14 rfl ?_
    cases g1
    exact J1 _ _ _ (lv_sub hl [] rfl) hW hS
set_option maxRecDepth 100000 in
set_option maxHeartbeats 4000000 in
theorem k_r_operator {l : Launch} {D : va_G} {B : Nat} {y : Nat → ClassId} {ad : Nat × Nat → Nat} {cu : ZC} (F : Nat) (u : ZR) (v1 : Int) {res : Int} (hf : r_operator F u v1 = some res) : Met l y_r_operator (.code y_r_operator b_r_operator 4 (some .int) :: zt) { frames := 1, cells := 0, slots := 0, locals := 21 } (va_Pc [.ref (ad (10, 0)), .int (zI v1)] (fun U => ZP D B y ad true cu u U)) (va_Qi (fun v (_ : Unit) => v = zI res) (fun _ t => ZP D B y ad true cu u t) (fun x => B ≤ x)) 0 0 (fun x => B ≤ x) := by
  refine Met.ofW (cc := b_r_operator) (maxL := 4) (ret := (some .int)) (by decide) rfl ?_
  intro p e s m args below meth c s₁ Bd hml hv
  obtain ⟨hargs, hB, hW, hK⟩ := hv
  have hx := Bd.exec
  have hb := Bd.bytes
  have hr := Bd.returns
  have hts0 := atoms_spec (ws := .code y_r_operator b_r_operator 4 (some .int) :: zt) Bd.pre
  have hown : s.vm.findClass "TreeShellModel" = some m.cls := findClass_of_methodNamed Bd.named
  have hlocks := Bd.notSynchronized
  have M : ZM p c b_r_operator s args m "TreeShellModel" D y := ⟨hx, hb, fun w h => hts0 w (List.mem_cons_of_mem _ h), hown, hK⟩
  have hS : va_S (fun x => B ≤ x) s.heap s.heap [] := va_S.rf
  have hE := lg_entry_eq m ([.ref (ad (10, 0)), .int (zI v1)] : List Value) 4
  rw [← hargs] at hE
  rw [hE]
  have hl := lv_entry ([.ref (ad (10, 0)), .int (zI v1)] : List Value) (n := 4) (Nat.le_of_ble_eq_true rfl)
  generalize (lg_sl ([.ref (ad (10, 0)), .int (zI v1)] : List Value) ++ List.replicate (4 - (lg_sl ([.ref (ad (10, 0)), .int (zI v1)] : List Value)).length) Slot.unset).toArray = ls at hl ⊢
  have hl : lv_has ls 4 [(0, .ref (ad (10, 0))), (1, .int (zI v1))] := hl
  refine z_start (fun Q R hQ hR => ?_)
  generalize hH : s.heap = H at hW
  have hS : va_S (fun x => B ≤ x) s.heap H [] := by rw [← hH]; exact hS
  rw [r_operator] at hf
  refine lv_aload_n hx hb d_r_operator_0 rfl (lv_at hl 0 rfl) ?_
  refine lv_iload_n hx hb d_r_operator_1 rfl (lv_at hl 1 rfl) ?_
  obtain ⟨p1, g1, hf⟩ := ze1 hf
  refine z_callVi (As := [.int (zI v1)]) (rest := []) (k_r_at F _ _ g1) M hml (cw_r_at M.2.2.1 (M.2.2.1 _ w_910) (by rw [hR]; exact Nat.le_of_ble_eq_true rfl) (by rw [hR]; exact Nat.le_of_ble_eq_true rfl)) (zv_Mo hK hW) hB hW hS rfl hl.1 rfl (Nat.le_of_ble_eq_true rfl) d_r_operator_2 (by rw [hR]; exact ⟨Nat.zero_le _, Nat.zero_le _⟩) (fun H locs hW hS => ?_)
  refine lv_istore_n (lv' := [(2, .int (zI p1)), (0, .ref (ad (10, 0))), (1, .int (zI v1))]) hx hb d_r_operator_5 rfl hl (by decide) rfl (fun ls hl => ?_)
  refine lv_aload_n hx hb d_r_operator_6 rfl (lv_at hl 1 rfl) ?_
  refine lv_iload_n hx hb d_r_operator_7 rfl (lv_at hl 2 rfl) ?_
  refine z_iconst hx hb d_r_operator_8 ?_
  refine z_iadd hx hb d_r_operator_9 ?_
  obtain ⟨p2, g2, hf⟩ := ze1 hf
  refine z_callVi (As := [.int (zI (v1 + 1))]) (rest := []) (k_r_at F _ _ g2) M hml (cw_r_at M.2.2.1 (M.2.2.1 _ w_910) (by rw [hR]; exact Nat.le_of_ble_eq_true rfl) (by rw [hR]; exact Nat.le_of_ble_eq_true rfl)) (zv_Mo hK hW) hB hW hS rfl hl.1 rfl (Nat.le_of_ble_eq_true rfl) d_r_operator_10 (by rw [hR]; exact ⟨Nat.zero_le _, Nat.zero_le _⟩) (fun H locs hW hS => ?_)
  refine lv_istore_n (lv' := [(3, .int (zI p2)), (2, .int (zI p1)), (0, .ref (ad (10, 0))), (1, .int (zI v1))]) hx hb d_r_operator_13 rfl hl (by decide) rfl (fun ls hl => ?_)
  refine lv_iload_n hx hb d_r_operator_14 rfl (lv_at hl 1 rfl) ?_
  by_cases c15_0 : zI p1 = 33
  · have hf := zp c15_0 hf
    refine lv_lookup hx hb d_r_operator_15 (by decide) (by rw [c15_0]) rfl ?_
    refine z_bipush hx hb d_r_operator_136 rfl ?_
    cases hf
    subst hQ
    exact z_reti hx hb hr hlocks hB hK hW hS d_r_operator_138
  · have hf := zn c15_0 hf
    by_cases c15_1 : zI p1 = 38
    · have hf := zp c15_1 hf
      refine lv_lookup hx hb d_r_operator_15 (by decide) (by rw [c15_1]) rfl ?_
      refine lv_iload_n hx hb d_r_operator_90 rfl (lv_at hl 0 rfl) ?_
      refine z_bipush hx hb d_r_operator_91 rfl ?_
      obtain ⟨x3, g3, hf⟩ := ze1 hf
      have J3 : ∀ (H : Heap) (locs : List Loc) (ls : Array Slot), lv_has ls 4 [] → ZW D B y ad true cu u H → va_S (fun x => B ≤ x) s.heap H locs → W p l e R s m args below meth c H locs 0 0 Q (F0 m 101 ls [.int (zI x3)]) := by
        intro H locs ls hl hW hS
        cases hf
        subst hQ
        exact z_reti hx hb hr hlocks hB hK hW hS d_r_operator_101
      refine z_icmp_ne hx hb d_r_operator_93 rfl g3 (fun g3 => ?_) (fun g3 => ?_)
      · refine z_iconst hx hb d_r_operator_100 ?_
        cases g3
        exact J3 _ _ _ (lv_sub hl [] rfl) hW hS
      · refine z_iconst hx hb d_r_operator_96 ?_
        refine lv_goto hx hb d_r_operator_97 rfl ?_
        cases g3
        exact J3 _ _ _ (lv_sub hl [] rfl) hW hS
    · have hf := zn c15_1 hf
      by_cases c15_2 : zI p1 = 40
      · have hf := zp c15_2 hf
        refine lv_lookup hx hb d_r_operator_15 (by decide) (by rw [c15_2]) rfl ?_
        refine z_bipush hx hb d_r_operator_130 rfl ?_
        cases hf
        subst hQ
        exact z_reti hx hb hr hlocks hB hK hW hS d_r_operator_132
      · have hf := zn c15_2 hf
        by_cases c15_3 : zI p1 = 41
        · have hf := zp c15_3 hf
          refine lv_lookup hx hb d_r_operator_15 (by decide) (by rw [c15_3]) rfl ?_
          refine z_bipush hx hb d_r_operator_133 rfl ?_
          cases hf
          subst hQ
          exact z_reti hx hb hr hlocks hB hK hW hS d_r_operator_135
        · have hf := zn c15_3 hf
          by_cases c15_4 : zI p1 = 59
          · have hf := zp c15_4 hf
            refine lv_lookup hx hb d_r_operator_15 (by decide) (by rw [c15_4]) rfl ?_
            refine z_iconst hx hb d_r_operator_88 ?_
            cases hf
            subst hQ
            exact z_reti hx hb hr hlocks hB hK hW hS d_r_operator_89
          · have hf := zn c15_4 hf
            by_cases c15_5 : zI p1 = 60
            · have hf := zp c15_5 hf
              refine lv_lookup hx hb d_r_operator_15 (by decide) (by rw [c15_5]) rfl ?_
              refine z_iconst hx hb d_r_operator_114 ?_
              cases hf
              subst hQ
              exact z_reti hx hb hr hlocks hB hK hW hS d_r_operator_115
            · have hf := zn c15_5 hf
              by_cases c15_6 : zI p1 = 62
              · have hf := zp c15_6 hf
                refine lv_lookup hx hb d_r_operator_15 (by decide) (by rw [c15_6]) rfl ?_
                refine lv_iload_n hx hb d_r_operator_116 rfl (lv_at hl 0 rfl) ?_
                refine z_bipush hx hb d_r_operator_117 rfl ?_
                obtain ⟨x4, g4, hf⟩ := ze1 hf
                have J4 : ∀ (H : Heap) (locs : List Loc) (ls : Array Slot), lv_has ls 4 [] → ZW D B y ad true cu u H → va_S (fun x => B ≤ x) s.heap H locs → W p l e R s m args below meth c H locs 0 0 Q (F0 m 129 ls [.int (zI x4)]) := by
                  intro H locs ls hl hW hS
                  cases hf
                  subst hQ
                  exact z_reti hx hb hr hlocks hB hK hW hS d_r_operator_129
                refine z_icmp_ne hx hb d_r_operator_119 rfl g4 (fun g4 => ?_) (fun g4 => ?_)
                · refine z_bipush hx hb d_r_operator_127 rfl ?_
                  cases g4
                  exact J4 _ _ _ (lv_sub hl [] rfl) hW hS
                · refine z_bipush hx hb d_r_operator_122 rfl ?_
                  refine lv_goto hx hb d_r_operator_124 rfl ?_
                  cases g4
                  exact J4 _ _ _ (lv_sub hl [] rfl) hW hS
              · have hf := zn c15_6 hf
                by_cases c15_7 : zI p1 = 124
                · have hf := zp c15_7 hf
                  refine lv_lookup hx hb d_r_operator_15 (by decide) (by rw [c15_7]) rfl ?_
                  refine lv_iload_n hx hb d_r_operator_102 rfl (lv_at hl 0 rfl) ?_
                  refine z_bipush hx hb d_r_operator_103 rfl ?_
                  obtain ⟨x5, g5, hf⟩ := ze1 hf
                  have J5 : ∀ (H : Heap) (locs : List Loc) (ls : Array Slot), lv_has ls 4 [] → ZW D B y ad true cu u H → va_S (fun x => B ≤ x) s.heap H locs → W p l e R s m args below meth c H locs 0 0 Q (F0 m 113 ls [.int (zI x5)]) := by
                    intro H locs ls hl hW hS
                    cases hf
                    subst hQ
                    exact z_reti hx hb hr hlocks hB hK hW hS d_r_operator_113
                  refine z_icmp_ne hx hb d_r_operator_105 rfl g5 (fun g5 => ?_) (fun g5 => ?_)
                  · refine z_iconst hx hb d_r_operator_112 ?_
                    cases g5
                    exact J5 _ _ _ (lv_sub hl [] rfl) hW hS
                  · refine z_iconst hx hb d_r_operator_108 ?_
                    refine lv_goto hx hb d_r_operator_109 rfl ?_
                    cases g5
                    exact J5 _ _ _ (lv_sub hl [] rfl) hW hS
                · have hf := zn c15_7 hf
                  refine lv_lookup hx hb d_r_operator_15 (by decide) ((lv_osw c15_0 rfl).trans <| (lv_osw c15_1 rfl).trans <| (lv_osw c15_2 rfl).trans <| (lv_osw c15_3 rfl).trans <| (lv_osw c15_4 rfl).trans <| (lv_osw c15_5 rfl).trans <| (lv_osw c15_6 rfl).trans <| (lv_osw c15_7 rfl).trans <| rfl) rfl ?_
                  refine z_iconst hx hb d_r_operator_139 ?_
                  cases hf
                  subst hQ
                  exact z_reti hx hb hr hlocks hB hK hW hS d_r_operator_140
set_option maxRecDepth 100000 in
set_option maxHeartbeats 4000000 in
theorem k_r_token {l : Launch} {D : va_G} {B : Nat} {y : Nat → ClassId} {ad : Nat × Nat → Nat} {cu : ZC} (F : Nat) (u : ZR) (v1 : Int) (v2 : Int) {uo : ZR} (hf : r_token F u v1 v2 = some uo) : Met l y_r_token (.code y_r_token b_r_token 3 none :: zt) { frames := 0, cells := 0, slots := 0, locals := 0 } (va_Pc [.ref (ad (10, 0)), .int (zI v1), .int (zI v2)] (fun U => ZP D B y ad true cu u U)) (va_Qv (fun (_ : Unit) => True) (fun _ t => ZP D B y ad true cu uo t) (fun x => B ≤ x)) 0 0 (fun x => B ≤ x) := by
  refine Met.ofW (cc := b_r_token) (maxL := 3) (ret := none) (by decide) rfl ?_
  intro p e s m args below meth c s₁ Bd hml hv
  obtain ⟨hargs, hB, hW, hK⟩ := hv
  have hx := Bd.exec
  have hb := Bd.bytes
  have hr := Bd.returns
  have hts0 := atoms_spec (ws := .code y_r_token b_r_token 3 none :: zt) Bd.pre
  have hown : s.vm.findClass "TreeShellModel" = some m.cls := findClass_of_methodNamed Bd.named
  have hlocks := Bd.notSynchronized
  have M : ZM p c b_r_token s args m "TreeShellModel" D y := ⟨hx, hb, fun w h => hts0 w (List.mem_cons_of_mem _ h), hown, hK⟩
  have hS : va_S (fun x => B ≤ x) s.heap s.heap [] := va_S.rf
  have hE := lg_entry_eq m ([.ref (ad (10, 0)), .int (zI v1), .int (zI v2)] : List Value) 3
  rw [← hargs] at hE
  rw [hE]
  have hl := lv_entry ([.ref (ad (10, 0)), .int (zI v1), .int (zI v2)] : List Value) (n := 3) (Nat.le_of_ble_eq_true rfl)
  generalize (lg_sl ([.ref (ad (10, 0)), .int (zI v1), .int (zI v2)] : List Value) ++ List.replicate (3 - (lg_sl ([.ref (ad (10, 0)), .int (zI v1), .int (zI v2)] : List Value)).length) Slot.unset).toArray = ls at hl ⊢
  have hl : lv_has ls 3 [(0, .ref (ad (10, 0))), (1, .int (zI v1)), (2, .int (zI v2))] := hl
  refine z_start (fun Q R hQ hR => ?_)
  generalize hH : s.heap = H at hW
  have hS : va_S (fun x => B ≤ x) s.heap H [] := by rw [← hH]; exact hS
  rw [r_token] at hf
  refine lv_aload_n hx hb d_r_token_0 rfl (lv_at hl 0 rfl) ?_
  refine zg_Mo_kind M hW (M.2.2.1 _ w_745) d_r_token_1 ?_
  refine lv_aload_n hx hb d_r_token_4 rfl (lv_at hl 0 rfl) ?_
  refine zg_Mo_tokens M hW (M.2.2.1 _ w_744) d_r_token_5 ?_
  refine lv_iload_n hx hb d_r_token_8 rfl (lv_at hl 1 rfl) ?_
  obtain ⟨g1, hf⟩ := zg hf
  refine zw_13 M hW hS g1 d_r_token_9 (fun H locs hW hS => ?_)
  refine lv_aload_n hx hb d_r_token_10 rfl (lv_at hl 0 rfl) ?_
  refine zg_Mo_from M hW (M.2.2.1 _ w_746) d_r_token_11 ?_
  refine lv_aload_n hx hb d_r_token_14 rfl (lv_at hl 0 rfl) ?_
  refine zg_Mo_tokens M hW (M.2.2.1 _ w_744) d_r_token_15 ?_
  refine lv_iload_n hx hb d_r_token_18 rfl (lv_at hl 2 rfl) ?_
  obtain ⟨g2, hf⟩ := zg hf
  refine zw_14 M hW hS g2 d_r_token_19 (fun H locs hW hS => ?_)
  obtain ⟨u1, g3, hf⟩ := ze1 hf
  have g3 := Option.some.inj g3
  rw [g3] at hW
  refine lv_aload_n hx hb d_r_token_20 rfl (lv_at hl 0 rfl) ?_
  refine zg_Mo_to M hW (M.2.2.1 _ w_747) d_r_token_21 ?_
  refine lv_aload_n hx hb d_r_token_24 rfl (lv_at hl 0 rfl) ?_
  refine zg_Mo_tokens M hW (M.2.2.1 _ w_744) d_r_token_25 ?_
  refine lv_iload_n hx hb d_r_token_28 rfl (lv_at hl 2 rfl) ?_
  obtain ⟨g4, hf⟩ := zg hf
  refine zw_15 M hW hS g4 d_r_token_29 (fun H locs hW hS => ?_)
  refine lv_aload_n hx hb d_r_token_30 rfl (lv_at hl 0 rfl) ?_
  refine lv_dup hx hb d_r_token_31 rfl ?_
  refine zg_Mo_tokens M hW (M.2.2.1 _ w_744) d_r_token_32 ?_
  refine z_iconst hx hb d_r_token_35 ?_
  refine z_iadd hx hb d_r_token_36 ?_
  refine zp_Mo_tokens M hW hS (M.2.2.1 _ w_744) d_r_token_37 (fun H locs hW hS => ?_)
  obtain ⟨u2, g5, hf⟩ := ze1 hf
  have g5 := Option.some.inj g5
  rw [g5] at hW
  cases hf
  subst hQ
  exact z_retv hx hb hr hlocks hB hK hW hS d_r_token_40
set_option maxRecDepth 100000 in
set_option maxHeartbeats 4000000 in
theorem k_r_cut {l : Launch} {D : va_G} {B : Nat} {y : Nat → ClassId} {ad : Nat × Nat → Nat} {cu : ZC} (F : Nat) (u : ZR) {res : Int} {uo : ZR} (hf : r_cut F u = some (res, uo)) : Met l y_r_cut (.code y_r_cut b_r_cut 6 (some .boolean) :: zt) { frames := 2, cells := 0, slots := 0, locals := 44 } (va_Pc [.ref (ad (10, 0))] (fun U => ZP D B y ad true cu u U)) (va_Qi (fun v (_ : Unit) => v = zI res) (fun _ t => ZP D B y ad true cu uo t) (fun x => B ≤ x)) 0 0 (fun x => B ≤ x) := by
  refine Met.ofW (cc := b_r_cut) (maxL := 6) (ret := (some .boolean)) (by decide) rfl ?_
  intro p e s m args below meth c s₁ Bd hml hv
  obtain ⟨hargs, hB, hW, hK⟩ := hv
  have hx := Bd.exec
  have hb := Bd.bytes
  have hr := Bd.returns
  have hts0 := atoms_spec (ws := .code y_r_cut b_r_cut 6 (some .boolean) :: zt) Bd.pre
  have hown : s.vm.findClass "TreeShellModel" = some m.cls := findClass_of_methodNamed Bd.named
  have hlocks := Bd.notSynchronized
  have M : ZM p c b_r_cut s args m "TreeShellModel" D y := ⟨hx, hb, fun w h => hts0 w (List.mem_cons_of_mem _ h), hown, hK⟩
  have hS : va_S (fun x => B ≤ x) s.heap s.heap [] := va_S.rf
  have hE := lg_entry_eq m ([.ref (ad (10, 0))] : List Value) 6
  rw [← hargs] at hE
  rw [hE]
  have hl := lv_entry ([.ref (ad (10, 0))] : List Value) (n := 6) (Nat.le_of_ble_eq_true rfl)
  generalize (lg_sl ([.ref (ad (10, 0))] : List Value) ++ List.replicate (6 - (lg_sl ([.ref (ad (10, 0))] : List Value)).length) Slot.unset).toArray = ls at hl ⊢
  have hl : lv_has ls 6 [(0, .ref (ad (10, 0)))] := hl
  refine z_start (fun Q R hQ hR => ?_)
  generalize hH : s.heap = H at hW
  have hS : va_S (fun x => B ≤ x) s.heap H [] := by rw [← hH]; exact hS
  have C_178 : ∀ (k11 : ZR → Int → Int → Int → Option (Int × ZR)) (hk11 : ∀ (u : ZR) (v1 : Int) (v2 : Int) (v3 : Int) (H : Heap) (locs : List Loc) (ls : Array Slot), k11 u v1 v2 v3 = some (res, uo) → lv_has ls 6 [(0, .ref (ad (10, 0))), (1, .int (zI v1)), (2, .int (zI v2)), (3, .int (zI v3))] → ZW D B y ad true cu u H → va_S (fun x => B ≤ x) s.heap H locs → W p l e R s m args below meth c H locs 0 0 Q (F0 m 11 ls [])) , ∀ (u : ZR) (v1 : Int) (v2 : Int) (v3 : Int) (H : Heap) (locs : List Loc) (ls : Array Slot), r_cut_178 F k11 u v1 v2 v3 = some (res, uo) → lv_has ls 6 [(0, .ref (ad (10, 0))), (1, .int (zI v1)), (2, .int (zI v2)), (3, .int (zI v3))] → ZW D B y ad true cu u H → va_S (fun x => B ≤ x) s.heap H locs → W p l e R s m args below meth c H locs 0 0 Q (F0 m 178 ls []) := by
    intro k11 hk11 u v1 v2 v3 H locs ls hf hl hW hS
    rw [r_cut_178] at hf
    refine lv_iinc (k := 3) (v := zI (v3 + 1)) (lv' := [(3, .int (zI (v3 + 1))), (0, .ref (ad (10, 0))), (1, .int (zI v1)), (2, .int (zI v2))]) hx hb d_r_cut_178 hl rfl (zI_add _ _) (by decide) rfl (fun ls hl => ?_)
    refine lv_goto hx hb d_r_cut_181 rfl ?_
    exact hk11 _ _ _ _ _ _ _ hf (lv_sub hl [1, 2, 3, 0] rfl) hW hS
  have C_11 : ∀ (n : Nat), ∀ (u : ZR) (v1 : Int) (v2 : Int) (v3 : Int) (H : Heap) (locs : List Loc) (ls : Array Slot), r_cut_11 F n u v1 v2 v3 = some (res, uo) → lv_has ls 6 [(0, .ref (ad (10, 0))), (1, .int (zI v1)), (2, .int (zI v2)), (3, .int (zI v3))] → ZW D B y ad true cu u H → va_S (fun x => B ≤ x) s.heap H locs → W p l e R s m args below meth c H locs 0 0 Q (F0 m 11 ls []) := by
    intro n
    induction n with
    | zero => intro u v1 v2 v3 H locs ls hf; cases (show (none : Option (Int × ZR)) = some (res, uo) from hf)
    | succ n ih =>
      intro u v1 v2 v3 H locs ls hf hl hW hS
      rw [r_cut_11] at hf
      refine lv_iload_n hx hb d_r_cut_11 rfl (lv_at hl 3 rfl) ?_
      refine lv_aload_n hx hb d_r_cut_12 rfl (lv_at hl 0 rfl) ?_
      refine zg_Mo_lineLength M hW (M.2.2.1 _ w_742) d_r_cut_13 ?_
      refine z_icmp_ge hx hb d_r_cut_16 rfl hf (fun hf => ?_) (fun hf => ?_)
      · refine lv_iload_n hx hb d_r_cut_184 rfl (lv_at hl 2 rfl) ?_
        obtain ⟨x1, g1, hf⟩ := ze1 hf
        have J1 : ∀ (H : Heap) (locs : List Loc) (ls : Array Slot), lv_has ls 6 [] → ZW D B y ad true cu u H → va_S (fun x => B ≤ x) s.heap H locs → W p l e R s m args below meth c H locs 0 0 Q (F0 m 193 ls [.int (zI x1)]) := by
          intro H locs ls hl hW hS
          obtain ⟨g2, hf⟩ := zg hf
          cases hf
          subst hQ
          exact z_retz hx hb g2 hr hlocks hB hK hW hS d_r_cut_193
        refine z_if_ne hx hb d_r_cut_185 rfl g1 (fun g1 => ?_) (fun g1 => ?_)
        · refine z_iconst hx hb d_r_cut_192 ?_
          cases g1
          exact J1 _ _ _ (lv_sub hl [] rfl) hW hS
        · refine z_iconst hx hb d_r_cut_188 ?_
          refine lv_goto hx hb d_r_cut_189 rfl ?_
          cases g1
          exact J1 _ _ _ (lv_sub hl [] rfl) hW hS
      · refine lv_aload_n hx hb d_r_cut_19 rfl (lv_at hl 0 rfl) ?_
        refine zg_Mo_line M hW (M.2.2.1 _ w_743) d_r_cut_20 ?_
        refine lv_iload_n hx hb d_r_cut_23 rfl (lv_at hl 3 rfl) ?_
        obtain ⟨g3, hf⟩ := zg hf
        refine zr_11 M hW g3 d_r_cut_24 ?_
        refine lv_istore (lv' := [(4, .int (zI (rA u 11 v3.toNat))), (0, .ref (ad (10, 0))), (1, .int (zI v1)), (2, .int (zI v2)), (3, .int (zI v3))]) hx hb d_r_cut_25 hl (by decide) rfl (fun ls hl => ?_)
        refine lv_iload_n hx hb d_r_cut_27 rfl (lv_at hl 3 rfl) ?_
        obtain ⟨x3, g4, hf⟩ := ze1 hf
        have J4 : ∀ (H : Heap) (locs : List Loc) (ls : Array Slot), lv_has ls 6 [(0, .ref (ad (10, 0))), (1, .int (zI v1)), (2, .int (zI v2)), (3, .int (zI v3)), (4, .int (zI (rA u 11 v3.toNat)))] → ZW D B y ad true cu u H → va_S (fun x => B ≤ x) s.heap H locs → W p l e R s m args below meth c H locs 0 0 Q (F0 m 40 ls [.int (zI x3)]) := by
          intro H locs ls hl hW hS
          refine lv_istore (lv' := [(5, .int (zI x3)), (0, .ref (ad (10, 0))), (1, .int (zI v1)), (2, .int (zI v2)), (3, .int (zI v3)), (4, .int (zI (rA u 11 v3.toNat)))]) hx hb d_r_cut_40 hl (by decide) rfl (fun ls hl => ?_)
          refine lv_iload_n hx hb d_r_cut_42 rfl (lv_at hl 3 rfl) ?_
          refine z_if_eq hx hb d_r_cut_43 rfl hf (fun hf => ?_) (fun hf => ?_)
          · refine lv_iload hx hb d_r_cut_76 (lv_at hl 5 rfl) ?_
            refine z_bipush hx hb d_r_cut_78 rfl ?_
            refine z_icmp_ne hx hb d_r_cut_80 rfl hf (fun hf => ?_) (fun hf => ?_)
            · refine lv_iload hx hb d_r_cut_88 (lv_at hl 0 rfl) ?_
              refine z_if_ge hx hb d_r_cut_90 rfl hf (fun hf => ?_) (fun hf => ?_)
              · refine lv_iload hx hb d_r_cut_95 (lv_at hl 0 rfl) ?_
                obtain ⟨x11, x12, x13, u14, g5, hf⟩ := ze4 hf
                have J5 : ∀ (H : Heap) (locs : List Loc) (ls : Array Slot), lv_has ls 6 [(0, .ref (ad (10, 0))), (1, .int (zI x11)), (2, .int (zI x12)), (3, .int (zI x13))] → ZW D B y ad true cu u14 H → va_S (fun x => B ≤ x) s.heap H locs → W p l e R s m args below meth c H locs 0 0 Q (F0 m 178 ls []) := by
                  intro H locs ls hl hW hS
                  exact C_178 _ ih _ _ _ _ _ _ _ hf (lv_sub hl [0, 1, 2, 3] rfl) hW hS
                refine z_if_eq hx hb d_r_cut_97 rfl g5 (fun g5 => ?_) (fun g5 => ?_)
                · refine lv_iload_n hx hb d_r_cut_139 rfl (lv_at hl 2 rfl) ?_
                  obtain ⟨x5, u6, g6, g5⟩ := ze2 g5
                  have J6 : ∀ (H : Heap) (locs : List Loc) (ls : Array Slot), lv_has ls 6 [(0, .ref (ad (10, 0))), (1, .int (zI x5)), (3, .int (zI v3)), (4, .int (zI (rA u 11 v3.toNat)))] → ZW D B y ad true cu u6 H → va_S (fun x => B ≤ x) s.heap H locs → W p l e R s m args below meth c H locs 0 0 Q (F0 m 151 ls []) := by
                    intro H locs ls hl hW hS
                    refine lv_iload hx hb d_r_cut_151 (lv_at hl 3 rfl) ?_
                    refine z_bipush hx hb d_r_cut_153 rfl ?_
                    obtain ⟨x7, g7, g5⟩ := ze1 g5
                    have J7 : ∀ (H : Heap) (locs : List Loc) (ls : Array Slot), lv_has ls 6 [(0, .ref (ad (10, 0))), (1, .int (zI x5)), (3, .int (zI v3))] → ZW D B y ad true cu u6 H → va_S (fun x => B ≤ x) s.heap H locs → W p l e R s m args below meth c H locs 0 0 Q (F0 m 163 ls [.int (zI x7)]) := by
                      intro H locs ls hl hW hS
                      refine lv_istore_n (lv' := [(2, .int (zI x7)), (0, .ref (ad (10, 0))), (1, .int (zI x5)), (3, .int (zI v3))]) hx hb d_r_cut_163 rfl hl (by decide) rfl (fun ls hl => ?_)
                      refine lv_aload_n hx hb d_r_cut_164 rfl (lv_at hl 1 rfl) ?_
                      refine zg_Mo_to M hW (M.2.2.1 _ w_747) d_r_cut_165 ?_
                      refine lv_aload_n hx hb d_r_cut_168 rfl (lv_at hl 1 rfl) ?_
                      refine zg_Mo_tokens M hW (M.2.2.1 _ w_744) d_r_cut_169 ?_
                      refine z_iconst hx hb d_r_cut_172 ?_
                      refine z_isub hx hb d_r_cut_173 ?_
                      refine lv_iload_n hx hb d_r_cut_174 rfl (lv_at hl 3 rfl) ?_
                      refine z_iconst hx hb d_r_cut_175 ?_
                      refine z_iadd hx hb d_r_cut_176 ?_
                      obtain ⟨g8, g5⟩ := zg g5
                      refine zw_15 M hW hS g8 d_r_cut_177 (fun H locs hW hS => ?_)
                      cases g5
                      exact J5 _ _ _ (lv_sub hl [1, 2, 0, 3] rfl) hW hS
                    refine z_icmp_ne hx hb d_r_cut_155 rfl g7 (fun g7 => ?_) (fun g7 => ?_)
                    · refine z_iconst hx hb d_r_cut_162 ?_
                      cases g7
                      exact J7 _ _ _ (lv_sub hl [0, 1, 2] rfl) hW hS
                    · refine z_iconst hx hb d_r_cut_158 ?_
                      refine lv_goto hx hb d_r_cut_159 rfl ?_
                      cases g7
                      exact J7 _ _ _ (lv_sub hl [0, 1, 2] rfl) hW hS
                  refine z_if_ne hx hb d_r_cut_140 rfl g6 (fun g6 => ?_) (fun g6 => ?_)
                  · cases g6
                    exact J6 _ _ _ (lv_sub hl [1, 2, 4, 5] rfl) hW hS
                  · refine lv_aload_n hx hb d_r_cut_143 rfl (lv_at hl 1 rfl) ?_
                    refine z_iconst hx hb d_r_cut_144 ?_
                    refine lv_iload_n hx hb d_r_cut_145 rfl (lv_at hl 4 rfl) ?_
                    obtain ⟨u4, g9, g6⟩ := ze1 g6
                    refine z_callVv (As := [.int (zI 0), .int (zI v3)]) (rest := []) (k_r_token F _ _ _ g9) M hml (cw_r_token M.2.2.1 (M.2.2.1 _ w_914) (by rw [hR]; exact Nat.le_of_ble_eq_true rfl) (by rw [hR]; exact Nat.le_of_ble_eq_true rfl)) (zv_Mo hK hW) hB hW hS rfl hl.1 rfl (Nat.le_of_ble_eq_true rfl) d_r_cut_146 (by rw [hR]; exact ⟨Nat.zero_le _, Nat.zero_le _⟩) (fun H locs hW hS => ?_)
                    refine z_iconst hx hb d_r_cut_149 ?_
                    refine lv_istore_n (lv' := [(1, .int (zI 1)), (5, .int (zI x3)), (0, .ref (ad (10, 0))), (2, .int (zI v2)), (3, .int (zI v3)), (4, .int (zI (rA u 11 v3.toNat)))]) hx hb d_r_cut_150 rfl hl (by decide) rfl (fun ls hl => ?_)
                    cases g6
                    exact J6 _ _ _ (lv_sub hl [2, 0, 4, 5] rfl) hW hS
                · refine z_iconst hx hb d_r_cut_100 ?_
                  refine lv_istore_n (lv' := [(1, .int (zI 0)), (5, .int (zI x3)), (0, .ref (ad (10, 0))), (2, .int (zI v2)), (3, .int (zI v3)), (4, .int (zI (rA u 11 v3.toNat)))]) hx hb d_r_cut_101 rfl hl (by decide) rfl (fun ls hl => ?_)
                  refine lv_aload_n hx hb d_r_cut_102 rfl (lv_at hl 2 rfl) ?_
                  refine lv_iload hx hb d_r_cut_103 (lv_at hl 1 rfl) ?_
                  refine lv_iload_n hx hb d_r_cut_105 rfl (lv_at hl 4 rfl) ?_
                  obtain ⟨u8, g10, g5⟩ := ze1 g5
                  refine z_callVv (As := [.int (zI x3), .int (zI v3)]) (rest := []) (k_r_token F _ _ _ g10) M hml (cw_r_token M.2.2.1 (M.2.2.1 _ w_914) (by rw [hR]; exact Nat.le_of_ble_eq_true rfl) (by rw [hR]; exact Nat.le_of_ble_eq_true rfl)) (zv_Mo hK hW) hB hW hS rfl hl.1 rfl (Nat.le_of_ble_eq_true rfl) d_r_cut_106 (by rw [hR]; exact ⟨Nat.zero_le _, Nat.zero_le _⟩) (fun H locs hW hS => ?_)
                  refine lv_iload hx hb d_r_cut_109 (lv_at hl 1 rfl) ?_
                  refine z_iconst hx hb d_r_cut_111 ?_
                  obtain ⟨x10, g11, g5⟩ := ze1 g5
                  have J11 : ∀ (H : Heap) (locs : List Loc) (ls : Array Slot), lv_has ls 6 [(0, .ref (ad (10, 0))), (1, .int (zI 0)), (2, .int (zI v2))] → ZW D B y ad true cu u8 H → va_S (fun x => B ≤ x) s.heap H locs → W p l e R s m args below meth c H locs 0 0 Q (F0 m 135 ls [.int (zI x10)]) := by
                    intro H locs ls hl hW hS
                    refine lv_istore_n (lv' := [(3, .int (zI x10)), (0, .ref (ad (10, 0))), (1, .int (zI 0)), (2, .int (zI v2))]) hx hb d_r_cut_135 rfl hl (by decide) rfl (fun ls hl => ?_)
                    refine lv_goto hx hb d_r_cut_136 rfl ?_
                    cases g5
                    exact J5 _ _ _ (lv_sub hl [1, 2, 3, 0] rfl) hW hS
                  obtain ⟨b9, g12, g11⟩ := ze1 g11
                  have JT12 : b9 = true → ∀ (H : Heap) (locs : List Loc), ZW D B y ad true cu u8 H → va_S (fun x => B ≤ x) s.heap H locs → W p l e R s m args below meth c H locs 0 0 Q (F0 m 128 ls []) := by
                    intro hv H locs hW hS
                    have g11 := zp (hv) g11
                    refine lv_iload_n hx hb d_r_cut_128 rfl (lv_at hl 4 rfl) ?_
                    refine z_iconst hx hb d_r_cut_129 ?_
                    refine z_iadd hx hb d_r_cut_130 ?_
                    refine lv_goto hx hb d_r_cut_131 rfl ?_
                    cases g11
                    exact J11 _ _ _ (lv_sub hl [2, 0, 3] rfl) hW hS
                  have JF12 : b9 = false → ∀ (H : Heap) (locs : List Loc), ZW D B y ad true cu u8 H → va_S (fun x => B ≤ x) s.heap H locs → W p l e R s m args below meth c H locs 0 0 Q (F0 m 134 ls []) := by
                    intro hv H locs hW hS
                    have g11 := zn (by rw [hv]; decide) g11
                    refine lv_iload_n hx hb d_r_cut_134 rfl (lv_at hl 4 rfl) ?_
                    cases g11
                    exact J11 _ _ _ (lv_sub hl [2, 0, 3] rfl) hW hS
                  refine z_icmp_eq hx hb d_r_cut_112 rfl g12 (fun g12 => ?_) (fun g12 => ?_)
                  · exact JT12 (Option.some.inj g12).symm _ _ hW hS
                  · refine lv_iload hx hb d_r_cut_115 (lv_at hl 1 rfl) ?_
                    refine z_iconst hx hb d_r_cut_117 ?_
                    refine z_icmp_eq hx hb d_r_cut_118 rfl g12 (fun g12 => ?_) (fun g12 => ?_)
                    · exact JT12 (Option.some.inj g12).symm _ _ hW hS
                    · refine lv_iload hx hb d_r_cut_121 (lv_at hl 1 rfl) ?_
                      refine z_bipush hx hb d_r_cut_123 rfl ?_
                      refine z_icmp_ne hx hb d_r_cut_125 rfl g12 (fun g12 => ?_) (fun g12 => ?_)
                      · exact JF12 (Option.some.inj g12).symm _ _ hW hS
                      · exact JT12 (Option.some.inj g12).symm _ _ hW hS
              · refine z_iconst hx hb d_r_cut_93 ?_
                cases hf
                subst hQ
                exact z_retz hx hb (Or.inl rfl) hr hlocks hB hK hW hS d_r_cut_94
            · refine z_iconst hx hb d_r_cut_83 ?_
              refine lv_istore_n (lv' := [(1, .int (zI 0)), (5, .int (zI x3)), (0, .ref (ad (10, 0))), (2, .int (zI v2)), (3, .int (zI v3)), (4, .int (zI (rA u 11 v3.toNat)))]) hx hb d_r_cut_84 rfl hl (by decide) rfl (fun ls hl => ?_)
              refine lv_goto hx hb d_r_cut_85 rfl ?_
              exact C_178 _ ih _ _ _ _ _ _ _ hf (lv_sub hl [2, 0, 3, 4] rfl) hW hS
          · refine lv_iload hx hb d_r_cut_46 (lv_at hl 5 rfl) ?_
            refine z_bipush hx hb d_r_cut_48 rfl ?_
            obtain ⟨x15, g13, hf⟩ := ze1 hf
            have J13 : ∀ (H : Heap) (locs : List Loc) (ls : Array Slot), lv_has ls 6 [(0, .ref (ad (10, 0))), (1, .int (zI v1)), (3, .int (zI v3))] → ZW D B y ad true cu u H → va_S (fun x => B ≤ x) s.heap H locs → W p l e R s m args below meth c H locs 0 0 Q (F0 m 58 ls [.int (zI x15)]) := by
              intro H locs ls hl hW hS
              refine lv_istore_n (lv' := [(2, .int (zI x15)), (0, .ref (ad (10, 0))), (1, .int (zI v1)), (3, .int (zI v3))]) hx hb d_r_cut_58 rfl hl (by decide) rfl (fun ls hl => ?_)
              refine lv_aload_n hx hb d_r_cut_59 rfl (lv_at hl 1 rfl) ?_
              refine zg_Mo_to M hW (M.2.2.1 _ w_747) d_r_cut_60 ?_
              refine lv_aload_n hx hb d_r_cut_63 rfl (lv_at hl 1 rfl) ?_
              refine zg_Mo_tokens M hW (M.2.2.1 _ w_744) d_r_cut_64 ?_
              refine z_iconst hx hb d_r_cut_67 ?_
              refine z_isub hx hb d_r_cut_68 ?_
              refine lv_iload_n hx hb d_r_cut_69 rfl (lv_at hl 3 rfl) ?_
              refine z_iconst hx hb d_r_cut_70 ?_
              refine z_iadd hx hb d_r_cut_71 ?_
              obtain ⟨g14, hf⟩ := zg hf
              refine zw_15 M hW hS g14 d_r_cut_72 (fun H locs hW hS => ?_)
              refine lv_goto hx hb d_r_cut_73 rfl ?_
              exact C_178 _ ih _ _ _ _ _ _ _ hf (lv_sub hl [1, 2, 0, 3] rfl) hW hS
            refine z_icmp_eq hx hb d_r_cut_50 rfl g13 (fun g13 => ?_) (fun g13 => ?_)
            · refine z_iconst hx hb d_r_cut_57 ?_
              cases g13
              exact J13 _ _ _ (lv_sub hl [1, 2, 4] rfl) hW hS
            · refine z_iconst hx hb d_r_cut_53 ?_
              refine lv_goto hx hb d_r_cut_54 rfl ?_
              cases g13
              exact J13 _ _ _ (lv_sub hl [1, 2, 4] rfl) hW hS
        refine z_if_eq hx hb d_r_cut_28 rfl g4 (fun g4 => ?_) (fun g4 => ?_)
        · refine lv_aload_n hx hb d_r_cut_35 rfl (lv_at hl 1 rfl) ?_
          refine lv_iload_n hx hb d_r_cut_36 rfl (lv_at hl 4 rfl) ?_
          obtain ⟨p2, g15, g4⟩ := ze1 g4
          refine z_callVi (As := [.int (zI v3)]) (rest := []) (k_r_operator F _ _ g15) M hml (cw_r_operator M.2.2.1 (M.2.2.1 _ w_906) (by rw [hR]; exact Nat.le_of_ble_eq_true rfl) (by rw [hR]; exact Nat.le_of_ble_eq_true rfl)) (zv_Mo hK hW) hB hW hS rfl hl.1 rfl (Nat.le_of_ble_eq_true rfl) d_r_cut_37 (by rw [hR]; exact ⟨Nat.zero_le _, Nat.zero_le _⟩) (fun H locs hW hS => ?_)
          cases g4
          exact J4 _ _ _ (lv_sub hl [1, 2, 3, 4, 0] rfl) hW hS
        · refine z_iconst hx hb d_r_cut_31 ?_
          refine lv_goto hx hb d_r_cut_32 rfl ?_
          cases g4
          exact J4 _ _ _ (lv_sub hl [1, 2, 3, 4, 0] rfl) hW hS
  rw [r_cut] at hf
  refine lv_aload_n hx hb d_r_cut_0 rfl (lv_at hl 0 rfl) ?_
  refine z_iconst hx hb d_r_cut_1 ?_
  refine zp_Mo_tokens M hW hS (M.2.2.1 _ w_744) d_r_cut_2 (fun H locs hW hS => ?_)
  refine z_iconst hx hb d_r_cut_5 ?_
  refine lv_istore_n (lv' := [(1, .int (zI 0)), (0, .ref (ad (10, 0)))]) hx hb d_r_cut_6 rfl hl (by decide) rfl (fun ls hl => ?_)
  refine z_iconst hx hb d_r_cut_7 ?_
  refine lv_istore_n (lv' := [(2, .int (zI 0)), (1, .int (zI 0)), (0, .ref (ad (10, 0)))]) hx hb d_r_cut_8 rfl hl (by decide) rfl (fun ls hl => ?_)
  refine z_iconst hx hb d_r_cut_9 ?_
  refine lv_istore_n (lv' := [(3, .int (zI 0)), (2, .int (zI 0)), (1, .int (zI 0)), (0, .ref (ad (10, 0)))]) hx hb d_r_cut_10 rfl hl (by decide) rfl (fun ls hl => ?_)
  exact C_11 F _ _ _ _ _ _ _ hf (lv_sub hl [3, 2, 1, 0] rfl) hW hS
set_option maxRecDepth 100000 in
set_option maxHeartbeats 4000000 in
theorem k_r_redirects {l : Launch} {D : va_G} {B : Nat} {y : Nat → ClassId} {ad : Nat × Nat → Nat} {cu : ZC} (F : Nat) (u : ZR) (v0 : Int) {res : Int} (hf : r_redirects F u v0 = some res) : Met l y_r_redirects (.code y_r_redirects b_r_redirects 1 (some .boolean) :: zt) { frames := 0, cells := 0, slots := 0, locals := 0 } (va_Pc [.int (zI v0)] (fun U => ZP D B y ad true cu u U)) (va_Qi (fun v (_ : Unit) => v = zI res) (fun _ t => ZP D B y ad true cu u t) (fun x => B ≤ x)) 0 0 (fun x => B ≤ x) := by
  refine Met.ofW (cc := b_r_redirects) (maxL := 1) (ret := (some .boolean)) (by decide) rfl ?_
  intro p e s m args below meth c s₁ Bd hml hv
  obtain ⟨hargs, hB, hW, hK⟩ := hv
  have hx := Bd.exec
  have hb := Bd.bytes
  have hr := Bd.returns
  have hts0 := atoms_spec (ws := .code y_r_redirects b_r_redirects 1 (some .boolean) :: zt) Bd.pre
  have hown : s.vm.findClass "TreeShellModel" = some m.cls := findClass_of_methodNamed Bd.named
  have hlocks := Bd.notSynchronized
  have M : ZM p c b_r_redirects s args m "TreeShellModel" D y := ⟨hx, hb, fun w h => hts0 w (List.mem_cons_of_mem _ h), hown, hK⟩
  have hS : va_S (fun x => B ≤ x) s.heap s.heap [] := va_S.rf
  have hE := lg_entry_eq m ([.int (zI v0)] : List Value) 1
  rw [← hargs] at hE
  rw [hE]
  have hl := lv_entry ([.int (zI v0)] : List Value) (n := 1) (Nat.le_of_ble_eq_true rfl)
  generalize (lg_sl ([.int (zI v0)] : List Value) ++ List.replicate (1 - (lg_sl ([.int (zI v0)] : List Value)).length) Slot.unset).toArray = ls at hl ⊢
  have hl : lv_has ls 1 [(0, .int (zI v0))] := hl
  refine z_start (fun Q R hQ hR => ?_)
  generalize hH : s.heap = H at hW
  have hS : va_S (fun x => B ≤ x) s.heap H [] := by rw [← hH]; exact hS
  rw [r_redirects] at hf
  refine lv_iload_n hx hb d_r_redirects_0 rfl (lv_at hl 0 rfl) ?_
  refine z_iconst hx hb d_r_redirects_1 ?_
  obtain ⟨x2, g1, hf⟩ := ze1 hf
  have J1 : ∀ (H : Heap) (locs : List Loc) (ls : Array Slot), lv_has ls 1 [] → ZW D B y ad true cu u H → va_S (fun x => B ≤ x) s.heap H locs → W p l e R s m args below meth c H locs 0 0 Q (F0 m 22 ls [.int (zI x2)]) := by
    intro H locs ls hl hW hS
    obtain ⟨g2, hf⟩ := zg hf
    cases hf
    subst hQ
    exact z_retz hx hb g2 hr hlocks hB hK hW hS d_r_redirects_22
  obtain ⟨b1, g3, g1⟩ := ze1 g1
  have JT3 : b1 = true → ∀ (H : Heap) (locs : List Loc), ZW D B y ad true cu u H → va_S (fun x => B ≤ x) s.heap H locs → W p l e R s m args below meth c H locs 0 0 Q (F0 m 17 ls []) := by
    intro hv H locs hW hS
    have g1 := zp (hv) g1
    refine z_iconst hx hb d_r_redirects_17 ?_
    refine lv_goto hx hb d_r_redirects_18 rfl ?_
    cases g1
    exact J1 _ _ _ (lv_sub hl [] rfl) hW hS
  have JF3 : b1 = false → ∀ (H : Heap) (locs : List Loc), ZW D B y ad true cu u H → va_S (fun x => B ≤ x) s.heap H locs → W p l e R s m args below meth c H locs 0 0 Q (F0 m 21 ls []) := by
    intro hv H locs hW hS
    have g1 := zn (by rw [hv]; decide) g1
    refine z_iconst hx hb d_r_redirects_21 ?_
    cases g1
    exact J1 _ _ _ (lv_sub hl [] rfl) hW hS
  refine z_icmp_eq hx hb d_r_redirects_2 rfl g3 (fun g3 => ?_) (fun g3 => ?_)
  · exact JT3 (Option.some.inj g3).symm _ _ hW hS
  · refine lv_iload_n hx hb d_r_redirects_5 rfl (lv_at hl 0 rfl) ?_
    refine z_bipush hx hb d_r_redirects_6 rfl ?_
    refine z_icmp_eq hx hb d_r_redirects_8 rfl g3 (fun g3 => ?_) (fun g3 => ?_)
    · exact JT3 (Option.some.inj g3).symm _ _ hW hS
    · refine lv_iload_n hx hb d_r_redirects_11 rfl (lv_at hl 0 rfl) ?_
      refine z_bipush hx hb d_r_redirects_12 rfl ?_
      refine z_icmp_ne hx hb d_r_redirects_14 rfl g3 (fun g3 => ?_) (fun g3 => ?_)
      · exact JF3 (Option.some.inj g3).symm _ _ hW hS
      · exact JT3 (Option.some.inj g3).symm _ _ hW hS
set_option maxRecDepth 100000 in
set_option maxHeartbeats 4000000 in
theorem k_r_next {l : Launch} {D : va_G} {B : Nat} {y : Nat → ClassId} {ad : Nat × Nat → Nat} {cu : ZC} (F : Nat) (u : ZR) (v0 : Int) (v1 : Int) (v2 : Int) {res : Int} (hf : r_next F u v0 v1 v2 = some res) : Met l y_r_next (.code y_r_next b_r_next 3 (some .int) :: zt) { frames := 1, cells := 0, slots := 0, locals := 20 } (va_Pc [.int (zI v0), .int (zI v1), .int (zI v2)] (fun U => ZP D B y ad true cu u U)) (va_Qi (fun v (_ : Unit) => v = zI res) (fun _ t => ZP D B y ad true cu u t) (fun x => B ≤ x)) 0 0 (fun x => B ≤ x) := by
  refine Met.ofW (cc := b_r_next) (maxL := 3) (ret := (some .int)) (by decide) rfl ?_
  intro p e s m args below meth c s₁ Bd hml hv
  obtain ⟨hargs, hB, hW, hK⟩ := hv
  have hx := Bd.exec
  have hb := Bd.bytes
  have hr := Bd.returns
  have hts0 := atoms_spec (ws := .code y_r_next b_r_next 3 (some .int) :: zt) Bd.pre
  have hown : s.vm.findClass "TreeShellModel" = some m.cls := findClass_of_methodNamed Bd.named
  have hlocks := Bd.notSynchronized
  have M : ZM p c b_r_next s args m "TreeShellModel" D y := ⟨hx, hb, fun w h => hts0 w (List.mem_cons_of_mem _ h), hown, hK⟩
  have hS : va_S (fun x => B ≤ x) s.heap s.heap [] := va_S.rf
  have hE := lg_entry_eq m ([.int (zI v0), .int (zI v1), .int (zI v2)] : List Value) 3
  rw [← hargs] at hE
  rw [hE]
  have hl := lv_entry ([.int (zI v0), .int (zI v1), .int (zI v2)] : List Value) (n := 3) (Nat.le_of_ble_eq_true rfl)
  generalize (lg_sl ([.int (zI v0), .int (zI v1), .int (zI v2)] : List Value) ++ List.replicate (3 - (lg_sl ([.int (zI v0), .int (zI v1), .int (zI v2)] : List Value)).length) Slot.unset).toArray = ls at hl ⊢
  have hl : lv_has ls 3 [(0, .int (zI v0)), (1, .int (zI v1)), (2, .int (zI v2))] := hl
  refine z_start (fun Q R hQ hR => ?_)
  generalize hH : s.heap = H at hW
  have hS : va_S (fun x => B ≤ x) s.heap H [] := by rw [← hH]; exact hS
  rw [r_next] at hf
  refine lv_iload_n hx hb d_r_next_0 rfl (lv_at hl 0 rfl) ?_
  refine z_bipush hx hb d_r_next_1 rfl ?_
  refine z_icmp_lt hx hb d_r_next_3 rfl hf (fun hf => ?_) (fun hf => ?_)
  · refine lv_iload_n hx hb d_r_next_18 rfl (lv_at hl 1 rfl) ?_
    obtain ⟨p1, g1, hf⟩ := ze1 hf
    refine z_callSi (As := [.int (zI v1)]) (rest := []) (k_r_redirects F _ _ g1) M hml (cw_r_redirects M.2.2.1 (M.2.2.1 _ w_921) (by rw [hR]; exact Nat.le_of_ble_eq_true rfl) (by rw [hR]; exact Nat.le_of_ble_eq_true rfl)) hB hW hS rfl hl.1 rfl (Nat.le_of_ble_eq_true rfl) d_r_next_19 (by rw [hR]; exact ⟨Nat.zero_le _, Nat.zero_le _⟩) (fun H locs hW hS => ?_)
    refine z_if_eq hx hb d_r_next_22 rfl hf (fun hf => ?_) (fun hf => ?_)
    · refine lv_iload_n hx hb d_r_next_39 rfl (lv_at hl 1 rfl) ?_
      refine z_if_ne hx hb d_r_next_40 rfl hf (fun hf => ?_) (fun hf => ?_)
      · refine lv_iload_n hx hb d_r_next_55 rfl (lv_at hl 1 rfl) ?_
        refine z_bipush hx hb d_r_next_56 rfl ?_
        refine z_icmp_ne hx hb d_r_next_58 rfl hf (fun hf => ?_) (fun hf => ?_)
        · refine lv_iload_n hx hb d_r_next_77 rfl (lv_at hl 1 rfl) ?_
          refine z_bipush hx hb d_r_next_78 rfl ?_
          refine z_icmp_ne hx hb d_r_next_80 rfl hf (fun hf => ?_) (fun hf => ?_)
          · refine lv_iload_n hx hb d_r_next_94 rfl (lv_at hl 1 rfl) ?_
            refine z_bipush hx hb d_r_next_95 rfl ?_
            refine z_icmp_ne hx hb d_r_next_97 rfl hf (fun hf => ?_) (fun hf => ?_)
            · refine lv_iload_n hx hb d_r_next_121 rfl (lv_at hl 0 rfl) ?_
              refine z_iconst hx hb d_r_next_122 ?_
              obtain ⟨x2, g2, hf⟩ := ze1 hf
              have J2 : ∀ (H : Heap) (locs : List Loc) (ls : Array Slot), lv_has ls 3 [] → ZW D B y ad true cu u H → va_S (fun x => B ≤ x) s.heap H locs → W p l e R s m args below meth c H locs 0 0 Q (F0 m 149 ls [.int (zI x2)]) := by
                intro H locs ls hl hW hS
                cases hf
                subst hQ
                exact z_reti hx hb hr hlocks hB hK hW hS d_r_next_149
              refine z_icmp_ge hx hb d_r_next_123 rfl g2 (fun g2 => ?_) (fun g2 => ?_)
              · refine lv_iload_n hx hb d_r_next_130 rfl (lv_at hl 1 rfl) ?_
                refine z_iconst hx hb d_r_next_131 ?_
                refine z_icmp_ne hx hb d_r_next_132 rfl g2 (fun g2 => ?_) (fun g2 => ?_)
                · refine lv_iload_n hx hb d_r_next_139 rfl (lv_at hl 1 rfl) ?_
                  refine z_iconst hx hb d_r_next_140 ?_
                  refine z_icmp_ne hx hb d_r_next_141 rfl g2 (fun g2 => ?_) (fun g2 => ?_)
                  · refine z_iconst hx hb d_r_next_148 ?_
                    cases g2
                    exact J2 _ _ _ (lv_sub hl [] rfl) hW hS
                  · refine z_iconst hx hb d_r_next_144 ?_
                    refine lv_goto hx hb d_r_next_145 rfl ?_
                    cases g2
                    exact J2 _ _ _ (lv_sub hl [] rfl) hW hS
                · refine z_iconst hx hb d_r_next_135 ?_
                  refine lv_goto hx hb d_r_next_136 rfl ?_
                  cases g2
                  exact J2 _ _ _ (lv_sub hl [] rfl) hW hS
              · refine z_iconst hx hb d_r_next_126 ?_
                refine lv_goto hx hb d_r_next_127 rfl ?_
                cases g2
                exact J2 _ _ _ (lv_sub hl [] rfl) hW hS
            · refine lv_iload_n hx hb d_r_next_100 rfl (lv_at hl 2 rfl) ?_
              obtain ⟨x4, g3, hf⟩ := ze1 hf
              have J3 : ∀ (H : Heap) (locs : List Loc) (ls : Array Slot), lv_has ls 3 [] → ZW D B y ad true cu u H → va_S (fun x => B ≤ x) s.heap H locs → W p l e R s m args below meth c H locs 0 0 Q (F0 m 120 ls [.int (zI x4)]) := by
                intro H locs ls hl hW hS
                cases hf
                subst hQ
                exact z_reti hx hb hr hlocks hB hK hW hS d_r_next_120
              obtain ⟨b3, g4, g3⟩ := ze1 g3
              have JT4 : b3 = true → ∀ (H : Heap) (locs : List Loc), ZW D B y ad true cu u H → va_S (fun x => B ≤ x) s.heap H locs → W p l e R s m args below meth c H locs 0 0 Q (F0 m 119 ls []) := by
                intro hv H locs hW hS
                have g3 := zp (hv) g3
                refine z_iconst hx hb d_r_next_119 ?_
                cases g3
                exact J3 _ _ _ (lv_sub hl [] rfl) hW hS
              have JF4 : b3 = false → ∀ (H : Heap) (locs : List Loc), ZW D B y ad true cu u H → va_S (fun x => B ≤ x) s.heap H locs → W p l e R s m args below meth c H locs 0 0 Q (F0 m 114 ls []) := by
                intro hv H locs hW hS
                have g3 := zn (by rw [hv]; decide) g3
                refine z_bipush hx hb d_r_next_114 rfl ?_
                refine lv_goto hx hb d_r_next_116 rfl ?_
                cases g3
                exact J3 _ _ _ (lv_sub hl [] rfl) hW hS
              refine z_if_le hx hb d_r_next_101 rfl g4 (fun g4 => ?_) (fun g4 => ?_)
              · exact JT4 (Option.some.inj g4).symm _ _ hW hS
              · refine lv_iload_n hx hb d_r_next_104 rfl (lv_at hl 0 rfl) ?_
                refine z_iconst hx hb d_r_next_105 ?_
                refine z_icmp_eq hx hb d_r_next_106 rfl g4 (fun g4 => ?_) (fun g4 => ?_)
                · exact JF4 (Option.some.inj g4).symm _ _ hW hS
                · refine lv_iload_n hx hb d_r_next_109 rfl (lv_at hl 0 rfl) ?_
                  refine z_iconst hx hb d_r_next_110 ?_
                  refine z_icmp_lt hx hb d_r_next_111 rfl g4 (fun g4 => ?_) (fun g4 => ?_)
                  · exact JT4 (Option.some.inj g4).symm _ _ hW hS
                  · exact JF4 (Option.some.inj g4).symm _ _ hW hS
          · refine lv_iload_n hx hb d_r_next_83 rfl (lv_at hl 0 rfl) ?_
            refine z_iconst hx hb d_r_next_84 ?_
            obtain ⟨x5, g5, hf⟩ := ze1 hf
            have J5 : ∀ (H : Heap) (locs : List Loc) (ls : Array Slot), lv_has ls 3 [] → ZW D B y ad true cu u H → va_S (fun x => B ≤ x) s.heap H locs → W p l e R s m args below meth c H locs 0 0 Q (F0 m 93 ls [.int (zI x5)]) := by
              intro H locs ls hl hW hS
              cases hf
              subst hQ
              exact z_reti hx hb hr hlocks hB hK hW hS d_r_next_93
            refine z_icmp_ge hx hb d_r_next_85 rfl g5 (fun g5 => ?_) (fun g5 => ?_)
            · refine z_iconst hx hb d_r_next_92 ?_
              cases g5
              exact J5 _ _ _ (lv_sub hl [] rfl) hW hS
            · refine z_iconst hx hb d_r_next_88 ?_
              refine lv_goto hx hb d_r_next_89 rfl ?_
              cases g5
              exact J5 _ _ _ (lv_sub hl [] rfl) hW hS
        · refine lv_iload_n hx hb d_r_next_61 rfl (lv_at hl 0 rfl) ?_
          refine z_iconst hx hb d_r_next_62 ?_
          obtain ⟨x7, g6, hf⟩ := ze1 hf
          have J6 : ∀ (H : Heap) (locs : List Loc) (ls : Array Slot), lv_has ls 3 [] → ZW D B y ad true cu u H → va_S (fun x => B ≤ x) s.heap H locs → W p l e R s m args below meth c H locs 0 0 Q (F0 m 76 ls [.int (zI x7)]) := by
            intro H locs ls hl hW hS
            cases hf
            subst hQ
            exact z_reti hx hb hr hlocks hB hK hW hS d_r_next_76
          obtain ⟨b6, g7, g6⟩ := ze1 g6
          have JT7 : b6 = true → ∀ (H : Heap) (locs : List Loc), ZW D B y ad true cu u H → va_S (fun x => B ≤ x) s.heap H locs → W p l e R s m args below meth c H locs 0 0 Q (F0 m 75 ls []) := by
            intro hv H locs hW hS
            have g6 := zp (hv) g6
            refine z_iconst hx hb d_r_next_75 ?_
            cases g6
            exact J6 _ _ _ (lv_sub hl [] rfl) hW hS
          have JF7 : b6 = false → ∀ (H : Heap) (locs : List Loc), ZW D B y ad true cu u H → va_S (fun x => B ≤ x) s.heap H locs → W p l e R s m args below meth c H locs 0 0 Q (F0 m 71 ls []) := by
            intro hv H locs hW hS
            have g6 := zn (by rw [hv]; decide) g6
            refine z_iconst hx hb d_r_next_71 ?_
            refine lv_goto hx hb d_r_next_72 rfl ?_
            cases g6
            exact J6 _ _ _ (lv_sub hl [] rfl) hW hS
          refine z_icmp_ge hx hb d_r_next_63 rfl g7 (fun g7 => ?_) (fun g7 => ?_)
          · exact JT7 (Option.some.inj g7).symm _ _ hW hS
          · refine lv_iload_n hx hb d_r_next_66 rfl (lv_at hl 2 rfl) ?_
            refine z_iconst hx hb d_r_next_67 ?_
            refine z_icmp_ge hx hb d_r_next_68 rfl g7 (fun g7 => ?_) (fun g7 => ?_)
            · exact JT7 (Option.some.inj g7).symm _ _ hW hS
            · exact JF7 (Option.some.inj g7).symm _ _ hW hS
      · refine lv_iload_n hx hb d_r_next_43 rfl (lv_at hl 0 rfl) ?_
        refine z_bipush hx hb d_r_next_44 rfl ?_
        obtain ⟨x8, g8, hf⟩ := ze1 hf
        have J8 : ∀ (H : Heap) (locs : List Loc) (ls : Array Slot), lv_has ls 3 [] → ZW D B y ad true cu u H → va_S (fun x => B ≤ x) s.heap H locs → W p l e R s m args below meth c H locs 0 0 Q (F0 m 54 ls [.int (zI x8)]) := by
          intro H locs ls hl hW hS
          cases hf
          subst hQ
          exact z_reti hx hb hr hlocks hB hK hW hS d_r_next_54
        refine z_icmp_ne hx hb d_r_next_46 rfl g8 (fun g8 => ?_) (fun g8 => ?_)
        · refine z_iconst hx hb d_r_next_53 ?_
          cases g8
          exact J8 _ _ _ (lv_sub hl [] rfl) hW hS
        · refine z_iconst hx hb d_r_next_49 ?_
          refine lv_goto hx hb d_r_next_50 rfl ?_
          cases g8
          exact J8 _ _ _ (lv_sub hl [] rfl) hW hS
    · refine lv_iload_n hx hb d_r_next_25 rfl (lv_at hl 0 rfl) ?_
      refine z_iconst hx hb d_r_next_26 ?_
      obtain ⟨x9, g9, hf⟩ := ze1 hf
      have J9 : ∀ (H : Heap) (locs : List Loc) (ls : Array Slot), lv_has ls 3 [] → ZW D B y ad true cu u H → va_S (fun x => B ≤ x) s.heap H locs → W p l e R s m args below meth c H locs 0 0 Q (F0 m 38 ls [.int (zI x9)]) := by
        intro H locs ls hl hW hS
        cases hf
        subst hQ
        exact z_reti hx hb hr hlocks hB hK hW hS d_r_next_38
      refine z_icmp_ge hx hb d_r_next_27 rfl g9 (fun g9 => ?_) (fun g9 => ?_)
      · refine lv_iload_n hx hb d_r_next_35 rfl (lv_at hl 0 rfl) ?_
        refine z_iconst hx hb d_r_next_36 ?_
        refine z_iadd hx hb d_r_next_37 ?_
        cases g9
        exact J9 _ _ _ (lv_sub hl [] rfl) hW hS
      · refine z_bipush hx hb d_r_next_30 rfl ?_
        refine lv_goto hx hb d_r_next_32 rfl ?_
        cases g9
        exact J9 _ _ _ (lv_sub hl [] rfl) hW hS
  · refine lv_iload_n hx hb d_r_next_6 rfl (lv_at hl 1 rfl) ?_
    obtain ⟨x10, g10, hf⟩ := ze1 hf
    have J10 : ∀ (H : Heap) (locs : List Loc) (ls : Array Slot), lv_has ls 3 [] → ZW D B y ad true cu u H → va_S (fun x => B ≤ x) s.heap H locs → W p l e R s m args below meth c H locs 0 0 Q (F0 m 17 ls [.int (zI x10)]) := by
      intro H locs ls hl hW hS
      cases hf
      subst hQ
      exact z_reti hx hb hr hlocks hB hK hW hS d_r_next_17
    refine z_if_ne hx hb d_r_next_7 rfl g10 (fun g10 => ?_) (fun g10 => ?_)
    · refine z_iconst hx hb d_r_next_16 ?_
      cases g10
      exact J10 _ _ _ (lv_sub hl [] rfl) hW hS
    · refine lv_iload_n hx hb d_r_next_10 rfl (lv_at hl 0 rfl) ?_
      refine z_iconst hx hb d_r_next_11 ?_
      refine z_isub hx hb d_r_next_12 ?_
      refine lv_goto hx hb d_r_next_13 rfl ?_
      cases g10
      exact J10 _ _ _ (lv_sub hl [] rfl) hW hS
set_option maxRecDepth 100000 in
set_option maxHeartbeats 4000000 in
theorem k_r_grammar {l : Launch} {D : va_G} {B : Nat} {y : Nat → ClassId} {ad : Nat × Nat → Nat} {cu : ZC} (F : Nat) (u : ZR) {res : Int} {uo : ZR} (hf : r_grammar F u = some (res, uo)) : Met l y_r_grammar (.code y_r_grammar b_r_grammar 4 (some .boolean) :: zt) { frames := 3, cells := 0, slots := 0, locals := 69 } (va_Pc [.ref (ad (10, 0))] (fun U => ZP D B y ad true cu u U)) (va_Qi (fun v (_ : Unit) => v = zI res) (fun _ t => ZP D B y ad true cu uo t) (fun x => B ≤ x)) 0 0 (fun x => B ≤ x) := by
  refine Met.ofW (cc := b_r_grammar) (maxL := 4) (ret := (some .boolean)) (by decide) rfl ?_
  intro p e s m args below meth c s₁ Bd hml hv
  obtain ⟨hargs, hB, hW, hK⟩ := hv
  have hx := Bd.exec
  have hb := Bd.bytes
  have hr := Bd.returns
  have hts0 := atoms_spec (ws := .code y_r_grammar b_r_grammar 4 (some .boolean) :: zt) Bd.pre
  have hown : s.vm.findClass "TreeShellModel" = some m.cls := findClass_of_methodNamed Bd.named
  have hlocks := Bd.notSynchronized
  have M : ZM p c b_r_grammar s args m "TreeShellModel" D y := ⟨hx, hb, fun w h => hts0 w (List.mem_cons_of_mem _ h), hown, hK⟩
  have hS : va_S (fun x => B ≤ x) s.heap s.heap [] := va_S.rf
  have hE := lg_entry_eq m ([.ref (ad (10, 0))] : List Value) 4
  rw [← hargs] at hE
  rw [hE]
  have hl := lv_entry ([.ref (ad (10, 0))] : List Value) (n := 4) (Nat.le_of_ble_eq_true rfl)
  generalize (lg_sl ([.ref (ad (10, 0))] : List Value) ++ List.replicate (4 - (lg_sl ([.ref (ad (10, 0))] : List Value)).length) Slot.unset).toArray = ls at hl ⊢
  have hl : lv_has ls 4 [(0, .ref (ad (10, 0)))] := hl
  refine z_start (fun Q R hQ hR => ?_)
  generalize hH : s.heap = H at hW
  have hS : va_S (fun x => B ≤ x) s.heap H [] := by rw [← hH]; exact hS
  have C_15 : ∀ (n : Nat), ∀ (u : ZR) (v1 : Int) (v2 : Int) (v3 : Int) (H : Heap) (locs : List Loc) (ls : Array Slot), r_grammar_15 F n u v1 v2 v3 = some (res, uo) → lv_has ls 4 [(0, .ref (ad (10, 0))), (1, .int (zI v1)), (2, .int (zI v2)), (3, .int (zI v3))] → ZW D B y ad true cu u H → va_S (fun x => B ≤ x) s.heap H locs → W p l e R s m args below meth c H locs 0 0 Q (F0 m 15 ls []) := by
    intro n
    induction n with
    | zero => intro u v1 v2 v3 H locs ls hf; cases (show (none : Option (Int × ZR)) = some (res, uo) from hf)
    | succ n ih =>
      intro u v1 v2 v3 H locs ls hf hl hW hS
      rw [r_grammar_15] at hf
      refine lv_iload_n hx hb d_r_grammar_15 rfl (lv_at hl 3 rfl) ?_
      refine lv_aload_n hx hb d_r_grammar_16 rfl (lv_at hl 0 rfl) ?_
      refine zg_Mo_tokens M hW (M.2.2.1 _ w_744) d_r_grammar_17 ?_
      refine z_icmp_ge hx hb d_r_grammar_20 rfl hf (fun hf => ?_) (fun hf => ?_)
      · refine lv_aload_n hx hb d_r_grammar_83 rfl (lv_at hl 0 rfl) ?_
        refine zg_Mo_tokens M hW (M.2.2.1 _ w_744) d_r_grammar_84 ?_
        obtain ⟨x4, g1, hf⟩ := ze1 hf
        have J1 : ∀ (H : Heap) (locs : List Loc) (ls : Array Slot), lv_has ls 4 [] → ZW D B y ad true cu u H → va_S (fun x => B ≤ x) s.heap H locs → W p l e R s m args below meth c H locs 0 0 Q (F0 m 115 ls [.int (zI x4)]) := by
          intro H locs ls hl hW hS
          obtain ⟨g2, hf⟩ := zg hf
          cases hf
          subst hQ
          exact z_retz hx hb g2 hr hlocks hB hK hW hS d_r_grammar_115
        obtain ⟨b3, g3, g1⟩ := ze1 g1
        have JT3 : b3 = true → ∀ (H : Heap) (locs : List Loc), ZW D B y ad true cu u H → va_S (fun x => B ≤ x) s.heap H locs → W p l e R s m args below meth c H locs 0 0 Q (F0 m 110 ls []) := by
          intro hv H locs hW hS
          have g1 := zp (hv) g1
          refine z_iconst hx hb d_r_grammar_110 ?_
          refine lv_goto hx hb d_r_grammar_111 rfl ?_
          cases g1
          exact J1 _ _ _ (lv_sub hl [] rfl) hW hS
        have JF3 : b3 = false → ∀ (H : Heap) (locs : List Loc), ZW D B y ad true cu u H → va_S (fun x => B ≤ x) s.heap H locs → W p l e R s m args below meth c H locs 0 0 Q (F0 m 114 ls []) := by
          intro hv H locs hW hS
          have g1 := zn (by rw [hv]; decide) g1
          refine z_iconst hx hb d_r_grammar_114 ?_
          cases g1
          exact J1 _ _ _ (lv_sub hl [] rfl) hW hS
        refine z_if_eq hx hb d_r_grammar_87 rfl g3 (fun g3 => ?_) (fun g3 => ?_)
        · exact JT3 (Option.some.inj g3).symm _ _ hW hS
        · refine lv_iload_n hx hb d_r_grammar_90 rfl (lv_at hl 2 rfl) ?_
          refine z_if_ne hx hb d_r_grammar_91 rfl g3 (fun g3 => ?_) (fun g3 => ?_)
          · exact JF3 (Option.some.inj g3).symm _ _ hW hS
          · refine lv_iload_n hx hb d_r_grammar_94 rfl (lv_at hl 1 rfl) ?_
            refine z_iconst hx hb d_r_grammar_95 ?_
            refine z_icmp_eq hx hb d_r_grammar_96 rfl g3 (fun g3 => ?_) (fun g3 => ?_)
            · exact JT3 (Option.some.inj g3).symm _ _ hW hS
            · refine lv_iload_n hx hb d_r_grammar_99 rfl (lv_at hl 1 rfl) ?_
              refine z_iconst hx hb d_r_grammar_100 ?_
              refine z_icmp_eq hx hb d_r_grammar_101 rfl g3 (fun g3 => ?_) (fun g3 => ?_)
              · exact JT3 (Option.some.inj g3).symm _ _ hW hS
              · refine lv_iload_n hx hb d_r_grammar_104 rfl (lv_at hl 1 rfl) ?_
                refine z_bipush hx hb d_r_grammar_105 rfl ?_
                refine z_icmp_ne hx hb d_r_grammar_107 rfl g3 (fun g3 => ?_) (fun g3 => ?_)
                · exact JF3 (Option.some.inj g3).symm _ _ hW hS
                · exact JT3 (Option.some.inj g3).symm _ _ hW hS
      · refine lv_iload_n hx hb d_r_grammar_23 rfl (lv_at hl 1 rfl) ?_
        refine lv_aload_n hx hb d_r_grammar_24 rfl (lv_at hl 0 rfl) ?_
        refine zg_Mo_kind M hW (M.2.2.1 _ w_745) d_r_grammar_25 ?_
        refine lv_iload_n hx hb d_r_grammar_28 rfl (lv_at hl 3 rfl) ?_
        obtain ⟨g4, hf⟩ := zg hf
        refine zr_13 M hW g4 d_r_grammar_29 ?_
        refine lv_iload_n hx hb d_r_grammar_30 rfl (lv_at hl 2 rfl) ?_
        obtain ⟨p5, g5, hf⟩ := ze1 hf
        refine z_callSi (As := [.int (zI v1), .int (zI (rA u 13 v3.toNat)), .int (zI v2)]) (rest := []) (k_r_next F _ _ _ _ g5) M hml (cw_r_next M.2.2.1 (M.2.2.1 _ w_918) (by rw [hR]; exact Nat.le_of_ble_eq_true rfl) (by rw [hR]; exact Nat.le_of_ble_eq_true rfl)) hB hW hS rfl hl.1 rfl (Nat.le_of_ble_eq_true rfl) d_r_grammar_31 (by rw [hR]; exact ⟨Nat.zero_le _, Nat.zero_le _⟩) (fun H locs hW hS => ?_)
        refine lv_istore_n (lv' := [(1, .int (zI p5)), (0, .ref (ad (10, 0))), (2, .int (zI v2)), (3, .int (zI v3))]) hx hb d_r_grammar_34 rfl hl (by decide) rfl (fun ls hl => ?_)
        refine lv_iload_n hx hb d_r_grammar_35 rfl (lv_at hl 0 rfl) ?_
        refine z_if_ge hx hb d_r_grammar_36 rfl hf (fun hf => ?_) (fun hf => ?_)
        · refine lv_aload_n hx hb d_r_grammar_41 rfl (lv_at hl 1 rfl) ?_
          refine zg_Mo_kind M hW (M.2.2.1 _ w_745) d_r_grammar_42 ?_
          refine lv_iload_n hx hb d_r_grammar_45 rfl (lv_at hl 3 rfl) ?_
          refine zr_13 M hW g4 d_r_grammar_46 ?_
          refine z_bipush hx hb d_r_grammar_47 rfl ?_
          obtain ⟨x6, g6, hf⟩ := ze1 hf
          have J6 : ∀ (H : Heap) (locs : List Loc) (ls : Array Slot), lv_has ls 4 [(0, .ref (ad (10, 0))), (1, .int (zI p5)), (3, .int (zI v3))] → ZW D B y ad true cu u H → va_S (fun x => B ≤ x) s.heap H locs → W p l e R s m args below meth c H locs 0 0 Q (F0 m 76 ls [.int (zI x6)]) := by
            intro H locs ls hl hW hS
            refine lv_istore_n (lv' := [(2, .int (zI x6)), (0, .ref (ad (10, 0))), (1, .int (zI p5)), (3, .int (zI v3))]) hx hb d_r_grammar_76 rfl hl (by decide) rfl (fun ls hl => ?_)
            refine lv_iinc (k := 3) (v := zI (v3 + 1)) (lv' := [(3, .int (zI (v3 + 1))), (2, .int (zI x6)), (0, .ref (ad (10, 0))), (1, .int (zI p5))]) hx hb d_r_grammar_77 hl rfl (zI_add _ _) (by decide) rfl (fun ls hl => ?_)
            refine lv_goto hx hb d_r_grammar_80 rfl ?_
            exact ih _ _ _ _ _ _ _ hf (lv_sub hl [2, 3, 1, 0] rfl) hW hS
          refine z_icmp_ne hx hb d_r_grammar_49 rfl g6 (fun g6 => ?_) (fun g6 => ?_)
          · refine lv_aload_n hx hb d_r_grammar_58 rfl (lv_at hl 1 rfl) ?_
            refine zg_Mo_kind M hW (M.2.2.1 _ w_745) d_r_grammar_59 ?_
            refine lv_iload_n hx hb d_r_grammar_62 rfl (lv_at hl 3 rfl) ?_
            refine zr_13 M hW g4 d_r_grammar_63 ?_
            refine z_bipush hx hb d_r_grammar_64 rfl ?_
            refine z_icmp_ne hx hb d_r_grammar_66 rfl g6 (fun g6 => ?_) (fun g6 => ?_)
            · refine lv_iload_n hx hb d_r_grammar_75 rfl (lv_at hl 2 rfl) ?_
              cases g6
              exact J6 _ _ _ (lv_sub hl [1, 0, 3] rfl) hW hS
            · refine lv_iload_n hx hb d_r_grammar_69 rfl (lv_at hl 2 rfl) ?_
              refine z_iconst hx hb d_r_grammar_70 ?_
              refine z_isub hx hb d_r_grammar_71 ?_
              refine lv_goto hx hb d_r_grammar_72 rfl ?_
              cases g6
              exact J6 _ _ _ (lv_sub hl [1, 0, 3] rfl) hW hS
          · refine lv_iload_n hx hb d_r_grammar_52 rfl (lv_at hl 2 rfl) ?_
            refine z_iconst hx hb d_r_grammar_53 ?_
            refine z_iadd hx hb d_r_grammar_54 ?_
            refine lv_goto hx hb d_r_grammar_55 rfl ?_
            cases g6
            exact J6 _ _ _ (lv_sub hl [1, 0, 3] rfl) hW hS
        · refine z_iconst hx hb d_r_grammar_39 ?_
          cases hf
          subst hQ
          exact z_retz hx hb (Or.inl rfl) hr hlocks hB hK hW hS d_r_grammar_40
  rw [r_grammar] at hf
  refine lv_aload_n hx hb d_r_grammar_0 rfl (lv_at hl 0 rfl) ?_
  obtain ⟨p1, u2, g7, hf⟩ := ze2 hf
  refine z_callVi (As := []) (rest := []) (k_r_cut F _ g7) M hml (cw_r_cut M.2.2.1 (M.2.2.1 _ w_902) (by rw [hR]; exact Nat.le_of_ble_eq_true rfl) (by rw [hR]; exact Nat.le_of_ble_eq_true rfl)) (zv_Mo hK hW) hB hW hS rfl hl.1 rfl (Nat.le_of_ble_eq_true rfl) d_r_grammar_1 (by rw [hR]; exact ⟨Nat.zero_le _, Nat.zero_le _⟩) (fun H locs hW hS => ?_)
  refine z_if_ne hx hb d_r_grammar_4 rfl hf (fun hf => ?_) (fun hf => ?_)
  · refine z_iconst hx hb d_r_grammar_9 ?_
    refine lv_istore_n (lv' := [(1, .int (zI 0)), (0, .ref (ad (10, 0)))]) hx hb d_r_grammar_10 rfl hl (by decide) rfl (fun ls hl => ?_)
    refine z_iconst hx hb d_r_grammar_11 ?_
    refine lv_istore_n (lv' := [(2, .int (zI 0)), (1, .int (zI 0)), (0, .ref (ad (10, 0)))]) hx hb d_r_grammar_12 rfl hl (by decide) rfl (fun ls hl => ?_)
    refine z_iconst hx hb d_r_grammar_13 ?_
    refine lv_istore_n (lv' := [(3, .int (zI 0)), (2, .int (zI 0)), (1, .int (zI 0)), (0, .ref (ad (10, 0)))]) hx hb d_r_grammar_14 rfl hl (by decide) rfl (fun ls hl => ?_)
    exact C_15 F _ _ _ _ _ _ _ hf (lv_sub hl [3, 2, 1, 0] rfl) hW hS
  · refine z_iconst hx hb d_r_grammar_7 ?_
    cases hf
    subst hQ
    exact z_retz hx hb (Or.inl rfl) hr hlocks hB hK hW hS d_r_grammar_8
set_option maxRecDepth 100000 in
set_option maxHeartbeats 4000000 in
theorem k_r_check {l : Launch} {D : va_G} {B : Nat} {y : Nat → ClassId} {ad : Nat × Nat → Nat} {cu : ZC} (F : Nat) (u : ZR) {res : Int} {uo : ZR} (hf : r_check F u = some (res, uo)) : Met l y_r_check (.code y_r_check b_r_check 3 (some .int) :: zt) { frames := 4, cells := 0, slots := 0, locals := 92 } (va_Pc [.ref (ad (10, 0))] (fun U => ZP D B y ad true cu u U)) (va_Qi (fun v (_ : Unit) => v = zI res) (fun _ t => ZP D B y ad true cu uo t) (fun x => B ≤ x)) 0 0 (fun x => B ≤ x) := by
  refine Met.ofW (cc := b_r_check) (maxL := 3) (ret := (some .int)) (by decide) rfl ?_
  intro p e s m args below meth c s₁ Bd hml hv
  obtain ⟨hargs, hB, hW, hK⟩ := hv
  have hx := Bd.exec
  have hb := Bd.bytes
  have hr := Bd.returns
  have hts0 := atoms_spec (ws := .code y_r_check b_r_check 3 (some .int) :: zt) Bd.pre
  have hown : s.vm.findClass "TreeShellModel" = some m.cls := findClass_of_methodNamed Bd.named
  have hlocks := Bd.notSynchronized
  have M : ZM p c b_r_check s args m "TreeShellModel" D y := ⟨hx, hb, fun w h => hts0 w (List.mem_cons_of_mem _ h), hown, hK⟩
  have hS : va_S (fun x => B ≤ x) s.heap s.heap [] := va_S.rf
  have hE := lg_entry_eq m ([.ref (ad (10, 0))] : List Value) 3
  rw [← hargs] at hE
  rw [hE]
  have hl := lv_entry ([.ref (ad (10, 0))] : List Value) (n := 3) (Nat.le_of_ble_eq_true rfl)
  generalize (lg_sl ([.ref (ad (10, 0))] : List Value) ++ List.replicate (3 - (lg_sl ([.ref (ad (10, 0))] : List Value)).length) Slot.unset).toArray = ls at hl ⊢
  have hl : lv_has ls 3 [(0, .ref (ad (10, 0)))] := hl
  refine z_start (fun Q R hQ hR => ?_)
  generalize hH : s.heap = H at hW
  have hS : va_S (fun x => B ≤ x) s.heap H [] := by rw [← hH]; exact hS
  have C_13 : ∀ (n : Nat), ∀ (u : ZR) (v1 : Int) (v2 : Int) (H : Heap) (locs : List Loc) (ls : Array Slot), r_check_13 F n u v1 v2 = some (res, uo) → lv_has ls 3 [(0, .ref (ad (10, 0))), (1, .int (zI v1)), (2, .int (zI v2))] → ZW D B y ad true cu u H → va_S (fun x => B ≤ x) s.heap H locs → W p l e R s m args below meth c H locs 0 0 Q (F0 m 13 ls []) := by
    intro n
    induction n with
    | zero => intro u v1 v2 H locs ls hf; cases (show (none : Option (Int × ZR)) = some (res, uo) from hf)
    | succ n ih =>
      intro u v1 v2 H locs ls hf hl hW hS
      rw [r_check_13] at hf
      refine lv_iload_n hx hb d_r_check_13 rfl (lv_at hl 2 rfl) ?_
      refine lv_aload_n hx hb d_r_check_14 rfl (lv_at hl 0 rfl) ?_
      refine zg_Mo_tokens M hW (M.2.2.1 _ w_744) d_r_check_15 ?_
      refine z_icmp_ge hx hb d_r_check_18 rfl hf (fun hf => ?_) (fun hf => ?_)
      · refine lv_iload_n hx hb d_r_check_44 rfl (lv_at hl 1 rfl) ?_
        cases hf
        subst hQ
        exact z_reti hx hb hr hlocks hB hK hW hS d_r_check_45
      · refine lv_aload_n hx hb d_r_check_21 rfl (lv_at hl 0 rfl) ?_
        refine zg_Mo_kind M hW (M.2.2.1 _ w_745) d_r_check_22 ?_
        refine lv_iload_n hx hb d_r_check_25 rfl (lv_at hl 2 rfl) ?_
        obtain ⟨g1, hf⟩ := zg hf
        refine zr_13 M hW g1 d_r_check_26 ?_
        obtain ⟨x3, g2, hf⟩ := ze1 hf
        have J2 : ∀ (H : Heap) (locs : List Loc) (ls : Array Slot), lv_has ls 3 [(0, .ref (ad (10, 0))), (2, .int (zI v2))] → ZW D B y ad true cu u H → va_S (fun x => B ≤ x) s.heap H locs → W p l e R s m args below meth c H locs 0 0 Q (F0 m 37 ls [.int (zI x3)]) := by
          intro H locs ls hl hW hS
          refine lv_istore_n (lv' := [(1, .int (zI x3)), (0, .ref (ad (10, 0))), (2, .int (zI v2))]) hx hb d_r_check_37 rfl hl (by decide) rfl (fun ls hl => ?_)
          refine lv_iinc (k := 2) (v := zI (v2 + 1)) (lv' := [(2, .int (zI (v2 + 1))), (1, .int (zI x3)), (0, .ref (ad (10, 0)))]) hx hb d_r_check_38 hl rfl (zI_add _ _) (by decide) rfl (fun ls hl => ?_)
          refine lv_goto hx hb d_r_check_41 rfl ?_
          exact ih _ _ _ _ _ _ hf (lv_sub hl [2, 1, 0] rfl) hW hS
        refine z_if_ne hx hb d_r_check_27 rfl g2 (fun g2 => ?_) (fun g2 => ?_)
        · refine lv_iload_n hx hb d_r_check_36 rfl (lv_at hl 1 rfl) ?_
          cases g2
          exact J2 _ _ _ (lv_sub hl [0, 2] rfl) hW hS
        · refine lv_iload_n hx hb d_r_check_30 rfl (lv_at hl 1 rfl) ?_
          refine z_iconst hx hb d_r_check_31 ?_
          refine z_iadd hx hb d_r_check_32 ?_
          refine lv_goto hx hb d_r_check_33 rfl ?_
          cases g2
          exact J2 _ _ _ (lv_sub hl [0, 2] rfl) hW hS
  rw [r_check] at hf
  refine lv_aload_n hx hb d_r_check_0 rfl (lv_at hl 0 rfl) ?_
  obtain ⟨p1, u2, g3, hf⟩ := ze2 hf
  refine z_callVi (As := []) (rest := []) (k_r_grammar F _ g3) M hml (cw_r_grammar M.2.2.1 (M.2.2.1 _ w_898) (by rw [hR]; exact Nat.le_of_ble_eq_true rfl) (by rw [hR]; exact Nat.le_of_ble_eq_true rfl)) (zv_Mo hK hW) hB hW hS rfl hl.1 rfl (Nat.le_of_ble_eq_true rfl) d_r_check_1 (by rw [hR]; exact ⟨Nat.zero_le _, Nat.zero_le _⟩) (fun H locs hW hS => ?_)
  refine z_if_ne hx hb d_r_check_4 rfl hf (fun hf => ?_) (fun hf => ?_)
  · refine z_iconst hx hb d_r_check_9 ?_
    refine lv_istore_n (lv' := [(1, .int (zI 0)), (0, .ref (ad (10, 0)))]) hx hb d_r_check_10 rfl hl (by decide) rfl (fun ls hl => ?_)
    refine z_iconst hx hb d_r_check_11 ?_
    refine lv_istore_n (lv' := [(2, .int (zI 0)), (1, .int (zI 0)), (0, .ref (ad (10, 0)))]) hx hb d_r_check_12 rfl hl (by decide) rfl (fun ls hl => ?_)
    exact C_13 F _ _ _ _ _ _ hf (lv_sub hl [2, 1, 0] rfl) hW hS
  · refine z_iconst hx hb d_r_check_7 ?_
    cases hf
    subst hQ
    exact z_reti hx hb hr hlocks hB hK hW hS d_r_check_8
set_option maxRecDepth 100000 in
set_option maxHeartbeats 4000000 in
theorem k_r_kindAt {l : Launch} {D : va_G} {B : Nat} {y : Nat → ClassId} {ad : Nat × Nat → Nat} {cu : ZC} (F : Nat) (u : ZR) (v1 : Int) {res : Int} (hf : r_kindAt F u v1 = some res) : Met l y_r_kindAt (.code y_r_kindAt b_r_kindAt 2 (some .int) :: zt) { frames := 0, cells := 0, slots := 0, locals := 0 } (va_Pc [.ref (ad (10, 0)), .int (zI v1)] (fun U => ZP D B y ad true cu u U)) (va_Qi (fun v (_ : Unit) => v = zI res) (fun _ t => ZP D B y ad true cu u t) (fun x => B ≤ x)) 0 0 (fun x => B ≤ x) := by
  refine Met.ofW (cc := b_r_kindAt) (maxL := 2) (ret := (some .int)) (by decide) rfl ?_
  intro p e s m args below meth c s₁ Bd hml hv
  obtain ⟨hargs, hB, hW, hK⟩ := hv
  have hx := Bd.exec
  have hb := Bd.bytes
  have hr := Bd.returns
  have hts0 := atoms_spec (ws := .code y_r_kindAt b_r_kindAt 2 (some .int) :: zt) Bd.pre
  have hown : s.vm.findClass "TreeShellModel" = some m.cls := findClass_of_methodNamed Bd.named
  have hlocks := Bd.notSynchronized
  have M : ZM p c b_r_kindAt s args m "TreeShellModel" D y := ⟨hx, hb, fun w h => hts0 w (List.mem_cons_of_mem _ h), hown, hK⟩
  have hS : va_S (fun x => B ≤ x) s.heap s.heap [] := va_S.rf
  have hE := lg_entry_eq m ([.ref (ad (10, 0)), .int (zI v1)] : List Value) 2
  rw [← hargs] at hE
  rw [hE]
  have hl := lv_entry ([.ref (ad (10, 0)), .int (zI v1)] : List Value) (n := 2) (Nat.le_of_ble_eq_true rfl)
  generalize (lg_sl ([.ref (ad (10, 0)), .int (zI v1)] : List Value) ++ List.replicate (2 - (lg_sl ([.ref (ad (10, 0)), .int (zI v1)] : List Value)).length) Slot.unset).toArray = ls at hl ⊢
  have hl : lv_has ls 2 [(0, .ref (ad (10, 0))), (1, .int (zI v1))] := hl
  refine z_start (fun Q R hQ hR => ?_)
  generalize hH : s.heap = H at hW
  have hS : va_S (fun x => B ≤ x) s.heap H [] := by rw [← hH]; exact hS
  rw [r_kindAt] at hf
  refine lv_iload_n hx hb d_r_kindAt_0 rfl (lv_at hl 1 rfl) ?_
  refine lv_aload_n hx hb d_r_kindAt_1 rfl (lv_at hl 0 rfl) ?_
  refine zg_Mo_tokens M hW (M.2.2.1 _ w_744) d_r_kindAt_2 ?_
  obtain ⟨x1, g1, hf⟩ := ze1 hf
  have J1 : ∀ (H : Heap) (locs : List Loc) (ls : Array Slot), lv_has ls 2 [] → ZW D B y ad true cu u H → va_S (fun x => B ≤ x) s.heap H locs → W p l e R s m args below meth c H locs 0 0 Q (F0 m 18 ls [.int (zI x1)]) := by
    intro H locs ls hl hW hS
    cases hf
    subst hQ
    exact z_reti hx hb hr hlocks hB hK hW hS d_r_kindAt_18
  refine z_icmp_ge hx hb d_r_kindAt_5 rfl g1 (fun g1 => ?_) (fun g1 => ?_)
  · refine z_iconst hx hb d_r_kindAt_17 ?_
    cases g1
    exact J1 _ _ _ (lv_sub hl [] rfl) hW hS
  · refine lv_aload_n hx hb d_r_kindAt_8 rfl (lv_at hl 0 rfl) ?_
    refine zg_Mo_kind M hW (M.2.2.1 _ w_745) d_r_kindAt_9 ?_
    refine lv_iload_n hx hb d_r_kindAt_12 rfl (lv_at hl 1 rfl) ?_
    obtain ⟨g2, g1⟩ := zg g1
    refine zr_13 M hW g2 d_r_kindAt_13 ?_
    refine lv_goto hx hb d_r_kindAt_14 rfl ?_
    cases g1
    exact J1 _ _ _ (lv_sub hl [] rfl) hW hS
set_option maxRecDepth 100000 in
set_option maxHeartbeats 4000000 in
theorem k_r_pipelineEnd {l : Launch} {D : va_G} {B : Nat} {y : Nat → ClassId} {ad : Nat × Nat → Nat} {cu : ZC} (F : Nat) (u : ZR) (v1 : Int) (v2 : Int) {res : Int} (hf : r_pipelineEnd F u v1 v2 = some res) : Met l y_r_pipelineEnd (.code y_r_pipelineEnd b_r_pipelineEnd 6 (some .int) :: zt) { frames := 0, cells := 0, slots := 0, locals := 0 } (va_Pc [.ref (ad (10, 0)), .int (zI v1), .int (zI v2)] (fun U => ZP D B y ad true cu u U)) (va_Qi (fun v (_ : Unit) => v = zI res) (fun _ t => ZP D B y ad true cu u t) (fun x => B ≤ x)) 0 0 (fun x => B ≤ x) := by
  refine Met.ofW (cc := b_r_pipelineEnd) (maxL := 6) (ret := (some .int)) (by decide) rfl ?_
  intro p e s m args below meth c s₁ Bd hml hv
  obtain ⟨hargs, hB, hW, hK⟩ := hv
  have hx := Bd.exec
  have hb := Bd.bytes
  have hr := Bd.returns
  have hts0 := atoms_spec (ws := .code y_r_pipelineEnd b_r_pipelineEnd 6 (some .int) :: zt) Bd.pre
  have hown : s.vm.findClass "TreeShellModel" = some m.cls := findClass_of_methodNamed Bd.named
  have hlocks := Bd.notSynchronized
  have M : ZM p c b_r_pipelineEnd s args m "TreeShellModel" D y := ⟨hx, hb, fun w h => hts0 w (List.mem_cons_of_mem _ h), hown, hK⟩
  have hS : va_S (fun x => B ≤ x) s.heap s.heap [] := va_S.rf
  have hE := lg_entry_eq m ([.ref (ad (10, 0)), .int (zI v1), .int (zI v2)] : List Value) 6
  rw [← hargs] at hE
  rw [hE]
  have hl := lv_entry ([.ref (ad (10, 0)), .int (zI v1), .int (zI v2)] : List Value) (n := 6) (Nat.le_of_ble_eq_true rfl)
  generalize (lg_sl ([.ref (ad (10, 0)), .int (zI v1), .int (zI v2)] : List Value) ++ List.replicate (6 - (lg_sl ([.ref (ad (10, 0)), .int (zI v1), .int (zI v2)] : List Value)).length) Slot.unset).toArray = ls at hl ⊢
  have hl : lv_has ls 6 [(0, .ref (ad (10, 0))), (1, .int (zI v1)), (2, .int (zI v2))] := hl
  refine z_start (fun Q R hQ hR => ?_)
  generalize hH : s.heap = H at hW
  have hS : va_S (fun x => B ≤ x) s.heap H [] := by rw [← hH]; exact hS
  have C_5 : ∀ (n : Nat), ∀ (v2 : Int) (v3 : Int) (v4 : Int) (H : Heap) (locs : List Loc) (ls : Array Slot), r_pipelineEnd_5 F n u v2 v3 v4 = some res → lv_has ls 6 [(0, .ref (ad (10, 0))), (2, .int (zI v2)), (3, .int (zI v3)), (4, .int (zI v4))] → ZW D B y ad true cu u H → va_S (fun x => B ≤ x) s.heap H locs → W p l e R s m args below meth c H locs 0 0 Q (F0 m 5 ls []) := by
    intro n
    induction n with
    | zero => intro v2 v3 v4 H locs ls hf; cases (show (none : Option (Int)) = some res from hf)
    | succ n ih =>
      intro v2 v3 v4 H locs ls hf hl hW hS
      rw [r_pipelineEnd_5] at hf
      refine lv_iload hx hb d_r_pipelineEnd_5 (lv_at hl 3 rfl) ?_
      refine lv_aload_n hx hb d_r_pipelineEnd_7 rfl (lv_at hl 0 rfl) ?_
      refine zg_Mo_tokens M hW (M.2.2.1 _ w_744) d_r_pipelineEnd_8 ?_
      refine z_icmp_ge hx hb d_r_pipelineEnd_11 rfl hf (fun hf => ?_) (fun hf => ?_)
      · refine lv_aload_n hx hb d_r_pipelineEnd_99 rfl (lv_at hl 0 rfl) ?_
        refine zg_Mo_tokens M hW (M.2.2.1 _ w_744) d_r_pipelineEnd_100 ?_
        cases hf
        subst hQ
        exact z_reti hx hb hr hlocks hB hK hW hS d_r_pipelineEnd_103
      · refine lv_aload_n hx hb d_r_pipelineEnd_14 rfl (lv_at hl 0 rfl) ?_
        refine zg_Mo_kind M hW (M.2.2.1 _ w_745) d_r_pipelineEnd_15 ?_
        refine lv_iload hx hb d_r_pipelineEnd_18 (lv_at hl 3 rfl) ?_
        obtain ⟨g1, hf⟩ := zg hf
        refine zr_13 M hW g1 d_r_pipelineEnd_20 ?_
        refine lv_istore (lv' := [(5, .int (zI (rA u 13 v4.toNat))), (0, .ref (ad (10, 0))), (2, .int (zI v2)), (3, .int (zI v3)), (4, .int (zI v4))]) hx hb d_r_pipelineEnd_21 hl (by decide) rfl (fun ls hl => ?_)
        refine lv_iload_n hx hb d_r_pipelineEnd_23 rfl (lv_at hl 3 rfl) ?_
        obtain ⟨b1, g2, hf⟩ := ze1 hf
        have JT2 : b1 = true → ∀ (H : Heap) (locs : List Loc), ZW D B y ad true cu u H → va_S (fun x => B ≤ x) s.heap H locs → W p l e R s m args below meth c H locs 0 0 Q (F0 m 65 ls []) := by
          intro hv H locs hW hS
          have hf := zp (hv) hf
          refine lv_iload hx hb d_r_pipelineEnd_65 (lv_at hl 0 rfl) ?_
          refine z_bipush hx hb d_r_pipelineEnd_67 rfl ?_
          obtain ⟨x2, g3, hf⟩ := ze1 hf
          have J3 : ∀ (H : Heap) (locs : List Loc) (ls : Array Slot), lv_has ls 6 [(0, .ref (ad (10, 0))), (2, .int (zI v2)), (4, .int (zI v4))] → ZW D B y ad true cu u H → va_S (fun x => B ≤ x) s.heap H locs → W p l e R s m args below meth c H locs 0 0 Q (F0 m 92 ls [.int (zI x2)]) := by
            intro H locs ls hl hW hS
            refine lv_istore_n (lv' := [(3, .int (zI x2)), (0, .ref (ad (10, 0))), (2, .int (zI v2)), (4, .int (zI v4))]) hx hb d_r_pipelineEnd_92 rfl hl (by decide) rfl (fun ls hl => ?_)
            refine lv_iinc (k := 3) (v := zI (v4 + 1)) (lv' := [(4, .int (zI (v4 + 1))), (3, .int (zI x2)), (0, .ref (ad (10, 0))), (2, .int (zI v2))]) hx hb d_r_pipelineEnd_93 hl rfl (zI_add _ _) (by decide) rfl (fun ls hl => ?_)
            refine lv_goto hx hb d_r_pipelineEnd_96 rfl ?_
            exact ih _ _ _ _ _ _ hf (lv_sub hl [2, 3, 1, 0] rfl) hW hS
          refine z_icmp_ne hx hb d_r_pipelineEnd_69 rfl g3 (fun g3 => ?_) (fun g3 => ?_)
          · refine lv_iload hx hb d_r_pipelineEnd_78 (lv_at hl 0 rfl) ?_
            refine z_bipush hx hb d_r_pipelineEnd_80 rfl ?_
            refine z_icmp_ne hx hb d_r_pipelineEnd_82 rfl g3 (fun g3 => ?_) (fun g3 => ?_)
            · refine lv_iload_n hx hb d_r_pipelineEnd_91 rfl (lv_at hl 3 rfl) ?_
              cases g3
              exact J3 _ _ _ (lv_sub hl [1, 2, 4] rfl) hW hS
            · refine lv_iload_n hx hb d_r_pipelineEnd_85 rfl (lv_at hl 3 rfl) ?_
              refine z_iconst hx hb d_r_pipelineEnd_86 ?_
              refine z_isub hx hb d_r_pipelineEnd_87 ?_
              refine lv_goto hx hb d_r_pipelineEnd_88 rfl ?_
              cases g3
              exact J3 _ _ _ (lv_sub hl [1, 2, 4] rfl) hW hS
          · refine lv_iload_n hx hb d_r_pipelineEnd_72 rfl (lv_at hl 3 rfl) ?_
            refine z_iconst hx hb d_r_pipelineEnd_73 ?_
            refine z_iadd hx hb d_r_pipelineEnd_74 ?_
            refine lv_goto hx hb d_r_pipelineEnd_75 rfl ?_
            cases g3
            exact J3 _ _ _ (lv_sub hl [1, 2, 4] rfl) hW hS
        have JF2 : b1 = false → ∀ (H : Heap) (locs : List Loc), ZW D B y ad true cu u H → va_S (fun x => B ≤ x) s.heap H locs → W p l e R s m args below meth c H locs 0 0 Q (F0 m 62 ls []) := by
          intro hv H locs hW hS
          have hf := zn (by rw [hv]; decide) hf
          refine lv_iload hx hb d_r_pipelineEnd_62 (lv_at hl 4 rfl) ?_
          cases hf
          subst hQ
          exact z_reti hx hb hr hlocks hB hK hW hS d_r_pipelineEnd_64
        refine z_if_ne hx hb d_r_pipelineEnd_24 rfl g2 (fun g2 => ?_) (fun g2 => ?_)
        · exact JT2 (Option.some.inj g2).symm _ _ hW hS
        · refine lv_iload hx hb d_r_pipelineEnd_27 (lv_at hl 0 rfl) ?_
          refine z_iconst hx hb d_r_pipelineEnd_29 ?_
          refine z_icmp_eq hx hb d_r_pipelineEnd_30 rfl g2 (fun g2 => ?_) (fun g2 => ?_)
          · exact JF2 (Option.some.inj g2).symm _ _ hW hS
          · refine lv_iload hx hb d_r_pipelineEnd_33 (lv_at hl 0 rfl) ?_
            refine z_iconst hx hb d_r_pipelineEnd_35 ?_
            refine z_icmp_eq hx hb d_r_pipelineEnd_36 rfl g2 (fun g2 => ?_) (fun g2 => ?_)
            · exact JF2 (Option.some.inj g2).symm _ _ hW hS
            · refine lv_iload hx hb d_r_pipelineEnd_39 (lv_at hl 0 rfl) ?_
              refine z_iconst hx hb d_r_pipelineEnd_41 ?_
              refine z_icmp_eq hx hb d_r_pipelineEnd_42 rfl g2 (fun g2 => ?_) (fun g2 => ?_)
              · exact JF2 (Option.some.inj g2).symm _ _ hW hS
              · refine lv_iload hx hb d_r_pipelineEnd_45 (lv_at hl 0 rfl) ?_
                refine z_bipush hx hb d_r_pipelineEnd_47 rfl ?_
                refine z_icmp_eq hx hb d_r_pipelineEnd_49 rfl g2 (fun g2 => ?_) (fun g2 => ?_)
                · exact JF2 (Option.some.inj g2).symm _ _ hW hS
                · refine lv_iload_n hx hb d_r_pipelineEnd_52 rfl (lv_at hl 2 rfl) ?_
                  refine z_if_eq hx hb d_r_pipelineEnd_53 rfl g2 (fun g2 => ?_) (fun g2 => ?_)
                  · exact JT2 (Option.some.inj g2).symm _ _ hW hS
                  · refine lv_iload hx hb d_r_pipelineEnd_56 (lv_at hl 0 rfl) ?_
                    refine z_iconst hx hb d_r_pipelineEnd_58 ?_
                    refine z_icmp_ne hx hb d_r_pipelineEnd_59 rfl g2 (fun g2 => ?_) (fun g2 => ?_)
                    · exact JT2 (Option.some.inj g2).symm _ _ hW hS
                    · exact JF2 (Option.some.inj g2).symm _ _ hW hS
  rw [r_pipelineEnd] at hf
  refine z_iconst hx hb d_r_pipelineEnd_0 ?_
  refine lv_istore_n (lv' := [(3, .int (zI 0)), (0, .ref (ad (10, 0))), (1, .int (zI v1)), (2, .int (zI v2))]) hx hb d_r_pipelineEnd_1 rfl hl (by decide) rfl (fun ls hl => ?_)
  refine lv_iload_n hx hb d_r_pipelineEnd_2 rfl (lv_at hl 2 rfl) ?_
  refine lv_istore (lv' := [(4, .int (zI v1)), (3, .int (zI 0)), (0, .ref (ad (10, 0))), (1, .int (zI v1)), (2, .int (zI v2))]) hx hb d_r_pipelineEnd_3 hl (by decide) rfl (fun ls hl => ?_)
  exact C_5 F _ _ _ _ _ _ hf (lv_sub hl [2, 4, 1, 0] rfl) hW hS
set_option maxRecDepth 100000 in
set_option maxHeartbeats 4000000 in
theorem k_r_startPipeline {l : Launch} {D : va_G} {B : Nat} {y : Nat → ClassId} {ad : Nat × Nat → Nat} {cu : ZC} (F : Nat) (u : ZR) {uo : ZR} (hf : r_startPipeline F u = some uo) : Met l y_r_startPipeline (.code y_r_startPipeline b_r_startPipeline 1 none :: zt) { frames := 1, cells := 0, slots := 0, locals := 25 } (va_Pc [.ref (ad (10, 0))] (fun U => ZP D B y ad true cu u U)) (va_Qv (fun (_ : Unit) => True) (fun _ t => ZP D B y ad true cu uo t) (fun x => B ≤ x)) 0 0 (fun x => B ≤ x) := by
  refine Met.ofW (cc := b_r_startPipeline) (maxL := 1) (ret := none) (by decide) rfl ?_
  intro p e s m args below meth c s₁ Bd hml hv
  obtain ⟨hargs, hB, hW, hK⟩ := hv
  have hx := Bd.exec
  have hb := Bd.bytes
  have hr := Bd.returns
  have hts0 := atoms_spec (ws := .code y_r_startPipeline b_r_startPipeline 1 none :: zt) Bd.pre
  have hown : s.vm.findClass "TreeShellModel" = some m.cls := findClass_of_methodNamed Bd.named
  have hlocks := Bd.notSynchronized
  have M : ZM p c b_r_startPipeline s args m "TreeShellModel" D y := ⟨hx, hb, fun w h => hts0 w (List.mem_cons_of_mem _ h), hown, hK⟩
  have hS : va_S (fun x => B ≤ x) s.heap s.heap [] := va_S.rf
  have hE := lg_entry_eq m ([.ref (ad (10, 0))] : List Value) 1
  rw [← hargs] at hE
  rw [hE]
  have hl := lv_entry ([.ref (ad (10, 0))] : List Value) (n := 1) (Nat.le_of_ble_eq_true rfl)
  generalize (lg_sl ([.ref (ad (10, 0))] : List Value) ++ List.replicate (1 - (lg_sl ([.ref (ad (10, 0))] : List Value)).length) Slot.unset).toArray = ls at hl ⊢
  have hl : lv_has ls 1 [(0, .ref (ad (10, 0)))] := hl
  refine z_start (fun Q R hQ hR => ?_)
  generalize hH : s.heap = H at hW
  have hS : va_S (fun x => B ≤ x) s.heap H [] := by rw [← hH]; exact hS
  rw [r_startPipeline] at hf
  refine lv_aload_n hx hb d_r_startPipeline_0 rfl (lv_at hl 0 rfl) ?_
  refine zg_Mo_turned M hW (M.2.2.1 _ w_761) d_r_startPipeline_1 ?_
  refine lv_aload_n hx hb d_r_startPipeline_4 rfl (lv_at hl 0 rfl) ?_
  refine zg_Mo_level M hW (M.2.2.1 _ w_753) d_r_startPipeline_5 ?_
  refine lv_aload_n hx hb d_r_startPipeline_8 rfl (lv_at hl 0 rfl) ?_
  refine lv_aload_n hx hb d_r_startPipeline_9 rfl (lv_at hl 0 rfl) ?_
  refine zg_Mo_pos M hW (M.2.2.1 _ w_754) d_r_startPipeline_10 ?_
  obtain ⟨p1, g1, hf⟩ := ze1 hf
  refine z_callVi (As := [.int (zI (rI u 22))]) (rest := [.int (zI (rI u 21)), .ref (ad (11, 29))]) (k_r_kindAt F _ _ g1) M hml (cw_r_kindAt M.2.2.1 (M.2.2.1 _ w_936) (by rw [hR]; exact Nat.le_of_ble_eq_true rfl) (by rw [hR]; exact Nat.le_of_ble_eq_true rfl)) (zv_Mo hK hW) hB hW hS rfl hl.1 rfl (Nat.le_of_ble_eq_true rfl) d_r_startPipeline_13 (by rw [hR]; exact ⟨Nat.zero_le _, Nat.zero_le _⟩) (fun H locs hW hS => ?_)
  refine z_bipush hx hb d_r_startPipeline_16 rfl ?_
  obtain ⟨x2, g2, hf⟩ := ze1 hf
  have J2 : ∀ (H : Heap) (locs : List Loc) (ls : Array Slot), lv_has ls 1 [(0, .ref (ad (10, 0)))] → ZW D B y ad true cu u H → va_S (fun x => B ≤ x) s.heap H locs → W p l e R s m args below meth c H locs 0 0 Q (F0 m 26 ls [.int (zI x2), .int (zI (rI u 21)), .ref (ad (11, 29))]) := by
    intro H locs ls hl hW hS
    obtain ⟨g3, hf⟩ := zg hf
    obtain ⟨g4, hf⟩ := zg hf
    refine zw_29 M hW hS g4 g3 d_r_startPipeline_26 (fun H locs hW hS => ?_)
    refine lv_aload_n hx hb d_r_startPipeline_27 rfl (lv_at hl 0 rfl) ?_
    refine lv_aload_n hx hb d_r_startPipeline_28 rfl (lv_at hl 0 rfl) ?_
    refine zg_Mo_turned M hW (M.2.2.1 _ w_761) d_r_startPipeline_29 ?_
    refine lv_aload_n hx hb d_r_startPipeline_32 rfl (lv_at hl 0 rfl) ?_
    refine zg_Mo_level M hW (M.2.2.1 _ w_753) d_r_startPipeline_33 ?_
    obtain ⟨g5, hf⟩ := zg hf
    refine zr_29 M hW g5 d_r_startPipeline_36 ?_
    obtain ⟨x3, g6, hf⟩ := ze1 hf
    have J6 : ∀ (H : Heap) (locs : List Loc) (ls : Array Slot), lv_has ls 1 [(0, .ref (ad (10, 0)))] → ZW D B y ad true cu (tA u 29 (rI u 21).toNat x2) H → va_S (fun x => B ≤ x) s.heap H locs → W p l e R s m args below meth c H locs 0 0 Q (F0 m 53 ls [.int (zI x3), .ref (ad (10, 0))]) := by
      intro H locs ls hl hW hS
      refine zp_Mo_pos M hW hS (M.2.2.1 _ w_754) d_r_startPipeline_53 (fun H locs hW hS => ?_)
      refine lv_aload_n hx hb d_r_startPipeline_56 rfl (lv_at hl 0 rfl) ?_
      refine zg_Mo_many M hW (M.2.2.1 _ w_760) d_r_startPipeline_57 ?_
      refine lv_aload_n hx hb d_r_startPipeline_60 rfl (lv_at hl 0 rfl) ?_
      refine zg_Mo_level M hW (M.2.2.1 _ w_753) d_r_startPipeline_61 ?_
      refine lv_aload_n hx hb d_r_startPipeline_64 rfl (lv_at hl 0 rfl) ?_
      refine lv_aload_n hx hb d_r_startPipeline_65 rfl (lv_at hl 0 rfl) ?_
      refine lv_aload_n hx hb d_r_startPipeline_66 rfl (lv_at hl 0 rfl) ?_
      refine zg_Mo_pos M hW (M.2.2.1 _ w_754) d_r_startPipeline_67 ?_
      refine z_iconst hx hb d_r_startPipeline_70 ?_
      obtain ⟨p4, g7, hf⟩ := ze1 hf
      refine z_callVi (As := [.int (zI (rI (tI (tA u 29 (rI u 21).toNat x2) 22 x3) 22)), .int (zI 1)]) (rest := [.ref (ad (10, 0)), .int (zI (rI (tI (tA u 29 (rI u 21).toNat x2) 22 x3) 21)), .ref (ad (11, 28))]) (k_r_pipelineEnd F _ _ _ g7) M hml (cw_r_pipelineEnd M.2.2.1 (M.2.2.1 _ w_940) (by rw [hR]; exact Nat.le_of_ble_eq_true rfl) (by rw [hR]; exact Nat.le_of_ble_eq_true rfl)) (zv_Mo hK hW) hB hW hS rfl hl.1 rfl (Nat.le_of_ble_eq_true rfl) d_r_startPipeline_71 (by rw [hR]; exact ⟨Nat.zero_le _, Nat.zero_le _⟩) (fun H locs hW hS => ?_)
      obtain ⟨p5, g8, hf⟩ := ze1 hf
      refine z_callVi (As := [.int (zI p4)]) (rest := [.int (zI (rI (tI (tA u 29 (rI u 21).toNat x2) 22 x3) 21)), .ref (ad (11, 28))]) (k_r_kindAt F _ _ g8) M hml (cw_r_kindAt M.2.2.1 (M.2.2.1 _ w_936) (by rw [hR]; exact Nat.le_of_ble_eq_true rfl) (by rw [hR]; exact Nat.le_of_ble_eq_true rfl)) (zv_Mo hK hW) hB hW hS rfl hl.1 rfl (Nat.le_of_ble_eq_true rfl) d_r_startPipeline_74 (by rw [hR]; exact ⟨Nat.zero_le _, Nat.zero_le _⟩) (fun H locs hW hS => ?_)
      refine z_iconst hx hb d_r_startPipeline_77 ?_
      obtain ⟨x6, g9, hf⟩ := ze1 hf
      have J9 : ∀ (H : Heap) (locs : List Loc) (ls : Array Slot), lv_has ls 1 [(0, .ref (ad (10, 0)))] → ZW D B y ad true cu (tI (tA u 29 (rI u 21).toNat x2) 22 x3) H → va_S (fun x => B ≤ x) s.heap H locs → W p l e R s m args below meth c H locs 0 0 Q (F0 m 86 ls [.int (zI x6), .int (zI (rI (tI (tA u 29 (rI u 21).toNat x2) 22 x3) 21)), .ref (ad (11, 28))]) := by
        intro H locs ls hl hW hS
        obtain ⟨g10, hf⟩ := zg hf
        obtain ⟨g11, hf⟩ := zg hf
        refine zw_28 M hW hS g11 g10 d_r_startPipeline_86 (fun H locs hW hS => ?_)
        obtain ⟨u7, g12, hf⟩ := ze1 hf
        have g12 := Option.some.inj g12
        rw [g12] at hW
        refine lv_aload_n hx hb d_r_startPipeline_87 rfl (lv_at hl 0 rfl) ?_
        refine zg_Mo_nextIn M hW (M.2.2.1 _ w_757) d_r_startPipeline_88 ?_
        refine lv_aload_n hx hb d_r_startPipeline_91 rfl (lv_at hl 0 rfl) ?_
        refine zg_Mo_level M hW (M.2.2.1 _ w_753) d_r_startPipeline_92 ?_
        refine lv_aload_n hx hb d_r_startPipeline_95 rfl (lv_at hl 0 rfl) ?_
        refine zg_Mo_listIn M hW (M.2.2.1 _ w_755) d_r_startPipeline_96 ?_
        refine lv_aload_n hx hb d_r_startPipeline_99 rfl (lv_at hl 0 rfl) ?_
        refine zg_Mo_level M hW (M.2.2.1 _ w_753) d_r_startPipeline_100 ?_
        obtain ⟨g13, hf⟩ := zg hf
        refine zr_23 M hW g13 d_r_startPipeline_103 ?_
        refine zw_25 M hW hS g13 d_r_startPipeline_104 (fun H locs hW hS => ?_)
        obtain ⟨u8, g14, hf⟩ := ze1 hf
        have g14 := Option.some.inj g14
        rw [g14] at hW
        cases hf
        subst hQ
        exact z_retv hx hb hr hlocks hB hK hW hS d_r_startPipeline_105
      refine z_icmp_ne hx hb d_r_startPipeline_78 rfl g9 (fun g9 => ?_) (fun g9 => ?_)
      · refine z_iconst hx hb d_r_startPipeline_85 ?_
        cases g9
        exact J9 _ _ _ (lv_sub hl [0] rfl) hW hS
      · refine z_iconst hx hb d_r_startPipeline_81 ?_
        refine lv_goto hx hb d_r_startPipeline_82 rfl ?_
        cases g9
        exact J9 _ _ _ (lv_sub hl [0] rfl) hW hS
    refine z_if_eq hx hb d_r_startPipeline_37 rfl g6 (fun g6 => ?_) (fun g6 => ?_)
    · refine lv_aload_n hx hb d_r_startPipeline_49 rfl (lv_at hl 0 rfl) ?_
      refine zg_Mo_pos M hW (M.2.2.1 _ w_754) d_r_startPipeline_50 ?_
      cases g6
      exact J6 _ _ _ (lv_sub hl [0] rfl) hW hS
    · refine lv_aload_n hx hb d_r_startPipeline_40 rfl (lv_at hl 0 rfl) ?_
      refine zg_Mo_pos M hW (M.2.2.1 _ w_754) d_r_startPipeline_41 ?_
      refine z_iconst hx hb d_r_startPipeline_44 ?_
      refine z_iadd hx hb d_r_startPipeline_45 ?_
      refine lv_goto hx hb d_r_startPipeline_46 rfl ?_
      cases g6
      exact J6 _ _ _ (lv_sub hl [0] rfl) hW hS
  refine z_icmp_ne hx hb d_r_startPipeline_18 rfl g2 (fun g2 => ?_) (fun g2 => ?_)
  · refine z_iconst hx hb d_r_startPipeline_25 ?_
    cases g2
    exact J2 _ _ _ (lv_sub hl [0] rfl) hW hS
  · refine z_iconst hx hb d_r_startPipeline_21 ?_
    refine lv_goto hx hb d_r_startPipeline_22 rfl ?_
    cases g2
    exact J2 _ _ _ (lv_sub hl [0] rfl) hW hS
