set_option maxRecDepth 100000 in
set_option maxHeartbeats 4000000 in
theorem k_cShell_within {l : Launch} {D : va_G} {B : Nat} {y : Nat → ClassId} {ad : Nat × Nat → Nat} {q : Bool} {r : ZR} (F : Nat) (u : ZC) (v0 : Int) (v1 : Int) (v2 : Int) {res : Int} (hf : cShell_within F u v0 v1 v2 = some res) : Met l y_cShell_within (.code y_cShell_within b_cShell_within 3 (some .int) :: zt) { frames := 1, cells := 0, slots := 0, locals := 25 } (va_Pc [.int (zI v0), .int (zI v1), .int (zI v2)] (fun U => ZP D B y ad q u r U)) (va_Qi (fun v (_ : Unit) => v = zI res) (fun _ t => ZP D B y ad q u r t) (fun x => B ≤ x)) 0 0 (fun x => B ≤ x) := by
  refine Met.ofW (cc := b_cShell_within) (maxL := 3) (ret := (some .int)) (by decide) rfl ?_
  intro p e s m args below meth c s₁ Bd hml hv
  obtain ⟨hargs, hB, hW, hK⟩ := hv
  have hx := Bd.exec
  have hb := Bd.bytes
  have hr := Bd.returns
  have hts0 := atoms_spec (ws := .code y_cShell_within b_cShell_within 3 (some .int) :: zt) Bd.pre
  have hown : s.vm.findClass "TreeShell" = some m.cls := findClass_of_methodNamed Bd.named
  have hlocks := Bd.notSynchronized
  have M : ZM p c b_cShell_within s args m "TreeShell" D y := ⟨hx, hb, fun w h => hts0 w (List.mem_cons_of_mem _ h), hown, hK⟩
  have hS : va_S (fun x => B ≤ x) s.heap s.heap [] := va_S.rf
  have hE := lg_entry_eq m ([.int (zI v0), .int (zI v1), .int (zI v2)] : List Value) 3
  rw [← hargs] at hE
  rw [hE]
  have hl := lv_entry ([.int (zI v0), .int (zI v1), .int (zI v2)] : List Value) (n := 3) (Nat.le_of_ble_eq_true rfl)
  generalize (lg_sl ([.int (zI v0), .int (zI v1), .int (zI v2)] : List Value) ++ List.replicate (3 - (lg_sl ([.int (zI v0), .int (zI v1), .int (zI v2)] : List Value)).length) Slot.unset).toArray = ls at hl ⊢
  have hl : lv_has ls 3 [(0, .int (zI v0)), (1, .int (zI v1)), (2, .int (zI v2))] := hl
  refine z_start (fun Q R hQ hR => ?_)
  generalize hH : s.heap = H at hW
  have hS : va_S (fun x => B ≤ x) s.heap H [] := by rw [← hH]; exact hS
  rw [cShell_within] at hf
  refine lv_iload_n hx hb d_cShell_within_0 rfl (lv_at hl 0 rfl) ?_
  refine lv_iload_n hx hb d_cShell_within_1 rfl (lv_at hl 1 rfl) ?_
  refine lv_iload_n hx hb d_cShell_within_2 rfl (lv_at hl 2 rfl) ?_
  refine z_mmin hx hb hown M.2.2.1 hml (by rw [hR]; exact Nat.le_of_ble_eq_true rfl) (by rw [hR]; exact Nat.le_of_ble_eq_true rfl) hl.1 (Nat.le_of_ble_eq_true rfl) (by rw [hR]; exact ⟨Nat.zero_le _, Nat.zero_le _⟩) (M.2.2.1 _ w_167) d_cShell_within_3 ?_
  refine z_mmax hx hb hown M.2.2.1 hml (by rw [hR]; exact Nat.le_of_ble_eq_true rfl) (by rw [hR]; exact Nat.le_of_ble_eq_true rfl) hl.1 (Nat.le_of_ble_eq_true rfl) (by rw [hR]; exact ⟨Nat.zero_le _, Nat.zero_le _⟩) (M.2.2.1 _ w_170) d_cShell_within_6 ?_
  cases hf
  subst hQ
  exact z_reti hx hb hr hlocks hB hK hW hS d_cShell_within_9
set_option maxRecDepth 100000 in
set_option maxHeartbeats 4000000 in
theorem k_cShell_type {l : Launch} {D : va_G} {B : Nat} {y : Nat → ClassId} {ad : Nat × Nat → Nat} {q : Bool} {r : ZR} (F : Nat) (u : ZC) (v1 : Int64) {res : Int} {uo : ZC} (hf : cShell_type F u v1 = some (res, uo)) : Met l y_cShell_type (.code y_cShell_type b_cShell_type 6 (some .boolean) :: zt) { frames := 2, cells := 0, slots := 0, locals := 45 } (va_Pc [.ref (ad (0, 0)), .long v1] (fun U => ZP D B y ad q u r U)) (va_Qi (fun v (_ : Unit) => v = zI res) (fun _ t => ZP D B y ad q uo r t) (fun x => B ≤ x)) 0 0 (fun x => B ≤ x) := by
  refine Met.ofW (cc := b_cShell_type) (maxL := 6) (ret := (some .boolean)) (by decide) rfl ?_
  intro p e s m args below meth c s₁ Bd hml hv
  obtain ⟨hargs, hB, hW, hK⟩ := hv
  have hx := Bd.exec
  have hb := Bd.bytes
  have hr := Bd.returns
  have hts0 := atoms_spec (ws := .code y_cShell_type b_cShell_type 6 (some .boolean) :: zt) Bd.pre
  have hown : s.vm.findClass "TreeShell" = some m.cls := findClass_of_methodNamed Bd.named
  have hlocks := Bd.notSynchronized
  have M : ZM p c b_cShell_type s args m "TreeShell" D y := ⟨hx, hb, fun w h => hts0 w (List.mem_cons_of_mem _ h), hown, hK⟩
  have hS : va_S (fun x => B ≤ x) s.heap s.heap [] := va_S.rf
  have hE := lg_entry_eq m ([.ref (ad (0, 0)), .long v1] : List Value) 6
  rw [← hargs] at hE
  rw [hE]
  have hl := lv_entry ([.ref (ad (0, 0)), .long v1] : List Value) (n := 6) (Nat.le_of_ble_eq_true rfl)
  generalize (lg_sl ([.ref (ad (0, 0)), .long v1] : List Value) ++ List.replicate (6 - (lg_sl ([.ref (ad (0, 0)), .long v1] : List Value)).length) Slot.unset).toArray = ls at hl ⊢
  have hl : lv_has ls 6 [(0, .ref (ad (0, 0))), (1, .long v1)] := hl
  refine z_start (fun Q R hQ hR => ?_)
  generalize hH : s.heap = H at hW
  have hS : va_S (fun x => B ≤ x) s.heap H [] := by rw [← hH]; exact hS
  have C_6 : ∀ (n : Nat), ∀ (u : ZC) (v1 : Int64) (v3 : Int) (v4 : Int) (H : Heap) (locs : List Loc) (ls : Array Slot), cShell_type_6 F n u v1 v3 v4 = some (res, uo) → lv_has ls 6 [(0, .ref (ad (0, 0))), (1, .long v1), (3, .int (zI v3)), (4, .int (zI v4))] → ZW D B y ad q u r H → va_S (fun x => B ≤ x) s.heap H locs → W p l e R s m args below meth c H locs 0 0 Q (F0 m 6 ls []) := by
    intro n
    induction n with
    | zero => intro u v1 v3 v4 H locs ls hf; cases (show (none : Option (Int × ZC)) = some (res, uo) from hf)
    | succ n ih =>
      intro u v1 v3 v4 H locs ls hf hl hW hS
      rw [cShell_type_6] at hf
      refine lv_iload hx hb d_cShell_type_6 (lv_at hl 3 rfl) ?_
      refine z_if_lt hx hb d_cShell_type_8 rfl hf (fun hf => ?_) (fun hf => ?_)
      · refine lv_aload_n hx hb d_cShell_type_62 rfl (lv_at hl 0 rfl) ?_
        refine zg_Sh_line M hW (M.2.2.1 _ w_350) d_cShell_type_63 ?_
        refine zg_Tx_size M hW (zid_T (Or.inl (by decide))) (M.2.2.1 _ w_107) d_cShell_type_66 ?_
        refine lv_iload_n hx hb d_cShell_type_69 rfl (lv_at hl 2 rfl) ?_
        refine z_iadd hx hb d_cShell_type_70 ?_
        refine z_bipush hx hb d_cShell_type_71 rfl ?_
        refine z_icmp_le hx hb d_cShell_type_73 rfl hf (fun hf => ?_) (fun hf => ?_)
        · refine lv_aload_n hx hb d_cShell_type_78 rfl (lv_at hl 0 rfl) ?_
          refine zg_Sh_line M hW (M.2.2.1 _ w_350) d_cShell_type_79 ?_
          refine lv_lload_n hx hb d_cShell_type_82 rfl (lv_at hl 1 rfl) ?_
          obtain ⟨u1, g1, hf⟩ := ze1 hf
          refine z_callVv (As := [.long v1]) (rest := []) (k_cText_addPacked F _ _ _ g1) M hml (cw_cText_addPacked M.2.2.1 (M.2.2.1 _ w_370) (by rw [hR]; exact Nat.le_of_ble_eq_true rfl) (by rw [hR]; exact Nat.le_of_ble_eq_true rfl)) (zv_Tx hK hW (zid_T (Or.inl (by decide)))) hB hW hS rfl hl.1 rfl (Nat.le_of_ble_eq_true rfl) d_cShell_type_83 (by rw [hR]; exact ⟨Nat.zero_le _, Nat.zero_le _⟩) (fun H locs hW hS => ?_)
          refine z_iconst hx hb d_cShell_type_86 ?_
          cases hf
          subst hQ
          exact z_retz hx hb (Or.inr rfl) hr hlocks hB hK hW hS d_cShell_type_87
        · refine z_iconst hx hb d_cShell_type_76 ?_
          cases hf
          subst hQ
          exact z_retz hx hb (Or.inl rfl) hr hlocks hB hK hW hS d_cShell_type_77
      · refine lv_lload_n hx hb d_cShell_type_11 rfl (lv_at hl 1 rfl) ?_
        refine lv_iload hx hb d_cShell_type_12 (lv_at hl 3 rfl) ?_
        refine z_lushr hx hb d_cShell_type_14 ?_
        refine z_l2i hx hb d_cShell_type_15 ?_
        refine z_sipush hx hb d_cShell_type_16 rfl ?_
        refine z_iand hx hb d_cShell_type_19 ?_
        refine lv_istore (lv' := [(5, .int (zI (zand (zl2i (zlushr v1 v4)) 255))), (0, .ref (ad (0, 0))), (1, .long v1), (3, .int (zI v3)), (4, .int (zI v4))]) hx hb d_cShell_type_20 hl (by decide) rfl (fun ls hl => ?_)
        refine lv_iload hx hb d_cShell_type_22 (lv_at hl 0 rfl) ?_
        obtain ⟨b2, g2, hf⟩ := ze1 hf
        have JT2 : b2 = true → ∀ (H : Heap) (locs : List Loc), ZW D B y ad q u r H → va_S (fun x => B ≤ x) s.heap H locs → W p l e R s m args below meth c H locs 0 0 Q (F0 m 43 ls []) := by
          intro hv H locs hW hS
          have hf := zp (hv) hf
          refine lv_iload_n hx hb d_cShell_type_43 rfl (lv_at hl 3 rfl) ?_
          refine lv_iload hx hb d_cShell_type_44 (lv_at hl 0 rfl) ?_
          obtain ⟨x3, g3, hf⟩ := ze1 hf
          have J3 : ∀ (H : Heap) (locs : List Loc) (ls : Array Slot), lv_has ls 6 [(0, .ref (ad (0, 0))), (1, .long v1), (4, .int (zI v4))] → ZW D B y ad q u r H → va_S (fun x => B ≤ x) s.heap H locs → W p l e R s m args below meth c H locs 0 0 Q (F0 m 54 ls [.int (zI x3), .int (zI v3)]) := by
            intro H locs ls hl hW hS
            refine z_iadd hx hb d_cShell_type_54 ?_
            refine lv_istore_n (lv' := [(3, .int (zI (v3 + x3))), (0, .ref (ad (0, 0))), (1, .long v1), (4, .int (zI v4))]) hx hb d_cShell_type_55 rfl hl (by decide) rfl (fun ls hl => ?_)
            refine lv_iinc (k := 3) (v := zI (v4 + (-8))) (lv' := [(4, .int (zI (v4 + (-8)))), (3, .int (zI (v3 + x3))), (0, .ref (ad (0, 0))), (1, .long v1)]) hx hb d_cShell_type_56 hl rfl (zI_add _ _) (by decide) rfl (fun ls hl => ?_)
            refine lv_goto hx hb d_cShell_type_59 rfl ?_
            exact ih _ _ _ _ _ _ _ hf (lv_sub hl [2, 3, 1, 0] rfl) hW hS
          refine z_if_ne hx hb d_cShell_type_46 rfl g3 (fun g3 => ?_) (fun g3 => ?_)
          · refine z_iconst hx hb d_cShell_type_53 ?_
            cases g3
            exact J3 _ _ _ (lv_sub hl [1, 2, 4] rfl) hW hS
          · refine z_iconst hx hb d_cShell_type_49 ?_
            refine lv_goto hx hb d_cShell_type_50 rfl ?_
            cases g3
            exact J3 _ _ _ (lv_sub hl [1, 2, 4] rfl) hW hS
        have JF2 : b2 = false → ∀ (H : Heap) (locs : List Loc), ZW D B y ad q u r H → va_S (fun x => B ≤ x) s.heap H locs → W p l e R s m args below meth c H locs 0 0 Q (F0 m 41 ls []) := by
          intro hv H locs hW hS
          have hf := zn (by rw [hv]; decide) hf
          refine z_iconst hx hb d_cShell_type_41 ?_
          cases hf
          subst hQ
          exact z_retz hx hb (Or.inl rfl) hr hlocks hB hK hW hS d_cShell_type_42
        refine z_if_eq hx hb d_cShell_type_24 rfl g2 (fun g2 => ?_) (fun g2 => ?_)
        · exact JT2 (Option.some.inj g2).symm _ _ hW hS
        · refine lv_iload hx hb d_cShell_type_27 (lv_at hl 0 rfl) ?_
          refine z_bipush hx hb d_cShell_type_29 rfl ?_
          refine z_icmp_lt hx hb d_cShell_type_31 rfl g2 (fun g2 => ?_) (fun g2 => ?_)
          · exact JF2 (Option.some.inj g2).symm _ _ hW hS
          · refine lv_iload hx hb d_cShell_type_34 (lv_at hl 0 rfl) ?_
            refine z_bipush hx hb d_cShell_type_36 rfl ?_
            refine z_icmp_le hx hb d_cShell_type_38 rfl g2 (fun g2 => ?_) (fun g2 => ?_)
            · exact JT2 (Option.some.inj g2).symm _ _ hW hS
            · exact JF2 (Option.some.inj g2).symm _ _ hW hS
  rw [cShell_type] at hf
  refine z_iconst hx hb d_cShell_type_0 ?_
  refine lv_istore_n (lv' := [(3, .int (zI 0)), (0, .ref (ad (0, 0))), (1, .long v1)]) hx hb d_cShell_type_1 rfl hl (by decide) rfl (fun ls hl => ?_)
  refine z_bipush hx hb d_cShell_type_2 rfl ?_
  refine lv_istore (lv' := [(4, .int (zI 56)), (3, .int (zI 0)), (0, .ref (ad (0, 0))), (1, .long v1)]) hx hb d_cShell_type_4 hl (by decide) rfl (fun ls hl => ?_)
  exact C_6 F _ _ _ _ _ _ _ hf (lv_sub hl [2, 3, 1, 0] rfl) hW hS
set_option maxRecDepth 100000 in
set_option maxHeartbeats 4000000 in
theorem k_cShell_wipe {l : Launch} {D : va_G} {B : Nat} {y : Nat → ClassId} {ad : Nat × Nat → Nat} {q : Bool} {r : ZR} (F : Nat) (u : ZC) {uo : ZC} (hf : cShell_wipe F u = some uo) : Met l y_cShell_wipe (.code y_cShell_wipe b_cShell_wipe 1 none :: zt) { frames := 1, cells := 0, slots := 0, locals := 20 } (va_Pc [.ref (ad (0, 0))] (fun U => ZP D B y ad q u r U)) (va_Qv (fun (_ : Unit) => True) (fun _ t => ZP D B y ad q uo r t) (fun x => B ≤ x)) 0 0 (fun x => B ≤ x) := by
  refine Met.ofW (cc := b_cShell_wipe) (maxL := 1) (ret := none) (by decide) rfl ?_
  intro p e s m args below meth c s₁ Bd hml hv
  obtain ⟨hargs, hB, hW, hK⟩ := hv
  have hx := Bd.exec
  have hb := Bd.bytes
  have hr := Bd.returns
  have hts0 := atoms_spec (ws := .code y_cShell_wipe b_cShell_wipe 1 none :: zt) Bd.pre
  have hown : s.vm.findClass "TreeShell" = some m.cls := findClass_of_methodNamed Bd.named
  have hlocks := Bd.notSynchronized
  have M : ZM p c b_cShell_wipe s args m "TreeShell" D y := ⟨hx, hb, fun w h => hts0 w (List.mem_cons_of_mem _ h), hown, hK⟩
  have hS : va_S (fun x => B ≤ x) s.heap s.heap [] := va_S.rf
  have hE := lg_entry_eq m ([.ref (ad (0, 0))] : List Value) 1
  rw [← hargs] at hE
  rw [hE]
  have hl := lv_entry ([.ref (ad (0, 0))] : List Value) (n := 1) (Nat.le_of_ble_eq_true rfl)
  generalize (lg_sl ([.ref (ad (0, 0))] : List Value) ++ List.replicate (1 - (lg_sl ([.ref (ad (0, 0))] : List Value)).length) Slot.unset).toArray = ls at hl ⊢
  have hl : lv_has ls 1 [(0, .ref (ad (0, 0)))] := hl
  refine z_start (fun Q R hQ hR => ?_)
  generalize hH : s.heap = H at hW
  have hS : va_S (fun x => B ≤ x) s.heap H [] := by rw [← hH]; exact hS
  rw [cShell_wipe] at hf
  refine lv_aload_n hx hb d_cShell_wipe_0 rfl (lv_at hl 0 rfl) ?_
  refine zg_Sh_line M hW (M.2.2.1 _ w_350) d_cShell_wipe_1 ?_
  obtain ⟨u1, g1, hf⟩ := ze1 hf
  refine z_callVv (As := []) (rest := []) (k_cText_clear F _ _ g1) M hml (cw_cText_clear M.2.2.1 (M.2.2.1 _ w_383) (by rw [hR]; exact Nat.le_of_ble_eq_true rfl) (by rw [hR]; exact Nat.le_of_ble_eq_true rfl)) (zv_Tx hK hW (zid_T (Or.inl (by decide)))) hB hW hS rfl hl.1 rfl (Nat.le_of_ble_eq_true rfl) d_cShell_wipe_4 (by rw [hR]; exact ⟨Nat.zero_le _, Nat.zero_le _⟩) (fun H locs hW hS => ?_)
  cases hf
  subst hQ
  exact z_retv hx hb hr hlocks hB hK hW hS d_cShell_wipe_7
set_option maxRecDepth 100000 in
set_option maxHeartbeats 4000000 in
theorem k_cShell_typed {l : Launch} {D : va_G} {B : Nat} {y : Nat → ClassId} {ad : Nat × Nat → Nat} {q : Bool} {r : ZR} (F : Nat) (u : ZC) {res : Int} (hf : cShell_typed F u = some res) : Met l y_cShell_typed (.code y_cShell_typed b_cShell_typed 1 (some .int) :: zt) { frames := 0, cells := 0, slots := 0, locals := 0 } (va_Pc [.ref (ad (0, 0))] (fun U => ZP D B y ad q u r U)) (va_Qi (fun v (_ : Unit) => v = zI res) (fun _ t => ZP D B y ad q u r t) (fun x => B ≤ x)) 0 0 (fun x => B ≤ x) := by
  refine Met.ofW (cc := b_cShell_typed) (maxL := 1) (ret := (some .int)) (by decide) rfl ?_
  intro p e s m args below meth c s₁ Bd hml hv
  obtain ⟨hargs, hB, hW, hK⟩ := hv
  have hx := Bd.exec
  have hb := Bd.bytes
  have hr := Bd.returns
  have hts0 := atoms_spec (ws := .code y_cShell_typed b_cShell_typed 1 (some .int) :: zt) Bd.pre
  have hown : s.vm.findClass "TreeShell" = some m.cls := findClass_of_methodNamed Bd.named
  have hlocks := Bd.notSynchronized
  have M : ZM p c b_cShell_typed s args m "TreeShell" D y := ⟨hx, hb, fun w h => hts0 w (List.mem_cons_of_mem _ h), hown, hK⟩
  have hS : va_S (fun x => B ≤ x) s.heap s.heap [] := va_S.rf
  have hE := lg_entry_eq m ([.ref (ad (0, 0))] : List Value) 1
  rw [← hargs] at hE
  rw [hE]
  have hl := lv_entry ([.ref (ad (0, 0))] : List Value) (n := 1) (Nat.le_of_ble_eq_true rfl)
  generalize (lg_sl ([.ref (ad (0, 0))] : List Value) ++ List.replicate (1 - (lg_sl ([.ref (ad (0, 0))] : List Value)).length) Slot.unset).toArray = ls at hl ⊢
  have hl : lv_has ls 1 [(0, .ref (ad (0, 0)))] := hl
  refine z_start (fun Q R hQ hR => ?_)
  generalize hH : s.heap = H at hW
  have hS : va_S (fun x => B ≤ x) s.heap H [] := by rw [← hH]; exact hS
  rw [cShell_typed] at hf
  refine lv_aload_n hx hb d_cShell_typed_0 rfl (lv_at hl 0 rfl) ?_
  refine zg_Sh_line M hW (M.2.2.1 _ w_350) d_cShell_typed_1 ?_
  refine zg_Tx_size M hW (zid_T (Or.inl (by decide))) (M.2.2.1 _ w_107) d_cShell_typed_4 ?_
  cases hf
  subst hQ
  exact z_reti hx hb hr hlocks hB hK hW hS d_cShell_typed_7
set_option maxRecDepth 100000 in
set_option maxHeartbeats 4000000 in
theorem k_cShell_check {l : Launch} {D : va_G} {B : Nat} {y : Nat → ClassId} {ad : Nat × Nat → Nat} {q : Bool} {r : ZR} (F : Nat) (u : ZC) {res : Int} {uo : ZC} (hf : cShell_check F u = some (res, uo)) : Met l y_cShell_check (.code y_cShell_check b_cShell_check 1 (some .int) :: zt) { frames := 32, cells := 0, slots := 0, locals := 685 } (va_Pc [.ref (ad (0, 0))] (fun U => ZP D B y ad q u r U)) (va_Qi (fun v (_ : Unit) => v = zI res) (fun _ t => ZP D B y ad q uo r t) (fun x => B ≤ x)) 0 0 (fun x => B ≤ x) := by
  refine Met.ofW (cc := b_cShell_check) (maxL := 1) (ret := (some .int)) (by decide) rfl ?_
  intro p e s m args below meth c s₁ Bd hml hv
  obtain ⟨hargs, hB, hW, hK⟩ := hv
  have hx := Bd.exec
  have hb := Bd.bytes
  have hr := Bd.returns
  have hts0 := atoms_spec (ws := .code y_cShell_check b_cShell_check 1 (some .int) :: zt) Bd.pre
  have hown : s.vm.findClass "TreeShell" = some m.cls := findClass_of_methodNamed Bd.named
  have hlocks := Bd.notSynchronized
  have M : ZM p c b_cShell_check s args m "TreeShell" D y := ⟨hx, hb, fun w h => hts0 w (List.mem_cons_of_mem _ h), hown, hK⟩
  have hS : va_S (fun x => B ≤ x) s.heap s.heap [] := va_S.rf
  have hE := lg_entry_eq m ([.ref (ad (0, 0))] : List Value) 1
  rw [← hargs] at hE
  rw [hE]
  have hl := lv_entry ([.ref (ad (0, 0))] : List Value) (n := 1) (Nat.le_of_ble_eq_true rfl)
  generalize (lg_sl ([.ref (ad (0, 0))] : List Value) ++ List.replicate (1 - (lg_sl ([.ref (ad (0, 0))] : List Value)).length) Slot.unset).toArray = ls at hl ⊢
  have hl : lv_has ls 1 [(0, .ref (ad (0, 0)))] := hl
  refine z_start (fun Q R hQ hR => ?_)
  generalize hH : s.heap = H at hW
  have hS : va_S (fun x => B ≤ x) s.heap H [] := by rw [← hH]; exact hS
  rw [cShell_check] at hf
  refine lv_aload_n hx hb d_cShell_check_0 rfl (lv_at hl 0 rfl) ?_
  refine zg_Sh_grammar M hW (M.2.2.1 _ w_352) d_cShell_check_1 ?_
  obtain ⟨p1, u2, g1, hf⟩ := ze2 hf
  refine z_callVi (As := []) (rest := []) (k_cGrammar_accepts F _ g1) M hml (cw_cGrammar_accepts M.2.2.1 (M.2.2.1 _ w_395) (by rw [hR]; exact Nat.le_of_ble_eq_true rfl) (by rw [hR]; exact Nat.le_of_ble_eq_true rfl)) (zv_Gr hK hW) hB hW hS rfl hl.1 rfl (Nat.le_of_ble_eq_true rfl) d_cShell_check_4 (by rw [hR]; exact ⟨Nat.zero_le _, Nat.zero_le _⟩) (fun H locs hW hS => ?_)
  obtain ⟨x4, g2, hf⟩ := ze1 hf
  have J2 : ∀ (H : Heap) (locs : List Loc) (ls : Array Slot), lv_has ls 1 [] → ZW D B y ad q u2 r H → va_S (fun x => B ≤ x) s.heap H locs → W p l e R s m args below meth c H locs 0 0 Q (F0 m 21 ls [.int (zI x4)]) := by
    intro H locs ls hl hW hS
    cases hf
    subst hQ
    exact z_reti hx hb hr hlocks hB hK hW hS d_cShell_check_21
  refine z_if_eq hx hb d_cShell_check_7 rfl g2 (fun g2 => ?_) (fun g2 => ?_)
  · refine z_iconst hx hb d_cShell_check_20 ?_
    cases g2
    exact J2 _ _ _ (lv_sub hl [] rfl) hW hS
  · refine lv_aload_n hx hb d_cShell_check_10 rfl (lv_at hl 0 rfl) ?_
    refine zg_Sh_tokens M hW (M.2.2.1 _ w_351) d_cShell_check_11 ?_
    obtain ⟨p3, g3, g2⟩ := ze1 g2
    refine z_callVi (As := []) (rest := []) (k_cTokens_countWords F _ g3) M hml (cw_cTokens_countWords M.2.2.1 (M.2.2.1 _ w_447) (by rw [hR]; exact Nat.le_of_ble_eq_true rfl) (by rw [hR]; exact Nat.le_of_ble_eq_true rfl)) (zv_Tk hK hW) hB hW hS rfl hl.1 rfl (Nat.le_of_ble_eq_true rfl) d_cShell_check_14 (by rw [hR]; exact ⟨Nat.zero_le _, Nat.zero_le _⟩) (fun H locs hW hS => ?_)
    refine lv_goto hx hb d_cShell_check_17 rfl ?_
    cases g2
    exact J2 _ _ _ (lv_sub hl [] rfl) hW hS
set_option maxRecDepth 100000 in
set_option maxHeartbeats 4000000 in
theorem k_cShell_status {l : Launch} {D : va_G} {B : Nat} {y : Nat → ClassId} {ad : Nat × Nat → Nat} {q : Bool} {r : ZR} (F : Nat) (u : ZC) {res : Int} (hf : cShell_status F u = some res) : Met l y_cShell_status (.code y_cShell_status b_cShell_status 1 (some .int) :: zt) { frames := 0, cells := 0, slots := 0, locals := 0 } (va_Pc [.ref (ad (0, 0))] (fun U => ZP D B y ad q u r U)) (va_Qi (fun v (_ : Unit) => v = zI res) (fun _ t => ZP D B y ad q u r t) (fun x => B ≤ x)) 0 0 (fun x => B ≤ x) := by
  refine Met.ofW (cc := b_cShell_status) (maxL := 1) (ret := (some .int)) (by decide) rfl ?_
  intro p e s m args below meth c s₁ Bd hml hv
  obtain ⟨hargs, hB, hW, hK⟩ := hv
  have hx := Bd.exec
  have hb := Bd.bytes
  have hr := Bd.returns
  have hts0 := atoms_spec (ws := .code y_cShell_status b_cShell_status 1 (some .int) :: zt) Bd.pre
  have hown : s.vm.findClass "TreeShell" = some m.cls := findClass_of_methodNamed Bd.named
  have hlocks := Bd.notSynchronized
  have M : ZM p c b_cShell_status s args m "TreeShell" D y := ⟨hx, hb, fun w h => hts0 w (List.mem_cons_of_mem _ h), hown, hK⟩
  have hS : va_S (fun x => B ≤ x) s.heap s.heap [] := va_S.rf
  have hE := lg_entry_eq m ([.ref (ad (0, 0))] : List Value) 1
  rw [← hargs] at hE
  rw [hE]
  have hl := lv_entry ([.ref (ad (0, 0))] : List Value) (n := 1) (Nat.le_of_ble_eq_true rfl)
  generalize (lg_sl ([.ref (ad (0, 0))] : List Value) ++ List.replicate (1 - (lg_sl ([.ref (ad (0, 0))] : List Value)).length) Slot.unset).toArray = ls at hl ⊢
  have hl : lv_has ls 1 [(0, .ref (ad (0, 0)))] := hl
  refine z_start (fun Q R hQ hR => ?_)
  generalize hH : s.heap = H at hW
  have hS : va_S (fun x => B ≤ x) s.heap H [] := by rw [← hH]; exact hS
  rw [cShell_status] at hf
  refine lv_aload_n hx hb d_cShell_status_0 rfl (lv_at hl 0 rfl) ?_
  refine zg_Sh_runner M hW (M.2.2.1 _ w_354) d_cShell_status_1 ?_
  refine zg_Ru_status M hW (M.2.2.1 _ w_330) d_cShell_status_4 ?_
  cases hf
  subst hQ
  exact z_reti hx hb hr hlocks hB hK hW hS d_cShell_status_7
set_option maxRecDepth 100000 in
set_option maxHeartbeats 4000000 in
theorem k_cShell_length {l : Launch} {D : va_G} {B : Nat} {y : Nat → ClassId} {ad : Nat × Nat → Nat} {q : Bool} {r : ZR} (F : Nat) (u : ZC) {res : Int} (hf : cShell_length F u = some res) : Met l y_cShell_length (.code y_cShell_length b_cShell_length 1 (some .int) :: zt) { frames := 1, cells := 0, slots := 0, locals := 20 } (va_Pc [.ref (ad (0, 0))] (fun U => ZP D B y ad q u r U)) (va_Qi (fun v (_ : Unit) => v = zI res) (fun _ t => ZP D B y ad q u r t) (fun x => B ≤ x)) 0 0 (fun x => B ≤ x) := by
  refine Met.ofW (cc := b_cShell_length) (maxL := 1) (ret := (some .int)) (by decide) rfl ?_
  intro p e s m args below meth c s₁ Bd hml hv
  obtain ⟨hargs, hB, hW, hK⟩ := hv
  have hx := Bd.exec
  have hb := Bd.bytes
  have hr := Bd.returns
  have hts0 := atoms_spec (ws := .code y_cShell_length b_cShell_length 1 (some .int) :: zt) Bd.pre
  have hown : s.vm.findClass "TreeShell" = some m.cls := findClass_of_methodNamed Bd.named
  have hlocks := Bd.notSynchronized
  have M : ZM p c b_cShell_length s args m "TreeShell" D y := ⟨hx, hb, fun w h => hts0 w (List.mem_cons_of_mem _ h), hown, hK⟩
  have hS : va_S (fun x => B ≤ x) s.heap s.heap [] := va_S.rf
  have hE := lg_entry_eq m ([.ref (ad (0, 0))] : List Value) 1
  rw [← hargs] at hE
  rw [hE]
  have hl := lv_entry ([.ref (ad (0, 0))] : List Value) (n := 1) (Nat.le_of_ble_eq_true rfl)
  generalize (lg_sl ([.ref (ad (0, 0))] : List Value) ++ List.replicate (1 - (lg_sl ([.ref (ad (0, 0))] : List Value)).length) Slot.unset).toArray = ls at hl ⊢
  have hl : lv_has ls 1 [(0, .ref (ad (0, 0)))] := hl
  refine z_start (fun Q R hQ hR => ?_)
  generalize hH : s.heap = H at hW
  have hS : va_S (fun x => B ≤ x) s.heap H [] := by rw [← hH]; exact hS
  rw [cShell_length] at hf
  refine lv_aload_n hx hb d_cShell_length_0 rfl (lv_at hl 0 rfl) ?_
  refine zg_Sh_runner M hW (M.2.2.1 _ w_354) d_cShell_length_1 ?_
  obtain ⟨p1, g1, hf⟩ := ze1 hf
  refine z_callVq (As := []) (rest := []) (k_cRunner_output F _ g1) M hml (cw_cRunner_output M.2.2.1 (M.2.2.1 _ w_699) (by rw [hR]; exact Nat.le_of_ble_eq_true rfl) (by rw [hR]; exact Nat.le_of_ble_eq_true rfl)) (zv_Ru hK hW) hB hW hS rfl hl.1 rfl (Nat.le_of_ble_eq_true rfl) d_cShell_length_4 (by rw [hR]; exact ⟨Nat.zero_le _, Nat.zero_le _⟩) (fun H locs hW hS => ?_)
  obtain ⟨n2, hn, hyg2⟩ := zes hf
  subst hn
  have hf := hyg2
  have hl : lv_has ls 1 [(0, .ref (ad (0, 0)))] := hl
  obtain ⟨g3, hf⟩ := zg hf
  refine zg_Tx_size M hW (zid_T g3) (M.2.2.1 _ w_107) d_cShell_length_7 ?_
  cases hf
  subst hQ
  exact z_reti hx hb hr hlocks hB hK hW hS d_cShell_length_10
set_option maxRecDepth 100000 in
set_option maxHeartbeats 4000000 in
theorem k_cShell_out {l : Launch} {D : va_G} {B : Nat} {y : Nat → ClassId} {ad : Nat × Nat → Nat} {q : Bool} {r : ZR} (F : Nat) (u : ZC) (v1 : Int) {res : Int64} (hf : cShell_out F u v1 = some res) : Met l y_cShell_out (.code y_cShell_out b_cShell_out 6 (some .long) :: zt) { frames := 1, cells := 0, slots := 0, locals := 20 } (va_Pc [.ref (ad (0, 0)), .int (zI v1)] (fun U => ZP D B y ad q u r U)) (va_Ql (fun v (_ : Unit) => v = res) (fun _ t => ZP D B y ad q u r t) (fun x => B ≤ x)) 0 0 (fun x => B ≤ x) := by
  refine Met.ofW (cc := b_cShell_out) (maxL := 6) (ret := (some .long)) (by decide) rfl ?_
  intro p e s m args below meth c s₁ Bd hml hv
  obtain ⟨hargs, hB, hW, hK⟩ := hv
  have hx := Bd.exec
  have hb := Bd.bytes
  have hr := Bd.returns
  have hts0 := atoms_spec (ws := .code y_cShell_out b_cShell_out 6 (some .long) :: zt) Bd.pre
  have hown : s.vm.findClass "TreeShell" = some m.cls := findClass_of_methodNamed Bd.named
  have hlocks := Bd.notSynchronized
  have M : ZM p c b_cShell_out s args m "TreeShell" D y := ⟨hx, hb, fun w h => hts0 w (List.mem_cons_of_mem _ h), hown, hK⟩
  have hS : va_S (fun x => B ≤ x) s.heap s.heap [] := va_S.rf
  have hE := lg_entry_eq m ([.ref (ad (0, 0)), .int (zI v1)] : List Value) 6
  rw [← hargs] at hE
  rw [hE]
  have hl := lv_entry ([.ref (ad (0, 0)), .int (zI v1)] : List Value) (n := 6) (Nat.le_of_ble_eq_true rfl)
  generalize (lg_sl ([.ref (ad (0, 0)), .int (zI v1)] : List Value) ++ List.replicate (6 - (lg_sl ([.ref (ad (0, 0)), .int (zI v1)] : List Value)).length) Slot.unset).toArray = ls at hl ⊢
  have hl : lv_has ls 6 [(0, .ref (ad (0, 0))), (1, .int (zI v1))] := hl
  refine z_start (fun Q R hQ hR => ?_)
  generalize hH : s.heap = H at hW
  have hS : va_S (fun x => B ≤ x) s.heap H [] := by rw [← hH]; exact hS
  have C_33 : ∀ (n : Nat), ∀ (v1 : Int) (v2 : Option Nat) (v3 : Int64) (v5 : Int) (H : Heap) (locs : List Loc) (ls : Array Slot), cShell_out_33 F n u v1 v2 v3 v5 = some res → lv_has ls 6 [(1, .int (zI v1)), (2, zrf ad 1 v2), (3, .long v3), (5, .int (zI v5))] → ZW D B y ad q u r H → va_S (fun x => B ≤ x) s.heap H locs → W p l e R s m args below meth c H locs 0 0 Q (F0 m 33 ls []) := by
    intro n
    induction n with
    | zero => intro v1 v2 v3 v5 H locs ls hf; cases (show (none : Option (Int64)) = some res from hf)
    | succ n ih =>
      intro v1 v2 v3 v5 H locs ls hf hl hW hS
      rw [cShell_out_33] at hf
      refine lv_iload hx hb d_cShell_out_33 (lv_at hl 3 rfl) ?_
      refine z_bipush hx hb d_cShell_out_35 rfl ?_
      refine lv_iload_n hx hb d_cShell_out_37 rfl (lv_at hl 0 rfl) ?_
      refine z_imul hx hb d_cShell_out_38 ?_
      refine z_bipush hx hb d_cShell_out_39 rfl ?_
      refine z_iadd hx hb d_cShell_out_41 ?_
      refine z_icmp_ge hx hb d_cShell_out_42 rfl hf (fun hf => ?_) (fun hf => ?_)
      · refine lv_lload_n hx hb d_cShell_out_78 rfl (lv_at hl 2 rfl) ?_
        cases hf
        subst hQ
        exact z_retl hx hb hr hlocks hB hK hW hS d_cShell_out_79
      · refine lv_lload_n hx hb d_cShell_out_45 rfl (lv_at hl 2 rfl) ?_
        refine z_bipush hx hb d_cShell_out_46 rfl ?_
        refine z_lshl hx hb d_cShell_out_48 ?_
        refine lv_iload hx hb d_cShell_out_49 (lv_at hl 3 rfl) ?_
        refine z_aload_n hx hb d_cShell_out_51 rfl (lv_at hl 1 rfl) ?_
        obtain ⟨n4, hn, hyg1⟩ := zes hf
        subst hn
        have hf := hyg1
        have hl : lv_has ls 6 [(1, .int (zI v1)), (2, .ref (ad (1, n4))), (3, .long v3), (5, .int (zI v5))] := hl
        obtain ⟨g2, hf⟩ := zg hf
        refine zg_Tx_size M hW (zid_T g2) (M.2.2.1 _ w_107) d_cShell_out_52 ?_
        obtain ⟨x5, g3, hf⟩ := ze1 hf
        have J3 : ∀ (H : Heap) (locs : List Loc) (ls : Array Slot), lv_has ls 6 [(1, .int (zI v1)), (2, .ref (ad (1, n4))), (5, .int (zI v5))] → ZW D B y ad q u r H → va_S (fun x => B ≤ x) s.heap H locs → W p l e R s m args below meth c H locs 0 0 Q (F0 m 69 ls [.int (zI x5), .long (zlshl v3 8)]) := by
          intro H locs ls hl hW hS
          refine z_i2l hx hb d_cShell_out_69 ?_
          refine lv_lor hx hb d_cShell_out_70 ?_
          refine lv_lstore_n (lv' := [(3, .long ((zlshl v3 8) ||| (zi2l x5))), (1, .int (zI v1)), (2, .ref (ad (1, n4))), (5, .int (zI v5))]) hx hb d_cShell_out_71 rfl hl (by decide) rfl (fun ls hl => ?_)
          refine lv_iinc (k := 3) (v := zI (v5 + 1)) (lv' := [(5, .int (zI (v5 + 1))), (3, .long ((zlshl v3 8) ||| (zi2l x5))), (1, .int (zI v1)), (2, .ref (ad (1, n4)))]) hx hb d_cShell_out_72 hl rfl (zI_add _ _) (by decide) rfl (fun ls hl => ?_)
          refine lv_goto hx hb d_cShell_out_75 rfl ?_
          exact ih _ _ _ _ _ _ _ hf (lv_sub hl [2, 3, 1, 0] rfl) hW hS
        refine z_icmp_ge hx hb d_cShell_out_55 rfl g3 (fun g3 => ?_) (fun g3 => ?_)
        · refine z_iconst hx hb d_cShell_out_68 ?_
          cases g3
          exact J3 _ _ _ (lv_sub hl [0, 1, 3] rfl) hW hS
        · refine lv_aload_n hx hb d_cShell_out_58 rfl (lv_at hl 1 rfl) ?_
          refine zg_Tx_letters M hW (zid_T g2) (M.2.2.1 _ w_104) d_cShell_out_59 ?_
          refine lv_iload hx hb d_cShell_out_62 (lv_at hl 3 rfl) ?_
          obtain ⟨g4, g3⟩ := zg g3
          refine za_let M hW (zid_C g2) g4 d_cShell_out_64 ?_
          refine lv_goto hx hb d_cShell_out_65 rfl ?_
          cases g3
          exact J3 _ _ _ (lv_sub hl [0, 1, 3] rfl) hW hS
  rw [cShell_out] at hf
  refine lv_aload_n hx hb d_cShell_out_0 rfl (lv_at hl 0 rfl) ?_
  refine zg_Sh_runner M hW (M.2.2.1 _ w_354) d_cShell_out_1 ?_
  obtain ⟨p1, g5, hf⟩ := ze1 hf
  refine z_callVq (As := []) (rest := []) (k_cRunner_output F _ g5) M hml (cw_cRunner_output M.2.2.1 (M.2.2.1 _ w_699) (by rw [hR]; exact Nat.le_of_ble_eq_true rfl) (by rw [hR]; exact Nat.le_of_ble_eq_true rfl)) (zv_Ru hK hW) hB hW hS rfl hl.1 rfl (Nat.le_of_ble_eq_true rfl) d_cShell_out_4 (by rw [hR]; exact ⟨Nat.zero_le _, Nat.zero_le _⟩) (fun H locs hW hS => ?_)
  refine z_astore_n (lv2 := [(2, zrf ad 1 p1), (0, .ref (ad (0, 0))), (1, .int (zI v1))]) hx hb d_cShell_out_7 rfl hl (by decide) rfl (fun ls hl => ?_)
  refine lv_iload_n hx hb d_cShell_out_8 rfl (lv_at hl 2 rfl) ?_
  obtain ⟨b3, g6, hf⟩ := ze1 hf
  have JT6 : b3 = true → ∀ (H : Heap) (locs : List Loc), ZW D B y ad q u r H → va_S (fun x => B ≤ x) s.heap H locs → W p l e R s m args below meth c H locs 0 0 Q (F0 m 23 ls []) := by
    intro hv H locs hW hS
    have hf := zp (hv) hf
    refine lv_lconst (v := 0) hx hb d_cShell_out_23 rfl ?_
    cases hf
    subst hQ
    exact z_retl hx hb hr hlocks hB hK hW hS d_cShell_out_24
  have JF6 : b3 = false → ∀ (H : Heap) (locs : List Loc), ZW D B y ad q u r H → va_S (fun x => B ≤ x) s.heap H locs → W p l e R s m args below meth c H locs 0 0 Q (F0 m 25 ls []) := by
    intro hv H locs hW hS
    have hf := zn (by rw [hv]; decide) hf
    refine lv_lconst (v := 0) hx hb d_cShell_out_25 rfl ?_
    refine lv_lstore_n (lv' := [(3, .long (0 : Int64)), (2, zrf ad 1 p1), (0, .ref (ad (0, 0))), (1, .int (zI v1))]) hx hb d_cShell_out_26 rfl hl (by decide) (by simp only [List.filter, zrf_cat] <;> rfl) (fun ls hl => ?_)
    refine z_bipush hx hb d_cShell_out_27 rfl ?_
    refine lv_iload_n hx hb d_cShell_out_29 rfl (lv_at hl 3 rfl) ?_
    refine z_imul hx hb d_cShell_out_30 ?_
    refine lv_istore (lv' := [(5, .int (zI (8 * v1))), (3, .long (0 : Int64)), (2, zrf ad 1 p1), (0, .ref (ad (0, 0))), (1, .int (zI v1))]) hx hb d_cShell_out_31 hl (by decide) rfl (fun ls hl => ?_)
    exact C_33 F _ _ _ _ _ _ _ hf (lv_sub hl [4, 2, 1, 0] rfl) hW hS
  refine z_if_lt hx hb d_cShell_out_9 rfl g6 (fun g6 => ?_) (fun g6 => ?_)
  · exact JT6 (Option.some.inj g6).symm _ _ hW hS
  · refine lv_iload_n hx hb d_cShell_out_12 rfl (lv_at hl 2 rfl) ?_
    refine z_aload_n hx hb d_cShell_out_13 rfl (lv_at hl 0 rfl) ?_
    obtain ⟨n2, hn, hyg7⟩ := zes g6
    subst hn
    have g6 := hyg7
    have hl : lv_has ls 6 [(2, .ref (ad (1, n2))), (0, .ref (ad (0, 0))), (1, .int (zI v1))] := hl
    obtain ⟨g8, g6⟩ := zg g6
    refine zg_Tx_size M hW (zid_T g8) (M.2.2.1 _ w_107) d_cShell_out_14 ?_
    refine z_bipush hx hb d_cShell_out_17 rfl ?_
    refine z_idiv hx hb (by decide) d_cShell_out_19 ?_
    refine z_icmp_le hx hb d_cShell_out_20 rfl g6 (fun g6 => ?_) (fun g6 => ?_)
    · exact JF6 (Option.some.inj g6).symm _ _ hW hS
    · exact JT6 (Option.some.inj g6).symm _ _ hW hS
set_option maxRecDepth 100000 in
set_option maxHeartbeats 4000000 in
theorem k_cShell_ran {l : Launch} {D : va_G} {B : Nat} {y : Nat → ClassId} {ad : Nat × Nat → Nat} {q : Bool} {r : ZR} (F : Nat) (u : ZC) {res : Int} (hf : cShell_ran F u = some res) : Met l y_cShell_ran (.code y_cShell_ran b_cShell_ran 1 (some .int) :: zt) { frames := 0, cells := 0, slots := 0, locals := 0 } (va_Pc [.ref (ad (0, 0))] (fun U => ZP D B y ad q u r U)) (va_Qi (fun v (_ : Unit) => v = zI res) (fun _ t => ZP D B y ad q u r t) (fun x => B ≤ x)) 0 0 (fun x => B ≤ x) := by
  refine Met.ofW (cc := b_cShell_ran) (maxL := 1) (ret := (some .int)) (by decide) rfl ?_
  intro p e s m args below meth c s₁ Bd hml hv
  obtain ⟨hargs, hB, hW, hK⟩ := hv
  have hx := Bd.exec
  have hb := Bd.bytes
  have hr := Bd.returns
  have hts0 := atoms_spec (ws := .code y_cShell_ran b_cShell_ran 1 (some .int) :: zt) Bd.pre
  have hown : s.vm.findClass "TreeShell" = some m.cls := findClass_of_methodNamed Bd.named
  have hlocks := Bd.notSynchronized
  have M : ZM p c b_cShell_ran s args m "TreeShell" D y := ⟨hx, hb, fun w h => hts0 w (List.mem_cons_of_mem _ h), hown, hK⟩
  have hS : va_S (fun x => B ≤ x) s.heap s.heap [] := va_S.rf
  have hE := lg_entry_eq m ([.ref (ad (0, 0))] : List Value) 1
  rw [← hargs] at hE
  rw [hE]
  have hl := lv_entry ([.ref (ad (0, 0))] : List Value) (n := 1) (Nat.le_of_ble_eq_true rfl)
  generalize (lg_sl ([.ref (ad (0, 0))] : List Value) ++ List.replicate (1 - (lg_sl ([.ref (ad (0, 0))] : List Value)).length) Slot.unset).toArray = ls at hl ⊢
  have hl : lv_has ls 1 [(0, .ref (ad (0, 0)))] := hl
  refine z_start (fun Q R hQ hR => ?_)
  generalize hH : s.heap = H at hW
  have hS : va_S (fun x => B ≤ x) s.heap H [] := by rw [← hH]; exact hS
  rw [cShell_ran] at hf
  refine lv_aload_n hx hb d_cShell_ran_0 rfl (lv_at hl 0 rfl) ?_
  refine zg_Sh_runner M hW (M.2.2.1 _ w_354) d_cShell_ran_1 ?_
  refine zg_Ru_ran M hW (M.2.2.1 _ w_332) d_cShell_ran_4 ?_
  cases hf
  subst hQ
  exact z_reti hx hb hr hlocks hB hK hW hS d_cShell_ran_7
set_option maxRecDepth 100000 in
set_option maxHeartbeats 4000000 in
theorem k_cShell_nodes {l : Launch} {D : va_G} {B : Nat} {y : Nat → ClassId} {ad : Nat × Nat → Nat} {q : Bool} {r : ZR} (F : Nat) (u : ZC) {res : Int} (hf : cShell_nodes F u = some res) : Met l y_cShell_nodes (.code y_cShell_nodes b_cShell_nodes 1 (some .int) :: zt) { frames := 0, cells := 0, slots := 0, locals := 0 } (va_Pc [.ref (ad (0, 0))] (fun U => ZP D B y ad q u r U)) (va_Qi (fun v (_ : Unit) => v = zI res) (fun _ t => ZP D B y ad q u r t) (fun x => B ≤ x)) 0 0 (fun x => B ≤ x) := by
  refine Met.ofW (cc := b_cShell_nodes) (maxL := 1) (ret := (some .int)) (by decide) rfl ?_
  intro p e s m args below meth c s₁ Bd hml hv
  obtain ⟨hargs, hB, hW, hK⟩ := hv
  have hx := Bd.exec
  have hb := Bd.bytes
  have hr := Bd.returns
  have hts0 := atoms_spec (ws := .code y_cShell_nodes b_cShell_nodes 1 (some .int) :: zt) Bd.pre
  have hown : s.vm.findClass "TreeShell" = some m.cls := findClass_of_methodNamed Bd.named
  have hlocks := Bd.notSynchronized
  have M : ZM p c b_cShell_nodes s args m "TreeShell" D y := ⟨hx, hb, fun w h => hts0 w (List.mem_cons_of_mem _ h), hown, hK⟩
  have hS : va_S (fun x => B ≤ x) s.heap s.heap [] := va_S.rf
  have hE := lg_entry_eq m ([.ref (ad (0, 0))] : List Value) 1
  rw [← hargs] at hE
  rw [hE]
  have hl := lv_entry ([.ref (ad (0, 0))] : List Value) (n := 1) (Nat.le_of_ble_eq_true rfl)
  generalize (lg_sl ([.ref (ad (0, 0))] : List Value) ++ List.replicate (1 - (lg_sl ([.ref (ad (0, 0))] : List Value)).length) Slot.unset).toArray = ls at hl ⊢
  have hl : lv_has ls 1 [(0, .ref (ad (0, 0)))] := hl
  refine z_start (fun Q R hQ hR => ?_)
  generalize hH : s.heap = H at hW
  have hS : va_S (fun x => B ≤ x) s.heap H [] := by rw [← hH]; exact hS
  rw [cShell_nodes] at hf
  refine lv_aload_n hx hb d_cShell_nodes_0 rfl (lv_at hl 0 rfl) ?_
  refine zg_Sh_tree M hW (M.2.2.1 _ w_353) d_cShell_nodes_1 ?_
  refine zg_Tr_count M hW (M.2.2.1 _ w_216) d_cShell_nodes_4 ?_
  cases hf
  subst hQ
  exact z_reti hx hb hr hlocks hB hK hW hS d_cShell_nodes_7
set_option maxRecDepth 100000 in
set_option maxHeartbeats 4000000 in
theorem k_cShell_chars {l : Launch} {D : va_G} {B : Nat} {y : Nat → ClassId} {ad : Nat × Nat → Nat} {q : Bool} {r : ZR} (F : Nat) (u : ZC) {res : Int} (hf : cShell_chars F u = some res) : Met l y_cShell_chars (.code y_cShell_chars b_cShell_chars 1 (some .int) :: zt) { frames := 0, cells := 0, slots := 0, locals := 0 } (va_Pc [.ref (ad (0, 0))] (fun U => ZP D B y ad q u r U)) (va_Qi (fun v (_ : Unit) => v = zI res) (fun _ t => ZP D B y ad q u r t) (fun x => B ≤ x)) 0 0 (fun x => B ≤ x) := by
  refine Met.ofW (cc := b_cShell_chars) (maxL := 1) (ret := (some .int)) (by decide) rfl ?_
  intro p e s m args below meth c s₁ Bd hml hv
  obtain ⟨hargs, hB, hW, hK⟩ := hv
  have hx := Bd.exec
  have hb := Bd.bytes
  have hr := Bd.returns
  have hts0 := atoms_spec (ws := .code y_cShell_chars b_cShell_chars 1 (some .int) :: zt) Bd.pre
  have hown : s.vm.findClass "TreeShell" = some m.cls := findClass_of_methodNamed Bd.named
  have hlocks := Bd.notSynchronized
  have M : ZM p c b_cShell_chars s args m "TreeShell" D y := ⟨hx, hb, fun w h => hts0 w (List.mem_cons_of_mem _ h), hown, hK⟩
  have hS : va_S (fun x => B ≤ x) s.heap s.heap [] := va_S.rf
  have hE := lg_entry_eq m ([.ref (ad (0, 0))] : List Value) 1
  rw [← hargs] at hE
  rw [hE]
  have hl := lv_entry ([.ref (ad (0, 0))] : List Value) (n := 1) (Nat.le_of_ble_eq_true rfl)
  generalize (lg_sl ([.ref (ad (0, 0))] : List Value) ++ List.replicate (1 - (lg_sl ([.ref (ad (0, 0))] : List Value)).length) Slot.unset).toArray = ls at hl ⊢
  have hl : lv_has ls 1 [(0, .ref (ad (0, 0)))] := hl
  refine z_start (fun Q R hQ hR => ?_)
  generalize hH : s.heap = H at hW
  have hS : va_S (fun x => B ≤ x) s.heap H [] := by rw [← hH]; exact hS
  rw [cShell_chars] at hf
  refine lv_aload_n hx hb d_cShell_chars_0 rfl (lv_at hl 0 rfl) ?_
  refine zg_Sh_tree M hW (M.2.2.1 _ w_353) d_cShell_chars_1 ?_
  refine zg_Tr_total M hW (M.2.2.1 _ w_218) d_cShell_chars_4 ?_
  cases hf
  subst hQ
  exact z_reti hx hb hr hlocks hB hK hW hS d_cShell_chars_7
set_option maxRecDepth 100000 in
set_option maxHeartbeats 4000000 in
theorem k_cShell_depth {l : Launch} {D : va_G} {B : Nat} {y : Nat → ClassId} {ad : Nat × Nat → Nat} {q : Bool} {r : ZR} (F : Nat) (u : ZC) {res : Int} (hf : cShell_depth F u = some res) : Met l y_cShell_depth (.code y_cShell_depth b_cShell_depth 3 (some .int) :: zt) { frames := 0, cells := 0, slots := 0, locals := 0 } (va_Pc [.ref (ad (0, 0))] (fun U => ZP D B y ad q u r U)) (va_Qi (fun v (_ : Unit) => v = zI res) (fun _ t => ZP D B y ad q u r t) (fun x => B ≤ x)) 0 0 (fun x => B ≤ x) := by
  refine Met.ofW (cc := b_cShell_depth) (maxL := 3) (ret := (some .int)) (by decide) rfl ?_
  intro p e s m args below meth c s₁ Bd hml hv
  obtain ⟨hargs, hB, hW, hK⟩ := hv
  have hx := Bd.exec
  have hb := Bd.bytes
  have hr := Bd.returns
  have hts0 := atoms_spec (ws := .code y_cShell_depth b_cShell_depth 3 (some .int) :: zt) Bd.pre
  have hown : s.vm.findClass "TreeShell" = some m.cls := findClass_of_methodNamed Bd.named
  have hlocks := Bd.notSynchronized
  have M : ZM p c b_cShell_depth s args m "TreeShell" D y := ⟨hx, hb, fun w h => hts0 w (List.mem_cons_of_mem _ h), hown, hK⟩
  have hS : va_S (fun x => B ≤ x) s.heap s.heap [] := va_S.rf
  have hE := lg_entry_eq m ([.ref (ad (0, 0))] : List Value) 3
  rw [← hargs] at hE
  rw [hE]
  have hl := lv_entry ([.ref (ad (0, 0))] : List Value) (n := 3) (Nat.le_of_ble_eq_true rfl)
  generalize (lg_sl ([.ref (ad (0, 0))] : List Value) ++ List.replicate (3 - (lg_sl ([.ref (ad (0, 0))] : List Value)).length) Slot.unset).toArray = ls at hl ⊢
  have hl : lv_has ls 3 [(0, .ref (ad (0, 0)))] := hl
  refine z_start (fun Q R hQ hR => ?_)
  generalize hH : s.heap = H at hW
  have hS : va_S (fun x => B ≤ x) s.heap H [] := by rw [← hH]; exact hS
  have C_10 : ∀ (n : Nat), ∀ (v1 : Int) (v2 : Option Nat) (H : Heap) (locs : List Loc) (ls : Array Slot), cShell_depth_10 F n u v1 v2 = some res → lv_has ls 3 [(1, .int (zI v1)), (2, zrf ad 3 v2)] → ZW D B y ad q u r H → va_S (fun x => B ≤ x) s.heap H locs → W p l e R s m args below meth c H locs 0 0 Q (F0 m 10 ls []) := by
    intro n
    induction n with
    | zero => intro v1 v2 H locs ls hf; cases (show (none : Option (Int)) = some res from hf)
    | succ n ih =>
      intro v1 v2 H locs ls hf hl hW hS
      rw [cShell_depth_10] at hf
      refine z_aload_n hx hb d_cShell_depth_10 rfl (lv_at hl 1 rfl) ?_
      obtain ⟨n2, hn, hyg1⟩ := zes hf
      subst hn
      have hf := hyg1
      have hl : lv_has ls 3 [(1, .int (zI v1)), (2, .ref (ad (3, n2)))] := hl
      obtain ⟨g2, hf⟩ := zg hf
      refine zg_No_parent M hW (zid_N g2) (M.2.2.1 _ w_185) d_cShell_depth_11 ?_
      obtain ⟨o3, g3, hf⟩ := ze1 hf
      have g3 := Option.some.inj g3
      rw [g3]
      refine z_ifnull hx hb d_cShell_depth_14 rfl hf (fun hyg4 hn => ?_) (fun n4 hn hyg4 => ?_)
      · subst hn
        have hf := hyg4
        have hl : lv_has ls 3 [(1, .int (zI v1)), (2, .ref (ad (3, n2)))] := hl
        refine lv_iload_n hx hb d_cShell_depth_28 rfl (lv_at hl 0 rfl) ?_
        cases hf
        subst hQ
        exact z_reti hx hb hr hlocks hB hK hW hS d_cShell_depth_29
      · subst hn
        have hf := hyg4
        have hl : lv_has ls 3 [(1, .int (zI v1)), (2, .ref (ad (3, n2)))] := hl
        refine lv_iinc (k := 0) (v := zI (v1 + 1)) (lv' := [(1, .int (zI (v1 + 1))), (2, .ref (ad (3, n2)))]) hx hb d_cShell_depth_17 hl rfl (zI_add _ _) (by decide) rfl (fun ls hl => ?_)
        refine lv_aload_n hx hb d_cShell_depth_20 rfl (lv_at hl 1 rfl) ?_
        refine zg_No_parent M hW (zid_N g2) (M.2.2.1 _ w_185) d_cShell_depth_21 ?_
        obtain ⟨o5, g5, hf⟩ := ze1 hf
        have g5 := Option.some.inj g5
        rw [g5]
        refine z_astore_n (lv2 := [(2, zrf ad 3 o5), (1, .int (zI (v1 + 1)))]) hx hb d_cShell_depth_24 rfl hl (by decide) rfl (fun ls hl => ?_)
        refine lv_goto hx hb d_cShell_depth_25 rfl ?_
        exact ih _ _ _ _ _ hf (lv_sub hl [1, 0] rfl) hW hS
  rw [cShell_depth] at hf
  refine z_iconst hx hb d_cShell_depth_0 ?_
  refine lv_istore_n (lv' := [(1, .int (zI 0)), (0, .ref (ad (0, 0)))]) hx hb d_cShell_depth_1 rfl hl (by decide) rfl (fun ls hl => ?_)
  refine lv_aload_n hx hb d_cShell_depth_2 rfl (lv_at hl 1 rfl) ?_
  refine zg_Sh_tree M hW (M.2.2.1 _ w_353) d_cShell_depth_3 ?_
  refine zg_Tr_here M hW (M.2.2.1 _ w_213) d_cShell_depth_6 ?_
  obtain ⟨o1, g6, hf⟩ := ze1 hf
  have g6 := Option.some.inj g6
  rw [g6]
  refine z_astore_n (lv2 := [(2, zrf ad 3 o1), (1, .int (zI 0)), (0, .ref (ad (0, 0)))]) hx hb d_cShell_depth_9 rfl hl (by decide) rfl (fun ls hl => ?_)
  exact C_10 F _ _ _ _ _ hf (lv_sub hl [1, 0] rfl) hW hS
