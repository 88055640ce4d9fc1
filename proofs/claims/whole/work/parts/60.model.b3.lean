set_option maxRecDepth 100000 in
set_option maxHeartbeats 4000000 in
theorem k_r_fill {l : Launch} {D : va_G} {B : Nat} {y : Nat → ClassId} {ad : Nat × Nat → Nat} {cu : ZC} (F : Nat) (u : ZR) (v1 : Int) {uo : ZR} (hf : r_fill F u v1 = some uo) : Met l y_r_fill (.code y_r_fill b_r_fill 3 none :: zt) { frames := 0, cells := 0, slots := 0, locals := 0 } (va_Pc [.ref (ad (10, 0)), .int (zI v1)] (fun U => ZP D B y ad true cu u U)) (va_Qv (fun (_ : Unit) => True) (fun _ t => ZP D B y ad true cu uo t) (fun x => B ≤ x)) 0 0 (fun x => B ≤ x) := by
  refine Met.ofW (cc := b_r_fill) (maxL := 3) (ret := none) (by decide) rfl ?_
  intro p e s m args below meth c s₁ Bd hml hv
  obtain ⟨hargs, hB, hW, hK⟩ := hv
  have hx := Bd.exec
  have hb := Bd.bytes
  have hr := Bd.returns
  have hts0 := atoms_spec (ws := .code y_r_fill b_r_fill 3 none :: zt) Bd.pre
  have hown : s.vm.findClass "TreeShellModel" = some m.cls := findClass_of_methodNamed Bd.named
  have hlocks := Bd.notSynchronized
  have M : ZM p c b_r_fill s args m "TreeShellModel" D y := ⟨hx, hb, fun w h => hts0 w (List.mem_cons_of_mem _ h), hown, hK⟩
  have hS : va_S (fun x => B ≤ x) s.heap s.heap [] := va_S.rf
  have hE := lg_entry_eq m ([.ref (ad (10, 0)), .int (zI v1)] : List Value) 3
  rw [← hargs] at hE
  rw [hE]
  have hl := lv_entry ([.ref (ad (10, 0)), .int (zI v1)] : List Value) (n := 3) (Nat.le_of_ble_eq_true rfl)
  generalize (lg_sl ([.ref (ad (10, 0)), .int (zI v1)] : List Value) ++ List.replicate (3 - (lg_sl ([.ref (ad (10, 0)), .int (zI v1)] : List Value)).length) Slot.unset).toArray = ls at hl ⊢
  have hl : lv_has ls 3 [(0, .ref (ad (10, 0))), (1, .int (zI v1))] := hl
  refine z_start (fun Q R hQ hR => ?_)
  generalize hH : s.heap = H at hW
  have hS : va_S (fun x => B ≤ x) s.heap H [] := by rw [← hH]; exact hS
  have C_12 : ∀ (n : Nat), ∀ (u : ZR) (v1 : Int) (v2 : Int) (H : Heap) (locs : List Loc) (ls : Array Slot), r_fill_12 F n u v1 v2 = some uo → lv_has ls 3 [(0, .ref (ad (10, 0))), (1, .int (zI v1)), (2, .int (zI v2))] → ZW D B y ad true cu u H → va_S (fun x => B ≤ x) s.heap H locs → W p l e R s m args below meth c H locs 0 0 Q (F0 m 12 ls []) := by
    intro n
    induction n with
    | zero => intro u v1 v2 H locs ls hf; cases (show (none : Option (ZR)) = some uo from hf)
    | succ n ih =>
      intro u v1 v2 H locs ls hf hl hW hS
      rw [r_fill_12] at hf
      refine lv_iload_n hx hb d_r_fill_12 rfl (lv_at hl 2 rfl) ?_
      refine lv_aload_n hx hb d_r_fill_13 rfl (lv_at hl 0 rfl) ?_
      refine zg_Mo_textLength M hW (M.2.2.1 _ w_767) d_r_fill_14 ?_
      refine z_icmp_ge hx hb d_r_fill_17 rfl hf (fun hf => ?_) (fun hf => ?_)
      · cases hf
        subst hQ
        exact z_retv hx hb hr hlocks hB hK hW hS d_r_fill_44
      · refine lv_aload_n hx hb d_r_fill_20 rfl (lv_at hl 0 rfl) ?_
        refine zg_Mo_input M hW (M.2.2.1 _ w_764) d_r_fill_21 ?_
        refine z_sipush hx hb d_r_fill_24 rfl ?_
        refine lv_iload_n hx hb d_r_fill_27 rfl (lv_at hl 1 rfl) ?_
        refine z_imul hx hb d_r_fill_28 ?_
        refine lv_iload_n hx hb d_r_fill_29 rfl (lv_at hl 2 rfl) ?_
        refine z_iadd hx hb d_r_fill_30 ?_
        refine lv_aload_n hx hb d_r_fill_31 rfl (lv_at hl 0 rfl) ?_
        refine zg_Mo_text M hW (M.2.2.1 _ w_766) d_r_fill_32 ?_
        refine lv_iload_n hx hb d_r_fill_35 rfl (lv_at hl 2 rfl) ?_
        obtain ⟨g1, hf⟩ := zg hf
        refine zr_34 M hW g1 d_r_fill_36 ?_
        obtain ⟨g2, hf⟩ := zg hf
        refine zw_32 M hW hS g2 d_r_fill_37 (fun H locs hW hS => ?_)
        obtain ⟨u1, g3, hf⟩ := ze1 hf
        have g3 := Option.some.inj g3
        rw [g3] at hW
        refine lv_iinc (k := 2) (v := zI (v2 + 1)) (lv' := [(2, .int (zI (v2 + 1))), (0, .ref (ad (10, 0))), (1, .int (zI v1))]) hx hb d_r_fill_38 hl rfl (zI_add _ _) (by decide) rfl (fun ls hl => ?_)
        refine lv_goto hx hb d_r_fill_41 rfl ?_
        exact ih _ _ _ _ _ _ hf (lv_sub hl [1, 2, 0] rfl) hW hS
  rw [r_fill] at hf
  refine lv_aload_n hx hb d_r_fill_0 rfl (lv_at hl 0 rfl) ?_
  refine zg_Mo_inputLength M hW (M.2.2.1 _ w_765) d_r_fill_1 ?_
  refine lv_iload_n hx hb d_r_fill_4 rfl (lv_at hl 1 rfl) ?_
  refine lv_aload_n hx hb d_r_fill_5 rfl (lv_at hl 0 rfl) ?_
  refine zg_Mo_textLength M hW (M.2.2.1 _ w_767) d_r_fill_6 ?_
  obtain ⟨g4, hf⟩ := zg hf
  refine zw_33 M hW hS g4 d_r_fill_9 (fun H locs hW hS => ?_)
  refine z_iconst hx hb d_r_fill_10 ?_
  refine lv_istore_n (lv' := [(2, .int (zI 0)), (0, .ref (ad (10, 0))), (1, .int (zI v1))]) hx hb d_r_fill_11 rfl hl (by decide) rfl (fun ls hl => ?_)
  exact C_12 F _ _ _ _ _ _ hf (lv_sub hl [1, 2, 0] rfl) hW hS
set_option maxRecDepth 100000 in
set_option maxHeartbeats 4000000 in
theorem k_r_goOn {l : Launch} {D : va_G} {B : Nat} {y : Nat → ClassId} {ad : Nat × Nat → Nat} {cu : ZC} (F : Nat) (u : ZR) {uo : ZR} (hf : r_goOn F u = some uo) : Met l y_r_goOn (.code y_r_goOn b_r_goOn 3 none :: zt) { frames := 2, cells := 0, slots := 0, locals := 45 } (va_Pc [.ref (ad (10, 0))] (fun U => ZP D B y ad true cu u U)) (va_Qv (fun (_ : Unit) => True) (fun _ t => ZP D B y ad true cu uo t) (fun x => B ≤ x)) 0 0 (fun x => B ≤ x) := by
  refine Met.ofW (cc := b_r_goOn) (maxL := 3) (ret := none) (by decide) rfl ?_
  intro p e s m args below meth c s₁ Bd hml hv
  obtain ⟨hargs, hB, hW, hK⟩ := hv
  have hx := Bd.exec
  have hb := Bd.bytes
  have hr := Bd.returns
  have hts0 := atoms_spec (ws := .code y_r_goOn b_r_goOn 3 none :: zt) Bd.pre
  have hown : s.vm.findClass "TreeShellModel" = some m.cls := findClass_of_methodNamed Bd.named
  have hlocks := Bd.notSynchronized
  have M : ZM p c b_r_goOn s args m "TreeShellModel" D y := ⟨hx, hb, fun w h => hts0 w (List.mem_cons_of_mem _ h), hown, hK⟩
  have hS : va_S (fun x => B ≤ x) s.heap s.heap [] := va_S.rf
  have hE := lg_entry_eq m ([.ref (ad (10, 0))] : List Value) 3
  rw [← hargs] at hE
  rw [hE]
  have hl := lv_entry ([.ref (ad (10, 0))] : List Value) (n := 3) (Nat.le_of_ble_eq_true rfl)
  generalize (lg_sl ([.ref (ad (10, 0))] : List Value) ++ List.replicate (3 - (lg_sl ([.ref (ad (10, 0))] : List Value)).length) Slot.unset).toArray = ls at hl ⊢
  have hl : lv_has ls 3 [(0, .ref (ad (10, 0)))] := hl
  refine z_start (fun Q R hQ hR => ?_)
  generalize hH : s.heap = H at hW
  have hS : va_S (fun x => B ≤ x) s.heap H [] := by rw [← hH]; exact hS
  have C_0 : ∀ (n : Nat), ∀ (u : ZR) (H : Heap) (locs : List Loc) (ls : Array Slot), r_goOn_0 F n u = some uo → lv_has ls 3 [(0, .ref (ad (10, 0)))] → ZW D B y ad true cu u H → va_S (fun x => B ≤ x) s.heap H locs → W p l e R s m args below meth c H locs 0 0 Q (F0 m 0 ls []) := by
    intro n
    induction n with
    | zero => intro u H locs ls hf; cases (show (none : Option (ZR)) = some uo from hf)
    | succ n ih =>
      intro u H locs ls hf hl hW hS
      rw [r_goOn_0] at hf
      refine lv_aload_n hx hb d_r_goOn_0 rfl (lv_at hl 0 rfl) ?_
      refine lv_aload_n hx hb d_r_goOn_1 rfl (lv_at hl 0 rfl) ?_
      refine zg_Mo_pos M hW (M.2.2.1 _ w_754) d_r_goOn_2 ?_
      obtain ⟨p1, g1, hf⟩ := ze1 hf
      refine z_callVi (As := [.int (zI (rI u 22))]) (rest := []) (k_r_kindAt F _ _ g1) M hml (cw_r_kindAt M.2.2.1 (M.2.2.1 _ w_936) (by rw [hR]; exact Nat.le_of_ble_eq_true rfl) (by rw [hR]; exact Nat.le_of_ble_eq_true rfl)) (zv_Mo hK hW) hB hW hS rfl hl.1 rfl (Nat.le_of_ble_eq_true rfl) d_r_goOn_5 (by rw [hR]; exact ⟨Nat.zero_le _, Nat.zero_le _⟩) (fun H locs hW hS => ?_)
      refine z_iconst hx hb d_r_goOn_8 ?_
      obtain ⟨b4, g2, hf⟩ := ze1 hf
      have JT2 : b4 = true → ∀ (H : Heap) (locs : List Loc), ZW D B y ad true cu u H → va_S (fun x => B ≤ x) s.heap H locs → W p l e R s m args below meth c H locs 0 0 Q (F0 m 38 ls []) := by
        intro hv H locs hW hS
        have hf := zp (hv) hf
        refine lv_aload_n hx hb d_r_goOn_38 rfl (lv_at hl 0 rfl) ?_
        refine lv_aload_n hx hb d_r_goOn_39 rfl (lv_at hl 0 rfl) ?_
        refine lv_aload_n hx hb d_r_goOn_40 rfl (lv_at hl 0 rfl) ?_
        refine zg_Mo_pos M hW (M.2.2.1 _ w_754) d_r_goOn_41 ?_
        refine z_iconst hx hb d_r_goOn_44 ?_
        refine z_iadd hx hb d_r_goOn_45 ?_
        refine z_iconst hx hb d_r_goOn_46 ?_
        obtain ⟨p5, g3, hf⟩ := ze1 hf
        refine z_callVi (As := [.int (zI ((rI u 22) + 1)), .int (zI 0)]) (rest := [.ref (ad (10, 0))]) (k_r_pipelineEnd F _ _ _ g3) M hml (cw_r_pipelineEnd M.2.2.1 (M.2.2.1 _ w_940) (by rw [hR]; exact Nat.le_of_ble_eq_true rfl) (by rw [hR]; exact Nat.le_of_ble_eq_true rfl)) (zv_Mo hK hW) hB hW hS rfl hl.1 rfl (Nat.le_of_ble_eq_true rfl) d_r_goOn_47 (by rw [hR]; exact ⟨Nat.zero_le _, Nat.zero_le _⟩) (fun H locs hW hS => ?_)
        refine zp_Mo_pos M hW hS (M.2.2.1 _ w_754) d_r_goOn_50 (fun H locs hW hS => ?_)
        refine lv_goto hx hb d_r_goOn_53 rfl ?_
        exact ih _ _ _ _ hf (lv_sub hl [0] rfl) hW hS
      have JF2 : b4 = false → ∀ (H : Heap) (locs : List Loc), ZW D B y ad true cu u H → va_S (fun x => B ≤ x) s.heap H locs → W p l e R s m args below meth c H locs 0 0 Q (F0 m 56 ls []) := by
        intro hv H locs hW hS
        have hf := zn (by rw [hv]; decide) hf
        refine lv_aload_n hx hb d_r_goOn_56 rfl (lv_at hl 0 rfl) ?_
        refine lv_aload_n hx hb d_r_goOn_57 rfl (lv_at hl 0 rfl) ?_
        refine zg_Mo_pos M hW (M.2.2.1 _ w_754) d_r_goOn_58 ?_
        obtain ⟨p6, g4, hf⟩ := ze1 hf
        refine z_callVi (As := [.int (zI (rI u 22))]) (rest := []) (k_r_kindAt F _ _ g4) M hml (cw_r_kindAt M.2.2.1 (M.2.2.1 _ w_936) (by rw [hR]; exact Nat.le_of_ble_eq_true rfl) (by rw [hR]; exact Nat.le_of_ble_eq_true rfl)) (zv_Mo hK hW) hB hW hS rfl hl.1 rfl (Nat.le_of_ble_eq_true rfl) d_r_goOn_61 (by rw [hR]; exact ⟨Nat.zero_le _, Nat.zero_le _⟩) (fun H locs hW hS => ?_)
        refine lv_istore_n (lv' := [(1, .int (zI p6)), (0, .ref (ad (10, 0)))]) hx hb d_r_goOn_64 rfl hl (by decide) rfl (fun ls hl => ?_)
        refine lv_iload_n hx hb d_r_goOn_65 rfl (lv_at hl 0 rfl) ?_
        refine z_iconst hx hb d_r_goOn_66 ?_
        obtain ⟨u7, g5, hf⟩ := ze1 hf
        have J5 : ∀ (H : Heap) (locs : List Loc) (ls : Array Slot), lv_has ls 3 [(0, .ref (ad (10, 0))), (1, .int (zI p6))] → ZW D B y ad true cu u7 H → va_S (fun x => B ≤ x) s.heap H locs → W p l e R s m args below meth c H locs 0 0 Q (F0 m 80 ls []) := by
          intro H locs ls hl hW hS
          refine lv_iload_n hx hb d_r_goOn_80 rfl (lv_at hl 1 rfl) ?_
          refine z_iconst hx hb d_r_goOn_81 ?_
          obtain ⟨x9, g6, hf⟩ := ze1 hf
          have J6 : ∀ (H : Heap) (locs : List Loc) (ls : Array Slot), lv_has ls 3 [(0, .ref (ad (10, 0))), (1, .int (zI p6))] → ZW D B y ad true cu u7 H → va_S (fun x => B ≤ x) s.heap H locs → W p l e R s m args below meth c H locs 0 0 Q (F0 m 125 ls [.int (zI x9)]) := by
            intro H locs ls hl hW hS
            refine lv_istore_n (lv' := [(2, .int (zI x9)), (0, .ref (ad (10, 0))), (1, .int (zI p6))]) hx hb d_r_goOn_125 rfl hl (by decide) rfl (fun ls hl => ?_)
            refine lv_iload_n hx hb d_r_goOn_126 rfl (lv_at hl 0 rfl) ?_
            obtain ⟨u12, g7, hf⟩ := ze1 hf
            have J7 : ∀ (H : Heap) (locs : List Loc) (ls : Array Slot), lv_has ls 3 [] → ZW D B y ad true cu u12 H → va_S (fun x => B ≤ x) s.heap H locs → W p l e R s m args below meth c H locs 0 0 Q (F0 m 156 ls []) := by
              intro H locs ls hl hW hS
              cases hf
              subst hQ
              exact z_retv hx hb hr hlocks hB hK hW hS d_r_goOn_156
            refine z_if_eq hx hb d_r_goOn_127 rfl g7 (fun g7 => ?_) (fun g7 => ?_)
            · cases g7
              exact J7 _ _ _ (lv_sub hl [] rfl) hW hS
            · refine lv_aload_n hx hb d_r_goOn_130 rfl (lv_at hl 1 rfl) ?_
              refine lv_iload_n hx hb d_r_goOn_131 rfl (lv_at hl 2 rfl) ?_
              refine z_iconst hx hb d_r_goOn_132 ?_
              obtain ⟨x10, g8, g7⟩ := ze1 g7
              have J8 : ∀ (H : Heap) (locs : List Loc) (ls : Array Slot), lv_has ls 3 [(0, .ref (ad (10, 0)))] → ZW D B y ad true cu u7 H → va_S (fun x => B ≤ x) s.heap H locs → W p l e R s m args below meth c H locs 0 0 Q (F0 m 149 ls [.int (zI x10), .ref (ad (10, 0))]) := by
                intro H locs ls hl hW hS
                refine zp_Mo_pos M hW hS (M.2.2.1 _ w_754) d_r_goOn_149 (fun H locs hW hS => ?_)
                refine lv_aload_n hx hb d_r_goOn_152 rfl (lv_at hl 0 rfl) ?_
                obtain ⟨u11, g9, g7⟩ := ze1 g7
                refine z_callVv (As := []) (rest := []) (k_r_startPipeline F _ g9) M hml (cw_r_startPipeline M.2.2.1 (M.2.2.1 _ w_932) (by rw [hR]; exact Nat.le_of_ble_eq_true rfl) (by rw [hR]; exact Nat.le_of_ble_eq_true rfl)) (zv_Mo hK hW) hB hW hS rfl hl.1 rfl (Nat.le_of_ble_eq_true rfl) d_r_goOn_153 (by rw [hR]; exact ⟨Nat.zero_le _, Nat.zero_le _⟩) (fun H locs hW hS => ?_)
                cases g7
                exact J7 _ _ _ (lv_sub hl [] rfl) hW hS
              refine z_icmp_ne hx hb d_r_goOn_133 rfl g8 (fun g8 => ?_) (fun g8 => ?_)
              · refine lv_aload_n hx hb d_r_goOn_143 rfl (lv_at hl 1 rfl) ?_
                refine zg_Mo_pos M hW (M.2.2.1 _ w_754) d_r_goOn_144 ?_
                refine z_iconst hx hb d_r_goOn_147 ?_
                refine z_iadd hx hb d_r_goOn_148 ?_
                cases g8
                exact J8 _ _ _ (lv_sub hl [1] rfl) hW hS
              · refine lv_aload_n hx hb d_r_goOn_136 rfl (lv_at hl 1 rfl) ?_
                refine zg_Mo_pos M hW (M.2.2.1 _ w_754) d_r_goOn_137 ?_
                refine lv_goto hx hb d_r_goOn_140 rfl ?_
                cases g8
                exact J8 _ _ _ (lv_sub hl [1] rfl) hW hS
          obtain ⟨b8, g10, g6⟩ := ze1 g6
          have JT10 : b8 = true → ∀ (H : Heap) (locs : List Loc), ZW D B y ad true cu u7 H → va_S (fun x => B ≤ x) s.heap H locs → W p l e R s m args below meth c H locs 0 0 Q (F0 m 120 ls []) := by
            intro hv H locs hW hS
            have g6 := zp (hv) g6
            refine z_iconst hx hb d_r_goOn_120 ?_
            refine lv_goto hx hb d_r_goOn_121 rfl ?_
            cases g6
            exact J6 _ _ _ (lv_sub hl [0, 1] rfl) hW hS
          have JF10 : b8 = false → ∀ (H : Heap) (locs : List Loc), ZW D B y ad true cu u7 H → va_S (fun x => B ≤ x) s.heap H locs → W p l e R s m args below meth c H locs 0 0 Q (F0 m 124 ls []) := by
            intro hv H locs hW hS
            have g6 := zn (by rw [hv]; decide) g6
            refine z_iconst hx hb d_r_goOn_124 ?_
            cases g6
            exact J6 _ _ _ (lv_sub hl [0, 1] rfl) hW hS
          refine z_icmp_eq hx hb d_r_goOn_82 rfl g10 (fun g10 => ?_) (fun g10 => ?_)
          · exact JT10 (Option.some.inj g10).symm _ _ hW hS
          · refine lv_iload_n hx hb d_r_goOn_85 rfl (lv_at hl 1 rfl) ?_
            refine z_iconst hx hb d_r_goOn_86 ?_
            refine z_icmp_eq hx hb d_r_goOn_87 rfl g10 (fun g10 => ?_) (fun g10 => ?_)
            · exact JT10 (Option.some.inj g10).symm _ _ hW hS
            · refine lv_iload_n hx hb d_r_goOn_90 rfl (lv_at hl 1 rfl) ?_
              refine z_iconst hx hb d_r_goOn_91 ?_
              refine z_icmp_ne hx hb d_r_goOn_92 rfl g10 (fun g10 => ?_) (fun g10 => ?_)
              · exact JF10 (Option.some.inj g10).symm _ _ hW hS
              · refine lv_aload_n hx hb d_r_goOn_95 rfl (lv_at hl 0 rfl) ?_
                refine zg_Mo_pos M hW (M.2.2.1 _ w_754) d_r_goOn_96 ?_
                refine lv_aload_n hx hb d_r_goOn_99 rfl (lv_at hl 0 rfl) ?_
                refine zg_Mo_tokens M hW (M.2.2.1 _ w_744) d_r_goOn_100 ?_
                refine z_icmp_ge hx hb d_r_goOn_103 rfl g10 (fun g10 => ?_) (fun g10 => ?_)
                · exact JF10 (Option.some.inj g10).symm _ _ hW hS
                · refine lv_aload_n hx hb d_r_goOn_106 rfl (lv_at hl 0 rfl) ?_
                  refine zg_Mo_kind M hW (M.2.2.1 _ w_745) d_r_goOn_107 ?_
                  refine lv_aload_n hx hb d_r_goOn_110 rfl (lv_at hl 0 rfl) ?_
                  refine zg_Mo_pos M hW (M.2.2.1 _ w_754) d_r_goOn_111 ?_
                  obtain ⟨g11, g10⟩ := zg g10
                  refine zr_13 M hW g11 d_r_goOn_114 ?_
                  refine z_bipush hx hb d_r_goOn_115 rfl ?_
                  refine z_icmp_eq hx hb d_r_goOn_117 rfl g10 (fun g10 => ?_) (fun g10 => ?_)
                  · exact JF10 (Option.some.inj g10).symm _ _ hW hS
                  · exact JT10 (Option.some.inj g10).symm _ _ hW hS
        refine z_icmp_ne hx hb d_r_goOn_67 rfl g5 (fun g5 => ?_) (fun g5 => ?_)
        · cases g5
          exact J5 _ _ _ (lv_sub hl [1, 0] rfl) hW hS
        · refine lv_aload_n hx hb d_r_goOn_70 rfl (lv_at hl 1 rfl) ?_
          refine lv_aload_n hx hb d_r_goOn_71 rfl (lv_at hl 1 rfl) ?_
          refine zg_Mo_pos M hW (M.2.2.1 _ w_754) d_r_goOn_72 ?_
          refine z_iconst hx hb d_r_goOn_75 ?_
          refine z_iadd hx hb d_r_goOn_76 ?_
          refine zp_Mo_pos M hW hS (M.2.2.1 _ w_754) d_r_goOn_77 (fun H locs hW hS => ?_)
          cases g5
          exact J5 _ _ _ (lv_sub hl [1, 0] rfl) hW hS
      refine z_icmp_ne hx hb d_r_goOn_9 rfl g2 (fun g2 => ?_) (fun g2 => ?_)
      · refine lv_aload_n hx hb d_r_goOn_19 rfl (lv_at hl 0 rfl) ?_
        refine lv_aload_n hx hb d_r_goOn_20 rfl (lv_at hl 0 rfl) ?_
        refine zg_Mo_pos M hW (M.2.2.1 _ w_754) d_r_goOn_21 ?_
        obtain ⟨p2, g12, g2⟩ := ze1 g2
        refine z_callVi (As := [.int (zI (rI u 22))]) (rest := []) (k_r_kindAt F _ _ g12) M hml (cw_r_kindAt M.2.2.1 (M.2.2.1 _ w_936) (by rw [hR]; exact Nat.le_of_ble_eq_true rfl) (by rw [hR]; exact Nat.le_of_ble_eq_true rfl)) (zv_Mo hK hW) hB hW hS rfl hl.1 rfl (Nat.le_of_ble_eq_true rfl) d_r_goOn_24 (by rw [hR]; exact ⟨Nat.zero_le _, Nat.zero_le _⟩) (fun H locs hW hS => ?_)
        refine z_iconst hx hb d_r_goOn_27 ?_
        refine z_icmp_ne hx hb d_r_goOn_28 rfl g2 (fun g2 => ?_) (fun g2 => ?_)
        · exact JF2 (Option.some.inj g2).symm _ _ hW hS
        · refine lv_aload_n hx hb d_r_goOn_31 rfl (lv_at hl 0 rfl) ?_
          refine zg_Mo_result M hW (M.2.2.1 _ w_777) d_r_goOn_32 ?_
          refine z_if_ne hx hb d_r_goOn_35 rfl g2 (fun g2 => ?_) (fun g2 => ?_)
          · exact JF2 (Option.some.inj g2).symm _ _ hW hS
          · exact JT2 (Option.some.inj g2).symm _ _ hW hS
      · refine lv_aload_n hx hb d_r_goOn_12 rfl (lv_at hl 0 rfl) ?_
        refine zg_Mo_result M hW (M.2.2.1 _ w_777) d_r_goOn_13 ?_
        refine z_if_ne hx hb d_r_goOn_16 rfl g2 (fun g2 => ?_) (fun g2 => ?_)
        · exact JT2 (Option.some.inj g2).symm _ _ hW hS
        · refine lv_aload_n hx hb d_r_goOn_19 rfl (lv_at hl 0 rfl) ?_
          refine lv_aload_n hx hb d_r_goOn_20 rfl (lv_at hl 0 rfl) ?_
          refine zg_Mo_pos M hW (M.2.2.1 _ w_754) d_r_goOn_21 ?_
          obtain ⟨p3, g13, g2⟩ := ze1 g2
          refine z_callVi (As := [.int (zI (rI u 22))]) (rest := []) (k_r_kindAt F _ _ g13) M hml (cw_r_kindAt M.2.2.1 (M.2.2.1 _ w_936) (by rw [hR]; exact Nat.le_of_ble_eq_true rfl) (by rw [hR]; exact Nat.le_of_ble_eq_true rfl)) (zv_Mo hK hW) hB hW hS rfl hl.1 rfl (Nat.le_of_ble_eq_true rfl) d_r_goOn_24 (by rw [hR]; exact ⟨Nat.zero_le _, Nat.zero_le _⟩) (fun H locs hW hS => ?_)
          refine z_iconst hx hb d_r_goOn_27 ?_
          refine z_icmp_ne hx hb d_r_goOn_28 rfl g2 (fun g2 => ?_) (fun g2 => ?_)
          · exact JF2 (Option.some.inj g2).symm _ _ hW hS
          · refine lv_aload_n hx hb d_r_goOn_31 rfl (lv_at hl 0 rfl) ?_
            refine zg_Mo_result M hW (M.2.2.1 _ w_777) d_r_goOn_32 ?_
            refine z_if_ne hx hb d_r_goOn_35 rfl g2 (fun g2 => ?_) (fun g2 => ?_)
            · exact JF2 (Option.some.inj g2).symm _ _ hW hS
            · exact JT2 (Option.some.inj g2).symm _ _ hW hS
  rw [r_goOn] at hf
  exact C_0 F _ _ _ _ hf (lv_sub hl [0] rfl) hW hS
set_option maxRecDepth 100000 in
set_option maxHeartbeats 4000000 in
theorem k_r_endCommand {l : Launch} {D : va_G} {B : Nat} {y : Nat → ClassId} {ad : Nat × Nat → Nat} {cu : ZC} (F : Nat) (u : ZR) (v1 : Int) (v2 : Int) {res : Int} {uo : ZR} (hf : r_endCommand F u v1 v2 = some (res, uo)) : Met l y_r_endCommand (.code y_r_endCommand b_r_endCommand 4 (some .boolean) :: zt) { frames := 3, cells := 0, slots := 0, locals := 67 } (va_Pc [.ref (ad (10, 0)), .int (zI v1), .int (zI v2)] (fun U => ZP D B y ad true cu u U)) (va_Qi (fun v (_ : Unit) => v = zI res) (fun _ t => ZP D B y ad true cu uo t) (fun x => B ≤ x)) 0 0 (fun x => B ≤ x) := by
  refine Met.ofW (cc := b_r_endCommand) (maxL := 4) (ret := (some .boolean)) (by decide) rfl ?_
  intro p e s m args below meth c s₁ Bd hml hv
  obtain ⟨hargs, hB, hW, hK⟩ := hv
  have hx := Bd.exec
  have hb := Bd.bytes
  have hr := Bd.returns
  have hts0 := atoms_spec (ws := .code y_r_endCommand b_r_endCommand 4 (some .boolean) :: zt) Bd.pre
  have hown : s.vm.findClass "TreeShellModel" = some m.cls := findClass_of_methodNamed Bd.named
  have hlocks := Bd.notSynchronized
  have M : ZM p c b_r_endCommand s args m "TreeShellModel" D y := ⟨hx, hb, fun w h => hts0 w (List.mem_cons_of_mem _ h), hown, hK⟩
  have hS : va_S (fun x => B ≤ x) s.heap s.heap [] := va_S.rf
  have hE := lg_entry_eq m ([.ref (ad (10, 0)), .int (zI v1), .int (zI v2)] : List Value) 4
  rw [← hargs] at hE
  rw [hE]
  have hl := lv_entry ([.ref (ad (10, 0)), .int (zI v1), .int (zI v2)] : List Value) (n := 4) (Nat.le_of_ble_eq_true rfl)
  generalize (lg_sl ([.ref (ad (10, 0)), .int (zI v1), .int (zI v2)] : List Value) ++ List.replicate (4 - (lg_sl ([.ref (ad (10, 0)), .int (zI v1), .int (zI v2)] : List Value)).length) Slot.unset).toArray = ls at hl ⊢
  have hl : lv_has ls 4 [(0, .ref (ad (10, 0))), (1, .int (zI v1)), (2, .int (zI v2))] := hl
  refine z_start (fun Q R hQ hR => ?_)
  generalize hH : s.heap = H at hW
  have hS : va_S (fun x => B ≤ x) s.heap H [] := by rw [← hH]; exact hS
  have C_138 : ∀ (n : Nat), ∀ (u : ZR) (v1 : Int) (v3 : Int) (H : Heap) (locs : List Loc) (ls : Array Slot), r_endCommand_138 F n u v1 v3 = some (res, uo) → lv_has ls 4 [(0, .ref (ad (10, 0))), (1, .int (zI v1)), (3, .int (zI v3))] → ZW D B y ad true cu u H → va_S (fun x => B ≤ x) s.heap H locs → W p l e R s m args below meth c H locs 0 0 Q (F0 m 138 ls []) := by
    intro n
    induction n with
    | zero => intro u v1 v3 H locs ls hf; cases (show (none : Option (Int × ZR)) = some (res, uo) from hf)
    | succ n ih =>
      intro u v1 v3 H locs ls hf hl hW hS
      rw [r_endCommand_138] at hf
      refine lv_iload_n hx hb d_r_endCommand_138 rfl (lv_at hl 2 rfl) ?_
      refine lv_aload_n hx hb d_r_endCommand_139 rfl (lv_at hl 0 rfl) ?_
      refine zg_Mo_textLength M hW (M.2.2.1 _ w_767) d_r_endCommand_140 ?_
      refine z_icmp_ge hx hb d_r_endCommand_143 rfl hf (fun hf => ?_) (fun hf => ?_)
      · refine lv_aload_n hx hb d_r_endCommand_182 rfl (lv_at hl 0 rfl) ?_
        refine zg_Mo_putLength M hW (M.2.2.1 _ w_763) d_r_endCommand_183 ?_
        refine lv_aload_n hx hb d_r_endCommand_186 rfl (lv_at hl 0 rfl) ?_
        refine zg_Mo_level M hW (M.2.2.1 _ w_753) d_r_endCommand_187 ?_
        refine lv_dup2_11 hx hb d_r_endCommand_190 rfl rfl ?_
        obtain ⟨g1, hf⟩ := zg hf
        refine zr_31 M hW g1 d_r_endCommand_191 ?_
        refine lv_aload_n hx hb d_r_endCommand_192 rfl (lv_at hl 0 rfl) ?_
        refine zg_Mo_textLength M hW (M.2.2.1 _ w_767) d_r_endCommand_193 ?_
        refine z_iadd hx hb d_r_endCommand_196 ?_
        refine zw_31 M hW hS g1 d_r_endCommand_197 (fun H locs hW hS => ?_)
        obtain ⟨u8, g2, hf⟩ := ze1 hf
        have g2 := Option.some.inj g2
        rw [g2] at hW
        refine lv_aload_n hx hb d_r_endCommand_198 rfl (lv_at hl 0 rfl) ?_
        refine lv_aload_n hx hb d_r_endCommand_199 rfl (lv_at hl 0 rfl) ?_
        refine zg_Mo_turned M hW (M.2.2.1 _ w_761) d_r_endCommand_200 ?_
        refine lv_aload_n hx hb d_r_endCommand_203 rfl (lv_at hl 0 rfl) ?_
        refine zg_Mo_level M hW (M.2.2.1 _ w_753) d_r_endCommand_204 ?_
        obtain ⟨g3, hf⟩ := zg hf
        refine zr_29 M hW g3 d_r_endCommand_207 ?_
        obtain ⟨x9, g4, hf⟩ := ze1 hf
        have J4 : ∀ (H : Heap) (locs : List Loc) (ls : Array Slot), lv_has ls 4 [(0, .ref (ad (10, 0)))] → ZW D B y ad true cu u8 H → va_S (fun x => B ≤ x) s.heap H locs → W p l e R s m args below meth c H locs 0 0 Q (F0 m 224 ls [.int (zI x9), .ref (ad (10, 0))]) := by
          intro H locs ls hl hW hS
          refine zp_Mo_result M hW hS (M.2.2.1 _ w_777) d_r_endCommand_224 (fun H locs hW hS => ?_)
          refine lv_aload_n hx hb d_r_endCommand_227 rfl (lv_at hl 0 rfl) ?_
          obtain ⟨u10, g5, hf⟩ := ze1 hf
          refine z_callVv (As := []) (rest := []) (k_r_goOn F _ g5) M hml (cw_r_goOn M.2.2.1 (M.2.2.1 _ w_1073) (by rw [hR]; exact Nat.le_of_ble_eq_true rfl) (by rw [hR]; exact Nat.le_of_ble_eq_true rfl)) (zv_Mo hK hW) hB hW hS rfl hl.1 rfl (Nat.le_of_ble_eq_true rfl) d_r_endCommand_228 (by rw [hR]; exact ⟨Nat.zero_le _, Nat.zero_le _⟩) (fun H locs hW hS => ?_)
          refine z_iconst hx hb d_r_endCommand_231 ?_
          cases hf
          subst hQ
          exact z_retz hx hb (Or.inr rfl) hr hlocks hB hK hW hS d_r_endCommand_232
        refine z_if_ne hx hb d_r_endCommand_208 rfl g4 (fun g4 => ?_) (fun g4 => ?_)
        · refine lv_iload_n hx hb d_r_endCommand_215 rfl (lv_at hl 1 rfl) ?_
          refine z_if_ne hx hb d_r_endCommand_216 rfl g4 (fun g4 => ?_) (fun g4 => ?_)
          · refine z_iconst hx hb d_r_endCommand_223 ?_
            cases g4
            exact J4 _ _ _ (lv_sub hl [0] rfl) hW hS
          · refine z_iconst hx hb d_r_endCommand_219 ?_
            refine lv_goto hx hb d_r_endCommand_220 rfl ?_
            cases g4
            exact J4 _ _ _ (lv_sub hl [0] rfl) hW hS
        · refine lv_iload_n hx hb d_r_endCommand_211 rfl (lv_at hl 1 rfl) ?_
          refine lv_goto hx hb d_r_endCommand_212 rfl ?_
          cases g4
          exact J4 _ _ _ (lv_sub hl [0] rfl) hW hS
      · refine lv_aload_n hx hb d_r_endCommand_146 rfl (lv_at hl 0 rfl) ?_
        refine zg_Mo_put M hW (M.2.2.1 _ w_762) d_r_endCommand_147 ?_
        refine z_bipush hx hb d_r_endCommand_150 rfl ?_
        refine lv_aload_n hx hb d_r_endCommand_152 rfl (lv_at hl 0 rfl) ?_
        refine zg_Mo_level M hW (M.2.2.1 _ w_753) d_r_endCommand_153 ?_
        refine z_imul hx hb d_r_endCommand_156 ?_
        refine lv_aload_n hx hb d_r_endCommand_157 rfl (lv_at hl 0 rfl) ?_
        refine zg_Mo_putLength M hW (M.2.2.1 _ w_763) d_r_endCommand_158 ?_
        refine lv_aload_n hx hb d_r_endCommand_161 rfl (lv_at hl 0 rfl) ?_
        refine zg_Mo_level M hW (M.2.2.1 _ w_753) d_r_endCommand_162 ?_
        obtain ⟨g6, hf⟩ := zg hf
        refine zr_31 M hW g6 d_r_endCommand_165 ?_
        refine z_iadd hx hb d_r_endCommand_166 ?_
        refine lv_iload_n hx hb d_r_endCommand_167 rfl (lv_at hl 2 rfl) ?_
        refine z_iadd hx hb d_r_endCommand_168 ?_
        refine lv_aload_n hx hb d_r_endCommand_169 rfl (lv_at hl 0 rfl) ?_
        refine zg_Mo_text M hW (M.2.2.1 _ w_766) d_r_endCommand_170 ?_
        refine lv_iload_n hx hb d_r_endCommand_173 rfl (lv_at hl 2 rfl) ?_
        obtain ⟨g7, hf⟩ := zg hf
        refine zr_34 M hW g7 d_r_endCommand_174 ?_
        obtain ⟨g8, hf⟩ := zg hf
        refine zw_30 M hW hS g8 d_r_endCommand_175 (fun H locs hW hS => ?_)
        obtain ⟨u11, g9, hf⟩ := ze1 hf
        have g9 := Option.some.inj g9
        rw [g9] at hW
        refine lv_iinc (k := 2) (v := zI (v3 + 1)) (lv' := [(3, .int (zI (v3 + 1))), (0, .ref (ad (10, 0))), (1, .int (zI v1))]) hx hb d_r_endCommand_176 hl rfl (zI_add _ _) (by decide) rfl (fun ls hl => ?_)
        refine lv_goto hx hb d_r_endCommand_179 rfl ?_
        exact ih _ _ _ _ _ _ hf (lv_sub hl [1, 2, 0] rfl) hW hS
  have C_64 : ∀ (u : ZR) (v1 : Int) (H : Heap) (locs : List Loc) (ls : Array Slot), r_endCommand_64 F u v1 = some (res, uo) → lv_has ls 4 [(0, .ref (ad (10, 0))), (1, .int (zI v1))] → ZW D B y ad true cu u H → va_S (fun x => B ≤ x) s.heap H locs → W p l e R s m args below meth c H locs 0 0 Q (F0 m 64 ls []) := by
    intro u v1 H locs ls hf hl hW hS
    rw [r_endCommand_64] at hf
    refine lv_aload_n hx hb d_r_endCommand_64 rfl (lv_at hl 0 rfl) ?_
    refine lv_aload_n hx hb d_r_endCommand_65 rfl (lv_at hl 0 rfl) ?_
    refine zg_Mo_pos M hW (M.2.2.1 _ w_754) d_r_endCommand_66 ?_
    obtain ⟨p5, g10, hf⟩ := ze1 hf
    refine z_callVi (As := [.int (zI (rI u 22))]) (rest := []) (k_r_kindAt F _ _ g10) M hml (cw_r_kindAt M.2.2.1 (M.2.2.1 _ w_936) (by rw [hR]; exact Nat.le_of_ble_eq_true rfl) (by rw [hR]; exact Nat.le_of_ble_eq_true rfl)) (zv_Mo hK hW) hB hW hS rfl hl.1 rfl (Nat.le_of_ble_eq_true rfl) d_r_endCommand_69 (by rw [hR]; exact ⟨Nat.zero_le _, Nat.zero_le _⟩) (fun H locs hW hS => ?_)
    refine z_iconst hx hb d_r_endCommand_72 ?_
    refine z_icmp_ne hx hb d_r_endCommand_73 rfl hf (fun hf => ?_) (fun hf => ?_)
    · refine lv_aload_n hx hb d_r_endCommand_113 rfl (lv_at hl 0 rfl) ?_
      refine zg_Mo_putLength M hW (M.2.2.1 _ w_763) d_r_endCommand_114 ?_
      refine lv_aload_n hx hb d_r_endCommand_117 rfl (lv_at hl 0 rfl) ?_
      refine zg_Mo_level M hW (M.2.2.1 _ w_753) d_r_endCommand_118 ?_
      obtain ⟨g11, hf⟩ := zg hf
      refine zr_31 M hW g11 d_r_endCommand_121 ?_
      refine lv_aload_n hx hb d_r_endCommand_122 rfl (lv_at hl 0 rfl) ?_
      refine zg_Mo_textLength M hW (M.2.2.1 _ w_767) d_r_endCommand_123 ?_
      refine z_iadd hx hb d_r_endCommand_126 ?_
      refine lv_aload_n hx hb d_r_endCommand_127 rfl (lv_at hl 0 rfl) ?_
      refine zg_Mo_pipeLimit M hW (M.2.2.1 _ w_734) d_r_endCommand_128 ?_
      refine z_icmp_le hx hb d_r_endCommand_131 rfl hf (fun hf => ?_) (fun hf => ?_)
      · refine z_iconst hx hb d_r_endCommand_136 ?_
        refine lv_istore_n (lv' := [(3, .int (zI 0)), (0, .ref (ad (10, 0))), (1, .int (zI v1))]) hx hb d_r_endCommand_137 rfl hl (by decide) rfl (fun ls hl => ?_)
        exact C_138 F _ _ _ _ _ _ hf (lv_sub hl [1, 2, 0] rfl) hW hS
      · refine z_iconst hx hb d_r_endCommand_134 ?_
        cases hf
        subst hQ
        exact z_retz hx hb (Or.inl rfl) hr hlocks hB hK hW hS d_r_endCommand_135
    · refine lv_aload_n hx hb d_r_endCommand_76 rfl (lv_at hl 0 rfl) ?_
      refine z_iconst hx hb d_r_endCommand_77 ?_
      refine lv_aload_n hx hb d_r_endCommand_78 rfl (lv_at hl 0 rfl) ?_
      refine zg_Mo_level M hW (M.2.2.1 _ w_753) d_r_endCommand_79 ?_
      refine z_imul hx hb d_r_endCommand_82 ?_
      obtain ⟨u6, g12, hf⟩ := ze1 hf
      refine z_callVv (As := [.int (zI (2 * (rI u 21)))]) (rest := []) (k_r_fill F _ _ g12) M hml (cw_r_fill M.2.2.1 (M.2.2.1 _ w_1069) (by rw [hR]; exact Nat.le_of_ble_eq_true rfl) (by rw [hR]; exact Nat.le_of_ble_eq_true rfl)) (zv_Mo hK hW) hB hW hS rfl hl.1 rfl (Nat.le_of_ble_eq_true rfl) d_r_endCommand_83 (by rw [hR]; exact ⟨Nat.zero_le _, Nat.zero_le _⟩) (fun H locs hW hS => ?_)
      refine lv_aload_n hx hb d_r_endCommand_86 rfl (lv_at hl 0 rfl) ?_
      refine zg_Mo_nextIn M hW (M.2.2.1 _ w_757) d_r_endCommand_87 ?_
      refine lv_aload_n hx hb d_r_endCommand_90 rfl (lv_at hl 0 rfl) ?_
      refine zg_Mo_level M hW (M.2.2.1 _ w_753) d_r_endCommand_91 ?_
      refine z_iconst hx hb d_r_endCommand_94 ?_
      refine lv_aload_n hx hb d_r_endCommand_95 rfl (lv_at hl 0 rfl) ?_
      refine zg_Mo_level M hW (M.2.2.1 _ w_753) d_r_endCommand_96 ?_
      refine z_imul hx hb d_r_endCommand_99 ?_
      obtain ⟨g13, hf⟩ := zg hf
      refine zw_25 M hW hS g13 d_r_endCommand_100 (fun H locs hW hS => ?_)
      obtain ⟨u7, g14, hf⟩ := ze1 hf
      have g14 := Option.some.inj g14
      rw [g14] at hW
      refine lv_aload_n hx hb d_r_endCommand_101 rfl (lv_at hl 0 rfl) ?_
      refine lv_aload_n hx hb d_r_endCommand_102 rfl (lv_at hl 0 rfl) ?_
      refine zg_Mo_pos M hW (M.2.2.1 _ w_754) d_r_endCommand_103 ?_
      refine z_iconst hx hb d_r_endCommand_106 ?_
      refine z_iadd hx hb d_r_endCommand_107 ?_
      refine zp_Mo_pos M hW hS (M.2.2.1 _ w_754) d_r_endCommand_108 (fun H locs hW hS => ?_)
      refine z_iconst hx hb d_r_endCommand_111 ?_
      cases hf
      subst hQ
      exact z_retz hx hb (Or.inr rfl) hr hlocks hB hK hW hS d_r_endCommand_112
  rw [r_endCommand] at hf
  refine lv_iload_n hx hb d_r_endCommand_0 rfl (lv_at hl 2 rfl) ?_
  obtain ⟨u2, g15, hf⟩ := ze1 hf
  have J15 : ∀ (H : Heap) (locs : List Loc) (ls : Array Slot), lv_has ls 4 [(0, .ref (ad (10, 0))), (1, .int (zI v1))] → ZW D B y ad true cu u2 H → va_S (fun x => B ≤ x) s.heap H locs → W p l e R s m args below meth c H locs 0 0 Q (F0 m 29 ls []) := by
    intro H locs ls hl hW hS
    refine lv_aload_n hx hb d_r_endCommand_29 rfl (lv_at hl 0 rfl) ?_
    refine zg_Mo_target M hW (M.2.2.1 _ w_758) d_r_endCommand_30 ?_
    refine lv_aload_n hx hb d_r_endCommand_33 rfl (lv_at hl 0 rfl) ?_
    refine zg_Mo_level M hW (M.2.2.1 _ w_753) d_r_endCommand_34 ?_
    obtain ⟨g16, hf⟩ := zg hf
    refine zr_26 M hW g16 d_r_endCommand_37 ?_
    refine z_if_lt hx hb d_r_endCommand_38 rfl hf (fun hf => ?_) (fun hf => ?_)
    · exact C_64 _ _ _ _ _ hf (lv_sub hl [0, 1] rfl) hW hS
    · refine lv_aload_n hx hb d_r_endCommand_41 rfl (lv_at hl 0 rfl) ?_
      refine lv_aload_n hx hb d_r_endCommand_42 rfl (lv_at hl 0 rfl) ?_
      refine zg_Mo_target M hW (M.2.2.1 _ w_758) d_r_endCommand_43 ?_
      refine lv_aload_n hx hb d_r_endCommand_46 rfl (lv_at hl 0 rfl) ?_
      refine zg_Mo_level M hW (M.2.2.1 _ w_753) d_r_endCommand_47 ?_
      refine zr_26 M hW g16 d_r_endCommand_50 ?_
      obtain ⟨p3, u4, g17, hf⟩ := ze2 hf
      refine z_callVi (As := [.int (zI (rA u2 26 (rI u2 21).toNat))]) (rest := []) (k_r_addTo F _ _ g17) M hml (cw_r_addTo M.2.2.1 (M.2.2.1 _ w_1061) (by rw [hR]; exact Nat.le_of_ble_eq_true rfl) (by rw [hR]; exact Nat.le_of_ble_eq_true rfl)) (zv_Mo hK hW) hB hW hS rfl hl.1 rfl (Nat.le_of_ble_eq_true rfl) d_r_endCommand_51 (by rw [hR]; exact ⟨Nat.zero_le _, Nat.zero_le _⟩) (fun H locs hW hS => ?_)
      refine z_if_ne hx hb d_r_endCommand_54 rfl hf (fun hf => ?_) (fun hf => ?_)
      · refine lv_aload_n hx hb d_r_endCommand_59 rfl (lv_at hl 0 rfl) ?_
        refine z_iconst hx hb d_r_endCommand_60 ?_
        refine zp_Mo_textLength M hW hS (M.2.2.1 _ w_767) d_r_endCommand_61 (fun H locs hW hS => ?_)
        exact C_64 _ _ _ _ _ hf (lv_sub hl [0, 1] rfl) hW hS
      · refine z_iconst hx hb d_r_endCommand_57 ?_
        cases hf
        subst hQ
        exact z_retz hx hb (Or.inl rfl) hr hlocks hB hK hW hS d_r_endCommand_58
  obtain ⟨b1, g18, g15⟩ := ze1 g15
  have JT18 : b1 = true → ∀ (H : Heap) (locs : List Loc), ZW D B y ad true cu u H → va_S (fun x => B ≤ x) s.heap H locs → W p l e R s m args below meth c H locs 0 0 Q (F0 m 16 ls []) := by
    intro hv H locs hW hS
    have g15 := zp (hv) g15
    refine lv_aload_n hx hb d_r_endCommand_16 rfl (lv_at hl 0 rfl) ?_
    refine lv_aload_n hx hb d_r_endCommand_17 rfl (lv_at hl 0 rfl) ?_
    refine zg_Mo_back M hW (M.2.2.1 _ w_759) d_r_endCommand_18 ?_
    refine lv_aload_n hx hb d_r_endCommand_21 rfl (lv_at hl 0 rfl) ?_
    refine zg_Mo_level M hW (M.2.2.1 _ w_753) d_r_endCommand_22 ?_
    obtain ⟨g19, g15⟩ := zg g15
    refine zr_27 M hW g19 d_r_endCommand_25 ?_
    refine zp_Mo_here M hW hS (M.2.2.1 _ w_741) d_r_endCommand_26 (fun H locs hW hS => ?_)
    cases g15
    exact J15 _ _ _ (lv_sub hl [0, 1] rfl) hW hS
  have JF18 : b1 = false → ∀ (H : Heap) (locs : List Loc), ZW D B y ad true cu u H → va_S (fun x => B ≤ x) s.heap H locs → W p l e R s m args below meth c H locs 0 0 Q (F0 m 29 ls []) := by
    intro hv H locs hW hS
    have g15 := zn (by rw [hv]; decide) g15
    cases g15
    exact J15 _ _ _ (lv_sub hl [0, 1] rfl) hW hS
  refine z_if_ne hx hb d_r_endCommand_1 rfl g18 (fun g18 => ?_) (fun g18 => ?_)
  · exact JT18 (Option.some.inj g18).symm _ _ hW hS
  · refine lv_aload_n hx hb d_r_endCommand_4 rfl (lv_at hl 0 rfl) ?_
    refine zg_Mo_many M hW (M.2.2.1 _ w_760) d_r_endCommand_5 ?_
    refine lv_aload_n hx hb d_r_endCommand_8 rfl (lv_at hl 0 rfl) ?_
    refine zg_Mo_level M hW (M.2.2.1 _ w_753) d_r_endCommand_9 ?_
    obtain ⟨g20, g18⟩ := zg g18
    refine zr_28 M hW g20 d_r_endCommand_12 ?_
    refine z_if_eq hx hb d_r_endCommand_13 rfl g18 (fun g18 => ?_) (fun g18 => ?_)
    · exact JF18 (Option.some.inj g18).symm _ _ hW hS
    · exact JT18 (Option.some.inj g18).symm _ _ hW hS
set_option maxRecDepth 100000 in
set_option maxHeartbeats 4000000 in
theorem k_r_closeGroup {l : Launch} {D : va_G} {B : Nat} {y : Nat → ClassId} {ad : Nat × Nat → Nat} {cu : ZC} (F : Nat) (u : ZR) {res : Int} {uo : ZR} (hf : r_closeGroup F u = some (res, uo)) : Met l y_r_closeGroup (.code y_r_closeGroup b_r_closeGroup 2 (some .boolean) :: zt) { frames := 4, cells := 0, slots := 0, locals := 90 } (va_Pc [.ref (ad (10, 0))] (fun U => ZP D B y ad true cu u U)) (va_Qi (fun v (_ : Unit) => v = zI res) (fun _ t => ZP D B y ad true cu uo t) (fun x => B ≤ x)) 0 0 (fun x => B ≤ x) := by
  refine Met.ofW (cc := b_r_closeGroup) (maxL := 2) (ret := (some .boolean)) (by decide) rfl ?_
  intro p e s m args below meth c s₁ Bd hml hv
  obtain ⟨hargs, hB, hW, hK⟩ := hv
  have hx := Bd.exec
  have hb := Bd.bytes
  have hr := Bd.returns
  have hts0 := atoms_spec (ws := .code y_r_closeGroup b_r_closeGroup 2 (some .boolean) :: zt) Bd.pre
  have hown : s.vm.findClass "TreeShellModel" = some m.cls := findClass_of_methodNamed Bd.named
  have hlocks := Bd.notSynchronized
  have M : ZM p c b_r_closeGroup s args m "TreeShellModel" D y := ⟨hx, hb, fun w h => hts0 w (List.mem_cons_of_mem _ h), hown, hK⟩
  have hS : va_S (fun x => B ≤ x) s.heap s.heap [] := va_S.rf
  have hE := lg_entry_eq m ([.ref (ad (10, 0))] : List Value) 2
  rw [← hargs] at hE
  rw [hE]
  have hl := lv_entry ([.ref (ad (10, 0))] : List Value) (n := 2) (Nat.le_of_ble_eq_true rfl)
  generalize (lg_sl ([.ref (ad (10, 0))] : List Value) ++ List.replicate (2 - (lg_sl ([.ref (ad (10, 0))] : List Value)).length) Slot.unset).toArray = ls at hl ⊢
  have hl : lv_has ls 2 [(0, .ref (ad (10, 0)))] := hl
  refine z_start (fun Q R hQ hR => ?_)
  generalize hH : s.heap = H at hW
  have hS : va_S (fun x => B ≤ x) s.heap H [] := by rw [← hH]; exact hS
  have C_15 : ∀ (n : Nat), ∀ (u : ZR) (v1 : Int) (H : Heap) (locs : List Loc) (ls : Array Slot), r_closeGroup_15 F n u v1 = some (res, uo) → lv_has ls 2 [(0, .ref (ad (10, 0))), (1, .int (zI v1))] → ZW D B y ad true cu u H → va_S (fun x => B ≤ x) s.heap H locs → W p l e R s m args below meth c H locs 0 0 Q (F0 m 15 ls []) := by
    intro n
    induction n with
    | zero => intro u v1 H locs ls hf; cases (show (none : Option (Int × ZR)) = some (res, uo) from hf)
    | succ n ih =>
      intro u v1 H locs ls hf hl hW hS
      rw [r_closeGroup_15] at hf
      refine lv_iload_n hx hb d_r_closeGroup_15 rfl (lv_at hl 1 rfl) ?_
      refine lv_aload_n hx hb d_r_closeGroup_16 rfl (lv_at hl 0 rfl) ?_
      refine zg_Mo_textLength M hW (M.2.2.1 _ w_767) d_r_closeGroup_17 ?_
      refine z_icmp_ge hx hb d_r_closeGroup_20 rfl hf (fun hf => ?_) (fun hf => ?_)
      · refine lv_aload_n hx hb d_r_closeGroup_49 rfl (lv_at hl 0 rfl) ?_
        refine lv_aload_n hx hb d_r_closeGroup_50 rfl (lv_at hl 0 rfl) ?_
        refine zg_Mo_level M hW (M.2.2.1 _ w_753) d_r_closeGroup_51 ?_
        refine z_iconst hx hb d_r_closeGroup_54 ?_
        refine z_isub hx hb d_r_closeGroup_55 ?_
        refine zp_Mo_level M hW hS (M.2.2.1 _ w_753) d_r_closeGroup_56 (fun H locs hW hS => ?_)
        refine lv_aload_n hx hb d_r_closeGroup_59 rfl (lv_at hl 0 rfl) ?_
        refine lv_aload_n hx hb d_r_closeGroup_60 rfl (lv_at hl 0 rfl) ?_
        refine lv_aload_n hx hb d_r_closeGroup_61 rfl (lv_at hl 0 rfl) ?_
        refine zg_Mo_pos M hW (M.2.2.1 _ w_754) d_r_closeGroup_62 ?_
        refine z_iconst hx hb d_r_closeGroup_65 ?_
        refine z_iadd hx hb d_r_closeGroup_66 ?_
        refine z_iconst hx hb d_r_closeGroup_67 ?_
        obtain ⟨p1, g1, hf⟩ := ze1 hf
        refine z_callVi (As := [.int (zI ((rI (tI u 21 ((rI u 21) - 1)) 22) + 1)), .int (zI 1)]) (rest := [.ref (ad (10, 0))]) (k_r_pipelineEnd F _ _ _ g1) M hml (cw_r_pipelineEnd M.2.2.1 (M.2.2.1 _ w_940) (by rw [hR]; exact Nat.le_of_ble_eq_true rfl) (by rw [hR]; exact Nat.le_of_ble_eq_true rfl)) (zv_Mo hK hW) hB hW hS rfl hl.1 rfl (Nat.le_of_ble_eq_true rfl) d_r_closeGroup_68 (by rw [hR]; exact ⟨Nat.zero_le _, Nat.zero_le _⟩) (fun H locs hW hS => ?_)
        refine zp_Mo_pos M hW hS (M.2.2.1 _ w_754) d_r_closeGroup_71 (fun H locs hW hS => ?_)
        refine lv_aload_n hx hb d_r_closeGroup_74 rfl (lv_at hl 0 rfl) ?_
        refine lv_aload_n hx hb d_r_closeGroup_75 rfl (lv_at hl 0 rfl) ?_
        refine zg_Mo_result M hW (M.2.2.1 _ w_777) d_r_closeGroup_76 ?_
        refine z_iconst hx hb d_r_closeGroup_79 ?_
        obtain ⟨p2, u3, g2, hf⟩ := ze2 hf
        refine z_callVi (As := [.int (zI (rI (tI (tI u 21 ((rI u 21) - 1)) 22 p1) 45)), .int (zI 1)]) (rest := []) (k_r_endCommand F _ _ _ g2) M hml (cw_r_endCommand M.2.2.1 (M.2.2.1 _ w_1057) (by rw [hR]; exact Nat.le_of_ble_eq_true rfl) (by rw [hR]; exact Nat.le_of_ble_eq_true rfl)) (zv_Mo hK hW) hB hW hS rfl hl.1 rfl (Nat.le_of_ble_eq_true rfl) d_r_closeGroup_80 (by rw [hR]; exact ⟨Nat.zero_le _, Nat.zero_le _⟩) (fun H locs hW hS => ?_)
        obtain ⟨g3, hf⟩ := zg hf
        cases hf
        subst hQ
        exact z_retz hx hb g3 hr hlocks hB hK hW hS d_r_closeGroup_83
      · refine lv_aload_n hx hb d_r_closeGroup_23 rfl (lv_at hl 0 rfl) ?_
        refine zg_Mo_text M hW (M.2.2.1 _ w_766) d_r_closeGroup_24 ?_
        refine lv_iload_n hx hb d_r_closeGroup_27 rfl (lv_at hl 1 rfl) ?_
        refine lv_aload_n hx hb d_r_closeGroup_28 rfl (lv_at hl 0 rfl) ?_
        refine zg_Mo_put M hW (M.2.2.1 _ w_762) d_r_closeGroup_29 ?_
        refine z_bipush hx hb d_r_closeGroup_32 rfl ?_
        refine lv_aload_n hx hb d_r_closeGroup_34 rfl (lv_at hl 0 rfl) ?_
        refine zg_Mo_level M hW (M.2.2.1 _ w_753) d_r_closeGroup_35 ?_
        refine z_imul hx hb d_r_closeGroup_38 ?_
        refine lv_iload_n hx hb d_r_closeGroup_39 rfl (lv_at hl 1 rfl) ?_
        refine z_iadd hx hb d_r_closeGroup_40 ?_
        obtain ⟨g4, hf⟩ := zg hf
        refine zr_30 M hW g4 d_r_closeGroup_41 ?_
        obtain ⟨g5, hf⟩ := zg hf
        refine zw_34 M hW hS g5 d_r_closeGroup_42 (fun H locs hW hS => ?_)
        obtain ⟨u4, g6, hf⟩ := ze1 hf
        have g6 := Option.some.inj g6
        rw [g6] at hW
        refine lv_iinc (k := 1) (v := zI (v1 + 1)) (lv' := [(1, .int (zI (v1 + 1))), (0, .ref (ad (10, 0)))]) hx hb d_r_closeGroup_43 hl rfl (zI_add _ _) (by decide) rfl (fun ls hl => ?_)
        refine lv_goto hx hb d_r_closeGroup_46 rfl ?_
        exact ih _ _ _ _ _ hf (lv_sub hl [1, 0] rfl) hW hS
  rw [r_closeGroup] at hf
  refine lv_aload_n hx hb d_r_closeGroup_0 rfl (lv_at hl 0 rfl) ?_
  refine lv_aload_n hx hb d_r_closeGroup_1 rfl (lv_at hl 0 rfl) ?_
  refine zg_Mo_putLength M hW (M.2.2.1 _ w_763) d_r_closeGroup_2 ?_
  refine lv_aload_n hx hb d_r_closeGroup_5 rfl (lv_at hl 0 rfl) ?_
  refine zg_Mo_level M hW (M.2.2.1 _ w_753) d_r_closeGroup_6 ?_
  obtain ⟨g7, hf⟩ := zg hf
  refine zr_31 M hW g7 d_r_closeGroup_9 ?_
  refine zp_Mo_textLength M hW hS (M.2.2.1 _ w_767) d_r_closeGroup_10 (fun H locs hW hS => ?_)
  refine z_iconst hx hb d_r_closeGroup_13 ?_
  refine lv_istore_n (lv' := [(1, .int (zI 0)), (0, .ref (ad (10, 0)))]) hx hb d_r_closeGroup_14 rfl hl (by decide) rfl (fun ls hl => ?_)
  exact C_15 F _ _ _ _ _ hf (lv_sub hl [1, 0] rfl) hW hS
set_option maxRecDepth 100000 in
set_option maxHeartbeats 4000000 in
theorem k_r_execute {l : Launch} {D : va_G} {B : Nat} {y : Nat → ClassId} {ad : Nat × Nat → Nat} {cu : ZC} (F : Nat) (u : ZR) {res : Int} {uo : ZR} (hf : r_execute F u = some (res, uo)) : Met l y_r_execute (.code y_r_execute b_r_execute 3 (some .boolean) :: zt) { frames := 7, cells := 0, slots := 0, locals := 176 } (va_Pc [.ref (ad (10, 0))] (fun U => ZP D B y ad true cu u U)) (va_Qi (fun v (_ : Unit) => v = zI res) (fun _ t => ZP D B y ad true cu uo t) (fun x => B ≤ x)) 0 0 (fun x => B ≤ x) := by
  refine Met.ofW (cc := b_r_execute) (maxL := 3) (ret := (some .boolean)) (by decide) rfl ?_
  intro p e s m args below meth c s₁ Bd hml hv
  obtain ⟨hargs, hB, hW, hK⟩ := hv
  have hx := Bd.exec
  have hb := Bd.bytes
  have hr := Bd.returns
  have hts0 := atoms_spec (ws := .code y_r_execute b_r_execute 3 (some .boolean) :: zt) Bd.pre
  have hown : s.vm.findClass "TreeShellModel" = some m.cls := findClass_of_methodNamed Bd.named
  have hlocks := Bd.notSynchronized
  have M : ZM p c b_r_execute s args m "TreeShellModel" D y := ⟨hx, hb, fun w h => hts0 w (List.mem_cons_of_mem _ h), hown, hK⟩
  have hS : va_S (fun x => B ≤ x) s.heap s.heap [] := va_S.rf
  have hE := lg_entry_eq m ([.ref (ad (10, 0))] : List Value) 3
  rw [← hargs] at hE
  rw [hE]
  have hl := lv_entry ([.ref (ad (10, 0))] : List Value) (n := 3) (Nat.le_of_ble_eq_true rfl)
  generalize (lg_sl ([.ref (ad (10, 0))] : List Value) ++ List.replicate (3 - (lg_sl ([.ref (ad (10, 0))] : List Value)).length) Slot.unset).toArray = ls at hl ⊢
  have hl : lv_has ls 3 [(0, .ref (ad (10, 0)))] := hl
  refine z_start (fun Q R hQ hR => ?_)
  generalize hH : s.heap = H at hW
  have hS : va_S (fun x => B ≤ x) s.heap H [] := by rw [← hH]; exact hS
  have C_41 : ∀ (k6 : ZR → Int → Option (Int × ZR)) (hk6 : ∀ (u : ZR) (v1 : Int) (H : Heap) (locs : List Loc) (ls : Array Slot), k6 u v1 = some (res, uo) → lv_has ls 3 [(0, .ref (ad (10, 0))), (1, .int (zI v1))] → ZW D B y ad true cu u H → va_S (fun x => B ≤ x) s.heap H locs → W p l e R s m args below meth c H locs 0 0 Q (F0 m 6 ls [])) , ∀ (n : Nat), ∀ (u : ZR) (v1 : Int) (v2 : Int) (H : Heap) (locs : List Loc) (ls : Array Slot), r_execute_41 F k6 n u v1 v2 = some (res, uo) → lv_has ls 3 [(0, .ref (ad (10, 0))), (1, .int (zI v1)), (2, .int (zI v2))] → ZW D B y ad true cu u H → va_S (fun x => B ≤ x) s.heap H locs → W p l e R s m args below meth c H locs 0 0 Q (F0 m 41 ls []) := by
    intro k6 hk6 n
    induction n with
    | zero => intro u v1 v2 H locs ls hf; cases (show (none : Option (Int × ZR)) = some (res, uo) from hf)
    | succ n ih =>
      intro u v1 v2 H locs ls hf hl hW hS
      rw [r_execute_41] at hf
      refine lv_iload_n hx hb d_r_execute_41 rfl (lv_at hl 2 rfl) ?_
      obtain ⟨b7, g1, hf⟩ := ze1 hf
      have JT1 : b7 = true → ∀ (H : Heap) (locs : List Loc), ZW D B y ad true cu u H → va_S (fun x => B ≤ x) s.heap H locs → W p l e R s m args below meth c H locs 0 0 Q (F0 m 67 ls []) := by
        intro hv H locs hW hS
        have hf := zp (hv) hf
        refine lv_iload_n hx hb d_r_execute_67 rfl (lv_at hl 2 rfl) ?_
        obtain ⟨b8, g2, hf⟩ := ze1 hf
        have JT2 : b8 = true → ∀ (H : Heap) (locs : List Loc), ZW D B y ad true cu u H → va_S (fun x => B ≤ x) s.heap H locs → W p l e R s m args below meth c H locs 0 0 Q (F0 m 84 ls []) := by
          intro hv H locs hW hS
          have hf := zp (hv) hf
          refine lv_iinc (k := 1) (v := zI (v1 + 1)) (lv' := [(1, .int (zI (v1 + 1))), (0, .ref (ad (10, 0))), (2, .int (zI v2))]) hx hb d_r_execute_84 hl rfl (zI_add _ _) (by decide) rfl (fun ls hl => ?_)
          refine lv_goto hx hb d_r_execute_87 rfl ?_
          exact hk6 _ _ _ _ _ hf (lv_sub hl [1, 0] rfl) hW hS
        have JF2 : b8 = false → ∀ (H : Heap) (locs : List Loc), ZW D B y ad true cu u H → va_S (fun x => B ≤ x) s.heap H locs → W p l e R s m args below meth c H locs 0 0 Q (F0 m 82 ls []) := by
          intro hv H locs hW hS
          have hf := zn (by rw [hv]; decide) hf
          refine z_iconst hx hb d_r_execute_82 ?_
          cases hf
          subst hQ
          exact z_retz hx hb (Or.inr rfl) hr hlocks hB hK hW hS d_r_execute_83
        refine z_if_lt hx hb d_r_execute_68 rfl g2 (fun g2 => ?_) (fun g2 => ?_)
        · exact JT2 (Option.some.inj g2).symm _ _ hW hS
        · refine lv_aload_n hx hb d_r_execute_71 rfl (lv_at hl 0 rfl) ?_
          refine zg_Mo_pos M hW (M.2.2.1 _ w_754) d_r_execute_72 ?_
          refine lv_aload_n hx hb d_r_execute_75 rfl (lv_at hl 0 rfl) ?_
          refine zg_Mo_tokens M hW (M.2.2.1 _ w_744) d_r_execute_76 ?_
          refine z_icmp_lt hx hb d_r_execute_79 rfl g2 (fun g2 => ?_) (fun g2 => ?_)
          · exact JT2 (Option.some.inj g2).symm _ _ hW hS
          · exact JF2 (Option.some.inj g2).symm _ _ hW hS
      have JF1 : b7 = false → ∀ (H : Heap) (locs : List Loc), ZW D B y ad true cu u H → va_S (fun x => B ≤ x) s.heap H locs → W p l e R s m args below meth c H locs 0 0 Q (F0 m 58 ls []) := by
        intro hv H locs hW hS
        have hf := zn (by rw [hv]; decide) hf
        refine lv_aload_n hx hb d_r_execute_58 rfl (lv_at hl 0 rfl) ?_
        obtain ⟨p9, u10, g3, hf⟩ := ze2 hf
        refine z_callVi (As := []) (rest := []) (k_r_closeGroup F _ g3) M hml (cw_r_closeGroup M.2.2.1 (M.2.2.1 _ w_1077) (by rw [hR]; exact Nat.le_of_ble_eq_true rfl) (by rw [hR]; exact Nat.le_of_ble_eq_true rfl)) (zv_Mo hK hW) hB hW hS rfl hl.1 rfl (Nat.le_of_ble_eq_true rfl) d_r_execute_59 (by rw [hR]; exact ⟨Nat.zero_le _, Nat.zero_le _⟩) (fun H locs hW hS => ?_)
        refine z_if_ne hx hb d_r_execute_62 rfl hf (fun hf => ?_) (fun hf => ?_)
        · exact ih _ _ _ _ _ _ hf (lv_sub hl [0, 1, 2] rfl) hW hS
        · refine z_iconst hx hb d_r_execute_65 ?_
          cases hf
          subst hQ
          exact z_retz hx hb (Or.inl rfl) hr hlocks hB hK hW hS d_r_execute_66
      refine z_if_lt hx hb d_r_execute_42 rfl g1 (fun g1 => ?_) (fun g1 => ?_)
      · exact JT1 (Option.some.inj g1).symm _ _ hW hS
      · refine lv_aload_n hx hb d_r_execute_45 rfl (lv_at hl 0 rfl) ?_
        refine lv_aload_n hx hb d_r_execute_46 rfl (lv_at hl 0 rfl) ?_
        refine zg_Mo_pos M hW (M.2.2.1 _ w_754) d_r_execute_47 ?_
        obtain ⟨p6, g4, g1⟩ := ze1 g1
        refine z_callVi (As := [.int (zI (rI u 22))]) (rest := []) (k_r_kindAt F _ _ g4) M hml (cw_r_kindAt M.2.2.1 (M.2.2.1 _ w_936) (by rw [hR]; exact Nat.le_of_ble_eq_true rfl) (by rw [hR]; exact Nat.le_of_ble_eq_true rfl)) (zv_Mo hK hW) hB hW hS rfl hl.1 rfl (Nat.le_of_ble_eq_true rfl) d_r_execute_50 (by rw [hR]; exact ⟨Nat.zero_le _, Nat.zero_le _⟩) (fun H locs hW hS => ?_)
        refine z_bipush hx hb d_r_execute_53 rfl ?_
        refine z_icmp_ne hx hb d_r_execute_55 rfl g1 (fun g1 => ?_) (fun g1 => ?_)
        · exact JT1 (Option.some.inj g1).symm _ _ hW hS
        · exact JF1 (Option.some.inj g1).symm _ _ hW hS
  have C_6 : ∀ (n : Nat), ∀ (u : ZR) (v1 : Int) (H : Heap) (locs : List Loc) (ls : Array Slot), r_execute_6 F n u v1 = some (res, uo) → lv_has ls 3 [(0, .ref (ad (10, 0))), (1, .int (zI v1))] → ZW D B y ad true cu u H → va_S (fun x => B ≤ x) s.heap H locs → W p l e R s m args below meth c H locs 0 0 Q (F0 m 6 ls []) := by
    intro n
    induction n with
    | zero => intro u v1 H locs ls hf; cases (show (none : Option (Int × ZR)) = some (res, uo) from hf)
    | succ n ih =>
      intro u v1 H locs ls hf hl hW hS
      rw [r_execute_6] at hf
      refine lv_iload_n hx hb d_r_execute_6 rfl (lv_at hl 1 rfl) ?_
      refine z_sipush hx hb d_r_execute_7 rfl ?_
      refine z_icmp_ge hx hb d_r_execute_10 rfl hf (fun hf => ?_) (fun hf => ?_)
      · refine z_iconst hx hb d_r_execute_90 ?_
        cases hf
        subst hQ
        exact z_retz hx hb (Or.inr rfl) hr hlocks hB hK hW hS d_r_execute_91
      · refine lv_aload_n hx hb d_r_execute_13 rfl (lv_at hl 0 rfl) ?_
        obtain ⟨p2, u3, g5, hf⟩ := ze2 hf
        refine z_callVi (As := []) (rest := []) (k_r_startCommand F _ g5) M hml (cw_r_startCommand M.2.2.1 (M.2.2.1 _ w_944) (by rw [hR]; exact Nat.le_of_ble_eq_true rfl) (by rw [hR]; exact Nat.le_of_ble_eq_true rfl)) (zv_Mo hK hW) hB hW hS rfl hl.1 rfl (Nat.le_of_ble_eq_true rfl) d_r_execute_14 (by rw [hR]; exact ⟨Nat.zero_le _, Nat.zero_le _⟩) (fun H locs hW hS => ?_)
        refine lv_istore_n (lv' := [(2, .int (zI p2)), (0, .ref (ad (10, 0))), (1, .int (zI v1))]) hx hb d_r_execute_17 rfl hl (by decide) rfl (fun ls hl => ?_)
        refine lv_iload_n hx hb d_r_execute_18 rfl (lv_at hl 0 rfl) ?_
        refine z_bipush hx hb d_r_execute_19 rfl ?_
        refine z_icmp_ne hx hb d_r_execute_21 rfl hf (fun hf => ?_) (fun hf => ?_)
        · refine lv_iload_n hx hb d_r_execute_26 rfl (lv_at hl 0 rfl) ?_
          refine z_if_lt hx hb d_r_execute_27 rfl hf (fun hf => ?_) (fun hf => ?_)
          · exact C_41 _ ih F _ _ _ _ _ _ hf (lv_sub hl [1, 2, 0] rfl) hW hS
          · refine lv_aload_n hx hb d_r_execute_30 rfl (lv_at hl 1 rfl) ?_
            refine lv_iload_n hx hb d_r_execute_31 rfl (lv_at hl 0 rfl) ?_
            refine z_iconst hx hb d_r_execute_32 ?_
            obtain ⟨p4, u5, g6, hf⟩ := ze2 hf
            refine z_callVi (As := [.int (zI p2), .int (zI 0)]) (rest := []) (k_r_endCommand F _ _ _ g6) M hml (cw_r_endCommand M.2.2.1 (M.2.2.1 _ w_1057) (by rw [hR]; exact Nat.le_of_ble_eq_true rfl) (by rw [hR]; exact Nat.le_of_ble_eq_true rfl)) (zv_Mo hK hW) hB hW hS rfl hl.1 rfl (Nat.le_of_ble_eq_true rfl) d_r_execute_33 (by rw [hR]; exact ⟨Nat.zero_le _, Nat.zero_le _⟩) (fun H locs hW hS => ?_)
            refine z_if_ne hx hb d_r_execute_36 rfl hf (fun hf => ?_) (fun hf => ?_)
            · exact C_41 _ ih F _ _ _ _ _ _ hf (lv_sub hl [1, 2, 0] rfl) hW hS
            · refine z_iconst hx hb d_r_execute_39 ?_
              cases hf
              subst hQ
              exact z_retz hx hb (Or.inl rfl) hr hlocks hB hK hW hS d_r_execute_40
        · refine z_iconst hx hb d_r_execute_24 ?_
          cases hf
          subst hQ
          exact z_retz hx hb (Or.inl rfl) hr hlocks hB hK hW hS d_r_execute_25
  rw [r_execute] at hf
  refine lv_aload_n hx hb d_r_execute_0 rfl (lv_at hl 0 rfl) ?_
  obtain ⟨u1, g7, hf⟩ := ze1 hf
  refine z_callVv (As := []) (rest := []) (k_r_startPipeline F _ g7) M hml (cw_r_startPipeline M.2.2.1 (M.2.2.1 _ w_932) (by rw [hR]; exact Nat.le_of_ble_eq_true rfl) (by rw [hR]; exact Nat.le_of_ble_eq_true rfl)) (zv_Mo hK hW) hB hW hS rfl hl.1 rfl (Nat.le_of_ble_eq_true rfl) d_r_execute_1 (by rw [hR]; exact ⟨Nat.zero_le _, Nat.zero_le _⟩) (fun H locs hW hS => ?_)
  refine z_iconst hx hb d_r_execute_4 ?_
  refine lv_istore_n (lv' := [(1, .int (zI 0)), (0, .ref (ad (10, 0)))]) hx hb d_r_execute_5 rfl hl (by decide) rfl (fun ls hl => ?_)
  exact C_6 F _ _ _ _ _ hf (lv_sub hl [1, 0] rfl) hW hS
set_option maxRecDepth 100000 in
set_option maxHeartbeats 4000000 in
theorem k_r_giveUp {l : Launch} {D : va_G} {B : Nat} {y : Nat → ClassId} {ad : Nat × Nat → Nat} {cu : ZC} (F : Nat) (u : ZR) {uo : ZR} (hf : r_giveUp F u = some uo) : Met l y_r_giveUp (.code y_r_giveUp b_r_giveUp 2 none :: zt) { frames := 0, cells := 0, slots := 0, locals := 0 } (va_Pc [.ref (ad (10, 0))] (fun U => ZP D B y ad true cu u U)) (va_Qv (fun (_ : Unit) => True) (fun _ t => ZP D B y ad true cu uo t) (fun x => B ≤ x)) 0 0 (fun x => B ≤ x) := by
  refine Met.ofW (cc := b_r_giveUp) (maxL := 2) (ret := none) (by decide) rfl ?_
  intro p e s m args below meth c s₁ Bd hml hv
  obtain ⟨hargs, hB, hW, hK⟩ := hv
  have hx := Bd.exec
  have hb := Bd.bytes
  have hr := Bd.returns
  have hts0 := atoms_spec (ws := .code y_r_giveUp b_r_giveUp 2 none :: zt) Bd.pre
  have hown : s.vm.findClass "TreeShellModel" = some m.cls := findClass_of_methodNamed Bd.named
  have hlocks := Bd.notSynchronized
  have M : ZM p c b_r_giveUp s args m "TreeShellModel" D y := ⟨hx, hb, fun w h => hts0 w (List.mem_cons_of_mem _ h), hown, hK⟩
  have hS : va_S (fun x => B ≤ x) s.heap s.heap [] := va_S.rf
  have hE := lg_entry_eq m ([.ref (ad (10, 0))] : List Value) 2
  rw [← hargs] at hE
  rw [hE]
  have hl := lv_entry ([.ref (ad (10, 0))] : List Value) (n := 2) (Nat.le_of_ble_eq_true rfl)
  generalize (lg_sl ([.ref (ad (10, 0))] : List Value) ++ List.replicate (2 - (lg_sl ([.ref (ad (10, 0))] : List Value)).length) Slot.unset).toArray = ls at hl ⊢
  have hl : lv_has ls 2 [(0, .ref (ad (10, 0)))] := hl
  refine z_start (fun Q R hQ hR => ?_)
  generalize hH : s.heap = H at hW
  have hS : va_S (fun x => B ≤ x) s.heap H [] := by rw [← hH]; exact hS
  have C_5 : ∀ (n : Nat), ∀ (u : ZR) (v1 : Int) (H : Heap) (locs : List Loc) (ls : Array Slot), r_giveUp_5 F n u v1 = some uo → lv_has ls 2 [(0, .ref (ad (10, 0))), (1, .int (zI v1))] → ZW D B y ad true cu u H → va_S (fun x => B ≤ x) s.heap H locs → W p l e R s m args below meth c H locs 0 0 Q (F0 m 5 ls []) := by
    intro n
    induction n with
    | zero => intro u v1 H locs ls hf; cases (show (none : Option (ZR)) = some uo from hf)
    | succ n ih =>
      intro u v1 H locs ls hf hl hW hS
      rw [r_giveUp_5] at hf
      refine lv_iload_n hx hb d_r_giveUp_5 rfl (lv_at hl 1 rfl) ?_
      refine z_if_lt hx hb d_r_giveUp_6 rfl hf (fun hf => ?_) (fun hf => ?_)
      · refine lv_aload_n hx hb d_r_giveUp_42 rfl (lv_at hl 0 rfl) ?_
        refine z_bipush hx hb d_r_giveUp_43 rfl ?_
        refine zp_Mo_result M hW hS (M.2.2.1 _ w_777) d_r_giveUp_45 (fun H locs hW hS => ?_)
        cases hf
        subst hQ
        exact z_retv hx hb hr hlocks hB hK hW hS d_r_giveUp_48
      · refine lv_iload_n hx hb d_r_giveUp_9 rfl (lv_at hl 1 rfl) ?_
        refine lv_aload_n hx hb d_r_giveUp_10 rfl (lv_at hl 0 rfl) ?_
        refine zg_Mo_level M hW (M.2.2.1 _ w_753) d_r_giveUp_11 ?_
        obtain ⟨u2, g1, hf⟩ := ze1 hf
        have J1 : ∀ (H : Heap) (locs : List Loc) (ls : Array Slot), lv_has ls 2 [(0, .ref (ad (10, 0))), (1, .int (zI v1))] → ZW D B y ad true cu u2 H → va_S (fun x => B ≤ x) s.heap H locs → W p l e R s m args below meth c H locs 0 0 Q (F0 m 36 ls []) := by
          intro H locs ls hl hW hS
          refine lv_iinc (k := 1) (v := zI (v1 + (-1))) (lv' := [(1, .int (zI (v1 + (-1)))), (0, .ref (ad (10, 0)))]) hx hb d_r_giveUp_36 hl rfl (zI_add _ _) (by decide) rfl (fun ls hl => ?_)
          refine lv_goto hx hb d_r_giveUp_39 rfl ?_
          exact ih _ _ _ _ _ hf (lv_sub hl [1, 0] rfl) hW hS
        obtain ⟨b1, g2, g1⟩ := ze1 g1
        have JT2 : b1 = true → ∀ (H : Heap) (locs : List Loc), ZW D B y ad true cu u H → va_S (fun x => B ≤ x) s.heap H locs → W p l e R s m args below meth c H locs 0 0 Q (F0 m 26 ls []) := by
          intro hv H locs hW hS
          have g1 := zp (hv) g1
          refine lv_aload_n hx hb d_r_giveUp_26 rfl (lv_at hl 0 rfl) ?_
          refine lv_aload_n hx hb d_r_giveUp_27 rfl (lv_at hl 0 rfl) ?_
          refine zg_Mo_back M hW (M.2.2.1 _ w_759) d_r_giveUp_28 ?_
          refine lv_iload_n hx hb d_r_giveUp_31 rfl (lv_at hl 1 rfl) ?_
          obtain ⟨g3, g1⟩ := zg g1
          refine zr_27 M hW g3 d_r_giveUp_32 ?_
          refine zp_Mo_here M hW hS (M.2.2.1 _ w_741) d_r_giveUp_33 (fun H locs hW hS => ?_)
          cases g1
          exact J1 _ _ _ (lv_sub hl [0, 1] rfl) hW hS
        have JF2 : b1 = false → ∀ (H : Heap) (locs : List Loc), ZW D B y ad true cu u H → va_S (fun x => B ≤ x) s.heap H locs → W p l e R s m args below meth c H locs 0 0 Q (F0 m 36 ls []) := by
          intro hv H locs hW hS
          have g1 := zn (by rw [hv]; decide) g1
          cases g1
          exact J1 _ _ _ (lv_sub hl [0, 1] rfl) hW hS
        refine z_icmp_lt hx hb d_r_giveUp_14 rfl g2 (fun g2 => ?_) (fun g2 => ?_)
        · exact JT2 (Option.some.inj g2).symm _ _ hW hS
        · refine lv_aload_n hx hb d_r_giveUp_17 rfl (lv_at hl 0 rfl) ?_
          refine zg_Mo_many M hW (M.2.2.1 _ w_760) d_r_giveUp_18 ?_
          refine lv_iload_n hx hb d_r_giveUp_21 rfl (lv_at hl 1 rfl) ?_
          obtain ⟨g4, g2⟩ := zg g2
          refine zr_28 M hW g4 d_r_giveUp_22 ?_
          refine z_if_eq hx hb d_r_giveUp_23 rfl g2 (fun g2 => ?_) (fun g2 => ?_)
          · exact JF2 (Option.some.inj g2).symm _ _ hW hS
          · exact JT2 (Option.some.inj g2).symm _ _ hW hS
  rw [r_giveUp] at hf
  refine lv_aload_n hx hb d_r_giveUp_0 rfl (lv_at hl 0 rfl) ?_
  refine zg_Mo_level M hW (M.2.2.1 _ w_753) d_r_giveUp_1 ?_
  refine lv_istore_n (lv' := [(1, .int (zI (rI u 21))), (0, .ref (ad (10, 0)))]) hx hb d_r_giveUp_4 rfl hl (by decide) rfl (fun ls hl => ?_)
  exact C_5 F _ _ _ _ _ hf (lv_sub hl [1, 0] rfl) hW hS
set_option maxRecDepth 100000 in
set_option maxHeartbeats 4000000 in
theorem k_r_enter {l : Launch} {D : va_G} {B : Nat} {y : Nat → ClassId} {ad : Nat × Nat → Nat} {cu : ZC} (F : Nat) (u : ZR) {res : Int} {uo : ZR} (hf : r_enter F u = some (res, uo)) : Met l y_r_enter (.code y_r_enter b_r_enter 3 (some .int) :: zt) { frames := 8, cells := 0, slots := 0, locals := 198 } (va_Pc [.ref (ad (10, 0))] (fun U => ZP D B y ad true cu u U)) (va_Qi (fun v (_ : Unit) => v = zI res) (fun _ t => ZP D B y ad true cu uo t) (fun x => B ≤ x)) 0 0 (fun x => B ≤ x) := by
  refine Met.ofW (cc := b_r_enter) (maxL := 3) (ret := (some .int)) (by decide) rfl ?_
  intro p e s m args below meth c s₁ Bd hml hv
  obtain ⟨hargs, hB, hW, hK⟩ := hv
  have hx := Bd.exec
  have hb := Bd.bytes
  have hr := Bd.returns
  have hts0 := atoms_spec (ws := .code y_r_enter b_r_enter 3 (some .int) :: zt) Bd.pre
  have hown : s.vm.findClass "TreeShellModel" = some m.cls := findClass_of_methodNamed Bd.named
  have hlocks := Bd.notSynchronized
  have M : ZM p c b_r_enter s args m "TreeShellModel" D y := ⟨hx, hb, fun w h => hts0 w (List.mem_cons_of_mem _ h), hown, hK⟩
  have hS : va_S (fun x => B ≤ x) s.heap s.heap [] := va_S.rf
  have hE := lg_entry_eq m ([.ref (ad (10, 0))] : List Value) 3
  rw [← hargs] at hE
  rw [hE]
  have hl := lv_entry ([.ref (ad (10, 0))] : List Value) (n := 3) (Nat.le_of_ble_eq_true rfl)
  generalize (lg_sl ([.ref (ad (10, 0))] : List Value) ++ List.replicate (3 - (lg_sl ([.ref (ad (10, 0))] : List Value)).length) Slot.unset).toArray = ls at hl ⊢
  have hl : lv_has ls 3 [(0, .ref (ad (10, 0)))] := hl
  refine z_start (fun Q R hQ hR => ?_)
  generalize hH : s.heap = H at hW
  have hS : va_S (fun x => B ≤ x) s.heap H [] := by rw [← hH]; exact hS
  have C_80 : ∀ (n : Nat), ∀ (u : ZR) (v2 : Int) (H : Heap) (locs : List Loc) (ls : Array Slot), r_enter_80 F n u v2 = some (res, uo) → lv_has ls 3 [(0, .ref (ad (10, 0))), (2, .int (zI v2))] → ZW D B y ad true cu u H → va_S (fun x => B ≤ x) s.heap H locs → W p l e R s m args below meth c H locs 0 0 Q (F0 m 80 ls []) := by
    intro n
    induction n with
    | zero => intro u v2 H locs ls hf; cases (show (none : Option (Int × ZR)) = some (res, uo) from hf)
    | succ n ih =>
      intro u v2 H locs ls hf hl hW hS
      rw [r_enter_80] at hf
      refine lv_iload_n hx hb d_r_enter_80 rfl (lv_at hl 1 rfl) ?_
      refine lv_aload_n hx hb d_r_enter_81 rfl (lv_at hl 0 rfl) ?_
      refine zg_Mo_outLength M hW (M.2.2.1 _ w_778) d_r_enter_82 ?_
      refine z_icmp_ge hx hb d_r_enter_85 rfl hf (fun hf => ?_) (fun hf => ?_)
      · refine lv_aload_n hx hb d_r_enter_106 rfl (lv_at hl 0 rfl) ?_
        refine zg_Mo_result M hW (M.2.2.1 _ w_777) d_r_enter_107 ?_
        cases hf
        subst hQ
        exact z_reti hx hb hr hlocks hB hK hW hS d_r_enter_110
      · refine lv_aload_n hx hb d_r_enter_88 rfl (lv_at hl 0 rfl) ?_
        refine zg_Mo_out M hW (M.2.2.1 _ w_779) d_r_enter_89 ?_
        refine lv_iload_n hx hb d_r_enter_92 rfl (lv_at hl 1 rfl) ?_
        refine lv_aload_n hx hb d_r_enter_93 rfl (lv_at hl 0 rfl) ?_
        refine zg_Mo_put M hW (M.2.2.1 _ w_762) d_r_enter_94 ?_
        refine lv_iload_n hx hb d_r_enter_97 rfl (lv_at hl 1 rfl) ?_
        obtain ⟨g1, hf⟩ := zg hf
        refine zr_30 M hW g1 d_r_enter_98 ?_
        obtain ⟨g2, hf⟩ := zg hf
        refine zw_47 M hW hS g2 d_r_enter_99 (fun H locs hW hS => ?_)
        refine lv_iinc (k := 1) (v := zI (v2 + 1)) (lv' := [(2, .int (zI (v2 + 1))), (0, .ref (ad (10, 0)))]) hx hb d_r_enter_100 hl rfl (zI_add _ _) (by decide) rfl (fun ls hl => ?_)
        refine lv_goto hx hb d_r_enter_103 rfl ?_
        exact ih _ _ _ _ _ hf (lv_sub hl [1, 0] rfl) hW hS
  rw [r_enter] at hf
  refine lv_aload_n hx hb d_r_enter_0 rfl (lv_at hl 0 rfl) ?_
  obtain ⟨p1, u2, g3, hf⟩ := ze2 hf
  refine z_callVi (As := []) (rest := []) (k_r_grammar F _ g3) M hml (cw_r_grammar M.2.2.1 (M.2.2.1 _ w_898) (by rw [hR]; exact Nat.le_of_ble_eq_true rfl) (by rw [hR]; exact Nat.le_of_ble_eq_true rfl)) (zv_Mo hK hW) hB hW hS rfl hl.1 rfl (Nat.le_of_ble_eq_true rfl) d_r_enter_1 (by rw [hR]; exact ⟨Nat.zero_le _, Nat.zero_le _⟩) (fun H locs hW hS => ?_)
  refine lv_istore_n (lv' := [(1, .int (zI p1)), (0, .ref (ad (10, 0)))]) hx hb d_r_enter_4 rfl hl (by decide) rfl (fun ls hl => ?_)
  refine lv_aload_n hx hb d_r_enter_5 rfl (lv_at hl 1 rfl) ?_
  refine z_iconst hx hb d_r_enter_6 ?_
  refine zp_Mo_lineLength M hW hS (M.2.2.1 _ w_742) d_r_enter_7 (fun H locs hW hS => ?_)
  refine lv_aload_n hx hb d_r_enter_10 rfl (lv_at hl 1 rfl) ?_
  refine z_iconst hx hb d_r_enter_11 ?_
  refine zp_Mo_outLength M hW hS (M.2.2.1 _ w_778) d_r_enter_12 (fun H locs hW hS => ?_)
  refine lv_aload_n hx hb d_r_enter_15 rfl (lv_at hl 1 rfl) ?_
  refine z_iconst hx hb d_r_enter_16 ?_
  refine zp_Mo_count M hW hS (M.2.2.1 _ w_780) d_r_enter_17 (fun H locs hW hS => ?_)
  refine lv_iload_n hx hb d_r_enter_20 rfl (lv_at hl 0 rfl) ?_
  refine z_if_ne hx hb d_r_enter_21 rfl hf (fun hf => ?_) (fun hf => ?_)
  · refine lv_aload_n hx hb d_r_enter_26 rfl (lv_at hl 1 rfl) ?_
    refine z_iconst hx hb d_r_enter_27 ?_
    refine zp_Mo_level M hW hS (M.2.2.1 _ w_753) d_r_enter_28 (fun H locs hW hS => ?_)
    refine lv_aload_n hx hb d_r_enter_31 rfl (lv_at hl 1 rfl) ?_
    refine z_iconst hx hb d_r_enter_32 ?_
    refine zp_Mo_pos M hW hS (M.2.2.1 _ w_754) d_r_enter_33 (fun H locs hW hS => ?_)
    obtain ⟨u3, g4, hf⟩ := ze1 hf
    have g4 := Option.some.inj g4
    rw [g4] at hW
    refine lv_aload_n hx hb d_r_enter_36 rfl (lv_at hl 1 rfl) ?_
    refine zg_Mo_listIn M hW (M.2.2.1 _ w_755) d_r_enter_37 ?_
    refine z_iconst hx hb d_r_enter_40 ?_
    refine z_iconst hx hb d_r_enter_41 ?_
    obtain ⟨g5, hf⟩ := zg hf
    refine zw_23 M hW hS g5 d_r_enter_42 (fun H locs hW hS => ?_)
    refine lv_aload_n hx hb d_r_enter_43 rfl (lv_at hl 1 rfl) ?_
    refine zg_Mo_putLength M hW (M.2.2.1 _ w_763) d_r_enter_44 ?_
    refine z_iconst hx hb d_r_enter_47 ?_
    refine z_iconst hx hb d_r_enter_48 ?_
    refine zw_31 M hW hS g5 d_r_enter_49 (fun H locs hW hS => ?_)
    refine lv_aload_n hx hb d_r_enter_50 rfl (lv_at hl 1 rfl) ?_
    refine zg_Mo_tokens M hW (M.2.2.1 _ w_744) d_r_enter_51 ?_
    obtain ⟨u7, g6, hf⟩ := ze1 hf
    have J6 : ∀ (H : Heap) (locs : List Loc) (ls : Array Slot), lv_has ls 3 [(0, .ref (ad (10, 0)))] → ZW D B y ad true cu u7 H → va_S (fun x => B ≤ x) s.heap H locs → W p l e R s m args below meth c H locs 0 0 Q (F0 m 68 ls []) := by
      intro H locs ls hl hW hS
      refine lv_aload_n hx hb d_r_enter_68 rfl (lv_at hl 0 rfl) ?_
      refine lv_aload_n hx hb d_r_enter_69 rfl (lv_at hl 0 rfl) ?_
      refine zg_Mo_putLength M hW (M.2.2.1 _ w_763) d_r_enter_70 ?_
      refine z_iconst hx hb d_r_enter_73 ?_
      refine zr_31 M hW g5 d_r_enter_74 ?_
      refine zp_Mo_outLength M hW hS (M.2.2.1 _ w_778) d_r_enter_75 (fun H locs hW hS => ?_)
      refine z_iconst hx hb d_r_enter_78 ?_
      refine lv_istore_n (lv' := [(2, .int (zI 0)), (0, .ref (ad (10, 0)))]) hx hb d_r_enter_79 rfl hl (by decide) rfl (fun ls hl => ?_)
      exact C_80 F _ _ _ _ _ hf (lv_sub hl [1, 0] rfl) hW hS
    refine z_if_le hx hb d_r_enter_54 rfl g6 (fun g6 => ?_) (fun g6 => ?_)
    · cases g6
      exact J6 _ _ _ (lv_sub hl [1] rfl) hW hS
    · refine lv_aload_n hx hb d_r_enter_57 rfl (lv_at hl 1 rfl) ?_
      obtain ⟨p4, u5, g7, g6⟩ := ze2 g6
      refine z_callVi (As := []) (rest := []) (k_r_execute F _ g7) M hml (cw_r_execute M.2.2.1 (M.2.2.1 _ w_928) (by rw [hR]; exact Nat.le_of_ble_eq_true rfl) (by rw [hR]; exact Nat.le_of_ble_eq_true rfl)) (zv_Mo hK hW) hB hW hS rfl hl.1 rfl (Nat.le_of_ble_eq_true rfl) d_r_enter_58 (by rw [hR]; exact ⟨Nat.zero_le _, Nat.zero_le _⟩) (fun H locs hW hS => ?_)
      refine z_if_ne hx hb d_r_enter_61 rfl g6 (fun g6 => ?_) (fun g6 => ?_)
      · cases g6
        exact J6 _ _ _ (lv_sub hl [1] rfl) hW hS
      · refine lv_aload_n hx hb d_r_enter_64 rfl (lv_at hl 1 rfl) ?_
        obtain ⟨u6, g8, g6⟩ := ze1 g6
        refine z_callVv (As := []) (rest := []) (k_r_giveUp F _ g8) M hml (cw_r_giveUp M.2.2.1 (M.2.2.1 _ w_1081) (by rw [hR]; exact Nat.le_of_ble_eq_true rfl) (by rw [hR]; exact Nat.le_of_ble_eq_true rfl)) (zv_Mo hK hW) hB hW hS rfl hl.1 rfl (Nat.le_of_ble_eq_true rfl) d_r_enter_65 (by rw [hR]; exact ⟨Nat.zero_le _, Nat.zero_le _⟩) (fun H locs hW hS => ?_)
        cases g6
        exact J6 _ _ _ (lv_sub hl [1] rfl) hW hS
  · refine z_iconst hx hb d_r_enter_24 ?_
    cases hf
    subst hQ
    exact z_reti hx hb hr hlocks hB hK hW hS d_r_enter_25
set_option maxRecDepth 100000 in
set_option maxHeartbeats 4000000 in
theorem k_r_status {l : Launch} {D : va_G} {B : Nat} {y : Nat → ClassId} {ad : Nat × Nat → Nat} {cu : ZC} (F : Nat) (u : ZR) {res : Int} (hf : r_status F u = some res) : Met l y_r_status (.code y_r_status b_r_status 1 (some .int) :: zt) { frames := 0, cells := 0, slots := 0, locals := 0 } (va_Pc [.ref (ad (10, 0))] (fun U => ZP D B y ad true cu u U)) (va_Qi (fun v (_ : Unit) => v = zI res) (fun _ t => ZP D B y ad true cu u t) (fun x => B ≤ x)) 0 0 (fun x => B ≤ x) := by
  refine Met.ofW (cc := b_r_status) (maxL := 1) (ret := (some .int)) (by decide) rfl ?_
  intro p e s m args below meth c s₁ Bd hml hv
  obtain ⟨hargs, hB, hW, hK⟩ := hv
  have hx := Bd.exec
  have hb := Bd.bytes
  have hr := Bd.returns
  have hts0 := atoms_spec (ws := .code y_r_status b_r_status 1 (some .int) :: zt) Bd.pre
  have hown : s.vm.findClass "TreeShellModel" = some m.cls := findClass_of_methodNamed Bd.named
  have hlocks := Bd.notSynchronized
  have M : ZM p c b_r_status s args m "TreeShellModel" D y := ⟨hx, hb, fun w h => hts0 w (List.mem_cons_of_mem _ h), hown, hK⟩
  have hS : va_S (fun x => B ≤ x) s.heap s.heap [] := va_S.rf
  have hE := lg_entry_eq m ([.ref (ad (10, 0))] : List Value) 1
  rw [← hargs] at hE
  rw [hE]
  have hl := lv_entry ([.ref (ad (10, 0))] : List Value) (n := 1) (Nat.le_of_ble_eq_true rfl)
  generalize (lg_sl ([.ref (ad (10, 0))] : List Value) ++ List.replicate (1 - (lg_sl ([.ref (ad (10, 0))] : List Value)).length) Slot.unset).toArray = ls at hl ⊢
  have hl : lv_has ls 1 [(0, .ref (ad (10, 0)))] := hl
  refine z_start (fun Q R hQ hR => ?_)
  generalize hH : s.heap = H at hW
  have hS : va_S (fun x => B ≤ x) s.heap H [] := by rw [← hH]; exact hS
  rw [r_status] at hf
  refine lv_aload_n hx hb d_r_status_0 rfl (lv_at hl 0 rfl) ?_
  refine zg_Mo_result M hW (M.2.2.1 _ w_777) d_r_status_1 ?_
  cases hf
  subst hQ
  exact z_reti hx hb hr hlocks hB hK hW hS d_r_status_4
set_option maxRecDepth 100000 in
set_option maxHeartbeats 4000000 in
theorem k_r_length {l : Launch} {D : va_G} {B : Nat} {y : Nat → ClassId} {ad : Nat × Nat → Nat} {cu : ZC} (F : Nat) (u : ZR) {res : Int} (hf : r_length F u = some res) : Met l y_r_length (.code y_r_length b_r_length 1 (some .int) :: zt) { frames := 0, cells := 0, slots := 0, locals := 0 } (va_Pc [.ref (ad (10, 0))] (fun U => ZP D B y ad true cu u U)) (va_Qi (fun v (_ : Unit) => v = zI res) (fun _ t => ZP D B y ad true cu u t) (fun x => B ≤ x)) 0 0 (fun x => B ≤ x) := by
  refine Met.ofW (cc := b_r_length) (maxL := 1) (ret := (some .int)) (by decide) rfl ?_
  intro p e s m args below meth c s₁ Bd hml hv
  obtain ⟨hargs, hB, hW, hK⟩ := hv
  have hx := Bd.exec
  have hb := Bd.bytes
  have hr := Bd.returns
  have hts0 := atoms_spec (ws := .code y_r_length b_r_length 1 (some .int) :: zt) Bd.pre
  have hown : s.vm.findClass "TreeShellModel" = some m.cls := findClass_of_methodNamed Bd.named
  have hlocks := Bd.notSynchronized
  have M : ZM p c b_r_length s args m "TreeShellModel" D y := ⟨hx, hb, fun w h => hts0 w (List.mem_cons_of_mem _ h), hown, hK⟩
  have hS : va_S (fun x => B ≤ x) s.heap s.heap [] := va_S.rf
  have hE := lg_entry_eq m ([.ref (ad (10, 0))] : List Value) 1
  rw [← hargs] at hE
  rw [hE]
  have hl := lv_entry ([.ref (ad (10, 0))] : List Value) (n := 1) (Nat.le_of_ble_eq_true rfl)
  generalize (lg_sl ([.ref (ad (10, 0))] : List Value) ++ List.replicate (1 - (lg_sl ([.ref (ad (10, 0))] : List Value)).length) Slot.unset).toArray = ls at hl ⊢
  have hl : lv_has ls 1 [(0, .ref (ad (10, 0)))] := hl
  refine z_start (fun Q R hQ hR => ?_)
  generalize hH : s.heap = H at hW
  have hS : va_S (fun x => B ≤ x) s.heap H [] := by rw [← hH]; exact hS
  rw [r_length] at hf
  refine lv_aload_n hx hb d_r_length_0 rfl (lv_at hl 0 rfl) ?_
  refine zg_Mo_outLength M hW (M.2.2.1 _ w_778) d_r_length_1 ?_
  cases hf
  subst hQ
  exact z_reti hx hb hr hlocks hB hK hW hS d_r_length_4
set_option maxRecDepth 100000 in
set_option maxHeartbeats 4000000 in
theorem k_r_out {l : Launch} {D : va_G} {B : Nat} {y : Nat → ClassId} {ad : Nat × Nat → Nat} {cu : ZC} (F : Nat) (u : ZR) (v1 : Int) {res : Int64} (hf : r_out F u v1 = some res) : Met l y_r_out (.code y_r_out b_r_out 5 (some .long) :: zt) { frames := 0, cells := 0, slots := 0, locals := 0 } (va_Pc [.ref (ad (10, 0)), .int (zI v1)] (fun U => ZP D B y ad true cu u U)) (va_Ql (fun v (_ : Unit) => v = res) (fun _ t => ZP D B y ad true cu u t) (fun x => B ≤ x)) 0 0 (fun x => B ≤ x) := by
  refine Met.ofW (cc := b_r_out) (maxL := 5) (ret := (some .long)) (by decide) rfl ?_
  intro p e s m args below meth c s₁ Bd hml hv
  obtain ⟨hargs, hB, hW, hK⟩ := hv
  have hx := Bd.exec
  have hb := Bd.bytes
  have hr := Bd.returns
  have hts0 := atoms_spec (ws := .code y_r_out b_r_out 5 (some .long) :: zt) Bd.pre
  have hown : s.vm.findClass "TreeShellModel" = some m.cls := findClass_of_methodNamed Bd.named
  have hlocks := Bd.notSynchronized
  have M : ZM p c b_r_out s args m "TreeShellModel" D y := ⟨hx, hb, fun w h => hts0 w (List.mem_cons_of_mem _ h), hown, hK⟩
  have hS : va_S (fun x => B ≤ x) s.heap s.heap [] := va_S.rf
  have hE := lg_entry_eq m ([.ref (ad (10, 0)), .int (zI v1)] : List Value) 5
  rw [← hargs] at hE
  rw [hE]
  have hl := lv_entry ([.ref (ad (10, 0)), .int (zI v1)] : List Value) (n := 5) (Nat.le_of_ble_eq_true rfl)
  generalize (lg_sl ([.ref (ad (10, 0)), .int (zI v1)] : List Value) ++ List.replicate (5 - (lg_sl ([.ref (ad (10, 0)), .int (zI v1)] : List Value)).length) Slot.unset).toArray = ls at hl ⊢
  have hl : lv_has ls 5 [(0, .ref (ad (10, 0))), (1, .int (zI v1))] := hl
  refine z_start (fun Q R hQ hR => ?_)
  generalize hH : s.heap = H at hW
  have hS : va_S (fun x => B ≤ x) s.heap H [] := by rw [← hH]; exact hS
  have C_20 : ∀ (n : Nat), ∀ (v1 : Int) (v2 : Int64) (v4 : Int) (H : Heap) (locs : List Loc) (ls : Array Slot), r_out_20 F n u v1 v2 v4 = some res → lv_has ls 5 [(0, .ref (ad (10, 0))), (1, .int (zI v1)), (2, .long v2), (4, .int (zI v4))] → ZW D B y ad true cu u H → va_S (fun x => B ≤ x) s.heap H locs → W p l e R s m args below meth c H locs 0 0 Q (F0 m 20 ls []) := by
    intro n
    induction n with
    | zero => intro v1 v2 v4 H locs ls hf; cases (show (none : Option (Int64)) = some res from hf)
    | succ n ih =>
      intro v1 v2 v4 H locs ls hf hl hW hS
      rw [r_out_20] at hf
      refine lv_iload hx hb d_r_out_20 (lv_at hl 3 rfl) ?_
      refine z_bipush hx hb d_r_out_22 rfl ?_
      refine lv_iload_n hx hb d_r_out_24 rfl (lv_at hl 1 rfl) ?_
      refine z_imul hx hb d_r_out_25 ?_
      refine z_bipush hx hb d_r_out_26 rfl ?_
      refine z_iadd hx hb d_r_out_28 ?_
      refine z_icmp_ge hx hb d_r_out_29 rfl hf (fun hf => ?_) (fun hf => ?_)
      · refine lv_lload_n hx hb d_r_out_65 rfl (lv_at hl 2 rfl) ?_
        cases hf
        subst hQ
        exact z_retl hx hb hr hlocks hB hK hW hS d_r_out_66
      · refine lv_lload_n hx hb d_r_out_32 rfl (lv_at hl 2 rfl) ?_
        refine z_bipush hx hb d_r_out_33 rfl ?_
        refine z_lshl hx hb d_r_out_35 ?_
        refine lv_iload hx hb d_r_out_36 (lv_at hl 3 rfl) ?_
        refine lv_aload_n hx hb d_r_out_38 rfl (lv_at hl 0 rfl) ?_
        refine zg_Mo_outLength M hW (M.2.2.1 _ w_778) d_r_out_39 ?_
        obtain ⟨x2, g1, hf⟩ := ze1 hf
        have J1 : ∀ (H : Heap) (locs : List Loc) (ls : Array Slot), lv_has ls 5 [(0, .ref (ad (10, 0))), (1, .int (zI v1)), (4, .int (zI v4))] → ZW D B y ad true cu u H → va_S (fun x => B ≤ x) s.heap H locs → W p l e R s m args below meth c H locs 0 0 Q (F0 m 56 ls [.int (zI x2), .long (zlshl v2 8)]) := by
          intro H locs ls hl hW hS
          refine z_i2l hx hb d_r_out_56 ?_
          refine lv_lor hx hb d_r_out_57 ?_
          refine lv_lstore_n (lv' := [(2, .long ((zlshl v2 8) ||| (zi2l x2))), (0, .ref (ad (10, 0))), (1, .int (zI v1)), (4, .int (zI v4))]) hx hb d_r_out_58 rfl hl (by decide) rfl (fun ls hl => ?_)
          refine lv_iinc (k := 3) (v := zI (v4 + 1)) (lv' := [(4, .int (zI (v4 + 1))), (2, .long ((zlshl v2 8) ||| (zi2l x2))), (0, .ref (ad (10, 0))), (1, .int (zI v1))]) hx hb d_r_out_59 hl rfl (zI_add _ _) (by decide) rfl (fun ls hl => ?_)
          refine lv_goto hx hb d_r_out_62 rfl ?_
          exact ih _ _ _ _ _ _ hf (lv_sub hl [2, 3, 1, 0] rfl) hW hS
        refine z_icmp_ge hx hb d_r_out_42 rfl g1 (fun g1 => ?_) (fun g1 => ?_)
        · refine z_iconst hx hb d_r_out_55 ?_
          cases g1
          exact J1 _ _ _ (lv_sub hl [0, 1, 3] rfl) hW hS
        · refine lv_aload_n hx hb d_r_out_45 rfl (lv_at hl 0 rfl) ?_
          refine zg_Mo_out M hW (M.2.2.1 _ w_779) d_r_out_46 ?_
          refine lv_iload hx hb d_r_out_49 (lv_at hl 3 rfl) ?_
          obtain ⟨g2, g1⟩ := zg g1
          refine zr_47 M hW g2 d_r_out_51 ?_
          refine lv_goto hx hb d_r_out_52 rfl ?_
          cases g1
          exact J1 _ _ _ (lv_sub hl [0, 1, 3] rfl) hW hS
  rw [r_out] at hf
  refine lv_lconst (v := 0) hx hb d_r_out_0 rfl ?_
  refine lv_lstore_n (lv' := [(2, .long (0 : Int64)), (0, .ref (ad (10, 0))), (1, .int (zI v1))]) hx hb d_r_out_1 rfl hl (by decide) rfl (fun ls hl => ?_)
  refine lv_iload_n hx hb d_r_out_2 rfl (lv_at hl 2 rfl) ?_
  obtain ⟨b1, g3, hf⟩ := ze1 hf
  have JT3 : b1 = true → ∀ (H : Heap) (locs : List Loc), ZW D B y ad true cu u H → va_S (fun x => B ≤ x) s.heap H locs → W p l e R s m args below meth c H locs 0 0 Q (F0 m 12 ls []) := by
    intro hv H locs hW hS
    have hf := zp (hv) hf
    refine lv_lload_n hx hb d_r_out_12 rfl (lv_at hl 0 rfl) ?_
    cases hf
    subst hQ
    exact z_retl hx hb hr hlocks hB hK hW hS d_r_out_13
  have JF3 : b1 = false → ∀ (H : Heap) (locs : List Loc), ZW D B y ad true cu u H → va_S (fun x => B ≤ x) s.heap H locs → W p l e R s m args below meth c H locs 0 0 Q (F0 m 14 ls []) := by
    intro hv H locs hW hS
    have hf := zn (by rw [hv]; decide) hf
    refine z_bipush hx hb d_r_out_14 rfl ?_
    refine lv_iload_n hx hb d_r_out_16 rfl (lv_at hl 2 rfl) ?_
    refine z_imul hx hb d_r_out_17 ?_
    refine lv_istore (lv' := [(4, .int (zI (8 * v1))), (2, .long (0 : Int64)), (0, .ref (ad (10, 0))), (1, .int (zI v1))]) hx hb d_r_out_18 hl (by decide) rfl (fun ls hl => ?_)
    exact C_20 F _ _ _ _ _ _ hf (lv_sub hl [2, 3, 1, 0] rfl) hW hS
  refine z_if_lt hx hb d_r_out_3 rfl g3 (fun g3 => ?_) (fun g3 => ?_)
  · exact JT3 (Option.some.inj g3).symm _ _ hW hS
  · refine lv_iload_n hx hb d_r_out_6 rfl (lv_at hl 2 rfl) ?_
    refine z_bipush hx hb d_r_out_7 rfl ?_
    refine z_icmp_le hx hb d_r_out_9 rfl g3 (fun g3 => ?_) (fun g3 => ?_)
    · exact JF3 (Option.some.inj g3).symm _ _ hW hS
    · exact JT3 (Option.some.inj g3).symm _ _ hW hS
set_option maxRecDepth 100000 in
set_option maxHeartbeats 4000000 in
theorem k_r_ran {l : Launch} {D : va_G} {B : Nat} {y : Nat → ClassId} {ad : Nat × Nat → Nat} {cu : ZC} (F : Nat) (u : ZR) {res : Int} (hf : r_ran F u = some res) : Met l y_r_ran (.code y_r_ran b_r_ran 1 (some .int) :: zt) { frames := 0, cells := 0, slots := 0, locals := 0 } (va_Pc [.ref (ad (10, 0))] (fun U => ZP D B y ad true cu u U)) (va_Qi (fun v (_ : Unit) => v = zI res) (fun _ t => ZP D B y ad true cu u t) (fun x => B ≤ x)) 0 0 (fun x => B ≤ x) := by
  refine Met.ofW (cc := b_r_ran) (maxL := 1) (ret := (some .int)) (by decide) rfl ?_
  intro p e s m args below meth c s₁ Bd hml hv
  obtain ⟨hargs, hB, hW, hK⟩ := hv
  have hx := Bd.exec
  have hb := Bd.bytes
  have hr := Bd.returns
  have hts0 := atoms_spec (ws := .code y_r_ran b_r_ran 1 (some .int) :: zt) Bd.pre
  have hown : s.vm.findClass "TreeShellModel" = some m.cls := findClass_of_methodNamed Bd.named
  have hlocks := Bd.notSynchronized
  have M : ZM p c b_r_ran s args m "TreeShellModel" D y := ⟨hx, hb, fun w h => hts0 w (List.mem_cons_of_mem _ h), hown, hK⟩
  have hS : va_S (fun x => B ≤ x) s.heap s.heap [] := va_S.rf
  have hE := lg_entry_eq m ([.ref (ad (10, 0))] : List Value) 1
  rw [← hargs] at hE
  rw [hE]
  have hl := lv_entry ([.ref (ad (10, 0))] : List Value) (n := 1) (Nat.le_of_ble_eq_true rfl)
  generalize (lg_sl ([.ref (ad (10, 0))] : List Value) ++ List.replicate (1 - (lg_sl ([.ref (ad (10, 0))] : List Value)).length) Slot.unset).toArray = ls at hl ⊢
  have hl : lv_has ls 1 [(0, .ref (ad (10, 0)))] := hl
  refine z_start (fun Q R hQ hR => ?_)
  generalize hH : s.heap = H at hW
  have hS : va_S (fun x => B ≤ x) s.heap H [] := by rw [← hH]; exact hS
  rw [r_ran] at hf
  refine lv_aload_n hx hb d_r_ran_0 rfl (lv_at hl 0 rfl) ?_
  refine zg_Mo_count M hW (M.2.2.1 _ w_780) d_r_ran_1 ?_
  cases hf
  subst hQ
  exact z_reti hx hb hr hlocks hB hK hW hS d_r_ran_4
set_option maxRecDepth 100000 in
set_option maxHeartbeats 4000000 in
theorem k_r_nodes {l : Launch} {D : va_G} {B : Nat} {y : Nat → ClassId} {ad : Nat × Nat → Nat} {cu : ZC} (F : Nat) (u : ZR) {res : Int} (hf : r_nodes F u = some res) : Met l y_r_nodes (.code y_r_nodes b_r_nodes 3 (some .int) :: zt) { frames := 0, cells := 0, slots := 0, locals := 0 } (va_Pc [.ref (ad (10, 0))] (fun U => ZP D B y ad true cu u U)) (va_Qi (fun v (_ : Unit) => v = zI res) (fun _ t => ZP D B y ad true cu u t) (fun x => B ≤ x)) 0 0 (fun x => B ≤ x) := by
  refine Met.ofW (cc := b_r_nodes) (maxL := 3) (ret := (some .int)) (by decide) rfl ?_
  intro p e s m args below meth c s₁ Bd hml hv
  obtain ⟨hargs, hB, hW, hK⟩ := hv
  have hx := Bd.exec
  have hb := Bd.bytes
  have hr := Bd.returns
  have hts0 := atoms_spec (ws := .code y_r_nodes b_r_nodes 3 (some .int) :: zt) Bd.pre
  have hown : s.vm.findClass "TreeShellModel" = some m.cls := findClass_of_methodNamed Bd.named
  have hlocks := Bd.notSynchronized
  have M : ZM p c b_r_nodes s args m "TreeShellModel" D y := ⟨hx, hb, fun w h => hts0 w (List.mem_cons_of_mem _ h), hown, hK⟩
  have hS : va_S (fun x => B ≤ x) s.heap s.heap [] := va_S.rf
  have hE := lg_entry_eq m ([.ref (ad (10, 0))] : List Value) 3
  rw [← hargs] at hE
  rw [hE]
  have hl := lv_entry ([.ref (ad (10, 0))] : List Value) (n := 3) (Nat.le_of_ble_eq_true rfl)
  generalize (lg_sl ([.ref (ad (10, 0))] : List Value) ++ List.replicate (3 - (lg_sl ([.ref (ad (10, 0))] : List Value)).length) Slot.unset).toArray = ls at hl ⊢
  have hl : lv_has ls 3 [(0, .ref (ad (10, 0)))] := hl
  refine z_start (fun Q R hQ hR => ?_)
  generalize hH : s.heap = H at hW
  have hS : va_S (fun x => B ≤ x) s.heap H [] := by rw [← hH]; exact hS
  have C_4 : ∀ (n : Nat), ∀ (v1 : Int) (v2 : Int) (H : Heap) (locs : List Loc) (ls : Array Slot), r_nodes_4 F n u v1 v2 = some res → lv_has ls 3 [(0, .ref (ad (10, 0))), (1, .int (zI v1)), (2, .int (zI v2))] → ZW D B y ad true cu u H → va_S (fun x => B ≤ x) s.heap H locs → W p l e R s m args below meth c H locs 0 0 Q (F0 m 4 ls []) := by
    intro n
    induction n with
    | zero => intro v1 v2 H locs ls hf; cases (show (none : Option (Int)) = some res from hf)
    | succ n ih =>
      intro v1 v2 H locs ls hf hl hW hS
      rw [r_nodes_4] at hf
      refine lv_iload_n hx hb d_r_nodes_4 rfl (lv_at hl 2 rfl) ?_
      refine z_bipush hx hb d_r_nodes_5 rfl ?_
      refine z_icmp_ge hx hb d_r_nodes_7 rfl hf (fun hf => ?_) (fun hf => ?_)
      · refine lv_iload_n hx hb d_r_nodes_33 rfl (lv_at hl 1 rfl) ?_
        cases hf
        subst hQ
        exact z_reti hx hb hr hlocks hB hK hW hS d_r_nodes_34
      · refine lv_aload_n hx hb d_r_nodes_10 rfl (lv_at hl 0 rfl) ?_
        refine zg_Mo_used M hW (M.2.2.1 _ w_735) d_r_nodes_11 ?_
        refine lv_iload_n hx hb d_r_nodes_14 rfl (lv_at hl 2 rfl) ?_
        obtain ⟨g1, hf⟩ := zg hf
        refine zr_3 M hW g1 d_r_nodes_15 ?_
        obtain ⟨x1, g2, hf⟩ := ze1 hf
        have J2 : ∀ (H : Heap) (locs : List Loc) (ls : Array Slot), lv_has ls 3 [(0, .ref (ad (10, 0))), (2, .int (zI v2))] → ZW D B y ad true cu u H → va_S (fun x => B ≤ x) s.heap H locs → W p l e R s m args below meth c H locs 0 0 Q (F0 m 26 ls [.int (zI x1)]) := by
          intro H locs ls hl hW hS
          refine lv_istore_n (lv' := [(1, .int (zI x1)), (0, .ref (ad (10, 0))), (2, .int (zI v2))]) hx hb d_r_nodes_26 rfl hl (by decide) rfl (fun ls hl => ?_)
          refine lv_iinc (k := 2) (v := zI (v2 + 1)) (lv' := [(2, .int (zI (v2 + 1))), (1, .int (zI x1)), (0, .ref (ad (10, 0)))]) hx hb d_r_nodes_27 hl rfl (zI_add _ _) (by decide) rfl (fun ls hl => ?_)
          refine lv_goto hx hb d_r_nodes_30 rfl ?_
          exact ih _ _ _ _ _ hf (lv_sub hl [2, 1, 0] rfl) hW hS
        refine z_if_eq hx hb d_r_nodes_16 rfl g2 (fun g2 => ?_) (fun g2 => ?_)
        · refine lv_iload_n hx hb d_r_nodes_25 rfl (lv_at hl 1 rfl) ?_
          cases g2
          exact J2 _ _ _ (lv_sub hl [0, 2] rfl) hW hS
        · refine lv_iload_n hx hb d_r_nodes_19 rfl (lv_at hl 1 rfl) ?_
          refine z_iconst hx hb d_r_nodes_20 ?_
          refine z_iadd hx hb d_r_nodes_21 ?_
          refine lv_goto hx hb d_r_nodes_22 rfl ?_
          cases g2
          exact J2 _ _ _ (lv_sub hl [0, 2] rfl) hW hS
  rw [r_nodes] at hf
  refine z_iconst hx hb d_r_nodes_0 ?_
  refine lv_istore_n (lv' := [(1, .int (zI 0)), (0, .ref (ad (10, 0)))]) hx hb d_r_nodes_1 rfl hl (by decide) rfl (fun ls hl => ?_)
  refine z_iconst hx hb d_r_nodes_2 ?_
  refine lv_istore_n (lv' := [(2, .int (zI 1)), (1, .int (zI 0)), (0, .ref (ad (10, 0)))]) hx hb d_r_nodes_3 rfl hl (by decide) rfl (fun ls hl => ?_)
  exact C_4 F _ _ _ _ _ hf (lv_sub hl [2, 1, 0] rfl) hW hS
set_option maxRecDepth 100000 in
set_option maxHeartbeats 4000000 in
theorem k_r_depth {l : Launch} {D : va_G} {B : Nat} {y : Nat → ClassId} {ad : Nat × Nat → Nat} {cu : ZC} (F : Nat) (u : ZR) {res : Int} (hf : r_depth F u = some res) : Met l y_r_depth (.code y_r_depth b_r_depth 3 (some .int) :: zt) { frames := 0, cells := 0, slots := 0, locals := 0 } (va_Pc [.ref (ad (10, 0))] (fun U => ZP D B y ad true cu u U)) (va_Qi (fun v (_ : Unit) => v = zI res) (fun _ t => ZP D B y ad true cu u t) (fun x => B ≤ x)) 0 0 (fun x => B ≤ x) := by
  refine Met.ofW (cc := b_r_depth) (maxL := 3) (ret := (some .int)) (by decide) rfl ?_
  intro p e s m args below meth c s₁ Bd hml hv
  obtain ⟨hargs, hB, hW, hK⟩ := hv
  have hx := Bd.exec
  have hb := Bd.bytes
  have hr := Bd.returns
  have hts0 := atoms_spec (ws := .code y_r_depth b_r_depth 3 (some .int) :: zt) Bd.pre
  have hown : s.vm.findClass "TreeShellModel" = some m.cls := findClass_of_methodNamed Bd.named
  have hlocks := Bd.notSynchronized
  have M : ZM p c b_r_depth s args m "TreeShellModel" D y := ⟨hx, hb, fun w h => hts0 w (List.mem_cons_of_mem _ h), hown, hK⟩
  have hS : va_S (fun x => B ≤ x) s.heap s.heap [] := va_S.rf
  have hE := lg_entry_eq m ([.ref (ad (10, 0))] : List Value) 3
  rw [← hargs] at hE
  rw [hE]
  have hl := lv_entry ([.ref (ad (10, 0))] : List Value) (n := 3) (Nat.le_of_ble_eq_true rfl)
  generalize (lg_sl ([.ref (ad (10, 0))] : List Value) ++ List.replicate (3 - (lg_sl ([.ref (ad (10, 0))] : List Value)).length) Slot.unset).toArray = ls at hl ⊢
  have hl : lv_has ls 3 [(0, .ref (ad (10, 0)))] := hl
  refine z_start (fun Q R hQ hR => ?_)
  generalize hH : s.heap = H at hW
  have hS : va_S (fun x => B ≤ x) s.heap H [] := by rw [← hH]; exact hS
  have C_7 : ∀ (n : Nat), ∀ (v1 : Int) (v2 : Int) (H : Heap) (locs : List Loc) (ls : Array Slot), r_depth_7 F n u v1 v2 = some res → lv_has ls 3 [(0, .ref (ad (10, 0))), (1, .int (zI v1)), (2, .int (zI v2))] → ZW D B y ad true cu u H → va_S (fun x => B ≤ x) s.heap H locs → W p l e R s m args below meth c H locs 0 0 Q (F0 m 7 ls []) := by
    intro n
    induction n with
    | zero => intro v1 v2 H locs ls hf; cases (show (none : Option (Int)) = some res from hf)
    | succ n ih =>
      intro v1 v2 H locs ls hf hl hW hS
      rw [r_depth_7] at hf
      refine lv_iload_n hx hb d_r_depth_7 rfl (lv_at hl 2 rfl) ?_
      obtain ⟨b1, g1, hf⟩ := ze1 hf
      have JT1 : b1 = true → ∀ (H : Heap) (locs : List Loc), ZW D B y ad true cu u H → va_S (fun x => B ≤ x) s.heap H locs → W p l e R s m args below meth c H locs 0 0 Q (F0 m 30 ls []) := by
        intro hv H locs hW hS
        have hf := zp (hv) hf
        refine lv_iload_n hx hb d_r_depth_30 rfl (lv_at hl 1 rfl) ?_
        cases hf
        subst hQ
        exact z_reti hx hb hr hlocks hB hK hW hS d_r_depth_31
      have JF1 : b1 = false → ∀ (H : Heap) (locs : List Loc), ZW D B y ad true cu u H → va_S (fun x => B ≤ x) s.heap H locs → W p l e R s m args below meth c H locs 0 0 Q (F0 m 17 ls []) := by
        intro hv H locs hW hS
        have hf := zn (by rw [hv]; decide) hf
        refine lv_aload_n hx hb d_r_depth_17 rfl (lv_at hl 0 rfl) ?_
        refine zg_Mo_parent M hW (M.2.2.1 _ w_737) d_r_depth_18 ?_
        refine lv_iload_n hx hb d_r_depth_21 rfl (lv_at hl 2 rfl) ?_
        obtain ⟨g2, hf⟩ := zg hf
        refine zr_5 M hW g2 d_r_depth_22 ?_
        refine lv_istore_n (lv' := [(2, .int (zI (rA u 5 v2.toNat))), (0, .ref (ad (10, 0))), (1, .int (zI v1))]) hx hb d_r_depth_23 rfl hl (by decide) rfl (fun ls hl => ?_)
        refine lv_iinc (k := 2) (v := zI (v1 + 1)) (lv' := [(1, .int (zI (v1 + 1))), (2, .int (zI (rA u 5 v2.toNat))), (0, .ref (ad (10, 0)))]) hx hb d_r_depth_24 hl rfl (zI_add _ _) (by decide) rfl (fun ls hl => ?_)
        refine lv_goto hx hb d_r_depth_27 rfl ?_
        exact ih _ _ _ _ _ hf (lv_sub hl [2, 0, 1] rfl) hW hS
      refine z_if_eq hx hb d_r_depth_8 rfl g1 (fun g1 => ?_) (fun g1 => ?_)
      · exact JT1 (Option.some.inj g1).symm _ _ hW hS
      · refine lv_iload_n hx hb d_r_depth_11 rfl (lv_at hl 1 rfl) ?_
        refine z_bipush hx hb d_r_depth_12 rfl ?_
        refine z_icmp_ge hx hb d_r_depth_14 rfl g1 (fun g1 => ?_) (fun g1 => ?_)
        · exact JT1 (Option.some.inj g1).symm _ _ hW hS
        · exact JF1 (Option.some.inj g1).symm _ _ hW hS
  rw [r_depth] at hf
  refine z_iconst hx hb d_r_depth_0 ?_
  refine lv_istore_n (lv' := [(1, .int (zI 0)), (0, .ref (ad (10, 0)))]) hx hb d_r_depth_1 rfl hl (by decide) rfl (fun ls hl => ?_)
  refine lv_aload_n hx hb d_r_depth_2 rfl (lv_at hl 1 rfl) ?_
  refine zg_Mo_here M hW (M.2.2.1 _ w_741) d_r_depth_3 ?_
  refine lv_istore_n (lv' := [(2, .int (zI (rI u 9))), (1, .int (zI 0)), (0, .ref (ad (10, 0)))]) hx hb d_r_depth_6 rfl hl (by decide) rfl (fun ls hl => ?_)
  exact C_7 F _ _ _ _ _ hf (lv_sub hl [2, 1, 0] rfl) hW hS
