set_option maxRecDepth 100000 in
set_option maxHeartbeats 4000000 in
theorem k_r_letterOf {l : Launch} {D : va_G} {B : Nat} {y : Nat → ClassId} {ad : Nat × Nat → Nat} {cu : ZC} (F : Nat) (u : ZR) (v1 : Int) {uo : ZR} (hf : r_letterOf F u v1 = some uo) : Met l y_r_letterOf (.code y_r_letterOf b_r_letterOf 2 none :: zt) { frames := 0, cells := 0, slots := 0, locals := 0 } (va_Pc [.ref (ad (10, 0)), .int (zI v1)] (fun U => ZP D B y ad true cu u U)) (va_Qv (fun (_ : Unit) => True) (fun _ t => ZP D B y ad true cu uo t) (fun x => B ≤ x)) 0 0 (fun x => B ≤ x) := by
  refine Met.ofW (cc := b_r_letterOf) (maxL := 2) (ret := none) (by decide) rfl ?_
  intro p e s m args below meth c s₁ Bd hml hv
  obtain ⟨hargs, hB, hW, hK⟩ := hv
  have hx := Bd.exec
  have hb := Bd.bytes
  have hr := Bd.returns
  have hts0 := atoms_spec (ws := .code y_r_letterOf b_r_letterOf 2 none :: zt) Bd.pre
  have hown : s.vm.findClass "TreeShellModel" = some m.cls := findClass_of_methodNamed Bd.named
  have hlocks := Bd.notSynchronized
  have M : ZM p c b_r_letterOf s args m "TreeShellModel" D y := ⟨hx, hb, fun w h => hts0 w (List.mem_cons_of_mem _ h), hown, hK⟩
  have hS : va_S (fun x => B ≤ x) s.heap s.heap [] := va_S.rf
  have hE := lg_entry_eq m ([.ref (ad (10, 0)), .int (zI v1)] : List Value) 2
  rw [← hargs] at hE
  rw [hE]
  have hl := lv_entry ([.ref (ad (10, 0)), .int (zI v1)] : List Value) (n := 2) (Nat.le_of_ble_eq_true rfl)
  generalize (lg_sl ([.ref (ad (10, 0)), .int (zI v1)] : List Value) ++ List.replicate (2 - (lg_sl ([.ref (ad (10, 0)), .int (zI v1)] : List Value)).length) Slot.unset).toArray = ls at hl ⊢
  have hl : lv_has ls 2 [(0, .ref (ad (10, 0))), (1, .int (zI v1))] := hl
  refine z_start (fun Q R hQ hR => ?_)
  generalize hH : s.heap = H at hW
  have hS : va_S (fun x => B ≤ x) s.heap H [] := by rw [← hH]; exact hS
  rw [r_letterOf] at hf
  refine lv_aload_n hx hb d_r_letterOf_0 rfl (lv_at hl 0 rfl) ?_
  refine zg_Mo_wordChar M hW (M.2.2.1 _ w_752) d_r_letterOf_1 ?_
  refine lv_aload_n hx hb d_r_letterOf_4 rfl (lv_at hl 0 rfl) ?_
  refine zg_Mo_wordLength M hW (M.2.2.1 _ w_751) d_r_letterOf_5 ?_
  refine lv_iload_n hx hb d_r_letterOf_8 rfl (lv_at hl 1 rfl) ?_
  obtain ⟨g1, hf⟩ := zg hf
  refine zw_20 M hW hS g1 d_r_letterOf_9 (fun H locs hW hS => ?_)
  refine lv_aload_n hx hb d_r_letterOf_10 rfl (lv_at hl 0 rfl) ?_
  refine lv_dup hx hb d_r_letterOf_11 rfl ?_
  refine zg_Mo_wordLength M hW (M.2.2.1 _ w_751) d_r_letterOf_12 ?_
  refine z_iconst hx hb d_r_letterOf_15 ?_
  refine z_iadd hx hb d_r_letterOf_16 ?_
  refine zp_Mo_wordLength M hW hS (M.2.2.1 _ w_751) d_r_letterOf_17 (fun H locs hW hS => ?_)
  obtain ⟨u1, g2, hf⟩ := ze1 hf
  have g2 := Option.some.inj g2
  rw [g2] at hW
  cases hf
  subst hQ
  exact z_retv hx hb hr hlocks hB hK hW hS d_r_letterOf_20
set_option maxRecDepth 100000 in
set_option maxHeartbeats 4000000 in
theorem k_r_scale {l : Launch} {D : va_G} {B : Nat} {y : Nat → ClassId} {ad : Nat × Nat → Nat} {cu : ZC} (F : Nat) (u : ZR) (v0 : Int) {res : Int} (hf : r_scale F u v0 = some res) : Met l y_r_scale (.code y_r_scale b_r_scale 1 (some .int) :: zt) { frames := 0, cells := 0, slots := 0, locals := 0 } (va_Pc [.int (zI v0)] (fun U => ZP D B y ad true cu u U)) (va_Qi (fun v (_ : Unit) => v = zI res) (fun _ t => ZP D B y ad true cu u t) (fun x => B ≤ x)) 0 0 (fun x => B ≤ x) := by
  refine Met.ofW (cc := b_r_scale) (maxL := 1) (ret := (some .int)) (by decide) rfl ?_
  intro p e s m args below meth c s₁ Bd hml hv
  obtain ⟨hargs, hB, hW, hK⟩ := hv
  have hx := Bd.exec
  have hb := Bd.bytes
  have hr := Bd.returns
  have hts0 := atoms_spec (ws := .code y_r_scale b_r_scale 1 (some .int) :: zt) Bd.pre
  have hown : s.vm.findClass "TreeShellModel" = some m.cls := findClass_of_methodNamed Bd.named
  have hlocks := Bd.notSynchronized
  have M : ZM p c b_r_scale s args m "TreeShellModel" D y := ⟨hx, hb, fun w h => hts0 w (List.mem_cons_of_mem _ h), hown, hK⟩
  have hS : va_S (fun x => B ≤ x) s.heap s.heap [] := va_S.rf
  have hE := lg_entry_eq m ([.int (zI v0)] : List Value) 1
  rw [← hargs] at hE
  rw [hE]
  have hl := lv_entry ([.int (zI v0)] : List Value) (n := 1) (Nat.le_of_ble_eq_true rfl)
  generalize (lg_sl ([.int (zI v0)] : List Value) ++ List.replicate (1 - (lg_sl ([.int (zI v0)] : List Value)).length) Slot.unset).toArray = ls at hl ⊢
  have hl : lv_has ls 1 [(0, .int (zI v0))] := hl
  refine z_start (fun Q R hQ hR => ?_)
  generalize hH : s.heap = H at hW
  have hS : va_S (fun x => B ≤ x) s.heap H [] := by rw [← hH]; exact hS
  rw [r_scale] at hf
  refine lv_iload_n hx hb d_r_scale_0 rfl (lv_at hl 0 rfl) ?_
  refine z_bipush hx hb d_r_scale_1 rfl ?_
  obtain ⟨x1, g1, hf⟩ := ze1 hf
  have J1 : ∀ (H : Heap) (locs : List Loc) (ls : Array Slot), lv_has ls 1 [] → ZW D B y ad true cu u H → va_S (fun x => B ≤ x) s.heap H locs → W p l e R s m args below meth c H locs 0 0 Q (F0 m 23 ls [.int (zI x1)]) := by
    intro H locs ls hl hW hS
    cases hf
    subst hQ
    exact z_reti hx hb hr hlocks hB hK hW hS d_r_scale_23
  refine z_icmp_lt hx hb d_r_scale_3 rfl g1 (fun g1 => ?_) (fun g1 => ?_)
  · refine lv_iload_n hx hb d_r_scale_11 rfl (lv_at hl 0 rfl) ?_
    refine z_bipush hx hb d_r_scale_12 rfl ?_
    refine z_icmp_lt hx hb d_r_scale_14 rfl g1 (fun g1 => ?_) (fun g1 => ?_)
    · refine z_iconst hx hb d_r_scale_22 ?_
      cases g1
      exact J1 _ _ _ (lv_sub hl [] rfl) hW hS
    · refine z_bipush hx hb d_r_scale_17 rfl ?_
      refine lv_goto hx hb d_r_scale_19 rfl ?_
      cases g1
      exact J1 _ _ _ (lv_sub hl [] rfl) hW hS
  · refine z_bipush hx hb d_r_scale_6 rfl ?_
    refine lv_goto hx hb d_r_scale_8 rfl ?_
    cases g1
    exact J1 _ _ _ (lv_sub hl [] rfl) hW hS
set_option maxRecDepth 100000 in
set_option maxHeartbeats 4000000 in
theorem k_r_expand {l : Launch} {D : va_G} {B : Nat} {y : Nat → ClassId} {ad : Nat × Nat → Nat} {cu : ZC} (F : Nat) (u : ZR) (v1 : Int) {uo : ZR} (hf : r_expand F u v1 = some uo) : Met l y_r_expand (.code y_r_expand b_r_expand 6 none :: zt) { frames := 1, cells := 0, slots := 0, locals := 21 } (va_Pc [.ref (ad (10, 0)), .int (zI v1)] (fun U => ZP D B y ad true cu u U)) (va_Qv (fun (_ : Unit) => True) (fun _ t => ZP D B y ad true cu uo t) (fun x => B ≤ x)) 0 0 (fun x => B ≤ x) := by
  refine Met.ofW (cc := b_r_expand) (maxL := 6) (ret := none) (by decide) rfl ?_
  intro p e s m args below meth c s₁ Bd hml hv
  obtain ⟨hargs, hB, hW, hK⟩ := hv
  have hx := Bd.exec
  have hb := Bd.bytes
  have hr := Bd.returns
  have hts0 := atoms_spec (ws := .code y_r_expand b_r_expand 6 none :: zt) Bd.pre
  have hown : s.vm.findClass "TreeShellModel" = some m.cls := findClass_of_methodNamed Bd.named
  have hlocks := Bd.notSynchronized
  have M : ZM p c b_r_expand s args m "TreeShellModel" D y := ⟨hx, hb, fun w h => hts0 w (List.mem_cons_of_mem _ h), hown, hK⟩
  have hS : va_S (fun x => B ≤ x) s.heap s.heap [] := va_S.rf
  have hE := lg_entry_eq m ([.ref (ad (10, 0)), .int (zI v1)] : List Value) 6
  rw [← hargs] at hE
  rw [hE]
  have hl := lv_entry ([.ref (ad (10, 0)), .int (zI v1)] : List Value) (n := 6) (Nat.le_of_ble_eq_true rfl)
  generalize (lg_sl ([.ref (ad (10, 0)), .int (zI v1)] : List Value) ++ List.replicate (6 - (lg_sl ([.ref (ad (10, 0)), .int (zI v1)] : List Value)).length) Slot.unset).toArray = ls at hl ⊢
  have hl : lv_has ls 6 [(0, .ref (ad (10, 0))), (1, .int (zI v1))] := hl
  refine z_start (fun Q R hQ hR => ?_)
  generalize hH : s.heap = H at hW
  have hS : va_S (fun x => B ≤ x) s.heap H [] := by rw [← hH]; exact hS
  have C_166 : ∀ (k22 : ZR → Int → Int → Int → Option (ZR)) (hk22 : ∀ (u : ZR) (v1 : Int) (v2 : Int) (v3 : Int) (H : Heap) (locs : List Loc) (ls : Array Slot), k22 u v1 v2 v3 = some uo → lv_has ls 6 [(0, .ref (ad (10, 0))), (1, .int (zI v1)), (2, .int (zI v2)), (3, .int (zI v3))] → ZW D B y ad true cu u H → va_S (fun x => B ≤ x) s.heap H locs → W p l e R s m args below meth c H locs 0 0 Q (F0 m 22 ls [])) , ∀ (u : ZR) (v1 : Int) (v2 : Int) (v3 : Int) (H : Heap) (locs : List Loc) (ls : Array Slot), r_expand_166 F k22 u v1 v2 v3 = some uo → lv_has ls 6 [(0, .ref (ad (10, 0))), (1, .int (zI v1)), (2, .int (zI v2)), (3, .int (zI v3))] → ZW D B y ad true cu u H → va_S (fun x => B ≤ x) s.heap H locs → W p l e R s m args below meth c H locs 0 0 Q (F0 m 166 ls []) := by
    intro k22 hk22 u v1 v2 v3 H locs ls hf hl hW hS
    rw [r_expand_166] at hf
    refine lv_iinc (k := 3) (v := zI (v3 + 1)) (lv' := [(3, .int (zI (v3 + 1))), (0, .ref (ad (10, 0))), (1, .int (zI v1)), (2, .int (zI v2))]) hx hb d_r_expand_166 hl rfl (zI_add _ _) (by decide) rfl (fun ls hl => ?_)
    refine lv_goto hx hb d_r_expand_169 rfl ?_
    exact hk22 _ _ _ _ _ _ _ hf (lv_sub hl [1, 2, 3, 0] rfl) hW hS
  have C_130 : ∀ (k22 : ZR → Int → Int → Int → Option (ZR)) (hk22 : ∀ (u : ZR) (v1 : Int) (v2 : Int) (v3 : Int) (H : Heap) (locs : List Loc) (ls : Array Slot), k22 u v1 v2 v3 = some uo → lv_has ls 6 [(0, .ref (ad (10, 0))), (1, .int (zI v1)), (2, .int (zI v2)), (3, .int (zI v3))] → ZW D B y ad true cu u H → va_S (fun x => B ≤ x) s.heap H locs → W p l e R s m args below meth c H locs 0 0 Q (F0 m 22 ls [])) , ∀ (n : Nat), ∀ (u : ZR) (v1 : Int) (v2 : Int) (v3 : Int) (v5 : Int) (H : Heap) (locs : List Loc) (ls : Array Slot), r_expand_130 F k22 n u v1 v2 v3 v5 = some uo → lv_has ls 6 [(0, .ref (ad (10, 0))), (1, .int (zI v1)), (2, .int (zI v2)), (3, .int (zI v3)), (5, .int (zI v5))] → ZW D B y ad true cu u H → va_S (fun x => B ≤ x) s.heap H locs → W p l e R s m args below meth c H locs 0 0 Q (F0 m 130 ls []) := by
    intro k22 hk22 n
    induction n with
    | zero => intro u v1 v2 v3 v5 H locs ls hf; cases (show (none : Option (ZR)) = some uo from hf)
    | succ n ih =>
      intro u v1 v2 v3 v5 H locs ls hf hl hW hS
      rw [r_expand_130] at hf
      refine lv_iload hx hb d_r_expand_130 (lv_at hl 4 rfl) ?_
      refine z_if_le hx hb d_r_expand_132 rfl hf (fun hf => ?_) (fun hf => ?_)
      · refine lv_iload_n hx hb d_r_expand_162 rfl (lv_at hl 3 rfl) ?_
        refine z_iconst hx hb d_r_expand_163 ?_
        refine z_iadd hx hb d_r_expand_164 ?_
        refine lv_istore_n (lv' := [(3, .int (zI (v3 + 1))), (0, .ref (ad (10, 0))), (1, .int (zI v1)), (2, .int (zI v2)), (5, .int (zI v5))]) hx hb d_r_expand_165 rfl hl (by decide) rfl (fun ls hl => ?_)
        exact C_166 _ hk22 _ _ _ _ _ _ _ hf (lv_sub hl [1, 2, 3, 0] rfl) hW hS
      · refine lv_aload_n hx hb d_r_expand_135 rfl (lv_at hl 0 rfl) ?_
        refine z_bipush hx hb d_r_expand_136 rfl ?_
        refine lv_aload_n hx hb d_r_expand_138 rfl (lv_at hl 0 rfl) ?_
        refine zg_Mo_result M hW (M.2.2.1 _ w_777) d_r_expand_139 ?_
        refine lv_iload hx hb d_r_expand_142 (lv_at hl 4 rfl) ?_
        obtain ⟨g1, hf⟩ := zg hf
        refine z_idiv hx hb g1 d_r_expand_144 ?_
        refine z_bipush hx hb d_r_expand_145 rfl ?_
        refine z_irem hx hb (by decide) d_r_expand_147 ?_
        refine z_iadd hx hb d_r_expand_148 ?_
        obtain ⟨u7, g2, hf⟩ := ze1 hf
        refine z_callVv (As := [.int (zI (48 + (zrem (zdiv (rI u 45) v5) 10)))]) (rest := []) (k_r_letterOf F _ _ g2) M hml (cw_r_letterOf M.2.2.1 (M.2.2.1 _ w_956) (by rw [hR]; exact Nat.le_of_ble_eq_true rfl) (by rw [hR]; exact Nat.le_of_ble_eq_true rfl)) (zv_Mo hK hW) hB hW hS rfl hl.1 rfl (Nat.le_of_ble_eq_true rfl) d_r_expand_149 (by rw [hR]; exact ⟨Nat.zero_le _, Nat.zero_le _⟩) (fun H locs hW hS => ?_)
        refine lv_iload hx hb d_r_expand_152 (lv_at hl 4 rfl) ?_
        refine z_bipush hx hb d_r_expand_154 rfl ?_
        refine z_idiv hx hb (by decide) d_r_expand_156 ?_
        refine lv_istore (lv' := [(5, .int (zI (zdiv v5 10))), (0, .ref (ad (10, 0))), (1, .int (zI v1)), (2, .int (zI v2)), (3, .int (zI v3))]) hx hb d_r_expand_157 hl (by decide) rfl (fun ls hl => ?_)
        refine lv_goto hx hb d_r_expand_159 rfl ?_
        exact ih _ _ _ _ _ _ _ _ hf (lv_sub hl [1, 2, 3, 4, 0] rfl) hW hS
  have C_22 : ∀ (n : Nat), ∀ (u : ZR) (v1 : Int) (v2 : Int) (v3 : Int) (H : Heap) (locs : List Loc) (ls : Array Slot), r_expand_22 F n u v1 v2 v3 = some uo → lv_has ls 6 [(0, .ref (ad (10, 0))), (1, .int (zI v1)), (2, .int (zI v2)), (3, .int (zI v3))] → ZW D B y ad true cu u H → va_S (fun x => B ≤ x) s.heap H locs → W p l e R s m args below meth c H locs 0 0 Q (F0 m 22 ls []) := by
    intro n
    induction n with
    | zero => intro u v1 v2 v3 H locs ls hf; cases (show (none : Option (ZR)) = some uo from hf)
    | succ n ih =>
      intro u v1 v2 v3 H locs ls hf hl hW hS
      rw [r_expand_22] at hf
      refine lv_iload_n hx hb d_r_expand_22 rfl (lv_at hl 3 rfl) ?_
      refine lv_aload_n hx hb d_r_expand_23 rfl (lv_at hl 0 rfl) ?_
      refine zg_Mo_to M hW (M.2.2.1 _ w_747) d_r_expand_24 ?_
      refine lv_iload_n hx hb d_r_expand_27 rfl (lv_at hl 1 rfl) ?_
      obtain ⟨g3, hf⟩ := zg hf
      refine zr_15 M hW g3 d_r_expand_28 ?_
      refine z_icmp_ge hx hb d_r_expand_29 rfl hf (fun hf => ?_) (fun hf => ?_)
      · refine lv_aload_n hx hb d_r_expand_172 rfl (lv_at hl 0 rfl) ?_
        refine zg_Mo_wordTo M hW (M.2.2.1 _ w_750) d_r_expand_173 ?_
        refine lv_aload_n hx hb d_r_expand_176 rfl (lv_at hl 0 rfl) ?_
        refine zg_Mo_words M hW (M.2.2.1 _ w_748) d_r_expand_177 ?_
        refine lv_aload_n hx hb d_r_expand_180 rfl (lv_at hl 0 rfl) ?_
        refine zg_Mo_wordLength M hW (M.2.2.1 _ w_751) d_r_expand_181 ?_
        obtain ⟨g4, hf⟩ := zg hf
        refine zw_18 M hW hS g4 d_r_expand_184 (fun H locs hW hS => ?_)
        refine lv_aload_n hx hb d_r_expand_185 rfl (lv_at hl 0 rfl) ?_
        refine lv_dup hx hb d_r_expand_186 rfl ?_
        refine zg_Mo_words M hW (M.2.2.1 _ w_748) d_r_expand_187 ?_
        refine z_iconst hx hb d_r_expand_190 ?_
        refine z_iadd hx hb d_r_expand_191 ?_
        refine zp_Mo_words M hW hS (M.2.2.1 _ w_748) d_r_expand_192 (fun H locs hW hS => ?_)
        obtain ⟨u1, g5, hf⟩ := ze1 hf
        have g5 := Option.some.inj g5
        rw [g5] at hW
        cases hf
        subst hQ
        exact z_retv hx hb hr hlocks hB hK hW hS d_r_expand_195
      · refine lv_aload_n hx hb d_r_expand_32 rfl (lv_at hl 0 rfl) ?_
        refine zg_Mo_line M hW (M.2.2.1 _ w_743) d_r_expand_33 ?_
        refine lv_iload_n hx hb d_r_expand_36 rfl (lv_at hl 3 rfl) ?_
        obtain ⟨g6, hf⟩ := zg hf
        refine zr_11 M hW g6 d_r_expand_37 ?_
        refine z_bipush hx hb d_r_expand_38 rfl ?_
        obtain ⟨x3, g7, hf⟩ := ze1 hf
        have J7 : ∀ (H : Heap) (locs : List Loc) (ls : Array Slot), lv_has ls 6 [(0, .ref (ad (10, 0))), (1, .int (zI v1)), (2, .int (zI v2)), (3, .int (zI v3))] → ZW D B y ad true cu u H → va_S (fun x => B ≤ x) s.heap H locs → W p l e R s m args below meth c H locs 0 0 Q (F0 m 77 ls [.int (zI x3)]) := by
          intro H locs ls hl hW hS
          refine lv_istore (lv' := [(4, .int (zI x3)), (0, .ref (ad (10, 0))), (1, .int (zI v1)), (2, .int (zI v2)), (3, .int (zI v3))]) hx hb d_r_expand_77 hl (by decide) rfl (fun ls hl => ?_)
          refine lv_aload_n hx hb d_r_expand_79 rfl (lv_at hl 1 rfl) ?_
          refine zg_Mo_line M hW (M.2.2.1 _ w_743) d_r_expand_80 ?_
          refine lv_iload_n hx hb d_r_expand_83 rfl (lv_at hl 4 rfl) ?_
          refine zr_11 M hW g6 d_r_expand_84 ?_
          refine z_bipush hx hb d_r_expand_85 rfl ?_
          refine z_icmp_ne hx hb d_r_expand_87 rfl hf (fun hf => ?_) (fun hf => ?_)
          · refine lv_iload hx hb d_r_expand_103 (lv_at hl 0 rfl) ?_
            refine z_if_ne hx hb d_r_expand_105 rfl hf (fun hf => ?_) (fun hf => ?_)
            · refine lv_aload_n hx hb d_r_expand_121 rfl (lv_at hl 1 rfl) ?_
              refine zg_Mo_result M hW (M.2.2.1 _ w_777) d_r_expand_122 ?_
              obtain ⟨p4, g8, hf⟩ := ze1 hf
              refine z_callSi (As := [.int (zI (rI u 45))]) (rest := []) (k_r_scale F _ _ g8) M hml (cw_r_scale M.2.2.1 (M.2.2.1 _ w_960) (by rw [hR]; exact Nat.le_of_ble_eq_true rfl) (by rw [hR]; exact Nat.le_of_ble_eq_true rfl)) hB hW hS rfl hl.1 rfl (Nat.le_of_ble_eq_true rfl) d_r_expand_125 (by rw [hR]; exact ⟨Nat.zero_le _, Nat.zero_le _⟩) (fun H locs hW hS => ?_)
              refine lv_istore (lv' := [(5, .int (zI p4)), (4, .int (zI x3)), (0, .ref (ad (10, 0))), (1, .int (zI v1)), (2, .int (zI v2)), (3, .int (zI v3))]) hx hb d_r_expand_128 hl (by decide) rfl (fun ls hl => ?_)
              exact C_130 _ ih F _ _ _ _ _ _ _ _ hf (lv_sub hl [2, 3, 4, 5, 0] rfl) hW hS
            · refine lv_aload_n hx hb d_r_expand_108 rfl (lv_at hl 1 rfl) ?_
              refine lv_aload_n hx hb d_r_expand_109 rfl (lv_at hl 1 rfl) ?_
              refine zg_Mo_line M hW (M.2.2.1 _ w_743) d_r_expand_110 ?_
              refine lv_iload_n hx hb d_r_expand_113 rfl (lv_at hl 4 rfl) ?_
              refine zr_11 M hW g6 d_r_expand_114 ?_
              obtain ⟨u5, g9, hf⟩ := ze1 hf
              refine z_callVv (As := [.int (zI (rA u 11 v3.toNat))]) (rest := []) (k_r_letterOf F _ _ g9) M hml (cw_r_letterOf M.2.2.1 (M.2.2.1 _ w_956) (by rw [hR]; exact Nat.le_of_ble_eq_true rfl) (by rw [hR]; exact Nat.le_of_ble_eq_true rfl)) (zv_Mo hK hW) hB hW hS rfl hl.1 rfl (Nat.le_of_ble_eq_true rfl) d_r_expand_115 (by rw [hR]; exact ⟨Nat.zero_le _, Nat.zero_le _⟩) (fun H locs hW hS => ?_)
              refine lv_goto hx hb d_r_expand_118 rfl ?_
              exact C_166 _ ih _ _ _ _ _ _ _ hf (lv_sub hl [1, 2, 3, 4] rfl) hW hS
          · refine lv_iload_n hx hb d_r_expand_90 rfl (lv_at hl 3 rfl) ?_
            obtain ⟨x6, g10, hf⟩ := ze1 hf
            have J10 : ∀ (H : Heap) (locs : List Loc) (ls : Array Slot), lv_has ls 6 [(0, .ref (ad (10, 0))), (1, .int (zI v1)), (3, .int (zI v3))] → ZW D B y ad true cu u H → va_S (fun x => B ≤ x) s.heap H locs → W p l e R s m args below meth c H locs 0 0 Q (F0 m 99 ls [.int (zI x6)]) := by
              intro H locs ls hl hW hS
              refine lv_istore_n (lv' := [(2, .int (zI x6)), (0, .ref (ad (10, 0))), (1, .int (zI v1)), (3, .int (zI v3))]) hx hb d_r_expand_99 rfl hl (by decide) rfl (fun ls hl => ?_)
              refine lv_goto hx hb d_r_expand_100 rfl ?_
              exact C_166 _ ih _ _ _ _ _ _ _ hf (lv_sub hl [1, 2, 0, 3] rfl) hW hS
            refine z_if_ne hx hb d_r_expand_91 rfl g10 (fun g10 => ?_) (fun g10 => ?_)
            · refine z_iconst hx hb d_r_expand_98 ?_
              cases g10
              exact J10 _ _ _ (lv_sub hl [1, 2, 4] rfl) hW hS
            · refine z_iconst hx hb d_r_expand_94 ?_
              refine lv_goto hx hb d_r_expand_95 rfl ?_
              cases g10
              exact J10 _ _ _ (lv_sub hl [1, 2, 4] rfl) hW hS
        obtain ⟨b2, g11, g7⟩ := ze1 g7
        have JT11 : b2 = true → ∀ (H : Heap) (locs : List Loc), ZW D B y ad true cu u H → va_S (fun x => B ≤ x) s.heap H locs → W p l e R s m args below meth c H locs 0 0 Q (F0 m 76 ls []) := by
          intro hv H locs hW hS
          have g7 := zp (hv) g7
          refine z_iconst hx hb d_r_expand_76 ?_
          cases g7
          exact J7 _ _ _ (lv_sub hl [0, 1, 2, 3] rfl) hW hS
        have JF11 : b2 = false → ∀ (H : Heap) (locs : List Loc), ZW D B y ad true cu u H → va_S (fun x => B ≤ x) s.heap H locs → W p l e R s m args below meth c H locs 0 0 Q (F0 m 72 ls []) := by
          intro hv H locs hW hS
          have g7 := zn (by rw [hv]; decide) g7
          refine z_iconst hx hb d_r_expand_72 ?_
          refine lv_goto hx hb d_r_expand_73 rfl ?_
          cases g7
          exact J7 _ _ _ (lv_sub hl [0, 1, 2, 3] rfl) hW hS
        refine z_icmp_ne hx hb d_r_expand_40 rfl g11 (fun g11 => ?_) (fun g11 => ?_)
        · exact JT11 (Option.some.inj g11).symm _ _ hW hS
        · refine lv_iload_n hx hb d_r_expand_43 rfl (lv_at hl 2 rfl) ?_
          refine z_if_ne hx hb d_r_expand_44 rfl g11 (fun g11 => ?_) (fun g11 => ?_)
          · exact JT11 (Option.some.inj g11).symm _ _ hW hS
          · refine lv_iload_n hx hb d_r_expand_47 rfl (lv_at hl 3 rfl) ?_
            refine z_iconst hx hb d_r_expand_48 ?_
            refine z_iadd hx hb d_r_expand_49 ?_
            refine lv_aload_n hx hb d_r_expand_50 rfl (lv_at hl 0 rfl) ?_
            refine zg_Mo_to M hW (M.2.2.1 _ w_747) d_r_expand_51 ?_
            refine lv_iload_n hx hb d_r_expand_54 rfl (lv_at hl 1 rfl) ?_
            refine zr_15 M hW g3 d_r_expand_55 ?_
            refine z_icmp_ge hx hb d_r_expand_56 rfl g11 (fun g11 => ?_) (fun g11 => ?_)
            · exact JT11 (Option.some.inj g11).symm _ _ hW hS
            · refine lv_aload_n hx hb d_r_expand_59 rfl (lv_at hl 0 rfl) ?_
              refine zg_Mo_line M hW (M.2.2.1 _ w_743) d_r_expand_60 ?_
              refine lv_iload_n hx hb d_r_expand_63 rfl (lv_at hl 3 rfl) ?_
              refine z_iconst hx hb d_r_expand_64 ?_
              refine z_iadd hx hb d_r_expand_65 ?_
              obtain ⟨g12, g11⟩ := zg g11
              refine zr_11 M hW g12 d_r_expand_66 ?_
              refine z_bipush hx hb d_r_expand_67 rfl ?_
              refine z_icmp_ne hx hb d_r_expand_69 rfl g11 (fun g11 => ?_) (fun g11 => ?_)
              · exact JT11 (Option.some.inj g11).symm _ _ hW hS
              · exact JF11 (Option.some.inj g11).symm _ _ hW hS
  rw [r_expand] at hf
  refine lv_aload_n hx hb d_r_expand_0 rfl (lv_at hl 0 rfl) ?_
  refine zg_Mo_wordFrom M hW (M.2.2.1 _ w_749) d_r_expand_1 ?_
  refine lv_aload_n hx hb d_r_expand_4 rfl (lv_at hl 0 rfl) ?_
  refine zg_Mo_words M hW (M.2.2.1 _ w_748) d_r_expand_5 ?_
  refine lv_aload_n hx hb d_r_expand_8 rfl (lv_at hl 0 rfl) ?_
  refine zg_Mo_wordLength M hW (M.2.2.1 _ w_751) d_r_expand_9 ?_
  obtain ⟨g13, hf⟩ := zg hf
  refine zw_17 M hW hS g13 d_r_expand_12 (fun H locs hW hS => ?_)
  refine z_iconst hx hb d_r_expand_13 ?_
  refine lv_istore_n (lv' := [(2, .int (zI 0)), (0, .ref (ad (10, 0))), (1, .int (zI v1))]) hx hb d_r_expand_14 rfl hl (by decide) rfl (fun ls hl => ?_)
  refine lv_aload_n hx hb d_r_expand_15 rfl (lv_at hl 1 rfl) ?_
  refine zg_Mo_from M hW (M.2.2.1 _ w_746) d_r_expand_16 ?_
  refine lv_iload_n hx hb d_r_expand_19 rfl (lv_at hl 2 rfl) ?_
  obtain ⟨g14, hf⟩ := zg hf
  refine zr_14 M hW g14 d_r_expand_20 ?_
  refine lv_istore_n (lv' := [(3, .int (zI (rA (tA u 17 (rI u 16).toNat (rI u 19)) 14 v1.toNat))), (2, .int (zI 0)), (0, .ref (ad (10, 0))), (1, .int (zI v1))]) hx hb d_r_expand_21 rfl hl (by decide) rfl (fun ls hl => ?_)
  exact C_22 F _ _ _ _ _ _ _ hf (lv_sub hl [2, 3, 1, 0] rfl) hW hS
set_option maxRecDepth 100000 in
set_option maxHeartbeats 4000000 in
theorem k_r_packed {l : Launch} {D : va_G} {B : Nat} {y : Nat → ClassId} {ad : Nat × Nat → Nat} {cu : ZC} (F : Nat) (u : ZR) (v1 : Int) (v2 : Int) {res : Int64} (hf : r_packed F u v1 v2 = some res) : Met l y_r_packed (.code y_r_packed b_r_packed 6 (some .long) :: zt) { frames := 0, cells := 0, slots := 0, locals := 0 } (va_Pc [.ref (ad (10, 0)), .int (zI v1), .int (zI v2)] (fun U => ZP D B y ad true cu u U)) (va_Ql (fun v (_ : Unit) => v = res) (fun _ t => ZP D B y ad true cu u t) (fun x => B ≤ x)) 0 0 (fun x => B ≤ x) := by
  refine Met.ofW (cc := b_r_packed) (maxL := 6) (ret := (some .long)) (by decide) rfl ?_
  intro p e s m args below meth c s₁ Bd hml hv
  obtain ⟨hargs, hB, hW, hK⟩ := hv
  have hx := Bd.exec
  have hb := Bd.bytes
  have hr := Bd.returns
  have hts0 := atoms_spec (ws := .code y_r_packed b_r_packed 6 (some .long) :: zt) Bd.pre
  have hown : s.vm.findClass "TreeShellModel" = some m.cls := findClass_of_methodNamed Bd.named
  have hlocks := Bd.notSynchronized
  have M : ZM p c b_r_packed s args m "TreeShellModel" D y := ⟨hx, hb, fun w h => hts0 w (List.mem_cons_of_mem _ h), hown, hK⟩
  have hS : va_S (fun x => B ≤ x) s.heap s.heap [] := va_S.rf
  have hE := lg_entry_eq m ([.ref (ad (10, 0)), .int (zI v1), .int (zI v2)] : List Value) 6
  rw [← hargs] at hE
  rw [hE]
  have hl := lv_entry ([.ref (ad (10, 0)), .int (zI v1), .int (zI v2)] : List Value) (n := 6) (Nat.le_of_ble_eq_true rfl)
  generalize (lg_sl ([.ref (ad (10, 0)), .int (zI v1), .int (zI v2)] : List Value) ++ List.replicate (6 - (lg_sl ([.ref (ad (10, 0)), .int (zI v1), .int (zI v2)] : List Value)).length) Slot.unset).toArray = ls at hl ⊢
  have hl : lv_has ls 6 [(0, .ref (ad (10, 0))), (1, .int (zI v1)), (2, .int (zI v2))] := hl
  refine z_start (fun Q R hQ hR => ?_)
  generalize hH : s.heap = H at hW
  have hS : va_S (fun x => B ≤ x) s.heap H [] := by rw [← hH]; exact hS
  have C_17 : ∀ (n : Nat), ∀ (v1 : Int) (v2 : Int) (v3 : Int64) (v5 : Int) (H : Heap) (locs : List Loc) (ls : Array Slot), r_packed_17 F n u v1 v2 v3 v5 = some res → lv_has ls 6 [(0, .ref (ad (10, 0))), (1, .int (zI v1)), (2, .int (zI v2)), (3, .long v3), (5, .int (zI v5))] → ZW D B y ad true cu u H → va_S (fun x => B ≤ x) s.heap H locs → W p l e R s m args below meth c H locs 0 0 Q (F0 m 17 ls []) := by
    intro n
    induction n with
    | zero => intro v1 v2 v3 v5 H locs ls hf; cases (show (none : Option (Int64)) = some res from hf)
    | succ n ih =>
      intro v1 v2 v3 v5 H locs ls hf hl hW hS
      rw [r_packed_17] at hf
      refine lv_iload hx hb d_r_packed_17 (lv_at hl 4 rfl) ?_
      refine z_bipush hx hb d_r_packed_19 rfl ?_
      refine z_icmp_ge hx hb d_r_packed_21 rfl hf (fun hf => ?_) (fun hf => ?_)
      · refine lv_lload_n hx hb d_r_packed_58 rfl (lv_at hl 3 rfl) ?_
        cases hf
        subst hQ
        exact z_retl hx hb hr hlocks hB hK hW hS d_r_packed_59
      · refine lv_lload_n hx hb d_r_packed_24 rfl (lv_at hl 3 rfl) ?_
        refine z_bipush hx hb d_r_packed_25 rfl ?_
        refine z_lshl hx hb d_r_packed_27 ?_
        refine lv_iload_n hx hb d_r_packed_28 rfl (lv_at hl 1 rfl) ?_
        refine lv_iload hx hb d_r_packed_29 (lv_at hl 4 rfl) ?_
        refine z_iadd hx hb d_r_packed_31 ?_
        refine lv_iload_n hx hb d_r_packed_32 rfl (lv_at hl 2 rfl) ?_
        obtain ⟨x1, g1, hf⟩ := ze1 hf
        have J1 : ∀ (H : Heap) (locs : List Loc) (ls : Array Slot), lv_has ls 6 [(0, .ref (ad (10, 0))), (1, .int (zI v1)), (2, .int (zI v2)), (5, .int (zI v5))] → ZW D B y ad true cu u H → va_S (fun x => B ≤ x) s.heap H locs → W p l e R s m args below meth c H locs 0 0 Q (F0 m 49 ls [.int (zI x1), .long (zlshl v3 8)]) := by
          intro H locs ls hl hW hS
          refine z_i2l hx hb d_r_packed_49 ?_
          refine lv_lor hx hb d_r_packed_50 ?_
          refine lv_lstore_n (lv' := [(3, .long ((zlshl v3 8) ||| (zi2l x1))), (0, .ref (ad (10, 0))), (1, .int (zI v1)), (2, .int (zI v2)), (5, .int (zI v5))]) hx hb d_r_packed_51 rfl hl (by decide) rfl (fun ls hl => ?_)
          refine lv_iinc (k := 4) (v := zI (v5 + 1)) (lv' := [(5, .int (zI (v5 + 1))), (3, .long ((zlshl v3 8) ||| (zi2l x1))), (0, .ref (ad (10, 0))), (1, .int (zI v1)), (2, .int (zI v2))]) hx hb d_r_packed_52 hl rfl (zI_add _ _) (by decide) rfl (fun ls hl => ?_)
          refine lv_goto hx hb d_r_packed_55 rfl ?_
          exact ih _ _ _ _ _ _ _ hf (lv_sub hl [2, 3, 4, 1, 0] rfl) hW hS
        refine z_icmp_ge hx hb d_r_packed_33 rfl g1 (fun g1 => ?_) (fun g1 => ?_)
        · refine z_iconst hx hb d_r_packed_48 ?_
          cases g1
          exact J1 _ _ _ (lv_sub hl [0, 1, 2, 4] rfl) hW hS
        · refine lv_aload_n hx hb d_r_packed_36 rfl (lv_at hl 0 rfl) ?_
          refine zg_Mo_wordChar M hW (M.2.2.1 _ w_752) d_r_packed_37 ?_
          refine lv_iload_n hx hb d_r_packed_40 rfl (lv_at hl 1 rfl) ?_
          refine lv_iload hx hb d_r_packed_41 (lv_at hl 4 rfl) ?_
          refine z_iadd hx hb d_r_packed_43 ?_
          obtain ⟨g2, g1⟩ := zg g1
          refine zr_20 M hW g2 d_r_packed_44 ?_
          refine lv_goto hx hb d_r_packed_45 rfl ?_
          cases g1
          exact J1 _ _ _ (lv_sub hl [0, 1, 2, 4] rfl) hW hS
  rw [r_packed] at hf
  refine lv_iload_n hx hb d_r_packed_0 rfl (lv_at hl 2 rfl) ?_
  refine lv_iload_n hx hb d_r_packed_1 rfl (lv_at hl 1 rfl) ?_
  refine z_isub hx hb d_r_packed_2 ?_
  refine z_bipush hx hb d_r_packed_3 rfl ?_
  refine z_icmp_le hx hb d_r_packed_5 rfl hf (fun hf => ?_) (fun hf => ?_)
  · refine lv_lconst (v := 0) hx hb d_r_packed_12 rfl ?_
    refine lv_lstore_n (lv' := [(3, .long (0 : Int64)), (0, .ref (ad (10, 0))), (1, .int (zI v1)), (2, .int (zI v2))]) hx hb d_r_packed_13 rfl hl (by decide) rfl (fun ls hl => ?_)
    refine z_iconst hx hb d_r_packed_14 ?_
    refine lv_istore (lv' := [(5, .int (zI 0)), (3, .long (0 : Int64)), (0, .ref (ad (10, 0))), (1, .int (zI v1)), (2, .int (zI v2))]) hx hb d_r_packed_15 hl (by decide) rfl (fun ls hl => ?_)
    exact C_17 F _ _ _ _ _ _ _ hf (lv_sub hl [2, 3, 4, 1, 0] rfl) hW hS
  · refine lv_ldc2 hx hb hown (M.2.2.1 _ w_971) d_r_packed_8 ?_
    cases hf
    subst hQ
    exact z_retl hx hb hr hlocks hB hK hW hS d_r_packed_11
set_option maxRecDepth 100000 in
set_option maxHeartbeats 4000000 in
theorem k_r_isDots {l : Launch} {D : va_G} {B : Nat} {y : Nat → ClassId} {ad : Nat × Nat → Nat} {cu : ZC} (F : Nat) (u : ZR) (v1 : Int) (v2 : Int) {res : Int} (hf : r_isDots F u v1 v2 = some res) : Met l y_r_isDots (.code y_r_isDots b_r_isDots 3 (some .boolean) :: zt) { frames := 0, cells := 0, slots := 0, locals := 0 } (va_Pc [.ref (ad (10, 0)), .int (zI v1), .int (zI v2)] (fun U => ZP D B y ad true cu u U)) (va_Qi (fun v (_ : Unit) => v = zI res) (fun _ t => ZP D B y ad true cu u t) (fun x => B ≤ x)) 0 0 (fun x => B ≤ x) := by
  refine Met.ofW (cc := b_r_isDots) (maxL := 3) (ret := (some .boolean)) (by decide) rfl ?_
  intro p e s m args below meth c s₁ Bd hml hv
  obtain ⟨hargs, hB, hW, hK⟩ := hv
  have hx := Bd.exec
  have hb := Bd.bytes
  have hr := Bd.returns
  have hts0 := atoms_spec (ws := .code y_r_isDots b_r_isDots 3 (some .boolean) :: zt) Bd.pre
  have hown : s.vm.findClass "TreeShellModel" = some m.cls := findClass_of_methodNamed Bd.named
  have hlocks := Bd.notSynchronized
  have M : ZM p c b_r_isDots s args m "TreeShellModel" D y := ⟨hx, hb, fun w h => hts0 w (List.mem_cons_of_mem _ h), hown, hK⟩
  have hS : va_S (fun x => B ≤ x) s.heap s.heap [] := va_S.rf
  have hE := lg_entry_eq m ([.ref (ad (10, 0)), .int (zI v1), .int (zI v2)] : List Value) 3
  rw [← hargs] at hE
  rw [hE]
  have hl := lv_entry ([.ref (ad (10, 0)), .int (zI v1), .int (zI v2)] : List Value) (n := 3) (Nat.le_of_ble_eq_true rfl)
  generalize (lg_sl ([.ref (ad (10, 0)), .int (zI v1), .int (zI v2)] : List Value) ++ List.replicate (3 - (lg_sl ([.ref (ad (10, 0)), .int (zI v1), .int (zI v2)] : List Value)).length) Slot.unset).toArray = ls at hl ⊢
  have hl : lv_has ls 3 [(0, .ref (ad (10, 0))), (1, .int (zI v1)), (2, .int (zI v2))] := hl
  refine z_start (fun Q R hQ hR => ?_)
  generalize hH : s.heap = H at hW
  have hS : va_S (fun x => B ≤ x) s.heap H [] := by rw [← hH]; exact hS
  rw [r_isDots] at hf
  refine lv_iload_n hx hb d_r_isDots_0 rfl (lv_at hl 2 rfl) ?_
  refine lv_iload_n hx hb d_r_isDots_1 rfl (lv_at hl 1 rfl) ?_
  refine z_isub hx hb d_r_isDots_2 ?_
  refine z_iconst hx hb d_r_isDots_3 ?_
  obtain ⟨x2, g1, hf⟩ := ze1 hf
  have J1 : ∀ (H : Heap) (locs : List Loc) (ls : Array Slot), lv_has ls 3 [] → ZW D B y ad true cu u H → va_S (fun x => B ≤ x) s.heap H locs → W p l e R s m args below meth c H locs 0 0 Q (F0 m 54 ls [.int (zI x2)]) := by
    intro H locs ls hl hW hS
    obtain ⟨g2, hf⟩ := zg hf
    cases hf
    subst hQ
    exact z_retz hx hb g2 hr hlocks hB hK hW hS d_r_isDots_54
  obtain ⟨b1, g3, g1⟩ := ze1 g1
  have JT3 : b1 = true → ∀ (H : Heap) (locs : List Loc), ZW D B y ad true cu u H → va_S (fun x => B ≤ x) s.heap H locs → W p l e R s m args below meth c H locs 0 0 Q (F0 m 49 ls []) := by
    intro hv H locs hW hS
    have g1 := zp (hv) g1
    refine z_iconst hx hb d_r_isDots_49 ?_
    refine lv_goto hx hb d_r_isDots_50 rfl ?_
    cases g1
    exact J1 _ _ _ (lv_sub hl [] rfl) hW hS
  have JF3 : b1 = false → ∀ (H : Heap) (locs : List Loc), ZW D B y ad true cu u H → va_S (fun x => B ≤ x) s.heap H locs → W p l e R s m args below meth c H locs 0 0 Q (F0 m 53 ls []) := by
    intro hv H locs hW hS
    have g1 := zn (by rw [hv]; decide) g1
    refine z_iconst hx hb d_r_isDots_53 ?_
    cases g1
    exact J1 _ _ _ (lv_sub hl [] rfl) hW hS
  refine z_icmp_ne hx hb d_r_isDots_4 rfl g3 (fun g3 => ?_) (fun g3 => ?_)
  · refine lv_iload_n hx hb d_r_isDots_18 rfl (lv_at hl 2 rfl) ?_
    refine lv_iload_n hx hb d_r_isDots_19 rfl (lv_at hl 1 rfl) ?_
    refine z_isub hx hb d_r_isDots_20 ?_
    refine z_iconst hx hb d_r_isDots_21 ?_
    refine z_icmp_ne hx hb d_r_isDots_22 rfl g3 (fun g3 => ?_) (fun g3 => ?_)
    · exact JF3 (Option.some.inj g3).symm _ _ hW hS
    · refine lv_aload_n hx hb d_r_isDots_25 rfl (lv_at hl 0 rfl) ?_
      refine zg_Mo_wordChar M hW (M.2.2.1 _ w_752) d_r_isDots_26 ?_
      refine lv_iload_n hx hb d_r_isDots_29 rfl (lv_at hl 1 rfl) ?_
      obtain ⟨g4, g3⟩ := zg g3
      refine zr_20 M hW g4 d_r_isDots_30 ?_
      refine z_bipush hx hb d_r_isDots_31 rfl ?_
      refine z_icmp_ne hx hb d_r_isDots_33 rfl g3 (fun g3 => ?_) (fun g3 => ?_)
      · exact JF3 (Option.some.inj g3).symm _ _ hW hS
      · refine lv_aload_n hx hb d_r_isDots_36 rfl (lv_at hl 0 rfl) ?_
        refine zg_Mo_wordChar M hW (M.2.2.1 _ w_752) d_r_isDots_37 ?_
        refine lv_iload_n hx hb d_r_isDots_40 rfl (lv_at hl 1 rfl) ?_
        refine z_iconst hx hb d_r_isDots_41 ?_
        refine z_iadd hx hb d_r_isDots_42 ?_
        obtain ⟨g5, g3⟩ := zg g3
        refine zr_20 M hW g5 d_r_isDots_43 ?_
        refine z_bipush hx hb d_r_isDots_44 rfl ?_
        refine z_icmp_ne hx hb d_r_isDots_46 rfl g3 (fun g3 => ?_) (fun g3 => ?_)
        · exact JF3 (Option.some.inj g3).symm _ _ hW hS
        · exact JT3 (Option.some.inj g3).symm _ _ hW hS
  · refine lv_aload_n hx hb d_r_isDots_7 rfl (lv_at hl 0 rfl) ?_
    refine zg_Mo_wordChar M hW (M.2.2.1 _ w_752) d_r_isDots_8 ?_
    refine lv_iload_n hx hb d_r_isDots_11 rfl (lv_at hl 1 rfl) ?_
    obtain ⟨g6, g3⟩ := zg g3
    refine zr_20 M hW g6 d_r_isDots_12 ?_
    refine z_bipush hx hb d_r_isDots_13 rfl ?_
    refine z_icmp_eq hx hb d_r_isDots_15 rfl g3 (fun g3 => ?_) (fun g3 => ?_)
    · exact JT3 (Option.some.inj g3).symm _ _ hW hS
    · refine lv_iload_n hx hb d_r_isDots_18 rfl (lv_at hl 2 rfl) ?_
      refine lv_iload_n hx hb d_r_isDots_19 rfl (lv_at hl 1 rfl) ?_
      refine z_isub hx hb d_r_isDots_20 ?_
      refine z_iconst hx hb d_r_isDots_21 ?_
      refine z_icmp_ne hx hb d_r_isDots_22 rfl g3 (fun g3 => ?_) (fun g3 => ?_)
      · exact JF3 (Option.some.inj g3).symm _ _ hW hS
      · refine lv_aload_n hx hb d_r_isDots_25 rfl (lv_at hl 0 rfl) ?_
        refine zg_Mo_wordChar M hW (M.2.2.1 _ w_752) d_r_isDots_26 ?_
        refine lv_iload_n hx hb d_r_isDots_29 rfl (lv_at hl 1 rfl) ?_
        refine zr_20 M hW g6 d_r_isDots_30 ?_
        refine z_bipush hx hb d_r_isDots_31 rfl ?_
        refine z_icmp_ne hx hb d_r_isDots_33 rfl g3 (fun g3 => ?_) (fun g3 => ?_)
        · exact JF3 (Option.some.inj g3).symm _ _ hW hS
        · refine lv_aload_n hx hb d_r_isDots_36 rfl (lv_at hl 0 rfl) ?_
          refine zg_Mo_wordChar M hW (M.2.2.1 _ w_752) d_r_isDots_37 ?_
          refine lv_iload_n hx hb d_r_isDots_40 rfl (lv_at hl 1 rfl) ?_
          refine z_iconst hx hb d_r_isDots_41 ?_
          refine z_iadd hx hb d_r_isDots_42 ?_
          obtain ⟨g7, g3⟩ := zg g3
          refine zr_20 M hW g7 d_r_isDots_43 ?_
          refine z_bipush hx hb d_r_isDots_44 rfl ?_
          refine z_icmp_ne hx hb d_r_isDots_46 rfl g3 (fun g3 => ?_) (fun g3 => ?_)
          · exact JF3 (Option.some.inj g3).symm _ _ hW hS
          · exact JT3 (Option.some.inj g3).symm _ _ hW hS
set_option maxRecDepth 100000 in
set_option maxHeartbeats 4000000 in
theorem k_r_child {l : Launch} {D : va_G} {B : Nat} {y : Nat → ClassId} {ad : Nat × Nat → Nat} {cu : ZC} (F : Nat) (u : ZR) (v1 : Int) (v2 : Int64) {res : Int} (hf : r_child F u v1 v2 = some res) : Met l y_r_child (.code y_r_child b_r_child 5 (some .int) :: zt) { frames := 0, cells := 0, slots := 0, locals := 0 } (va_Pc [.ref (ad (10, 0)), .int (zI v1), .long v2] (fun U => ZP D B y ad true cu u U)) (va_Qi (fun v (_ : Unit) => v = zI res) (fun _ t => ZP D B y ad true cu u t) (fun x => B ≤ x)) 0 0 (fun x => B ≤ x) := by
  refine Met.ofW (cc := b_r_child) (maxL := 5) (ret := (some .int)) (by decide) rfl ?_
  intro p e s m args below meth c s₁ Bd hml hv
  obtain ⟨hargs, hB, hW, hK⟩ := hv
  have hx := Bd.exec
  have hb := Bd.bytes
  have hr := Bd.returns
  have hts0 := atoms_spec (ws := .code y_r_child b_r_child 5 (some .int) :: zt) Bd.pre
  have hown : s.vm.findClass "TreeShellModel" = some m.cls := findClass_of_methodNamed Bd.named
  have hlocks := Bd.notSynchronized
  have M : ZM p c b_r_child s args m "TreeShellModel" D y := ⟨hx, hb, fun w h => hts0 w (List.mem_cons_of_mem _ h), hown, hK⟩
  have hS : va_S (fun x => B ≤ x) s.heap s.heap [] := va_S.rf
  have hE := lg_entry_eq m ([.ref (ad (10, 0)), .int (zI v1), .long v2] : List Value) 5
  rw [← hargs] at hE
  rw [hE]
  have hl := lv_entry ([.ref (ad (10, 0)), .int (zI v1), .long v2] : List Value) (n := 5) (Nat.le_of_ble_eq_true rfl)
  generalize (lg_sl ([.ref (ad (10, 0)), .int (zI v1), .long v2] : List Value) ++ List.replicate (5 - (lg_sl ([.ref (ad (10, 0)), .int (zI v1), .long v2] : List Value)).length) Slot.unset).toArray = ls at hl ⊢
  have hl : lv_has ls 5 [(0, .ref (ad (10, 0))), (1, .int (zI v1)), (2, .long v2)] := hl
  refine z_start (fun Q R hQ hR => ?_)
  generalize hH : s.heap = H at hW
  have hS : va_S (fun x => B ≤ x) s.heap H [] := by rw [← hH]; exact hS
  have C_3 : ∀ (n : Nat), ∀ (v1 : Int) (v2 : Int64) (v4 : Int) (H : Heap) (locs : List Loc) (ls : Array Slot), r_child_3 F n u v1 v2 v4 = some res → lv_has ls 5 [(0, .ref (ad (10, 0))), (1, .int (zI v1)), (2, .long v2), (4, .int (zI v4))] → ZW D B y ad true cu u H → va_S (fun x => B ≤ x) s.heap H locs → W p l e R s m args below meth c H locs 0 0 Q (F0 m 3 ls []) := by
    intro n
    induction n with
    | zero => intro v1 v2 v4 H locs ls hf; cases (show (none : Option (Int)) = some res from hf)
    | succ n ih =>
      intro v1 v2 v4 H locs ls hf hl hW hS
      rw [r_child_3] at hf
      refine lv_iload hx hb d_r_child_3 (lv_at hl 3 rfl) ?_
      refine z_bipush hx hb d_r_child_5 rfl ?_
      refine z_icmp_ge hx hb d_r_child_7 rfl hf (fun hf => ?_) (fun hf => ?_)
      · refine z_iconst hx hb d_r_child_52 ?_
        cases hf
        subst hQ
        exact z_reti hx hb hr hlocks hB hK hW hS d_r_child_53
      · refine lv_aload_n hx hb d_r_child_10 rfl (lv_at hl 0 rfl) ?_
        refine zg_Mo_used M hW (M.2.2.1 _ w_735) d_r_child_11 ?_
        refine lv_iload hx hb d_r_child_14 (lv_at hl 3 rfl) ?_
        obtain ⟨g1, hf⟩ := zg hf
        refine zr_3 M hW g1 d_r_child_16 ?_
        obtain ⟨b1, g2, hf⟩ := ze1 hf
        have JT2 : b1 = true → ∀ (H : Heap) (locs : List Loc), ZW D B y ad true cu u H → va_S (fun x => B ≤ x) s.heap H locs → W p l e R s m args below meth c H locs 0 0 Q (F0 m 46 ls []) := by
          intro hv H locs hW hS
          have hf := zp (hv) hf
          refine lv_iinc (k := 3) (v := zI (v4 + 1)) (lv' := [(4, .int (zI (v4 + 1))), (0, .ref (ad (10, 0))), (1, .int (zI v1)), (2, .long v2)]) hx hb d_r_child_46 hl rfl (zI_add _ _) (by decide) rfl (fun ls hl => ?_)
          refine lv_goto hx hb d_r_child_49 rfl ?_
          exact ih _ _ _ _ _ _ hf (lv_sub hl [1, 2, 3, 0] rfl) hW hS
        have JF2 : b1 = false → ∀ (H : Heap) (locs : List Loc), ZW D B y ad true cu u H → va_S (fun x => B ≤ x) s.heap H locs → W p l e R s m args below meth c H locs 0 0 Q (F0 m 43 ls []) := by
          intro hv H locs hW hS
          have hf := zn (by rw [hv]; decide) hf
          refine lv_iload hx hb d_r_child_43 (lv_at hl 3 rfl) ?_
          cases hf
          subst hQ
          exact z_reti hx hb hr hlocks hB hK hW hS d_r_child_45
        refine z_if_eq hx hb d_r_child_17 rfl g2 (fun g2 => ?_) (fun g2 => ?_)
        · exact JT2 (Option.some.inj g2).symm _ _ hW hS
        · refine lv_aload_n hx hb d_r_child_20 rfl (lv_at hl 0 rfl) ?_
          refine zg_Mo_parent M hW (M.2.2.1 _ w_737) d_r_child_21 ?_
          refine lv_iload hx hb d_r_child_24 (lv_at hl 3 rfl) ?_
          refine zr_5 M hW g1 d_r_child_26 ?_
          refine lv_iload_n hx hb d_r_child_27 rfl (lv_at hl 1 rfl) ?_
          refine z_icmp_ne hx hb d_r_child_28 rfl g2 (fun g2 => ?_) (fun g2 => ?_)
          · exact JT2 (Option.some.inj g2).symm _ _ hW hS
          · refine lv_aload_n hx hb d_r_child_31 rfl (lv_at hl 0 rfl) ?_
            refine zg_Mo_name M hW (M.2.2.1 _ w_738) d_r_child_32 ?_
            refine lv_iload hx hb d_r_child_35 (lv_at hl 3 rfl) ?_
            refine zr_6 M hW g1 d_r_child_37 ?_
            refine lv_lload_n hx hb d_r_child_38 rfl (lv_at hl 2 rfl) ?_
            refine W.lcmp hx hb d_r_child_39 ?_
            refine z_lif_ne hx hb d_r_child_40 rfl g2 (fun g2 => ?_) (fun g2 => ?_)
            · exact JT2 (Option.some.inj g2).symm _ _ hW hS
            · exact JF2 (Option.some.inj g2).symm _ _ hW hS
  rw [r_child] at hf
  refine z_iconst hx hb d_r_child_0 ?_
  refine lv_istore (lv' := [(4, .int (zI 1)), (0, .ref (ad (10, 0))), (1, .int (zI v1)), (2, .long v2)]) hx hb d_r_child_1 hl (by decide) rfl (fun ls hl => ?_)
  exact C_3 F _ _ _ _ _ _ hf (lv_sub hl [1, 2, 3, 0] rfl) hW hS
set_option maxRecDepth 100000 in
set_option maxHeartbeats 4000000 in
theorem k_r_isName {l : Launch} {D : va_G} {B : Nat} {y : Nat → ClassId} {ad : Nat × Nat → Nat} {cu : ZC} (F : Nat) (u : ZR) (v1 : Int) (v2 : Int) {res : Int} (hf : r_isName F u v1 v2 = some res) : Met l y_r_isName (.code y_r_isName b_r_isName 5 (some .boolean) :: zt) { frames := 1, cells := 0, slots := 0, locals := 22 } (va_Pc [.ref (ad (10, 0)), .int (zI v1), .int (zI v2)] (fun U => ZP D B y ad true cu u U)) (va_Qi (fun v (_ : Unit) => v = zI res) (fun _ t => ZP D B y ad true cu u t) (fun x => B ≤ x)) 0 0 (fun x => B ≤ x) := by
  refine Met.ofW (cc := b_r_isName) (maxL := 5) (ret := (some .boolean)) (by decide) rfl ?_
  intro p e s m args below meth c s₁ Bd hml hv
  obtain ⟨hargs, hB, hW, hK⟩ := hv
  have hx := Bd.exec
  have hb := Bd.bytes
  have hr := Bd.returns
  have hts0 := atoms_spec (ws := .code y_r_isName b_r_isName 5 (some .boolean) :: zt) Bd.pre
  have hown : s.vm.findClass "TreeShellModel" = some m.cls := findClass_of_methodNamed Bd.named
  have hlocks := Bd.notSynchronized
  have M : ZM p c b_r_isName s args m "TreeShellModel" D y := ⟨hx, hb, fun w h => hts0 w (List.mem_cons_of_mem _ h), hown, hK⟩
  have hS : va_S (fun x => B ≤ x) s.heap s.heap [] := va_S.rf
  have hE := lg_entry_eq m ([.ref (ad (10, 0)), .int (zI v1), .int (zI v2)] : List Value) 5
  rw [← hargs] at hE
  rw [hE]
  have hl := lv_entry ([.ref (ad (10, 0)), .int (zI v1), .int (zI v2)] : List Value) (n := 5) (Nat.le_of_ble_eq_true rfl)
  generalize (lg_sl ([.ref (ad (10, 0)), .int (zI v1), .int (zI v2)] : List Value) ++ List.replicate (5 - (lg_sl ([.ref (ad (10, 0)), .int (zI v1), .int (zI v2)] : List Value)).length) Slot.unset).toArray = ls at hl ⊢
  have hl : lv_has ls 5 [(0, .ref (ad (10, 0))), (1, .int (zI v1)), (2, .int (zI v2))] := hl
  refine z_start (fun Q R hQ hR => ?_)
  generalize hH : s.heap = H at hW
  have hS : va_S (fun x => B ≤ x) s.heap H [] := by rw [← hH]; exact hS
  have C_28 : ∀ (n : Nat), ∀ (v2 : Int) (v3 : Int) (H : Heap) (locs : List Loc) (ls : Array Slot), r_isName_28 F n u v2 v3 = some res → lv_has ls 5 [(0, .ref (ad (10, 0))), (2, .int (zI v2)), (3, .int (zI v3))] → ZW D B y ad true cu u H → va_S (fun x => B ≤ x) s.heap H locs → W p l e R s m args below meth c H locs 0 0 Q (F0 m 28 ls []) := by
    intro n
    induction n with
    | zero => intro v2 v3 H locs ls hf; cases (show (none : Option (Int)) = some res from hf)
    | succ n ih =>
      intro v2 v3 H locs ls hf hl hW hS
      rw [r_isName_28] at hf
      refine lv_iload_n hx hb d_r_isName_28 rfl (lv_at hl 2 rfl) ?_
      refine lv_iload_n hx hb d_r_isName_29 rfl (lv_at hl 1 rfl) ?_
      refine z_icmp_ge hx hb d_r_isName_30 rfl hf (fun hf => ?_) (fun hf => ?_)
      · refine z_iconst hx hb d_r_isName_91 ?_
        cases hf
        subst hQ
        exact z_retz hx hb (Or.inr rfl) hr hlocks hB hK hW hS d_r_isName_92
      · refine lv_aload_n hx hb d_r_isName_33 rfl (lv_at hl 0 rfl) ?_
        refine zg_Mo_wordChar M hW (M.2.2.1 _ w_752) d_r_isName_34 ?_
        refine lv_iload_n hx hb d_r_isName_37 rfl (lv_at hl 2 rfl) ?_
        obtain ⟨g1, hf⟩ := zg hf
        refine zr_20 M hW g1 d_r_isName_38 ?_
        refine lv_istore (lv' := [(4, .int (zI (rA u 20 v3.toNat))), (0, .ref (ad (10, 0))), (2, .int (zI v2)), (3, .int (zI v3))]) hx hb d_r_isName_39 hl (by decide) rfl (fun ls hl => ?_)
        refine lv_iload hx hb d_r_isName_41 (lv_at hl 0 rfl) ?_
        refine z_bipush hx hb d_r_isName_43 rfl ?_
        obtain ⟨b3, g2, hf⟩ := ze1 hf
        have JT2 : b3 = true → ∀ (H : Heap) (locs : List Loc), ZW D B y ad true cu u H → va_S (fun x => B ≤ x) s.heap H locs → W p l e R s m args below meth c H locs 0 0 Q (F0 m 85 ls []) := by
          intro hv H locs hW hS
          have hf := zp (hv) hf
          refine lv_iinc (k := 3) (v := zI (v3 + 1)) (lv' := [(3, .int (zI (v3 + 1))), (4, .int (zI (rA u 20 v3.toNat))), (0, .ref (ad (10, 0))), (2, .int (zI v2))]) hx hb d_r_isName_85 hl rfl (zI_add _ _) (by decide) rfl (fun ls hl => ?_)
          refine lv_goto hx hb d_r_isName_88 rfl ?_
          exact ih _ _ _ _ _ hf (lv_sub hl [2, 3, 0] rfl) hW hS
        have JF2 : b3 = false → ∀ (H : Heap) (locs : List Loc), ZW D B y ad true cu u H → va_S (fun x => B ≤ x) s.heap H locs → W p l e R s m args below meth c H locs 0 0 Q (F0 m 83 ls []) := by
          intro hv H locs hW hS
          have hf := zn (by rw [hv]; decide) hf
          refine z_iconst hx hb d_r_isName_83 ?_
          cases hf
          subst hQ
          exact z_retz hx hb (Or.inl rfl) hr hlocks hB hK hW hS d_r_isName_84
        refine z_icmp_lt hx hb d_r_isName_45 rfl g2 (fun g2 => ?_) (fun g2 => ?_)
        · refine lv_iload hx hb d_r_isName_55 (lv_at hl 0 rfl) ?_
          refine z_bipush hx hb d_r_isName_57 rfl ?_
          refine z_icmp_lt hx hb d_r_isName_59 rfl g2 (fun g2 => ?_) (fun g2 => ?_)
          · refine lv_iload hx hb d_r_isName_69 (lv_at hl 0 rfl) ?_
            refine z_bipush hx hb d_r_isName_71 rfl ?_
            refine z_icmp_eq hx hb d_r_isName_73 rfl g2 (fun g2 => ?_) (fun g2 => ?_)
            · exact JT2 (Option.some.inj g2).symm _ _ hW hS
            · refine lv_iload hx hb d_r_isName_76 (lv_at hl 0 rfl) ?_
              refine z_bipush hx hb d_r_isName_78 rfl ?_
              refine z_icmp_eq hx hb d_r_isName_80 rfl g2 (fun g2 => ?_) (fun g2 => ?_)
              · exact JT2 (Option.some.inj g2).symm _ _ hW hS
              · exact JF2 (Option.some.inj g2).symm _ _ hW hS
          · refine lv_iload hx hb d_r_isName_62 (lv_at hl 0 rfl) ?_
            refine z_bipush hx hb d_r_isName_64 rfl ?_
            refine z_icmp_le hx hb d_r_isName_66 rfl g2 (fun g2 => ?_) (fun g2 => ?_)
            · exact JT2 (Option.some.inj g2).symm _ _ hW hS
            · refine lv_iload hx hb d_r_isName_69 (lv_at hl 0 rfl) ?_
              refine z_bipush hx hb d_r_isName_71 rfl ?_
              refine z_icmp_eq hx hb d_r_isName_73 rfl g2 (fun g2 => ?_) (fun g2 => ?_)
              · exact JT2 (Option.some.inj g2).symm _ _ hW hS
              · refine lv_iload hx hb d_r_isName_76 (lv_at hl 0 rfl) ?_
                refine z_bipush hx hb d_r_isName_78 rfl ?_
                refine z_icmp_eq hx hb d_r_isName_80 rfl g2 (fun g2 => ?_) (fun g2 => ?_)
                · exact JT2 (Option.some.inj g2).symm _ _ hW hS
                · exact JF2 (Option.some.inj g2).symm _ _ hW hS
        · refine lv_iload hx hb d_r_isName_48 (lv_at hl 0 rfl) ?_
          refine z_bipush hx hb d_r_isName_50 rfl ?_
          refine z_icmp_le hx hb d_r_isName_52 rfl g2 (fun g2 => ?_) (fun g2 => ?_)
          · exact JT2 (Option.some.inj g2).symm _ _ hW hS
          · refine lv_iload hx hb d_r_isName_55 (lv_at hl 0 rfl) ?_
            refine z_bipush hx hb d_r_isName_57 rfl ?_
            refine z_icmp_lt hx hb d_r_isName_59 rfl g2 (fun g2 => ?_) (fun g2 => ?_)
            · refine lv_iload hx hb d_r_isName_69 (lv_at hl 0 rfl) ?_
              refine z_bipush hx hb d_r_isName_71 rfl ?_
              refine z_icmp_eq hx hb d_r_isName_73 rfl g2 (fun g2 => ?_) (fun g2 => ?_)
              · exact JT2 (Option.some.inj g2).symm _ _ hW hS
              · refine lv_iload hx hb d_r_isName_76 (lv_at hl 0 rfl) ?_
                refine z_bipush hx hb d_r_isName_78 rfl ?_
                refine z_icmp_eq hx hb d_r_isName_80 rfl g2 (fun g2 => ?_) (fun g2 => ?_)
                · exact JT2 (Option.some.inj g2).symm _ _ hW hS
                · exact JF2 (Option.some.inj g2).symm _ _ hW hS
            · refine lv_iload hx hb d_r_isName_62 (lv_at hl 0 rfl) ?_
              refine z_bipush hx hb d_r_isName_64 rfl ?_
              refine z_icmp_le hx hb d_r_isName_66 rfl g2 (fun g2 => ?_) (fun g2 => ?_)
              · exact JT2 (Option.some.inj g2).symm _ _ hW hS
              · refine lv_iload hx hb d_r_isName_69 (lv_at hl 0 rfl) ?_
                refine z_bipush hx hb d_r_isName_71 rfl ?_
                refine z_icmp_eq hx hb d_r_isName_73 rfl g2 (fun g2 => ?_) (fun g2 => ?_)
                · exact JT2 (Option.some.inj g2).symm _ _ hW hS
                · refine lv_iload hx hb d_r_isName_76 (lv_at hl 0 rfl) ?_
                  refine z_bipush hx hb d_r_isName_78 rfl ?_
                  refine z_icmp_eq hx hb d_r_isName_80 rfl g2 (fun g2 => ?_) (fun g2 => ?_)
                  · exact JT2 (Option.some.inj g2).symm _ _ hW hS
                  · exact JF2 (Option.some.inj g2).symm _ _ hW hS
  rw [r_isName] at hf
  refine lv_iload_n hx hb d_r_isName_0 rfl (lv_at hl 2 rfl) ?_
  refine lv_iload_n hx hb d_r_isName_1 rfl (lv_at hl 1 rfl) ?_
  refine z_isub hx hb d_r_isName_2 ?_
  refine z_iconst hx hb d_r_isName_3 ?_
  obtain ⟨b2, g3, hf⟩ := ze1 hf
  have JT3 : b2 = true → ∀ (H : Heap) (locs : List Loc), ZW D B y ad true cu u H → va_S (fun x => B ≤ x) s.heap H locs → W p l e R s m args below meth c H locs 0 0 Q (F0 m 24 ls []) := by
    intro hv H locs hW hS
    have hf := zp (hv) hf
    refine z_iconst hx hb d_r_isName_24 ?_
    cases hf
    subst hQ
    exact z_retz hx hb (Or.inl rfl) hr hlocks hB hK hW hS d_r_isName_25
  have JF3 : b2 = false → ∀ (H : Heap) (locs : List Loc), ZW D B y ad true cu u H → va_S (fun x => B ≤ x) s.heap H locs → W p l e R s m args below meth c H locs 0 0 Q (F0 m 26 ls []) := by
    intro hv H locs hW hS
    have hf := zn (by rw [hv]; decide) hf
    refine lv_iload_n hx hb d_r_isName_26 rfl (lv_at hl 1 rfl) ?_
    refine lv_istore_n (lv' := [(3, .int (zI v1)), (0, .ref (ad (10, 0))), (1, .int (zI v1)), (2, .int (zI v2))]) hx hb d_r_isName_27 rfl hl (by decide) rfl (fun ls hl => ?_)
    exact C_28 F _ _ _ _ _ hf (lv_sub hl [1, 3, 0] rfl) hW hS
  refine z_icmp_lt hx hb d_r_isName_4 rfl g3 (fun g3 => ?_) (fun g3 => ?_)
  · exact JT3 (Option.some.inj g3).symm _ _ hW hS
  · refine lv_iload_n hx hb d_r_isName_7 rfl (lv_at hl 2 rfl) ?_
    refine lv_iload_n hx hb d_r_isName_8 rfl (lv_at hl 1 rfl) ?_
    refine z_isub hx hb d_r_isName_9 ?_
    refine z_bipush hx hb d_r_isName_10 rfl ?_
    refine z_icmp_gt hx hb d_r_isName_12 rfl g3 (fun g3 => ?_) (fun g3 => ?_)
    · exact JT3 (Option.some.inj g3).symm _ _ hW hS
    · refine lv_aload_n hx hb d_r_isName_15 rfl (lv_at hl 0 rfl) ?_
      refine lv_iload_n hx hb d_r_isName_16 rfl (lv_at hl 1 rfl) ?_
      refine lv_iload_n hx hb d_r_isName_17 rfl (lv_at hl 2 rfl) ?_
      obtain ⟨p1, g4, g3⟩ := ze1 g3
      refine z_callVi (As := [.int (zI v1), .int (zI v2)]) (rest := []) (k_r_isDots F _ _ _ g4) M hml (cw_r_isDots M.2.2.1 (M.2.2.1 _ w_972) (by rw [hR]; exact Nat.le_of_ble_eq_true rfl) (by rw [hR]; exact Nat.le_of_ble_eq_true rfl)) (zv_Mo hK hW) hB hW hS rfl hl.1 rfl (Nat.le_of_ble_eq_true rfl) d_r_isName_18 (by rw [hR]; exact ⟨Nat.zero_le _, Nat.zero_le _⟩) (fun H locs hW hS => ?_)
      refine z_if_eq hx hb d_r_isName_21 rfl g3 (fun g3 => ?_) (fun g3 => ?_)
      · exact JF3 (Option.some.inj g3).symm _ _ hW hS
      · exact JT3 (Option.some.inj g3).symm _ _ hW hS
set_option maxRecDepth 100000 in
set_option maxHeartbeats 4000000 in
theorem k_r_follow {l : Launch} {D : va_G} {B : Nat} {y : Nat → ClassId} {ad : Nat × Nat → Nat} {cu : ZC} (F : Nat) (u : ZR) (v1 : Int) {uo : ZR} (hf : r_follow F u v1 = some uo) : Met l y_r_follow (.code y_r_follow b_r_follow 8 none :: zt) { frames := 2, cells := 0, slots := 0, locals := 46 } (va_Pc [.ref (ad (10, 0)), .int (zI v1)] (fun U => ZP D B y ad true cu u U)) (va_Qv (fun (_ : Unit) => True) (fun _ t => ZP D B y ad true cu uo t) (fun x => B ≤ x)) 0 0 (fun x => B ≤ x) := by
  refine Met.ofW (cc := b_r_follow) (maxL := 8) (ret := none) (by decide) rfl ?_
  intro p e s m args below meth c s₁ Bd hml hv
  obtain ⟨hargs, hB, hW, hK⟩ := hv
  have hx := Bd.exec
  have hb := Bd.bytes
  have hr := Bd.returns
  have hts0 := atoms_spec (ws := .code y_r_follow b_r_follow 8 none :: zt) Bd.pre
  have hown : s.vm.findClass "TreeShellModel" = some m.cls := findClass_of_methodNamed Bd.named
  have hlocks := Bd.notSynchronized
  have M : ZM p c b_r_follow s args m "TreeShellModel" D y := ⟨hx, hb, fun w h => hts0 w (List.mem_cons_of_mem _ h), hown, hK⟩
  have hS : va_S (fun x => B ≤ x) s.heap s.heap [] := va_S.rf
  have hE := lg_entry_eq m ([.ref (ad (10, 0)), .int (zI v1)] : List Value) 8
  rw [← hargs] at hE
  rw [hE]
  have hl := lv_entry ([.ref (ad (10, 0)), .int (zI v1)] : List Value) (n := 8) (Nat.le_of_ble_eq_true rfl)
  generalize (lg_sl ([.ref (ad (10, 0)), .int (zI v1)] : List Value) ++ List.replicate (8 - (lg_sl ([.ref (ad (10, 0)), .int (zI v1)] : List Value)).length) Slot.unset).toArray = ls at hl ⊢
  have hl : lv_has ls 8 [(0, .ref (ad (10, 0))), (1, .int (zI v1))] := hl
  refine z_start (fun Q R hQ hR => ?_)
  generalize hH : s.heap = H at hW
  have hS : va_S (fun x => B ≤ x) s.heap H [] := by rw [← hH]; exact hS
  have C_55 : ∀ (k47 : ZR → Int → Int → Option (ZR)) (hk47 : ∀ (u : ZR) (v2 : Int) (v3 : Int) (H : Heap) (locs : List Loc) (ls : Array Slot), k47 u v2 v3 = some uo → lv_has ls 8 [(0, .ref (ad (10, 0))), (2, .int (zI v2)), (3, .int (zI v3))] → ZW D B y ad true cu u H → va_S (fun x => B ≤ x) s.heap H locs → W p l e R s m args below meth c H locs 0 0 Q (F0 m 47 ls [])) , ∀ (n : Nat), ∀ (u : ZR) (v2 : Int) (v3 : Int) (v4 : Int) (H : Heap) (locs : List Loc) (ls : Array Slot), r_follow_55 F k47 n u v2 v3 v4 = some uo → lv_has ls 8 [(0, .ref (ad (10, 0))), (2, .int (zI v2)), (3, .int (zI v3)), (4, .int (zI v4))] → ZW D B y ad true cu u H → va_S (fun x => B ≤ x) s.heap H locs → W p l e R s m args below meth c H locs 0 0 Q (F0 m 55 ls []) := by
    intro k47 hk47 n
    induction n with
    | zero => intro u v2 v3 v4 H locs ls hf; cases (show (none : Option (ZR)) = some uo from hf)
    | succ n ih =>
      intro u v2 v3 v4 H locs ls hf hl hW hS
      rw [r_follow_55] at hf
      refine lv_iload hx hb d_r_follow_55 (lv_at hl 3 rfl) ?_
      refine lv_iload_n hx hb d_r_follow_57 rfl (lv_at hl 1 rfl) ?_
      obtain ⟨b3, g1, hf⟩ := ze1 hf
      have JT1 : b3 = true → ∀ (H : Heap) (locs : List Loc), ZW D B y ad true cu u H → va_S (fun x => B ≤ x) s.heap H locs → W p l e R s m args below meth c H locs 0 0 Q (F0 m 79 ls []) := by
        intro hv H locs hW hS
        have hf := zp (hv) hf
        refine lv_iload hx hb d_r_follow_79 (lv_at hl 3 rfl) ?_
        refine lv_iload_n hx hb d_r_follow_81 rfl (lv_at hl 2 rfl) ?_
        obtain ⟨x5, g2, hf⟩ := ze1 hf
        have J2 : ∀ (H : Heap) (locs : List Loc) (ls : Array Slot), lv_has ls 8 [(0, .ref (ad (10, 0))), (2, .int (zI v2)), (3, .int (zI v3)), (4, .int (zI v4))] → ZW D B y ad true cu u H → va_S (fun x => B ≤ x) s.heap H locs → W p l e R s m args below meth c H locs 0 0 Q (F0 m 109 ls [.int (zI x5)]) := by
          intro H locs ls hl hW hS
          refine lv_istore (lv' := [(5, .int (zI x5)), (0, .ref (ad (10, 0))), (2, .int (zI v2)), (3, .int (zI v3)), (4, .int (zI v4))]) hx hb d_r_follow_109 hl (by decide) rfl (fun ls hl => ?_)
          refine lv_iload hx hb d_r_follow_111 (lv_at hl 0 rfl) ?_
          obtain ⟨u15, g3, hf⟩ := ze1 hf
          have J3 : ∀ (H : Heap) (locs : List Loc) (ls : Array Slot), lv_has ls 8 [(0, .ref (ad (10, 0))), (2, .int (zI v2)), (4, .int (zI v4))] → ZW D B y ad true cu u15 H → va_S (fun x => B ≤ x) s.heap H locs → W p l e R s m args below meth c H locs 0 0 Q (F0 m 230 ls []) := by
            intro H locs ls hl hW hS
            refine lv_iload hx hb d_r_follow_230 (lv_at hl 2 rfl) ?_
            refine z_iconst hx hb d_r_follow_232 ?_
            refine z_iadd hx hb d_r_follow_233 ?_
            refine lv_istore_n (lv' := [(3, .int (zI (v4 + 1))), (0, .ref (ad (10, 0))), (2, .int (zI v2)), (4, .int (zI v4))]) hx hb d_r_follow_234 rfl hl (by decide) rfl (fun ls hl => ?_)
            refine lv_goto hx hb d_r_follow_235 rfl ?_
            exact hk47 _ _ _ _ _ _ hf (lv_sub hl [1, 2, 0] rfl) hW hS
          refine z_if_ne hx hb d_r_follow_113 rfl g3 (fun g3 => ?_) (fun g3 => ?_)
          · cases g3
            exact J3 _ _ _ (lv_sub hl [1, 2, 4] rfl) hW hS
          · refine lv_aload_n hx hb d_r_follow_116 rfl (lv_at hl 1 rfl) ?_
            refine zg_Mo_pathNode M hW (M.2.2.1 _ w_774) d_r_follow_117 ?_
            refine lv_istore (lv' := [(6, .int (zI (rI u 42))), (5, .int (zI x5)), (0, .ref (ad (10, 0))), (2, .int (zI v2)), (3, .int (zI v3)), (4, .int (zI v4))]) hx hb d_r_follow_120 hl (by decide) rfl (fun ls hl => ?_)
            refine lv_iload hx hb d_r_follow_122 (lv_at hl 0 rfl) ?_
            obtain ⟨x7, g4, g3⟩ := ze1 g3
            have J4 : ∀ (H : Heap) (locs : List Loc) (ls : Array Slot), lv_has ls 8 [(0, .ref (ad (10, 0))), (2, .int (zI v2)), (3, .int (zI v3)), (4, .int (zI v4)), (6, .int (zI (rI u 42)))] → ZW D B y ad true cu u H → va_S (fun x => B ≤ x) s.heap H locs → W p l e R s m args below meth c H locs 0 0 Q (F0 m 142 ls [.int (zI x7)]) := by
              intro H locs ls hl hW hS
              refine lv_istore (lv' := [(7, .int (zI x7)), (0, .ref (ad (10, 0))), (2, .int (zI v2)), (3, .int (zI v3)), (4, .int (zI v4)), (6, .int (zI (rI u 42)))]) hx hb d_r_follow_142 hl (by decide) rfl (fun ls hl => ?_)
              refine lv_aload_n hx hb d_r_follow_144 rfl (lv_at hl 1 rfl) ?_
              refine lv_aload_n hx hb d_r_follow_145 rfl (lv_at hl 1 rfl) ?_
              refine lv_iload_n hx hb d_r_follow_146 rfl (lv_at hl 3 rfl) ?_
              refine lv_iload hx hb d_r_follow_147 (lv_at hl 4 rfl) ?_
              obtain ⟨p8, g5, g3⟩ := ze1 g3
              refine z_callVl (As := [.int (zI v3), .int (zI v4)]) (rest := [.ref (ad (10, 0))]) (k_r_packed F _ _ _ g5) M hml (cw_r_packed M.2.2.1 (M.2.2.1 _ w_967) (by rw [hR]; exact Nat.le_of_ble_eq_true rfl) (by rw [hR]; exact Nat.le_of_ble_eq_true rfl)) (zv_Mo hK hW) hB hW hS rfl hl.1 rfl (Nat.le_of_ble_eq_true rfl) d_r_follow_149 (by rw [hR]; exact ⟨Nat.zero_le _, Nat.zero_le _⟩) (fun H locs hW hS => ?_)
              refine zp_Mo_pathName M hW hS (M.2.2.1 _ w_776) d_r_follow_152 (fun H locs hW hS => ?_)
              refine lv_aload_n hx hb d_r_follow_155 rfl (lv_at hl 1 rfl) ?_
              refine lv_iload hx hb d_r_follow_156 (lv_at hl 0 rfl) ?_
              obtain ⟨x11, g6, g3⟩ := ze1 g3
              have J6 : ∀ (H : Heap) (locs : List Loc) (ls : Array Slot), lv_has ls 8 [(0, .ref (ad (10, 0))), (2, .int (zI v2)), (3, .int (zI v3)), (4, .int (zI v4)), (6, .int (zI (rI u 42))), (7, .int (zI x7))] → ZW D B y ad true cu (tJ u 44 p8) H → va_S (fun x => B ≤ x) s.heap H locs → W p l e R s m args below meth c H locs 0 0 Q (F0 m 195 ls [.int (zI x11), .ref (ad (10, 0))]) := by
                intro H locs ls hl hW hS
                refine zp_Mo_pathNode M hW hS (M.2.2.1 _ w_774) d_r_follow_195 (fun H locs hW hS => ?_)
                refine lv_aload_n hx hb d_r_follow_198 rfl (lv_at hl 0 rfl) ?_
                refine lv_iload hx hb d_r_follow_199 (lv_at hl 5 rfl) ?_
                obtain ⟨x14, g7, g3⟩ := ze1 g3
                have J7 : ∀ (H : Heap) (locs : List Loc) (ls : Array Slot), lv_has ls 8 [(0, .ref (ad (10, 0))), (2, .int (zI v2)), (4, .int (zI v4))] → ZW D B y ad true cu (tI (tJ u 44 p8) 42 x11) H → va_S (fun x => B ≤ x) s.heap H locs → W p l e R s m args below meth c H locs 0 0 Q (F0 m 227 ls [.int (zI x14), .ref (ad (10, 0))]) := by
                  intro H locs ls hl hW hS
                  refine zp_Mo_pathDir M hW hS (M.2.2.1 _ w_775) d_r_follow_227 (fun H locs hW hS => ?_)
                  cases g3
                  exact J3 _ _ _ (lv_sub hl [0, 1, 2] rfl) hW hS
                obtain ⟨b13, g8, g7⟩ := ze1 g7
                have JT8 : b13 = true → ∀ (H : Heap) (locs : List Loc), ZW D B y ad true cu (tI (tJ u 44 p8) 42 x11) H → va_S (fun x => B ≤ x) s.heap H locs → W p l e R s m args below meth c H locs 0 0 Q (F0 m 226 ls [.ref (ad (10, 0))]) := by
                  intro hv H locs hW hS
                  have g7 := zp (hv) g7
                  refine z_iconst hx hb d_r_follow_226 ?_
                  cases g7
                  exact J7 _ _ _ (lv_sub hl [0, 1, 3] rfl) hW hS
                have JF8 : b13 = false → ∀ (H : Heap) (locs : List Loc), ZW D B y ad true cu (tI (tJ u 44 p8) 42 x11) H → va_S (fun x => B ≤ x) s.heap H locs → W p l e R s m args below meth c H locs 0 0 Q (F0 m 221 ls [.ref (ad (10, 0))]) := by
                  intro hv H locs hW hS
                  have g7 := zn (by rw [hv]; decide) g7
                  refine lv_iload hx hb d_r_follow_221 (lv_at hl 4 rfl) ?_
                  refine lv_goto hx hb d_r_follow_223 rfl ?_
                  cases g7
                  exact J7 _ _ _ (lv_sub hl [0, 1, 3] rfl) hW hS
                refine z_if_eq hx hb d_r_follow_201 rfl g8 (fun g8 => ?_) (fun g8 => ?_)
                · exact JT8 (Option.some.inj g8).symm _ _ hW hS
                · refine lv_aload_n hx hb d_r_follow_204 rfl (lv_at hl 0 rfl) ?_
                  refine zg_Mo_pathNode M hW (M.2.2.1 _ w_774) d_r_follow_205 ?_
                  refine z_if_ge hx hb d_r_follow_208 rfl g8 (fun g8 => ?_) (fun g8 => ?_)
                  · exact JT8 (Option.some.inj g8).symm _ _ hW hS
                  · refine lv_aload_n hx hb d_r_follow_211 rfl (lv_at hl 0 rfl) ?_
                    refine lv_iload_n hx hb d_r_follow_212 rfl (lv_at hl 2 rfl) ?_
                    refine lv_iload hx hb d_r_follow_213 (lv_at hl 3 rfl) ?_
                    obtain ⟨p12, g9, g8⟩ := ze1 g8
                    refine z_callVi (As := [.int (zI v3), .int (zI v4)]) (rest := [.ref (ad (10, 0))]) (k_r_isName F _ _ _ g9) M hml (cw_r_isName M.2.2.1 (M.2.2.1 _ w_980) (by rw [hR]; exact Nat.le_of_ble_eq_true rfl) (by rw [hR]; exact Nat.le_of_ble_eq_true rfl)) (zv_Mo hK hW) hB hW hS rfl hl.1 rfl (Nat.le_of_ble_eq_true rfl) d_r_follow_215 (by rw [hR]; exact ⟨Nat.zero_le _, Nat.zero_le _⟩) (fun H locs hW hS => ?_)
                    refine z_if_eq hx hb d_r_follow_218 rfl g8 (fun g8 => ?_) (fun g8 => ?_)
                    · exact JT8 (Option.some.inj g8).symm _ _ hW hS
                    · exact JF8 (Option.some.inj g8).symm _ _ hW hS
              refine z_if_ne hx hb d_r_follow_158 rfl g6 (fun g6 => ?_) (fun g6 => ?_)
              · refine lv_aload_n hx hb d_r_follow_165 rfl (lv_at hl 1 rfl) ?_
                refine lv_iload_n hx hb d_r_follow_166 rfl (lv_at hl 3 rfl) ?_
                refine lv_iload hx hb d_r_follow_167 (lv_at hl 4 rfl) ?_
                obtain ⟨p9, g10, g6⟩ := ze1 g6
                refine z_callVi (As := [.int (zI v3), .int (zI v4)]) (rest := [.ref (ad (10, 0))]) (k_r_isDots F _ _ _ g10) M hml (cw_r_isDots M.2.2.1 (M.2.2.1 _ w_972) (by rw [hR]; exact Nat.le_of_ble_eq_true rfl) (by rw [hR]; exact Nat.le_of_ble_eq_true rfl)) (zv_Mo hK hW) hB hW hS rfl hl.1 rfl (Nat.le_of_ble_eq_true rfl) d_r_follow_169 (by rw [hR]; exact ⟨Nat.zero_le _, Nat.zero_le _⟩) (fun H locs hW hS => ?_)
                refine z_if_eq hx hb d_r_follow_172 rfl g6 (fun g6 => ?_) (fun g6 => ?_)
                · refine lv_aload_n hx hb d_r_follow_185 rfl (lv_at hl 1 rfl) ?_
                  refine lv_iload hx hb d_r_follow_186 (lv_at hl 5 rfl) ?_
                  refine lv_aload_n hx hb d_r_follow_188 rfl (lv_at hl 1 rfl) ?_
                  refine zg_Mo_pathName M hW (M.2.2.1 _ w_776) d_r_follow_189 ?_
                  obtain ⟨p10, g11, g6⟩ := ze1 g6
                  refine z_callVi (As := [.int (zI (rI u 42)), .long (rJ (tJ u 44 p8) 44)]) (rest := [.ref (ad (10, 0))]) (k_r_child F _ _ _ g11) M hml (cw_r_child M.2.2.1 (M.2.2.1 _ w_976) (by rw [hR]; exact Nat.le_of_ble_eq_true rfl) (by rw [hR]; exact Nat.le_of_ble_eq_true rfl)) (zv_Mo hK hW) hB hW hS rfl hl.1 rfl (Nat.le_of_ble_eq_true rfl) d_r_follow_192 (by rw [hR]; exact ⟨Nat.zero_le _, Nat.zero_le _⟩) (fun H locs hW hS => ?_)
                  cases g6
                  exact J6 _ _ _ (lv_sub hl [1, 2, 3, 4, 5, 0] rfl) hW hS
                · refine lv_aload_n hx hb d_r_follow_175 rfl (lv_at hl 1 rfl) ?_
                  refine zg_Mo_parent M hW (M.2.2.1 _ w_737) d_r_follow_176 ?_
                  refine lv_iload hx hb d_r_follow_179 (lv_at hl 5 rfl) ?_
                  obtain ⟨g12, g6⟩ := zg g6
                  refine zr_5 M hW g12 d_r_follow_181 ?_
                  refine lv_goto hx hb d_r_follow_182 rfl ?_
                  cases g6
                  exact J6 _ _ _ (lv_sub hl [1, 2, 3, 4, 5, 0] rfl) hW hS
              · refine z_iconst hx hb d_r_follow_161 ?_
                refine lv_goto hx hb d_r_follow_162 rfl ?_
                cases g6
                exact J6 _ _ _ (lv_sub hl [1, 2, 3, 4, 5, 0] rfl) hW hS
            obtain ⟨b6, g13, g4⟩ := ze1 g4
            have JT13 : b6 = true → ∀ (H : Heap) (locs : List Loc), ZW D B y ad true cu u H → va_S (fun x => B ≤ x) s.heap H locs → W p l e R s m args below meth c H locs 0 0 Q (F0 m 141 ls []) := by
              intro hv H locs hW hS
              have g4 := zp (hv) g4
              refine z_iconst hx hb d_r_follow_141 ?_
              cases g4
              exact J4 _ _ _ (lv_sub hl [2, 3, 4, 5, 0] rfl) hW hS
            have JF13 : b6 = false → ∀ (H : Heap) (locs : List Loc), ZW D B y ad true cu u H → va_S (fun x => B ≤ x) s.heap H locs → W p l e R s m args below meth c H locs 0 0 Q (F0 m 137 ls []) := by
              intro hv H locs hW hS
              have g4 := zn (by rw [hv]; decide) g4
              refine z_iconst hx hb d_r_follow_137 ?_
              refine lv_goto hx hb d_r_follow_138 rfl ?_
              cases g4
              exact J4 _ _ _ (lv_sub hl [2, 3, 4, 5, 0] rfl) hW hS
            refine z_if_lt hx hb d_r_follow_124 rfl g13 (fun g13 => ?_) (fun g13 => ?_)
            · exact JT13 (Option.some.inj g13).symm _ _ hW hS
            · refine lv_aload_n hx hb d_r_follow_127 rfl (lv_at hl 2 rfl) ?_
              refine zg_Mo_isDir M hW (M.2.2.1 _ w_736) d_r_follow_128 ?_
              refine lv_iload hx hb d_r_follow_131 (lv_at hl 0 rfl) ?_
              obtain ⟨g14, g13⟩ := zg g13
              refine zr_4 M hW g14 d_r_follow_133 ?_
              refine z_if_eq hx hb d_r_follow_134 rfl g13 (fun g13 => ?_) (fun g13 => ?_)
              · exact JT13 (Option.some.inj g13).symm _ _ hW hS
              · exact JF13 (Option.some.inj g13).symm _ _ hW hS
        obtain ⟨b4, g15, g2⟩ := ze1 g2
        have JT15 : b4 = true → ∀ (H : Heap) (locs : List Loc), ZW D B y ad true cu u H → va_S (fun x => B ≤ x) s.heap H locs → W p l e R s m args below meth c H locs 0 0 Q (F0 m 104 ls []) := by
          intro hv H locs hW hS
          have g2 := zp (hv) g2
          refine z_iconst hx hb d_r_follow_104 ?_
          refine lv_goto hx hb d_r_follow_105 rfl ?_
          cases g2
          exact J2 _ _ _ (lv_sub hl [0, 1, 2, 3] rfl) hW hS
        have JF15 : b4 = false → ∀ (H : Heap) (locs : List Loc), ZW D B y ad true cu u H → va_S (fun x => B ≤ x) s.heap H locs → W p l e R s m args below meth c H locs 0 0 Q (F0 m 108 ls []) := by
          intro hv H locs hW hS
          have g2 := zn (by rw [hv]; decide) g2
          refine z_iconst hx hb d_r_follow_108 ?_
          cases g2
          exact J2 _ _ _ (lv_sub hl [0, 1, 2, 3] rfl) hW hS
        refine z_icmp_eq hx hb d_r_follow_82 rfl g15 (fun g15 => ?_) (fun g15 => ?_)
        · exact JT15 (Option.some.inj g15).symm _ _ hW hS
        · refine lv_iload hx hb d_r_follow_85 (lv_at hl 3 rfl) ?_
          refine lv_iload_n hx hb d_r_follow_87 rfl (lv_at hl 2 rfl) ?_
          refine z_isub hx hb d_r_follow_88 ?_
          refine z_iconst hx hb d_r_follow_89 ?_
          refine z_icmp_ne hx hb d_r_follow_90 rfl g15 (fun g15 => ?_) (fun g15 => ?_)
          · exact JF15 (Option.some.inj g15).symm _ _ hW hS
          · refine lv_aload_n hx hb d_r_follow_93 rfl (lv_at hl 0 rfl) ?_
            refine zg_Mo_wordChar M hW (M.2.2.1 _ w_752) d_r_follow_94 ?_
            refine lv_iload_n hx hb d_r_follow_97 rfl (lv_at hl 2 rfl) ?_
            obtain ⟨g16, g15⟩ := zg g15
            refine zr_20 M hW g16 d_r_follow_98 ?_
            refine z_bipush hx hb d_r_follow_99 rfl ?_
            refine z_icmp_ne hx hb d_r_follow_101 rfl g15 (fun g15 => ?_) (fun g15 => ?_)
            · exact JF15 (Option.some.inj g15).symm _ _ hW hS
            · exact JT15 (Option.some.inj g15).symm _ _ hW hS
      have JF1 : b3 = false → ∀ (H : Heap) (locs : List Loc), ZW D B y ad true cu u H → va_S (fun x => B ≤ x) s.heap H locs → W p l e R s m args below meth c H locs 0 0 Q (F0 m 73 ls []) := by
        intro hv H locs hW hS
        have hf := zn (by rw [hv]; decide) hf
        refine lv_iinc (k := 3) (v := zI (v4 + 1)) (lv' := [(4, .int (zI (v4 + 1))), (0, .ref (ad (10, 0))), (2, .int (zI v2)), (3, .int (zI v3))]) hx hb d_r_follow_73 hl rfl (zI_add _ _) (by decide) rfl (fun ls hl => ?_)
        refine lv_goto hx hb d_r_follow_76 rfl ?_
        exact ih _ _ _ _ _ _ _ hf (lv_sub hl [1, 2, 3, 0] rfl) hW hS
      refine z_icmp_ge hx hb d_r_follow_58 rfl g1 (fun g1 => ?_) (fun g1 => ?_)
      · exact JT1 (Option.some.inj g1).symm _ _ hW hS
      · refine lv_aload_n hx hb d_r_follow_61 rfl (lv_at hl 0 rfl) ?_
        refine zg_Mo_wordChar M hW (M.2.2.1 _ w_752) d_r_follow_62 ?_
        refine lv_iload hx hb d_r_follow_65 (lv_at hl 3 rfl) ?_
        obtain ⟨g17, g1⟩ := zg g1
        refine zr_20 M hW g17 d_r_follow_67 ?_
        refine z_bipush hx hb d_r_follow_68 rfl ?_
        refine z_icmp_eq hx hb d_r_follow_70 rfl g1 (fun g1 => ?_) (fun g1 => ?_)
        · exact JT1 (Option.some.inj g1).symm _ _ hW hS
        · exact JF1 (Option.some.inj g1).symm _ _ hW hS
  have C_47 : ∀ (n : Nat), ∀ (u : ZR) (v2 : Int) (v3 : Int) (H : Heap) (locs : List Loc) (ls : Array Slot), r_follow_47 F n u v2 v3 = some uo → lv_has ls 8 [(0, .ref (ad (10, 0))), (2, .int (zI v2)), (3, .int (zI v3))] → ZW D B y ad true cu u H → va_S (fun x => B ≤ x) s.heap H locs → W p l e R s m args below meth c H locs 0 0 Q (F0 m 47 ls []) := by
    intro n
    induction n with
    | zero => intro u v2 v3 H locs ls hf; cases (show (none : Option (ZR)) = some uo from hf)
    | succ n ih =>
      intro u v2 v3 H locs ls hf hl hW hS
      rw [r_follow_47] at hf
      refine lv_iload_n hx hb d_r_follow_47 rfl (lv_at hl 2 rfl) ?_
      refine lv_iload_n hx hb d_r_follow_48 rfl (lv_at hl 1 rfl) ?_
      refine z_icmp_ge hx hb d_r_follow_49 rfl hf (fun hf => ?_) (fun hf => ?_)
      · cases hf
        subst hQ
        exact z_retv hx hb hr hlocks hB hK hW hS d_r_follow_238
      · refine lv_iload_n hx hb d_r_follow_52 rfl (lv_at hl 2 rfl) ?_
        refine lv_istore (lv' := [(4, .int (zI v3)), (0, .ref (ad (10, 0))), (2, .int (zI v2)), (3, .int (zI v3))]) hx hb d_r_follow_53 hl (by decide) rfl (fun ls hl => ?_)
        exact C_55 _ ih F _ _ _ _ _ _ _ hf (lv_sub hl [1, 2, 3, 0] rfl) hW hS
  rw [r_follow] at hf
  refine lv_aload_n hx hb d_r_follow_0 rfl (lv_at hl 0 rfl) ?_
  refine zg_Mo_wordTo M hW (M.2.2.1 _ w_750) d_r_follow_1 ?_
  refine lv_iload_n hx hb d_r_follow_4 rfl (lv_at hl 1 rfl) ?_
  obtain ⟨g18, hf⟩ := zg hf
  refine zr_18 M hW g18 d_r_follow_5 ?_
  refine lv_istore_n (lv' := [(2, .int (zI (rA u 18 v1.toNat))), (0, .ref (ad (10, 0))), (1, .int (zI v1))]) hx hb d_r_follow_6 rfl hl (by decide) rfl (fun ls hl => ?_)
  refine lv_aload_n hx hb d_r_follow_7 rfl (lv_at hl 1 rfl) ?_
  refine zg_Mo_wordFrom M hW (M.2.2.1 _ w_749) d_r_follow_8 ?_
  refine lv_iload_n hx hb d_r_follow_11 rfl (lv_at hl 2 rfl) ?_
  refine zr_17 M hW g18 d_r_follow_12 ?_
  refine lv_istore_n (lv' := [(3, .int (zI (rA u 17 v1.toNat))), (2, .int (zI (rA u 18 v1.toNat))), (0, .ref (ad (10, 0))), (1, .int (zI v1))]) hx hb d_r_follow_13 rfl hl (by decide) rfl (fun ls hl => ?_)
  refine lv_aload_n hx hb d_r_follow_14 rfl (lv_at hl 2 rfl) ?_
  refine lv_iload_n hx hb d_r_follow_15 rfl (lv_at hl 0 rfl) ?_
  refine lv_iload_n hx hb d_r_follow_16 rfl (lv_at hl 1 rfl) ?_
  obtain ⟨x2, g19, hf⟩ := ze1 hf
  have J19 : ∀ (H : Heap) (locs : List Loc) (ls : Array Slot), lv_has ls 8 [(0, .ref (ad (10, 0))), (2, .int (zI (rA u 18 v1.toNat))), (3, .int (zI (rA u 17 v1.toNat)))] → ZW D B y ad true cu u H → va_S (fun x => B ≤ x) s.heap H locs → W p l e R s m args below meth c H locs 0 0 Q (F0 m 39 ls [.int (zI x2), .ref (ad (10, 0))]) := by
    intro H locs ls hl hW hS
    refine zp_Mo_pathNode M hW hS (M.2.2.1 _ w_774) d_r_follow_39 (fun H locs hW hS => ?_)
    refine lv_aload_n hx hb d_r_follow_42 rfl (lv_at hl 0 rfl) ?_
    refine z_iconst hx hb d_r_follow_43 ?_
    refine zp_Mo_pathDir M hW hS (M.2.2.1 _ w_775) d_r_follow_44 (fun H locs hW hS => ?_)
    exact C_47 F _ _ _ _ _ _ hf (lv_sub hl [0, 1, 2] rfl) hW hS
  obtain ⟨b1, g20, g19⟩ := ze1 g19
  have JT20 : b1 = true → ∀ (H : Heap) (locs : List Loc), ZW D B y ad true cu u H → va_S (fun x => B ≤ x) s.heap H locs → W p l e R s m args below meth c H locs 0 0 Q (F0 m 35 ls [.ref (ad (10, 0))]) := by
    intro hv H locs hW hS
    have g19 := zp (hv) g19
    refine lv_aload_n hx hb d_r_follow_35 rfl (lv_at hl 2 rfl) ?_
    refine zg_Mo_here M hW (M.2.2.1 _ w_741) d_r_follow_36 ?_
    cases g19
    exact J19 _ _ _ (lv_sub hl [2, 1, 0] rfl) hW hS
  have JF20 : b1 = false → ∀ (H : Heap) (locs : List Loc), ZW D B y ad true cu u H → va_S (fun x => B ≤ x) s.heap H locs → W p l e R s m args below meth c H locs 0 0 Q (F0 m 31 ls [.ref (ad (10, 0))]) := by
    intro hv H locs hW hS
    have g19 := zn (by rw [hv]; decide) g19
    refine z_iconst hx hb d_r_follow_31 ?_
    refine lv_goto hx hb d_r_follow_32 rfl ?_
    cases g19
    exact J19 _ _ _ (lv_sub hl [2, 1, 0] rfl) hW hS
  refine z_icmp_ge hx hb d_r_follow_17 rfl g20 (fun g20 => ?_) (fun g20 => ?_)
  · exact JT20 (Option.some.inj g20).symm _ _ hW hS
  · refine lv_aload_n hx hb d_r_follow_20 rfl (lv_at hl 2 rfl) ?_
    refine zg_Mo_wordChar M hW (M.2.2.1 _ w_752) d_r_follow_21 ?_
    refine lv_iload_n hx hb d_r_follow_24 rfl (lv_at hl 0 rfl) ?_
    obtain ⟨g21, g20⟩ := zg g20
    refine zr_20 M hW g21 d_r_follow_25 ?_
    refine z_bipush hx hb d_r_follow_26 rfl ?_
    refine z_icmp_ne hx hb d_r_follow_28 rfl g20 (fun g20 => ?_) (fun g20 => ?_)
    · exact JT20 (Option.some.inj g20).symm _ _ hW hS
    · exact JF20 (Option.some.inj g20).symm _ _ hW hS
set_option maxRecDepth 100000 in
set_option maxHeartbeats 4000000 in
theorem k_r_made {l : Launch} {D : va_G} {B : Nat} {y : Nat → ClassId} {ad : Nat × Nat → Nat} {cu : ZC} (F : Nat) (u : ZR) (v1 : Int) {res : Int} {uo : ZR} (hf : r_made F u v1 = some (res, uo)) : Met l y_r_made (.code y_r_made b_r_made 5 (some .int) :: zt) { frames := 0, cells := 0, slots := 0, locals := 0 } (va_Pc [.ref (ad (10, 0)), .int (zI v1)] (fun U => ZP D B y ad true cu u U)) (va_Qi (fun v (_ : Unit) => v = zI res) (fun _ t => ZP D B y ad true cu uo t) (fun x => B ≤ x)) 0 0 (fun x => B ≤ x) := by
  refine Met.ofW (cc := b_r_made) (maxL := 5) (ret := (some .int)) (by decide) rfl ?_
  intro p e s m args below meth c s₁ Bd hml hv
  obtain ⟨hargs, hB, hW, hK⟩ := hv
  have hx := Bd.exec
  have hb := Bd.bytes
  have hr := Bd.returns
  have hts0 := atoms_spec (ws := .code y_r_made b_r_made 5 (some .int) :: zt) Bd.pre
  have hown : s.vm.findClass "TreeShellModel" = some m.cls := findClass_of_methodNamed Bd.named
  have hlocks := Bd.notSynchronized
  have M : ZM p c b_r_made s args m "TreeShellModel" D y := ⟨hx, hb, fun w h => hts0 w (List.mem_cons_of_mem _ h), hown, hK⟩
  have hS : va_S (fun x => B ≤ x) s.heap s.heap [] := va_S.rf
  have hE := lg_entry_eq m ([.ref (ad (10, 0)), .int (zI v1)] : List Value) 5
  rw [← hargs] at hE
  rw [hE]
  have hl := lv_entry ([.ref (ad (10, 0)), .int (zI v1)] : List Value) (n := 5) (Nat.le_of_ble_eq_true rfl)
  generalize (lg_sl ([.ref (ad (10, 0)), .int (zI v1)] : List Value) ++ List.replicate (5 - (lg_sl ([.ref (ad (10, 0)), .int (zI v1)] : List Value)).length) Slot.unset).toArray = ls at hl ⊢
  have hl : lv_has ls 5 [(0, .ref (ad (10, 0))), (1, .int (zI v1))] := hl
  refine z_start (fun Q R hQ hR => ?_)
  generalize hH : s.heap = H at hW
  have hS : va_S (fun x => B ≤ x) s.heap H [] := by rw [← hH]; exact hS
  have C_8 : ∀ (n : Nat), ∀ (u : ZR) (v1 : Int) (v2 : Int) (v3 : Int) (v4 : Int) (H : Heap) (locs : List Loc) (ls : Array Slot), r_made_8 F n u v1 v2 v3 v4 = some (res, uo) → lv_has ls 5 [(0, .ref (ad (10, 0))), (1, .int (zI v1)), (2, .int (zI v2)), (3, .int (zI v3)), (4, .int (zI v4))] → ZW D B y ad true cu u H → va_S (fun x => B ≤ x) s.heap H locs → W p l e R s m args below meth c H locs 0 0 Q (F0 m 8 ls []) := by
    intro n
    induction n with
    | zero => intro u v1 v2 v3 v4 H locs ls hf; cases (show (none : Option (Int × ZR)) = some (res, uo) from hf)
    | succ n ih =>
      intro u v1 v2 v3 v4 H locs ls hf hl hW hS
      rw [r_made_8] at hf
      refine lv_iload hx hb d_r_made_8 (lv_at hl 4 rfl) ?_
      refine z_iconst hx hb d_r_made_10 ?_
      refine z_icmp_lt hx hb d_r_made_11 rfl hf (fun hf => ?_) (fun hf => ?_)
      · refine lv_iload_n hx hb d_r_made_55 rfl (lv_at hl 2 rfl) ?_
        refine lv_aload_n hx hb d_r_made_56 rfl (lv_at hl 0 rfl) ?_
        refine zg_Mo_nodeLimit M hW (M.2.2.1 _ w_732) d_r_made_57 ?_
        refine z_icmp_lt hx hb d_r_made_60 rfl hf (fun hf => ?_) (fun hf => ?_)
        · refine lv_aload_n hx hb d_r_made_65 rfl (lv_at hl 0 rfl) ?_
          refine zg_Mo_used M hW (M.2.2.1 _ w_735) d_r_made_66 ?_
          refine lv_iload_n hx hb d_r_made_69 rfl (lv_at hl 3 rfl) ?_
          refine z_iconst hx hb d_r_made_70 ?_
          obtain ⟨g1, hf⟩ := zg hf
          refine zw_3 M hW hS (Or.inr rfl) g1 d_r_made_71 (fun H locs hW hS => ?_)
          refine lv_aload_n hx hb d_r_made_72 rfl (lv_at hl 0 rfl) ?_
          refine zg_Mo_isDir M hW (M.2.2.1 _ w_736) d_r_made_73 ?_
          refine lv_iload_n hx hb d_r_made_76 rfl (lv_at hl 3 rfl) ?_
          refine lv_iload_n hx hb d_r_made_77 rfl (lv_at hl 1 rfl) ?_
          obtain ⟨g2, hf⟩ := zg hf
          refine zw_4 M hW hS g2 g1 d_r_made_78 (fun H locs hW hS => ?_)
          refine lv_aload_n hx hb d_r_made_79 rfl (lv_at hl 0 rfl) ?_
          refine zg_Mo_parent M hW (M.2.2.1 _ w_737) d_r_made_80 ?_
          refine lv_iload_n hx hb d_r_made_83 rfl (lv_at hl 3 rfl) ?_
          refine lv_aload_n hx hb d_r_made_84 rfl (lv_at hl 0 rfl) ?_
          refine zg_Mo_pathDir M hW (M.2.2.1 _ w_775) d_r_made_85 ?_
          refine zw_5 M hW hS g1 d_r_made_88 (fun H locs hW hS => ?_)
          obtain ⟨u1, g3, hf⟩ := ze1 hf
          have g3 := Option.some.inj g3
          rw [g3] at hW
          refine lv_aload_n hx hb d_r_made_89 rfl (lv_at hl 0 rfl) ?_
          refine zg_Mo_name M hW (M.2.2.1 _ w_738) d_r_made_90 ?_
          refine lv_iload_n hx hb d_r_made_93 rfl (lv_at hl 3 rfl) ?_
          refine lv_aload_n hx hb d_r_made_94 rfl (lv_at hl 0 rfl) ?_
          refine zg_Mo_pathName M hW (M.2.2.1 _ w_776) d_r_made_95 ?_
          obtain ⟨g4, hf⟩ := zg hf
          refine zw_6 M hW hS g4 d_r_made_98 (fun H locs hW hS => ?_)
          refine lv_aload_n hx hb d_r_made_99 rfl (lv_at hl 0 rfl) ?_
          refine zg_Mo_size M hW (M.2.2.1 _ w_739) d_r_made_100 ?_
          refine lv_iload_n hx hb d_r_made_103 rfl (lv_at hl 3 rfl) ?_
          refine z_iconst hx hb d_r_made_104 ?_
          refine zw_7 M hW hS g4 d_r_made_105 (fun H locs hW hS => ?_)
          obtain ⟨u2, g5, hf⟩ := ze1 hf
          have g5 := Option.some.inj g5
          rw [g5] at hW
          refine lv_iload_n hx hb d_r_made_106 rfl (lv_at hl 3 rfl) ?_
          cases hf
          subst hQ
          exact z_reti hx hb hr hlocks hB hK hW hS d_r_made_107
        · refine z_iconst hx hb d_r_made_63 ?_
          cases hf
          subst hQ
          exact z_reti hx hb hr hlocks hB hK hW hS d_r_made_64
      · refine lv_aload_n hx hb d_r_made_14 rfl (lv_at hl 0 rfl) ?_
        refine zg_Mo_used M hW (M.2.2.1 _ w_735) d_r_made_15 ?_
        refine lv_iload hx hb d_r_made_18 (lv_at hl 4 rfl) ?_
        obtain ⟨g6, hf⟩ := zg hf
        refine zr_3 M hW g6 d_r_made_20 ?_
        obtain ⟨x3, g7, hf⟩ := ze1 hf
        have J7 : ∀ (H : Heap) (locs : List Loc) (ls : Array Slot), lv_has ls 5 [(0, .ref (ad (10, 0))), (1, .int (zI v1)), (3, .int (zI v3)), (4, .int (zI v4))] → ZW D B y ad true cu u H → va_S (fun x => B ≤ x) s.heap H locs → W p l e R s m args below meth c H locs 0 0 Q (F0 m 31 ls [.int (zI x3)]) := by
          intro H locs ls hl hW hS
          refine lv_istore_n (lv' := [(2, .int (zI x3)), (0, .ref (ad (10, 0))), (1, .int (zI v1)), (3, .int (zI v3)), (4, .int (zI v4))]) hx hb d_r_made_31 rfl hl (by decide) rfl (fun ls hl => ?_)
          refine lv_aload_n hx hb d_r_made_32 rfl (lv_at hl 1 rfl) ?_
          refine zg_Mo_used M hW (M.2.2.1 _ w_735) d_r_made_33 ?_
          refine lv_iload hx hb d_r_made_36 (lv_at hl 4 rfl) ?_
          refine zr_3 M hW g6 d_r_made_38 ?_
          obtain ⟨x4, g8, hf⟩ := ze1 hf
          have J8 : ∀ (H : Heap) (locs : List Loc) (ls : Array Slot), lv_has ls 5 [(0, .ref (ad (10, 0))), (1, .int (zI v1)), (2, .int (zI x3)), (4, .int (zI v4))] → ZW D B y ad true cu u H → va_S (fun x => B ≤ x) s.heap H locs → W p l e R s m args below meth c H locs 0 0 Q (F0 m 48 ls [.int (zI x4)]) := by
            intro H locs ls hl hW hS
            refine lv_istore_n (lv' := [(3, .int (zI x4)), (0, .ref (ad (10, 0))), (1, .int (zI v1)), (2, .int (zI x3)), (4, .int (zI v4))]) hx hb d_r_made_48 rfl hl (by decide) rfl (fun ls hl => ?_)
            refine lv_iinc (k := 4) (v := zI (v4 + (-1))) (lv' := [(4, .int (zI (v4 + (-1)))), (3, .int (zI x4)), (0, .ref (ad (10, 0))), (1, .int (zI v1)), (2, .int (zI x3))]) hx hb d_r_made_49 hl rfl (zI_add _ _) (by decide) rfl (fun ls hl => ?_)
            refine lv_goto hx hb d_r_made_52 rfl ?_
            exact ih _ _ _ _ _ _ _ _ hf (lv_sub hl [2, 3, 4, 1, 0] rfl) hW hS
          refine z_if_eq hx hb d_r_made_39 rfl g8 (fun g8 => ?_) (fun g8 => ?_)
          · refine lv_iload hx hb d_r_made_46 (lv_at hl 4 rfl) ?_
            cases g8
            exact J8 _ _ _ (lv_sub hl [1, 2, 0, 4] rfl) hW hS
          · refine lv_iload_n hx hb d_r_made_42 rfl (lv_at hl 3 rfl) ?_
            refine lv_goto hx hb d_r_made_43 rfl ?_
            cases g8
            exact J8 _ _ _ (lv_sub hl [1, 2, 0, 4] rfl) hW hS
        refine z_if_eq hx hb d_r_made_21 rfl g7 (fun g7 => ?_) (fun g7 => ?_)
        · refine lv_iload_n hx hb d_r_made_30 rfl (lv_at hl 2 rfl) ?_
          cases g7
          exact J7 _ _ _ (lv_sub hl [0, 1, 3, 4] rfl) hW hS
        · refine lv_iload_n hx hb d_r_made_24 rfl (lv_at hl 2 rfl) ?_
          refine z_iconst hx hb d_r_made_25 ?_
          refine z_iadd hx hb d_r_made_26 ?_
          refine lv_goto hx hb d_r_made_27 rfl ?_
          cases g7
          exact J7 _ _ _ (lv_sub hl [0, 1, 3, 4] rfl) hW hS
  rw [r_made] at hf
  refine z_iconst hx hb d_r_made_0 ?_
  refine lv_istore_n (lv' := [(2, .int (zI 0)), (0, .ref (ad (10, 0))), (1, .int (zI v1))]) hx hb d_r_made_1 rfl hl (by decide) rfl (fun ls hl => ?_)
  refine z_iconst hx hb d_r_made_2 ?_
  refine lv_istore_n (lv' := [(3, .int (zI 0)), (2, .int (zI 0)), (0, .ref (ad (10, 0))), (1, .int (zI v1))]) hx hb d_r_made_3 rfl hl (by decide) rfl (fun ls hl => ?_)
  refine z_bipush hx hb d_r_made_4 rfl ?_
  refine lv_istore (lv' := [(4, .int (zI 12)), (3, .int (zI 0)), (2, .int (zI 0)), (0, .ref (ad (10, 0))), (1, .int (zI v1))]) hx hb d_r_made_6 hl (by decide) rfl (fun ls hl => ?_)
  exact C_8 F _ _ _ _ _ _ _ _ hf (lv_sub hl [3, 4, 2, 1, 0] rfl) hW hS
set_option maxRecDepth 100000 in
set_option maxHeartbeats 4000000 in
theorem k_r_redirect {l : Launch} {D : va_G} {B : Nat} {y : Nat → ClassId} {ad : Nat × Nat → Nat} {cu : ZC} (F : Nat) (u : ZR) (v1 : Int) (v2 : Int) {res : Int} {uo : ZR} (hf : r_redirect F u v1 v2 = some (res, uo)) : Met l y_r_redirect (.code y_r_redirect b_r_redirect 5 (some .int) :: zt) { frames := 3, cells := 0, slots := 0, locals := 73 } (va_Pc [.ref (ad (10, 0)), .int (zI v1), .int (zI v2)] (fun U => ZP D B y ad true cu u U)) (va_Qi (fun v (_ : Unit) => v = zI res) (fun _ t => ZP D B y ad true cu uo t) (fun x => B ≤ x)) 0 0 (fun x => B ≤ x) := by
  refine Met.ofW (cc := b_r_redirect) (maxL := 5) (ret := (some .int)) (by decide) rfl ?_
  intro p e s m args below meth c s₁ Bd hml hv
  obtain ⟨hargs, hB, hW, hK⟩ := hv
  have hx := Bd.exec
  have hb := Bd.bytes
  have hr := Bd.returns
  have hts0 := atoms_spec (ws := .code y_r_redirect b_r_redirect 5 (some .int) :: zt) Bd.pre
  have hown : s.vm.findClass "TreeShellModel" = some m.cls := findClass_of_methodNamed Bd.named
  have hlocks := Bd.notSynchronized
  have M : ZM p c b_r_redirect s args m "TreeShellModel" D y := ⟨hx, hb, fun w h => hts0 w (List.mem_cons_of_mem _ h), hown, hK⟩
  have hS : va_S (fun x => B ≤ x) s.heap s.heap [] := va_S.rf
  have hE := lg_entry_eq m ([.ref (ad (10, 0)), .int (zI v1), .int (zI v2)] : List Value) 5
  rw [← hargs] at hE
  rw [hE]
  have hl := lv_entry ([.ref (ad (10, 0)), .int (zI v1), .int (zI v2)] : List Value) (n := 5) (Nat.le_of_ble_eq_true rfl)
  generalize (lg_sl ([.ref (ad (10, 0)), .int (zI v1), .int (zI v2)] : List Value) ++ List.replicate (5 - (lg_sl ([.ref (ad (10, 0)), .int (zI v1), .int (zI v2)] : List Value)).length) Slot.unset).toArray = ls at hl ⊢
  have hl : lv_has ls 5 [(0, .ref (ad (10, 0))), (1, .int (zI v1)), (2, .int (zI v2))] := hl
  refine z_start (fun Q R hQ hR => ?_)
  generalize hH : s.heap = H at hW
  have hS : va_S (fun x => B ≤ x) s.heap H [] := by rw [← hH]; exact hS
  have C_73 : ∀ (n : Nat), ∀ (u : ZR) (v3 : Int) (v4 : Int) (H : Heap) (locs : List Loc) (ls : Array Slot), r_redirect_73 F n u v3 v4 = some (res, uo) → lv_has ls 5 [(0, .ref (ad (10, 0))), (3, .int (zI v3)), (4, .int (zI v4))] → ZW D B y ad true cu u H → va_S (fun x => B ≤ x) s.heap H locs → W p l e R s m args below meth c H locs 0 0 Q (F0 m 73 ls []) := by
    intro n
    induction n with
    | zero => intro u v3 v4 H locs ls hf; cases (show (none : Option (Int × ZR)) = some (res, uo) from hf)
    | succ n ih =>
      intro u v3 v4 H locs ls hf hl hW hS
      rw [r_redirect_73] at hf
      refine lv_iload hx hb d_r_redirect_73 (lv_at hl 2 rfl) ?_
      refine lv_aload_n hx hb d_r_redirect_75 rfl (lv_at hl 0 rfl) ?_
      refine zg_Mo_size M hW (M.2.2.1 _ w_739) d_r_redirect_76 ?_
      refine lv_aload_n hx hb d_r_redirect_79 rfl (lv_at hl 0 rfl) ?_
      refine zg_Mo_pathNode M hW (M.2.2.1 _ w_774) d_r_redirect_80 ?_
      obtain ⟨g1, hf⟩ := zg hf
      refine zr_7 M hW g1 d_r_redirect_83 ?_
      refine z_icmp_ge hx hb d_r_redirect_84 rfl hf (fun hf => ?_) (fun hf => ?_)
      · refine lv_aload_n hx hb d_r_redirect_122 rfl (lv_at hl 0 rfl) ?_
        refine zg_Mo_commandIn M hW (M.2.2.1 _ w_756) d_r_redirect_123 ?_
        refine lv_aload_n hx hb d_r_redirect_126 rfl (lv_at hl 0 rfl) ?_
        refine zg_Mo_level M hW (M.2.2.1 _ w_753) d_r_redirect_127 ?_
        refine lv_iload_n hx hb d_r_redirect_130 rfl (lv_at hl 1 rfl) ?_
        obtain ⟨g2, hf⟩ := zg hf
        refine zw_24 M hW hS g2 d_r_redirect_131 (fun H locs hW hS => ?_)
        refine z_iconst hx hb d_r_redirect_132 ?_
        cases hf
        subst hQ
        exact z_reti hx hb hr hlocks hB hK hW hS d_r_redirect_133
      · refine lv_aload_n hx hb d_r_redirect_87 rfl (lv_at hl 0 rfl) ?_
        refine zg_Mo_input M hW (M.2.2.1 _ w_764) d_r_redirect_88 ?_
        refine z_sipush hx hb d_r_redirect_91 rfl ?_
        refine lv_iload_n hx hb d_r_redirect_94 rfl (lv_at hl 1 rfl) ?_
        refine z_imul hx hb d_r_redirect_95 ?_
        refine lv_iload hx hb d_r_redirect_96 (lv_at hl 2 rfl) ?_
        refine z_iadd hx hb d_r_redirect_98 ?_
        refine lv_aload_n hx hb d_r_redirect_99 rfl (lv_at hl 0 rfl) ?_
        refine zg_Mo_content M hW (M.2.2.1 _ w_740) d_r_redirect_100 ?_
        refine z_sipush hx hb d_r_redirect_103 rfl ?_
        refine lv_aload_n hx hb d_r_redirect_106 rfl (lv_at hl 0 rfl) ?_
        refine zg_Mo_pathNode M hW (M.2.2.1 _ w_774) d_r_redirect_107 ?_
        refine z_imul hx hb d_r_redirect_110 ?_
        refine lv_iload hx hb d_r_redirect_111 (lv_at hl 2 rfl) ?_
        refine z_iadd hx hb d_r_redirect_113 ?_
        obtain ⟨g3, hf⟩ := zg hf
        refine zr_8 M hW g3 d_r_redirect_114 ?_
        obtain ⟨g4, hf⟩ := zg hf
        refine zw_32 M hW hS g4 d_r_redirect_115 (fun H locs hW hS => ?_)
        obtain ⟨u12, g5, hf⟩ := ze1 hf
        have g5 := Option.some.inj g5
        rw [g5] at hW
        refine lv_iinc (k := 2) (v := zI (v4 + 1)) (lv' := [(4, .int (zI (v4 + 1))), (0, .ref (ad (10, 0))), (3, .int (zI v3))]) hx hb d_r_redirect_116 hl rfl (zI_add _ _) (by decide) rfl (fun ls hl => ?_)
        refine lv_goto hx hb d_r_redirect_119 rfl ?_
        exact ih _ _ _ _ _ _ hf (lv_sub hl [1, 2, 0] rfl) hW hS
  rw [r_redirect] at hf
  refine lv_aload_n hx hb d_r_redirect_0 rfl (lv_at hl 0 rfl) ?_
  refine z_iconst hx hb d_r_redirect_1 ?_
  refine zp_Mo_words M hW hS (M.2.2.1 _ w_748) d_r_redirect_2 (fun H locs hW hS => ?_)
  refine lv_aload_n hx hb d_r_redirect_5 rfl (lv_at hl 0 rfl) ?_
  refine z_iconst hx hb d_r_redirect_6 ?_
  refine zp_Mo_wordLength M hW hS (M.2.2.1 _ w_751) d_r_redirect_7 (fun H locs hW hS => ?_)
  refine lv_aload_n hx hb d_r_redirect_10 rfl (lv_at hl 0 rfl) ?_
  refine lv_iload_n hx hb d_r_redirect_11 rfl (lv_at hl 2 rfl) ?_
  obtain ⟨u1, g6, hf⟩ := ze1 hf
  refine z_callVv (As := [.int (zI v2)]) (rest := []) (k_r_expand F _ _ g6) M hml (cw_r_expand M.2.2.1 (M.2.2.1 _ w_952) (by rw [hR]; exact Nat.le_of_ble_eq_true rfl) (by rw [hR]; exact Nat.le_of_ble_eq_true rfl)) (zv_Mo hK hW) hB hW hS rfl hl.1 rfl (Nat.le_of_ble_eq_true rfl) d_r_redirect_12 (by rw [hR]; exact ⟨Nat.zero_le _, Nat.zero_le _⟩) (fun H locs hW hS => ?_)
  refine lv_aload_n hx hb d_r_redirect_15 rfl (lv_at hl 0 rfl) ?_
  refine z_iconst hx hb d_r_redirect_16 ?_
  obtain ⟨u2, g7, hf⟩ := ze1 hf
  refine z_callVv (As := [.int (zI 0)]) (rest := []) (k_r_follow F _ _ g7) M hml (cw_r_follow M.2.2.1 (M.2.2.1 _ w_963) (by rw [hR]; exact Nat.le_of_ble_eq_true rfl) (by rw [hR]; exact Nat.le_of_ble_eq_true rfl)) (zv_Mo hK hW) hB hW hS rfl hl.1 rfl (Nat.le_of_ble_eq_true rfl) d_r_redirect_17 (by rw [hR]; exact ⟨Nat.zero_le _, Nat.zero_le _⟩) (fun H locs hW hS => ?_)
  refine lv_iload_n hx hb d_r_redirect_20 rfl (lv_at hl 1 rfl) ?_
  refine z_iconst hx hb d_r_redirect_21 ?_
  refine z_icmp_ne hx hb d_r_redirect_22 rfl hf (fun hf => ?_) (fun hf => ?_)
  · refine lv_aload_n hx hb d_r_redirect_134 rfl (lv_at hl 0 rfl) ?_
    refine zg_Mo_pathNode M hW (M.2.2.1 _ w_774) d_r_redirect_135 ?_
    obtain ⟨b3, g8, hf⟩ := ze1 hf
    have JT8 : b3 = true → ∀ (H : Heap) (locs : List Loc), ZW D B y ad true cu u2 H → va_S (fun x => B ≤ x) s.heap H locs → W p l e R s m args below meth c H locs 0 0 Q (F0 m 167 ls []) := by
      intro hv H locs hW hS
      have hf := zp (hv) hf
      refine z_iconst hx hb d_r_redirect_167 ?_
      cases hf
      subst hQ
      exact z_reti hx hb hr hlocks hB hK hW hS d_r_redirect_168
    have JF8 : b3 = false → ∀ (H : Heap) (locs : List Loc), ZW D B y ad true cu u2 H → va_S (fun x => B ≤ x) s.heap H locs → W p l e R s m args below meth c H locs 0 0 Q (F0 m 169 ls []) := by
      intro hv H locs hW hS
      have hf := zn (by rw [hv]; decide) hf
      refine lv_aload_n hx hb d_r_redirect_169 rfl (lv_at hl 0 rfl) ?_
      refine zg_Mo_pathNode M hW (M.2.2.1 _ w_774) d_r_redirect_170 ?_
      obtain ⟨x6, u7, g9, hf⟩ := ze2 hf
      have J9 : ∀ (H : Heap) (locs : List Loc) (ls : Array Slot), lv_has ls 5 [(0, .ref (ad (10, 0))), (1, .int (zI v1))] → ZW D B y ad true cu u7 H → va_S (fun x => B ≤ x) s.heap H locs → W p l e R s m args below meth c H locs 0 0 Q (F0 m 188 ls [.int (zI x6)]) := by
        intro H locs ls hl hW hS
        refine lv_istore_n (lv' := [(3, .int (zI x6)), (0, .ref (ad (10, 0))), (1, .int (zI v1))]) hx hb d_r_redirect_188 rfl hl (by decide) rfl (fun ls hl => ?_)
        refine lv_iload_n hx hb d_r_redirect_189 rfl (lv_at hl 0 rfl) ?_
        refine z_if_ge hx hb d_r_redirect_190 rfl hf (fun hf => ?_) (fun hf => ?_)
        · refine lv_aload_n hx hb d_r_redirect_196 rfl (lv_at hl 1 rfl) ?_
          refine zg_Mo_size M hW (M.2.2.1 _ w_739) d_r_redirect_197 ?_
          refine lv_iload_n hx hb d_r_redirect_200 rfl (lv_at hl 0 rfl) ?_
          refine lv_iload_n hx hb d_r_redirect_201 rfl (lv_at hl 2 rfl) ?_
          refine z_bipush hx hb d_r_redirect_202 rfl ?_
          obtain ⟨x8, g10, hf⟩ := ze1 hf
          have J10 : ∀ (H : Heap) (locs : List Loc) (ls : Array Slot), lv_has ls 5 [(0, .ref (ad (10, 0))), (3, .int (zI x6))] → ZW D B y ad true cu u7 H → va_S (fun x => B ≤ x) s.heap H locs → W p l e R s m args below meth c H locs 0 0 Q (F0 m 217 ls [.int (zI x8), .int (zI x6), .ref (ad (11, 7))]) := by
            intro H locs ls hl hW hS
            obtain ⟨g11, hf⟩ := zg hf
            refine zw_7 M hW hS g11 d_r_redirect_217 (fun H locs hW hS => ?_)
            refine lv_aload_n hx hb d_r_redirect_218 rfl (lv_at hl 0 rfl) ?_
            refine zg_Mo_target M hW (M.2.2.1 _ w_758) d_r_redirect_219 ?_
            refine lv_aload_n hx hb d_r_redirect_222 rfl (lv_at hl 0 rfl) ?_
            refine zg_Mo_level M hW (M.2.2.1 _ w_753) d_r_redirect_223 ?_
            refine lv_iload_n hx hb d_r_redirect_226 rfl (lv_at hl 1 rfl) ?_
            obtain ⟨g12, hf⟩ := zg hf
            refine zw_26 M hW hS g12 d_r_redirect_227 (fun H locs hW hS => ?_)
            obtain ⟨u9, g13, hf⟩ := ze1 hf
            have g13 := Option.some.inj g13
            rw [g13] at hW
            refine z_iconst hx hb d_r_redirect_228 ?_
            cases hf
            subst hQ
            exact z_reti hx hb hr hlocks hB hK hW hS d_r_redirect_229
          refine z_icmp_ne hx hb d_r_redirect_204 rfl g10 (fun g10 => ?_) (fun g10 => ?_)
          · refine lv_aload_n hx hb d_r_redirect_211 rfl (lv_at hl 1 rfl) ?_
            refine zg_Mo_size M hW (M.2.2.1 _ w_739) d_r_redirect_212 ?_
            refine lv_iload_n hx hb d_r_redirect_215 rfl (lv_at hl 0 rfl) ?_
            obtain ⟨g14, g10⟩ := zg g10
            refine zr_7 M hW g14 d_r_redirect_216 ?_
            cases g10
            exact J10 _ _ _ (lv_sub hl [1, 0] rfl) hW hS
          · refine z_iconst hx hb d_r_redirect_207 ?_
            refine lv_goto hx hb d_r_redirect_208 rfl ?_
            cases g10
            exact J10 _ _ _ (lv_sub hl [1, 0] rfl) hW hS
        · refine z_bipush hx hb d_r_redirect_193 rfl ?_
          cases hf
          subst hQ
          exact z_reti hx hb hr hlocks hB hK hW hS d_r_redirect_195
      refine z_if_ge hx hb d_r_redirect_173 rfl g9 (fun g9 => ?_) (fun g9 => ?_)
      · refine lv_aload_n hx hb d_r_redirect_184 rfl (lv_at hl 0 rfl) ?_
        refine zg_Mo_pathNode M hW (M.2.2.1 _ w_774) d_r_redirect_185 ?_
        cases g9
        exact J9 _ _ _ (lv_sub hl [0, 1] rfl) hW hS
      · refine lv_aload_n hx hb d_r_redirect_176 rfl (lv_at hl 0 rfl) ?_
        refine z_iconst hx hb d_r_redirect_177 ?_
        obtain ⟨p4, u5, g15, g9⟩ := ze2 g9
        refine z_callVi (As := [.int (zI 0)]) (rest := []) (k_r_made F _ _ g15) M hml (cw_r_made M.2.2.1 (M.2.2.1 _ w_984) (by rw [hR]; exact Nat.le_of_ble_eq_true rfl) (by rw [hR]; exact Nat.le_of_ble_eq_true rfl)) (zv_Mo hK hW) hB hW hS rfl hl.1 rfl (Nat.le_of_ble_eq_true rfl) d_r_redirect_178 (by rw [hR]; exact ⟨Nat.zero_le _, Nat.zero_le _⟩) (fun H locs hW hS => ?_)
        refine lv_goto hx hb d_r_redirect_181 rfl ?_
        cases g9
        exact J9 _ _ _ (lv_sub hl [0, 1] rfl) hW hS
    refine z_if_lt hx hb d_r_redirect_138 rfl g8 (fun g8 => ?_) (fun g8 => ?_)
    · refine lv_aload_n hx hb d_r_redirect_153 rfl (lv_at hl 0 rfl) ?_
      refine zg_Mo_pathNode M hW (M.2.2.1 _ w_774) d_r_redirect_154 ?_
      refine z_if_ge hx hb d_r_redirect_157 rfl g8 (fun g8 => ?_) (fun g8 => ?_)
      · exact JF8 (Option.some.inj g8).symm _ _ hW hS
      · refine lv_aload_n hx hb d_r_redirect_160 rfl (lv_at hl 0 rfl) ?_
        refine zg_Mo_pathDir M hW (M.2.2.1 _ w_775) d_r_redirect_161 ?_
        refine z_if_ge hx hb d_r_redirect_164 rfl g8 (fun g8 => ?_) (fun g8 => ?_)
        · exact JF8 (Option.some.inj g8).symm _ _ hW hS
        · exact JT8 (Option.some.inj g8).symm _ _ hW hS
    · refine lv_aload_n hx hb d_r_redirect_141 rfl (lv_at hl 0 rfl) ?_
      refine zg_Mo_isDir M hW (M.2.2.1 _ w_736) d_r_redirect_142 ?_
      refine lv_aload_n hx hb d_r_redirect_145 rfl (lv_at hl 0 rfl) ?_
      refine zg_Mo_pathNode M hW (M.2.2.1 _ w_774) d_r_redirect_146 ?_
      obtain ⟨g16, g8⟩ := zg g8
      refine zr_4 M hW g16 d_r_redirect_149 ?_
      refine z_if_ne hx hb d_r_redirect_150 rfl g8 (fun g8 => ?_) (fun g8 => ?_)
      · exact JT8 (Option.some.inj g8).symm _ _ hW hS
      · refine lv_aload_n hx hb d_r_redirect_153 rfl (lv_at hl 0 rfl) ?_
        refine zg_Mo_pathNode M hW (M.2.2.1 _ w_774) d_r_redirect_154 ?_
        refine z_if_ge hx hb d_r_redirect_157 rfl g8 (fun g8 => ?_) (fun g8 => ?_)
        · exact JF8 (Option.some.inj g8).symm _ _ hW hS
        · refine lv_aload_n hx hb d_r_redirect_160 rfl (lv_at hl 0 rfl) ?_
          refine zg_Mo_pathDir M hW (M.2.2.1 _ w_775) d_r_redirect_161 ?_
          refine z_if_ge hx hb d_r_redirect_164 rfl g8 (fun g8 => ?_) (fun g8 => ?_)
          · exact JF8 (Option.some.inj g8).symm _ _ hW hS
          · exact JT8 (Option.some.inj g8).symm _ _ hW hS
  · refine lv_aload_n hx hb d_r_redirect_25 rfl (lv_at hl 0 rfl) ?_
    refine zg_Mo_pathNode M hW (M.2.2.1 _ w_774) d_r_redirect_26 ?_
    obtain ⟨b10, g17, hf⟩ := ze1 hf
    have JT17 : b10 = true → ∀ (H : Heap) (locs : List Loc), ZW D B y ad true cu u2 H → va_S (fun x => B ≤ x) s.heap H locs → W p l e R s m args below meth c H locs 0 0 Q (F0 m 44 ls []) := by
      intro hv H locs hW hS
      have hf := zp (hv) hf
      refine z_iconst hx hb d_r_redirect_44 ?_
      cases hf
      subst hQ
      exact z_reti hx hb hr hlocks hB hK hW hS d_r_redirect_45
    have JF17 : b10 = false → ∀ (H : Heap) (locs : List Loc), ZW D B y ad true cu u2 H → va_S (fun x => B ≤ x) s.heap H locs → W p l e R s m args below meth c H locs 0 0 Q (F0 m 46 ls []) := by
      intro hv H locs hW hS
      have hf := zn (by rw [hv]; decide) hf
      refine z_iconst hx hb d_r_redirect_46 ?_
      refine lv_aload_n hx hb d_r_redirect_47 rfl (lv_at hl 0 rfl) ?_
      refine zg_Mo_level M hW (M.2.2.1 _ w_753) d_r_redirect_48 ?_
      refine z_imul hx hb d_r_redirect_51 ?_
      refine z_iconst hx hb d_r_redirect_52 ?_
      refine z_iadd hx hb d_r_redirect_53 ?_
      refine lv_istore_n (lv' := [(3, .int (zI ((2 * (rI u2 21)) + 1))), (0, .ref (ad (10, 0))), (1, .int (zI v1)), (2, .int (zI v2))]) hx hb d_r_redirect_54 rfl hl (by decide) rfl (fun ls hl => ?_)
      refine lv_aload_n hx hb d_r_redirect_55 rfl (lv_at hl 1 rfl) ?_
      refine zg_Mo_inputLength M hW (M.2.2.1 _ w_765) d_r_redirect_56 ?_
      refine lv_iload_n hx hb d_r_redirect_59 rfl (lv_at hl 0 rfl) ?_
      refine lv_aload_n hx hb d_r_redirect_60 rfl (lv_at hl 1 rfl) ?_
      refine zg_Mo_size M hW (M.2.2.1 _ w_739) d_r_redirect_61 ?_
      refine lv_aload_n hx hb d_r_redirect_64 rfl (lv_at hl 1 rfl) ?_
      refine zg_Mo_pathNode M hW (M.2.2.1 _ w_774) d_r_redirect_65 ?_
      obtain ⟨g18, hf⟩ := zg hf
      refine zr_7 M hW g18 d_r_redirect_68 ?_
      obtain ⟨g19, hf⟩ := zg hf
      refine zw_33 M hW hS g19 d_r_redirect_69 (fun H locs hW hS => ?_)
      obtain ⟨u11, g20, hf⟩ := ze1 hf
      have g20 := Option.some.inj g20
      rw [g20] at hW
      refine z_iconst hx hb d_r_redirect_70 ?_
      refine lv_istore (lv' := [(4, .int (zI 0)), (3, .int (zI ((2 * (rI u2 21)) + 1))), (0, .ref (ad (10, 0))), (1, .int (zI v1)), (2, .int (zI v2))]) hx hb d_r_redirect_71 hl (by decide) rfl (fun ls hl => ?_)
      exact C_73 F _ _ _ _ _ _ hf (lv_sub hl [2, 1, 0] rfl) hW hS
    refine z_if_lt hx hb d_r_redirect_29 rfl g17 (fun g17 => ?_) (fun g17 => ?_)
    · exact JT17 (Option.some.inj g17).symm _ _ hW hS
    · refine lv_aload_n hx hb d_r_redirect_32 rfl (lv_at hl 0 rfl) ?_
      refine zg_Mo_isDir M hW (M.2.2.1 _ w_736) d_r_redirect_33 ?_
      refine lv_aload_n hx hb d_r_redirect_36 rfl (lv_at hl 0 rfl) ?_
      refine zg_Mo_pathNode M hW (M.2.2.1 _ w_774) d_r_redirect_37 ?_
      obtain ⟨g21, g17⟩ := zg g17
      refine zr_4 M hW g21 d_r_redirect_40 ?_
      refine z_if_eq hx hb d_r_redirect_41 rfl g17 (fun g17 => ?_) (fun g17 => ?_)
      · exact JF17 (Option.some.inj g17).symm _ _ hW hS
      · exact JT17 (Option.some.inj g17).symm _ _ hW hS
set_option maxRecDepth 100000 in
set_option maxHeartbeats 4000000 in
theorem k_r_wordAs {l : Launch} {D : va_G} {B : Nat} {y : Nat → ClassId} {ad : Nat × Nat → Nat} {cu : ZC} (F : Nat) (u : ZR) (v1 : Int) {res : Int64} (hf : r_wordAs F u v1 = some res) : Met l y_r_wordAs (.code y_r_wordAs b_r_wordAs 2 (some .long) :: zt) { frames := 1, cells := 0, slots := 0, locals := 25 } (va_Pc [.ref (ad (10, 0)), .int (zI v1)] (fun U => ZP D B y ad true cu u U)) (va_Ql (fun v (_ : Unit) => v = res) (fun _ t => ZP D B y ad true cu u t) (fun x => B ≤ x)) 0 0 (fun x => B ≤ x) := by
  refine Met.ofW (cc := b_r_wordAs) (maxL := 2) (ret := (some .long)) (by decide) rfl ?_
  intro p e s m args below meth c s₁ Bd hml hv
  obtain ⟨hargs, hB, hW, hK⟩ := hv
  have hx := Bd.exec
  have hb := Bd.bytes
  have hr := Bd.returns
  have hts0 := atoms_spec (ws := .code y_r_wordAs b_r_wordAs 2 (some .long) :: zt) Bd.pre
  have hown : s.vm.findClass "TreeShellModel" = some m.cls := findClass_of_methodNamed Bd.named
  have hlocks := Bd.notSynchronized
  have M : ZM p c b_r_wordAs s args m "TreeShellModel" D y := ⟨hx, hb, fun w h => hts0 w (List.mem_cons_of_mem _ h), hown, hK⟩
  have hS : va_S (fun x => B ≤ x) s.heap s.heap [] := va_S.rf
  have hE := lg_entry_eq m ([.ref (ad (10, 0)), .int (zI v1)] : List Value) 2
  rw [← hargs] at hE
  rw [hE]
  have hl := lv_entry ([.ref (ad (10, 0)), .int (zI v1)] : List Value) (n := 2) (Nat.le_of_ble_eq_true rfl)
  generalize (lg_sl ([.ref (ad (10, 0)), .int (zI v1)] : List Value) ++ List.replicate (2 - (lg_sl ([.ref (ad (10, 0)), .int (zI v1)] : List Value)).length) Slot.unset).toArray = ls at hl ⊢
  have hl : lv_has ls 2 [(0, .ref (ad (10, 0))), (1, .int (zI v1))] := hl
  refine z_start (fun Q R hQ hR => ?_)
  generalize hH : s.heap = H at hW
  have hS : va_S (fun x => B ≤ x) s.heap H [] := by rw [← hH]; exact hS
  rw [r_wordAs] at hf
  refine lv_aload_n hx hb d_r_wordAs_0 rfl (lv_at hl 0 rfl) ?_
  refine lv_aload_n hx hb d_r_wordAs_1 rfl (lv_at hl 0 rfl) ?_
  refine zg_Mo_wordFrom M hW (M.2.2.1 _ w_749) d_r_wordAs_2 ?_
  refine lv_iload_n hx hb d_r_wordAs_5 rfl (lv_at hl 1 rfl) ?_
  obtain ⟨g1, hf⟩ := zg hf
  refine zr_17 M hW g1 d_r_wordAs_6 ?_
  refine lv_aload_n hx hb d_r_wordAs_7 rfl (lv_at hl 0 rfl) ?_
  refine zg_Mo_wordTo M hW (M.2.2.1 _ w_750) d_r_wordAs_8 ?_
  refine lv_iload_n hx hb d_r_wordAs_11 rfl (lv_at hl 1 rfl) ?_
  refine zr_18 M hW g1 d_r_wordAs_12 ?_
  obtain ⟨p1, g2, hf⟩ := ze1 hf
  refine z_callVl (As := [.int (zI (rA u 17 v1.toNat)), .int (zI (rA u 18 v1.toNat))]) (rest := []) (k_r_packed F _ _ _ g2) M hml (cw_r_packed M.2.2.1 (M.2.2.1 _ w_967) (by rw [hR]; exact Nat.le_of_ble_eq_true rfl) (by rw [hR]; exact Nat.le_of_ble_eq_true rfl)) (zv_Mo hK hW) hB hW hS rfl hl.1 rfl (Nat.le_of_ble_eq_true rfl) d_r_wordAs_13 (by rw [hR]; exact ⟨Nat.zero_le _, Nat.zero_le _⟩) (fun H locs hW hS => ?_)
  cases hf
  subst hQ
  exact z_retl hx hb hr hlocks hB hK hW hS d_r_wordAs_16
set_option maxRecDepth 100000 in
set_option maxHeartbeats 4000000 in
theorem k_r_emit {l : Launch} {D : va_G} {B : Nat} {y : Nat → ClassId} {ad : Nat × Nat → Nat} {cu : ZC} (F : Nat) (u : ZR) (v1 : Int) {uo : ZR} (hf : r_emit F u v1 = some uo) : Met l y_r_emit (.code y_r_emit b_r_emit 2 none :: zt) { frames := 0, cells := 0, slots := 0, locals := 0 } (va_Pc [.ref (ad (10, 0)), .int (zI v1)] (fun U => ZP D B y ad true cu u U)) (va_Qv (fun (_ : Unit) => True) (fun _ t => ZP D B y ad true cu uo t) (fun x => B ≤ x)) 0 0 (fun x => B ≤ x) := by
  refine Met.ofW (cc := b_r_emit) (maxL := 2) (ret := none) (by decide) rfl ?_
  intro p e s m args below meth c s₁ Bd hml hv
  obtain ⟨hargs, hB, hW, hK⟩ := hv
  have hx := Bd.exec
  have hb := Bd.bytes
  have hr := Bd.returns
  have hts0 := atoms_spec (ws := .code y_r_emit b_r_emit 2 none :: zt) Bd.pre
  have hown : s.vm.findClass "TreeShellModel" = some m.cls := findClass_of_methodNamed Bd.named
  have hlocks := Bd.notSynchronized
  have M : ZM p c b_r_emit s args m "TreeShellModel" D y := ⟨hx, hb, fun w h => hts0 w (List.mem_cons_of_mem _ h), hown, hK⟩
  have hS : va_S (fun x => B ≤ x) s.heap s.heap [] := va_S.rf
  have hE := lg_entry_eq m ([.ref (ad (10, 0)), .int (zI v1)] : List Value) 2
  rw [← hargs] at hE
  rw [hE]
  have hl := lv_entry ([.ref (ad (10, 0)), .int (zI v1)] : List Value) (n := 2) (Nat.le_of_ble_eq_true rfl)
  generalize (lg_sl ([.ref (ad (10, 0)), .int (zI v1)] : List Value) ++ List.replicate (2 - (lg_sl ([.ref (ad (10, 0)), .int (zI v1)] : List Value)).length) Slot.unset).toArray = ls at hl ⊢
  have hl : lv_has ls 2 [(0, .ref (ad (10, 0))), (1, .int (zI v1))] := hl
  refine z_start (fun Q R hQ hR => ?_)
  generalize hH : s.heap = H at hW
  have hS : va_S (fun x => B ≤ x) s.heap H [] := by rw [← hH]; exact hS
  rw [r_emit] at hf
  refine lv_aload_n hx hb d_r_emit_0 rfl (lv_at hl 0 rfl) ?_
  refine zg_Mo_textLength M hW (M.2.2.1 _ w_767) d_r_emit_1 ?_
  refine lv_aload_n hx hb d_r_emit_4 rfl (lv_at hl 0 rfl) ?_
  refine zg_Mo_pipeLimit M hW (M.2.2.1 _ w_734) d_r_emit_5 ?_
  obtain ⟨u2, g1, hf⟩ := ze1 hf
  have J1 : ∀ (H : Heap) (locs : List Loc) (ls : Array Slot), lv_has ls 2 [] → ZW D B y ad true cu u2 H → va_S (fun x => B ≤ x) s.heap H locs → W p l e R s m args below meth c H locs 0 0 Q (F0 m 39 ls []) := by
    intro H locs ls hl hW hS
    cases hf
    subst hQ
    exact z_retv hx hb hr hlocks hB hK hW hS d_r_emit_39
  refine z_icmp_lt hx hb d_r_emit_8 rfl g1 (fun g1 => ?_) (fun g1 => ?_)
  · refine lv_aload_n hx hb d_r_emit_19 rfl (lv_at hl 0 rfl) ?_
    refine zg_Mo_text M hW (M.2.2.1 _ w_766) d_r_emit_20 ?_
    refine lv_aload_n hx hb d_r_emit_23 rfl (lv_at hl 0 rfl) ?_
    refine zg_Mo_textLength M hW (M.2.2.1 _ w_767) d_r_emit_24 ?_
    refine lv_iload_n hx hb d_r_emit_27 rfl (lv_at hl 1 rfl) ?_
    obtain ⟨g2, g1⟩ := zg g1
    refine zw_34 M hW hS g2 d_r_emit_28 (fun H locs hW hS => ?_)
    refine lv_aload_n hx hb d_r_emit_29 rfl (lv_at hl 0 rfl) ?_
    refine lv_dup hx hb d_r_emit_30 rfl ?_
    refine zg_Mo_textLength M hW (M.2.2.1 _ w_767) d_r_emit_31 ?_
    refine z_iconst hx hb d_r_emit_34 ?_
    refine z_iadd hx hb d_r_emit_35 ?_
    refine zp_Mo_textLength M hW hS (M.2.2.1 _ w_767) d_r_emit_36 (fun H locs hW hS => ?_)
    obtain ⟨u1, g3, g1⟩ := ze1 g1
    have g3 := Option.some.inj g3
    rw [g3] at hW
    cases g1
    exact J1 _ _ _ (lv_sub hl [] rfl) hW hS
  · refine lv_aload_n hx hb d_r_emit_11 rfl (lv_at hl 0 rfl) ?_
    refine z_iconst hx hb d_r_emit_12 ?_
    refine zp_Mo_spilt M hW hS (Or.inr rfl) (M.2.2.1 _ w_768) d_r_emit_13 (fun H locs hW hS => ?_)
    refine lv_goto hx hb d_r_emit_16 rfl ?_
    cases g1
    exact J1 _ _ _ (lv_sub hl [] rfl) hW hS
set_option maxRecDepth 100000 in
set_option maxHeartbeats 4000000 in
theorem k_r_echo {l : Launch} {D : va_G} {B : Nat} {y : Nat → ClassId} {ad : Nat × Nat → Nat} {cu : ZC} (F : Nat) (u : ZR) {res : Int} {uo : ZR} (hf : r_echo F u = some (res, uo)) : Met l y_r_echo (.code y_r_echo b_r_echo 5 (some .int) :: zt) { frames := 2, cells := 0, slots := 0, locals := 46 } (va_Pc [.ref (ad (10, 0))] (fun U => ZP D B y ad true cu u U)) (va_Qi (fun v (_ : Unit) => v = zI res) (fun _ t => ZP D B y ad true cu uo t) (fun x => B ≤ x)) 0 0 (fun x => B ≤ x) := by
  refine Met.ofW (cc := b_r_echo) (maxL := 5) (ret := (some .int)) (by decide) rfl ?_
  intro p e s m args below meth c s₁ Bd hml hv
  obtain ⟨hargs, hB, hW, hK⟩ := hv
  have hx := Bd.exec
  have hb := Bd.bytes
  have hr := Bd.returns
  have hts0 := atoms_spec (ws := .code y_r_echo b_r_echo 5 (some .int) :: zt) Bd.pre
  have hown : s.vm.findClass "TreeShellModel" = some m.cls := findClass_of_methodNamed Bd.named
  have hlocks := Bd.notSynchronized
  have M : ZM p c b_r_echo s args m "TreeShellModel" D y := ⟨hx, hb, fun w h => hts0 w (List.mem_cons_of_mem _ h), hown, hK⟩
  have hS : va_S (fun x => B ≤ x) s.heap s.heap [] := va_S.rf
  have hE := lg_entry_eq m ([.ref (ad (10, 0))] : List Value) 5
  rw [← hargs] at hE
  rw [hE]
  have hl := lv_entry ([.ref (ad (10, 0))] : List Value) (n := 5) (Nat.le_of_ble_eq_true rfl)
  generalize (lg_sl ([.ref (ad (10, 0))] : List Value) ++ List.replicate (5 - (lg_sl ([.ref (ad (10, 0))] : List Value)).length) Slot.unset).toArray = ls at hl ⊢
  have hl : lv_has ls 5 [(0, .ref (ad (10, 0)))] := hl
  refine z_start (fun Q R hQ hR => ?_)
  generalize hH : s.heap = H at hW
  have hS : va_S (fun x => B ≤ x) s.heap H [] := by rw [← hH]; exact hS
  have C_65 : ∀ (k38 : ZR → Int → Int → Int → Option (Int × ZR)) (hk38 : ∀ (u : ZR) (v1 : Int) (v2 : Int) (v3 : Int) (H : Heap) (locs : List Loc) (ls : Array Slot), k38 u v1 v2 v3 = some (res, uo) → lv_has ls 5 [(0, .ref (ad (10, 0))), (1, .int (zI v1)), (2, .int (zI v2)), (3, .int (zI v3))] → ZW D B y ad true cu u H → va_S (fun x => B ≤ x) s.heap H locs → W p l e R s m args below meth c H locs 0 0 Q (F0 m 38 ls [])) , ∀ (n : Nat), ∀ (u : ZR) (v1 : Int) (v2 : Int) (v3 : Int) (v4 : Int) (H : Heap) (locs : List Loc) (ls : Array Slot), r_echo_65 F k38 n u v1 v2 v3 v4 = some (res, uo) → lv_has ls 5 [(0, .ref (ad (10, 0))), (1, .int (zI v1)), (2, .int (zI v2)), (3, .int (zI v3)), (4, .int (zI v4))] → ZW D B y ad true cu u H → va_S (fun x => B ≤ x) s.heap H locs → W p l e R s m args below meth c H locs 0 0 Q (F0 m 65 ls []) := by
    intro k38 hk38 n
    induction n with
    | zero => intro u v1 v2 v3 v4 H locs ls hf; cases (show (none : Option (Int × ZR)) = some (res, uo) from hf)
    | succ n ih =>
      intro u v1 v2 v3 v4 H locs ls hf hl hW hS
      rw [r_echo_65] at hf
      refine lv_iload hx hb d_r_echo_65 (lv_at hl 4 rfl) ?_
      refine lv_aload_n hx hb d_r_echo_67 rfl (lv_at hl 0 rfl) ?_
      refine zg_Mo_wordTo M hW (M.2.2.1 _ w_750) d_r_echo_68 ?_
      refine lv_iload_n hx hb d_r_echo_71 rfl (lv_at hl 3 rfl) ?_
      obtain ⟨g1, hf⟩ := zg hf
      refine zr_18 M hW g1 d_r_echo_72 ?_
      refine z_icmp_ge hx hb d_r_echo_73 rfl hf (fun hf => ?_) (fun hf => ?_)
      · refine lv_iinc (k := 3) (v := zI (v3 + 1)) (lv' := [(3, .int (zI (v3 + 1))), (0, .ref (ad (10, 0))), (1, .int (zI v1)), (2, .int (zI v2)), (4, .int (zI v4))]) hx hb d_r_echo_93 hl rfl (zI_add _ _) (by decide) rfl (fun ls hl => ?_)
        refine lv_goto hx hb d_r_echo_96 rfl ?_
        exact hk38 _ _ _ _ _ _ _ hf (lv_sub hl [1, 2, 3, 0] rfl) hW hS
      · refine lv_aload_n hx hb d_r_echo_76 rfl (lv_at hl 0 rfl) ?_
        refine lv_aload_n hx hb d_r_echo_77 rfl (lv_at hl 0 rfl) ?_
        refine zg_Mo_wordChar M hW (M.2.2.1 _ w_752) d_r_echo_78 ?_
        refine lv_iload hx hb d_r_echo_81 (lv_at hl 4 rfl) ?_
        obtain ⟨g2, hf⟩ := zg hf
        refine zr_20 M hW g2 d_r_echo_83 ?_
        obtain ⟨u9, g3, hf⟩ := ze1 hf
        refine z_callVv (As := [.int (zI (rA u 20 v4.toNat))]) (rest := []) (k_r_emit F _ _ g3) M hml (cw_r_emit M.2.2.1 (M.2.2.1 _ w_1002) (by rw [hR]; exact Nat.le_of_ble_eq_true rfl) (by rw [hR]; exact Nat.le_of_ble_eq_true rfl)) (zv_Mo hK hW) hB hW hS rfl hl.1 rfl (Nat.le_of_ble_eq_true rfl) d_r_echo_84 (by rw [hR]; exact ⟨Nat.zero_le _, Nat.zero_le _⟩) (fun H locs hW hS => ?_)
        refine lv_iinc (k := 4) (v := zI (v4 + 1)) (lv' := [(4, .int (zI (v4 + 1))), (0, .ref (ad (10, 0))), (1, .int (zI v1)), (2, .int (zI v2)), (3, .int (zI v3))]) hx hb d_r_echo_87 hl rfl (zI_add _ _) (by decide) rfl (fun ls hl => ?_)
        refine lv_goto hx hb d_r_echo_90 rfl ?_
        exact ih _ _ _ _ _ _ _ _ hf (lv_sub hl [1, 2, 3, 4, 0] rfl) hW hS
  have C_38 : ∀ (n : Nat), ∀ (u : ZR) (v1 : Int) (v2 : Int) (v3 : Int) (H : Heap) (locs : List Loc) (ls : Array Slot), r_echo_38 F n u v1 v2 v3 = some (res, uo) → lv_has ls 5 [(0, .ref (ad (10, 0))), (1, .int (zI v1)), (2, .int (zI v2)), (3, .int (zI v3))] → ZW D B y ad true cu u H → va_S (fun x => B ≤ x) s.heap H locs → W p l e R s m args below meth c H locs 0 0 Q (F0 m 38 ls []) := by
    intro n
    induction n with
    | zero => intro u v1 v2 v3 H locs ls hf; cases (show (none : Option (Int × ZR)) = some (res, uo) from hf)
    | succ n ih =>
      intro u v1 v2 v3 H locs ls hf hl hW hS
      rw [r_echo_38] at hf
      refine lv_iload_n hx hb d_r_echo_38 rfl (lv_at hl 3 rfl) ?_
      refine lv_aload_n hx hb d_r_echo_39 rfl (lv_at hl 0 rfl) ?_
      refine zg_Mo_words M hW (M.2.2.1 _ w_748) d_r_echo_40 ?_
      refine z_icmp_ge hx hb d_r_echo_43 rfl hf (fun hf => ?_) (fun hf => ?_)
      · refine lv_iload_n hx hb d_r_echo_99 rfl (lv_at hl 1 rfl) ?_
        obtain ⟨u6, g4, hf⟩ := ze1 hf
        have J4 : ∀ (H : Heap) (locs : List Loc) (ls : Array Slot), lv_has ls 5 [] → ZW D B y ad true cu u6 H → va_S (fun x => B ≤ x) s.heap H locs → W p l e R s m args below meth c H locs 0 0 Q (F0 m 109 ls []) := by
          intro H locs ls hl hW hS
          refine z_iconst hx hb d_r_echo_109 ?_
          cases hf
          subst hQ
          exact z_reti hx hb hr hlocks hB hK hW hS d_r_echo_110
        refine z_if_ne hx hb d_r_echo_100 rfl g4 (fun g4 => ?_) (fun g4 => ?_)
        · cases g4
          exact J4 _ _ _ (lv_sub hl [] rfl) hW hS
        · refine lv_aload_n hx hb d_r_echo_103 rfl (lv_at hl 0 rfl) ?_
          refine z_bipush hx hb d_r_echo_104 rfl ?_
          obtain ⟨u5, g5, g4⟩ := ze1 g4
          refine z_callVv (As := [.int (zI 10)]) (rest := []) (k_r_emit F _ _ g5) M hml (cw_r_emit M.2.2.1 (M.2.2.1 _ w_1002) (by rw [hR]; exact Nat.le_of_ble_eq_true rfl) (by rw [hR]; exact Nat.le_of_ble_eq_true rfl)) (zv_Mo hK hW) hB hW hS rfl hl.1 rfl (Nat.le_of_ble_eq_true rfl) d_r_echo_106 (by rw [hR]; exact ⟨Nat.zero_le _, Nat.zero_le _⟩) (fun H locs hW hS => ?_)
          cases g4
          exact J4 _ _ _ (lv_sub hl [] rfl) hW hS
      · refine lv_iload_n hx hb d_r_echo_46 rfl (lv_at hl 3 rfl) ?_
        refine lv_iload_n hx hb d_r_echo_47 rfl (lv_at hl 2 rfl) ?_
        obtain ⟨u8, g6, hf⟩ := ze1 hf
        have J6 : ∀ (H : Heap) (locs : List Loc) (ls : Array Slot), lv_has ls 5 [(0, .ref (ad (10, 0))), (1, .int (zI v1)), (2, .int (zI v2)), (3, .int (zI v3))] → ZW D B y ad true cu u8 H → va_S (fun x => B ≤ x) s.heap H locs → W p l e R s m args below meth c H locs 0 0 Q (F0 m 57 ls []) := by
          intro H locs ls hl hW hS
          refine lv_aload_n hx hb d_r_echo_57 rfl (lv_at hl 0 rfl) ?_
          refine zg_Mo_wordFrom M hW (M.2.2.1 _ w_749) d_r_echo_58 ?_
          refine lv_iload_n hx hb d_r_echo_61 rfl (lv_at hl 3 rfl) ?_
          obtain ⟨g7, hf⟩ := zg hf
          refine zr_17 M hW g7 d_r_echo_62 ?_
          refine lv_istore (lv' := [(4, .int (zI (rA u8 17 v3.toNat))), (0, .ref (ad (10, 0))), (1, .int (zI v1)), (2, .int (zI v2)), (3, .int (zI v3))]) hx hb d_r_echo_63 hl (by decide) rfl (fun ls hl => ?_)
          exact C_65 _ ih F _ _ _ _ _ _ _ _ hf (lv_sub hl [1, 2, 3, 4, 0] rfl) hW hS
        refine z_icmp_le hx hb d_r_echo_48 rfl g6 (fun g6 => ?_) (fun g6 => ?_)
        · cases g6
          exact J6 _ _ _ (lv_sub hl [0, 1, 2, 3] rfl) hW hS
        · refine lv_aload_n hx hb d_r_echo_51 rfl (lv_at hl 0 rfl) ?_
          refine z_bipush hx hb d_r_echo_52 rfl ?_
          obtain ⟨u7, g8, g6⟩ := ze1 g6
          refine z_callVv (As := [.int (zI 32)]) (rest := []) (k_r_emit F _ _ g8) M hml (cw_r_emit M.2.2.1 (M.2.2.1 _ w_1002) (by rw [hR]; exact Nat.le_of_ble_eq_true rfl) (by rw [hR]; exact Nat.le_of_ble_eq_true rfl)) (zv_Mo hK hW) hB hW hS rfl hl.1 rfl (Nat.le_of_ble_eq_true rfl) d_r_echo_54 (by rw [hR]; exact ⟨Nat.zero_le _, Nat.zero_le _⟩) (fun H locs hW hS => ?_)
          cases g6
          exact J6 _ _ _ (lv_sub hl [0, 1, 2, 3] rfl) hW hS
  rw [r_echo] at hf
  refine lv_aload_n hx hb d_r_echo_0 rfl (lv_at hl 0 rfl) ?_
  refine zg_Mo_words M hW (M.2.2.1 _ w_748) d_r_echo_1 ?_
  refine z_iconst hx hb d_r_echo_4 ?_
  obtain ⟨x3, g9, hf⟩ := ze1 hf
  have J9 : ∀ (H : Heap) (locs : List Loc) (ls : Array Slot), lv_has ls 5 [(0, .ref (ad (10, 0)))] → ZW D B y ad true cu u H → va_S (fun x => B ≤ x) s.heap H locs → W p l e R s m args below meth c H locs 0 0 Q (F0 m 25 ls [.int (zI x3)]) := by
    intro H locs ls hl hW hS
    refine lv_istore_n (lv' := [(1, .int (zI x3)), (0, .ref (ad (10, 0)))]) hx hb d_r_echo_25 rfl hl (by decide) rfl (fun ls hl => ?_)
    refine lv_iload_n hx hb d_r_echo_26 rfl (lv_at hl 0 rfl) ?_
    obtain ⟨x4, g10, hf⟩ := ze1 hf
    have J10 : ∀ (H : Heap) (locs : List Loc) (ls : Array Slot), lv_has ls 5 [(0, .ref (ad (10, 0))), (1, .int (zI x3))] → ZW D B y ad true cu u H → va_S (fun x => B ≤ x) s.heap H locs → W p l e R s m args below meth c H locs 0 0 Q (F0 m 35 ls [.int (zI x4)]) := by
      intro H locs ls hl hW hS
      refine lv_istore_n (lv' := [(2, .int (zI x4)), (0, .ref (ad (10, 0))), (1, .int (zI x3))]) hx hb d_r_echo_35 rfl hl (by decide) rfl (fun ls hl => ?_)
      refine lv_iload_n hx hb d_r_echo_36 rfl (lv_at hl 0 rfl) ?_
      refine lv_istore_n (lv' := [(3, .int (zI x4)), (2, .int (zI x4)), (0, .ref (ad (10, 0))), (1, .int (zI x3))]) hx hb d_r_echo_37 rfl hl (by decide) rfl (fun ls hl => ?_)
      exact C_38 F _ _ _ _ _ _ _ hf (lv_sub hl [2, 3, 1, 0] rfl) hW hS
    refine z_if_eq hx hb d_r_echo_27 rfl g10 (fun g10 => ?_) (fun g10 => ?_)
    · refine z_iconst hx hb d_r_echo_34 ?_
      cases g10
      exact J10 _ _ _ (lv_sub hl [1, 0] rfl) hW hS
    · refine z_iconst hx hb d_r_echo_30 ?_
      refine lv_goto hx hb d_r_echo_31 rfl ?_
      cases g10
      exact J10 _ _ _ (lv_sub hl [1, 0] rfl) hW hS
  obtain ⟨b2, g11, g9⟩ := ze1 g9
  have JT11 : b2 = true → ∀ (H : Heap) (locs : List Loc), ZW D B y ad true cu u H → va_S (fun x => B ≤ x) s.heap H locs → W p l e R s m args below meth c H locs 0 0 Q (F0 m 24 ls []) := by
    intro hv H locs hW hS
    have g9 := zp (hv) g9
    refine z_iconst hx hb d_r_echo_24 ?_
    cases g9
    exact J9 _ _ _ (lv_sub hl [0] rfl) hW hS
  have JF11 : b2 = false → ∀ (H : Heap) (locs : List Loc), ZW D B y ad true cu u H → va_S (fun x => B ≤ x) s.heap H locs → W p l e R s m args below meth c H locs 0 0 Q (F0 m 20 ls []) := by
    intro hv H locs hW hS
    have g9 := zn (by rw [hv]; decide) g9
    refine z_iconst hx hb d_r_echo_20 ?_
    refine lv_goto hx hb d_r_echo_21 rfl ?_
    cases g9
    exact J9 _ _ _ (lv_sub hl [0] rfl) hW hS
  refine z_icmp_le hx hb d_r_echo_5 rfl g11 (fun g11 => ?_) (fun g11 => ?_)
  · exact JT11 (Option.some.inj g11).symm _ _ hW hS
  · refine lv_aload_n hx hb d_r_echo_8 rfl (lv_at hl 0 rfl) ?_
    refine z_iconst hx hb d_r_echo_9 ?_
    obtain ⟨p1, g12, g11⟩ := ze1 g11
    refine z_callVl (As := [.int (zI 1)]) (rest := []) (k_r_wordAs F _ _ g12) M hml (cw_r_wordAs M.2.2.1 (M.2.2.1 _ w_992) (by rw [hR]; exact Nat.le_of_ble_eq_true rfl) (by rw [hR]; exact Nat.le_of_ble_eq_true rfl)) (zv_Mo hK hW) hB hW hS rfl hl.1 rfl (Nat.le_of_ble_eq_true rfl) d_r_echo_10 (by rw [hR]; exact ⟨Nat.zero_le _, Nat.zero_le _⟩) (fun H locs hW hS => ?_)
    refine lv_ldc2 hx hb hown (M.2.2.1 _ w_1001) d_r_echo_13 ?_
    refine W.lcmp hx hb d_r_echo_16 ?_
    refine z_lif_ne hx hb d_r_echo_17 rfl g11 (fun g11 => ?_) (fun g11 => ?_)
    · exact JT11 (Option.some.inj g11).symm _ _ hW hS
    · exact JF11 (Option.some.inj g11).symm _ _ hW hS
set_option maxRecDepth 100000 in
set_option maxHeartbeats 4000000 in
theorem k_r_reads {l : Launch} {D : va_G} {B : Nat} {y : Nat → ClassId} {ad : Nat × Nat → Nat} {cu : ZC} (F : Nat) (u : ZR) (v1 : Int) {res : Int} {uo : ZR} (hf : r_reads F u v1 = some (res, uo)) : Met l y_r_reads (.code y_r_reads b_r_reads 5 (some .boolean) :: zt) { frames := 3, cells := 0, slots := 0, locals := 73 } (va_Pc [.ref (ad (10, 0)), .int (zI v1)] (fun U => ZP D B y ad true cu u U)) (va_Qi (fun v (_ : Unit) => v = zI res) (fun _ t => ZP D B y ad true cu uo t) (fun x => B ≤ x)) 0 0 (fun x => B ≤ x) := by
  refine Met.ofW (cc := b_r_reads) (maxL := 5) (ret := (some .boolean)) (by decide) rfl ?_
  intro p e s m args below meth c s₁ Bd hml hv
  obtain ⟨hargs, hB, hW, hK⟩ := hv
  have hx := Bd.exec
  have hb := Bd.bytes
  have hr := Bd.returns
  have hts0 := atoms_spec (ws := .code y_r_reads b_r_reads 5 (some .boolean) :: zt) Bd.pre
  have hown : s.vm.findClass "TreeShellModel" = some m.cls := findClass_of_methodNamed Bd.named
  have hlocks := Bd.notSynchronized
  have M : ZM p c b_r_reads s args m "TreeShellModel" D y := ⟨hx, hb, fun w h => hts0 w (List.mem_cons_of_mem _ h), hown, hK⟩
  have hS : va_S (fun x => B ≤ x) s.heap s.heap [] := va_S.rf
  have hE := lg_entry_eq m ([.ref (ad (10, 0)), .int (zI v1)] : List Value) 5
  rw [← hargs] at hE
  rw [hE]
  have hl := lv_entry ([.ref (ad (10, 0)), .int (zI v1)] : List Value) (n := 5) (Nat.le_of_ble_eq_true rfl)
  generalize (lg_sl ([.ref (ad (10, 0)), .int (zI v1)] : List Value) ++ List.replicate (5 - (lg_sl ([.ref (ad (10, 0)), .int (zI v1)] : List Value)).length) Slot.unset).toArray = ls at hl ⊢
  have hl : lv_has ls 5 [(0, .ref (ad (10, 0))), (1, .int (zI v1))] := hl
  refine z_start (fun Q R hQ hR => ?_)
  generalize hH : s.heap = H at hW
  have hS : va_S (fun x => B ≤ x) s.heap H [] := by rw [← hH]; exact hS
  have C_174 : ∀ (n : Nat), ∀ (u : ZR) (v2 : Int) (v3 : Int) (H : Heap) (locs : List Loc) (ls : Array Slot), r_reads_174 F n u v2 v3 = some (res, uo) → lv_has ls 5 [(0, .ref (ad (10, 0))), (2, .int (zI v2)), (3, .int (zI v3))] → ZW D B y ad true cu u H → va_S (fun x => B ≤ x) s.heap H locs → W p l e R s m args below meth c H locs 0 0 Q (F0 m 174 ls []) := by
    intro n
    induction n with
    | zero => intro u v2 v3 H locs ls hf; cases (show (none : Option (Int × ZR)) = some (res, uo) from hf)
    | succ n ih =>
      intro u v2 v3 H locs ls hf hl hW hS
      rw [r_reads_174] at hf
      refine lv_iload_n hx hb d_r_reads_174 rfl (lv_at hl 2 rfl) ?_
      refine lv_aload_n hx hb d_r_reads_175 rfl (lv_at hl 0 rfl) ?_
      refine zg_Mo_sourceLength M hW (M.2.2.1 _ w_770) d_r_reads_176 ?_
      refine z_icmp_gt hx hb d_r_reads_179 rfl hf (fun hf => ?_) (fun hf => ?_)
      · refine z_iconst hx hb d_r_reads_266 ?_
        cases hf
        subst hQ
        exact z_retz hx hb (Or.inr rfl) hr hlocks hB hK hW hS d_r_reads_267
      · refine lv_iload_n hx hb d_r_reads_182 rfl (lv_at hl 2 rfl) ?_
        refine lv_aload_n hx hb d_r_reads_183 rfl (lv_at hl 0 rfl) ?_
        refine zg_Mo_sourceLength M hW (M.2.2.1 _ w_770) d_r_reads_184 ?_
        obtain ⟨x4, g1, hf⟩ := ze1 hf
        have J1 : ∀ (H : Heap) (locs : List Loc) (ls : Array Slot), lv_has ls 5 [(0, .ref (ad (10, 0))), (2, .int (zI v2)), (3, .int (zI v3))] → ZW D B y ad true cu u H → va_S (fun x => B ≤ x) s.heap H locs → W p l e R s m args below meth c H locs 0 0 Q (F0 m 219 ls [.int (zI x4)]) := by
          intro H locs ls hl hW hS
          refine lv_istore (lv' := [(4, .int (zI x4)), (0, .ref (ad (10, 0))), (2, .int (zI v2)), (3, .int (zI v3))]) hx hb d_r_reads_219 hl (by decide) rfl (fun ls hl => ?_)
          refine lv_iload hx hb d_r_reads_221 (lv_at hl 0 rfl) ?_
          obtain ⟨x6, u7, g2, hf⟩ := ze2 hf
          have J2 : ∀ (H : Heap) (locs : List Loc) (ls : Array Slot), lv_has ls 5 [(0, .ref (ad (10, 0))), (2, .int (zI x6)), (3, .int (zI v3))] → ZW D B y ad true cu u7 H → va_S (fun x => B ≤ x) s.heap H locs → W p l e R s m args below meth c H locs 0 0 Q (F0 m 260 ls []) := by
            intro H locs ls hl hW hS
            refine lv_iinc (k := 2) (v := zI (v3 + 1)) (lv' := [(3, .int (zI (v3 + 1))), (0, .ref (ad (10, 0))), (2, .int (zI x6))]) hx hb d_r_reads_260 hl rfl (zI_add _ _) (by decide) rfl (fun ls hl => ?_)
            refine lv_goto hx hb d_r_reads_263 rfl ?_
            exact ih _ _ _ _ _ _ hf (lv_sub hl [1, 2, 0] rfl) hW hS
          refine z_if_eq hx hb d_r_reads_223 rfl g2 (fun g2 => ?_) (fun g2 => ?_)
          · cases g2
            exact J2 _ _ _ (lv_sub hl [1, 2, 3] rfl) hW hS
          · refine lv_aload_n hx hb d_r_reads_226 rfl (lv_at hl 1 rfl) ?_
            refine zg_Mo_lineFrom M hW (M.2.2.1 _ w_772) d_r_reads_227 ?_
            refine lv_aload_n hx hb d_r_reads_230 rfl (lv_at hl 1 rfl) ?_
            refine zg_Mo_lines M hW (M.2.2.1 _ w_771) d_r_reads_231 ?_
            refine lv_iload_n hx hb d_r_reads_234 rfl (lv_at hl 2 rfl) ?_
            obtain ⟨g3, g2⟩ := zg g2
            refine zw_40 M hW hS g3 d_r_reads_235 (fun H locs hW hS => ?_)
            refine lv_aload_n hx hb d_r_reads_236 rfl (lv_at hl 1 rfl) ?_
            refine zg_Mo_lineTo M hW (M.2.2.1 _ w_773) d_r_reads_237 ?_
            refine lv_aload_n hx hb d_r_reads_240 rfl (lv_at hl 1 rfl) ?_
            refine zg_Mo_lines M hW (M.2.2.1 _ w_771) d_r_reads_241 ?_
            refine lv_iload_n hx hb d_r_reads_244 rfl (lv_at hl 3 rfl) ?_
            obtain ⟨g4, g2⟩ := zg g2
            refine zw_41 M hW hS g4 d_r_reads_245 (fun H locs hW hS => ?_)
            obtain ⟨u5, g5, g2⟩ := ze1 g2
            have g5 := Option.some.inj g5
            rw [g5] at hW
            refine lv_aload_n hx hb d_r_reads_246 rfl (lv_at hl 1 rfl) ?_
            refine lv_dup hx hb d_r_reads_247 rfl ?_
            refine zg_Mo_lines M hW (M.2.2.1 _ w_771) d_r_reads_248 ?_
            refine z_iconst hx hb d_r_reads_251 ?_
            refine z_iadd hx hb d_r_reads_252 ?_
            refine zp_Mo_lines M hW hS (M.2.2.1 _ w_771) d_r_reads_253 (fun H locs hW hS => ?_)
            refine lv_iload_n hx hb d_r_reads_256 rfl (lv_at hl 3 rfl) ?_
            refine z_iconst hx hb d_r_reads_257 ?_
            refine z_iadd hx hb d_r_reads_258 ?_
            refine lv_istore_n (lv' := [(2, .int (zI (v3 + 1))), (4, .int (zI x4)), (0, .ref (ad (10, 0))), (3, .int (zI v3))]) hx hb d_r_reads_259 rfl hl (by decide) rfl (fun ls hl => ?_)
            cases g2
            exact J2 _ _ _ (lv_sub hl [2, 0, 3] rfl) hW hS
        refine z_icmp_ge hx hb d_r_reads_187 rfl g1 (fun g1 => ?_) (fun g1 => ?_)
        · refine lv_iload_n hx hb d_r_reads_209 rfl (lv_at hl 1 rfl) ?_
          refine lv_iload_n hx hb d_r_reads_210 rfl (lv_at hl 2 rfl) ?_
          refine z_icmp_ge hx hb d_r_reads_211 rfl g1 (fun g1 => ?_) (fun g1 => ?_)
          · refine z_iconst hx hb d_r_reads_218 ?_
            cases g1
            exact J1 _ _ _ (lv_sub hl [0, 1, 2] rfl) hW hS
          · refine z_iconst hx hb d_r_reads_214 ?_
            refine lv_goto hx hb d_r_reads_215 rfl ?_
            cases g1
            exact J1 _ _ _ (lv_sub hl [0, 1, 2] rfl) hW hS
        · refine lv_aload_n hx hb d_r_reads_190 rfl (lv_at hl 0 rfl) ?_
          refine zg_Mo_source M hW (M.2.2.1 _ w_769) d_r_reads_191 ?_
          refine lv_iload_n hx hb d_r_reads_194 rfl (lv_at hl 2 rfl) ?_
          obtain ⟨g6, g1⟩ := zg g1
          refine zr_37 M hW g6 d_r_reads_195 ?_
          refine z_bipush hx hb d_r_reads_196 rfl ?_
          refine z_icmp_ne hx hb d_r_reads_198 rfl g1 (fun g1 => ?_) (fun g1 => ?_)
          · refine z_iconst hx hb d_r_reads_205 ?_
            refine lv_goto hx hb d_r_reads_206 rfl ?_
            cases g1
            exact J1 _ _ _ (lv_sub hl [0, 1, 2] rfl) hW hS
          · refine z_iconst hx hb d_r_reads_201 ?_
            refine lv_goto hx hb d_r_reads_202 rfl ?_
            cases g1
            exact J1 _ _ _ (lv_sub hl [0, 1, 2] rfl) hW hS
  have C_126 : ∀ (n : Nat), ∀ (u : ZR) (v2 : Int) (v3 : Int) (H : Heap) (locs : List Loc) (ls : Array Slot), r_reads_126 F n u v2 v3 = some (res, uo) → lv_has ls 5 [(0, .ref (ad (10, 0))), (2, .int (zI v2)), (3, .int (zI v3))] → ZW D B y ad true cu u H → va_S (fun x => B ≤ x) s.heap H locs → W p l e R s m args below meth c H locs 0 0 Q (F0 m 126 ls []) := by
    intro n
    induction n with
    | zero => intro u v2 v3 H locs ls hf; cases (show (none : Option (Int × ZR)) = some (res, uo) from hf)
    | succ n ih =>
      intro u v2 v3 H locs ls hf hl hW hS
      rw [r_reads_126] at hf
      refine lv_iload_n hx hb d_r_reads_126 rfl (lv_at hl 2 rfl) ?_
      refine lv_aload_n hx hb d_r_reads_127 rfl (lv_at hl 0 rfl) ?_
      refine zg_Mo_sourceLength M hW (M.2.2.1 _ w_770) d_r_reads_128 ?_
      refine z_icmp_ge hx hb d_r_reads_131 rfl hf (fun hf => ?_) (fun hf => ?_)
      · refine lv_aload_n hx hb d_r_reads_158 rfl (lv_at hl 0 rfl) ?_
        refine zg_Mo_inputLength M hW (M.2.2.1 _ w_765) d_r_reads_159 ?_
        refine lv_iload_n hx hb d_r_reads_162 rfl (lv_at hl 1 rfl) ?_
        refine z_iconst hx hb d_r_reads_163 ?_
        obtain ⟨g7, hf⟩ := zg hf
        refine zw_33 M hW hS g7 d_r_reads_164 (fun H locs hW hS => ?_)
        refine lv_aload_n hx hb d_r_reads_165 rfl (lv_at hl 0 rfl) ?_
        refine z_iconst hx hb d_r_reads_166 ?_
        refine zp_Mo_lines M hW hS (M.2.2.1 _ w_771) d_r_reads_167 (fun H locs hW hS => ?_)
        refine z_iconst hx hb d_r_reads_170 ?_
        refine lv_istore_n (lv' := [(2, .int (zI 0)), (0, .ref (ad (10, 0))), (3, .int (zI v3))]) hx hb d_r_reads_171 rfl hl (by decide) rfl (fun ls hl => ?_)
        refine z_iconst hx hb d_r_reads_172 ?_
        refine lv_istore_n (lv' := [(3, .int (zI 0)), (2, .int (zI 0)), (0, .ref (ad (10, 0)))]) hx hb d_r_reads_173 rfl hl (by decide) rfl (fun ls hl => ?_)
        exact C_174 F _ _ _ _ _ _ hf (lv_sub hl [2, 1, 0] rfl) hW hS
      · refine lv_aload_n hx hb d_r_reads_134 rfl (lv_at hl 0 rfl) ?_
        refine zg_Mo_source M hW (M.2.2.1 _ w_769) d_r_reads_135 ?_
        refine lv_iload_n hx hb d_r_reads_138 rfl (lv_at hl 2 rfl) ?_
        refine lv_aload_n hx hb d_r_reads_139 rfl (lv_at hl 0 rfl) ?_
        refine zg_Mo_input M hW (M.2.2.1 _ w_764) d_r_reads_140 ?_
        refine z_sipush hx hb d_r_reads_143 rfl ?_
        refine lv_iload_n hx hb d_r_reads_146 rfl (lv_at hl 1 rfl) ?_
        refine z_imul hx hb d_r_reads_147 ?_
        refine lv_iload_n hx hb d_r_reads_148 rfl (lv_at hl 2 rfl) ?_
        refine z_iadd hx hb d_r_reads_149 ?_
        obtain ⟨g8, hf⟩ := zg hf
        refine zr_32 M hW g8 d_r_reads_150 ?_
        obtain ⟨g9, hf⟩ := zg hf
        refine zw_37 M hW hS g9 d_r_reads_151 (fun H locs hW hS => ?_)
        obtain ⟨u8, g10, hf⟩ := ze1 hf
        have g10 := Option.some.inj g10
        rw [g10] at hW
        refine lv_iinc (k := 2) (v := zI (v3 + 1)) (lv' := [(3, .int (zI (v3 + 1))), (0, .ref (ad (10, 0))), (2, .int (zI v2))]) hx hb d_r_reads_152 hl rfl (zI_add _ _) (by decide) rfl (fun ls hl => ?_)
        refine lv_goto hx hb d_r_reads_155 rfl ?_
        exact ih _ _ _ _ _ _ hf (lv_sub hl [1, 2, 0] rfl) hW hS
  have C_54 : ∀ (n : Nat), ∀ (u : ZR) (v2 : Int) (H : Heap) (locs : List Loc) (ls : Array Slot), r_reads_54 F n u v2 = some (res, uo) → lv_has ls 5 [(0, .ref (ad (10, 0))), (2, .int (zI v2))] → ZW D B y ad true cu u H → va_S (fun x => B ≤ x) s.heap H locs → W p l e R s m args below meth c H locs 0 0 Q (F0 m 54 ls []) := by
    intro n
    induction n with
    | zero => intro u v2 H locs ls hf; cases (show (none : Option (Int × ZR)) = some (res, uo) from hf)
    | succ n ih =>
      intro u v2 H locs ls hf hl hW hS
      rw [r_reads_54] at hf
      refine lv_iload_n hx hb d_r_reads_54 rfl (lv_at hl 1 rfl) ?_
      refine lv_aload_n hx hb d_r_reads_55 rfl (lv_at hl 0 rfl) ?_
      refine zg_Mo_sourceLength M hW (M.2.2.1 _ w_770) d_r_reads_56 ?_
      refine z_icmp_ge hx hb d_r_reads_59 rfl hf (fun hf => ?_) (fun hf => ?_)
      · refine lv_goto hx hb d_r_reads_89 rfl ?_
        refine lv_aload_n hx hb d_r_reads_165 rfl (lv_at hl 0 rfl) ?_
        refine z_iconst hx hb d_r_reads_166 ?_
        refine zp_Mo_lines M hW hS (M.2.2.1 _ w_771) d_r_reads_167 (fun H locs hW hS => ?_)
        refine z_iconst hx hb d_r_reads_170 ?_
        refine lv_istore_n (lv' := [(2, .int (zI 0)), (0, .ref (ad (10, 0)))]) hx hb d_r_reads_171 rfl hl (by decide) rfl (fun ls hl => ?_)
        refine z_iconst hx hb d_r_reads_172 ?_
        refine lv_istore_n (lv' := [(3, .int (zI 0)), (2, .int (zI 0)), (0, .ref (ad (10, 0)))]) hx hb d_r_reads_173 rfl hl (by decide) rfl (fun ls hl => ?_)
        exact C_174 F _ _ _ _ _ _ hf (lv_sub hl [2, 1, 0] rfl) hW hS
      · refine lv_aload_n hx hb d_r_reads_62 rfl (lv_at hl 0 rfl) ?_
        refine zg_Mo_source M hW (M.2.2.1 _ w_769) d_r_reads_63 ?_
        refine lv_iload_n hx hb d_r_reads_66 rfl (lv_at hl 1 rfl) ?_
        refine lv_aload_n hx hb d_r_reads_67 rfl (lv_at hl 0 rfl) ?_
        refine zg_Mo_content M hW (M.2.2.1 _ w_740) d_r_reads_68 ?_
        refine z_sipush hx hb d_r_reads_71 rfl ?_
        refine lv_aload_n hx hb d_r_reads_74 rfl (lv_at hl 0 rfl) ?_
        refine zg_Mo_pathNode M hW (M.2.2.1 _ w_774) d_r_reads_75 ?_
        refine z_imul hx hb d_r_reads_78 ?_
        refine lv_iload_n hx hb d_r_reads_79 rfl (lv_at hl 1 rfl) ?_
        refine z_iadd hx hb d_r_reads_80 ?_
        obtain ⟨g11, hf⟩ := zg hf
        refine zr_8 M hW g11 d_r_reads_81 ?_
        obtain ⟨g12, hf⟩ := zg hf
        refine zw_37 M hW hS g12 d_r_reads_82 (fun H locs hW hS => ?_)
        obtain ⟨u9, g13, hf⟩ := ze1 hf
        have g13 := Option.some.inj g13
        rw [g13] at hW
        refine lv_iinc (k := 1) (v := zI (v2 + 1)) (lv' := [(2, .int (zI (v2 + 1))), (0, .ref (ad (10, 0)))]) hx hb d_r_reads_83 hl rfl (zI_add _ _) (by decide) rfl (fun ls hl => ?_)
        refine lv_goto hx hb d_r_reads_86 rfl ?_
        exact ih _ _ _ _ _ hf (lv_sub hl [1, 0] rfl) hW hS
  rw [r_reads] at hf
  refine lv_aload_n hx hb d_r_reads_0 rfl (lv_at hl 0 rfl) ?_
  refine z_iconst hx hb d_r_reads_1 ?_
  refine zp_Mo_sourceLength M hW hS (M.2.2.1 _ w_770) d_r_reads_2 (fun H locs hW hS => ?_)
  refine lv_iload_n hx hb d_r_reads_5 rfl (lv_at hl 1 rfl) ?_
  refine lv_aload_n hx hb d_r_reads_6 rfl (lv_at hl 0 rfl) ?_
  refine zg_Mo_words M hW (M.2.2.1 _ w_748) d_r_reads_7 ?_
  refine z_icmp_ge hx hb d_r_reads_10 rfl hf (fun hf => ?_) (fun hf => ?_)
  · refine lv_aload_n hx hb d_r_reads_92 rfl (lv_at hl 0 rfl) ?_
    refine zg_Mo_commandIn M hW (M.2.2.1 _ w_756) d_r_reads_93 ?_
    refine lv_aload_n hx hb d_r_reads_96 rfl (lv_at hl 0 rfl) ?_
    refine zg_Mo_level M hW (M.2.2.1 _ w_753) d_r_reads_97 ?_
    obtain ⟨g14, hf⟩ := zg hf
    refine zr_24 M hW g14 d_r_reads_100 ?_
    refine z_if_lt hx hb d_r_reads_101 rfl hf (fun hf => ?_) (fun hf => ?_)
    · refine lv_aload_n hx hb d_r_reads_165 rfl (lv_at hl 0 rfl) ?_
      refine z_iconst hx hb d_r_reads_166 ?_
      refine zp_Mo_lines M hW hS (M.2.2.1 _ w_771) d_r_reads_167 (fun H locs hW hS => ?_)
      refine z_iconst hx hb d_r_reads_170 ?_
      refine lv_istore_n (lv' := [(2, .int (zI 0)), (0, .ref (ad (10, 0))), (1, .int (zI v1))]) hx hb d_r_reads_171 rfl hl (by decide) rfl (fun ls hl => ?_)
      refine z_iconst hx hb d_r_reads_172 ?_
      refine lv_istore_n (lv' := [(3, .int (zI 0)), (2, .int (zI 0)), (0, .ref (ad (10, 0))), (1, .int (zI v1))]) hx hb d_r_reads_173 rfl hl (by decide) rfl (fun ls hl => ?_)
      exact C_174 F _ _ _ _ _ _ hf (lv_sub hl [2, 1, 0] rfl) hW hS
    · refine lv_aload_n hx hb d_r_reads_104 rfl (lv_at hl 0 rfl) ?_
      refine zg_Mo_commandIn M hW (M.2.2.1 _ w_756) d_r_reads_105 ?_
      refine lv_aload_n hx hb d_r_reads_108 rfl (lv_at hl 0 rfl) ?_
      refine zg_Mo_level M hW (M.2.2.1 _ w_753) d_r_reads_109 ?_
      refine zr_24 M hW g14 d_r_reads_112 ?_
      refine lv_istore_n (lv' := [(2, .int (zI (rA (tI u 38 0) 24 (rI (tI u 38 0) 21).toNat))), (0, .ref (ad (10, 0))), (1, .int (zI v1))]) hx hb d_r_reads_113 rfl hl (by decide) rfl (fun ls hl => ?_)
      refine lv_aload_n hx hb d_r_reads_114 rfl (lv_at hl 1 rfl) ?_
      refine lv_aload_n hx hb d_r_reads_115 rfl (lv_at hl 1 rfl) ?_
      refine zg_Mo_inputLength M hW (M.2.2.1 _ w_765) d_r_reads_116 ?_
      refine lv_iload_n hx hb d_r_reads_119 rfl (lv_at hl 0 rfl) ?_
      obtain ⟨g15, hf⟩ := zg hf
      refine zr_33 M hW g15 d_r_reads_120 ?_
      refine zp_Mo_sourceLength M hW hS (M.2.2.1 _ w_770) d_r_reads_121 (fun H locs hW hS => ?_)
      obtain ⟨u1, g16, hf⟩ := ze1 hf
      have g16 := Option.some.inj g16
      rw [g16] at hW
      refine z_iconst hx hb d_r_reads_124 ?_
      refine lv_istore_n (lv' := [(3, .int (zI 0)), (2, .int (zI (rA (tI u 38 0) 24 (rI (tI u 38 0) 21).toNat))), (0, .ref (ad (10, 0))), (1, .int (zI v1))]) hx hb d_r_reads_125 rfl hl (by decide) rfl (fun ls hl => ?_)
      exact C_126 F _ _ _ _ _ _ hf (lv_sub hl [2, 1, 0] rfl) hW hS
  · refine lv_aload_n hx hb d_r_reads_13 rfl (lv_at hl 0 rfl) ?_
    refine lv_iload_n hx hb d_r_reads_14 rfl (lv_at hl 1 rfl) ?_
    obtain ⟨u2, g17, hf⟩ := ze1 hf
    refine z_callVv (As := [.int (zI v1)]) (rest := []) (k_r_follow F _ _ g17) M hml (cw_r_follow M.2.2.1 (M.2.2.1 _ w_963) (by rw [hR]; exact Nat.le_of_ble_eq_true rfl) (by rw [hR]; exact Nat.le_of_ble_eq_true rfl)) (zv_Mo hK hW) hB hW hS rfl hl.1 rfl (Nat.le_of_ble_eq_true rfl) d_r_reads_15 (by rw [hR]; exact ⟨Nat.zero_le _, Nat.zero_le _⟩) (fun H locs hW hS => ?_)
    refine lv_aload_n hx hb d_r_reads_18 rfl (lv_at hl 0 rfl) ?_
    refine zg_Mo_pathNode M hW (M.2.2.1 _ w_774) d_r_reads_19 ?_
    obtain ⟨b3, g18, hf⟩ := ze1 hf
    have JT18 : b3 = true → ∀ (H : Heap) (locs : List Loc), ZW D B y ad true cu u2 H → va_S (fun x => B ≤ x) s.heap H locs → W p l e R s m args below meth c H locs 0 0 Q (F0 m 37 ls []) := by
      intro hv H locs hW hS
      have hf := zp (hv) hf
      refine z_iconst hx hb d_r_reads_37 ?_
      cases hf
      subst hQ
      exact z_retz hx hb (Or.inl rfl) hr hlocks hB hK hW hS d_r_reads_38
    have JF18 : b3 = false → ∀ (H : Heap) (locs : List Loc), ZW D B y ad true cu u2 H → va_S (fun x => B ≤ x) s.heap H locs → W p l e R s m args below meth c H locs 0 0 Q (F0 m 39 ls []) := by
      intro hv H locs hW hS
      have hf := zn (by rw [hv]; decide) hf
      refine lv_aload_n hx hb d_r_reads_39 rfl (lv_at hl 0 rfl) ?_
      refine lv_aload_n hx hb d_r_reads_40 rfl (lv_at hl 0 rfl) ?_
      refine zg_Mo_size M hW (M.2.2.1 _ w_739) d_r_reads_41 ?_
      refine lv_aload_n hx hb d_r_reads_44 rfl (lv_at hl 0 rfl) ?_
      refine zg_Mo_pathNode M hW (M.2.2.1 _ w_774) d_r_reads_45 ?_
      obtain ⟨g19, hf⟩ := zg hf
      refine zr_7 M hW g19 d_r_reads_48 ?_
      refine zp_Mo_sourceLength M hW hS (M.2.2.1 _ w_770) d_r_reads_49 (fun H locs hW hS => ?_)
      refine z_iconst hx hb d_r_reads_52 ?_
      refine lv_istore_n (lv' := [(2, .int (zI 0)), (0, .ref (ad (10, 0))), (1, .int (zI v1))]) hx hb d_r_reads_53 rfl hl (by decide) rfl (fun ls hl => ?_)
      exact C_54 F _ _ _ _ _ hf (lv_sub hl [1, 0] rfl) hW hS
    refine z_if_lt hx hb d_r_reads_22 rfl g18 (fun g18 => ?_) (fun g18 => ?_)
    · exact JT18 (Option.some.inj g18).symm _ _ hW hS
    · refine lv_aload_n hx hb d_r_reads_25 rfl (lv_at hl 0 rfl) ?_
      refine zg_Mo_isDir M hW (M.2.2.1 _ w_736) d_r_reads_26 ?_
      refine lv_aload_n hx hb d_r_reads_29 rfl (lv_at hl 0 rfl) ?_
      refine zg_Mo_pathNode M hW (M.2.2.1 _ w_774) d_r_reads_30 ?_
      obtain ⟨g20, g18⟩ := zg g18
      refine zr_4 M hW g20 d_r_reads_33 ?_
      refine z_if_eq hx hb d_r_reads_34 rfl g18 (fun g18 => ?_) (fun g18 => ?_)
      · exact JF18 (Option.some.inj g18).symm _ _ hW hS
      · exact JT18 (Option.some.inj g18).symm _ _ hW hS
