set_option maxRecDepth 100000 in
set_option maxHeartbeats 4000000 in
theorem k_cWords_clear {l : Launch} {D : va_G} {B : Nat} {y : Nat → ClassId} {ad : Nat × Nat → Nat} {q : Bool} {r : ZR} (F : Nat) (u : ZC) {uo : ZC} (hf : cWords_clear F u = some uo) : Met l y_cWords_clear (.code y_cWords_clear b_cWords_clear 1 none :: zt) { frames := 1, cells := 0, slots := 0, locals := 20 } (va_Pc [.ref (ad (0, 5))] (fun U => ZP D B y ad q u r U)) (va_Qv (fun (_ : Unit) => True) (fun _ t => ZP D B y ad q uo r t) (fun x => B ≤ x)) 0 0 (fun x => B ≤ x) := by
  refine Met.ofW (cc := b_cWords_clear) (maxL := 1) (ret := none) (by decide) rfl ?_
  intro p e s m args below meth c s₁ Bd hml hv
  obtain ⟨hargs, hB, hW, hK⟩ := hv
  have hx := Bd.exec
  have hb := Bd.bytes
  have hr := Bd.returns
  have hts0 := atoms_spec (ws := .code y_cWords_clear b_cWords_clear 1 none :: zt) Bd.pre
  have hown : s.vm.findClass "TreeShell$Words" = some m.cls := findClass_of_methodNamed Bd.named
  have hlocks := Bd.notSynchronized
  have M : ZM p c b_cWords_clear s args m "TreeShell$Words" D y := ⟨hx, hb, fun w h => hts0 w (List.mem_cons_of_mem _ h), hown, hK⟩
  have hS : va_S (fun x => B ≤ x) s.heap s.heap [] := va_S.rf
  have hE := lg_entry_eq m ([.ref (ad (0, 5))] : List Value) 1
  rw [← hargs] at hE
  rw [hE]
  have hl := lv_entry ([.ref (ad (0, 5))] : List Value) (n := 1) (Nat.le_of_ble_eq_true rfl)
  generalize (lg_sl ([.ref (ad (0, 5))] : List Value) ++ List.replicate (1 - (lg_sl ([.ref (ad (0, 5))] : List Value)).length) Slot.unset).toArray = ls at hl ⊢
  have hl : lv_has ls 1 [(0, .ref (ad (0, 5)))] := hl
  refine z_start (fun Q R hQ hR => ?_)
  generalize hH : s.heap = H at hW
  have hS : va_S (fun x => B ≤ x) s.heap H [] := by rw [← hH]; exact hS
  rw [cWords_clear] at hf
  refine lv_aload_n hx hb d_cWords_clear_0 rfl (lv_at hl 0 rfl) ?_
  refine zg_Wo_joined M hW (M.2.2.1 _ w_262) d_cWords_clear_1 ?_
  obtain ⟨u1, g1, hf⟩ := ze1 hf
  refine z_callVv (As := []) (rest := []) (k_cText_clear F _ _ g1) M hml (cw_cText_clear M.2.2.1 (M.2.2.1 _ w_492) (by rw [hR]; exact Nat.le_of_ble_eq_true rfl) (by rw [hR]; exact Nat.le_of_ble_eq_true rfl)) (zv_Tx hK hW (zid_T (Or.inl (by decide)))) hB hW hS rfl hl.1 rfl (Nat.le_of_ble_eq_true rfl) d_cWords_clear_4 (by rw [hR]; exact ⟨Nat.zero_le _, Nat.zero_le _⟩) (fun H locs hW hS => ?_)
  refine lv_aload_n hx hb d_cWords_clear_7 rfl (lv_at hl 0 rfl) ?_
  refine z_iconst hx hb d_cWords_clear_8 ?_
  refine zp_Wo_count M hW hS (M.2.2.1 _ w_266) d_cWords_clear_9 (fun H locs hW hS => ?_)
  cases hf
  subst hQ
  exact z_retv hx hb hr hlocks hB hK hW hS d_cWords_clear_12
set_option maxRecDepth 100000 in
set_option maxHeartbeats 4000000 in
theorem k_cWords_add {l : Launch} {D : va_G} {B : Nat} {y : Nat → ClassId} {ad : Nat × Nat → Nat} {q : Bool} {r : ZR} (F : Nat) (u : ZC) (v2 : Int) (v3 : Int) {uo : ZC} (hf : cWords_add F u v2 v3 = some uo) : Met l y_cWords_add (.code y_cWords_add b_cWords_add 8 none :: zt) { frames := 2, cells := 0, slots := 0, locals := 44 } (va_Pc [.ref (ad (0, 5)), .ref (ad (0, 1)), .int (zI v2), .int (zI v3)] (fun U => ZP D B y ad q u r U)) (va_Qv (fun (_ : Unit) => True) (fun _ t => ZP D B y ad q uo r t) (fun x => B ≤ x)) 0 0 (fun x => B ≤ x) := by
  refine Met.ofW (cc := b_cWords_add) (maxL := 8) (ret := none) (by decide) rfl ?_
  intro p e s m args below meth c s₁ Bd hml hv
  obtain ⟨hargs, hB, hW, hK⟩ := hv
  have hx := Bd.exec
  have hb := Bd.bytes
  have hr := Bd.returns
  have hts0 := atoms_spec (ws := .code y_cWords_add b_cWords_add 8 none :: zt) Bd.pre
  have hown : s.vm.findClass "TreeShell$Words" = some m.cls := findClass_of_methodNamed Bd.named
  have hlocks := Bd.notSynchronized
  have M : ZM p c b_cWords_add s args m "TreeShell$Words" D y := ⟨hx, hb, fun w h => hts0 w (List.mem_cons_of_mem _ h), hown, hK⟩
  have hS : va_S (fun x => B ≤ x) s.heap s.heap [] := va_S.rf
  have hE := lg_entry_eq m ([.ref (ad (0, 5)), .ref (ad (0, 1)), .int (zI v2), .int (zI v3)] : List Value) 8
  rw [← hargs] at hE
  rw [hE]
  have hl := lv_entry ([.ref (ad (0, 5)), .ref (ad (0, 1)), .int (zI v2), .int (zI v3)] : List Value) (n := 8) (Nat.le_of_ble_eq_true rfl)
  generalize (lg_sl ([.ref (ad (0, 5)), .ref (ad (0, 1)), .int (zI v2), .int (zI v3)] : List Value) ++ List.replicate (8 - (lg_sl ([.ref (ad (0, 5)), .ref (ad (0, 1)), .int (zI v2), .int (zI v3)] : List Value)).length) Slot.unset).toArray = ls at hl ⊢
  have hl : lv_has ls 8 [(0, .ref (ad (0, 5))), (1, .ref (ad (0, 1))), (2, .int (zI v2)), (3, .int (zI v3))] := hl
  refine z_start (fun Q R hQ hR => ?_)
  generalize hH : s.heap = H at hW
  have hS : va_S (fun x => B ≤ x) s.heap H [] := by rw [← hH]; exact hS
  have C_51 : ∀ (n : Nat), ∀ (u : ZC) (v3 : Int) (v5 : Int) (v6 : Int) (v7 : Int) (H : Heap) (locs : List Loc) (ls : Array Slot), cWords_add_51 F n u v3 v5 v6 v7 = some uo → lv_has ls 8 [(0, .ref (ad (0, 5))), (3, .int (zI v3)), (4, .ref (ad (2, 0))), (5, .int (zI v5)), (6, .int (zI v6)), (7, .int (zI v7))] → ZW D B y ad q u r H → va_S (fun x => B ≤ x) s.heap H locs → W p l e R s m args below meth c H locs 0 0 Q (F0 m 51 ls []) := by
    intro n
    induction n with
    | zero => intro u v3 v5 v6 v7 H locs ls hf; cases (show (none : Option (ZC)) = some uo from hf)
    | succ n ih =>
      intro u v3 v5 v6 v7 H locs ls hf hl hW hS
      rw [cWords_add_51] at hf
      refine lv_iload hx hb d_cWords_add_51 (lv_at hl 5 rfl) ?_
      refine lv_iload hx hb d_cWords_add_53 (lv_at hl 3 rfl) ?_
      refine z_icmp_ge hx hb d_cWords_add_55 rfl hf (fun hf => ?_) (fun hf => ?_)
      · refine lv_aload_n hx hb d_cWords_add_151 rfl (lv_at hl 0 rfl) ?_
        refine zg_Wo_ends M hW (M.2.2.1 _ w_265) d_cWords_add_152 ?_
        refine lv_aload_n hx hb d_cWords_add_155 rfl (lv_at hl 0 rfl) ?_
        refine zg_Wo_count M hW (M.2.2.1 _ w_266) d_cWords_add_156 ?_
        refine lv_aload_n hx hb d_cWords_add_159 rfl (lv_at hl 0 rfl) ?_
        refine zg_Wo_joined M hW (M.2.2.1 _ w_262) d_cWords_add_160 ?_
        refine zg_Tx_size M hW (zid_T (Or.inl (by decide))) (M.2.2.1 _ w_108) d_cWords_add_163 ?_
        obtain ⟨g1, hf⟩ := zg hf
        refine zs_11 M hW hS g1 d_cWords_add_166 (fun H locs hW hS => ?_)
        refine lv_aload_n hx hb d_cWords_add_167 rfl (lv_at hl 0 rfl) ?_
        refine lv_dup hx hb d_cWords_add_168 rfl ?_
        refine zg_Wo_count M hW (M.2.2.1 _ w_266) d_cWords_add_169 ?_
        refine z_iconst hx hb d_cWords_add_172 ?_
        refine z_iadd hx hb d_cWords_add_173 ?_
        refine zp_Wo_count M hW hS (M.2.2.1 _ w_266) d_cWords_add_174 (fun H locs hW hS => ?_)
        obtain ⟨u3, g2, hf⟩ := ze1 hf
        have g2 := Option.some.inj g2
        rw [g2] at hW
        cases hf
        subst hQ
        exact z_retv hx hb hr hlocks hB hK hW hS d_cWords_add_177
      · refine lv_aload hx hb d_cWords_add_58 (lv_at hl 2 rfl) ?_
        refine lv_iload hx hb d_cWords_add_60 (lv_at hl 5 rfl) ?_
        obtain ⟨g3, hf⟩ := zg hf
        refine za_let M hW (zid_C (Or.inl (by decide))) g3 d_cWords_add_62 ?_
        refine z_bipush hx hb d_cWords_add_63 rfl ?_
        obtain ⟨x8, x9, u10, g4, hf⟩ := ze3 hf
        have J4 : ∀ (H : Heap) (locs : List Loc) (ls : Array Slot), lv_has ls 8 [(0, .ref (ad (0, 5))), (3, .int (zI v3)), (4, .ref (ad (2, 0))), (5, .int (zI v5)), (6, .int (zI x8)), (7, .int (zI x9))] → ZW D B y ad q u10 r H → va_S (fun x => B ≤ x) s.heap H locs → W p l e R s m args below meth c H locs 0 0 Q (F0 m 145 ls []) := by
          intro H locs ls hl hW hS
          refine lv_iinc (k := 5) (v := zI (x9 + 1)) (lv' := [(7, .int (zI (x9 + 1))), (0, .ref (ad (0, 5))), (3, .int (zI v3)), (4, .ref (ad (2, 0))), (5, .int (zI v5)), (6, .int (zI x8))]) hx hb d_cWords_add_145 hl rfl (zI_add _ _) (by decide) rfl (fun ls hl => ?_)
          refine lv_goto hx hb d_cWords_add_148 rfl ?_
          exact ih _ _ _ _ _ _ _ _ hf (lv_sub hl [1, 2, 3, 4, 5, 0] rfl) hW hS
        refine z_icmp_ne hx hb d_cWords_add_65 rfl g4 (fun g4 => ?_) (fun g4 => ?_)
        · refine lv_aload hx hb d_cWords_add_83 (lv_at hl 2 rfl) ?_
          refine lv_iload hx hb d_cWords_add_85 (lv_at hl 5 rfl) ?_
          refine za_let M hW (zid_C (Or.inl (by decide))) g3 d_cWords_add_87 ?_
          refine z_bipush hx hb d_cWords_add_88 rfl ?_
          obtain ⟨b4, g5, g4⟩ := ze1 g4
          have JT5 : b4 = true → ∀ (H : Heap) (locs : List Loc), ZW D B y ad q u r H → va_S (fun x => B ≤ x) s.heap H locs → W p l e R s m args below meth c H locs 0 0 Q (F0 m 133 ls []) := by
            intro hv H locs hW hS
            have g4 := zp (hv) g4
            refine lv_aload_n hx hb d_cWords_add_133 rfl (lv_at hl 0 rfl) ?_
            refine zg_Wo_joined M hW (M.2.2.1 _ w_262) d_cWords_add_134 ?_
            refine lv_aload hx hb d_cWords_add_137 (lv_at hl 2 rfl) ?_
            refine lv_iload hx hb d_cWords_add_139 (lv_at hl 5 rfl) ?_
            refine za_let M hW (zid_C (Or.inl (by decide))) g3 d_cWords_add_141 ?_
            obtain ⟨u5, g6, g4⟩ := ze1 g4
            refine z_callVv (As := [.int (zI (cA u 0 0 v7.toNat))]) (rest := []) (k_cText_add F _ _ _ g6) M hml (cw_cText_add M.2.2.1 (M.2.2.1 _ w_502) (by rw [hR]; exact Nat.le_of_ble_eq_true rfl) (by rw [hR]; exact Nat.le_of_ble_eq_true rfl)) (zv_Tx hK hW (zid_T (Or.inl (by decide)))) hB hW hS rfl hl.1 rfl (Nat.le_of_ble_eq_true rfl) d_cWords_add_142 (by rw [hR]; exact ⟨Nat.zero_le _, Nat.zero_le _⟩) (fun H locs hW hS => ?_)
            cases g4
            exact J4 _ _ _ (lv_sub hl [0, 1, 2, 3, 4, 5] rfl) hW hS
          have JF5 : b4 = false → ∀ (H : Heap) (locs : List Loc), ZW D B y ad q u r H → va_S (fun x => B ≤ x) s.heap H locs → W p l e R s m args below meth c H locs 0 0 Q (F0 m 119 ls []) := by
            intro hv H locs hW hS
            have g4 := zn (by rw [hv]; decide) g4
            refine lv_aload_n hx hb d_cWords_add_119 rfl (lv_at hl 0 rfl) ?_
            refine zg_Wo_joined M hW (M.2.2.1 _ w_262) d_cWords_add_120 ?_
            refine lv_iload_n hx hb d_cWords_add_123 rfl (lv_at hl 1 rfl) ?_
            obtain ⟨u6, g7, g4⟩ := ze1 g4
            refine z_callVv (As := [.int (zI v3)]) (rest := []) (k_cText_addNumber F _ _ _ g7) M hml (cw_cText_addNumber M.2.2.1 (M.2.2.1 _ w_498) (by rw [hR]; exact Nat.le_of_ble_eq_true rfl) (by rw [hR]; exact Nat.le_of_ble_eq_true rfl)) (zv_Tx hK hW (zid_T (Or.inl (by decide)))) hB hW hS rfl hl.1 rfl (Nat.le_of_ble_eq_true rfl) d_cWords_add_124 (by rw [hR]; exact ⟨Nat.zero_le _, Nat.zero_le _⟩) (fun H locs hW hS => ?_)
            refine lv_iinc (k := 5) (v := zI (v7 + 1)) (lv' := [(7, .int (zI (v7 + 1))), (0, .ref (ad (0, 5))), (3, .int (zI v3)), (4, .ref (ad (2, 0))), (5, .int (zI v5)), (6, .int (zI v6))]) hx hb d_cWords_add_127 hl rfl (zI_add _ _) (by decide) rfl (fun ls hl => ?_)
            refine lv_goto hx hb d_cWords_add_130 rfl ?_
            cases g4
            exact J4 _ _ _ (lv_sub hl [1, 2, 3, 4, 5, 0] rfl) hW hS
          refine z_icmp_ne hx hb d_cWords_add_90 rfl g5 (fun g5 => ?_) (fun g5 => ?_)
          · exact JT5 (Option.some.inj g5).symm _ _ hW hS
          · refine lv_iload hx hb d_cWords_add_93 (lv_at hl 4 rfl) ?_
            refine z_if_ne hx hb d_cWords_add_95 rfl g5 (fun g5 => ?_) (fun g5 => ?_)
            · exact JT5 (Option.some.inj g5).symm _ _ hW hS
            · refine lv_iload hx hb d_cWords_add_98 (lv_at hl 5 rfl) ?_
              refine z_iconst hx hb d_cWords_add_100 ?_
              refine z_iadd hx hb d_cWords_add_101 ?_
              refine lv_iload hx hb d_cWords_add_102 (lv_at hl 3 rfl) ?_
              refine z_icmp_ge hx hb d_cWords_add_104 rfl g5 (fun g5 => ?_) (fun g5 => ?_)
              · exact JT5 (Option.some.inj g5).symm _ _ hW hS
              · refine lv_aload hx hb d_cWords_add_107 (lv_at hl 2 rfl) ?_
                refine lv_iload hx hb d_cWords_add_109 (lv_at hl 5 rfl) ?_
                refine z_iconst hx hb d_cWords_add_111 ?_
                refine z_iadd hx hb d_cWords_add_112 ?_
                obtain ⟨g8, g5⟩ := zg g5
                refine za_let M hW (zid_C (Or.inl (by decide))) g8 d_cWords_add_113 ?_
                refine z_bipush hx hb d_cWords_add_114 rfl ?_
                refine z_icmp_ne hx hb d_cWords_add_116 rfl g5 (fun g5 => ?_) (fun g5 => ?_)
                · exact JT5 (Option.some.inj g5).symm _ _ hW hS
                · exact JF5 (Option.some.inj g5).symm _ _ hW hS
        · refine lv_iload hx hb d_cWords_add_68 (lv_at hl 4 rfl) ?_
          obtain ⟨x7, g9, g4⟩ := ze1 g4
          have J9 : ∀ (H : Heap) (locs : List Loc) (ls : Array Slot), lv_has ls 8 [(0, .ref (ad (0, 5))), (3, .int (zI v3)), (4, .ref (ad (2, 0))), (5, .int (zI v5)), (7, .int (zI v7))] → ZW D B y ad q u r H → va_S (fun x => B ≤ x) s.heap H locs → W p l e R s m args below meth c H locs 0 0 Q (F0 m 78 ls [.int (zI x7)]) := by
            intro H locs ls hl hW hS
            refine lv_istore (lv' := [(6, .int (zI x7)), (0, .ref (ad (0, 5))), (3, .int (zI v3)), (4, .ref (ad (2, 0))), (5, .int (zI v5)), (7, .int (zI v7))]) hx hb d_cWords_add_78 hl (by decide) rfl (fun ls hl => ?_)
            refine lv_goto hx hb d_cWords_add_80 rfl ?_
            cases g4
            exact J4 _ _ _ (lv_sub hl [1, 2, 3, 4, 0, 5] rfl) hW hS
          refine z_if_ne hx hb d_cWords_add_70 rfl g9 (fun g9 => ?_) (fun g9 => ?_)
          · refine z_iconst hx hb d_cWords_add_77 ?_
            cases g9
            exact J9 _ _ _ (lv_sub hl [0, 1, 2, 3, 5] rfl) hW hS
          · refine z_iconst hx hb d_cWords_add_73 ?_
            refine lv_goto hx hb d_cWords_add_74 rfl ?_
            cases g9
            exact J9 _ _ _ (lv_sub hl [0, 1, 2, 3, 5] rfl) hW hS
  rw [cWords_add] at hf
  refine lv_aload_n hx hb d_cWords_add_0 rfl (lv_at hl 1 rfl) ?_
  refine lv_iload_n hx hb d_cWords_add_1 rfl (lv_at hl 2 rfl) ?_
  obtain ⟨p1, g10, hf⟩ := ze1 hf
  refine z_callVi (As := [.int (zI v2)]) (rest := []) (k_cTokens_kindAt F _ _ g10) M hml (cw_cTokens_kindAt M.2.2.1 (M.2.2.1 _ w_497) (by rw [hR]; exact Nat.le_of_ble_eq_true rfl) (by rw [hR]; exact Nat.le_of_ble_eq_true rfl)) (zv_Tk hK hW) hB hW hS rfl hl.1 rfl (Nat.le_of_ble_eq_true rfl) d_cWords_add_2 (by rw [hR]; exact ⟨Nat.zero_le _, Nat.zero_le _⟩) (fun H locs hW hS => ?_)
  refine z_bipush hx hb d_cWords_add_5 rfl ?_
  obtain ⟨b2, g11, hf⟩ := ze1 hf
  have JT11 : b2 = true → ∀ (H : Heap) (locs : List Loc), ZW D B y ad q u r H → va_S (fun x => B ≤ x) s.heap H locs → W p l e R s m args below meth c H locs 0 0 Q (F0 m 22 ls []) := by
    intro hv H locs hW hS
    have hf := zp (hv) hf
    cases hf
    subst hQ
    exact z_retv hx hb hr hlocks hB hK hW hS d_cWords_add_22
  have JF11 : b2 = false → ∀ (H : Heap) (locs : List Loc), ZW D B y ad q u r H → va_S (fun x => B ≤ x) s.heap H locs → W p l e R s m args below meth c H locs 0 0 Q (F0 m 23 ls []) := by
    intro hv H locs hW hS
    have hf := zn (by rw [hv]; decide) hf
    refine lv_aload_n hx hb d_cWords_add_23 rfl (lv_at hl 1 rfl) ?_
    refine zg_Tk_line M hW (M.2.2.1 _ w_128) d_cWords_add_24 ?_
    refine zg_Tx_letters M hW (zid_T (Or.inl (by decide))) (M.2.2.1 _ w_102) d_cWords_add_27 ?_
    refine lv_astore (lv' := [(4, .ref (ad (2, 0))), (0, .ref (ad (0, 5))), (1, .ref (ad (0, 1))), (2, .int (zI v2)), (3, .int (zI v3))]) hx hb d_cWords_add_30 hl (by decide) rfl (fun ls hl => ?_)
    refine lv_aload_n hx hb d_cWords_add_32 rfl (lv_at hl 2 rfl) ?_
    refine zg_Tk_ends M hW (M.2.2.1 _ w_133) d_cWords_add_33 ?_
    refine lv_iload_n hx hb d_cWords_add_36 rfl (lv_at hl 3 rfl) ?_
    obtain ⟨g12, hf⟩ := zg hf
    refine za_10 M hW g12 d_cWords_add_37 ?_
    refine lv_istore (lv' := [(5, .int (zI (cA u 3 0 v2.toNat))), (4, .ref (ad (2, 0))), (0, .ref (ad (0, 5))), (1, .ref (ad (0, 1))), (2, .int (zI v2)), (3, .int (zI v3))]) hx hb d_cWords_add_38 hl (by decide) rfl (fun ls hl => ?_)
    refine z_iconst hx hb d_cWords_add_40 ?_
    refine lv_istore (lv' := [(6, .int (zI 0)), (5, .int (zI (cA u 3 0 v2.toNat))), (4, .ref (ad (2, 0))), (0, .ref (ad (0, 5))), (1, .ref (ad (0, 1))), (2, .int (zI v2)), (3, .int (zI v3))]) hx hb d_cWords_add_41 hl (by decide) rfl (fun ls hl => ?_)
    refine lv_aload_n hx hb d_cWords_add_43 rfl (lv_at hl 4 rfl) ?_
    refine zg_Tk_starts M hW (M.2.2.1 _ w_131) d_cWords_add_44 ?_
    refine lv_iload_n hx hb d_cWords_add_47 rfl (lv_at hl 5 rfl) ?_
    refine za_9 M hW g12 d_cWords_add_48 ?_
    refine lv_istore (lv' := [(7, .int (zI (cA u 2 0 v2.toNat))), (6, .int (zI 0)), (5, .int (zI (cA u 3 0 v2.toNat))), (4, .ref (ad (2, 0))), (0, .ref (ad (0, 5))), (1, .ref (ad (0, 1))), (2, .int (zI v2)), (3, .int (zI v3))]) hx hb d_cWords_add_49 hl (by decide) rfl (fun ls hl => ?_)
    exact C_51 F _ _ _ _ _ _ _ _ hf (lv_sub hl [4, 7, 3, 2, 1, 0] rfl) hW hS
  refine z_icmp_ne hx hb d_cWords_add_7 rfl g11 (fun g11 => ?_) (fun g11 => ?_)
  · exact JT11 (Option.some.inj g11).symm _ _ hW hS
  · refine lv_aload_n hx hb d_cWords_add_10 rfl (lv_at hl 0 rfl) ?_
    refine zg_Wo_count M hW (M.2.2.1 _ w_266) d_cWords_add_11 ?_
    refine lv_aload_n hx hb d_cWords_add_14 rfl (lv_at hl 0 rfl) ?_
    refine zg_Wo_ends M hW (M.2.2.1 _ w_265) d_cWords_add_15 ?_
    refine zl_11 M hW d_cWords_add_18 ?_
    refine z_icmp_lt hx hb d_cWords_add_19 rfl g11 (fun g11 => ?_) (fun g11 => ?_)
    · exact JF11 (Option.some.inj g11).symm _ _ hW hS
    · exact JT11 (Option.some.inj g11).symm _ _ hW hS
set_option maxRecDepth 100000 in
set_option maxHeartbeats 4000000 in
theorem k_cWords_startOf {l : Launch} {D : va_G} {B : Nat} {y : Nat → ClassId} {ad : Nat × Nat → Nat} {q : Bool} {r : ZR} (F : Nat) (u : ZC) (v1 : Int) {res : Int} (hf : cWords_startOf F u v1 = some res) : Met l y_cWords_startOf (.code y_cWords_startOf b_cWords_startOf 2 (some .int) :: zt) { frames := 0, cells := 0, slots := 0, locals := 0 } (va_Pc [.ref (ad (0, 5)), .int (zI v1)] (fun U => ZP D B y ad q u r U)) (va_Qi (fun v (_ : Unit) => v = zI res) (fun _ t => ZP D B y ad q u r t) (fun x => B ≤ x)) 0 0 (fun x => B ≤ x) := by
  refine Met.ofW (cc := b_cWords_startOf) (maxL := 2) (ret := (some .int)) (by decide) rfl ?_
  intro p e s m args below meth c s₁ Bd hml hv
  obtain ⟨hargs, hB, hW, hK⟩ := hv
  have hx := Bd.exec
  have hb := Bd.bytes
  have hr := Bd.returns
  have hts0 := atoms_spec (ws := .code y_cWords_startOf b_cWords_startOf 2 (some .int) :: zt) Bd.pre
  have hown : s.vm.findClass "TreeShell$Words" = some m.cls := findClass_of_methodNamed Bd.named
  have hlocks := Bd.notSynchronized
  have M : ZM p c b_cWords_startOf s args m "TreeShell$Words" D y := ⟨hx, hb, fun w h => hts0 w (List.mem_cons_of_mem _ h), hown, hK⟩
  have hS : va_S (fun x => B ≤ x) s.heap s.heap [] := va_S.rf
  have hE := lg_entry_eq m ([.ref (ad (0, 5)), .int (zI v1)] : List Value) 2
  rw [← hargs] at hE
  rw [hE]
  have hl := lv_entry ([.ref (ad (0, 5)), .int (zI v1)] : List Value) (n := 2) (Nat.le_of_ble_eq_true rfl)
  generalize (lg_sl ([.ref (ad (0, 5)), .int (zI v1)] : List Value) ++ List.replicate (2 - (lg_sl ([.ref (ad (0, 5)), .int (zI v1)] : List Value)).length) Slot.unset).toArray = ls at hl ⊢
  have hl : lv_has ls 2 [(0, .ref (ad (0, 5))), (1, .int (zI v1))] := hl
  refine z_start (fun Q R hQ hR => ?_)
  generalize hH : s.heap = H at hW
  have hS : va_S (fun x => B ≤ x) s.heap H [] := by rw [← hH]; exact hS
  rw [cWords_startOf] at hf
  refine lv_iload_n hx hb d_cWords_startOf_0 rfl (lv_at hl 1 rfl) ?_
  obtain ⟨x2, g1, hf⟩ := ze1 hf
  have J1 : ∀ (H : Heap) (locs : List Loc) (ls : Array Slot), lv_has ls 2 [] → ZW D B y ad q u r H → va_S (fun x => B ≤ x) s.heap H locs → W p l e R s m args below meth c H locs 0 0 Q (F0 m 24 ls [.int (zI x2)]) := by
    intro H locs ls hl hW hS
    cases hf
    subst hQ
    exact z_reti hx hb hr hlocks hB hK hW hS d_cWords_startOf_24
  obtain ⟨b1, g2, g1⟩ := ze1 g1
  have JT2 : b1 = true → ∀ (H : Heap) (locs : List Loc), ZW D B y ad q u r H → va_S (fun x => B ≤ x) s.heap H locs → W p l e R s m args below meth c H locs 0 0 Q (F0 m 23 ls []) := by
    intro hv H locs hW hS
    have g1 := zp (hv) g1
    refine z_iconst hx hb d_cWords_startOf_23 ?_
    cases g1
    exact J1 _ _ _ (lv_sub hl [] rfl) hW hS
  have JF2 : b1 = false → ∀ (H : Heap) (locs : List Loc), ZW D B y ad q u r H → va_S (fun x => B ≤ x) s.heap H locs → W p l e R s m args below meth c H locs 0 0 Q (F0 m 12 ls []) := by
    intro hv H locs hW hS
    have g1 := zn (by rw [hv]; decide) g1
    refine lv_aload_n hx hb d_cWords_startOf_12 rfl (lv_at hl 0 rfl) ?_
    refine zg_Wo_ends M hW (M.2.2.1 _ w_265) d_cWords_startOf_13 ?_
    refine lv_iload_n hx hb d_cWords_startOf_16 rfl (lv_at hl 1 rfl) ?_
    refine z_iconst hx hb d_cWords_startOf_17 ?_
    refine z_isub hx hb d_cWords_startOf_18 ?_
    obtain ⟨g3, g1⟩ := zg g1
    refine za_11 M hW g3 d_cWords_startOf_19 ?_
    refine lv_goto hx hb d_cWords_startOf_20 rfl ?_
    cases g1
    exact J1 _ _ _ (lv_sub hl [] rfl) hW hS
  refine z_if_le hx hb d_cWords_startOf_1 rfl g2 (fun g2 => ?_) (fun g2 => ?_)
  · exact JT2 (Option.some.inj g2).symm _ _ hW hS
  · refine lv_iload_n hx hb d_cWords_startOf_4 rfl (lv_at hl 1 rfl) ?_
    refine lv_aload_n hx hb d_cWords_startOf_5 rfl (lv_at hl 0 rfl) ?_
    refine zg_Wo_count M hW (M.2.2.1 _ w_266) d_cWords_startOf_6 ?_
    refine z_icmp_gt hx hb d_cWords_startOf_9 rfl g2 (fun g2 => ?_) (fun g2 => ?_)
    · exact JT2 (Option.some.inj g2).symm _ _ hW hS
    · exact JF2 (Option.some.inj g2).symm _ _ hW hS
set_option maxRecDepth 100000 in
set_option maxHeartbeats 4000000 in
theorem k_cWords_endOf {l : Launch} {D : va_G} {B : Nat} {y : Nat → ClassId} {ad : Nat × Nat → Nat} {q : Bool} {r : ZR} (F : Nat) (u : ZC) (v1 : Int) {res : Int} (hf : cWords_endOf F u v1 = some res) : Met l y_cWords_endOf (.code y_cWords_endOf b_cWords_endOf 2 (some .int) :: zt) { frames := 0, cells := 0, slots := 0, locals := 0 } (va_Pc [.ref (ad (0, 5)), .int (zI v1)] (fun U => ZP D B y ad q u r U)) (va_Qi (fun v (_ : Unit) => v = zI res) (fun _ t => ZP D B y ad q u r t) (fun x => B ≤ x)) 0 0 (fun x => B ≤ x) := by
  refine Met.ofW (cc := b_cWords_endOf) (maxL := 2) (ret := (some .int)) (by decide) rfl ?_
  intro p e s m args below meth c s₁ Bd hml hv
  obtain ⟨hargs, hB, hW, hK⟩ := hv
  have hx := Bd.exec
  have hb := Bd.bytes
  have hr := Bd.returns
  have hts0 := atoms_spec (ws := .code y_cWords_endOf b_cWords_endOf 2 (some .int) :: zt) Bd.pre
  have hown : s.vm.findClass "TreeShell$Words" = some m.cls := findClass_of_methodNamed Bd.named
  have hlocks := Bd.notSynchronized
  have M : ZM p c b_cWords_endOf s args m "TreeShell$Words" D y := ⟨hx, hb, fun w h => hts0 w (List.mem_cons_of_mem _ h), hown, hK⟩
  have hS : va_S (fun x => B ≤ x) s.heap s.heap [] := va_S.rf
  have hE := lg_entry_eq m ([.ref (ad (0, 5)), .int (zI v1)] : List Value) 2
  rw [← hargs] at hE
  rw [hE]
  have hl := lv_entry ([.ref (ad (0, 5)), .int (zI v1)] : List Value) (n := 2) (Nat.le_of_ble_eq_true rfl)
  generalize (lg_sl ([.ref (ad (0, 5)), .int (zI v1)] : List Value) ++ List.replicate (2 - (lg_sl ([.ref (ad (0, 5)), .int (zI v1)] : List Value)).length) Slot.unset).toArray = ls at hl ⊢
  have hl : lv_has ls 2 [(0, .ref (ad (0, 5))), (1, .int (zI v1))] := hl
  refine z_start (fun Q R hQ hR => ?_)
  generalize hH : s.heap = H at hW
  have hS : va_S (fun x => B ≤ x) s.heap H [] := by rw [← hH]; exact hS
  rw [cWords_endOf] at hf
  refine lv_iload_n hx hb d_cWords_endOf_0 rfl (lv_at hl 1 rfl) ?_
  obtain ⟨x2, g1, hf⟩ := ze1 hf
  have J1 : ∀ (H : Heap) (locs : List Loc) (ls : Array Slot), lv_has ls 2 [] → ZW D B y ad q u r H → va_S (fun x => B ≤ x) s.heap H locs → W p l e R s m args below meth c H locs 0 0 Q (F0 m 22 ls [.int (zI x2)]) := by
    intro H locs ls hl hW hS
    cases hf
    subst hQ
    exact z_reti hx hb hr hlocks hB hK hW hS d_cWords_endOf_22
  obtain ⟨b1, g2, g1⟩ := ze1 g1
  have JT2 : b1 = true → ∀ (H : Heap) (locs : List Loc), ZW D B y ad q u r H → va_S (fun x => B ≤ x) s.heap H locs → W p l e R s m args below meth c H locs 0 0 Q (F0 m 21 ls []) := by
    intro hv H locs hW hS
    have g1 := zp (hv) g1
    refine z_iconst hx hb d_cWords_endOf_21 ?_
    cases g1
    exact J1 _ _ _ (lv_sub hl [] rfl) hW hS
  have JF2 : b1 = false → ∀ (H : Heap) (locs : List Loc), ZW D B y ad q u r H → va_S (fun x => B ≤ x) s.heap H locs → W p l e R s m args below meth c H locs 0 0 Q (F0 m 12 ls []) := by
    intro hv H locs hW hS
    have g1 := zn (by rw [hv]; decide) g1
    refine lv_aload_n hx hb d_cWords_endOf_12 rfl (lv_at hl 0 rfl) ?_
    refine zg_Wo_ends M hW (M.2.2.1 _ w_265) d_cWords_endOf_13 ?_
    refine lv_iload_n hx hb d_cWords_endOf_16 rfl (lv_at hl 1 rfl) ?_
    obtain ⟨g3, g1⟩ := zg g1
    refine za_11 M hW g3 d_cWords_endOf_17 ?_
    refine lv_goto hx hb d_cWords_endOf_18 rfl ?_
    cases g1
    exact J1 _ _ _ (lv_sub hl [] rfl) hW hS
  refine z_if_lt hx hb d_cWords_endOf_1 rfl g2 (fun g2 => ?_) (fun g2 => ?_)
  · exact JT2 (Option.some.inj g2).symm _ _ hW hS
  · refine lv_iload_n hx hb d_cWords_endOf_4 rfl (lv_at hl 1 rfl) ?_
    refine lv_aload_n hx hb d_cWords_endOf_5 rfl (lv_at hl 0 rfl) ?_
    refine zg_Wo_count M hW (M.2.2.1 _ w_266) d_cWords_endOf_6 ?_
    refine z_icmp_ge hx hb d_cWords_endOf_9 rfl g2 (fun g2 => ?_) (fun g2 => ?_)
    · exact JT2 (Option.some.inj g2).symm _ _ hW hS
    · exact JF2 (Option.some.inj g2).symm _ _ hW hS
