set_option maxRecDepth 100000 in
set_option maxHeartbeats 4000000 in
theorem k_r_cat {l : Launch} {D : va_G} {B : Nat} {y : Nat → ClassId} {ad : Nat × Nat → Nat} {cu : ZC} (F : Nat) (u : ZR) {res : Int} {uo : ZR} (hf : r_cat F u = some (res, uo)) : Met l y_r_cat (.code y_r_cat b_r_cat 5 (some .int) :: zt) { frames := 4, cells := 0, slots := 0, locals := 97 } (va_Pc [.ref (ad (10, 0))] (fun U => ZP D B y ad true cu u U)) (va_Qi (fun v (_ : Unit) => v = zI res) (fun _ t => ZP D B y ad true cu uo t) (fun x => B ≤ x)) 0 0 (fun x => B ≤ x) := by
  refine Met.ofW (cc := b_r_cat) (maxL := 5) (ret := (some .int)) (by decide) rfl ?_
  intro p e s m args below meth c s₁ Bd hml hv
  obtain ⟨hargs, hB, hW, hK⟩ := hv
  have hx := Bd.exec
  have hb := Bd.bytes
  have hr := Bd.returns
  have hts0 := atoms_spec (ws := .code y_r_cat b_r_cat 5 (some .int) :: zt) Bd.pre
  have hown : s.vm.findClass "TreeShellModel" = some m.cls := findClass_of_methodNamed Bd.named
  have hlocks := Bd.notSynchronized
  have M : ZM p c b_r_cat s args m "TreeShellModel" D y := ⟨hx, hb, fun w h => hts0 w (List.mem_cons_of_mem _ h), hown, hK⟩
  have hS : va_S (fun x => B ≤ x) s.heap s.heap [] := va_S.rf
  have hE := lg_entry_eq m ([.ref (ad (10, 0))] : List Value) 5
  rw [← hargs] at hE
  rw [hE]
  have hl := lv_entry ([.ref (ad (10, 0))] : List Value) (n := 5) (Nat.le_of_ble_eq_true rfl)
  generalize (lg_sl ([.ref (ad (10, 0))] : List Value) ++ List.replicate (5 - (lg_sl ([.ref (ad (10, 0))] : List Value)).length) Slot.unset).toArray = ls at hl ⊢
  have hl : lv_has ls 5 [(0, .ref (ad (10, 0)))] := hl
  refine z_start (fun Q R hQ hR => ?_)
  generalize hH : s.heap = H at hW
  have hS : va_S (fun x => B ≤ x) s.heap H [] := by rw [← hH]; exact hS
  have C_75 : ∀ (k61 : ZR → Int → Int → Option (Int × ZR)) (hk61 : ∀ (u : ZR) (v1 : Int) (v2 : Int) (H : Heap) (locs : List Loc) (ls : Array Slot), k61 u v1 v2 = some (res, uo) → lv_has ls 5 [(0, .ref (ad (10, 0))), (1, .int (zI v1)), (2, .int (zI v2))] → ZW D B y ad true cu u H → va_S (fun x => B ≤ x) s.heap H locs → W p l e R s m args below meth c H locs 0 0 Q (F0 m 61 ls [])) , ∀ (n : Nat), ∀ (u : ZR) (v1 : Int) (v2 : Int) (v3 : Int) (v4 : Int) (H : Heap) (locs : List Loc) (ls : Array Slot), r_cat_75 F k61 n u v1 v2 v3 v4 = some (res, uo) → lv_has ls 5 [(0, .ref (ad (10, 0))), (1, .int (zI v1)), (2, .int (zI v2)), (3, .int (zI v3)), (4, .int (zI v4))] → ZW D B y ad true cu u H → va_S (fun x => B ≤ x) s.heap H locs → W p l e R s m args below meth c H locs 0 0 Q (F0 m 75 ls []) := by
    intro k61 hk61 n
    induction n with
    | zero => intro u v1 v2 v3 v4 H locs ls hf; cases (show (none : Option (Int × ZR)) = some (res, uo) from hf)
    | succ n ih =>
      intro u v1 v2 v3 v4 H locs ls hf hl hW hS
      rw [r_cat_75] at hf
      refine lv_iload hx hb d_r_cat_75 (lv_at hl 4 rfl) ?_
      refine lv_aload_n hx hb d_r_cat_77 rfl (lv_at hl 0 rfl) ?_
      refine zg_Mo_sourceLength M hW (M.2.2.1 _ w_770) d_r_cat_78 ?_
      obtain ⟨b6, g1, hf⟩ := ze1 hf
      have JT1 : b6 = true → ∀ (H : Heap) (locs : List Loc), ZW D B y ad true cu u H → va_S (fun x => B ≤ x) s.heap H locs → W p l e R s m args below meth c H locs 0 0 Q (F0 m 105 ls []) := by
        intro hv H locs hW hS
        have hf := zp (hv) hf
        refine lv_iinc (k := 2) (v := zI (v2 + 1)) (lv' := [(2, .int (zI (v2 + 1))), (0, .ref (ad (10, 0))), (1, .int (zI v1)), (3, .int (zI v3)), (4, .int (zI v4))]) hx hb d_r_cat_105 hl rfl (zI_add _ _) (by decide) rfl (fun ls hl => ?_)
        refine lv_goto hx hb d_r_cat_108 rfl ?_
        exact hk61 _ _ _ _ _ _ hf (lv_sub hl [1, 2, 0] rfl) hW hS
      have JF1 : b6 = false → ∀ (H : Heap) (locs : List Loc), ZW D B y ad true cu u H → va_S (fun x => B ≤ x) s.heap H locs → W p l e R s m args below meth c H locs 0 0 Q (F0 m 88 ls []) := by
        intro hv H locs hW hS
        have hf := zn (by rw [hv]; decide) hf
        refine lv_aload_n hx hb d_r_cat_88 rfl (lv_at hl 0 rfl) ?_
        refine lv_aload_n hx hb d_r_cat_89 rfl (lv_at hl 0 rfl) ?_
        refine zg_Mo_source M hW (M.2.2.1 _ w_769) d_r_cat_90 ?_
        refine lv_iload hx hb d_r_cat_93 (lv_at hl 4 rfl) ?_
        obtain ⟨g2, hf⟩ := zg hf
        refine zr_37 M hW g2 d_r_cat_95 ?_
        obtain ⟨u7, g3, hf⟩ := ze1 hf
        refine z_callVv (As := [.int (zI (rA u 37 v4.toNat))]) (rest := []) (k_r_emit F _ _ g3) M hml (cw_r_emit M.2.2.1 (M.2.2.1 _ w_1002) (by rw [hR]; exact Nat.le_of_ble_eq_true rfl) (by rw [hR]; exact Nat.le_of_ble_eq_true rfl)) (zv_Mo hK hW) hB hW hS rfl hl.1 rfl (Nat.le_of_ble_eq_true rfl) d_r_cat_96 (by rw [hR]; exact ⟨Nat.zero_le _, Nat.zero_le _⟩) (fun H locs hW hS => ?_)
        refine lv_iinc (k := 4) (v := zI (v4 + 1)) (lv' := [(4, .int (zI (v4 + 1))), (0, .ref (ad (10, 0))), (1, .int (zI v1)), (2, .int (zI v2)), (3, .int (zI v3))]) hx hb d_r_cat_99 hl rfl (zI_add _ _) (by decide) rfl (fun ls hl => ?_)
        refine lv_goto hx hb d_r_cat_102 rfl ?_
        exact ih _ _ _ _ _ _ _ _ hf (lv_sub hl [1, 2, 3, 4, 0] rfl) hW hS
      refine z_icmp_ge hx hb d_r_cat_81 rfl g1 (fun g1 => ?_) (fun g1 => ?_)
      · exact JT1 (Option.some.inj g1).symm _ _ hW hS
      · refine lv_iload_n hx hb d_r_cat_84 rfl (lv_at hl 3 rfl) ?_
        refine z_if_eq hx hb d_r_cat_85 rfl g1 (fun g1 => ?_) (fun g1 => ?_)
        · exact JT1 (Option.some.inj g1).symm _ _ hW hS
        · exact JF1 (Option.some.inj g1).symm _ _ hW hS
  have C_61 : ∀ (n : Nat), ∀ (u : ZR) (v1 : Int) (v2 : Int) (H : Heap) (locs : List Loc) (ls : Array Slot), r_cat_61 F n u v1 v2 = some (res, uo) → lv_has ls 5 [(0, .ref (ad (10, 0))), (1, .int (zI v1)), (2, .int (zI v2))] → ZW D B y ad true cu u H → va_S (fun x => B ≤ x) s.heap H locs → W p l e R s m args below meth c H locs 0 0 Q (F0 m 61 ls []) := by
    intro n
    induction n with
    | zero => intro u v1 v2 H locs ls hf; cases (show (none : Option (Int × ZR)) = some (res, uo) from hf)
    | succ n ih =>
      intro u v1 v2 H locs ls hf hl hW hS
      rw [r_cat_61] at hf
      refine lv_iload_n hx hb d_r_cat_61 rfl (lv_at hl 2 rfl) ?_
      refine lv_iload_n hx hb d_r_cat_62 rfl (lv_at hl 1 rfl) ?_
      refine z_icmp_ge hx hb d_r_cat_63 rfl hf (fun hf => ?_) (fun hf => ?_)
      · refine z_iconst hx hb d_r_cat_111 ?_
        cases hf
        subst hQ
        exact z_reti hx hb hr hlocks hB hK hW hS d_r_cat_112
      · refine lv_aload_n hx hb d_r_cat_66 rfl (lv_at hl 0 rfl) ?_
        refine lv_iload_n hx hb d_r_cat_67 rfl (lv_at hl 2 rfl) ?_
        obtain ⟨p4, u5, g4, hf⟩ := ze2 hf
        refine z_callVi (As := [.int (zI v2)]) (rest := []) (k_r_reads F _ _ g4) M hml (cw_r_reads M.2.2.1 (M.2.2.1 _ w_1011) (by rw [hR]; exact Nat.le_of_ble_eq_true rfl) (by rw [hR]; exact Nat.le_of_ble_eq_true rfl)) (zv_Mo hK hW) hB hW hS rfl hl.1 rfl (Nat.le_of_ble_eq_true rfl) d_r_cat_68 (by rw [hR]; exact ⟨Nat.zero_le _, Nat.zero_le _⟩) (fun H locs hW hS => ?_)
        refine lv_istore_n (lv' := [(3, .int (zI p4)), (0, .ref (ad (10, 0))), (1, .int (zI v1)), (2, .int (zI v2))]) hx hb d_r_cat_71 rfl hl (by decide) rfl (fun ls hl => ?_)
        refine z_iconst hx hb d_r_cat_72 ?_
        refine lv_istore (lv' := [(4, .int (zI 0)), (3, .int (zI p4)), (0, .ref (ad (10, 0))), (1, .int (zI v1)), (2, .int (zI v2))]) hx hb d_r_cat_73 hl (by decide) rfl (fun ls hl => ?_)
        exact C_75 _ ih F _ _ _ _ _ _ _ _ hf (lv_sub hl [2, 3, 4, 1, 0] rfl) hW hS
  have C_2 : ∀ (n : Nat), ∀ (u : ZR) (v1 : Int) (H : Heap) (locs : List Loc) (ls : Array Slot), r_cat_2 F n u v1 = some (res, uo) → lv_has ls 5 [(0, .ref (ad (10, 0))), (1, .int (zI v1))] → ZW D B y ad true cu u H → va_S (fun x => B ≤ x) s.heap H locs → W p l e R s m args below meth c H locs 0 0 Q (F0 m 2 ls []) := by
    intro n
    induction n with
    | zero => intro u v1 H locs ls hf; cases (show (none : Option (Int × ZR)) = some (res, uo) from hf)
    | succ n ih =>
      intro u v1 H locs ls hf hl hW hS
      rw [r_cat_2] at hf
      refine lv_iload_n hx hb d_r_cat_2 rfl (lv_at hl 1 rfl) ?_
      refine lv_aload_n hx hb d_r_cat_3 rfl (lv_at hl 0 rfl) ?_
      refine zg_Mo_words M hW (M.2.2.1 _ w_748) d_r_cat_4 ?_
      refine z_icmp_ge hx hb d_r_cat_7 rfl hf (fun hf => ?_) (fun hf => ?_)
      · refine lv_aload_n hx hb d_r_cat_42 rfl (lv_at hl 0 rfl) ?_
        refine zg_Mo_words M hW (M.2.2.1 _ w_748) d_r_cat_43 ?_
        refine z_iconst hx hb d_r_cat_46 ?_
        obtain ⟨x1, g5, hf⟩ := ze1 hf
        have J5 : ∀ (H : Heap) (locs : List Loc) (ls : Array Slot), lv_has ls 5 [(0, .ref (ad (10, 0)))] → ZW D B y ad true cu u H → va_S (fun x => B ≤ x) s.heap H locs → W p l e R s m args below meth c H locs 0 0 Q (F0 m 58 ls [.int (zI x1)]) := by
          intro H locs ls hl hW hS
          refine lv_istore_n (lv' := [(1, .int (zI x1)), (0, .ref (ad (10, 0)))]) hx hb d_r_cat_58 rfl hl (by decide) rfl (fun ls hl => ?_)
          refine z_iconst hx hb d_r_cat_59 ?_
          refine lv_istore_n (lv' := [(2, .int (zI 1)), (1, .int (zI x1)), (0, .ref (ad (10, 0)))]) hx hb d_r_cat_60 rfl hl (by decide) rfl (fun ls hl => ?_)
          exact C_61 F _ _ _ _ _ _ hf (lv_sub hl [2, 1, 0] rfl) hW hS
        refine z_icmp_ne hx hb d_r_cat_47 rfl g5 (fun g5 => ?_) (fun g5 => ?_)
        · refine lv_aload_n hx hb d_r_cat_54 rfl (lv_at hl 0 rfl) ?_
          refine zg_Mo_words M hW (M.2.2.1 _ w_748) d_r_cat_55 ?_
          cases g5
          exact J5 _ _ _ (lv_sub hl [0] rfl) hW hS
        · refine z_iconst hx hb d_r_cat_50 ?_
          refine lv_goto hx hb d_r_cat_51 rfl ?_
          cases g5
          exact J5 _ _ _ (lv_sub hl [0] rfl) hW hS
      · refine lv_aload_n hx hb d_r_cat_10 rfl (lv_at hl 0 rfl) ?_
        refine lv_iload_n hx hb d_r_cat_11 rfl (lv_at hl 1 rfl) ?_
        obtain ⟨u2, g6, hf⟩ := ze1 hf
        refine z_callVv (As := [.int (zI v1)]) (rest := []) (k_r_follow F _ _ g6) M hml (cw_r_follow M.2.2.1 (M.2.2.1 _ w_963) (by rw [hR]; exact Nat.le_of_ble_eq_true rfl) (by rw [hR]; exact Nat.le_of_ble_eq_true rfl)) (zv_Mo hK hW) hB hW hS rfl hl.1 rfl (Nat.le_of_ble_eq_true rfl) d_r_cat_12 (by rw [hR]; exact ⟨Nat.zero_le _, Nat.zero_le _⟩) (fun H locs hW hS => ?_)
        refine lv_aload_n hx hb d_r_cat_15 rfl (lv_at hl 0 rfl) ?_
        refine zg_Mo_pathNode M hW (M.2.2.1 _ w_774) d_r_cat_16 ?_
        obtain ⟨b3, g7, hf⟩ := ze1 hf
        have JT7 : b3 = true → ∀ (H : Heap) (locs : List Loc), ZW D B y ad true cu u2 H → va_S (fun x => B ≤ x) s.heap H locs → W p l e R s m args below meth c H locs 0 0 Q (F0 m 34 ls []) := by
          intro hv H locs hW hS
          have hf := zp (hv) hf
          refine z_iconst hx hb d_r_cat_34 ?_
          cases hf
          subst hQ
          exact z_reti hx hb hr hlocks hB hK hW hS d_r_cat_35
        have JF7 : b3 = false → ∀ (H : Heap) (locs : List Loc), ZW D B y ad true cu u2 H → va_S (fun x => B ≤ x) s.heap H locs → W p l e R s m args below meth c H locs 0 0 Q (F0 m 36 ls []) := by
          intro hv H locs hW hS
          have hf := zn (by rw [hv]; decide) hf
          refine lv_iinc (k := 1) (v := zI (v1 + 1)) (lv' := [(1, .int (zI (v1 + 1))), (0, .ref (ad (10, 0)))]) hx hb d_r_cat_36 hl rfl (zI_add _ _) (by decide) rfl (fun ls hl => ?_)
          refine lv_goto hx hb d_r_cat_39 rfl ?_
          exact ih _ _ _ _ _ hf (lv_sub hl [1, 0] rfl) hW hS
        refine z_if_lt hx hb d_r_cat_19 rfl g7 (fun g7 => ?_) (fun g7 => ?_)
        · exact JT7 (Option.some.inj g7).symm _ _ hW hS
        · refine lv_aload_n hx hb d_r_cat_22 rfl (lv_at hl 0 rfl) ?_
          refine zg_Mo_isDir M hW (M.2.2.1 _ w_736) d_r_cat_23 ?_
          refine lv_aload_n hx hb d_r_cat_26 rfl (lv_at hl 0 rfl) ?_
          refine zg_Mo_pathNode M hW (M.2.2.1 _ w_774) d_r_cat_27 ?_
          obtain ⟨g8, g7⟩ := zg g7
          refine zr_4 M hW g8 d_r_cat_30 ?_
          refine z_if_eq hx hb d_r_cat_31 rfl g7 (fun g7 => ?_) (fun g7 => ?_)
          · exact JF7 (Option.some.inj g7).symm _ _ hW hS
          · exact JT7 (Option.some.inj g7).symm _ _ hW hS
  rw [r_cat] at hf
  refine z_iconst hx hb d_r_cat_0 ?_
  refine lv_istore_n (lv' := [(1, .int (zI 1)), (0, .ref (ad (10, 0)))]) hx hb d_r_cat_1 rfl hl (by decide) rfl (fun ls hl => ?_)
  exact C_2 F _ _ _ _ _ hf (lv_sub hl [1, 0] rfl) hW hS
set_option maxRecDepth 100000 in
set_option maxHeartbeats 4000000 in
theorem k_r_emitNumber {l : Launch} {D : va_G} {B : Nat} {y : Nat → ClassId} {ad : Nat × Nat → Nat} {cu : ZC} (F : Nat) (u : ZR) (v1 : Int) {uo : ZR} (hf : r_emitNumber F u v1 = some uo) : Met l y_r_emitNumber (.code y_r_emitNumber b_r_emitNumber 3 none :: zt) { frames := 1, cells := 0, slots := 0, locals := 21 } (va_Pc [.ref (ad (10, 0)), .int (zI v1)] (fun U => ZP D B y ad true cu u U)) (va_Qv (fun (_ : Unit) => True) (fun _ t => ZP D B y ad true cu uo t) (fun x => B ≤ x)) 0 0 (fun x => B ≤ x) := by
  refine Met.ofW (cc := b_r_emitNumber) (maxL := 3) (ret := none) (by decide) rfl ?_
  intro p e s m args below meth c s₁ Bd hml hv
  obtain ⟨hargs, hB, hW, hK⟩ := hv
  have hx := Bd.exec
  have hb := Bd.bytes
  have hr := Bd.returns
  have hts0 := atoms_spec (ws := .code y_r_emitNumber b_r_emitNumber 3 none :: zt) Bd.pre
  have hown : s.vm.findClass "TreeShellModel" = some m.cls := findClass_of_methodNamed Bd.named
  have hlocks := Bd.notSynchronized
  have M : ZM p c b_r_emitNumber s args m "TreeShellModel" D y := ⟨hx, hb, fun w h => hts0 w (List.mem_cons_of_mem _ h), hown, hK⟩
  have hS : va_S (fun x => B ≤ x) s.heap s.heap [] := va_S.rf
  have hE := lg_entry_eq m ([.ref (ad (10, 0)), .int (zI v1)] : List Value) 3
  rw [← hargs] at hE
  rw [hE]
  have hl := lv_entry ([.ref (ad (10, 0)), .int (zI v1)] : List Value) (n := 3) (Nat.le_of_ble_eq_true rfl)
  generalize (lg_sl ([.ref (ad (10, 0)), .int (zI v1)] : List Value) ++ List.replicate (3 - (lg_sl ([.ref (ad (10, 0)), .int (zI v1)] : List Value)).length) Slot.unset).toArray = ls at hl ⊢
  have hl : lv_has ls 3 [(0, .ref (ad (10, 0))), (1, .int (zI v1))] := hl
  refine z_start (fun Q R hQ hR => ?_)
  generalize hH : s.heap = H at hW
  have hS : va_S (fun x => B ≤ x) s.heap H [] := by rw [← hH]; exact hS
  have C_5 : ∀ (n : Nat), ∀ (u : ZR) (v1 : Int) (v2 : Int) (H : Heap) (locs : List Loc) (ls : Array Slot), r_emitNumber_5 F n u v1 v2 = some uo → lv_has ls 3 [(0, .ref (ad (10, 0))), (1, .int (zI v1)), (2, .int (zI v2))] → ZW D B y ad true cu u H → va_S (fun x => B ≤ x) s.heap H locs → W p l e R s m args below meth c H locs 0 0 Q (F0 m 5 ls []) := by
    intro n
    induction n with
    | zero => intro u v1 v2 H locs ls hf; cases (show (none : Option (ZR)) = some uo from hf)
    | succ n ih =>
      intro u v1 v2 H locs ls hf hl hW hS
      rw [r_emitNumber_5] at hf
      refine lv_iload_n hx hb d_r_emitNumber_5 rfl (lv_at hl 2 rfl) ?_
      refine z_if_le hx hb d_r_emitNumber_6 rfl hf (fun hf => ?_) (fun hf => ?_)
      · cases hf
        subst hQ
        exact z_retv hx hb hr hlocks hB hK hW hS d_r_emitNumber_30
      · refine lv_aload_n hx hb d_r_emitNumber_9 rfl (lv_at hl 0 rfl) ?_
        refine z_bipush hx hb d_r_emitNumber_10 rfl ?_
        refine lv_iload_n hx hb d_r_emitNumber_12 rfl (lv_at hl 1 rfl) ?_
        refine lv_iload_n hx hb d_r_emitNumber_13 rfl (lv_at hl 2 rfl) ?_
        obtain ⟨g1, hf⟩ := zg hf
        refine z_idiv hx hb g1 d_r_emitNumber_14 ?_
        refine z_bipush hx hb d_r_emitNumber_15 rfl ?_
        refine z_irem hx hb (by decide) d_r_emitNumber_17 ?_
        refine z_iadd hx hb d_r_emitNumber_18 ?_
        obtain ⟨u2, g2, hf⟩ := ze1 hf
        refine z_callVv (As := [.int (zI (48 + (zrem (zdiv v1 v2) 10)))]) (rest := []) (k_r_emit F _ _ g2) M hml (cw_r_emit M.2.2.1 (M.2.2.1 _ w_1002) (by rw [hR]; exact Nat.le_of_ble_eq_true rfl) (by rw [hR]; exact Nat.le_of_ble_eq_true rfl)) (zv_Mo hK hW) hB hW hS rfl hl.1 rfl (Nat.le_of_ble_eq_true rfl) d_r_emitNumber_19 (by rw [hR]; exact ⟨Nat.zero_le _, Nat.zero_le _⟩) (fun H locs hW hS => ?_)
        refine lv_iload_n hx hb d_r_emitNumber_22 rfl (lv_at hl 2 rfl) ?_
        refine z_bipush hx hb d_r_emitNumber_23 rfl ?_
        refine z_idiv hx hb (by decide) d_r_emitNumber_25 ?_
        refine lv_istore_n (lv' := [(2, .int (zI (zdiv v2 10))), (0, .ref (ad (10, 0))), (1, .int (zI v1))]) hx hb d_r_emitNumber_26 rfl hl (by decide) rfl (fun ls hl => ?_)
        refine lv_goto hx hb d_r_emitNumber_27 rfl ?_
        exact ih _ _ _ _ _ _ hf (lv_sub hl [1, 2, 0] rfl) hW hS
  rw [r_emitNumber] at hf
  refine lv_iload_n hx hb d_r_emitNumber_0 rfl (lv_at hl 1 rfl) ?_
  obtain ⟨p1, g3, hf⟩ := ze1 hf
  refine z_callSi (As := [.int (zI v1)]) (rest := []) (k_r_scale F _ _ g3) M hml (cw_r_scale M.2.2.1 (M.2.2.1 _ w_960) (by rw [hR]; exact Nat.le_of_ble_eq_true rfl) (by rw [hR]; exact Nat.le_of_ble_eq_true rfl)) hB hW hS rfl hl.1 rfl (Nat.le_of_ble_eq_true rfl) d_r_emitNumber_1 (by rw [hR]; exact ⟨Nat.zero_le _, Nat.zero_le _⟩) (fun H locs hW hS => ?_)
  refine lv_istore_n (lv' := [(2, .int (zI p1)), (0, .ref (ad (10, 0))), (1, .int (zI v1))]) hx hb d_r_emitNumber_4 rfl hl (by decide) rfl (fun ls hl => ?_)
  exact C_5 F _ _ _ _ _ _ hf (lv_sub hl [1, 2, 0] rfl) hW hS
set_option maxRecDepth 100000 in
set_option maxHeartbeats 4000000 in
theorem k_r_wc {l : Launch} {D : va_G} {B : Nat} {y : Nat → ClassId} {ad : Nat × Nat → Nat} {cu : ZC} (F : Nat) (u : ZR) {res : Int} {uo : ZR} (hf : r_wc F u = some (res, uo)) : Met l y_r_wc (.code y_r_wc b_r_wc 5 (some .int) :: zt) { frames := 4, cells := 0, slots := 0, locals := 97 } (va_Pc [.ref (ad (10, 0))] (fun U => ZP D B y ad true cu u U)) (va_Qi (fun v (_ : Unit) => v = zI res) (fun _ t => ZP D B y ad true cu uo t) (fun x => B ≤ x)) 0 0 (fun x => B ≤ x) := by
  refine Met.ofW (cc := b_r_wc) (maxL := 5) (ret := (some .int)) (by decide) rfl ?_
  intro p e s m args below meth c s₁ Bd hml hv
  obtain ⟨hargs, hB, hW, hK⟩ := hv
  have hx := Bd.exec
  have hb := Bd.bytes
  have hr := Bd.returns
  have hts0 := atoms_spec (ws := .code y_r_wc b_r_wc 5 (some .int) :: zt) Bd.pre
  have hown : s.vm.findClass "TreeShellModel" = some m.cls := findClass_of_methodNamed Bd.named
  have hlocks := Bd.notSynchronized
  have M : ZM p c b_r_wc s args m "TreeShellModel" D y := ⟨hx, hb, fun w h => hts0 w (List.mem_cons_of_mem _ h), hown, hK⟩
  have hS : va_S (fun x => B ≤ x) s.heap s.heap [] := va_S.rf
  have hE := lg_entry_eq m ([.ref (ad (10, 0))] : List Value) 5
  rw [← hargs] at hE
  rw [hE]
  have hl := lv_entry ([.ref (ad (10, 0))] : List Value) (n := 5) (Nat.le_of_ble_eq_true rfl)
  generalize (lg_sl ([.ref (ad (10, 0))] : List Value) ++ List.replicate (5 - (lg_sl ([.ref (ad (10, 0))] : List Value)).length) Slot.unset).toArray = ls at hl ⊢
  have hl : lv_has ls 5 [(0, .ref (ad (10, 0)))] := hl
  refine z_start (fun Q R hQ hR => ?_)
  generalize hH : s.heap = H at hW
  have hS : va_S (fun x => B ≤ x) s.heap H [] := by rw [← hH]; exact hS
  have C_26 : ∀ (n : Nat), ∀ (u : ZR) (v1 : Int) (v2 : Int) (v3 : Int) (H : Heap) (locs : List Loc) (ls : Array Slot), r_wc_26 F n u v1 v2 v3 = some (res, uo) → lv_has ls 5 [(0, .ref (ad (10, 0))), (1, .int (zI v1)), (2, .int (zI v2)), (3, .int (zI v3))] → ZW D B y ad true cu u H → va_S (fun x => B ≤ x) s.heap H locs → W p l e R s m args below meth c H locs 0 0 Q (F0 m 26 ls []) := by
    intro n
    induction n with
    | zero => intro u v1 v2 v3 H locs ls hf; cases (show (none : Option (Int × ZR)) = some (res, uo) from hf)
    | succ n ih =>
      intro u v1 v2 v3 H locs ls hf hl hW hS
      rw [r_wc_26] at hf
      refine lv_iload_n hx hb d_r_wc_26 rfl (lv_at hl 3 rfl) ?_
      refine lv_aload_n hx hb d_r_wc_27 rfl (lv_at hl 0 rfl) ?_
      refine zg_Mo_sourceLength M hW (M.2.2.1 _ w_770) d_r_wc_28 ?_
      refine z_icmp_ge hx hb d_r_wc_31 rfl hf (fun hf => ?_) (fun hf => ?_)
      · refine lv_aload_n hx hb d_r_wc_131 rfl (lv_at hl 0 rfl) ?_
        refine lv_iload_n hx hb d_r_wc_132 rfl (lv_at hl 1 rfl) ?_
        obtain ⟨u3, g1, hf⟩ := ze1 hf
        refine z_callVv (As := [.int (zI v1)]) (rest := []) (k_r_emitNumber F _ _ g1) M hml (cw_r_emitNumber M.2.2.1 (M.2.2.1 _ w_1020) (by rw [hR]; exact Nat.le_of_ble_eq_true rfl) (by rw [hR]; exact Nat.le_of_ble_eq_true rfl)) (zv_Mo hK hW) hB hW hS rfl hl.1 rfl (Nat.le_of_ble_eq_true rfl) d_r_wc_133 (by rw [hR]; exact ⟨Nat.zero_le _, Nat.zero_le _⟩) (fun H locs hW hS => ?_)
        refine lv_aload_n hx hb d_r_wc_136 rfl (lv_at hl 0 rfl) ?_
        refine z_bipush hx hb d_r_wc_137 rfl ?_
        obtain ⟨u4, g2, hf⟩ := ze1 hf
        refine z_callVv (As := [.int (zI 32)]) (rest := []) (k_r_emit F _ _ g2) M hml (cw_r_emit M.2.2.1 (M.2.2.1 _ w_1002) (by rw [hR]; exact Nat.le_of_ble_eq_true rfl) (by rw [hR]; exact Nat.le_of_ble_eq_true rfl)) (zv_Mo hK hW) hB hW hS rfl hl.1 rfl (Nat.le_of_ble_eq_true rfl) d_r_wc_139 (by rw [hR]; exact ⟨Nat.zero_le _, Nat.zero_le _⟩) (fun H locs hW hS => ?_)
        refine lv_aload_n hx hb d_r_wc_142 rfl (lv_at hl 0 rfl) ?_
        refine lv_iload_n hx hb d_r_wc_143 rfl (lv_at hl 2 rfl) ?_
        obtain ⟨u5, g3, hf⟩ := ze1 hf
        refine z_callVv (As := [.int (zI v2)]) (rest := []) (k_r_emitNumber F _ _ g3) M hml (cw_r_emitNumber M.2.2.1 (M.2.2.1 _ w_1020) (by rw [hR]; exact Nat.le_of_ble_eq_true rfl) (by rw [hR]; exact Nat.le_of_ble_eq_true rfl)) (zv_Mo hK hW) hB hW hS rfl hl.1 rfl (Nat.le_of_ble_eq_true rfl) d_r_wc_144 (by rw [hR]; exact ⟨Nat.zero_le _, Nat.zero_le _⟩) (fun H locs hW hS => ?_)
        refine lv_aload_n hx hb d_r_wc_147 rfl (lv_at hl 0 rfl) ?_
        refine z_bipush hx hb d_r_wc_148 rfl ?_
        obtain ⟨u6, g4, hf⟩ := ze1 hf
        refine z_callVv (As := [.int (zI 32)]) (rest := []) (k_r_emit F _ _ g4) M hml (cw_r_emit M.2.2.1 (M.2.2.1 _ w_1002) (by rw [hR]; exact Nat.le_of_ble_eq_true rfl) (by rw [hR]; exact Nat.le_of_ble_eq_true rfl)) (zv_Mo hK hW) hB hW hS rfl hl.1 rfl (Nat.le_of_ble_eq_true rfl) d_r_wc_150 (by rw [hR]; exact ⟨Nat.zero_le _, Nat.zero_le _⟩) (fun H locs hW hS => ?_)
        refine lv_aload_n hx hb d_r_wc_153 rfl (lv_at hl 0 rfl) ?_
        refine lv_aload_n hx hb d_r_wc_154 rfl (lv_at hl 0 rfl) ?_
        refine zg_Mo_sourceLength M hW (M.2.2.1 _ w_770) d_r_wc_155 ?_
        obtain ⟨u7, g5, hf⟩ := ze1 hf
        refine z_callVv (As := [.int (zI (rI u6 38))]) (rest := []) (k_r_emitNumber F _ _ g5) M hml (cw_r_emitNumber M.2.2.1 (M.2.2.1 _ w_1020) (by rw [hR]; exact Nat.le_of_ble_eq_true rfl) (by rw [hR]; exact Nat.le_of_ble_eq_true rfl)) (zv_Mo hK hW) hB hW hS rfl hl.1 rfl (Nat.le_of_ble_eq_true rfl) d_r_wc_158 (by rw [hR]; exact ⟨Nat.zero_le _, Nat.zero_le _⟩) (fun H locs hW hS => ?_)
        refine lv_aload_n hx hb d_r_wc_161 rfl (lv_at hl 0 rfl) ?_
        refine z_bipush hx hb d_r_wc_162 rfl ?_
        obtain ⟨u8, g6, hf⟩ := ze1 hf
        refine z_callVv (As := [.int (zI 10)]) (rest := []) (k_r_emit F _ _ g6) M hml (cw_r_emit M.2.2.1 (M.2.2.1 _ w_1002) (by rw [hR]; exact Nat.le_of_ble_eq_true rfl) (by rw [hR]; exact Nat.le_of_ble_eq_true rfl)) (zv_Mo hK hW) hB hW hS rfl hl.1 rfl (Nat.le_of_ble_eq_true rfl) d_r_wc_164 (by rw [hR]; exact ⟨Nat.zero_le _, Nat.zero_le _⟩) (fun H locs hW hS => ?_)
        refine z_iconst hx hb d_r_wc_167 ?_
        cases hf
        subst hQ
        exact z_reti hx hb hr hlocks hB hK hW hS d_r_wc_168
      · refine lv_aload_n hx hb d_r_wc_34 rfl (lv_at hl 0 rfl) ?_
        refine zg_Mo_source M hW (M.2.2.1 _ w_769) d_r_wc_35 ?_
        refine lv_iload_n hx hb d_r_wc_38 rfl (lv_at hl 3 rfl) ?_
        obtain ⟨g7, hf⟩ := zg hf
        refine zr_37 M hW g7 d_r_wc_39 ?_
        refine z_bipush hx hb d_r_wc_40 rfl ?_
        obtain ⟨x9, g8, hf⟩ := ze1 hf
        have J8 : ∀ (H : Heap) (locs : List Loc) (ls : Array Slot), lv_has ls 5 [(0, .ref (ad (10, 0))), (2, .int (zI v2)), (3, .int (zI v3))] → ZW D B y ad true cu u H → va_S (fun x => B ≤ x) s.heap H locs → W p l e R s m args below meth c H locs 0 0 Q (F0 m 52 ls [.int (zI x9)]) := by
          intro H locs ls hl hW hS
          refine lv_istore_n (lv' := [(1, .int (zI x9)), (0, .ref (ad (10, 0))), (2, .int (zI v2)), (3, .int (zI v3))]) hx hb d_r_wc_52 rfl hl (by decide) rfl (fun ls hl => ?_)
          refine lv_iload_n hx hb d_r_wc_53 rfl (lv_at hl 3 rfl) ?_
          obtain ⟨x11, g9, hf⟩ := ze1 hf
          have J9 : ∀ (H : Heap) (locs : List Loc) (ls : Array Slot), lv_has ls 5 [(0, .ref (ad (10, 0))), (1, .int (zI x9)), (2, .int (zI v2)), (3, .int (zI v3))] → ZW D B y ad true cu u H → va_S (fun x => B ≤ x) s.heap H locs → W p l e R s m args below meth c H locs 0 0 Q (F0 m 88 ls [.int (zI x11)]) := by
            intro H locs ls hl hW hS
            refine lv_istore (lv' := [(4, .int (zI x11)), (0, .ref (ad (10, 0))), (1, .int (zI x9)), (2, .int (zI v2)), (3, .int (zI v3))]) hx hb d_r_wc_88 hl (by decide) rfl (fun ls hl => ?_)
            refine lv_iload hx hb d_r_wc_90 (lv_at hl 0 rfl) ?_
            obtain ⟨x13, g10, hf⟩ := ze1 hf
            have J10 : ∀ (H : Heap) (locs : List Loc) (ls : Array Slot), lv_has ls 5 [(0, .ref (ad (10, 0))), (1, .int (zI x9)), (3, .int (zI v3))] → ZW D B y ad true cu u H → va_S (fun x => B ≤ x) s.heap H locs → W p l e R s m args below meth c H locs 0 0 Q (F0 m 124 ls [.int (zI x13)]) := by
              intro H locs ls hl hW hS
              refine lv_istore_n (lv' := [(2, .int (zI x13)), (0, .ref (ad (10, 0))), (1, .int (zI x9)), (3, .int (zI v3))]) hx hb d_r_wc_124 rfl hl (by decide) rfl (fun ls hl => ?_)
              refine lv_iinc (k := 3) (v := zI (v3 + 1)) (lv' := [(3, .int (zI (v3 + 1))), (2, .int (zI x13)), (0, .ref (ad (10, 0))), (1, .int (zI x9))]) hx hb d_r_wc_125 hl rfl (zI_add _ _) (by decide) rfl (fun ls hl => ?_)
              refine lv_goto hx hb d_r_wc_128 rfl ?_
              exact ih _ _ _ _ _ _ _ hf (lv_sub hl [2, 3, 1, 0] rfl) hW hS
            obtain ⟨b12, g11, g10⟩ := ze1 g10
            have JT11 : b12 = true → ∀ (H : Heap) (locs : List Loc), ZW D B y ad true cu u H → va_S (fun x => B ≤ x) s.heap H locs → W p l e R s m args below meth c H locs 0 0 Q (F0 m 123 ls []) := by
              intro hv H locs hW hS
              have g10 := zp (hv) g10
              refine lv_iload_n hx hb d_r_wc_123 rfl (lv_at hl 3 rfl) ?_
              cases g10
              exact J10 _ _ _ (lv_sub hl [1, 2, 4] rfl) hW hS
            have JF11 : b12 = false → ∀ (H : Heap) (locs : List Loc), ZW D B y ad true cu u H → va_S (fun x => B ≤ x) s.heap H locs → W p l e R s m args below meth c H locs 0 0 Q (F0 m 117 ls []) := by
              intro hv H locs hW hS
              have g10 := zn (by rw [hv]; decide) g10
              refine lv_iload_n hx hb d_r_wc_117 rfl (lv_at hl 3 rfl) ?_
              refine z_iconst hx hb d_r_wc_118 ?_
              refine z_iadd hx hb d_r_wc_119 ?_
              refine lv_goto hx hb d_r_wc_120 rfl ?_
              cases g10
              exact J10 _ _ _ (lv_sub hl [1, 2, 4] rfl) hW hS
            refine z_if_eq hx hb d_r_wc_92 rfl g11 (fun g11 => ?_) (fun g11 => ?_)
            · exact JT11 (Option.some.inj g11).symm _ _ hW hS
            · refine lv_aload_n hx hb d_r_wc_95 rfl (lv_at hl 1 rfl) ?_
              refine zg_Mo_source M hW (M.2.2.1 _ w_769) d_r_wc_96 ?_
              refine lv_iload_n hx hb d_r_wc_99 rfl (lv_at hl 4 rfl) ?_
              refine zr_37 M hW g7 d_r_wc_100 ?_
              refine z_bipush hx hb d_r_wc_101 rfl ?_
              refine z_icmp_eq hx hb d_r_wc_103 rfl g11 (fun g11 => ?_) (fun g11 => ?_)
              · exact JT11 (Option.some.inj g11).symm _ _ hW hS
              · refine lv_aload_n hx hb d_r_wc_106 rfl (lv_at hl 1 rfl) ?_
                refine zg_Mo_source M hW (M.2.2.1 _ w_769) d_r_wc_107 ?_
                refine lv_iload_n hx hb d_r_wc_110 rfl (lv_at hl 4 rfl) ?_
                refine zr_37 M hW g7 d_r_wc_111 ?_
                refine z_bipush hx hb d_r_wc_112 rfl ?_
                refine z_icmp_eq hx hb d_r_wc_114 rfl g11 (fun g11 => ?_) (fun g11 => ?_)
                · exact JT11 (Option.some.inj g11).symm _ _ hW hS
                · exact JF11 (Option.some.inj g11).symm _ _ hW hS
          obtain ⟨b10, g12, g9⟩ := ze1 g9
          have JT12 : b10 = true → ∀ (H : Heap) (locs : List Loc), ZW D B y ad true cu u H → va_S (fun x => B ≤ x) s.heap H locs → W p l e R s m args below meth c H locs 0 0 Q (F0 m 83 ls []) := by
            intro hv H locs hW hS
            have g9 := zp (hv) g9
            refine z_iconst hx hb d_r_wc_83 ?_
            refine lv_goto hx hb d_r_wc_84 rfl ?_
            cases g9
            exact J9 _ _ _ (lv_sub hl [1, 0, 2, 3] rfl) hW hS
          have JF12 : b10 = false → ∀ (H : Heap) (locs : List Loc), ZW D B y ad true cu u H → va_S (fun x => B ≤ x) s.heap H locs → W p l e R s m args below meth c H locs 0 0 Q (F0 m 87 ls []) := by
            intro hv H locs hW hS
            have g9 := zn (by rw [hv]; decide) g9
            refine z_iconst hx hb d_r_wc_87 ?_
            cases g9
            exact J9 _ _ _ (lv_sub hl [1, 0, 2, 3] rfl) hW hS
          refine z_if_eq hx hb d_r_wc_54 rfl g12 (fun g12 => ?_) (fun g12 => ?_)
          · exact JT12 (Option.some.inj g12).symm _ _ hW hS
          · refine lv_aload_n hx hb d_r_wc_57 rfl (lv_at hl 1 rfl) ?_
            refine zg_Mo_source M hW (M.2.2.1 _ w_769) d_r_wc_58 ?_
            refine lv_iload_n hx hb d_r_wc_61 rfl (lv_at hl 3 rfl) ?_
            refine z_iconst hx hb d_r_wc_62 ?_
            refine z_isub hx hb d_r_wc_63 ?_
            obtain ⟨g13, g12⟩ := zg g12
            refine zr_37 M hW g13 d_r_wc_64 ?_
            refine z_bipush hx hb d_r_wc_65 rfl ?_
            refine z_icmp_eq hx hb d_r_wc_67 rfl g12 (fun g12 => ?_) (fun g12 => ?_)
            · exact JT12 (Option.some.inj g12).symm _ _ hW hS
            · refine lv_aload_n hx hb d_r_wc_70 rfl (lv_at hl 1 rfl) ?_
              refine zg_Mo_source M hW (M.2.2.1 _ w_769) d_r_wc_71 ?_
              refine lv_iload_n hx hb d_r_wc_74 rfl (lv_at hl 3 rfl) ?_
              refine z_iconst hx hb d_r_wc_75 ?_
              refine z_isub hx hb d_r_wc_76 ?_
              refine zr_37 M hW g13 d_r_wc_77 ?_
              refine z_bipush hx hb d_r_wc_78 rfl ?_
              refine z_icmp_ne hx hb d_r_wc_80 rfl g12 (fun g12 => ?_) (fun g12 => ?_)
              · exact JF12 (Option.some.inj g12).symm _ _ hW hS
              · exact JT12 (Option.some.inj g12).symm _ _ hW hS
        refine z_icmp_ne hx hb d_r_wc_42 rfl g8 (fun g8 => ?_) (fun g8 => ?_)
        · refine lv_iload_n hx hb d_r_wc_51 rfl (lv_at hl 1 rfl) ?_
          cases g8
          exact J8 _ _ _ (lv_sub hl [0, 2, 3] rfl) hW hS
        · refine lv_iload_n hx hb d_r_wc_45 rfl (lv_at hl 1 rfl) ?_
          refine z_iconst hx hb d_r_wc_46 ?_
          refine z_iadd hx hb d_r_wc_47 ?_
          refine lv_goto hx hb d_r_wc_48 rfl ?_
          cases g8
          exact J8 _ _ _ (lv_sub hl [0, 2, 3] rfl) hW hS
  rw [r_wc] at hf
  refine lv_aload_n hx hb d_r_wc_0 rfl (lv_at hl 0 rfl) ?_
  refine zg_Mo_words M hW (M.2.2.1 _ w_748) d_r_wc_1 ?_
  refine z_iconst hx hb d_r_wc_4 ?_
  refine z_icmp_le hx hb d_r_wc_5 rfl hf (fun hf => ?_) (fun hf => ?_)
  · refine lv_aload_n hx hb d_r_wc_10 rfl (lv_at hl 0 rfl) ?_
    refine z_iconst hx hb d_r_wc_11 ?_
    obtain ⟨p1, u2, g14, hf⟩ := ze2 hf
    refine z_callVi (As := [.int (zI 1)]) (rest := []) (k_r_reads F _ _ g14) M hml (cw_r_reads M.2.2.1 (M.2.2.1 _ w_1011) (by rw [hR]; exact Nat.le_of_ble_eq_true rfl) (by rw [hR]; exact Nat.le_of_ble_eq_true rfl)) (zv_Mo hK hW) hB hW hS rfl hl.1 rfl (Nat.le_of_ble_eq_true rfl) d_r_wc_12 (by rw [hR]; exact ⟨Nat.zero_le _, Nat.zero_le _⟩) (fun H locs hW hS => ?_)
    refine z_if_ne hx hb d_r_wc_15 rfl hf (fun hf => ?_) (fun hf => ?_)
    · refine z_iconst hx hb d_r_wc_20 ?_
      refine lv_istore_n (lv' := [(1, .int (zI 0)), (0, .ref (ad (10, 0)))]) hx hb d_r_wc_21 rfl hl (by decide) rfl (fun ls hl => ?_)
      refine z_iconst hx hb d_r_wc_22 ?_
      refine lv_istore_n (lv' := [(2, .int (zI 0)), (1, .int (zI 0)), (0, .ref (ad (10, 0)))]) hx hb d_r_wc_23 rfl hl (by decide) rfl (fun ls hl => ?_)
      refine z_iconst hx hb d_r_wc_24 ?_
      refine lv_istore_n (lv' := [(3, .int (zI 0)), (2, .int (zI 0)), (1, .int (zI 0)), (0, .ref (ad (10, 0)))]) hx hb d_r_wc_25 rfl hl (by decide) rfl (fun ls hl => ?_)
      exact C_26 F _ _ _ _ _ _ _ hf (lv_sub hl [3, 2, 1, 0] rfl) hW hS
    · refine z_iconst hx hb d_r_wc_18 ?_
      cases hf
      subst hQ
      exact z_reti hx hb hr hlocks hB hK hW hS d_r_wc_19
  · refine z_iconst hx hb d_r_wc_8 ?_
    cases hf
    subst hQ
    exact z_reti hx hb hr hlocks hB hK hW hS d_r_wc_9
set_option maxRecDepth 100000 in
set_option maxHeartbeats 4000000 in
theorem k_r_stands {l : Launch} {D : va_G} {B : Nat} {y : Nat → ClassId} {ad : Nat × Nat → Nat} {cu : ZC} (F : Nat) (u : ZR) (v1 : Int) (v2 : Int) (v3 : Int) {res : Int} (hf : r_stands F u v1 v2 v3 = some res) : Met l y_r_stands (.code y_r_stands b_r_stands 5 (some .boolean) :: zt) { frames := 0, cells := 0, slots := 0, locals := 0 } (va_Pc [.ref (ad (10, 0)), .int (zI v1), .int (zI v2), .int (zI v3)] (fun U => ZP D B y ad true cu u U)) (va_Qi (fun v (_ : Unit) => v = zI res) (fun _ t => ZP D B y ad true cu u t) (fun x => B ≤ x)) 0 0 (fun x => B ≤ x) := by
  refine Met.ofW (cc := b_r_stands) (maxL := 5) (ret := (some .boolean)) (by decide) rfl ?_
  intro p e s m args below meth c s₁ Bd hml hv
  obtain ⟨hargs, hB, hW, hK⟩ := hv
  have hx := Bd.exec
  have hb := Bd.bytes
  have hr := Bd.returns
  have hts0 := atoms_spec (ws := .code y_r_stands b_r_stands 5 (some .boolean) :: zt) Bd.pre
  have hown : s.vm.findClass "TreeShellModel" = some m.cls := findClass_of_methodNamed Bd.named
  have hlocks := Bd.notSynchronized
  have M : ZM p c b_r_stands s args m "TreeShellModel" D y := ⟨hx, hb, fun w h => hts0 w (List.mem_cons_of_mem _ h), hown, hK⟩
  have hS : va_S (fun x => B ≤ x) s.heap s.heap [] := va_S.rf
  have hE := lg_entry_eq m ([.ref (ad (10, 0)), .int (zI v1), .int (zI v2), .int (zI v3)] : List Value) 5
  rw [← hargs] at hE
  rw [hE]
  have hl := lv_entry ([.ref (ad (10, 0)), .int (zI v1), .int (zI v2), .int (zI v3)] : List Value) (n := 5) (Nat.le_of_ble_eq_true rfl)
  generalize (lg_sl ([.ref (ad (10, 0)), .int (zI v1), .int (zI v2), .int (zI v3)] : List Value) ++ List.replicate (5 - (lg_sl ([.ref (ad (10, 0)), .int (zI v1), .int (zI v2), .int (zI v3)] : List Value)).length) Slot.unset).toArray = ls at hl ⊢
  have hl : lv_has ls 5 [(0, .ref (ad (10, 0))), (1, .int (zI v1)), (2, .int (zI v2)), (3, .int (zI v3))] := hl
  refine z_start (fun Q R hQ hR => ?_)
  generalize hH : s.heap = H at hW
  have hS : va_S (fun x => B ≤ x) s.heap H [] := by rw [← hH]; exact hS
  have C_3 : ∀ (n : Nat), ∀ (v1 : Int) (v2 : Int) (v3 : Int) (v4 : Int) (H : Heap) (locs : List Loc) (ls : Array Slot), r_stands_3 F n u v1 v2 v3 v4 = some res → lv_has ls 5 [(0, .ref (ad (10, 0))), (1, .int (zI v1)), (2, .int (zI v2)), (3, .int (zI v3)), (4, .int (zI v4))] → ZW D B y ad true cu u H → va_S (fun x => B ≤ x) s.heap H locs → W p l e R s m args below meth c H locs 0 0 Q (F0 m 3 ls []) := by
    intro n
    induction n with
    | zero => intro v1 v2 v3 v4 H locs ls hf; cases (show (none : Option (Int)) = some res from hf)
    | succ n ih =>
      intro v1 v2 v3 v4 H locs ls hf hl hW hS
      rw [r_stands_3] at hf
      refine lv_iload hx hb d_r_stands_3 (lv_at hl 4 rfl) ?_
      refine lv_iload_n hx hb d_r_stands_5 rfl (lv_at hl 2 rfl) ?_
      refine z_icmp_ge hx hb d_r_stands_6 rfl hf (fun hf => ?_) (fun hf => ?_)
      · refine z_iconst hx hb d_r_stands_50 ?_
        cases hf
        subst hQ
        exact z_retz hx hb (Or.inr rfl) hr hlocks hB hK hW hS d_r_stands_51
      · refine lv_aload_n hx hb d_r_stands_9 rfl (lv_at hl 0 rfl) ?_
        refine zg_Mo_wordChar M hW (M.2.2.1 _ w_752) d_r_stands_10 ?_
        refine lv_iload hx hb d_r_stands_13 (lv_at hl 4 rfl) ?_
        obtain ⟨g1, hf⟩ := zg hf
        refine zr_20 M hW g1 d_r_stands_15 ?_
        refine z_bipush hx hb d_r_stands_16 rfl ?_
        obtain ⟨b1, g2, hf⟩ := ze1 hf
        have JT2 : b1 = true → ∀ (H : Heap) (locs : List Loc), ZW D B y ad true cu u H → va_S (fun x => B ≤ x) s.heap H locs → W p l e R s m args below meth c H locs 0 0 Q (F0 m 44 ls []) := by
          intro hv H locs hW hS
          have hf := zp (hv) hf
          refine lv_iinc (k := 4) (v := zI (v4 + 1)) (lv' := [(4, .int (zI (v4 + 1))), (0, .ref (ad (10, 0))), (1, .int (zI v1)), (2, .int (zI v2)), (3, .int (zI v3))]) hx hb d_r_stands_44 hl rfl (zI_add _ _) (by decide) rfl (fun ls hl => ?_)
          refine lv_goto hx hb d_r_stands_47 rfl ?_
          exact ih _ _ _ _ _ _ _ hf (lv_sub hl [1, 2, 3, 4, 0] rfl) hW hS
        have JF2 : b1 = false → ∀ (H : Heap) (locs : List Loc), ZW D B y ad true cu u H → va_S (fun x => B ≤ x) s.heap H locs → W p l e R s m args below meth c H locs 0 0 Q (F0 m 42 ls []) := by
          intro hv H locs hW hS
          have hf := zn (by rw [hv]; decide) hf
          refine z_iconst hx hb d_r_stands_42 ?_
          cases hf
          subst hQ
          exact z_retz hx hb (Or.inl rfl) hr hlocks hB hK hW hS d_r_stands_43
        refine z_icmp_eq hx hb d_r_stands_18 rfl g2 (fun g2 => ?_) (fun g2 => ?_)
        · exact JT2 (Option.some.inj g2).symm _ _ hW hS
        · refine lv_aload_n hx hb d_r_stands_21 rfl (lv_at hl 0 rfl) ?_
          refine zg_Mo_wordChar M hW (M.2.2.1 _ w_752) d_r_stands_22 ?_
          refine lv_iload hx hb d_r_stands_25 (lv_at hl 4 rfl) ?_
          refine zr_20 M hW g1 d_r_stands_27 ?_
          refine lv_aload_n hx hb d_r_stands_28 rfl (lv_at hl 0 rfl) ?_
          refine zg_Mo_source M hW (M.2.2.1 _ w_769) d_r_stands_29 ?_
          refine lv_iload_n hx hb d_r_stands_32 rfl (lv_at hl 3 rfl) ?_
          refine lv_iload hx hb d_r_stands_33 (lv_at hl 4 rfl) ?_
          refine z_iadd hx hb d_r_stands_35 ?_
          refine lv_iload_n hx hb d_r_stands_36 rfl (lv_at hl 1 rfl) ?_
          refine z_isub hx hb d_r_stands_37 ?_
          obtain ⟨g3, g2⟩ := zg g2
          refine zr_37 M hW g3 d_r_stands_38 ?_
          refine z_icmp_eq hx hb d_r_stands_39 rfl g2 (fun g2 => ?_) (fun g2 => ?_)
          · exact JT2 (Option.some.inj g2).symm _ _ hW hS
          · exact JF2 (Option.some.inj g2).symm _ _ hW hS
  rw [r_stands] at hf
  refine lv_iload_n hx hb d_r_stands_0 rfl (lv_at hl 1 rfl) ?_
  refine lv_istore (lv' := [(4, .int (zI v1)), (0, .ref (ad (10, 0))), (1, .int (zI v1)), (2, .int (zI v2)), (3, .int (zI v3))]) hx hb d_r_stands_1 hl (by decide) rfl (fun ls hl => ?_)
  exact C_3 F _ _ _ _ _ _ _ hf (lv_sub hl [1, 2, 3, 4, 0] rfl) hW hS
set_option maxRecDepth 100000 in
set_option maxHeartbeats 4000000 in
theorem k_r_emitLine {l : Launch} {D : va_G} {B : Nat} {y : Nat → ClassId} {ad : Nat × Nat → Nat} {cu : ZC} (F : Nat) (u : ZR) (v1 : Int) {uo : ZR} (hf : r_emitLine F u v1 = some uo) : Met l y_r_emitLine (.code y_r_emitLine b_r_emitLine 3 none :: zt) { frames := 1, cells := 0, slots := 0, locals := 21 } (va_Pc [.ref (ad (10, 0)), .int (zI v1)] (fun U => ZP D B y ad true cu u U)) (va_Qv (fun (_ : Unit) => True) (fun _ t => ZP D B y ad true cu uo t) (fun x => B ≤ x)) 0 0 (fun x => B ≤ x) := by
  refine Met.ofW (cc := b_r_emitLine) (maxL := 3) (ret := none) (by decide) rfl ?_
  intro p e s m args below meth c s₁ Bd hml hv
  obtain ⟨hargs, hB, hW, hK⟩ := hv
  have hx := Bd.exec
  have hb := Bd.bytes
  have hr := Bd.returns
  have hts0 := atoms_spec (ws := .code y_r_emitLine b_r_emitLine 3 none :: zt) Bd.pre
  have hown : s.vm.findClass "TreeShellModel" = some m.cls := findClass_of_methodNamed Bd.named
  have hlocks := Bd.notSynchronized
  have M : ZM p c b_r_emitLine s args m "TreeShellModel" D y := ⟨hx, hb, fun w h => hts0 w (List.mem_cons_of_mem _ h), hown, hK⟩
  have hS : va_S (fun x => B ≤ x) s.heap s.heap [] := va_S.rf
  have hE := lg_entry_eq m ([.ref (ad (10, 0)), .int (zI v1)] : List Value) 3
  rw [← hargs] at hE
  rw [hE]
  have hl := lv_entry ([.ref (ad (10, 0)), .int (zI v1)] : List Value) (n := 3) (Nat.le_of_ble_eq_true rfl)
  generalize (lg_sl ([.ref (ad (10, 0)), .int (zI v1)] : List Value) ++ List.replicate (3 - (lg_sl ([.ref (ad (10, 0)), .int (zI v1)] : List Value)).length) Slot.unset).toArray = ls at hl ⊢
  have hl : lv_has ls 3 [(0, .ref (ad (10, 0))), (1, .int (zI v1))] := hl
  refine z_start (fun Q R hQ hR => ?_)
  generalize hH : s.heap = H at hW
  have hS : va_S (fun x => B ≤ x) s.heap H [] := by rw [← hH]; exact hS
  have C_7 : ∀ (n : Nat), ∀ (u : ZR) (v1 : Int) (v2 : Int) (H : Heap) (locs : List Loc) (ls : Array Slot), r_emitLine_7 F n u v1 v2 = some uo → lv_has ls 3 [(0, .ref (ad (10, 0))), (1, .int (zI v1)), (2, .int (zI v2))] → ZW D B y ad true cu u H → va_S (fun x => B ≤ x) s.heap H locs → W p l e R s m args below meth c H locs 0 0 Q (F0 m 7 ls []) := by
    intro n
    induction n with
    | zero => intro u v1 v2 H locs ls hf; cases (show (none : Option (ZR)) = some uo from hf)
    | succ n ih =>
      intro u v1 v2 H locs ls hf hl hW hS
      rw [r_emitLine_7] at hf
      refine lv_iload_n hx hb d_r_emitLine_7 rfl (lv_at hl 2 rfl) ?_
      refine lv_aload_n hx hb d_r_emitLine_8 rfl (lv_at hl 0 rfl) ?_
      refine zg_Mo_lineTo M hW (M.2.2.1 _ w_773) d_r_emitLine_9 ?_
      refine lv_iload_n hx hb d_r_emitLine_12 rfl (lv_at hl 1 rfl) ?_
      obtain ⟨g1, hf⟩ := zg hf
      refine zr_41 M hW g1 d_r_emitLine_13 ?_
      refine z_icmp_ge hx hb d_r_emitLine_14 rfl hf (fun hf => ?_) (fun hf => ?_)
      · refine lv_aload_n hx hb d_r_emitLine_33 rfl (lv_at hl 0 rfl) ?_
        refine z_bipush hx hb d_r_emitLine_34 rfl ?_
        obtain ⟨u1, g2, hf⟩ := ze1 hf
        refine z_callVv (As := [.int (zI 10)]) (rest := []) (k_r_emit F _ _ g2) M hml (cw_r_emit M.2.2.1 (M.2.2.1 _ w_1002) (by rw [hR]; exact Nat.le_of_ble_eq_true rfl) (by rw [hR]; exact Nat.le_of_ble_eq_true rfl)) (zv_Mo hK hW) hB hW hS rfl hl.1 rfl (Nat.le_of_ble_eq_true rfl) d_r_emitLine_36 (by rw [hR]; exact ⟨Nat.zero_le _, Nat.zero_le _⟩) (fun H locs hW hS => ?_)
        cases hf
        subst hQ
        exact z_retv hx hb hr hlocks hB hK hW hS d_r_emitLine_39
      · refine lv_aload_n hx hb d_r_emitLine_17 rfl (lv_at hl 0 rfl) ?_
        refine lv_aload_n hx hb d_r_emitLine_18 rfl (lv_at hl 0 rfl) ?_
        refine zg_Mo_source M hW (M.2.2.1 _ w_769) d_r_emitLine_19 ?_
        refine lv_iload_n hx hb d_r_emitLine_22 rfl (lv_at hl 2 rfl) ?_
        obtain ⟨g3, hf⟩ := zg hf
        refine zr_37 M hW g3 d_r_emitLine_23 ?_
        obtain ⟨u2, g4, hf⟩ := ze1 hf
        refine z_callVv (As := [.int (zI (rA u 37 v2.toNat))]) (rest := []) (k_r_emit F _ _ g4) M hml (cw_r_emit M.2.2.1 (M.2.2.1 _ w_1002) (by rw [hR]; exact Nat.le_of_ble_eq_true rfl) (by rw [hR]; exact Nat.le_of_ble_eq_true rfl)) (zv_Mo hK hW) hB hW hS rfl hl.1 rfl (Nat.le_of_ble_eq_true rfl) d_r_emitLine_24 (by rw [hR]; exact ⟨Nat.zero_le _, Nat.zero_le _⟩) (fun H locs hW hS => ?_)
        refine lv_iinc (k := 2) (v := zI (v2 + 1)) (lv' := [(2, .int (zI (v2 + 1))), (0, .ref (ad (10, 0))), (1, .int (zI v1))]) hx hb d_r_emitLine_27 hl rfl (zI_add _ _) (by decide) rfl (fun ls hl => ?_)
        refine lv_goto hx hb d_r_emitLine_30 rfl ?_
        exact ih _ _ _ _ _ _ hf (lv_sub hl [1, 2, 0] rfl) hW hS
  rw [r_emitLine] at hf
  refine lv_aload_n hx hb d_r_emitLine_0 rfl (lv_at hl 0 rfl) ?_
  refine zg_Mo_lineFrom M hW (M.2.2.1 _ w_772) d_r_emitLine_1 ?_
  refine lv_iload_n hx hb d_r_emitLine_4 rfl (lv_at hl 1 rfl) ?_
  obtain ⟨g5, hf⟩ := zg hf
  refine zr_40 M hW g5 d_r_emitLine_5 ?_
  refine lv_istore_n (lv' := [(2, .int (zI (rA u 40 v1.toNat))), (0, .ref (ad (10, 0))), (1, .int (zI v1))]) hx hb d_r_emitLine_6 rfl hl (by decide) rfl (fun ls hl => ?_)
  exact C_7 F _ _ _ _ _ _ hf (lv_sub hl [1, 2, 0] rfl) hW hS
set_option maxRecDepth 100000 in
set_option maxHeartbeats 4000000 in
theorem k_r_grep {l : Launch} {D : va_G} {B : Nat} {y : Nat → ClassId} {ad : Nat × Nat → Nat} {cu : ZC} (F : Nat) (u : ZR) {res : Int} {uo : ZR} (hf : r_grep F u = some (res, uo)) : Met l y_r_grep (.code y_r_grep b_r_grep 13 (some .int) :: zt) { frames := 4, cells := 0, slots := 0, locals := 97 } (va_Pc [.ref (ad (10, 0))] (fun U => ZP D B y ad true cu u U)) (va_Qi (fun v (_ : Unit) => v = zI res) (fun _ t => ZP D B y ad true cu uo t) (fun x => B ≤ x)) 0 0 (fun x => B ≤ x) := by
  refine Met.ofW (cc := b_r_grep) (maxL := 13) (ret := (some .int)) (by decide) rfl ?_
  intro p e s m args below meth c s₁ Bd hml hv
  obtain ⟨hargs, hB, hW, hK⟩ := hv
  have hx := Bd.exec
  have hb := Bd.bytes
  have hr := Bd.returns
  have hts0 := atoms_spec (ws := .code y_r_grep b_r_grep 13 (some .int) :: zt) Bd.pre
  have hown : s.vm.findClass "TreeShellModel" = some m.cls := findClass_of_methodNamed Bd.named
  have hlocks := Bd.notSynchronized
  have M : ZM p c b_r_grep s args m "TreeShellModel" D y := ⟨hx, hb, fun w h => hts0 w (List.mem_cons_of_mem _ h), hown, hK⟩
  have hS : va_S (fun x => B ≤ x) s.heap s.heap [] := va_S.rf
  have hE := lg_entry_eq m ([.ref (ad (10, 0))] : List Value) 13
  rw [← hargs] at hE
  rw [hE]
  have hl := lv_entry ([.ref (ad (10, 0))] : List Value) (n := 13) (Nat.le_of_ble_eq_true rfl)
  generalize (lg_sl ([.ref (ad (10, 0))] : List Value) ++ List.replicate (13 - (lg_sl ([.ref (ad (10, 0))] : List Value)).length) Slot.unset).toArray = ls at hl ⊢
  have hl : lv_has ls 13 [(0, .ref (ad (10, 0)))] := hl
  refine z_start (fun Q R hQ hR => ?_)
  generalize hH : s.heap = H at hW
  have hS : va_S (fun x => B ≤ x) s.heap H [] := by rw [← hH]; exact hS
  have C_204 : ∀ (k169 : ZR → Int → Int → Int → Int → Int → Int → Int → Option (Int × ZR)) (hk169 : ∀ (u : ZR) (v1 : Int) (v3 : Int) (v4 : Int) (v5 : Int) (v6 : Int) (v7 : Int) (v8 : Int) (H : Heap) (locs : List Loc) (ls : Array Slot), k169 u v1 v3 v4 v5 v6 v7 v8 = some (res, uo) → lv_has ls 13 [(0, .ref (ad (10, 0))), (1, .int (zI v1)), (3, .int (zI v3)), (4, .int (zI v4)), (5, .int (zI v5)), (6, .int (zI v6)), (7, .int (zI v7)), (8, .int (zI v8))] → ZW D B y ad true cu u H → va_S (fun x => B ≤ x) s.heap H locs → W p l e R s m args below meth c H locs 0 0 Q (F0 m 169 ls [])) , ∀ (n : Nat), ∀ (u : ZR) (v1 : Int) (v3 : Int) (v4 : Int) (v5 : Int) (v6 : Int) (v7 : Int) (v8 : Int) (v9 : Int) (v10 : Int) (v11 : Int) (H : Heap) (locs : List Loc) (ls : Array Slot), r_grep_204 F k169 n u v1 v3 v4 v5 v6 v7 v8 v9 v10 v11 = some (res, uo) → lv_has ls 13 [(0, .ref (ad (10, 0))), (1, .int (zI v1)), (3, .int (zI v3)), (4, .int (zI v4)), (5, .int (zI v5)), (6, .int (zI v6)), (7, .int (zI v7)), (8, .int (zI v8)), (9, .int (zI v9)), (10, .int (zI v10)), (11, .int (zI v11))] → ZW D B y ad true cu u H → va_S (fun x => B ≤ x) s.heap H locs → W p l e R s m args below meth c H locs 0 0 Q (F0 m 204 ls []) := by
    intro k169 hk169 n
    induction n with
    | zero => intro u v1 v3 v4 v5 v6 v7 v8 v9 v10 v11 H locs ls hf; cases (show (none : Option (Int × ZR)) = some (res, uo) from hf)
    | succ n ih =>
      intro u v1 v3 v4 v5 v6 v7 v8 v9 v10 v11 H locs ls hf hl hW hS
      rw [r_grep_204] at hf
      refine lv_iload hx hb d_r_grep_204 (lv_at hl 10 rfl) ?_
      refine lv_iload hx hb d_r_grep_206 (lv_at hl 9 rfl) ?_
      refine z_icmp_gt hx hb d_r_grep_208 rfl hf (fun hf => ?_) (fun hf => ?_)
      · refine lv_iload hx hb d_r_grep_282 (lv_at hl 8 rfl) ?_
        refine lv_iload_n hx hb d_r_grep_284 rfl (lv_at hl 1 rfl) ?_
        obtain ⟨x16, u17, g1, hf⟩ := ze2 hf
        have J1 : ∀ (H : Heap) (locs : List Loc) (ls : Array Slot), lv_has ls 13 [(0, .ref (ad (10, 0))), (1, .int (zI v1)), (3, .int (zI v3)), (4, .int (zI v4)), (5, .int (zI v5)), (6, .int (zI v6)), (7, .int (zI x16)), (8, .int (zI v8))] → ZW D B y ad true cu u17 H → va_S (fun x => B ≤ x) s.heap H locs → W p l e R s m args below meth c H locs 0 0 Q (F0 m 297 ls []) := by
          intro H locs ls hl hW hS
          refine lv_iinc (k := 7) (v := zI (v8 + 1)) (lv' := [(8, .int (zI (v8 + 1))), (0, .ref (ad (10, 0))), (1, .int (zI v1)), (3, .int (zI v3)), (4, .int (zI v4)), (5, .int (zI v5)), (6, .int (zI v6)), (7, .int (zI x16))]) hx hb d_r_grep_297 hl rfl (zI_add _ _) (by decide) rfl (fun ls hl => ?_)
          refine lv_goto hx hb d_r_grep_300 rfl ?_
          exact hk169 _ _ _ _ _ _ _ _ _ _ _ hf (lv_sub hl [1, 2, 3, 4, 5, 6, 7, 0] rfl) hW hS
        refine z_icmp_eq hx hb d_r_grep_285 rfl g1 (fun g1 => ?_) (fun g1 => ?_)
        · cases g1
          exact J1 _ _ _ (lv_sub hl [0, 1, 2, 3, 4, 5, 6, 7] rfl) hW hS
        · refine lv_aload_n hx hb d_r_grep_288 rfl (lv_at hl 0 rfl) ?_
          refine lv_iload hx hb d_r_grep_289 (lv_at hl 7 rfl) ?_
          obtain ⟨u15, g2, g1⟩ := ze1 g1
          refine z_callVv (As := [.int (zI v8)]) (rest := []) (k_r_emitLine F _ _ g2) M hml (cw_r_emitLine M.2.2.1 (M.2.2.1 _ w_1034) (by rw [hR]; exact Nat.le_of_ble_eq_true rfl) (by rw [hR]; exact Nat.le_of_ble_eq_true rfl)) (zv_Mo hK hW) hB hW hS rfl hl.1 rfl (Nat.le_of_ble_eq_true rfl) d_r_grep_291 (by rw [hR]; exact ⟨Nat.zero_le _, Nat.zero_le _⟩) (fun H locs hW hS => ?_)
          refine lv_iinc (k := 6) (v := zI (v7 + 1)) (lv' := [(7, .int (zI (v7 + 1))), (0, .ref (ad (10, 0))), (1, .int (zI v1)), (3, .int (zI v3)), (4, .int (zI v4)), (5, .int (zI v5)), (6, .int (zI v6)), (8, .int (zI v8)), (9, .int (zI v9)), (10, .int (zI v10)), (11, .int (zI v11))]) hx hb d_r_grep_294 hl rfl (zI_add _ _) (by decide) rfl (fun ls hl => ?_)
          cases g1
          exact J1 _ _ _ (lv_sub hl [1, 2, 3, 4, 5, 6, 0, 7] rfl) hW hS
      · refine lv_iload hx hb d_r_grep_211 (lv_at hl 4 rfl) ?_
        obtain ⟨x19, g3, hf⟩ := ze1 hf
        have J3 : ∀ (H : Heap) (locs : List Loc) (ls : Array Slot), lv_has ls 13 [(0, .ref (ad (10, 0))), (1, .int (zI v1)), (3, .int (zI v3)), (4, .int (zI v4)), (5, .int (zI v5)), (6, .int (zI v6)), (7, .int (zI v7)), (8, .int (zI v8)), (9, .int (zI v9)), (10, .int (zI v10)), (11, .int (zI v11))] → ZW D B y ad true cu u H → va_S (fun x => B ≤ x) s.heap H locs → W p l e R s m args below meth c H locs 0 0 Q (F0 m 245 ls [.int (zI x19)]) := by
          intro H locs ls hl hW hS
          refine lv_istore (lv' := [(12, .int (zI x19)), (0, .ref (ad (10, 0))), (1, .int (zI v1)), (3, .int (zI v3)), (4, .int (zI v4)), (5, .int (zI v5)), (6, .int (zI v6)), (7, .int (zI v7)), (8, .int (zI v8)), (9, .int (zI v9)), (10, .int (zI v10)), (11, .int (zI v11))]) hx hb d_r_grep_245 hl (by decide) rfl (fun ls hl => ?_)
          refine lv_iload hx hb d_r_grep_247 (lv_at hl 9 rfl) ?_
          obtain ⟨x22, g4, hf⟩ := ze1 hf
          have J4 : ∀ (H : Heap) (locs : List Loc) (ls : Array Slot), lv_has ls 13 [(0, .ref (ad (10, 0))), (1, .int (zI v1)), (3, .int (zI v3)), (4, .int (zI v4)), (5, .int (zI v5)), (6, .int (zI v6)), (7, .int (zI v7)), (8, .int (zI v8)), (10, .int (zI v10)), (11, .int (zI v11))] → ZW D B y ad true cu u H → va_S (fun x => B ≤ x) s.heap H locs → W p l e R s m args below meth c H locs 0 0 Q (F0 m 274 ls [.int (zI x22)]) := by
            intro H locs ls hl hW hS
            refine lv_istore (lv' := [(9, .int (zI x22)), (0, .ref (ad (10, 0))), (1, .int (zI v1)), (3, .int (zI v3)), (4, .int (zI v4)), (5, .int (zI v5)), (6, .int (zI v6)), (7, .int (zI v7)), (8, .int (zI v8)), (10, .int (zI v10)), (11, .int (zI v11))]) hx hb d_r_grep_274 hl (by decide) rfl (fun ls hl => ?_)
            refine lv_iinc (k := 10) (v := zI (v11 + 1)) (lv' := [(11, .int (zI (v11 + 1))), (9, .int (zI x22)), (0, .ref (ad (10, 0))), (1, .int (zI v1)), (3, .int (zI v3)), (4, .int (zI v4)), (5, .int (zI v5)), (6, .int (zI v6)), (7, .int (zI v7)), (8, .int (zI v8)), (10, .int (zI v10))]) hx hb d_r_grep_276 hl rfl (zI_add _ _) (by decide) rfl (fun ls hl => ?_)
            refine lv_goto hx hb d_r_grep_279 rfl ?_
            exact ih _ _ _ _ _ _ _ _ _ _ _ _ _ _ hf (lv_sub hl [2, 3, 4, 5, 6, 7, 8, 9, 1, 10, 0] rfl) hW hS
          obtain ⟨b21, g5, g4⟩ := ze1 g4
          have JT5 : b21 = true → ∀ (H : Heap) (locs : List Loc), ZW D B y ad true cu u H → va_S (fun x => B ≤ x) s.heap H locs → W p l e R s m args below meth c H locs 0 0 Q (F0 m 269 ls []) := by
            intro hv H locs hW hS
            have g4 := zp (hv) g4
            refine z_iconst hx hb d_r_grep_269 ?_
            refine lv_goto hx hb d_r_grep_270 rfl ?_
            cases g4
            exact J4 _ _ _ (lv_sub hl [1, 2, 3, 4, 5, 6, 7, 8, 10, 11] rfl) hW hS
          have JF5 : b21 = false → ∀ (H : Heap) (locs : List Loc), ZW D B y ad true cu u H → va_S (fun x => B ≤ x) s.heap H locs → W p l e R s m args below meth c H locs 0 0 Q (F0 m 273 ls []) := by
            intro hv H locs hW hS
            have g4 := zn (by rw [hv]; decide) g4
            refine z_iconst hx hb d_r_grep_273 ?_
            cases g4
            exact J4 _ _ _ (lv_sub hl [1, 2, 3, 4, 5, 6, 7, 8, 10, 11] rfl) hW hS
          refine z_if_ne hx hb d_r_grep_249 rfl g5 (fun g5 => ?_) (fun g5 => ?_)
          · exact JT5 (Option.some.inj g5).symm _ _ hW hS
          · refine lv_iload hx hb d_r_grep_252 (lv_at hl 0 rfl) ?_
            refine z_if_eq hx hb d_r_grep_254 rfl g5 (fun g5 => ?_) (fun g5 => ?_)
            · exact JF5 (Option.some.inj g5).symm _ _ hW hS
            · refine lv_aload_n hx hb d_r_grep_257 rfl (lv_at hl 1 rfl) ?_
              refine lv_iload_n hx hb d_r_grep_258 rfl (lv_at hl 3 rfl) ?_
              refine lv_iload hx hb d_r_grep_259 (lv_at hl 4 rfl) ?_
              refine lv_iload hx hb d_r_grep_261 (lv_at hl 11 rfl) ?_
              obtain ⟨p20, g6, g5⟩ := ze1 g5
              refine z_callVi (As := [.int (zI v3), .int (zI v4), .int (zI v11)]) (rest := []) (k_r_stands F _ _ _ _ g6) M hml (cw_r_stands M.2.2.1 (M.2.2.1 _ w_1030) (by rw [hR]; exact Nat.le_of_ble_eq_true rfl) (by rw [hR]; exact Nat.le_of_ble_eq_true rfl)) (zv_Mo hK hW) hB hW hS rfl hl.1 rfl (Nat.le_of_ble_eq_true rfl) d_r_grep_263 (by rw [hR]; exact ⟨Nat.zero_le _, Nat.zero_le _⟩) (fun H locs hW hS => ?_)
              refine z_if_eq hx hb d_r_grep_266 rfl g5 (fun g5 => ?_) (fun g5 => ?_)
              · exact JF5 (Option.some.inj g5).symm _ _ hW hS
              · exact JT5 (Option.some.inj g5).symm _ _ hW hS
        obtain ⟨b18, g7, g3⟩ := ze1 g3
        have JT7 : b18 = true → ∀ (H : Heap) (locs : List Loc), ZW D B y ad true cu u H → va_S (fun x => B ≤ x) s.heap H locs → W p l e R s m args below meth c H locs 0 0 Q (F0 m 244 ls []) := by
          intro hv H locs hW hS
          have g3 := zp (hv) g3
          refine z_iconst hx hb d_r_grep_244 ?_
          cases g3
          exact J3 _ _ _ (lv_sub hl [0, 1, 2, 3, 4, 5, 6, 7, 8, 9, 10] rfl) hW hS
        have JF7 : b18 = false → ∀ (H : Heap) (locs : List Loc), ZW D B y ad true cu u H → va_S (fun x => B ≤ x) s.heap H locs → W p l e R s m args below meth c H locs 0 0 Q (F0 m 240 ls []) := by
          intro hv H locs hW hS
          have g3 := zn (by rw [hv]; decide) g3
          refine z_iconst hx hb d_r_grep_240 ?_
          refine lv_goto hx hb d_r_grep_241 rfl ?_
          cases g3
          exact J3 _ _ _ (lv_sub hl [0, 1, 2, 3, 4, 5, 6, 7, 8, 9, 10] rfl) hW hS
        refine z_if_eq hx hb d_r_grep_213 rfl g7 (fun g7 => ?_) (fun g7 => ?_)
        · refine lv_iload hx hb d_r_grep_228 (lv_at hl 5 rfl) ?_
          refine z_if_eq hx hb d_r_grep_230 rfl g7 (fun g7 => ?_) (fun g7 => ?_)
          · exact JF7 (Option.some.inj g7).symm _ _ hW hS
          · refine lv_iload hx hb d_r_grep_233 (lv_at hl 10 rfl) ?_
            refine lv_iload hx hb d_r_grep_235 (lv_at hl 9 rfl) ?_
            refine z_icmp_ne hx hb d_r_grep_237 rfl g7 (fun g7 => ?_) (fun g7 => ?_)
            · exact JT7 (Option.some.inj g7).symm _ _ hW hS
            · exact JF7 (Option.some.inj g7).symm _ _ hW hS
        · refine lv_iload hx hb d_r_grep_216 (lv_at hl 10 rfl) ?_
          refine lv_aload_n hx hb d_r_grep_218 rfl (lv_at hl 0 rfl) ?_
          refine zg_Mo_lineFrom M hW (M.2.2.1 _ w_772) d_r_grep_219 ?_
          refine lv_iload hx hb d_r_grep_222 (lv_at hl 7 rfl) ?_
          obtain ⟨g8, g7⟩ := zg g7
          refine zr_40 M hW g8 d_r_grep_224 ?_
          refine z_icmp_ne hx hb d_r_grep_225 rfl g7 (fun g7 => ?_) (fun g7 => ?_)
          · exact JT7 (Option.some.inj g7).symm _ _ hW hS
          · refine lv_iload hx hb d_r_grep_228 (lv_at hl 5 rfl) ?_
            refine z_if_eq hx hb d_r_grep_230 rfl g7 (fun g7 => ?_) (fun g7 => ?_)
            · exact JF7 (Option.some.inj g7).symm _ _ hW hS
            · refine lv_iload hx hb d_r_grep_233 (lv_at hl 10 rfl) ?_
              refine lv_iload hx hb d_r_grep_235 (lv_at hl 9 rfl) ?_
              refine z_icmp_ne hx hb d_r_grep_237 rfl g7 (fun g7 => ?_) (fun g7 => ?_)
              · exact JT7 (Option.some.inj g7).symm _ _ hW hS
              · exact JF7 (Option.some.inj g7).symm _ _ hW hS
  have C_169 : ∀ (n : Nat), ∀ (u : ZR) (v1 : Int) (v3 : Int) (v4 : Int) (v5 : Int) (v6 : Int) (v7 : Int) (v8 : Int) (H : Heap) (locs : List Loc) (ls : Array Slot), r_grep_169 F n u v1 v3 v4 v5 v6 v7 v8 = some (res, uo) → lv_has ls 13 [(0, .ref (ad (10, 0))), (1, .int (zI v1)), (3, .int (zI v3)), (4, .int (zI v4)), (5, .int (zI v5)), (6, .int (zI v6)), (7, .int (zI v7)), (8, .int (zI v8))] → ZW D B y ad true cu u H → va_S (fun x => B ≤ x) s.heap H locs → W p l e R s m args below meth c H locs 0 0 Q (F0 m 169 ls []) := by
    intro n
    induction n with
    | zero => intro u v1 v3 v4 v5 v6 v7 v8 H locs ls hf; cases (show (none : Option (Int × ZR)) = some (res, uo) from hf)
    | succ n ih =>
      intro u v1 v3 v4 v5 v6 v7 v8 H locs ls hf hl hW hS
      rw [r_grep_169] at hf
      refine lv_iload hx hb d_r_grep_169 (lv_at hl 7 rfl) ?_
      refine lv_aload_n hx hb d_r_grep_171 rfl (lv_at hl 0 rfl) ?_
      refine zg_Mo_lines M hW (M.2.2.1 _ w_771) d_r_grep_172 ?_
      refine z_icmp_ge hx hb d_r_grep_175 rfl hf (fun hf => ?_) (fun hf => ?_)
      · refine lv_iload hx hb d_r_grep_303 (lv_at hl 6 rfl) ?_
        obtain ⟨x14, g9, hf⟩ := ze1 hf
        have J9 : ∀ (H : Heap) (locs : List Loc) (ls : Array Slot), lv_has ls 13 [] → ZW D B y ad true cu u H → va_S (fun x => B ≤ x) s.heap H locs → W p l e R s m args below meth c H locs 0 0 Q (F0 m 313 ls [.int (zI x14)]) := by
          intro H locs ls hl hW hS
          cases hf
          subst hQ
          exact z_reti hx hb hr hlocks hB hK hW hS d_r_grep_313
        refine z_if_le hx hb d_r_grep_305 rfl g9 (fun g9 => ?_) (fun g9 => ?_)
        · refine z_iconst hx hb d_r_grep_312 ?_
          cases g9
          exact J9 _ _ _ (lv_sub hl [] rfl) hW hS
        · refine z_iconst hx hb d_r_grep_308 ?_
          refine lv_goto hx hb d_r_grep_309 rfl ?_
          cases g9
          exact J9 _ _ _ (lv_sub hl [] rfl) hW hS
      · refine z_iconst hx hb d_r_grep_178 ?_
        refine lv_istore (lv' := [(9, .int (zI 0)), (0, .ref (ad (10, 0))), (1, .int (zI v1)), (3, .int (zI v3)), (4, .int (zI v4)), (5, .int (zI v5)), (6, .int (zI v6)), (7, .int (zI v7)), (8, .int (zI v8))]) hx hb d_r_grep_179 hl (by decide) rfl (fun ls hl => ?_)
        refine lv_aload_n hx hb d_r_grep_181 rfl (lv_at hl 1 rfl) ?_
        refine zg_Mo_lineTo M hW (M.2.2.1 _ w_773) d_r_grep_182 ?_
        refine lv_iload hx hb d_r_grep_185 (lv_at hl 8 rfl) ?_
        obtain ⟨g10, hf⟩ := zg hf
        refine zr_41 M hW g10 d_r_grep_187 ?_
        refine lv_iload hx hb d_r_grep_188 (lv_at hl 4 rfl) ?_
        refine lv_iload_n hx hb d_r_grep_190 rfl (lv_at hl 3 rfl) ?_
        refine z_isub hx hb d_r_grep_191 ?_
        refine z_isub hx hb d_r_grep_192 ?_
        refine lv_istore (lv' := [(10, .int (zI ((rA u 41 v8.toNat) - (v4 - v3)))), (9, .int (zI 0)), (0, .ref (ad (10, 0))), (1, .int (zI v1)), (3, .int (zI v3)), (4, .int (zI v4)), (5, .int (zI v5)), (6, .int (zI v6)), (7, .int (zI v7)), (8, .int (zI v8))]) hx hb d_r_grep_193 hl (by decide) rfl (fun ls hl => ?_)
        refine lv_aload_n hx hb d_r_grep_195 rfl (lv_at hl 2 rfl) ?_
        refine zg_Mo_lineFrom M hW (M.2.2.1 _ w_772) d_r_grep_196 ?_
        refine lv_iload hx hb d_r_grep_199 (lv_at hl 9 rfl) ?_
        refine zr_40 M hW g10 d_r_grep_201 ?_
        refine lv_istore (lv' := [(11, .int (zI (rA u 40 v8.toNat))), (10, .int (zI ((rA u 41 v8.toNat) - (v4 - v3)))), (9, .int (zI 0)), (0, .ref (ad (10, 0))), (1, .int (zI v1)), (3, .int (zI v3)), (4, .int (zI v4)), (5, .int (zI v5)), (6, .int (zI v6)), (7, .int (zI v7)), (8, .int (zI v8))]) hx hb d_r_grep_202 hl (by decide) rfl (fun ls hl => ?_)
        exact C_204 _ ih F _ _ _ _ _ _ _ _ _ _ _ _ _ _ hf (lv_sub hl [3, 4, 5, 6, 7, 8, 9, 10, 2, 1, 0] rfl) hW hS
  rw [r_grep] at hf
  refine lv_aload_n hx hb d_r_grep_0 rfl (lv_at hl 0 rfl) ?_
  refine zg_Mo_words M hW (M.2.2.1 _ w_748) d_r_grep_1 ?_
  refine z_iconst hx hb d_r_grep_4 ?_
  obtain ⟨x3, g11, hf⟩ := ze1 hf
  have J11 : ∀ (H : Heap) (locs : List Loc) (ls : Array Slot), lv_has ls 13 [(0, .ref (ad (10, 0)))] → ZW D B y ad true cu u H → va_S (fun x => B ≤ x) s.heap H locs → W p l e R s m args below meth c H locs 0 0 Q (F0 m 25 ls [.int (zI x3)]) := by
    intro H locs ls hl hW hS
    refine lv_istore_n (lv' := [(1, .int (zI x3)), (0, .ref (ad (10, 0)))]) hx hb d_r_grep_25 rfl hl (by decide) rfl (fun ls hl => ?_)
    refine lv_iload_n hx hb d_r_grep_26 rfl (lv_at hl 0 rfl) ?_
    obtain ⟨x4, g12, hf⟩ := ze1 hf
    have J12 : ∀ (H : Heap) (locs : List Loc) (ls : Array Slot), lv_has ls 13 [(0, .ref (ad (10, 0))), (1, .int (zI x3))] → ZW D B y ad true cu u H → va_S (fun x => B ≤ x) s.heap H locs → W p l e R s m args below meth c H locs 0 0 Q (F0 m 35 ls [.int (zI x4)]) := by
      intro H locs ls hl hW hS
      refine lv_istore_n (lv' := [(2, .int (zI x4)), (0, .ref (ad (10, 0))), (1, .int (zI x3))]) hx hb d_r_grep_35 rfl hl (by decide) rfl (fun ls hl => ?_)
      refine lv_aload_n hx hb d_r_grep_36 rfl (lv_at hl 1 rfl) ?_
      refine zg_Mo_words M hW (M.2.2.1 _ w_748) d_r_grep_37 ?_
      refine lv_iload_n hx hb d_r_grep_40 rfl (lv_at hl 0 rfl) ?_
      obtain ⟨b5, g13, hf⟩ := ze1 hf
      have JT13 : b5 = true → ∀ (H : Heap) (locs : List Loc), ZW D B y ad true cu u H → va_S (fun x => B ≤ x) s.heap H locs → W p l e R s m args below meth c H locs 0 0 Q (F0 m 54 ls []) := by
        intro hv H locs hW hS
        have hf := zp (hv) hf
        refine z_iconst hx hb d_r_grep_54 ?_
        cases hf
        subst hQ
        exact z_reti hx hb hr hlocks hB hK hW hS d_r_grep_55
      have JF13 : b5 = false → ∀ (H : Heap) (locs : List Loc), ZW D B y ad true cu u H → va_S (fun x => B ≤ x) s.heap H locs → W p l e R s m args below meth c H locs 0 0 Q (F0 m 56 ls []) := by
        intro hv H locs hW hS
        have hf := zn (by rw [hv]; decide) hf
        refine lv_aload_n hx hb d_r_grep_56 rfl (lv_at hl 1 rfl) ?_
        refine lv_iload_n hx hb d_r_grep_57 rfl (lv_at hl 0 rfl) ?_
        refine z_iconst hx hb d_r_grep_58 ?_
        refine z_iadd hx hb d_r_grep_59 ?_
        obtain ⟨p6, u7, g14, hf⟩ := ze2 hf
        refine z_callVi (As := [.int (zI (x4 + 1))]) (rest := []) (k_r_reads F _ _ g14) M hml (cw_r_reads M.2.2.1 (M.2.2.1 _ w_1011) (by rw [hR]; exact Nat.le_of_ble_eq_true rfl) (by rw [hR]; exact Nat.le_of_ble_eq_true rfl)) (zv_Mo hK hW) hB hW hS rfl hl.1 rfl (Nat.le_of_ble_eq_true rfl) d_r_grep_60 (by rw [hR]; exact ⟨Nat.zero_le _, Nat.zero_le _⟩) (fun H locs hW hS => ?_)
        refine z_if_ne hx hb d_r_grep_63 rfl hf (fun hf => ?_) (fun hf => ?_)
        · refine lv_aload_n hx hb d_r_grep_68 rfl (lv_at hl 1 rfl) ?_
          refine zg_Mo_wordFrom M hW (M.2.2.1 _ w_749) d_r_grep_69 ?_
          refine lv_iload_n hx hb d_r_grep_72 rfl (lv_at hl 0 rfl) ?_
          obtain ⟨g15, hf⟩ := zg hf
          refine zr_17 M hW g15 d_r_grep_73 ?_
          refine lv_istore_n (lv' := [(3, .int (zI (rA u7 17 x4.toNat))), (2, .int (zI x4)), (0, .ref (ad (10, 0))), (1, .int (zI x3))]) hx hb d_r_grep_74 rfl hl (by decide) rfl (fun ls hl => ?_)
          refine lv_aload_n hx hb d_r_grep_75 rfl (lv_at hl 2 rfl) ?_
          refine zg_Mo_wordTo M hW (M.2.2.1 _ w_750) d_r_grep_76 ?_
          refine lv_iload_n hx hb d_r_grep_79 rfl (lv_at hl 1 rfl) ?_
          refine zr_18 M hW g15 d_r_grep_80 ?_
          refine lv_istore (lv' := [(4, .int (zI (rA u7 18 x4.toNat))), (3, .int (zI (rA u7 17 x4.toNat))), (2, .int (zI x4)), (0, .ref (ad (10, 0))), (1, .int (zI x3))]) hx hb d_r_grep_81 hl (by decide) rfl (fun ls hl => ?_)
          refine lv_iload_n hx hb d_r_grep_83 rfl (lv_at hl 1 rfl) ?_
          refine lv_iload hx hb d_r_grep_84 (lv_at hl 0 rfl) ?_
          obtain ⟨x9, g16, hf⟩ := ze1 hf
          have J16 : ∀ (H : Heap) (locs : List Loc) (ls : Array Slot), lv_has ls 13 [(0, .ref (ad (10, 0))), (1, .int (zI x3)), (3, .int (zI (rA u7 17 x4.toNat))), (4, .int (zI (rA u7 18 x4.toNat)))] → ZW D B y ad true cu u7 H → va_S (fun x => B ≤ x) s.heap H locs → W p l e R s m args below meth c H locs 0 0 Q (F0 m 105 ls [.int (zI x9)]) := by
            intro H locs ls hl hW hS
            refine lv_istore (lv' := [(5, .int (zI x9)), (0, .ref (ad (10, 0))), (1, .int (zI x3)), (3, .int (zI (rA u7 17 x4.toNat))), (4, .int (zI (rA u7 18 x4.toNat)))]) hx hb d_r_grep_105 hl (by decide) rfl (fun ls hl => ?_)
            refine lv_iload hx hb d_r_grep_107 (lv_at hl 0 rfl) ?_
            obtain ⟨x10, g17, hf⟩ := ze1 hf
            have J17 : ∀ (H : Heap) (locs : List Loc) (ls : Array Slot), lv_has ls 13 [(0, .ref (ad (10, 0))), (1, .int (zI x3)), (4, .int (zI (rA u7 18 x4.toNat))), (5, .int (zI x9))] → ZW D B y ad true cu u7 H → va_S (fun x => B ≤ x) s.heap H locs → W p l e R s m args below meth c H locs 0 0 Q (F0 m 119 ls [.int (zI x10)]) := by
              intro H locs ls hl hW hS
              refine lv_istore_n (lv' := [(3, .int (zI x10)), (0, .ref (ad (10, 0))), (1, .int (zI x3)), (4, .int (zI (rA u7 18 x4.toNat))), (5, .int (zI x9))]) hx hb d_r_grep_119 rfl hl (by decide) rfl (fun ls hl => ?_)
              refine lv_iload_n hx hb d_r_grep_120 rfl (lv_at hl 0 rfl) ?_
              refine lv_iload hx hb d_r_grep_121 (lv_at hl 3 rfl) ?_
              obtain ⟨x12, g18, hf⟩ := ze1 hf
              have J18 : ∀ (H : Heap) (locs : List Loc) (ls : Array Slot), lv_has ls 13 [(0, .ref (ad (10, 0))), (1, .int (zI x3)), (3, .int (zI x10)), (4, .int (zI (rA u7 18 x4.toNat))), (5, .int (zI x9))] → ZW D B y ad true cu u7 H → va_S (fun x => B ≤ x) s.heap H locs → W p l e R s m args below meth c H locs 0 0 Q (F0 m 145 ls [.int (zI x12)]) := by
                intro H locs ls hl hW hS
                refine lv_istore (lv' := [(6, .int (zI x12)), (0, .ref (ad (10, 0))), (1, .int (zI x3)), (3, .int (zI x10)), (4, .int (zI (rA u7 18 x4.toNat))), (5, .int (zI x9))]) hx hb d_r_grep_145 hl (by decide) rfl (fun ls hl => ?_)
                refine lv_iload hx hb d_r_grep_147 (lv_at hl 0 rfl) ?_
                obtain ⟨x13, g19, hf⟩ := ze1 hf
                have J19 : ∀ (H : Heap) (locs : List Loc) (ls : Array Slot), lv_has ls 13 [(0, .ref (ad (10, 0))), (1, .int (zI x3)), (3, .int (zI x10)), (5, .int (zI x9)), (6, .int (zI x12))] → ZW D B y ad true cu u7 H → va_S (fun x => B ≤ x) s.heap H locs → W p l e R s m args below meth c H locs 0 0 Q (F0 m 161 ls [.int (zI x13)]) := by
                  intro H locs ls hl hW hS
                  refine lv_istore (lv' := [(4, .int (zI x13)), (0, .ref (ad (10, 0))), (1, .int (zI x3)), (3, .int (zI x10)), (5, .int (zI x9)), (6, .int (zI x12))]) hx hb d_r_grep_161 hl (by decide) rfl (fun ls hl => ?_)
                  refine z_iconst hx hb d_r_grep_163 ?_
                  refine lv_istore (lv' := [(7, .int (zI 0)), (4, .int (zI x13)), (0, .ref (ad (10, 0))), (1, .int (zI x3)), (3, .int (zI x10)), (5, .int (zI x9)), (6, .int (zI x12))]) hx hb d_r_grep_164 hl (by decide) rfl (fun ls hl => ?_)
                  refine z_iconst hx hb d_r_grep_166 ?_
                  refine lv_istore (lv' := [(8, .int (zI 0)), (7, .int (zI 0)), (4, .int (zI x13)), (0, .ref (ad (10, 0))), (1, .int (zI x3)), (3, .int (zI x10)), (5, .int (zI x9)), (6, .int (zI x12))]) hx hb d_r_grep_167 hl (by decide) rfl (fun ls hl => ?_)
                  exact C_169 F _ _ _ _ _ _ _ _ _ _ _ hf (lv_sub hl [3, 4, 5, 2, 6, 7, 1, 0] rfl) hW hS
                refine z_if_eq hx hb d_r_grep_149 rfl g19 (fun g19 => ?_) (fun g19 => ?_)
                · refine lv_iload hx hb d_r_grep_159 (lv_at hl 4 rfl) ?_
                  cases g19
                  exact J19 _ _ _ (lv_sub hl [1, 2, 3, 5, 0] rfl) hW hS
                · refine lv_iload hx hb d_r_grep_152 (lv_at hl 4 rfl) ?_
                  refine z_iconst hx hb d_r_grep_154 ?_
                  refine z_isub hx hb d_r_grep_155 ?_
                  refine lv_goto hx hb d_r_grep_156 rfl ?_
                  cases g19
                  exact J19 _ _ _ (lv_sub hl [1, 2, 3, 5, 0] rfl) hW hS
              obtain ⟨b11, g20, g18⟩ := ze1 g18
              have JT20 : b11 = true → ∀ (H : Heap) (locs : List Loc), ZW D B y ad true cu u7 H → va_S (fun x => B ≤ x) s.heap H locs → W p l e R s m args below meth c H locs 0 0 Q (F0 m 144 ls []) := by
                intro hv H locs hW hS
                have g18 := zp (hv) g18
                refine z_iconst hx hb d_r_grep_144 ?_
                cases g18
                exact J18 _ _ _ (lv_sub hl [1, 2, 0, 3, 4] rfl) hW hS
              have JF20 : b11 = false → ∀ (H : Heap) (locs : List Loc), ZW D B y ad true cu u7 H → va_S (fun x => B ≤ x) s.heap H locs → W p l e R s m args below meth c H locs 0 0 Q (F0 m 140 ls []) := by
                intro hv H locs hW hS
                have g18 := zn (by rw [hv]; decide) g18
                refine z_iconst hx hb d_r_grep_140 ?_
                refine lv_goto hx hb d_r_grep_141 rfl ?_
                cases g18
                exact J18 _ _ _ (lv_sub hl [1, 2, 0, 3, 4] rfl) hW hS
              refine z_icmp_ge hx hb d_r_grep_123 rfl g20 (fun g20 => ?_) (fun g20 => ?_)
              · exact JT20 (Option.some.inj g20).symm _ _ hW hS
              · refine lv_aload_n hx hb d_r_grep_126 rfl (lv_at hl 1 rfl) ?_
                refine zg_Mo_wordChar M hW (M.2.2.1 _ w_752) d_r_grep_127 ?_
                refine lv_iload hx hb d_r_grep_130 (lv_at hl 3 rfl) ?_
                refine z_iconst hx hb d_r_grep_132 ?_
                refine z_isub hx hb d_r_grep_133 ?_
                obtain ⟨g21, g20⟩ := zg g20
                refine zr_20 M hW g21 d_r_grep_134 ?_
                refine z_bipush hx hb d_r_grep_135 rfl ?_
                refine z_icmp_ne hx hb d_r_grep_137 rfl g20 (fun g20 => ?_) (fun g20 => ?_)
                · exact JT20 (Option.some.inj g20).symm _ _ hW hS
                · exact JF20 (Option.some.inj g20).symm _ _ hW hS
            refine z_if_eq hx hb d_r_grep_109 rfl g17 (fun g17 => ?_) (fun g17 => ?_)
            · refine lv_iload_n hx hb d_r_grep_118 rfl (lv_at hl 3 rfl) ?_
              cases g17
              exact J17 _ _ _ (lv_sub hl [1, 2, 4, 0] rfl) hW hS
            · refine lv_iload_n hx hb d_r_grep_112 rfl (lv_at hl 3 rfl) ?_
              refine z_iconst hx hb d_r_grep_113 ?_
              refine z_iadd hx hb d_r_grep_114 ?_
              refine lv_goto hx hb d_r_grep_115 rfl ?_
              cases g17
              exact J17 _ _ _ (lv_sub hl [1, 2, 4, 0] rfl) hW hS
          obtain ⟨b8, g22, g16⟩ := ze1 g16
          have JT22 : b8 = true → ∀ (H : Heap) (locs : List Loc), ZW D B y ad true cu u7 H → va_S (fun x => B ≤ x) s.heap H locs → W p l e R s m args below meth c H locs 0 0 Q (F0 m 104 ls []) := by
            intro hv H locs hW hS
            have g16 := zp (hv) g16
            refine z_iconst hx hb d_r_grep_104 ?_
            cases g16
            exact J16 _ _ _ (lv_sub hl [3, 4, 1, 0] rfl) hW hS
          have JF22 : b8 = false → ∀ (H : Heap) (locs : List Loc), ZW D B y ad true cu u7 H → va_S (fun x => B ≤ x) s.heap H locs → W p l e R s m args below meth c H locs 0 0 Q (F0 m 100 ls []) := by
            intro hv H locs hW hS
            have g16 := zn (by rw [hv]; decide) g16
            refine z_iconst hx hb d_r_grep_100 ?_
            refine lv_goto hx hb d_r_grep_101 rfl ?_
            cases g16
            exact J16 _ _ _ (lv_sub hl [3, 4, 1, 0] rfl) hW hS
          refine z_icmp_ge hx hb d_r_grep_86 rfl g22 (fun g22 => ?_) (fun g22 => ?_)
          · exact JT22 (Option.some.inj g22).symm _ _ hW hS
          · refine lv_aload_n hx hb d_r_grep_89 rfl (lv_at hl 3 rfl) ?_
            refine zg_Mo_wordChar M hW (M.2.2.1 _ w_752) d_r_grep_90 ?_
            refine lv_iload_n hx hb d_r_grep_93 rfl (lv_at hl 1 rfl) ?_
            obtain ⟨g23, g22⟩ := zg g22
            refine zr_20 M hW g23 d_r_grep_94 ?_
            refine z_bipush hx hb d_r_grep_95 rfl ?_
            refine z_icmp_ne hx hb d_r_grep_97 rfl g22 (fun g22 => ?_) (fun g22 => ?_)
            · exact JT22 (Option.some.inj g22).symm _ _ hW hS
            · exact JF22 (Option.some.inj g22).symm _ _ hW hS
        · refine z_iconst hx hb d_r_grep_66 ?_
          cases hf
          subst hQ
          exact z_reti hx hb hr hlocks hB hK hW hS d_r_grep_67
      refine z_icmp_le hx hb d_r_grep_41 rfl g13 (fun g13 => ?_) (fun g13 => ?_)
      · exact JT13 (Option.some.inj g13).symm _ _ hW hS
      · refine lv_aload_n hx hb d_r_grep_44 rfl (lv_at hl 1 rfl) ?_
        refine zg_Mo_words M hW (M.2.2.1 _ w_748) d_r_grep_45 ?_
        refine lv_iload_n hx hb d_r_grep_48 rfl (lv_at hl 0 rfl) ?_
        refine z_iconst hx hb d_r_grep_49 ?_
        refine z_iadd hx hb d_r_grep_50 ?_
        refine z_icmp_le hx hb d_r_grep_51 rfl g13 (fun g13 => ?_) (fun g13 => ?_)
        · exact JF13 (Option.some.inj g13).symm _ _ hW hS
        · exact JT13 (Option.some.inj g13).symm _ _ hW hS
    refine z_if_eq hx hb d_r_grep_27 rfl g12 (fun g12 => ?_) (fun g12 => ?_)
    · refine z_iconst hx hb d_r_grep_34 ?_
      cases g12
      exact J12 _ _ _ (lv_sub hl [1, 0] rfl) hW hS
    · refine z_iconst hx hb d_r_grep_30 ?_
      refine lv_goto hx hb d_r_grep_31 rfl ?_
      cases g12
      exact J12 _ _ _ (lv_sub hl [1, 0] rfl) hW hS
  obtain ⟨b2, g24, g11⟩ := ze1 g11
  have JT24 : b2 = true → ∀ (H : Heap) (locs : List Loc), ZW D B y ad true cu u H → va_S (fun x => B ≤ x) s.heap H locs → W p l e R s m args below meth c H locs 0 0 Q (F0 m 24 ls []) := by
    intro hv H locs hW hS
    have g11 := zp (hv) g11
    refine z_iconst hx hb d_r_grep_24 ?_
    cases g11
    exact J11 _ _ _ (lv_sub hl [0] rfl) hW hS
  have JF24 : b2 = false → ∀ (H : Heap) (locs : List Loc), ZW D B y ad true cu u H → va_S (fun x => B ≤ x) s.heap H locs → W p l e R s m args below meth c H locs 0 0 Q (F0 m 20 ls []) := by
    intro hv H locs hW hS
    have g11 := zn (by rw [hv]; decide) g11
    refine z_iconst hx hb d_r_grep_20 ?_
    refine lv_goto hx hb d_r_grep_21 rfl ?_
    cases g11
    exact J11 _ _ _ (lv_sub hl [0] rfl) hW hS
  refine z_icmp_le hx hb d_r_grep_5 rfl g24 (fun g24 => ?_) (fun g24 => ?_)
  · exact JT24 (Option.some.inj g24).symm _ _ hW hS
  · refine lv_aload_n hx hb d_r_grep_8 rfl (lv_at hl 0 rfl) ?_
    refine z_iconst hx hb d_r_grep_9 ?_
    obtain ⟨p1, g25, g24⟩ := ze1 g24
    refine z_callVl (As := [.int (zI 1)]) (rest := []) (k_r_wordAs F _ _ g25) M hml (cw_r_wordAs M.2.2.1 (M.2.2.1 _ w_992) (by rw [hR]; exact Nat.le_of_ble_eq_true rfl) (by rw [hR]; exact Nat.le_of_ble_eq_true rfl)) (zv_Mo hK hW) hB hW hS rfl hl.1 rfl (Nat.le_of_ble_eq_true rfl) d_r_grep_10 (by rw [hR]; exact ⟨Nat.zero_le _, Nat.zero_le _⟩) (fun H locs hW hS => ?_)
    refine lv_ldc2 hx hb hown (M.2.2.1 _ w_1029) d_r_grep_13 ?_
    refine W.lcmp hx hb d_r_grep_16 ?_
    refine z_lif_ne hx hb d_r_grep_17 rfl g24 (fun g24 => ?_) (fun g24 => ?_)
    · exact JT24 (Option.some.inj g24).symm _ _ hW hS
    · exact JF24 (Option.some.inj g24).symm _ _ hW hS
set_option maxRecDepth 100000 in
set_option maxHeartbeats 4000000 in
theorem k_r_emitName {l : Launch} {D : va_G} {B : Nat} {y : Nat → ClassId} {ad : Nat × Nat → Nat} {cu : ZC} (F : Nat) (u : ZR) (v1 : Int64) {uo : ZR} (hf : r_emitName F u v1 = some uo) : Met l y_r_emitName (.code y_r_emitName b_r_emitName 5 none :: zt) { frames := 1, cells := 0, slots := 0, locals := 21 } (va_Pc [.ref (ad (10, 0)), .long v1] (fun U => ZP D B y ad true cu u U)) (va_Qv (fun (_ : Unit) => True) (fun _ t => ZP D B y ad true cu uo t) (fun x => B ≤ x)) 0 0 (fun x => B ≤ x) := by
  refine Met.ofW (cc := b_r_emitName) (maxL := 5) (ret := none) (by decide) rfl ?_
  intro p e s m args below meth c s₁ Bd hml hv
  obtain ⟨hargs, hB, hW, hK⟩ := hv
  have hx := Bd.exec
  have hb := Bd.bytes
  have hr := Bd.returns
  have hts0 := atoms_spec (ws := .code y_r_emitName b_r_emitName 5 none :: zt) Bd.pre
  have hown : s.vm.findClass "TreeShellModel" = some m.cls := findClass_of_methodNamed Bd.named
  have hlocks := Bd.notSynchronized
  have M : ZM p c b_r_emitName s args m "TreeShellModel" D y := ⟨hx, hb, fun w h => hts0 w (List.mem_cons_of_mem _ h), hown, hK⟩
  have hS : va_S (fun x => B ≤ x) s.heap s.heap [] := va_S.rf
  have hE := lg_entry_eq m ([.ref (ad (10, 0)), .long v1] : List Value) 5
  rw [← hargs] at hE
  rw [hE]
  have hl := lv_entry ([.ref (ad (10, 0)), .long v1] : List Value) (n := 5) (Nat.le_of_ble_eq_true rfl)
  generalize (lg_sl ([.ref (ad (10, 0)), .long v1] : List Value) ++ List.replicate (5 - (lg_sl ([.ref (ad (10, 0)), .long v1] : List Value)).length) Slot.unset).toArray = ls at hl ⊢
  have hl : lv_has ls 5 [(0, .ref (ad (10, 0))), (1, .long v1)] := hl
  refine z_start (fun Q R hQ hR => ?_)
  generalize hH : s.heap = H at hW
  have hS : va_S (fun x => B ≤ x) s.heap H [] := by rw [← hH]; exact hS
  have C_3 : ∀ (n : Nat), ∀ (u : ZR) (v1 : Int64) (v3 : Int) (H : Heap) (locs : List Loc) (ls : Array Slot), r_emitName_3 F n u v1 v3 = some uo → lv_has ls 5 [(0, .ref (ad (10, 0))), (1, .long v1), (3, .int (zI v3))] → ZW D B y ad true cu u H → va_S (fun x => B ≤ x) s.heap H locs → W p l e R s m args below meth c H locs 0 0 Q (F0 m 3 ls []) := by
    intro n
    induction n with
    | zero => intro u v1 v3 H locs ls hf; cases (show (none : Option (ZR)) = some uo from hf)
    | succ n ih =>
      intro u v1 v3 H locs ls hf hl hW hS
      rw [r_emitName_3] at hf
      refine lv_iload_n hx hb d_r_emitName_3 rfl (lv_at hl 2 rfl) ?_
      refine z_if_lt hx hb d_r_emitName_4 rfl hf (fun hf => ?_) (fun hf => ?_)
      · cases hf
        subst hQ
        exact z_retv hx hb hr hlocks hB hK hW hS d_r_emitName_37
      · refine lv_lload_n hx hb d_r_emitName_7 rfl (lv_at hl 1 rfl) ?_
        refine z_bipush hx hb d_r_emitName_8 rfl ?_
        refine lv_iload_n hx hb d_r_emitName_10 rfl (lv_at hl 2 rfl) ?_
        refine z_imul hx hb d_r_emitName_11 ?_
        refine z_lshr hx hb d_r_emitName_12 ?_
        refine z_l2i hx hb d_r_emitName_13 ?_
        refine z_sipush hx hb d_r_emitName_14 rfl ?_
        refine z_iand hx hb d_r_emitName_17 ?_
        refine lv_istore (lv' := [(4, .int (zI (zand (zl2i (zlshr v1 (8 * v3))) 255))), (0, .ref (ad (10, 0))), (1, .long v1), (3, .int (zI v3))]) hx hb d_r_emitName_18 hl (by decide) rfl (fun ls hl => ?_)
        refine lv_iload hx hb d_r_emitName_20 (lv_at hl 0 rfl) ?_
        obtain ⟨u2, g1, hf⟩ := ze1 hf
        have J1 : ∀ (H : Heap) (locs : List Loc) (ls : Array Slot), lv_has ls 5 [(0, .ref (ad (10, 0))), (1, .long v1), (3, .int (zI v3))] → ZW D B y ad true cu u2 H → va_S (fun x => B ≤ x) s.heap H locs → W p l e R s m args below meth c H locs 0 0 Q (F0 m 31 ls []) := by
          intro H locs ls hl hW hS
          refine lv_iinc (k := 2) (v := zI (v3 + (-1))) (lv' := [(3, .int (zI (v3 + (-1)))), (0, .ref (ad (10, 0))), (1, .long v1)]) hx hb d_r_emitName_31 hl rfl (zI_add _ _) (by decide) rfl (fun ls hl => ?_)
          refine lv_goto hx hb d_r_emitName_34 rfl ?_
          exact ih _ _ _ _ _ _ hf (lv_sub hl [1, 2, 0] rfl) hW hS
        refine z_if_eq hx hb d_r_emitName_22 rfl g1 (fun g1 => ?_) (fun g1 => ?_)
        · cases g1
          exact J1 _ _ _ (lv_sub hl [1, 2, 3] rfl) hW hS
        · refine lv_aload_n hx hb d_r_emitName_25 rfl (lv_at hl 1 rfl) ?_
          refine lv_iload hx hb d_r_emitName_26 (lv_at hl 0 rfl) ?_
          obtain ⟨u1, g2, g1⟩ := ze1 g1
          refine z_callVv (As := [.int (zI (zand (zl2i (zlshr v1 (8 * v3))) 255))]) (rest := []) (k_r_emit F _ _ g2) M hml (cw_r_emit M.2.2.1 (M.2.2.1 _ w_1002) (by rw [hR]; exact Nat.le_of_ble_eq_true rfl) (by rw [hR]; exact Nat.le_of_ble_eq_true rfl)) (zv_Mo hK hW) hB hW hS rfl hl.1 rfl (Nat.le_of_ble_eq_true rfl) d_r_emitName_28 (by rw [hR]; exact ⟨Nat.zero_le _, Nat.zero_le _⟩) (fun H locs hW hS => ?_)
          cases g1
          exact J1 _ _ _ (lv_sub hl [1, 2, 3] rfl) hW hS
  rw [r_emitName] at hf
  refine z_bipush hx hb d_r_emitName_0 rfl ?_
  refine lv_istore_n (lv' := [(3, .int (zI 6)), (0, .ref (ad (10, 0))), (1, .long v1)]) hx hb d_r_emitName_2 rfl hl (by decide) rfl (fun ls hl => ?_)
  exact C_3 F _ _ _ _ _ _ hf (lv_sub hl [1, 2, 0] rfl) hW hS
set_option maxRecDepth 100000 in
set_option maxHeartbeats 4000000 in
theorem k_r_ls {l : Launch} {D : va_G} {B : Nat} {y : Nat → ClassId} {ad : Nat × Nat → Nat} {cu : ZC} (F : Nat) (u : ZR) {res : Int} {uo : ZR} (hf : r_ls F u = some (res, uo)) : Met l y_r_ls (.code y_r_ls b_r_ls 7 (some .int) :: zt) { frames := 3, cells := 0, slots := 0, locals := 73 } (va_Pc [.ref (ad (10, 0))] (fun U => ZP D B y ad true cu u U)) (va_Qi (fun v (_ : Unit) => v = zI res) (fun _ t => ZP D B y ad true cu uo t) (fun x => B ≤ x)) 0 0 (fun x => B ≤ x) := by
  refine Met.ofW (cc := b_r_ls) (maxL := 7) (ret := (some .int)) (by decide) rfl ?_
  intro p e s m args below meth c s₁ Bd hml hv
  obtain ⟨hargs, hB, hW, hK⟩ := hv
  have hx := Bd.exec
  have hb := Bd.bytes
  have hr := Bd.returns
  have hts0 := atoms_spec (ws := .code y_r_ls b_r_ls 7 (some .int) :: zt) Bd.pre
  have hown : s.vm.findClass "TreeShellModel" = some m.cls := findClass_of_methodNamed Bd.named
  have hlocks := Bd.notSynchronized
  have M : ZM p c b_r_ls s args m "TreeShellModel" D y := ⟨hx, hb, fun w h => hts0 w (List.mem_cons_of_mem _ h), hown, hK⟩
  have hS : va_S (fun x => B ≤ x) s.heap s.heap [] := va_S.rf
  have hE := lg_entry_eq m ([.ref (ad (10, 0))] : List Value) 7
  rw [← hargs] at hE
  rw [hE]
  have hl := lv_entry ([.ref (ad (10, 0))] : List Value) (n := 7) (Nat.le_of_ble_eq_true rfl)
  generalize (lg_sl ([.ref (ad (10, 0))] : List Value) ++ List.replicate (7 - (lg_sl ([.ref (ad (10, 0))] : List Value)).length) Slot.unset).toArray = ls at hl ⊢
  have hl : lv_has ls 7 [(0, .ref (ad (10, 0)))] := hl
  refine z_start (fun Q R hQ hR => ?_)
  generalize hH : s.heap = H at hW
  have hS : va_S (fun x => B ≤ x) s.heap H [] := by rw [← hH]; exact hS
  have C_89 : ∀ (k77 : ZR → Int64 → Int → Option (Int × ZR)) (hk77 : ∀ (u : ZR) (v1 : Int64) (v3 : Int) (H : Heap) (locs : List Loc) (ls : Array Slot), k77 u v1 v3 = some (res, uo) → lv_has ls 7 [(0, .ref (ad (10, 0))), (1, .long v1), (3, .int (zI v3))] → ZW D B y ad true cu u H → va_S (fun x => B ≤ x) s.heap H locs → W p l e R s m args below meth c H locs 0 0 Q (F0 m 77 ls [])) , ∀ (n : Nat), ∀ (u : ZR) (v1 : Int64) (v3 : Int) (v4 : Int) (v5 : Int) (H : Heap) (locs : List Loc) (ls : Array Slot), r_ls_89 F k77 n u v1 v3 v4 v5 = some (res, uo) → lv_has ls 7 [(0, .ref (ad (10, 0))), (1, .long v1), (3, .int (zI v3)), (4, .int (zI v4)), (5, .int (zI v5))] → ZW D B y ad true cu u H → va_S (fun x => B ≤ x) s.heap H locs → W p l e R s m args below meth c H locs 0 0 Q (F0 m 89 ls []) := by
    intro k77 hk77 n
    induction n with
    | zero => intro u v1 v3 v4 v5 H locs ls hf; cases (show (none : Option (Int × ZR)) = some (res, uo) from hf)
    | succ n ih =>
      intro u v1 v3 v4 v5 H locs ls hf hl hW hS
      rw [r_ls_89] at hf
      refine lv_iload hx hb d_r_ls_89 (lv_at hl 4 rfl) ?_
      refine z_bipush hx hb d_r_ls_91 rfl ?_
      refine z_icmp_ge hx hb d_r_ls_93 rfl hf (fun hf => ?_) (fun hf => ?_)
      · refine lv_iload hx hb d_r_ls_182 (lv_at hl 3 rfl) ?_
        obtain ⟨x9, u10, g1, hf⟩ := ze2 hf
        have J1 : ∀ (H : Heap) (locs : List Loc) (ls : Array Slot), lv_has ls 7 [(0, .ref (ad (10, 0))), (1, .long x9), (3, .int (zI v3))] → ZW D B y ad true cu u10 H → va_S (fun x => B ≤ x) s.heap H locs → W p l e R s m args below meth c H locs 0 0 Q (F0 m 222 ls []) := by
          intro H locs ls hl hW hS
          refine lv_iinc (k := 2) (v := zI (v3 + 1)) (lv' := [(3, .int (zI (v3 + 1))), (0, .ref (ad (10, 0))), (1, .long x9)]) hx hb d_r_ls_222 hl rfl (zI_add _ _) (by decide) rfl (fun ls hl => ?_)
          refine lv_goto hx hb d_r_ls_225 rfl ?_
          exact hk77 _ _ _ _ _ _ hf (lv_sub hl [1, 2, 0] rfl) hW hS
        refine z_if_lt hx hb d_r_ls_184 rfl g1 (fun g1 => ?_) (fun g1 => ?_)
        · cases g1
          exact J1 _ _ _ (lv_sub hl [0, 1, 2] rfl) hW hS
        · refine lv_aload_n hx hb d_r_ls_187 rfl (lv_at hl 0 rfl) ?_
          refine zg_Mo_name M hW (M.2.2.1 _ w_738) d_r_ls_188 ?_
          refine lv_iload hx hb d_r_ls_191 (lv_at hl 3 rfl) ?_
          obtain ⟨g2, g1⟩ := zg g1
          refine zr_6 M hW g2 d_r_ls_193 ?_
          refine lv_lstore_n (lv' := [(1, .long (rL u 6 v4.toNat)), (0, .ref (ad (10, 0))), (3, .int (zI v3)), (4, .int (zI v4)), (5, .int (zI v5))]) hx hb d_r_ls_194 rfl hl (by decide) rfl (fun ls hl => ?_)
          refine lv_aload_n hx hb d_r_ls_195 rfl (lv_at hl 1 rfl) ?_
          refine lv_lload_n hx hb d_r_ls_196 rfl (lv_at hl 0 rfl) ?_
          obtain ⟨u5, g3, g1⟩ := ze1 g1
          refine z_callVv (As := [.long (rL u 6 v4.toNat)]) (rest := []) (k_r_emitName F _ _ g3) M hml (cw_r_emitName M.2.2.1 (M.2.2.1 _ w_1043) (by rw [hR]; exact Nat.le_of_ble_eq_true rfl) (by rw [hR]; exact Nat.le_of_ble_eq_true rfl)) (zv_Mo hK hW) hB hW hS rfl hl.1 rfl (Nat.le_of_ble_eq_true rfl) d_r_ls_197 (by rw [hR]; exact ⟨Nat.zero_le _, Nat.zero_le _⟩) (fun H locs hW hS => ?_)
          refine lv_aload_n hx hb d_r_ls_200 rfl (lv_at hl 1 rfl) ?_
          refine zg_Mo_isDir M hW (M.2.2.1 _ w_736) d_r_ls_201 ?_
          refine lv_iload hx hb d_r_ls_204 (lv_at hl 3 rfl) ?_
          refine zr_4 M hW g2 d_r_ls_206 ?_
          obtain ⟨u7, g4, g1⟩ := ze1 g1
          have J4 : ∀ (H : Heap) (locs : List Loc) (ls : Array Slot), lv_has ls 7 [(0, .ref (ad (10, 0))), (1, .long (rL u 6 v4.toNat)), (3, .int (zI v3))] → ZW D B y ad true cu u7 H → va_S (fun x => B ≤ x) s.heap H locs → W p l e R s m args below meth c H locs 0 0 Q (F0 m 216 ls []) := by
            intro H locs ls hl hW hS
            refine lv_aload_n hx hb d_r_ls_216 rfl (lv_at hl 0 rfl) ?_
            refine z_bipush hx hb d_r_ls_217 rfl ?_
            obtain ⟨u8, g5, g1⟩ := ze1 g1
            refine z_callVv (As := [.int (zI 10)]) (rest := []) (k_r_emit F _ _ g5) M hml (cw_r_emit M.2.2.1 (M.2.2.1 _ w_1002) (by rw [hR]; exact Nat.le_of_ble_eq_true rfl) (by rw [hR]; exact Nat.le_of_ble_eq_true rfl)) (zv_Mo hK hW) hB hW hS rfl hl.1 rfl (Nat.le_of_ble_eq_true rfl) d_r_ls_219 (by rw [hR]; exact ⟨Nat.zero_le _, Nat.zero_le _⟩) (fun H locs hW hS => ?_)
            cases g1
            exact J1 _ _ _ (lv_sub hl [0, 1, 2] rfl) hW hS
          refine z_if_eq hx hb d_r_ls_207 rfl g4 (fun g4 => ?_) (fun g4 => ?_)
          · cases g4
            exact J4 _ _ _ (lv_sub hl [1, 0, 2] rfl) hW hS
          · refine lv_aload_n hx hb d_r_ls_210 rfl (lv_at hl 1 rfl) ?_
            refine z_bipush hx hb d_r_ls_211 rfl ?_
            obtain ⟨u6, g6, g4⟩ := ze1 g4
            refine z_callVv (As := [.int (zI 47)]) (rest := []) (k_r_emit F _ _ g6) M hml (cw_r_emit M.2.2.1 (M.2.2.1 _ w_1002) (by rw [hR]; exact Nat.le_of_ble_eq_true rfl) (by rw [hR]; exact Nat.le_of_ble_eq_true rfl)) (zv_Mo hK hW) hB hW hS rfl hl.1 rfl (Nat.le_of_ble_eq_true rfl) d_r_ls_213 (by rw [hR]; exact ⟨Nat.zero_le _, Nat.zero_le _⟩) (fun H locs hW hS => ?_)
            cases g4
            exact J4 _ _ _ (lv_sub hl [1, 0, 2] rfl) hW hS
      · refine lv_aload_n hx hb d_r_ls_96 rfl (lv_at hl 0 rfl) ?_
        refine zg_Mo_used M hW (M.2.2.1 _ w_735) d_r_ls_97 ?_
        refine lv_iload hx hb d_r_ls_100 (lv_at hl 4 rfl) ?_
        obtain ⟨g7, hf⟩ := zg hf
        refine zr_3 M hW g7 d_r_ls_102 ?_
        obtain ⟨x12, g8, hf⟩ := ze1 hf
        have J8 : ∀ (H : Heap) (locs : List Loc) (ls : Array Slot), lv_has ls 7 [(0, .ref (ad (10, 0))), (1, .long v1), (3, .int (zI v3)), (4, .int (zI v4)), (5, .int (zI v5))] → ZW D B y ad true cu u H → va_S (fun x => B ≤ x) s.heap H locs → W p l e R s m args below meth c H locs 0 0 Q (F0 m 137 ls [.int (zI x12)]) := by
          intro H locs ls hl hW hS
          refine lv_istore (lv' := [(6, .int (zI x12)), (0, .ref (ad (10, 0))), (1, .long v1), (3, .int (zI v3)), (4, .int (zI v4)), (5, .int (zI v5))]) hx hb d_r_ls_137 hl (by decide) rfl (fun ls hl => ?_)
          refine lv_iload hx hb d_r_ls_139 (lv_at hl 0 rfl) ?_
          obtain ⟨x14, g9, hf⟩ := ze1 hf
          have J9 : ∀ (H : Heap) (locs : List Loc) (ls : Array Slot), lv_has ls 7 [(0, .ref (ad (10, 0))), (1, .long v1), (3, .int (zI v3)), (5, .int (zI v5))] → ZW D B y ad true cu u H → va_S (fun x => B ≤ x) s.heap H locs → W p l e R s m args below meth c H locs 0 0 Q (F0 m 174 ls [.int (zI x14)]) := by
            intro H locs ls hl hW hS
            refine lv_istore (lv' := [(4, .int (zI x14)), (0, .ref (ad (10, 0))), (1, .long v1), (3, .int (zI v3)), (5, .int (zI v5))]) hx hb d_r_ls_174 hl (by decide) rfl (fun ls hl => ?_)
            refine lv_iinc (k := 4) (v := zI (v5 + 1)) (lv' := [(5, .int (zI (v5 + 1))), (4, .int (zI x14)), (0, .ref (ad (10, 0))), (1, .long v1), (3, .int (zI v3))]) hx hb d_r_ls_176 hl rfl (zI_add _ _) (by decide) rfl (fun ls hl => ?_)
            refine lv_goto hx hb d_r_ls_179 rfl ?_
            exact ih _ _ _ _ _ _ _ _ hf (lv_sub hl [2, 3, 4, 1, 0] rfl) hW hS
          obtain ⟨b13, g10, g9⟩ := ze1 g9
          have JT10 : b13 = true → ∀ (H : Heap) (locs : List Loc), ZW D B y ad true cu u H → va_S (fun x => B ≤ x) s.heap H locs → W p l e R s m args below meth c H locs 0 0 Q (F0 m 172 ls []) := by
            intro hv H locs hW hS
            have g9 := zp (hv) g9
            refine lv_iload hx hb d_r_ls_172 (lv_at hl 4 rfl) ?_
            cases g9
            exact J9 _ _ _ (lv_sub hl [1, 2, 3, 5] rfl) hW hS
          have JF10 : b13 = false → ∀ (H : Heap) (locs : List Loc), ZW D B y ad true cu u H → va_S (fun x => B ≤ x) s.heap H locs → W p l e R s m args below meth c H locs 0 0 Q (F0 m 167 ls []) := by
            intro hv H locs hW hS
            have g9 := zn (by rw [hv]; decide) g9
            refine lv_iload hx hb d_r_ls_167 (lv_at hl 5 rfl) ?_
            refine lv_goto hx hb d_r_ls_169 rfl ?_
            cases g9
            exact J9 _ _ _ (lv_sub hl [1, 2, 3, 5] rfl) hW hS
          refine z_if_eq hx hb d_r_ls_141 rfl g10 (fun g10 => ?_) (fun g10 => ?_)
          · exact JT10 (Option.some.inj g10).symm _ _ hW hS
          · refine lv_iload hx hb d_r_ls_144 (lv_at hl 4 rfl) ?_
            refine z_if_lt hx hb d_r_ls_146 rfl g10 (fun g10 => ?_) (fun g10 => ?_)
            · exact JF10 (Option.some.inj g10).symm _ _ hW hS
            · refine lv_aload_n hx hb d_r_ls_149 rfl (lv_at hl 1 rfl) ?_
              refine zg_Mo_name M hW (M.2.2.1 _ w_738) d_r_ls_150 ?_
              refine lv_iload hx hb d_r_ls_153 (lv_at hl 5 rfl) ?_
              refine zr_6 M hW g7 d_r_ls_155 ?_
              refine lv_aload_n hx hb d_r_ls_156 rfl (lv_at hl 1 rfl) ?_
              refine zg_Mo_name M hW (M.2.2.1 _ w_738) d_r_ls_157 ?_
              refine lv_iload hx hb d_r_ls_160 (lv_at hl 4 rfl) ?_
              obtain ⟨g11, g10⟩ := zg g10
              refine zr_6 M hW g11 d_r_ls_162 ?_
              refine W.lcmp hx hb d_r_ls_163 ?_
              refine z_lif_ge hx hb d_r_ls_164 rfl g10 (fun g10 => ?_) (fun g10 => ?_)
              · exact JT10 (Option.some.inj g10).symm _ _ hW hS
              · exact JF10 (Option.some.inj g10).symm _ _ hW hS
        obtain ⟨b11, g12, g8⟩ := ze1 g8
        have JT12 : b11 = true → ∀ (H : Heap) (locs : List Loc), ZW D B y ad true cu u H → va_S (fun x => B ≤ x) s.heap H locs → W p l e R s m args below meth c H locs 0 0 Q (F0 m 136 ls []) := by
          intro hv H locs hW hS
          have g8 := zp (hv) g8
          refine z_iconst hx hb d_r_ls_136 ?_
          cases g8
          exact J8 _ _ _ (lv_sub hl [0, 1, 2, 3, 4] rfl) hW hS
        have JF12 : b11 = false → ∀ (H : Heap) (locs : List Loc), ZW D B y ad true cu u H → va_S (fun x => B ≤ x) s.heap H locs → W p l e R s m args below meth c H locs 0 0 Q (F0 m 132 ls []) := by
          intro hv H locs hW hS
          have g8 := zn (by rw [hv]; decide) g8
          refine z_iconst hx hb d_r_ls_132 ?_
          refine lv_goto hx hb d_r_ls_133 rfl ?_
          cases g8
          exact J8 _ _ _ (lv_sub hl [0, 1, 2, 3, 4] rfl) hW hS
        refine z_if_eq hx hb d_r_ls_103 rfl g12 (fun g12 => ?_) (fun g12 => ?_)
        · exact JT12 (Option.some.inj g12).symm _ _ hW hS
        · refine lv_aload_n hx hb d_r_ls_106 rfl (lv_at hl 0 rfl) ?_
          refine zg_Mo_parent M hW (M.2.2.1 _ w_737) d_r_ls_107 ?_
          refine lv_iload hx hb d_r_ls_110 (lv_at hl 4 rfl) ?_
          refine zr_5 M hW g7 d_r_ls_112 ?_
          refine lv_aload_n hx hb d_r_ls_113 rfl (lv_at hl 0 rfl) ?_
          refine zg_Mo_pathNode M hW (M.2.2.1 _ w_774) d_r_ls_114 ?_
          refine z_icmp_ne hx hb d_r_ls_117 rfl g12 (fun g12 => ?_) (fun g12 => ?_)
          · exact JT12 (Option.some.inj g12).symm _ _ hW hS
          · refine lv_aload_n hx hb d_r_ls_120 rfl (lv_at hl 0 rfl) ?_
            refine zg_Mo_name M hW (M.2.2.1 _ w_738) d_r_ls_121 ?_
            refine lv_iload hx hb d_r_ls_124 (lv_at hl 4 rfl) ?_
            refine zr_6 M hW g7 d_r_ls_126 ?_
            refine lv_lload_n hx hb d_r_ls_127 rfl (lv_at hl 1 rfl) ?_
            refine W.lcmp hx hb d_r_ls_128 ?_
            refine z_lif_le hx hb d_r_ls_129 rfl g12 (fun g12 => ?_) (fun g12 => ?_)
            · exact JT12 (Option.some.inj g12).symm _ _ hW hS
            · exact JF12 (Option.some.inj g12).symm _ _ hW hS
  have C_77 : ∀ (n : Nat), ∀ (u : ZR) (v1 : Int64) (v3 : Int) (H : Heap) (locs : List Loc) (ls : Array Slot), r_ls_77 F n u v1 v3 = some (res, uo) → lv_has ls 7 [(0, .ref (ad (10, 0))), (1, .long v1), (3, .int (zI v3))] → ZW D B y ad true cu u H → va_S (fun x => B ≤ x) s.heap H locs → W p l e R s m args below meth c H locs 0 0 Q (F0 m 77 ls []) := by
    intro n
    induction n with
    | zero => intro u v1 v3 H locs ls hf; cases (show (none : Option (Int × ZR)) = some (res, uo) from hf)
    | succ n ih =>
      intro u v1 v3 H locs ls hf hl hW hS
      rw [r_ls_77] at hf
      refine lv_iload_n hx hb d_r_ls_77 rfl (lv_at hl 2 rfl) ?_
      refine z_bipush hx hb d_r_ls_78 rfl ?_
      refine z_icmp_ge hx hb d_r_ls_80 rfl hf (fun hf => ?_) (fun hf => ?_)
      · refine z_iconst hx hb d_r_ls_228 ?_
        cases hf
        subst hQ
        exact z_reti hx hb hr hlocks hB hK hW hS d_r_ls_229
      · refine z_iconst hx hb d_r_ls_83 ?_
        refine lv_istore (lv' := [(4, .int (zI (-1))), (0, .ref (ad (10, 0))), (1, .long v1), (3, .int (zI v3))]) hx hb d_r_ls_84 hl (by decide) rfl (fun ls hl => ?_)
        refine z_iconst hx hb d_r_ls_86 ?_
        refine lv_istore (lv' := [(5, .int (zI 1)), (4, .int (zI (-1))), (0, .ref (ad (10, 0))), (1, .long v1), (3, .int (zI v3))]) hx hb d_r_ls_87 hl (by decide) rfl (fun ls hl => ?_)
        exact C_89 _ ih F _ _ _ _ _ _ _ _ hf (lv_sub hl [2, 3, 4, 1, 0] rfl) hW hS
  rw [r_ls] at hf
  refine lv_aload_n hx hb d_r_ls_0 rfl (lv_at hl 0 rfl) ?_
  refine zg_Mo_words M hW (M.2.2.1 _ w_748) d_r_ls_1 ?_
  refine z_iconst hx hb d_r_ls_4 ?_
  refine z_icmp_le hx hb d_r_ls_5 rfl hf (fun hf => ?_) (fun hf => ?_)
  · refine lv_aload_n hx hb d_r_ls_10 rfl (lv_at hl 0 rfl) ?_
    refine lv_aload_n hx hb d_r_ls_11 rfl (lv_at hl 0 rfl) ?_
    refine zg_Mo_here M hW (M.2.2.1 _ w_741) d_r_ls_12 ?_
    refine zp_Mo_pathNode M hW hS (M.2.2.1 _ w_774) d_r_ls_15 (fun H locs hW hS => ?_)
    refine lv_aload_n hx hb d_r_ls_18 rfl (lv_at hl 0 rfl) ?_
    refine zg_Mo_words M hW (M.2.2.1 _ w_748) d_r_ls_19 ?_
    refine z_iconst hx hb d_r_ls_22 ?_
    obtain ⟨u2, g13, hf⟩ := ze1 hf
    have J13 : ∀ (H : Heap) (locs : List Loc) (ls : Array Slot), lv_has ls 7 [(0, .ref (ad (10, 0)))] → ZW D B y ad true cu u2 H → va_S (fun x => B ≤ x) s.heap H locs → W p l e R s m args below meth c H locs 0 0 Q (F0 m 31 ls []) := by
      intro H locs ls hl hW hS
      refine lv_aload_n hx hb d_r_ls_31 rfl (lv_at hl 0 rfl) ?_
      refine zg_Mo_pathNode M hW (M.2.2.1 _ w_774) d_r_ls_32 ?_
      refine z_if_ge hx hb d_r_ls_35 rfl hf (fun hf => ?_) (fun hf => ?_)
      · refine lv_aload_n hx hb d_r_ls_40 rfl (lv_at hl 0 rfl) ?_
        refine zg_Mo_isDir M hW (M.2.2.1 _ w_736) d_r_ls_41 ?_
        refine lv_aload_n hx hb d_r_ls_44 rfl (lv_at hl 0 rfl) ?_
        refine zg_Mo_pathNode M hW (M.2.2.1 _ w_774) d_r_ls_45 ?_
        obtain ⟨g14, hf⟩ := zg hf
        refine zr_4 M hW g14 d_r_ls_48 ?_
        refine z_if_ne hx hb d_r_ls_49 rfl hf (fun hf => ?_) (fun hf => ?_)
        · refine lv_lconst (v := 0) hx hb d_r_ls_73 rfl ?_
          refine lv_lstore_n (lv' := [(1, .long (0 : Int64)), (0, .ref (ad (10, 0)))]) hx hb d_r_ls_74 rfl hl (by decide) rfl (fun ls hl => ?_)
          refine z_iconst hx hb d_r_ls_75 ?_
          refine lv_istore_n (lv' := [(3, .int (zI 0)), (1, .long (0 : Int64)), (0, .ref (ad (10, 0)))]) hx hb d_r_ls_76 rfl hl (by decide) rfl (fun ls hl => ?_)
          exact C_77 F _ _ _ _ _ _ hf (lv_sub hl [2, 1, 0] rfl) hW hS
        · refine lv_aload_n hx hb d_r_ls_52 rfl (lv_at hl 0 rfl) ?_
          refine lv_aload_n hx hb d_r_ls_53 rfl (lv_at hl 0 rfl) ?_
          refine zg_Mo_name M hW (M.2.2.1 _ w_738) d_r_ls_54 ?_
          refine lv_aload_n hx hb d_r_ls_57 rfl (lv_at hl 0 rfl) ?_
          refine zg_Mo_pathNode M hW (M.2.2.1 _ w_774) d_r_ls_58 ?_
          refine zr_6 M hW g14 d_r_ls_61 ?_
          obtain ⟨u3, g15, hf⟩ := ze1 hf
          refine z_callVv (As := [.long (rL u2 6 (rI u2 42).toNat)]) (rest := []) (k_r_emitName F _ _ g15) M hml (cw_r_emitName M.2.2.1 (M.2.2.1 _ w_1043) (by rw [hR]; exact Nat.le_of_ble_eq_true rfl) (by rw [hR]; exact Nat.le_of_ble_eq_true rfl)) (zv_Mo hK hW) hB hW hS rfl hl.1 rfl (Nat.le_of_ble_eq_true rfl) d_r_ls_62 (by rw [hR]; exact ⟨Nat.zero_le _, Nat.zero_le _⟩) (fun H locs hW hS => ?_)
          refine lv_aload_n hx hb d_r_ls_65 rfl (lv_at hl 0 rfl) ?_
          refine z_bipush hx hb d_r_ls_66 rfl ?_
          obtain ⟨u4, g16, hf⟩ := ze1 hf
          refine z_callVv (As := [.int (zI 10)]) (rest := []) (k_r_emit F _ _ g16) M hml (cw_r_emit M.2.2.1 (M.2.2.1 _ w_1002) (by rw [hR]; exact Nat.le_of_ble_eq_true rfl) (by rw [hR]; exact Nat.le_of_ble_eq_true rfl)) (zv_Mo hK hW) hB hW hS rfl hl.1 rfl (Nat.le_of_ble_eq_true rfl) d_r_ls_68 (by rw [hR]; exact ⟨Nat.zero_le _, Nat.zero_le _⟩) (fun H locs hW hS => ?_)
          refine z_iconst hx hb d_r_ls_71 ?_
          cases hf
          subst hQ
          exact z_reti hx hb hr hlocks hB hK hW hS d_r_ls_72
      · refine z_iconst hx hb d_r_ls_38 ?_
        cases hf
        subst hQ
        exact z_reti hx hb hr hlocks hB hK hW hS d_r_ls_39
    refine z_icmp_ne hx hb d_r_ls_23 rfl g13 (fun g13 => ?_) (fun g13 => ?_)
    · cases g13
      exact J13 _ _ _ (lv_sub hl [0] rfl) hW hS
    · refine lv_aload_n hx hb d_r_ls_26 rfl (lv_at hl 0 rfl) ?_
      refine z_iconst hx hb d_r_ls_27 ?_
      obtain ⟨u1, g17, g13⟩ := ze1 g13
      refine z_callVv (As := [.int (zI 1)]) (rest := []) (k_r_follow F _ _ g17) M hml (cw_r_follow M.2.2.1 (M.2.2.1 _ w_963) (by rw [hR]; exact Nat.le_of_ble_eq_true rfl) (by rw [hR]; exact Nat.le_of_ble_eq_true rfl)) (zv_Mo hK hW) hB hW hS rfl hl.1 rfl (Nat.le_of_ble_eq_true rfl) d_r_ls_28 (by rw [hR]; exact ⟨Nat.zero_le _, Nat.zero_le _⟩) (fun H locs hW hS => ?_)
      cases g13
      exact J13 _ _ _ (lv_sub hl [0] rfl) hW hS
  · refine z_iconst hx hb d_r_ls_8 ?_
    cases hf
    subst hQ
    exact z_reti hx hb hr hlocks hB hK hW hS d_r_ls_9
set_option maxRecDepth 100000 in
set_option maxHeartbeats 4000000 in
theorem k_r_mkdir {l : Launch} {D : va_G} {B : Nat} {y : Nat → ClassId} {ad : Nat × Nat → Nat} {cu : ZC} (F : Nat) (u : ZR) {res : Int} {uo : ZR} (hf : r_mkdir F u = some (res, uo)) : Met l y_r_mkdir (.code y_r_mkdir b_r_mkdir 1 (some .int) :: zt) { frames := 3, cells := 0, slots := 0, locals := 73 } (va_Pc [.ref (ad (10, 0))] (fun U => ZP D B y ad true cu u U)) (va_Qi (fun v (_ : Unit) => v = zI res) (fun _ t => ZP D B y ad true cu uo t) (fun x => B ≤ x)) 0 0 (fun x => B ≤ x) := by
  refine Met.ofW (cc := b_r_mkdir) (maxL := 1) (ret := (some .int)) (by decide) rfl ?_
  intro p e s m args below meth c s₁ Bd hml hv
  obtain ⟨hargs, hB, hW, hK⟩ := hv
  have hx := Bd.exec
  have hb := Bd.bytes
  have hr := Bd.returns
  have hts0 := atoms_spec (ws := .code y_r_mkdir b_r_mkdir 1 (some .int) :: zt) Bd.pre
  have hown : s.vm.findClass "TreeShellModel" = some m.cls := findClass_of_methodNamed Bd.named
  have hlocks := Bd.notSynchronized
  have M : ZM p c b_r_mkdir s args m "TreeShellModel" D y := ⟨hx, hb, fun w h => hts0 w (List.mem_cons_of_mem _ h), hown, hK⟩
  have hS : va_S (fun x => B ≤ x) s.heap s.heap [] := va_S.rf
  have hE := lg_entry_eq m ([.ref (ad (10, 0))] : List Value) 1
  rw [← hargs] at hE
  rw [hE]
  have hl := lv_entry ([.ref (ad (10, 0))] : List Value) (n := 1) (Nat.le_of_ble_eq_true rfl)
  generalize (lg_sl ([.ref (ad (10, 0))] : List Value) ++ List.replicate (1 - (lg_sl ([.ref (ad (10, 0))] : List Value)).length) Slot.unset).toArray = ls at hl ⊢
  have hl : lv_has ls 1 [(0, .ref (ad (10, 0)))] := hl
  refine z_start (fun Q R hQ hR => ?_)
  generalize hH : s.heap = H at hW
  have hS : va_S (fun x => B ≤ x) s.heap H [] := by rw [← hH]; exact hS
  rw [r_mkdir] at hf
  refine lv_aload_n hx hb d_r_mkdir_0 rfl (lv_at hl 0 rfl) ?_
  refine zg_Mo_words M hW (M.2.2.1 _ w_748) d_r_mkdir_1 ?_
  refine z_iconst hx hb d_r_mkdir_4 ?_
  refine z_icmp_eq hx hb d_r_mkdir_5 rfl hf (fun hf => ?_) (fun hf => ?_)
  · refine lv_aload_n hx hb d_r_mkdir_10 rfl (lv_at hl 0 rfl) ?_
    refine z_iconst hx hb d_r_mkdir_11 ?_
    obtain ⟨u1, g1, hf⟩ := ze1 hf
    refine z_callVv (As := [.int (zI 1)]) (rest := []) (k_r_follow F _ _ g1) M hml (cw_r_follow M.2.2.1 (M.2.2.1 _ w_963) (by rw [hR]; exact Nat.le_of_ble_eq_true rfl) (by rw [hR]; exact Nat.le_of_ble_eq_true rfl)) (zv_Mo hK hW) hB hW hS rfl hl.1 rfl (Nat.le_of_ble_eq_true rfl) d_r_mkdir_12 (by rw [hR]; exact ⟨Nat.zero_le _, Nat.zero_le _⟩) (fun H locs hW hS => ?_)
    refine lv_aload_n hx hb d_r_mkdir_15 rfl (lv_at hl 0 rfl) ?_
    refine zg_Mo_pathDir M hW (M.2.2.1 _ w_775) d_r_mkdir_16 ?_
    refine z_if_ge hx hb d_r_mkdir_19 rfl hf (fun hf => ?_) (fun hf => ?_)
    · refine lv_aload_n hx hb d_r_mkdir_24 rfl (lv_at hl 0 rfl) ?_
      refine z_iconst hx hb d_r_mkdir_25 ?_
      obtain ⟨p2, u3, g2, hf⟩ := ze2 hf
      refine z_callVi (As := [.int (zI 1)]) (rest := []) (k_r_made F _ _ g2) M hml (cw_r_made M.2.2.1 (M.2.2.1 _ w_984) (by rw [hR]; exact Nat.le_of_ble_eq_true rfl) (by rw [hR]; exact Nat.le_of_ble_eq_true rfl)) (zv_Mo hK hW) hB hW hS rfl hl.1 rfl (Nat.le_of_ble_eq_true rfl) d_r_mkdir_26 (by rw [hR]; exact ⟨Nat.zero_le _, Nat.zero_le _⟩) (fun H locs hW hS => ?_)
      obtain ⟨x4, g3, hf⟩ := ze1 hf
      have J3 : ∀ (H : Heap) (locs : List Loc) (ls : Array Slot), lv_has ls 1 [] → ZW D B y ad true cu u3 H → va_S (fun x => B ≤ x) s.heap H locs → W p l e R s m args below meth c H locs 0 0 Q (F0 m 38 ls [.int (zI x4)]) := by
        intro H locs ls hl hW hS
        cases hf
        subst hQ
        exact z_reti hx hb hr hlocks hB hK hW hS d_r_mkdir_38
      refine z_if_ge hx hb d_r_mkdir_29 rfl g3 (fun g3 => ?_) (fun g3 => ?_)
      · refine z_iconst hx hb d_r_mkdir_37 ?_
        cases g3
        exact J3 _ _ _ (lv_sub hl [] rfl) hW hS
      · refine z_bipush hx hb d_r_mkdir_32 rfl ?_
        refine lv_goto hx hb d_r_mkdir_34 rfl ?_
        cases g3
        exact J3 _ _ _ (lv_sub hl [] rfl) hW hS
    · refine z_iconst hx hb d_r_mkdir_22 ?_
      cases hf
      subst hQ
      exact z_reti hx hb hr hlocks hB hK hW hS d_r_mkdir_23
  · refine z_iconst hx hb d_r_mkdir_8 ?_
    cases hf
    subst hQ
    exact z_reti hx hb hr hlocks hB hK hW hS d_r_mkdir_9
set_option maxRecDepth 100000 in
set_option maxHeartbeats 4000000 in
theorem k_r_cd {l : Launch} {D : va_G} {B : Nat} {y : Nat → ClassId} {ad : Nat × Nat → Nat} {cu : ZC} (F : Nat) (u : ZR) {res : Int} {uo : ZR} (hf : r_cd F u = some (res, uo)) : Met l y_r_cd (.code y_r_cd b_r_cd 1 (some .int) :: zt) { frames := 3, cells := 0, slots := 0, locals := 73 } (va_Pc [.ref (ad (10, 0))] (fun U => ZP D B y ad true cu u U)) (va_Qi (fun v (_ : Unit) => v = zI res) (fun _ t => ZP D B y ad true cu uo t) (fun x => B ≤ x)) 0 0 (fun x => B ≤ x) := by
  refine Met.ofW (cc := b_r_cd) (maxL := 1) (ret := (some .int)) (by decide) rfl ?_
  intro p e s m args below meth c s₁ Bd hml hv
  obtain ⟨hargs, hB, hW, hK⟩ := hv
  have hx := Bd.exec
  have hb := Bd.bytes
  have hr := Bd.returns
  have hts0 := atoms_spec (ws := .code y_r_cd b_r_cd 1 (some .int) :: zt) Bd.pre
  have hown : s.vm.findClass "TreeShellModel" = some m.cls := findClass_of_methodNamed Bd.named
  have hlocks := Bd.notSynchronized
  have M : ZM p c b_r_cd s args m "TreeShellModel" D y := ⟨hx, hb, fun w h => hts0 w (List.mem_cons_of_mem _ h), hown, hK⟩
  have hS : va_S (fun x => B ≤ x) s.heap s.heap [] := va_S.rf
  have hE := lg_entry_eq m ([.ref (ad (10, 0))] : List Value) 1
  rw [← hargs] at hE
  rw [hE]
  have hl := lv_entry ([.ref (ad (10, 0))] : List Value) (n := 1) (Nat.le_of_ble_eq_true rfl)
  generalize (lg_sl ([.ref (ad (10, 0))] : List Value) ++ List.replicate (1 - (lg_sl ([.ref (ad (10, 0))] : List Value)).length) Slot.unset).toArray = ls at hl ⊢
  have hl : lv_has ls 1 [(0, .ref (ad (10, 0)))] := hl
  refine z_start (fun Q R hQ hR => ?_)
  generalize hH : s.heap = H at hW
  have hS : va_S (fun x => B ≤ x) s.heap H [] := by rw [← hH]; exact hS
  rw [r_cd] at hf
  refine lv_aload_n hx hb d_r_cd_0 rfl (lv_at hl 0 rfl) ?_
  refine zg_Mo_words M hW (M.2.2.1 _ w_748) d_r_cd_1 ?_
  refine z_iconst hx hb d_r_cd_4 ?_
  refine z_icmp_le hx hb d_r_cd_5 rfl hf (fun hf => ?_) (fun hf => ?_)
  · refine lv_aload_n hx hb d_r_cd_10 rfl (lv_at hl 0 rfl) ?_
    refine z_iconst hx hb d_r_cd_11 ?_
    refine zp_Mo_pathNode M hW hS (M.2.2.1 _ w_774) d_r_cd_12 (fun H locs hW hS => ?_)
    refine lv_aload_n hx hb d_r_cd_15 rfl (lv_at hl 0 rfl) ?_
    refine zg_Mo_words M hW (M.2.2.1 _ w_748) d_r_cd_16 ?_
    refine z_iconst hx hb d_r_cd_19 ?_
    obtain ⟨u2, g1, hf⟩ := ze1 hf
    have J1 : ∀ (H : Heap) (locs : List Loc) (ls : Array Slot), lv_has ls 1 [(0, .ref (ad (10, 0)))] → ZW D B y ad true cu u2 H → va_S (fun x => B ≤ x) s.heap H locs → W p l e R s m args below meth c H locs 0 0 Q (F0 m 28 ls []) := by
      intro H locs ls hl hW hS
      refine lv_aload_n hx hb d_r_cd_28 rfl (lv_at hl 0 rfl) ?_
      refine zg_Mo_pathNode M hW (M.2.2.1 _ w_774) d_r_cd_29 ?_
      obtain ⟨b3, g2, hf⟩ := ze1 hf
      have JT2 : b3 = true → ∀ (H : Heap) (locs : List Loc), ZW D B y ad true cu u2 H → va_S (fun x => B ≤ x) s.heap H locs → W p l e R s m args below meth c H locs 0 0 Q (F0 m 47 ls []) := by
        intro hv H locs hW hS
        have hf := zp (hv) hf
        refine z_iconst hx hb d_r_cd_47 ?_
        cases hf
        subst hQ
        exact z_reti hx hb hr hlocks hB hK hW hS d_r_cd_48
      have JF2 : b3 = false → ∀ (H : Heap) (locs : List Loc), ZW D B y ad true cu u2 H → va_S (fun x => B ≤ x) s.heap H locs → W p l e R s m args below meth c H locs 0 0 Q (F0 m 49 ls []) := by
        intro hv H locs hW hS
        have hf := zn (by rw [hv]; decide) hf
        refine lv_aload_n hx hb d_r_cd_49 rfl (lv_at hl 0 rfl) ?_
        refine lv_aload_n hx hb d_r_cd_50 rfl (lv_at hl 0 rfl) ?_
        refine zg_Mo_pathNode M hW (M.2.2.1 _ w_774) d_r_cd_51 ?_
        refine zp_Mo_here M hW hS (M.2.2.1 _ w_741) d_r_cd_54 (fun H locs hW hS => ?_)
        refine z_iconst hx hb d_r_cd_57 ?_
        cases hf
        subst hQ
        exact z_reti hx hb hr hlocks hB hK hW hS d_r_cd_58
      refine z_if_lt hx hb d_r_cd_32 rfl g2 (fun g2 => ?_) (fun g2 => ?_)
      · exact JT2 (Option.some.inj g2).symm _ _ hW hS
      · refine lv_aload_n hx hb d_r_cd_35 rfl (lv_at hl 0 rfl) ?_
        refine zg_Mo_isDir M hW (M.2.2.1 _ w_736) d_r_cd_36 ?_
        refine lv_aload_n hx hb d_r_cd_39 rfl (lv_at hl 0 rfl) ?_
        refine zg_Mo_pathNode M hW (M.2.2.1 _ w_774) d_r_cd_40 ?_
        obtain ⟨g3, g2⟩ := zg g2
        refine zr_4 M hW g3 d_r_cd_43 ?_
        refine z_if_ne hx hb d_r_cd_44 rfl g2 (fun g2 => ?_) (fun g2 => ?_)
        · exact JF2 (Option.some.inj g2).symm _ _ hW hS
        · exact JT2 (Option.some.inj g2).symm _ _ hW hS
    refine z_icmp_ne hx hb d_r_cd_20 rfl g1 (fun g1 => ?_) (fun g1 => ?_)
    · cases g1
      exact J1 _ _ _ (lv_sub hl [0] rfl) hW hS
    · refine lv_aload_n hx hb d_r_cd_23 rfl (lv_at hl 0 rfl) ?_
      refine z_iconst hx hb d_r_cd_24 ?_
      obtain ⟨u1, g4, g1⟩ := ze1 g1
      refine z_callVv (As := [.int (zI 1)]) (rest := []) (k_r_follow F _ _ g4) M hml (cw_r_follow M.2.2.1 (M.2.2.1 _ w_963) (by rw [hR]; exact Nat.le_of_ble_eq_true rfl) (by rw [hR]; exact Nat.le_of_ble_eq_true rfl)) (zv_Mo hK hW) hB hW hS rfl hl.1 rfl (Nat.le_of_ble_eq_true rfl) d_r_cd_25 (by rw [hR]; exact ⟨Nat.zero_le _, Nat.zero_le _⟩) (fun H locs hW hS => ?_)
      cases g1
      exact J1 _ _ _ (lv_sub hl [0] rfl) hW hS
  · refine z_iconst hx hb d_r_cd_8 ?_
    cases hf
    subst hQ
    exact z_reti hx hb hr hlocks hB hK hW hS d_r_cd_9
set_option maxRecDepth 100000 in
set_option maxHeartbeats 4000000 in
theorem k_r_tool {l : Launch} {D : va_G} {B : Nat} {y : Nat → ClassId} {ad : Nat × Nat → Nat} {cu : ZC} (F : Nat) (u : ZR) {res : Int} {uo : ZR} (hf : r_tool F u = some (res, uo)) : Met l y_r_tool (.code y_r_tool b_r_tool 3 (some .int) :: zt) { frames := 5, cells := 0, slots := 0, locals := 129 } (va_Pc [.ref (ad (10, 0))] (fun U => ZP D B y ad true cu u U)) (va_Qi (fun v (_ : Unit) => v = zI res) (fun _ t => ZP D B y ad true cu uo t) (fun x => B ≤ x)) 0 0 (fun x => B ≤ x) := by
  refine Met.ofW (cc := b_r_tool) (maxL := 3) (ret := (some .int)) (by decide) rfl ?_
  intro p e s m args below meth c s₁ Bd hml hv
  obtain ⟨hargs, hB, hW, hK⟩ := hv
  have hx := Bd.exec
  have hb := Bd.bytes
  have hr := Bd.returns
  have hts0 := atoms_spec (ws := .code y_r_tool b_r_tool 3 (some .int) :: zt) Bd.pre
  have hown : s.vm.findClass "TreeShellModel" = some m.cls := findClass_of_methodNamed Bd.named
  have hlocks := Bd.notSynchronized
  have M : ZM p c b_r_tool s args m "TreeShellModel" D y := ⟨hx, hb, fun w h => hts0 w (List.mem_cons_of_mem _ h), hown, hK⟩
  have hS : va_S (fun x => B ≤ x) s.heap s.heap [] := va_S.rf
  have hE := lg_entry_eq m ([.ref (ad (10, 0))] : List Value) 3
  rw [← hargs] at hE
  rw [hE]
  have hl := lv_entry ([.ref (ad (10, 0))] : List Value) (n := 3) (Nat.le_of_ble_eq_true rfl)
  generalize (lg_sl ([.ref (ad (10, 0))] : List Value) ++ List.replicate (3 - (lg_sl ([.ref (ad (10, 0))] : List Value)).length) Slot.unset).toArray = ls at hl ⊢
  have hl : lv_has ls 3 [(0, .ref (ad (10, 0)))] := hl
  refine z_start (fun Q R hQ hR => ?_)
  generalize hH : s.heap = H at hW
  have hS : va_S (fun x => B ≤ x) s.heap H [] := by rw [← hH]; exact hS
  rw [r_tool] at hf
  refine lv_aload_n hx hb d_r_tool_0 rfl (lv_at hl 0 rfl) ?_
  refine z_iconst hx hb d_r_tool_1 ?_
  obtain ⟨p1, g1, hf⟩ := ze1 hf
  refine z_callVl (As := [.int (zI 0)]) (rest := []) (k_r_wordAs F _ _ g1) M hml (cw_r_wordAs M.2.2.1 (M.2.2.1 _ w_992) (by rw [hR]; exact Nat.le_of_ble_eq_true rfl) (by rw [hR]; exact Nat.le_of_ble_eq_true rfl)) (zv_Mo hK hW) hB hW hS rfl hl.1 rfl (Nat.le_of_ble_eq_true rfl) d_r_tool_2 (by rw [hR]; exact ⟨Nat.zero_le _, Nat.zero_le _⟩) (fun H locs hW hS => ?_)
  refine lv_lstore_n (lv' := [(1, .long p1), (0, .ref (ad (10, 0)))]) hx hb d_r_tool_5 rfl hl (by decide) rfl (fun ls hl => ?_)
  refine lv_lload_n hx hb d_r_tool_6 rfl (lv_at hl 0 rfl) ?_
  refine lv_ldc2 hx hb hown (M.2.2.1 _ w_996) d_r_tool_7 ?_
  refine W.lcmp hx hb d_r_tool_10 ?_
  obtain ⟨x16, u17, g2, hf⟩ := ze2 hf
  have J2 : ∀ (H : Heap) (locs : List Loc) (ls : Array Slot), lv_has ls 3 [] → ZW D B y ad true cu u17 H → va_S (fun x => B ≤ x) s.heap H locs → W p l e R s m args below meth c H locs 0 0 Q (F0 m 113 ls [.int (zI x16)]) := by
    intro H locs ls hl hW hS
    cases hf
    subst hQ
    exact z_reti hx hb hr hlocks hB hK hW hS d_r_tool_113
  refine z_lif_ne hx hb d_r_tool_11 rfl g2 (fun g2 => ?_) (fun g2 => ?_)
  · refine lv_lload_n hx hb d_r_tool_21 rfl (lv_at hl 0 rfl) ?_
    refine lv_ldc2 hx hb hown (M.2.2.1 _ w_1006) d_r_tool_22 ?_
    refine W.lcmp hx hb d_r_tool_25 ?_
    refine z_lif_ne hx hb d_r_tool_26 rfl g2 (fun g2 => ?_) (fun g2 => ?_)
    · refine lv_lload_n hx hb d_r_tool_36 rfl (lv_at hl 0 rfl) ?_
      refine lv_ldc2 hx hb hown (M.2.2.1 _ w_1015) d_r_tool_37 ?_
      refine W.lcmp hx hb d_r_tool_40 ?_
      refine z_lif_ne hx hb d_r_tool_41 rfl g2 (fun g2 => ?_) (fun g2 => ?_)
      · refine lv_lload_n hx hb d_r_tool_51 rfl (lv_at hl 0 rfl) ?_
        refine lv_ldc2 hx hb hown (M.2.2.1 _ w_1024) d_r_tool_52 ?_
        refine W.lcmp hx hb d_r_tool_55 ?_
        refine z_lif_ne hx hb d_r_tool_56 rfl g2 (fun g2 => ?_) (fun g2 => ?_)
        · refine lv_lload_n hx hb d_r_tool_66 rfl (lv_at hl 0 rfl) ?_
          refine lv_ldc2 hx hb hown (M.2.2.1 _ w_1038) d_r_tool_67 ?_
          refine W.lcmp hx hb d_r_tool_70 ?_
          refine z_lif_ne hx hb d_r_tool_71 rfl g2 (fun g2 => ?_) (fun g2 => ?_)
          · refine lv_lload_n hx hb d_r_tool_81 rfl (lv_at hl 0 rfl) ?_
            refine lv_ldc2 hx hb hown (M.2.2.1 _ w_1047) d_r_tool_82 ?_
            refine W.lcmp hx hb d_r_tool_85 ?_
            refine z_lif_ne hx hb d_r_tool_86 rfl g2 (fun g2 => ?_) (fun g2 => ?_)
            · refine lv_lload_n hx hb d_r_tool_96 rfl (lv_at hl 0 rfl) ?_
              refine lv_ldc2 hx hb hown (M.2.2.1 _ w_1052) d_r_tool_97 ?_
              refine W.lcmp hx hb d_r_tool_100 ?_
              refine z_lif_ne hx hb d_r_tool_101 rfl g2 (fun g2 => ?_) (fun g2 => ?_)
              · refine z_bipush hx hb d_r_tool_111 rfl ?_
                cases g2
                exact J2 _ _ _ (lv_sub hl [] rfl) hW hS
              · refine lv_aload_n hx hb d_r_tool_104 rfl (lv_at hl 1 rfl) ?_
                obtain ⟨p2, u3, g3, g2⟩ := ze2 g2
                refine z_callVi (As := []) (rest := []) (k_r_cd F _ g3) M hml (cw_r_cd M.2.2.1 (M.2.2.1 _ w_1053) (by rw [hR]; exact Nat.le_of_ble_eq_true rfl) (by rw [hR]; exact Nat.le_of_ble_eq_true rfl)) (zv_Mo hK hW) hB hW hS rfl hl.1 rfl (Nat.le_of_ble_eq_true rfl) d_r_tool_105 (by rw [hR]; exact ⟨Nat.zero_le _, Nat.zero_le _⟩) (fun H locs hW hS => ?_)
                refine lv_goto hx hb d_r_tool_108 rfl ?_
                cases g2
                exact J2 _ _ _ (lv_sub hl [] rfl) hW hS
            · refine lv_aload_n hx hb d_r_tool_89 rfl (lv_at hl 1 rfl) ?_
              obtain ⟨p4, u5, g4, g2⟩ := ze2 g2
              refine z_callVi (As := []) (rest := []) (k_r_mkdir F _ g4) M hml (cw_r_mkdir M.2.2.1 (M.2.2.1 _ w_1048) (by rw [hR]; exact Nat.le_of_ble_eq_true rfl) (by rw [hR]; exact Nat.le_of_ble_eq_true rfl)) (zv_Mo hK hW) hB hW hS rfl hl.1 rfl (Nat.le_of_ble_eq_true rfl) d_r_tool_90 (by rw [hR]; exact ⟨Nat.zero_le _, Nat.zero_le _⟩) (fun H locs hW hS => ?_)
              refine lv_goto hx hb d_r_tool_93 rfl ?_
              cases g2
              exact J2 _ _ _ (lv_sub hl [] rfl) hW hS
          · refine lv_aload_n hx hb d_r_tool_74 rfl (lv_at hl 1 rfl) ?_
            obtain ⟨p6, u7, g5, g2⟩ := ze2 g2
            refine z_callVi (As := []) (rest := []) (k_r_ls F _ g5) M hml (cw_r_ls M.2.2.1 (M.2.2.1 _ w_1039) (by rw [hR]; exact Nat.le_of_ble_eq_true rfl) (by rw [hR]; exact Nat.le_of_ble_eq_true rfl)) (zv_Mo hK hW) hB hW hS rfl hl.1 rfl (Nat.le_of_ble_eq_true rfl) d_r_tool_75 (by rw [hR]; exact ⟨Nat.zero_le _, Nat.zero_le _⟩) (fun H locs hW hS => ?_)
            refine lv_goto hx hb d_r_tool_78 rfl ?_
            cases g2
            exact J2 _ _ _ (lv_sub hl [] rfl) hW hS
        · refine lv_aload_n hx hb d_r_tool_59 rfl (lv_at hl 1 rfl) ?_
          obtain ⟨p8, u9, g6, g2⟩ := ze2 g2
          refine z_callVi (As := []) (rest := []) (k_r_grep F _ g6) M hml (cw_r_grep M.2.2.1 (M.2.2.1 _ w_1025) (by rw [hR]; exact Nat.le_of_ble_eq_true rfl) (by rw [hR]; exact Nat.le_of_ble_eq_true rfl)) (zv_Mo hK hW) hB hW hS rfl hl.1 rfl (Nat.le_of_ble_eq_true rfl) d_r_tool_60 (by rw [hR]; exact ⟨Nat.zero_le _, Nat.zero_le _⟩) (fun H locs hW hS => ?_)
          refine lv_goto hx hb d_r_tool_63 rfl ?_
          cases g2
          exact J2 _ _ _ (lv_sub hl [] rfl) hW hS
      · refine lv_aload_n hx hb d_r_tool_44 rfl (lv_at hl 1 rfl) ?_
        obtain ⟨p10, u11, g7, g2⟩ := ze2 g2
        refine z_callVi (As := []) (rest := []) (k_r_wc F _ g7) M hml (cw_r_wc M.2.2.1 (M.2.2.1 _ w_1016) (by rw [hR]; exact Nat.le_of_ble_eq_true rfl) (by rw [hR]; exact Nat.le_of_ble_eq_true rfl)) (zv_Mo hK hW) hB hW hS rfl hl.1 rfl (Nat.le_of_ble_eq_true rfl) d_r_tool_45 (by rw [hR]; exact ⟨Nat.zero_le _, Nat.zero_le _⟩) (fun H locs hW hS => ?_)
        refine lv_goto hx hb d_r_tool_48 rfl ?_
        cases g2
        exact J2 _ _ _ (lv_sub hl [] rfl) hW hS
    · refine lv_aload_n hx hb d_r_tool_29 rfl (lv_at hl 1 rfl) ?_
      obtain ⟨p12, u13, g8, g2⟩ := ze2 g2
      refine z_callVi (As := []) (rest := []) (k_r_cat F _ g8) M hml (cw_r_cat M.2.2.1 (M.2.2.1 _ w_1007) (by rw [hR]; exact Nat.le_of_ble_eq_true rfl) (by rw [hR]; exact Nat.le_of_ble_eq_true rfl)) (zv_Mo hK hW) hB hW hS rfl hl.1 rfl (Nat.le_of_ble_eq_true rfl) d_r_tool_30 (by rw [hR]; exact ⟨Nat.zero_le _, Nat.zero_le _⟩) (fun H locs hW hS => ?_)
      refine lv_goto hx hb d_r_tool_33 rfl ?_
      cases g2
      exact J2 _ _ _ (lv_sub hl [] rfl) hW hS
  · refine lv_aload_n hx hb d_r_tool_14 rfl (lv_at hl 1 rfl) ?_
    obtain ⟨p14, u15, g9, g2⟩ := ze2 g2
    refine z_callVi (As := []) (rest := []) (k_r_echo F _ g9) M hml (cw_r_echo M.2.2.1 (M.2.2.1 _ w_997) (by rw [hR]; exact Nat.le_of_ble_eq_true rfl) (by rw [hR]; exact Nat.le_of_ble_eq_true rfl)) (zv_Mo hK hW) hB hW hS rfl hl.1 rfl (Nat.le_of_ble_eq_true rfl) d_r_tool_15 (by rw [hR]; exact ⟨Nat.zero_le _, Nat.zero_le _⟩) (fun H locs hW hS => ?_)
    refine lv_goto hx hb d_r_tool_18 rfl ?_
    cases g2
    exact J2 _ _ _ (lv_sub hl [] rfl) hW hS
set_option maxRecDepth 100000 in
set_option maxHeartbeats 4000000 in
theorem k_r_startCommand {l : Launch} {D : va_G} {B : Nat} {y : Nat → ClassId} {ad : Nat × Nat → Nat} {cu : ZC} (F : Nat) (u : ZR) {res : Int} {uo : ZR} (hf : r_startCommand F u = some (res, uo)) : Met l y_r_startCommand (.code y_r_startCommand b_r_startCommand 6 (some .int) :: zt) { frames := 6, cells := 0, slots := 0, locals := 151 } (va_Pc [.ref (ad (10, 0))] (fun U => ZP D B y ad true cu u U)) (va_Qi (fun v (_ : Unit) => v = zI res) (fun _ t => ZP D B y ad true cu uo t) (fun x => B ≤ x)) 0 0 (fun x => B ≤ x) := by
  refine Met.ofW (cc := b_r_startCommand) (maxL := 6) (ret := (some .int)) (by decide) rfl ?_
  intro p e s m args below meth c s₁ Bd hml hv
  obtain ⟨hargs, hB, hW, hK⟩ := hv
  have hx := Bd.exec
  have hb := Bd.bytes
  have hr := Bd.returns
  have hts0 := atoms_spec (ws := .code y_r_startCommand b_r_startCommand 6 (some .int) :: zt) Bd.pre
  have hown : s.vm.findClass "TreeShellModel" = some m.cls := findClass_of_methodNamed Bd.named
  have hlocks := Bd.notSynchronized
  have M : ZM p c b_r_startCommand s args m "TreeShellModel" D y := ⟨hx, hb, fun w h => hts0 w (List.mem_cons_of_mem _ h), hown, hK⟩
  have hS : va_S (fun x => B ≤ x) s.heap s.heap [] := va_S.rf
  have hE := lg_entry_eq m ([.ref (ad (10, 0))] : List Value) 6
  rw [← hargs] at hE
  rw [hE]
  have hl := lv_entry ([.ref (ad (10, 0))] : List Value) (n := 6) (Nat.le_of_ble_eq_true rfl)
  generalize (lg_sl ([.ref (ad (10, 0))] : List Value) ++ List.replicate (6 - (lg_sl ([.ref (ad (10, 0))] : List Value)).length) Slot.unset).toArray = ls at hl ⊢
  have hl : lv_has ls 6 [(0, .ref (ad (10, 0)))] := hl
  refine z_start (fun Q R hQ hR => ?_)
  generalize hH : s.heap = H at hW
  have hS : va_S (fun x => B ≤ x) s.heap H [] := by rw [← hH]; exact hS
  have C_274 : ∀ (n : Nat), ∀ (u : ZR) (v2 : Int) (v4 : Int) (H : Heap) (locs : List Loc) (ls : Array Slot), r_startCommand_274 F n u v2 v4 = some (res, uo) → lv_has ls 6 [(0, .ref (ad (10, 0))), (2, .int (zI v2)), (4, .int (zI v4))] → ZW D B y ad true cu u H → va_S (fun x => B ≤ x) s.heap H locs → W p l e R s m args below meth c H locs 0 0 Q (F0 m 274 ls []) := by
    intro n
    induction n with
    | zero => intro u v2 v4 H locs ls hf; cases (show (none : Option (Int × ZR)) = some (res, uo) from hf)
    | succ n ih =>
      intro u v2 v4 H locs ls hf hl hW hS
      rw [r_startCommand_274] at hf
      refine lv_iload hx hb d_r_startCommand_274 (lv_at hl 2 rfl) ?_
      refine lv_iload_n hx hb d_r_startCommand_276 rfl (lv_at hl 1 rfl) ?_
      refine z_icmp_ge hx hb d_r_startCommand_277 rfl hf (fun hf => ?_) (fun hf => ?_)
      · refine lv_aload_n hx hb d_r_startCommand_326 rfl (lv_at hl 0 rfl) ?_
        refine lv_iload_n hx hb d_r_startCommand_327 rfl (lv_at hl 1 rfl) ?_
        refine zp_Mo_pos M hW hS (M.2.2.1 _ w_754) d_r_startCommand_328 (fun H locs hW hS => ?_)
        refine lv_aload_n hx hb d_r_startCommand_331 rfl (lv_at hl 0 rfl) ?_
        refine lv_dup hx hb d_r_startCommand_332 rfl ?_
        refine zg_Mo_count M hW (M.2.2.1 _ w_780) d_r_startCommand_333 ?_
        refine z_iconst hx hb d_r_startCommand_336 ?_
        refine z_iadd hx hb d_r_startCommand_337 ?_
        refine zp_Mo_count M hW hS (M.2.2.1 _ w_780) d_r_startCommand_338 (fun H locs hW hS => ?_)
        obtain ⟨u14, g1, hf⟩ := ze1 hf
        have g1 := Option.some.inj g1
        rw [g1] at hW
        refine lv_aload_n hx hb d_r_startCommand_341 rfl (lv_at hl 0 rfl) ?_
        obtain ⟨p15, u16, g2, hf⟩ := ze2 hf
        refine z_callVi (As := []) (rest := []) (k_r_tool F _ g2) M hml (cw_r_tool M.2.2.1 (M.2.2.1 _ w_988) (by rw [hR]; exact Nat.le_of_ble_eq_true rfl) (by rw [hR]; exact Nat.le_of_ble_eq_true rfl)) (zv_Mo hK hW) hB hW hS rfl hl.1 rfl (Nat.le_of_ble_eq_true rfl) d_r_startCommand_342 (by rw [hR]; exact ⟨Nat.zero_le _, Nat.zero_le _⟩) (fun H locs hW hS => ?_)
        refine lv_istore (lv' := [(4, .int (zI p15)), (0, .ref (ad (10, 0))), (2, .int (zI v2))]) hx hb d_r_startCommand_345 hl (by decide) rfl (fun ls hl => ?_)
        refine lv_iload hx hb d_r_startCommand_347 (lv_at hl 0 rfl) ?_
        obtain ⟨u17, g3, hf⟩ := ze1 hf
        have J3 : ∀ (H : Heap) (locs : List Loc) (ls : Array Slot), lv_has ls 6 [(0, .ref (ad (10, 0))), (4, .int (zI p15))] → ZW D B y ad true cu u17 H → va_S (fun x => B ≤ x) s.heap H locs → W p l e R s m args below meth c H locs 0 0 Q (F0 m 362 ls []) := by
          intro H locs ls hl hW hS
          refine lv_aload_n hx hb d_r_startCommand_362 rfl (lv_at hl 0 rfl) ?_
          refine zg_Mo_spilt M hW (M.2.2.1 _ w_768) d_r_startCommand_363 ?_
          obtain ⟨x18, g4, hf⟩ := ze1 hf
          have J4 : ∀ (H : Heap) (locs : List Loc) (ls : Array Slot), lv_has ls 6 [] → ZW D B y ad true cu u17 H → va_S (fun x => B ≤ x) s.heap H locs → W p l e R s m args below meth c H locs 0 0 Q (F0 m 376 ls [.int (zI x18)]) := by
            intro H locs ls hl hW hS
            cases hf
            subst hQ
            exact z_reti hx hb hr hlocks hB hK hW hS d_r_startCommand_376
          refine z_if_eq hx hb d_r_startCommand_366 rfl g4 (fun g4 => ?_) (fun g4 => ?_)
          · refine lv_iload hx hb d_r_startCommand_374 (lv_at hl 1 rfl) ?_
            cases g4
            exact J4 _ _ _ (lv_sub hl [] rfl) hW hS
          · refine z_bipush hx hb d_r_startCommand_369 rfl ?_
            refine lv_goto hx hb d_r_startCommand_371 rfl ?_
            cases g4
            exact J4 _ _ _ (lv_sub hl [] rfl) hW hS
        refine z_if_le hx hb d_r_startCommand_349 rfl g3 (fun g3 => ?_) (fun g3 => ?_)
        · cases g3
          exact J3 _ _ _ (lv_sub hl [1, 0] rfl) hW hS
        · refine lv_aload_n hx hb d_r_startCommand_352 rfl (lv_at hl 1 rfl) ?_
          refine z_iconst hx hb d_r_startCommand_353 ?_
          refine zp_Mo_textLength M hW hS (M.2.2.1 _ w_767) d_r_startCommand_354 (fun H locs hW hS => ?_)
          refine lv_aload_n hx hb d_r_startCommand_357 rfl (lv_at hl 1 rfl) ?_
          refine z_iconst hx hb d_r_startCommand_358 ?_
          refine zp_Mo_spilt M hW hS (Or.inl rfl) (M.2.2.1 _ w_768) d_r_startCommand_359 (fun H locs hW hS => ?_)
          cases g3
          exact J3 _ _ _ (lv_sub hl [1, 0] rfl) hW hS
      · refine lv_aload_n hx hb d_r_startCommand_280 rfl (lv_at hl 0 rfl) ?_
        refine zg_Mo_kind M hW (M.2.2.1 _ w_745) d_r_startCommand_281 ?_
        refine lv_iload hx hb d_r_startCommand_284 (lv_at hl 2 rfl) ?_
        obtain ⟨g5, hf⟩ := zg hf
        refine zr_13 M hW g5 d_r_startCommand_286 ?_
        obtain ⟨u22, g6, hf⟩ := ze1 hf
        have J6 : ∀ (H : Heap) (locs : List Loc) (ls : Array Slot), lv_has ls 6 [(0, .ref (ad (10, 0))), (2, .int (zI v2)), (4, .int (zI v4))] → ZW D B y ad true cu u22 H → va_S (fun x => B ≤ x) s.heap H locs → W p l e R s m args below meth c H locs 0 0 Q (F0 m 320 ls []) := by
          intro H locs ls hl hW hS
          refine lv_iinc (k := 2) (v := zI (v4 + 1)) (lv' := [(4, .int (zI (v4 + 1))), (0, .ref (ad (10, 0))), (2, .int (zI v2))]) hx hb d_r_startCommand_320 hl rfl (zI_add _ _) (by decide) rfl (fun ls hl => ?_)
          refine lv_goto hx hb d_r_startCommand_323 rfl ?_
          exact ih _ _ _ _ _ _ hf (lv_sub hl [1, 2, 0] rfl) hW hS
        obtain ⟨b20, g7, g6⟩ := ze1 g6
        have JT7 : b20 = true → ∀ (H : Heap) (locs : List Loc), ZW D B y ad true cu u H → va_S (fun x => B ≤ x) s.heap H locs → W p l e R s m args below meth c H locs 0 0 Q (F0 m 320 ls []) := by
          intro hv H locs hW hS
          have g6 := zp (hv) g6
          cases g6
          exact J6 _ _ _ (lv_sub hl [0, 1, 2] rfl) hW hS
        have JF7 : b20 = false → ∀ (H : Heap) (locs : List Loc), ZW D B y ad true cu u H → va_S (fun x => B ≤ x) s.heap H locs → W p l e R s m args below meth c H locs 0 0 Q (F0 m 314 ls []) := by
          intro hv H locs hW hS
          have g6 := zn (by rw [hv]; decide) g6
          refine lv_aload_n hx hb d_r_startCommand_314 rfl (lv_at hl 0 rfl) ?_
          refine lv_iload hx hb d_r_startCommand_315 (lv_at hl 2 rfl) ?_
          obtain ⟨u21, g8, g6⟩ := ze1 g6
          refine z_callVv (As := [.int (zI v4)]) (rest := []) (k_r_expand F _ _ g8) M hml (cw_r_expand M.2.2.1 (M.2.2.1 _ w_952) (by rw [hR]; exact Nat.le_of_ble_eq_true rfl) (by rw [hR]; exact Nat.le_of_ble_eq_true rfl)) (zv_Mo hK hW) hB hW hS rfl hl.1 rfl (Nat.le_of_ble_eq_true rfl) d_r_startCommand_317 (by rw [hR]; exact ⟨Nat.zero_le _, Nat.zero_le _⟩) (fun H locs hW hS => ?_)
          cases g6
          exact J6 _ _ _ (lv_sub hl [0, 1, 2] rfl) hW hS
        refine z_if_ne hx hb d_r_startCommand_287 rfl g7 (fun g7 => ?_) (fun g7 => ?_)
        · exact JT7 (Option.some.inj g7).symm _ _ hW hS
        · refine lv_iload hx hb d_r_startCommand_290 (lv_at hl 2 rfl) ?_
          refine lv_aload_n hx hb d_r_startCommand_292 rfl (lv_at hl 0 rfl) ?_
          refine zg_Mo_pos M hW (M.2.2.1 _ w_754) d_r_startCommand_293 ?_
          refine z_icmp_eq hx hb d_r_startCommand_296 rfl g7 (fun g7 => ?_) (fun g7 => ?_)
          · exact JF7 (Option.some.inj g7).symm _ _ hW hS
          · refine lv_aload_n hx hb d_r_startCommand_299 rfl (lv_at hl 0 rfl) ?_
            refine zg_Mo_kind M hW (M.2.2.1 _ w_745) d_r_startCommand_300 ?_
            refine lv_iload hx hb d_r_startCommand_303 (lv_at hl 2 rfl) ?_
            refine z_iconst hx hb d_r_startCommand_305 ?_
            refine z_isub hx hb d_r_startCommand_306 ?_
            obtain ⟨g9, g7⟩ := zg g7
            refine zr_13 M hW g9 d_r_startCommand_307 ?_
            obtain ⟨p19, g10, g7⟩ := ze1 g7
            refine z_callSi (As := [.int (zI (rA u 13 (v4 - 1).toNat))]) (rest := []) (k_r_redirects F _ _ g10) M hml (cw_r_redirects M.2.2.1 (M.2.2.1 _ w_921) (by rw [hR]; exact Nat.le_of_ble_eq_true rfl) (by rw [hR]; exact Nat.le_of_ble_eq_true rfl)) hB hW hS rfl hl.1 rfl (Nat.le_of_ble_eq_true rfl) d_r_startCommand_308 (by rw [hR]; exact ⟨Nat.zero_le _, Nat.zero_le _⟩) (fun H locs hW hS => ?_)
            refine z_if_ne hx hb d_r_startCommand_311 rfl g7 (fun g7 => ?_) (fun g7 => ?_)
            · exact JT7 (Option.some.inj g7).symm _ _ hW hS
            · exact JF7 (Option.some.inj g7).symm _ _ hW hS
  have C_89 : ∀ (n : Nat), ∀ (u : ZR) (v1 : Int) (v2 : Int) (v3 : Int) (v4 : Int) (H : Heap) (locs : List Loc) (ls : Array Slot), r_startCommand_89 F n u v1 v2 v3 v4 = some (res, uo) → lv_has ls 6 [(0, .ref (ad (10, 0))), (1, .int (zI v1)), (2, .int (zI v2)), (3, .int (zI v3)), (4, .int (zI v4))] → ZW D B y ad true cu u H → va_S (fun x => B ≤ x) s.heap H locs → W p l e R s m args below meth c H locs 0 0 Q (F0 m 89 ls []) := by
    intro n
    induction n with
    | zero => intro u v1 v2 v3 v4 H locs ls hf; cases (show (none : Option (Int × ZR)) = some (res, uo) from hf)
    | succ n ih =>
      intro u v1 v2 v3 v4 H locs ls hf hl hW hS
      rw [r_startCommand_89] at hf
      refine lv_iload hx hb d_r_startCommand_89 (lv_at hl 4 rfl) ?_
      refine lv_iload_n hx hb d_r_startCommand_91 rfl (lv_at hl 2 rfl) ?_
      refine z_icmp_ge hx hb d_r_startCommand_92 rfl hf (fun hf => ?_) (fun hf => ?_)
      · refine lv_iload_n hx hb d_r_startCommand_198 rfl (lv_at hl 1 rfl) ?_
        refine z_if_eq hx hb d_r_startCommand_199 rfl hf (fun hf => ?_) (fun hf => ?_)
        · refine lv_aload_n hx hb d_r_startCommand_258 rfl (lv_at hl 0 rfl) ?_
          refine z_iconst hx hb d_r_startCommand_259 ?_
          refine zp_Mo_words M hW hS (M.2.2.1 _ w_748) d_r_startCommand_260 (fun H locs hW hS => ?_)
          refine lv_aload_n hx hb d_r_startCommand_263 rfl (lv_at hl 0 rfl) ?_
          refine z_iconst hx hb d_r_startCommand_264 ?_
          refine zp_Mo_wordLength M hW hS (M.2.2.1 _ w_751) d_r_startCommand_265 (fun H locs hW hS => ?_)
          refine lv_aload_n hx hb d_r_startCommand_268 rfl (lv_at hl 0 rfl) ?_
          refine zg_Mo_pos M hW (M.2.2.1 _ w_754) d_r_startCommand_269 ?_
          refine lv_istore (lv' := [(4, .int (zI (rI (tI (tI u 16 0) 19 0) 22))), (0, .ref (ad (10, 0))), (1, .int (zI v1)), (2, .int (zI v2)), (3, .int (zI v3))]) hx hb d_r_startCommand_272 hl (by decide) rfl (fun ls hl => ?_)
          exact C_274 F _ _ _ _ _ _ hf (lv_sub hl [1, 3, 0] rfl) hW hS
        · refine lv_aload_n hx hb d_r_startCommand_202 rfl (lv_at hl 0 rfl) ?_
          refine lv_aload_n hx hb d_r_startCommand_203 rfl (lv_at hl 0 rfl) ?_
          refine zg_Mo_pos M hW (M.2.2.1 _ w_754) d_r_startCommand_204 ?_
          refine z_iconst hx hb d_r_startCommand_207 ?_
          refine z_iadd hx hb d_r_startCommand_208 ?_
          refine zp_Mo_pos M hW hS (M.2.2.1 _ w_754) d_r_startCommand_209 (fun H locs hW hS => ?_)
          refine lv_aload_n hx hb d_r_startCommand_212 rfl (lv_at hl 0 rfl) ?_
          refine lv_aload_n hx hb d_r_startCommand_213 rfl (lv_at hl 0 rfl) ?_
          refine zg_Mo_level M hW (M.2.2.1 _ w_753) d_r_startCommand_214 ?_
          refine z_iconst hx hb d_r_startCommand_217 ?_
          refine z_iadd hx hb d_r_startCommand_218 ?_
          refine zp_Mo_level M hW hS (M.2.2.1 _ w_753) d_r_startCommand_219 (fun H locs hW hS => ?_)
          obtain ⟨u5, g11, hf⟩ := ze1 hf
          have g11 := Option.some.inj g11
          rw [g11] at hW
          refine lv_aload_n hx hb d_r_startCommand_222 rfl (lv_at hl 0 rfl) ?_
          refine zg_Mo_listIn M hW (M.2.2.1 _ w_755) d_r_startCommand_223 ?_
          refine lv_aload_n hx hb d_r_startCommand_226 rfl (lv_at hl 0 rfl) ?_
          refine zg_Mo_level M hW (M.2.2.1 _ w_753) d_r_startCommand_227 ?_
          refine lv_aload_n hx hb d_r_startCommand_230 rfl (lv_at hl 0 rfl) ?_
          refine zg_Mo_commandIn M hW (M.2.2.1 _ w_756) d_r_startCommand_231 ?_
          refine lv_aload_n hx hb d_r_startCommand_234 rfl (lv_at hl 0 rfl) ?_
          refine zg_Mo_level M hW (M.2.2.1 _ w_753) d_r_startCommand_235 ?_
          refine z_iconst hx hb d_r_startCommand_238 ?_
          refine z_isub hx hb d_r_startCommand_239 ?_
          obtain ⟨g12, hf⟩ := zg hf
          refine zr_24 M hW g12 d_r_startCommand_240 ?_
          obtain ⟨g13, hf⟩ := zg hf
          refine zw_23 M hW hS g13 d_r_startCommand_241 (fun H locs hW hS => ?_)
          obtain ⟨u6, g14, hf⟩ := ze1 hf
          have g14 := Option.some.inj g14
          rw [g14] at hW
          refine lv_aload_n hx hb d_r_startCommand_242 rfl (lv_at hl 0 rfl) ?_
          refine zg_Mo_putLength M hW (M.2.2.1 _ w_763) d_r_startCommand_243 ?_
          refine lv_aload_n hx hb d_r_startCommand_246 rfl (lv_at hl 0 rfl) ?_
          refine zg_Mo_level M hW (M.2.2.1 _ w_753) d_r_startCommand_247 ?_
          refine z_iconst hx hb d_r_startCommand_250 ?_
          obtain ⟨g15, hf⟩ := zg hf
          refine zw_31 M hW hS g15 d_r_startCommand_251 (fun H locs hW hS => ?_)
          refine lv_aload_n hx hb d_r_startCommand_252 rfl (lv_at hl 0 rfl) ?_
          obtain ⟨u7, g16, hf⟩ := ze1 hf
          refine z_callVv (As := []) (rest := []) (k_r_startPipeline F _ g16) M hml (cw_r_startPipeline M.2.2.1 (M.2.2.1 _ w_932) (by rw [hR]; exact Nat.le_of_ble_eq_true rfl) (by rw [hR]; exact Nat.le_of_ble_eq_true rfl)) (zv_Mo hK hW) hB hW hS rfl hl.1 rfl (Nat.le_of_ble_eq_true rfl) d_r_startCommand_253 (by rw [hR]; exact ⟨Nat.zero_le _, Nat.zero_le _⟩) (fun H locs hW hS => ?_)
          refine z_iconst hx hb d_r_startCommand_256 ?_
          cases hf
          subst hQ
          exact z_reti hx hb hr hlocks hB hK hW hS d_r_startCommand_257
      · refine lv_aload_n hx hb d_r_startCommand_95 rfl (lv_at hl 0 rfl) ?_
        refine zg_Mo_kind M hW (M.2.2.1 _ w_745) d_r_startCommand_96 ?_
        refine lv_iload hx hb d_r_startCommand_99 (lv_at hl 4 rfl) ?_
        obtain ⟨g17, hf⟩ := zg hf
        refine zr_13 M hW g17 d_r_startCommand_101 ?_
        refine z_bipush hx hb d_r_startCommand_102 rfl ?_
        obtain ⟨x8, g18, hf⟩ := ze1 hf
        have J18 : ∀ (H : Heap) (locs : List Loc) (ls : Array Slot), lv_has ls 6 [(0, .ref (ad (10, 0))), (1, .int (zI v1)), (2, .int (zI v2)), (4, .int (zI v4))] → ZW D B y ad true cu u H → va_S (fun x => B ≤ x) s.heap H locs → W p l e R s m args below meth c H locs 0 0 Q (F0 m 132 ls [.int (zI x8)]) := by
          intro H locs ls hl hW hS
          refine lv_istore_n (lv' := [(3, .int (zI x8)), (0, .ref (ad (10, 0))), (1, .int (zI v1)), (2, .int (zI v2)), (4, .int (zI v4))]) hx hb d_r_startCommand_132 rfl hl (by decide) rfl (fun ls hl => ?_)
          refine lv_iload_n hx hb d_r_startCommand_133 rfl (lv_at hl 0 rfl) ?_
          obtain ⟨b10, g19, hf⟩ := ze1 hf
          have JT19 : b10 = true → ∀ (H : Heap) (locs : List Loc), ZW D B y ad true cu u H → va_S (fun x => B ≤ x) s.heap H locs → W p l e R s m args below meth c H locs 0 0 Q (F0 m 192 ls []) := by
            intro hv H locs hW hS
            have hf := zp (hv) hf
            refine lv_iinc (k := 4) (v := zI (v4 + 1)) (lv' := [(4, .int (zI (v4 + 1))), (3, .int (zI x8)), (0, .ref (ad (10, 0))), (1, .int (zI v1)), (2, .int (zI v2))]) hx hb d_r_startCommand_192 hl rfl (zI_add _ _) (by decide) rfl (fun ls hl => ?_)
            refine lv_goto hx hb d_r_startCommand_195 rfl ?_
            exact ih _ _ _ _ _ _ _ _ hf (lv_sub hl [2, 3, 4, 1, 0] rfl) hW hS
          have JF19 : b10 = false → ∀ (H : Heap) (locs : List Loc), ZW D B y ad true cu u H → va_S (fun x => B ≤ x) s.heap H locs → W p l e R s m args below meth c H locs 0 0 Q (F0 m 150 ls []) := by
            intro hv H locs hW hS
            have hf := zn (by rw [hv]; decide) hf
            refine lv_aload_n hx hb d_r_startCommand_150 rfl (lv_at hl 1 rfl) ?_
            refine lv_aload_n hx hb d_r_startCommand_151 rfl (lv_at hl 1 rfl) ?_
            refine zg_Mo_kind M hW (M.2.2.1 _ w_745) d_r_startCommand_152 ?_
            refine lv_iload hx hb d_r_startCommand_155 (lv_at hl 4 rfl) ?_
            refine zr_13 M hW g17 d_r_startCommand_157 ?_
            refine lv_iload hx hb d_r_startCommand_158 (lv_at hl 4 rfl) ?_
            refine z_iconst hx hb d_r_startCommand_160 ?_
            refine z_iadd hx hb d_r_startCommand_161 ?_
            obtain ⟨p11, u12, g20, hf⟩ := ze2 hf
            refine z_callVi (As := [.int (zI (rA u 13 v4.toNat)), .int (zI (v4 + 1))]) (rest := []) (k_r_redirect F _ _ _ g20) M hml (cw_r_redirect M.2.2.1 (M.2.2.1 _ w_948) (by rw [hR]; exact Nat.le_of_ble_eq_true rfl) (by rw [hR]; exact Nat.le_of_ble_eq_true rfl)) (zv_Mo hK hW) hB hW hS rfl hl.1 rfl (Nat.le_of_ble_eq_true rfl) d_r_startCommand_162 (by rw [hR]; exact ⟨Nat.zero_le _, Nat.zero_le _⟩) (fun H locs hW hS => ?_)
            refine lv_istore (lv' := [(5, .int (zI p11)), (3, .int (zI x8)), (0, .ref (ad (10, 0))), (1, .int (zI v1)), (2, .int (zI v2)), (4, .int (zI v4))]) hx hb d_r_startCommand_165 hl (by decide) rfl (fun ls hl => ?_)
            refine lv_iload hx hb d_r_startCommand_167 (lv_at hl 0 rfl) ?_
            refine z_if_eq hx hb d_r_startCommand_169 rfl hf (fun hf => ?_) (fun hf => ?_)
            · refine lv_iinc (k := 5) (v := zI (v4 + 1)) (lv' := [(4, .int (zI (v4 + 1))), (5, .int (zI p11)), (3, .int (zI x8)), (0, .ref (ad (10, 0))), (1, .int (zI v1)), (2, .int (zI v2))]) hx hb d_r_startCommand_192 hl rfl (zI_add _ _) (by decide) rfl (fun ls hl => ?_)
              refine lv_goto hx hb d_r_startCommand_195 rfl ?_
              exact ih _ _ _ _ _ _ _ _ hf (lv_sub hl [3, 4, 5, 2, 0] rfl) hW hS
            · refine lv_aload_n hx hb d_r_startCommand_172 rfl (lv_at hl 2 rfl) ?_
              refine lv_iload hx hb d_r_startCommand_173 (lv_at hl 0 rfl) ?_
              obtain ⟨x13, g21, hf⟩ := ze1 hf
              have J21 : ∀ (H : Heap) (locs : List Loc) (ls : Array Slot), lv_has ls 6 [(5, .int (zI p11))] → ZW D B y ad true cu u12 H → va_S (fun x => B ≤ x) s.heap H locs → W p l e R s m args below meth c H locs 0 0 Q (F0 m 186 ls [.int (zI x13), .ref (ad (10, 0))]) := by
                intro H locs ls hl hW hS
                refine zp_Mo_pos M hW hS (M.2.2.1 _ w_754) d_r_startCommand_186 (fun H locs hW hS => ?_)
                refine lv_iload hx hb d_r_startCommand_189 (lv_at hl 0 rfl) ?_
                cases hf
                subst hQ
                exact z_reti hx hb hr hlocks hB hK hW hS d_r_startCommand_191
              refine z_if_le hx hb d_r_startCommand_175 rfl g21 (fun g21 => ?_) (fun g21 => ?_)
              · refine lv_aload_n hx hb d_r_startCommand_182 rfl (lv_at hl 2 rfl) ?_
                refine zg_Mo_pos M hW (M.2.2.1 _ w_754) d_r_startCommand_183 ?_
                cases g21
                exact J21 _ _ _ (lv_sub hl [0] rfl) hW hS
              · refine lv_iload_n hx hb d_r_startCommand_178 rfl (lv_at hl 4 rfl) ?_
                refine lv_goto hx hb d_r_startCommand_179 rfl ?_
                cases g21
                exact J21 _ _ _ (lv_sub hl [0] rfl) hW hS
          refine z_if_ne hx hb d_r_startCommand_134 rfl g19 (fun g19 => ?_) (fun g19 => ?_)
          · exact JT19 (Option.some.inj g19).symm _ _ hW hS
          · refine lv_aload_n hx hb d_r_startCommand_137 rfl (lv_at hl 1 rfl) ?_
            refine zg_Mo_kind M hW (M.2.2.1 _ w_745) d_r_startCommand_138 ?_
            refine lv_iload hx hb d_r_startCommand_141 (lv_at hl 4 rfl) ?_
            refine zr_13 M hW g17 d_r_startCommand_143 ?_
            obtain ⟨p9, g22, g19⟩ := ze1 g19
            refine z_callSi (As := [.int (zI (rA u 13 v4.toNat))]) (rest := []) (k_r_redirects F _ _ g22) M hml (cw_r_redirects M.2.2.1 (M.2.2.1 _ w_921) (by rw [hR]; exact Nat.le_of_ble_eq_true rfl) (by rw [hR]; exact Nat.le_of_ble_eq_true rfl)) hB hW hS rfl hl.1 rfl (Nat.le_of_ble_eq_true rfl) d_r_startCommand_144 (by rw [hR]; exact ⟨Nat.zero_le _, Nat.zero_le _⟩) (fun H locs hW hS => ?_)
            refine z_if_eq hx hb d_r_startCommand_147 rfl g19 (fun g19 => ?_) (fun g19 => ?_)
            · exact JT19 (Option.some.inj g19).symm _ _ hW hS
            · exact JF19 (Option.some.inj g19).symm _ _ hW hS
        refine z_icmp_ne hx hb d_r_startCommand_104 rfl g18 (fun g18 => ?_) (fun g18 => ?_)
        · refine lv_aload_n hx hb d_r_startCommand_113 rfl (lv_at hl 0 rfl) ?_
          refine zg_Mo_kind M hW (M.2.2.1 _ w_745) d_r_startCommand_114 ?_
          refine lv_iload hx hb d_r_startCommand_117 (lv_at hl 4 rfl) ?_
          refine zr_13 M hW g17 d_r_startCommand_119 ?_
          refine z_bipush hx hb d_r_startCommand_120 rfl ?_
          refine z_icmp_ne hx hb d_r_startCommand_122 rfl g18 (fun g18 => ?_) (fun g18 => ?_)
          · refine lv_iload_n hx hb d_r_startCommand_131 rfl (lv_at hl 3 rfl) ?_
            cases g18
            exact J18 _ _ _ (lv_sub hl [0, 1, 2, 4] rfl) hW hS
          · refine lv_iload_n hx hb d_r_startCommand_125 rfl (lv_at hl 3 rfl) ?_
            refine z_iconst hx hb d_r_startCommand_126 ?_
            refine z_isub hx hb d_r_startCommand_127 ?_
            refine lv_goto hx hb d_r_startCommand_128 rfl ?_
            cases g18
            exact J18 _ _ _ (lv_sub hl [0, 1, 2, 4] rfl) hW hS
        · refine lv_iload_n hx hb d_r_startCommand_107 rfl (lv_at hl 3 rfl) ?_
          refine z_iconst hx hb d_r_startCommand_108 ?_
          refine z_iadd hx hb d_r_startCommand_109 ?_
          refine lv_goto hx hb d_r_startCommand_110 rfl ?_
          cases g18
          exact J18 _ _ _ (lv_sub hl [0, 1, 2, 4] rfl) hW hS
  rw [r_startCommand] at hf
  refine lv_aload_n hx hb d_r_startCommand_0 rfl (lv_at hl 0 rfl) ?_
  refine zg_Mo_back M hW (M.2.2.1 _ w_759) d_r_startCommand_1 ?_
  refine lv_aload_n hx hb d_r_startCommand_4 rfl (lv_at hl 0 rfl) ?_
  refine zg_Mo_level M hW (M.2.2.1 _ w_753) d_r_startCommand_5 ?_
  refine lv_aload_n hx hb d_r_startCommand_8 rfl (lv_at hl 0 rfl) ?_
  refine zg_Mo_here M hW (M.2.2.1 _ w_741) d_r_startCommand_9 ?_
  obtain ⟨g23, hf⟩ := zg hf
  refine zw_27 M hW hS g23 d_r_startCommand_12 (fun H locs hW hS => ?_)
  refine lv_aload_n hx hb d_r_startCommand_13 rfl (lv_at hl 0 rfl) ?_
  refine zg_Mo_commandIn M hW (M.2.2.1 _ w_756) d_r_startCommand_14 ?_
  refine lv_aload_n hx hb d_r_startCommand_17 rfl (lv_at hl 0 rfl) ?_
  refine zg_Mo_level M hW (M.2.2.1 _ w_753) d_r_startCommand_18 ?_
  refine lv_aload_n hx hb d_r_startCommand_21 rfl (lv_at hl 0 rfl) ?_
  refine zg_Mo_nextIn M hW (M.2.2.1 _ w_757) d_r_startCommand_22 ?_
  refine lv_aload_n hx hb d_r_startCommand_25 rfl (lv_at hl 0 rfl) ?_
  refine zg_Mo_level M hW (M.2.2.1 _ w_753) d_r_startCommand_26 ?_
  obtain ⟨g24, hf⟩ := zg hf
  refine zr_25 M hW g24 d_r_startCommand_29 ?_
  refine zw_24 M hW hS g24 d_r_startCommand_30 (fun H locs hW hS => ?_)
  obtain ⟨u1, g25, hf⟩ := ze1 hf
  have g25 := Option.some.inj g25
  rw [g25] at hW
  refine lv_aload_n hx hb d_r_startCommand_31 rfl (lv_at hl 0 rfl) ?_
  refine zg_Mo_target M hW (M.2.2.1 _ w_758) d_r_startCommand_32 ?_
  refine lv_aload_n hx hb d_r_startCommand_35 rfl (lv_at hl 0 rfl) ?_
  refine zg_Mo_level M hW (M.2.2.1 _ w_753) d_r_startCommand_36 ?_
  refine z_iconst hx hb d_r_startCommand_39 ?_
  obtain ⟨g26, hf⟩ := zg hf
  refine zw_26 M hW hS g26 d_r_startCommand_40 (fun H locs hW hS => ?_)
  refine lv_aload_n hx hb d_r_startCommand_41 rfl (lv_at hl 0 rfl) ?_
  refine z_iconst hx hb d_r_startCommand_42 ?_
  refine zp_Mo_textLength M hW hS (M.2.2.1 _ w_767) d_r_startCommand_43 (fun H locs hW hS => ?_)
  refine lv_aload_n hx hb d_r_startCommand_46 rfl (lv_at hl 0 rfl) ?_
  refine z_iconst hx hb d_r_startCommand_47 ?_
  refine zp_Mo_spilt M hW hS (Or.inl rfl) (M.2.2.1 _ w_768) d_r_startCommand_48 (fun H locs hW hS => ?_)
  obtain ⟨u2, g27, hf⟩ := ze1 hf
  have g27 := Option.some.inj g27
  rw [g27] at hW
  refine lv_aload_n hx hb d_r_startCommand_51 rfl (lv_at hl 0 rfl) ?_
  refine zg_Mo_kind M hW (M.2.2.1 _ w_745) d_r_startCommand_52 ?_
  refine lv_aload_n hx hb d_r_startCommand_55 rfl (lv_at hl 0 rfl) ?_
  refine zg_Mo_pos M hW (M.2.2.1 _ w_754) d_r_startCommand_56 ?_
  obtain ⟨g28, hf⟩ := zg hf
  refine zr_13 M hW g28 d_r_startCommand_59 ?_
  refine z_bipush hx hb d_r_startCommand_60 rfl ?_
  obtain ⟨x3, g29, hf⟩ := ze1 hf
  have J29 : ∀ (H : Heap) (locs : List Loc) (ls : Array Slot), lv_has ls 6 [(0, .ref (ad (10, 0)))] → ZW D B y ad true cu u2 H → va_S (fun x => B ≤ x) s.heap H locs → W p l e R s m args below meth c H locs 0 0 Q (F0 m 70 ls [.int (zI x3)]) := by
    intro H locs ls hl hW hS
    refine lv_istore_n (lv' := [(1, .int (zI x3)), (0, .ref (ad (10, 0)))]) hx hb d_r_startCommand_70 rfl hl (by decide) rfl (fun ls hl => ?_)
    refine lv_aload_n hx hb d_r_startCommand_71 rfl (lv_at hl 1 rfl) ?_
    refine lv_aload_n hx hb d_r_startCommand_72 rfl (lv_at hl 1 rfl) ?_
    refine zg_Mo_pos M hW (M.2.2.1 _ w_754) d_r_startCommand_73 ?_
    refine z_iconst hx hb d_r_startCommand_76 ?_
    obtain ⟨p4, g30, hf⟩ := ze1 hf
    refine z_callVi (As := [.int (zI (rI u2 22)), .int (zI 1)]) (rest := []) (k_r_pipelineEnd F _ _ _ g30) M hml (cw_r_pipelineEnd M.2.2.1 (M.2.2.1 _ w_940) (by rw [hR]; exact Nat.le_of_ble_eq_true rfl) (by rw [hR]; exact Nat.le_of_ble_eq_true rfl)) (zv_Mo hK hW) hB hW hS rfl hl.1 rfl (Nat.le_of_ble_eq_true rfl) d_r_startCommand_77 (by rw [hR]; exact ⟨Nat.zero_le _, Nat.zero_le _⟩) (fun H locs hW hS => ?_)
    refine lv_istore_n (lv' := [(2, .int (zI p4)), (1, .int (zI x3)), (0, .ref (ad (10, 0)))]) hx hb d_r_startCommand_80 rfl hl (by decide) rfl (fun ls hl => ?_)
    refine z_iconst hx hb d_r_startCommand_81 ?_
    refine lv_istore_n (lv' := [(3, .int (zI 0)), (2, .int (zI p4)), (1, .int (zI x3)), (0, .ref (ad (10, 0)))]) hx hb d_r_startCommand_82 rfl hl (by decide) rfl (fun ls hl => ?_)
    refine lv_aload_n hx hb d_r_startCommand_83 rfl (lv_at hl 3 rfl) ?_
    refine zg_Mo_pos M hW (M.2.2.1 _ w_754) d_r_startCommand_84 ?_
    refine lv_istore (lv' := [(4, .int (zI (rI u2 22))), (3, .int (zI 0)), (2, .int (zI p4)), (1, .int (zI x3)), (0, .ref (ad (10, 0)))]) hx hb d_r_startCommand_87 hl (by decide) rfl (fun ls hl => ?_)
    exact C_89 F _ _ _ _ _ _ _ _ hf (lv_sub hl [4, 3, 2, 1, 0] rfl) hW hS
  refine z_icmp_ne hx hb d_r_startCommand_62 rfl g29 (fun g29 => ?_) (fun g29 => ?_)
  · refine z_iconst hx hb d_r_startCommand_69 ?_
    cases g29
    exact J29 _ _ _ (lv_sub hl [0] rfl) hW hS
  · refine z_iconst hx hb d_r_startCommand_65 ?_
    refine lv_goto hx hb d_r_startCommand_66 rfl ?_
    cases g29
    exact J29 _ _ _ (lv_sub hl [0] rfl) hW hS
set_option maxRecDepth 100000 in
set_option maxHeartbeats 4000000 in
theorem k_r_chars {l : Launch} {D : va_G} {B : Nat} {y : Nat → ClassId} {ad : Nat × Nat → Nat} {cu : ZC} (F : Nat) (u : ZR) {res : Int} (hf : r_chars F u = some res) : Met l y_r_chars (.code y_r_chars b_r_chars 3 (some .int) :: zt) { frames := 0, cells := 0, slots := 0, locals := 0 } (va_Pc [.ref (ad (10, 0))] (fun U => ZP D B y ad true cu u U)) (va_Qi (fun v (_ : Unit) => v = zI res) (fun _ t => ZP D B y ad true cu u t) (fun x => B ≤ x)) 0 0 (fun x => B ≤ x) := by
  refine Met.ofW (cc := b_r_chars) (maxL := 3) (ret := (some .int)) (by decide) rfl ?_
  intro p e s m args below meth c s₁ Bd hml hv
  obtain ⟨hargs, hB, hW, hK⟩ := hv
  have hx := Bd.exec
  have hb := Bd.bytes
  have hr := Bd.returns
  have hts0 := atoms_spec (ws := .code y_r_chars b_r_chars 3 (some .int) :: zt) Bd.pre
  have hown : s.vm.findClass "TreeShellModel" = some m.cls := findClass_of_methodNamed Bd.named
  have hlocks := Bd.notSynchronized
  have M : ZM p c b_r_chars s args m "TreeShellModel" D y := ⟨hx, hb, fun w h => hts0 w (List.mem_cons_of_mem _ h), hown, hK⟩
  have hS : va_S (fun x => B ≤ x) s.heap s.heap [] := va_S.rf
  have hE := lg_entry_eq m ([.ref (ad (10, 0))] : List Value) 3
  rw [← hargs] at hE
  rw [hE]
  have hl := lv_entry ([.ref (ad (10, 0))] : List Value) (n := 3) (Nat.le_of_ble_eq_true rfl)
  generalize (lg_sl ([.ref (ad (10, 0))] : List Value) ++ List.replicate (3 - (lg_sl ([.ref (ad (10, 0))] : List Value)).length) Slot.unset).toArray = ls at hl ⊢
  have hl : lv_has ls 3 [(0, .ref (ad (10, 0)))] := hl
  refine z_start (fun Q R hQ hR => ?_)
  generalize hH : s.heap = H at hW
  have hS : va_S (fun x => B ≤ x) s.heap H [] := by rw [← hH]; exact hS
  have C_4 : ∀ (n : Nat), ∀ (v1 : Int) (v2 : Int) (H : Heap) (locs : List Loc) (ls : Array Slot), r_chars_4 F n u v1 v2 = some res → lv_has ls 3 [(0, .ref (ad (10, 0))), (1, .int (zI v1)), (2, .int (zI v2))] → ZW D B y ad true cu u H → va_S (fun x => B ≤ x) s.heap H locs → W p l e R s m args below meth c H locs 0 0 Q (F0 m 4 ls []) := by
    intro n
    induction n with
    | zero => intro v1 v2 H locs ls hf; cases (show (none : Option (Int)) = some res from hf)
    | succ n ih =>
      intro v1 v2 H locs ls hf hl hW hS
      rw [r_chars_4] at hf
      refine lv_iload_n hx hb d_r_chars_4 rfl (lv_at hl 2 rfl) ?_
      refine z_bipush hx hb d_r_chars_5 rfl ?_
      refine z_icmp_ge hx hb d_r_chars_7 rfl hf (fun hf => ?_) (fun hf => ?_)
      · refine lv_iload_n hx hb d_r_chars_38 rfl (lv_at hl 1 rfl) ?_
        cases hf
        subst hQ
        exact z_reti hx hb hr hlocks hB hK hW hS d_r_chars_39
      · refine lv_aload_n hx hb d_r_chars_10 rfl (lv_at hl 0 rfl) ?_
        refine zg_Mo_used M hW (M.2.2.1 _ w_735) d_r_chars_11 ?_
        refine lv_iload_n hx hb d_r_chars_14 rfl (lv_at hl 2 rfl) ?_
        obtain ⟨g1, hf⟩ := zg hf
        refine zr_3 M hW g1 d_r_chars_15 ?_
        obtain ⟨x1, g2, hf⟩ := ze1 hf
        have J2 : ∀ (H : Heap) (locs : List Loc) (ls : Array Slot), lv_has ls 3 [(0, .ref (ad (10, 0))), (2, .int (zI v2))] → ZW D B y ad true cu u H → va_S (fun x => B ≤ x) s.heap H locs → W p l e R s m args below meth c H locs 0 0 Q (F0 m 31 ls [.int (zI x1)]) := by
          intro H locs ls hl hW hS
          refine lv_istore_n (lv' := [(1, .int (zI x1)), (0, .ref (ad (10, 0))), (2, .int (zI v2))]) hx hb d_r_chars_31 rfl hl (by decide) rfl (fun ls hl => ?_)
          refine lv_iinc (k := 2) (v := zI (v2 + 1)) (lv' := [(2, .int (zI (v2 + 1))), (1, .int (zI x1)), (0, .ref (ad (10, 0)))]) hx hb d_r_chars_32 hl rfl (zI_add _ _) (by decide) rfl (fun ls hl => ?_)
          refine lv_goto hx hb d_r_chars_35 rfl ?_
          exact ih _ _ _ _ _ hf (lv_sub hl [2, 1, 0] rfl) hW hS
        refine z_if_eq hx hb d_r_chars_16 rfl g2 (fun g2 => ?_) (fun g2 => ?_)
        · refine lv_iload_n hx hb d_r_chars_30 rfl (lv_at hl 1 rfl) ?_
          cases g2
          exact J2 _ _ _ (lv_sub hl [0, 2] rfl) hW hS
        · refine lv_iload_n hx hb d_r_chars_19 rfl (lv_at hl 1 rfl) ?_
          refine lv_aload_n hx hb d_r_chars_20 rfl (lv_at hl 0 rfl) ?_
          refine zg_Mo_size M hW (M.2.2.1 _ w_739) d_r_chars_21 ?_
          refine lv_iload_n hx hb d_r_chars_24 rfl (lv_at hl 2 rfl) ?_
          refine zr_7 M hW g1 d_r_chars_25 ?_
          refine z_iadd hx hb d_r_chars_26 ?_
          refine lv_goto hx hb d_r_chars_27 rfl ?_
          cases g2
          exact J2 _ _ _ (lv_sub hl [0, 2] rfl) hW hS
  rw [r_chars] at hf
  refine z_iconst hx hb d_r_chars_0 ?_
  refine lv_istore_n (lv' := [(1, .int (zI 0)), (0, .ref (ad (10, 0)))]) hx hb d_r_chars_1 rfl hl (by decide) rfl (fun ls hl => ?_)
  refine z_iconst hx hb d_r_chars_2 ?_
  refine lv_istore_n (lv' := [(2, .int (zI 0)), (1, .int (zI 0)), (0, .ref (ad (10, 0)))]) hx hb d_r_chars_3 rfl hl (by decide) rfl (fun ls hl => ?_)
  exact C_4 F _ _ _ _ _ hf (lv_sub hl [2, 1, 0] rfl) hW hS
set_option maxRecDepth 100000 in
set_option maxHeartbeats 4000000 in
theorem k_r_addTo {l : Launch} {D : va_G} {B : Nat} {y : Nat → ClassId} {ad : Nat × Nat → Nat} {cu : ZC} (F : Nat) (u : ZR) (v1 : Int) {res : Int} {uo : ZR} (hf : r_addTo F u v1 = some (res, uo)) : Met l y_r_addTo (.code y_r_addTo b_r_addTo 4 (some .boolean) :: zt) { frames := 1, cells := 0, slots := 0, locals := 22 } (va_Pc [.ref (ad (10, 0)), .int (zI v1)] (fun U => ZP D B y ad true cu u U)) (va_Qi (fun v (_ : Unit) => v = zI res) (fun _ t => ZP D B y ad true cu uo t) (fun x => B ≤ x)) 0 0 (fun x => B ≤ x) := by
  refine Met.ofW (cc := b_r_addTo) (maxL := 4) (ret := (some .boolean)) (by decide) rfl ?_
  intro p e s m args below meth c s₁ Bd hml hv
  obtain ⟨hargs, hB, hW, hK⟩ := hv
  have hx := Bd.exec
  have hb := Bd.bytes
  have hr := Bd.returns
  have hts0 := atoms_spec (ws := .code y_r_addTo b_r_addTo 4 (some .boolean) :: zt) Bd.pre
  have hown : s.vm.findClass "TreeShellModel" = some m.cls := findClass_of_methodNamed Bd.named
  have hlocks := Bd.notSynchronized
  have M : ZM p c b_r_addTo s args m "TreeShellModel" D y := ⟨hx, hb, fun w h => hts0 w (List.mem_cons_of_mem _ h), hown, hK⟩
  have hS : va_S (fun x => B ≤ x) s.heap s.heap [] := va_S.rf
  have hE := lg_entry_eq m ([.ref (ad (10, 0)), .int (zI v1)] : List Value) 4
  rw [← hargs] at hE
  rw [hE]
  have hl := lv_entry ([.ref (ad (10, 0)), .int (zI v1)] : List Value) (n := 4) (Nat.le_of_ble_eq_true rfl)
  generalize (lg_sl ([.ref (ad (10, 0)), .int (zI v1)] : List Value) ++ List.replicate (4 - (lg_sl ([.ref (ad (10, 0)), .int (zI v1)] : List Value)).length) Slot.unset).toArray = ls at hl ⊢
  have hl : lv_has ls 4 [(0, .ref (ad (10, 0))), (1, .int (zI v1))] := hl
  refine z_start (fun Q R hQ hR => ?_)
  generalize hH : s.heap = H at hW
  have hS : va_S (fun x => B ≤ x) s.heap H [] := by rw [← hH]; exact hS
  have C_22 : ∀ (n : Nat), ∀ (u : ZR) (v1 : Int) (v3 : Int) (H : Heap) (locs : List Loc) (ls : Array Slot), r_addTo_22 F n u v1 v3 = some (res, uo) → lv_has ls 4 [(0, .ref (ad (10, 0))), (1, .int (zI v1)), (3, .int (zI v3))] → ZW D B y ad true cu u H → va_S (fun x => B ≤ x) s.heap H locs → W p l e R s m args below meth c H locs 0 0 Q (F0 m 22 ls []) := by
    intro n
    induction n with
    | zero => intro u v1 v3 H locs ls hf; cases (show (none : Option (Int × ZR)) = some (res, uo) from hf)
    | succ n ih =>
      intro u v1 v3 H locs ls hf hl hW hS
      rw [r_addTo_22] at hf
      refine lv_iload_n hx hb d_r_addTo_22 rfl (lv_at hl 2 rfl) ?_
      refine lv_aload_n hx hb d_r_addTo_23 rfl (lv_at hl 0 rfl) ?_
      refine zg_Mo_textLength M hW (M.2.2.1 _ w_767) d_r_addTo_24 ?_
      refine z_icmp_ge hx hb d_r_addTo_27 rfl hf (fun hf => ?_) (fun hf => ?_)
      · refine lv_aload_n hx hb d_r_addTo_61 rfl (lv_at hl 0 rfl) ?_
        refine zg_Mo_size M hW (M.2.2.1 _ w_739) d_r_addTo_62 ?_
        refine lv_iload_n hx hb d_r_addTo_65 rfl (lv_at hl 1 rfl) ?_
        refine lv_dup2_11 hx hb d_r_addTo_66 rfl rfl ?_
        obtain ⟨g1, hf⟩ := zg hf
        refine zr_7 M hW g1 d_r_addTo_67 ?_
        refine lv_aload_n hx hb d_r_addTo_68 rfl (lv_at hl 0 rfl) ?_
        refine zg_Mo_textLength M hW (M.2.2.1 _ w_767) d_r_addTo_69 ?_
        refine z_iadd hx hb d_r_addTo_72 ?_
        refine zw_7 M hW hS g1 d_r_addTo_73 (fun H locs hW hS => ?_)
        obtain ⟨u2, g2, hf⟩ := ze1 hf
        have g2 := Option.some.inj g2
        rw [g2] at hW
        refine z_iconst hx hb d_r_addTo_74 ?_
        cases hf
        subst hQ
        exact z_retz hx hb (Or.inr rfl) hr hlocks hB hK hW hS d_r_addTo_75
      · refine lv_aload_n hx hb d_r_addTo_30 rfl (lv_at hl 0 rfl) ?_
        refine zg_Mo_content M hW (M.2.2.1 _ w_740) d_r_addTo_31 ?_
        refine z_sipush hx hb d_r_addTo_34 rfl ?_
        refine lv_iload_n hx hb d_r_addTo_37 rfl (lv_at hl 1 rfl) ?_
        refine z_imul hx hb d_r_addTo_38 ?_
        refine lv_aload_n hx hb d_r_addTo_39 rfl (lv_at hl 0 rfl) ?_
        refine zg_Mo_size M hW (M.2.2.1 _ w_739) d_r_addTo_40 ?_
        refine lv_iload_n hx hb d_r_addTo_43 rfl (lv_at hl 1 rfl) ?_
        obtain ⟨g3, hf⟩ := zg hf
        refine zr_7 M hW g3 d_r_addTo_44 ?_
        refine z_iadd hx hb d_r_addTo_45 ?_
        refine lv_iload_n hx hb d_r_addTo_46 rfl (lv_at hl 2 rfl) ?_
        refine z_iadd hx hb d_r_addTo_47 ?_
        refine lv_aload_n hx hb d_r_addTo_48 rfl (lv_at hl 0 rfl) ?_
        refine zg_Mo_text M hW (M.2.2.1 _ w_766) d_r_addTo_49 ?_
        refine lv_iload_n hx hb d_r_addTo_52 rfl (lv_at hl 2 rfl) ?_
        obtain ⟨g4, hf⟩ := zg hf
        refine zr_34 M hW g4 d_r_addTo_53 ?_
        obtain ⟨g5, hf⟩ := zg hf
        refine zw_8 M hW hS g5 d_r_addTo_54 (fun H locs hW hS => ?_)
        obtain ⟨u3, g6, hf⟩ := ze1 hf
        have g6 := Option.some.inj g6
        rw [g6] at hW
        refine lv_iinc (k := 2) (v := zI (v3 + 1)) (lv' := [(3, .int (zI (v3 + 1))), (0, .ref (ad (10, 0))), (1, .int (zI v1))]) hx hb d_r_addTo_55 hl rfl (zI_add _ _) (by decide) rfl (fun ls hl => ?_)
        refine lv_goto hx hb d_r_addTo_58 rfl ?_
        exact ih _ _ _ _ _ _ hf (lv_sub hl [1, 2, 0] rfl) hW hS
  rw [r_addTo] at hf
  refine lv_aload_n hx hb d_r_addTo_0 rfl (lv_at hl 0 rfl) ?_
  obtain ⟨p1, g7, hf⟩ := ze1 hf
  refine z_callVi (As := []) (rest := []) (k_r_chars F _ g7) M hml (cw_r_chars M.2.2.1 (M.2.2.1 _ w_1065) (by rw [hR]; exact Nat.le_of_ble_eq_true rfl) (by rw [hR]; exact Nat.le_of_ble_eq_true rfl)) (zv_Mo hK hW) hB hW hS rfl hl.1 rfl (Nat.le_of_ble_eq_true rfl) d_r_addTo_1 (by rw [hR]; exact ⟨Nat.zero_le _, Nat.zero_le _⟩) (fun H locs hW hS => ?_)
  refine lv_istore_n (lv' := [(2, .int (zI p1)), (0, .ref (ad (10, 0))), (1, .int (zI v1))]) hx hb d_r_addTo_4 rfl hl (by decide) rfl (fun ls hl => ?_)
  refine lv_iload_n hx hb d_r_addTo_5 rfl (lv_at hl 0 rfl) ?_
  refine lv_aload_n hx hb d_r_addTo_6 rfl (lv_at hl 1 rfl) ?_
  refine zg_Mo_textLength M hW (M.2.2.1 _ w_767) d_r_addTo_7 ?_
  refine z_iadd hx hb d_r_addTo_10 ?_
  refine lv_aload_n hx hb d_r_addTo_11 rfl (lv_at hl 1 rfl) ?_
  refine zg_Mo_charLimit M hW (M.2.2.1 _ w_733) d_r_addTo_12 ?_
  refine z_icmp_le hx hb d_r_addTo_15 rfl hf (fun hf => ?_) (fun hf => ?_)
  · refine z_iconst hx hb d_r_addTo_20 ?_
    refine lv_istore_n (lv' := [(3, .int (zI 0)), (2, .int (zI p1)), (0, .ref (ad (10, 0))), (1, .int (zI v1))]) hx hb d_r_addTo_21 rfl hl (by decide) rfl (fun ls hl => ?_)
    exact C_22 F _ _ _ _ _ _ hf (lv_sub hl [2, 3, 0] rfl) hW hS
  · refine z_iconst hx hb d_r_addTo_18 ?_
    cases hf
    subst hQ
    exact z_retz hx hb (Or.inl rfl) hr hlocks hB hK hW hS d_r_addTo_19
