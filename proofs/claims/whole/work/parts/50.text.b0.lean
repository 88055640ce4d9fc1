set_option maxRecDepth 100000 in
set_option maxHeartbeats 4000000 in
theorem k_cText_add {l : Launch} {D : va_G} {B : Nat} {y : Nat → ClassId} {ad : Nat × Nat → Nat} {q : Bool} {r : ZR} (F : Nat) (u : ZC) (v0 : Nat) (v1 : Int) {uo : ZC} (hf : cText_add F u v0 v1 = some uo) : Met l y_cText_add (.code y_cText_add b_cText_add 2 none :: zt) { frames := 0, cells := 0, slots := 0, locals := 0 } (va_Pc [.ref (ad (1, v0)), .int (zI v1)] (fun U => ZP D B y ad q u r U)) (va_Qv (fun (_ : Unit) => True) (fun _ t => ZP D B y ad q uo r t) (fun x => B ≤ x)) 0 0 (fun x => B ≤ x) := by
  refine Met.ofW (cc := b_cText_add) (maxL := 2) (ret := none) (by decide) rfl ?_
  intro p e s m args below meth c s₁ Bd hml hv
  obtain ⟨hargs, hB, hW, hK⟩ := hv
  have hx := Bd.exec
  have hb := Bd.bytes
  have hr := Bd.returns
  have hts0 := atoms_spec (ws := .code y_cText_add b_cText_add 2 none :: zt) Bd.pre
  have hown : s.vm.findClass "TreeShell$Text" = some m.cls := findClass_of_methodNamed Bd.named
  have hlocks := Bd.notSynchronized
  have M : ZM p c b_cText_add s args m "TreeShell$Text" D y := ⟨hx, hb, fun w h => hts0 w (List.mem_cons_of_mem _ h), hown, hK⟩
  have hS : va_S (fun x => B ≤ x) s.heap s.heap [] := va_S.rf
  have hE := lg_entry_eq m ([.ref (ad (1, v0)), .int (zI v1)] : List Value) 2
  rw [← hargs] at hE
  rw [hE]
  have hl := lv_entry ([.ref (ad (1, v0)), .int (zI v1)] : List Value) (n := 2) (Nat.le_of_ble_eq_true rfl)
  generalize (lg_sl ([.ref (ad (1, v0)), .int (zI v1)] : List Value) ++ List.replicate (2 - (lg_sl ([.ref (ad (1, v0)), .int (zI v1)] : List Value)).length) Slot.unset).toArray = ls at hl ⊢
  have hl : lv_has ls 2 [(0, .ref (ad (1, v0))), (1, .int (zI v1))] := hl
  refine z_start (fun Q R hQ hR => ?_)
  generalize hH : s.heap = H at hW
  have hS : va_S (fun x => B ≤ x) s.heap H [] := by rw [← hH]; exact hS
  rw [cText_add] at hf
  refine lv_aload_n hx hb d_cText_add_0 rfl (lv_at hl 0 rfl) ?_
  obtain ⟨g1, hf⟩ := zg hf
  refine zg_Tx_size M hW (zid_T g1) (M.2.2.1 _ w_105) d_cText_add_1 ?_
  refine lv_aload_n hx hb d_cText_add_4 rfl (lv_at hl 0 rfl) ?_
  refine zg_Tx_letters M hW (zid_T g1) (M.2.2.1 _ w_99) d_cText_add_5 ?_
  refine zl_let M hW (zid_C g1) d_cText_add_8 ?_
  obtain ⟨u2, g2, hf⟩ := ze1 hf
  have J2 : ∀ (H : Heap) (locs : List Loc) (ls : Array Slot), lv_has ls 2 [] → ZW D B y ad q u2 r H → va_S (fun x => B ≤ x) s.heap H locs → W p l e R s m args below meth c H locs 0 0 Q (F0 m 40 ls []) := by
    intro H locs ls hl hW hS
    cases hf
    subst hQ
    exact z_retv hx hb hr hlocks hB hK hW hS d_cText_add_40
  refine z_icmp_ge hx hb d_cText_add_9 rfl g2 (fun g2 => ?_) (fun g2 => ?_)
  · refine lv_aload_n hx hb d_cText_add_35 rfl (lv_at hl 0 rfl) ?_
    refine z_iconst hx hb d_cText_add_36 ?_
    refine zp_Tx_spilled M hW hS (zid_T g1) (Or.inr rfl) (M.2.2.1 _ w_111) d_cText_add_37 (fun H locs hW hS => ?_)
    cases g2
    exact J2 _ _ _ (lv_sub hl [] rfl) hW hS
  · refine lv_aload_n hx hb d_cText_add_12 rfl (lv_at hl 0 rfl) ?_
    refine zg_Tx_letters M hW (zid_T g1) (M.2.2.1 _ w_99) d_cText_add_13 ?_
    refine lv_aload_n hx hb d_cText_add_16 rfl (lv_at hl 0 rfl) ?_
    refine zg_Tx_size M hW (zid_T g1) (M.2.2.1 _ w_105) d_cText_add_17 ?_
    refine lv_iload_n hx hb d_cText_add_20 rfl (lv_at hl 1 rfl) ?_
    obtain ⟨g3, g2⟩ := zg g2
    obtain ⟨g4, g2⟩ := zg g2
    refine zs_let M hW hS (zid_C g1) g4 g3 d_cText_add_21 (fun H locs hW hS => ?_)
    refine lv_aload_n hx hb d_cText_add_22 rfl (lv_at hl 0 rfl) ?_
    refine lv_dup hx hb d_cText_add_23 rfl ?_
    refine zg_Tx_size M hW (zid_T g1) (M.2.2.1 _ w_105) d_cText_add_24 ?_
    refine z_iconst hx hb d_cText_add_27 ?_
    refine z_iadd hx hb d_cText_add_28 ?_
    refine zp_Tx_size M hW hS (zid_T g1) (M.2.2.1 _ w_105) d_cText_add_29 (fun H locs hW hS => ?_)
    obtain ⟨u1, g5, g2⟩ := ze1 g2
    have g5 := Option.some.inj g5
    rw [g5] at hW
    have g6 : zlT u1 v0 := by rw [← g5]; exact g1
    refine lv_goto hx hb d_cText_add_32 rfl ?_
    cases g2
    exact J2 _ _ _ (lv_sub hl [] rfl) hW hS
set_option maxRecDepth 100000 in
set_option maxHeartbeats 4000000 in
theorem k_cText_addPacked {l : Launch} {D : va_G} {B : Nat} {y : Nat → ClassId} {ad : Nat × Nat → Nat} {q : Bool} {r : ZR} (F : Nat) (u : ZC) (v0 : Nat) (v1 : Int64) {uo : ZC} (hf : cText_addPacked F u v0 v1 = some uo) : Met l y_cText_addPacked (.code y_cText_addPacked b_cText_addPacked 5 none :: zt) { frames := 1, cells := 0, slots := 0, locals := 21 } (va_Pc [.ref (ad (1, v0)), .long v1] (fun U => ZP D B y ad q u r U)) (va_Qv (fun (_ : Unit) => True) (fun _ t => ZP D B y ad q uo r t) (fun x => B ≤ x)) 0 0 (fun x => B ≤ x) := by
  refine Met.ofW (cc := b_cText_addPacked) (maxL := 5) (ret := none) (by decide) rfl ?_
  intro p e s m args below meth c s₁ Bd hml hv
  obtain ⟨hargs, hB, hW, hK⟩ := hv
  have hx := Bd.exec
  have hb := Bd.bytes
  have hr := Bd.returns
  have hts0 := atoms_spec (ws := .code y_cText_addPacked b_cText_addPacked 5 none :: zt) Bd.pre
  have hown : s.vm.findClass "TreeShell$Text" = some m.cls := findClass_of_methodNamed Bd.named
  have hlocks := Bd.notSynchronized
  have M : ZM p c b_cText_addPacked s args m "TreeShell$Text" D y := ⟨hx, hb, fun w h => hts0 w (List.mem_cons_of_mem _ h), hown, hK⟩
  have hS : va_S (fun x => B ≤ x) s.heap s.heap [] := va_S.rf
  have hE := lg_entry_eq m ([.ref (ad (1, v0)), .long v1] : List Value) 5
  rw [← hargs] at hE
  rw [hE]
  have hl := lv_entry ([.ref (ad (1, v0)), .long v1] : List Value) (n := 5) (Nat.le_of_ble_eq_true rfl)
  generalize (lg_sl ([.ref (ad (1, v0)), .long v1] : List Value) ++ List.replicate (5 - (lg_sl ([.ref (ad (1, v0)), .long v1] : List Value)).length) Slot.unset).toArray = ls at hl ⊢
  have hl : lv_has ls 5 [(0, .ref (ad (1, v0))), (1, .long v1)] := hl
  refine z_start (fun Q R hQ hR => ?_)
  generalize hH : s.heap = H at hW
  have hS : va_S (fun x => B ≤ x) s.heap H [] := by rw [← hH]; exact hS
  have C_3 : ∀ (n : Nat), ∀ (u : ZC) (v0 : Nat) (v1 : Int64) (v3 : Int) (H : Heap) (locs : List Loc) (ls : Array Slot), cText_addPacked_3 F n u v0 v1 v3 = some uo → lv_has ls 5 [(0, .ref (ad (1, v0))), (1, .long v1), (3, .int (zI v3))] → ZW D B y ad q u r H → va_S (fun x => B ≤ x) s.heap H locs → W p l e R s m args below meth c H locs 0 0 Q (F0 m 3 ls []) := by
    intro n
    induction n with
    | zero => intro u v0 v1 v3 H locs ls hf; cases (show (none : Option (ZC)) = some uo from hf)
    | succ n ih =>
      intro u v0 v1 v3 H locs ls hf hl hW hS
      rw [cText_addPacked_3] at hf
      refine lv_iload_n hx hb d_cText_addPacked_3 rfl (lv_at hl 2 rfl) ?_
      refine z_if_lt hx hb d_cText_addPacked_4 rfl hf (fun hf => ?_) (fun hf => ?_)
      · cases hf
        subst hQ
        exact z_retv hx hb hr hlocks hB hK hW hS d_cText_addPacked_35
      · refine lv_lload_n hx hb d_cText_addPacked_7 rfl (lv_at hl 1 rfl) ?_
        refine lv_iload_n hx hb d_cText_addPacked_8 rfl (lv_at hl 2 rfl) ?_
        refine z_lushr hx hb d_cText_addPacked_9 ?_
        refine lv_ldc2 hx hb hown (M.2.2.1 _ w_374) d_cText_addPacked_10 ?_
        refine lv_land hx hb d_cText_addPacked_13 ?_
        refine z_l2i hx hb d_cText_addPacked_14 ?_
        refine z_i2c hx hb d_cText_addPacked_15 ?_
        refine lv_istore (lv' := [(4, .int (zI (zchr (zl2i ((zlushr v1 v3) &&& (255 : Int64)))))), (0, .ref (ad (1, v0))), (1, .long v1), (3, .int (zI v3))]) hx hb d_cText_addPacked_16 hl (by decide) rfl (fun ls hl => ?_)
        refine lv_iload hx hb d_cText_addPacked_18 (lv_at hl 0 rfl) ?_
        obtain ⟨u2, g1, hf⟩ := ze1 hf
        have J1 : ∀ (H : Heap) (locs : List Loc) (ls : Array Slot), lv_has ls 5 [(0, .ref (ad (1, v0))), (1, .long v1), (3, .int (zI v3))] → ZW D B y ad q u2 r H → va_S (fun x => B ≤ x) s.heap H locs → W p l e R s m args below meth c H locs 0 0 Q (F0 m 29 ls []) := by
          intro H locs ls hl hW hS
          refine lv_iinc (k := 2) (v := zI (v3 + (-8))) (lv' := [(3, .int (zI (v3 + (-8)))), (0, .ref (ad (1, v0))), (1, .long v1)]) hx hb d_cText_addPacked_29 hl rfl (zI_add _ _) (by decide) rfl (fun ls hl => ?_)
          refine lv_goto hx hb d_cText_addPacked_32 rfl ?_
          exact ih _ _ _ _ _ _ _ hf (lv_sub hl [1, 2, 0] rfl) hW hS
        refine z_if_eq hx hb d_cText_addPacked_20 rfl g1 (fun g1 => ?_) (fun g1 => ?_)
        · cases g1
          exact J1 _ _ _ (lv_sub hl [1, 2, 3] rfl) hW hS
        · refine lv_aload_n hx hb d_cText_addPacked_23 rfl (lv_at hl 1 rfl) ?_
          refine lv_iload hx hb d_cText_addPacked_24 (lv_at hl 0 rfl) ?_
          obtain ⟨g2, g1⟩ := zg g1
          obtain ⟨u1, g3, g1⟩ := ze1 g1
          refine z_callVv (As := [.int (zI (zchr (zl2i ((zlushr v1 v3) &&& (255 : Int64)))))]) (rest := []) (k_cText_add F _ _ _ g3) M hml (cw_cText_add M.2.2.1 (M.2.2.1 _ w_375) (by rw [hR]; exact Nat.le_of_ble_eq_true rfl) (by rw [hR]; exact Nat.le_of_ble_eq_true rfl)) (zv_Tx hK hW (zid_T g2)) hB hW hS rfl hl.1 rfl (Nat.le_of_ble_eq_true rfl) d_cText_addPacked_26 (by rw [hR]; exact ⟨Nat.zero_le _, Nat.zero_le _⟩) (fun H locs hW hS => ?_)
          cases g1
          exact J1 _ _ _ (lv_sub hl [1, 2, 3] rfl) hW hS
  rw [cText_addPacked] at hf
  refine z_bipush hx hb d_cText_addPacked_0 rfl ?_
  refine lv_istore_n (lv' := [(3, .int (zI 56)), (0, .ref (ad (1, v0))), (1, .long v1)]) hx hb d_cText_addPacked_2 rfl hl (by decide) rfl (fun ls hl => ?_)
  exact C_3 F _ _ _ _ _ _ _ hf (lv_sub hl [1, 2, 0] rfl) hW hS
set_option maxRecDepth 100000 in
set_option maxHeartbeats 4000000 in
theorem k_cText_clear {l : Launch} {D : va_G} {B : Nat} {y : Nat → ClassId} {ad : Nat × Nat → Nat} {q : Bool} {r : ZR} (F : Nat) (u : ZC) (v0 : Nat) {uo : ZC} (hf : cText_clear F u v0 = some uo) : Met l y_cText_clear (.code y_cText_clear b_cText_clear 1 none :: zt) { frames := 0, cells := 0, slots := 0, locals := 0 } (va_Pc [.ref (ad (1, v0))] (fun U => ZP D B y ad q u r U)) (va_Qv (fun (_ : Unit) => True) (fun _ t => ZP D B y ad q uo r t) (fun x => B ≤ x)) 0 0 (fun x => B ≤ x) := by
  refine Met.ofW (cc := b_cText_clear) (maxL := 1) (ret := none) (by decide) rfl ?_
  intro p e s m args below meth c s₁ Bd hml hv
  obtain ⟨hargs, hB, hW, hK⟩ := hv
  have hx := Bd.exec
  have hb := Bd.bytes
  have hr := Bd.returns
  have hts0 := atoms_spec (ws := .code y_cText_clear b_cText_clear 1 none :: zt) Bd.pre
  have hown : s.vm.findClass "TreeShell$Text" = some m.cls := findClass_of_methodNamed Bd.named
  have hlocks := Bd.notSynchronized
  have M : ZM p c b_cText_clear s args m "TreeShell$Text" D y := ⟨hx, hb, fun w h => hts0 w (List.mem_cons_of_mem _ h), hown, hK⟩
  have hS : va_S (fun x => B ≤ x) s.heap s.heap [] := va_S.rf
  have hE := lg_entry_eq m ([.ref (ad (1, v0))] : List Value) 1
  rw [← hargs] at hE
  rw [hE]
  have hl := lv_entry ([.ref (ad (1, v0))] : List Value) (n := 1) (Nat.le_of_ble_eq_true rfl)
  generalize (lg_sl ([.ref (ad (1, v0))] : List Value) ++ List.replicate (1 - (lg_sl ([.ref (ad (1, v0))] : List Value)).length) Slot.unset).toArray = ls at hl ⊢
  have hl : lv_has ls 1 [(0, .ref (ad (1, v0)))] := hl
  refine z_start (fun Q R hQ hR => ?_)
  generalize hH : s.heap = H at hW
  have hS : va_S (fun x => B ≤ x) s.heap H [] := by rw [← hH]; exact hS
  rw [cText_clear] at hf
  refine lv_aload_n hx hb d_cText_clear_0 rfl (lv_at hl 0 rfl) ?_
  refine z_iconst hx hb d_cText_clear_1 ?_
  obtain ⟨g1, hf⟩ := zg hf
  refine zp_Tx_size M hW hS (zid_T g1) (M.2.2.1 _ w_105) d_cText_clear_2 (fun H locs hW hS => ?_)
  refine lv_aload_n hx hb d_cText_clear_5 rfl (lv_at hl 0 rfl) ?_
  refine z_iconst hx hb d_cText_clear_6 ?_
  refine zp_Tx_spilled M hW hS (zid_T g1) (Or.inl rfl) (M.2.2.1 _ w_111) d_cText_clear_7 (fun H locs hW hS => ?_)
  cases hf
  subst hQ
  exact z_retv hx hb hr hlocks hB hK hW hS d_cText_clear_10
set_option maxRecDepth 100000 in
set_option maxHeartbeats 4000000 in
theorem k_cText_addNumber {l : Launch} {D : va_G} {B : Nat} {y : Nat → ClassId} {ad : Nat × Nat → Nat} {q : Bool} {r : ZR} (F : Nat) (u : ZC) (v0 : Nat) (v1 : Int) {uo : ZC} (hf : cText_addNumber F u v0 v1 = some uo) : Met l y_cText_addNumber (.code y_cText_addNumber b_cText_addNumber 4 none :: zt) { frames := 1, cells := 0, slots := 0, locals := 21 } (va_Pc [.ref (ad (1, v0)), .int (zI v1)] (fun U => ZP D B y ad q u r U)) (va_Qv (fun (_ : Unit) => True) (fun _ t => ZP D B y ad q uo r t) (fun x => B ≤ x)) 0 0 (fun x => B ≤ x) := by
  refine Met.ofW (cc := b_cText_addNumber) (maxL := 4) (ret := none) (by decide) rfl ?_
  intro p e s m args below meth c s₁ Bd hml hv
  obtain ⟨hargs, hB, hW, hK⟩ := hv
  have hx := Bd.exec
  have hb := Bd.bytes
  have hr := Bd.returns
  have hts0 := atoms_spec (ws := .code y_cText_addNumber b_cText_addNumber 4 none :: zt) Bd.pre
  have hown : s.vm.findClass "TreeShell$Text" = some m.cls := findClass_of_methodNamed Bd.named
  have hlocks := Bd.notSynchronized
  have M : ZM p c b_cText_addNumber s args m "TreeShell$Text" D y := ⟨hx, hb, fun w h => hts0 w (List.mem_cons_of_mem _ h), hown, hK⟩
  have hS : va_S (fun x => B ≤ x) s.heap s.heap [] := va_S.rf
  have hE := lg_entry_eq m ([.ref (ad (1, v0)), .int (zI v1)] : List Value) 4
  rw [← hargs] at hE
  rw [hE]
  have hl := lv_entry ([.ref (ad (1, v0)), .int (zI v1)] : List Value) (n := 4) (Nat.le_of_ble_eq_true rfl)
  generalize (lg_sl ([.ref (ad (1, v0)), .int (zI v1)] : List Value) ++ List.replicate (4 - (lg_sl ([.ref (ad (1, v0)), .int (zI v1)] : List Value)).length) Slot.unset).toArray = ls at hl ⊢
  have hl : lv_has ls 4 [(0, .ref (ad (1, v0))), (1, .int (zI v1))] := hl
  refine z_start (fun Q R hQ hR => ?_)
  generalize hH : s.heap = H at hW
  have hS : va_S (fun x => B ≤ x) s.heap H [] := by rw [← hH]; exact hS
  have C_20 : ∀ (n : Nat), ∀ (u : ZC) (v0 : Nat) (v1 : Int) (v3 : Int) (H : Heap) (locs : List Loc) (ls : Array Slot), cText_addNumber_20 F n u v0 v1 v3 = some uo → lv_has ls 4 [(0, .ref (ad (1, v0))), (1, .int (zI v1)), (3, .int (zI v3))] → ZW D B y ad q u r H → va_S (fun x => B ≤ x) s.heap H locs → W p l e R s m args below meth c H locs 0 0 Q (F0 m 20 ls []) := by
    intro n
    induction n with
    | zero => intro u v0 v1 v3 H locs ls hf; cases (show (none : Option (ZC)) = some uo from hf)
    | succ n ih =>
      intro u v0 v1 v3 H locs ls hf hl hW hS
      rw [cText_addNumber_20] at hf
      refine lv_iload_n hx hb d_cText_addNumber_20 rfl (lv_at hl 2 rfl) ?_
      refine z_if_le hx hb d_cText_addNumber_21 rfl hf (fun hf => ?_) (fun hf => ?_)
      · cases hf
        subst hQ
        exact z_retv hx hb hr hlocks hB hK hW hS d_cText_addNumber_46
      · refine lv_aload_n hx hb d_cText_addNumber_24 rfl (lv_at hl 0 rfl) ?_
        refine z_bipush hx hb d_cText_addNumber_25 rfl ?_
        refine lv_iload_n hx hb d_cText_addNumber_27 rfl (lv_at hl 1 rfl) ?_
        refine lv_iload_n hx hb d_cText_addNumber_28 rfl (lv_at hl 2 rfl) ?_
        obtain ⟨g1, hf⟩ := zg hf
        refine z_idiv hx hb g1 d_cText_addNumber_29 ?_
        refine z_bipush hx hb d_cText_addNumber_30 rfl ?_
        refine z_irem hx hb (by decide) d_cText_addNumber_32 ?_
        refine z_iadd hx hb d_cText_addNumber_33 ?_
        refine z_i2c hx hb d_cText_addNumber_34 ?_
        obtain ⟨g2, hf⟩ := zg hf
        obtain ⟨u1, g3, hf⟩ := ze1 hf
        refine z_callVv (As := [.int (zI (zchr (48 + (zrem (zdiv v1 v3) 10))))]) (rest := []) (k_cText_add F _ _ _ g3) M hml (cw_cText_add M.2.2.1 (M.2.2.1 _ w_375) (by rw [hR]; exact Nat.le_of_ble_eq_true rfl) (by rw [hR]; exact Nat.le_of_ble_eq_true rfl)) (zv_Tx hK hW (zid_T g2)) hB hW hS rfl hl.1 rfl (Nat.le_of_ble_eq_true rfl) d_cText_addNumber_35 (by rw [hR]; exact ⟨Nat.zero_le _, Nat.zero_le _⟩) (fun H locs hW hS => ?_)
        refine lv_iload_n hx hb d_cText_addNumber_38 rfl (lv_at hl 2 rfl) ?_
        refine z_bipush hx hb d_cText_addNumber_39 rfl ?_
        refine z_idiv hx hb (by decide) d_cText_addNumber_41 ?_
        refine lv_istore_n (lv' := [(3, .int (zI (zdiv v3 10))), (0, .ref (ad (1, v0))), (1, .int (zI v1))]) hx hb d_cText_addNumber_42 rfl hl (by decide) rfl (fun ls hl => ?_)
        refine lv_goto hx hb d_cText_addNumber_43 rfl ?_
        exact ih _ _ _ _ _ _ _ hf (lv_sub hl [1, 2, 0] rfl) hW hS
  have C_2 : ∀ (n : Nat), ∀ (u : ZC) (v0 : Nat) (v1 : Int) (v2 : Int) (H : Heap) (locs : List Loc) (ls : Array Slot), cText_addNumber_2 F n u v0 v1 v2 = some uo → lv_has ls 4 [(0, .ref (ad (1, v0))), (1, .int (zI v1)), (2, .int (zI v2))] → ZW D B y ad q u r H → va_S (fun x => B ≤ x) s.heap H locs → W p l e R s m args below meth c H locs 0 0 Q (F0 m 2 ls []) := by
    intro n
    induction n with
    | zero => intro u v0 v1 v2 H locs ls hf; cases (show (none : Option (ZC)) = some uo from hf)
    | succ n ih =>
      intro u v0 v1 v2 H locs ls hf hl hW hS
      rw [cText_addNumber_2] at hf
      refine lv_iload_n hx hb d_cText_addNumber_2 rfl (lv_at hl 2 rfl) ?_
      refine lv_iload_n hx hb d_cText_addNumber_3 rfl (lv_at hl 1 rfl) ?_
      refine z_bipush hx hb d_cText_addNumber_4 rfl ?_
      refine z_idiv hx hb (by decide) d_cText_addNumber_6 ?_
      refine z_icmp_gt hx hb d_cText_addNumber_7 rfl hf (fun hf => ?_) (fun hf => ?_)
      · refine lv_iload_n hx hb d_cText_addNumber_18 rfl (lv_at hl 2 rfl) ?_
        refine lv_istore_n (lv' := [(3, .int (zI v2)), (0, .ref (ad (1, v0))), (1, .int (zI v1)), (2, .int (zI v2))]) hx hb d_cText_addNumber_19 rfl hl (by decide) rfl (fun ls hl => ?_)
        exact C_20 F _ _ _ _ _ _ _ hf (lv_sub hl [1, 2, 0] rfl) hW hS
      · refine lv_iload_n hx hb d_cText_addNumber_10 rfl (lv_at hl 2 rfl) ?_
        refine z_bipush hx hb d_cText_addNumber_11 rfl ?_
        refine z_imul hx hb d_cText_addNumber_13 ?_
        refine lv_istore_n (lv' := [(2, .int (zI (v2 * 10))), (0, .ref (ad (1, v0))), (1, .int (zI v1))]) hx hb d_cText_addNumber_14 rfl hl (by decide) rfl (fun ls hl => ?_)
        refine lv_goto hx hb d_cText_addNumber_15 rfl ?_
        exact ih _ _ _ _ _ _ _ hf (lv_sub hl [1, 2, 0] rfl) hW hS
  rw [cText_addNumber] at hf
  refine z_iconst hx hb d_cText_addNumber_0 ?_
  refine lv_istore_n (lv' := [(2, .int (zI 1)), (0, .ref (ad (1, v0))), (1, .int (zI v1))]) hx hb d_cText_addNumber_1 rfl hl (by decide) rfl (fun ls hl => ?_)
  exact C_2 F _ _ _ _ _ _ _ hf (lv_sub hl [1, 2, 0] rfl) hW hS
set_option maxRecDepth 100000 in
set_option maxHeartbeats 4000000 in
theorem k_cText_addPiece {l : Launch} {D : va_G} {B : Nat} {y : Nat → ClassId} {ad : Nat × Nat → Nat} {q : Bool} {r : ZR} (F : Nat) (u : ZC) (v0 : Nat) (v1 : Nat) (v2 : Int) (v3 : Int) {res : Int} {uo : ZC} (hf : cText_addPiece F u v0 v1 v2 v3 = some (res, uo)) : Met l y_cText_addPiece (.code y_cText_addPiece b_cText_addPiece 5 (some .boolean) :: zt) { frames := 5, cells := 0, slots := 0, locals := 145 } (va_Pc [.ref (ad (1, v0)), .ref (ad (1, v1)), .int (zI v2), .int (zI v3)] (fun U => ZP D B y ad q u r U)) (va_Qi (fun v (_ : Unit) => v = zI res) (fun _ t => ZP D B y ad q uo r t) (fun x => B ≤ x)) 0 0 (fun x => B ≤ x) := by
  refine Met.ofW (cc := b_cText_addPiece) (maxL := 5) (ret := (some .boolean)) (by decide) rfl ?_
  intro p e s m args below meth c s₁ Bd hml hv
  obtain ⟨hargs, hB, hW, hK⟩ := hv
  have hx := Bd.exec
  have hb := Bd.bytes
  have hr := Bd.returns
  have hts0 := atoms_spec (ws := .code y_cText_addPiece b_cText_addPiece 5 (some .boolean) :: zt) Bd.pre
  have hown : s.vm.findClass "TreeShell$Text" = some m.cls := findClass_of_methodNamed Bd.named
  have hlocks := Bd.notSynchronized
  have M : ZM p c b_cText_addPiece s args m "TreeShell$Text" D y := ⟨hx, hb, fun w h => hts0 w (List.mem_cons_of_mem _ h), hown, hK⟩
  have hS : va_S (fun x => B ≤ x) s.heap s.heap [] := va_S.rf
  have hE := lg_entry_eq m ([.ref (ad (1, v0)), .ref (ad (1, v1)), .int (zI v2), .int (zI v3)] : List Value) 5
  rw [← hargs] at hE
  rw [hE]
  have hl := lv_entry ([.ref (ad (1, v0)), .ref (ad (1, v1)), .int (zI v2), .int (zI v3)] : List Value) (n := 5) (Nat.le_of_ble_eq_true rfl)
  generalize (lg_sl ([.ref (ad (1, v0)), .ref (ad (1, v1)), .int (zI v2), .int (zI v3)] : List Value) ++ List.replicate (5 - (lg_sl ([.ref (ad (1, v0)), .ref (ad (1, v1)), .int (zI v2), .int (zI v3)] : List Value)).length) Slot.unset).toArray = ls at hl ⊢
  have hl : lv_has ls 5 [(0, .ref (ad (1, v0))), (1, .ref (ad (1, v1))), (2, .int (zI v2)), (3, .int (zI v3))] := hl
  refine z_start (fun Q R hQ hR => ?_)
  generalize hH : s.heap = H at hW
  have hS : va_S (fun x => B ≤ x) s.heap H [] := by rw [← hH]; exact hS
  rw [cText_addPiece] at hf
  refine lv_iload_n hx hb d_cText_addPiece_0 rfl (lv_at hl 3 rfl) ?_
  refine lv_iload_n hx hb d_cText_addPiece_1 rfl (lv_at hl 2 rfl) ?_
  refine z_isub hx hb d_cText_addPiece_2 ?_
  refine lv_istore (lv' := [(4, .int (zI (v3 - v2))), (0, .ref (ad (1, v0))), (1, .ref (ad (1, v1))), (2, .int (zI v2)), (3, .int (zI v3))]) hx hb d_cText_addPiece_3 hl (by decide) rfl (fun ls hl => ?_)
  refine lv_iload_n hx hb d_cText_addPiece_5 rfl (lv_at hl 3 rfl) ?_
  obtain ⟨b1, g1, hf⟩ := ze1 hf
  have JT1 : b1 = true → ∀ (H : Heap) (locs : List Loc), ZW D B y ad q u r H → va_S (fun x => B ≤ x) s.heap H locs → W p l e R s m args below meth c H locs 0 0 Q (F0 m 37 ls []) := by
    intro hv H locs hW hS
    have hf := zp (hv) hf
    refine lv_aload_n hx hb d_cText_addPiece_37 rfl (lv_at hl 1 rfl) ?_
    refine z_iconst hx hb d_cText_addPiece_38 ?_
    obtain ⟨g2, hf⟩ := zg hf
    refine zp_Tx_spilled M hW hS (zid_T g2) (Or.inr rfl) (M.2.2.1 _ w_111) d_cText_addPiece_39 (fun H locs hW hS => ?_)
    refine z_iconst hx hb d_cText_addPiece_42 ?_
    cases hf
    subst hQ
    exact z_retz hx hb (Or.inl rfl) hr hlocks hB hK hW hS d_cText_addPiece_43
  have JF1 : b1 = false → ∀ (H : Heap) (locs : List Loc), ZW D B y ad q u r H → va_S (fun x => B ≤ x) s.heap H locs → W p l e R s m args below meth c H locs 0 0 Q (F0 m 44 ls []) := by
    intro hv H locs hW hS
    have hf := zn (by rw [hv]; decide) hf
    refine lv_aload_n hx hb d_cText_addPiece_44 rfl (lv_at hl 2 rfl) ?_
    obtain ⟨g3, hf⟩ := zg hf
    refine zg_Tx_letters M hW (zid_T g3) (M.2.2.1 _ w_99) d_cText_addPiece_45 ?_
    refine lv_iload_n hx hb d_cText_addPiece_48 rfl (lv_at hl 3 rfl) ?_
    refine lv_aload_n hx hb d_cText_addPiece_49 rfl (lv_at hl 1 rfl) ?_
    obtain ⟨g4, hf⟩ := zg hf
    refine zg_Tx_letters M hW (zid_T g4) (M.2.2.1 _ w_99) d_cText_addPiece_50 ?_
    refine lv_aload_n hx hb d_cText_addPiece_53 rfl (lv_at hl 1 rfl) ?_
    refine zg_Tx_size M hW (zid_T g4) (M.2.2.1 _ w_105) d_cText_addPiece_54 ?_
    refine lv_iload hx hb d_cText_addPiece_57 (lv_at hl 0 rfl) ?_
    obtain ⟨g5, hf⟩ := zg hf
    refine z_acopy M hW hS hml hl.1 (zid_C g3) (zid_C g4) g5 (by rw [hR]; exact Nat.le_of_ble_eq_true rfl) (by rw [hR]; exact Nat.le_of_ble_eq_true rfl) (Nat.le_of_ble_eq_true rfl) (M.2.2.1 _ w_536) d_cText_addPiece_59 (fun H locs hW hS => ?_)
    refine lv_aload_n hx hb d_cText_addPiece_62 rfl (lv_at hl 1 rfl) ?_
    refine lv_dup hx hb d_cText_addPiece_63 rfl ?_
    refine zg_Tx_size M hW (zid_T g4) (M.2.2.1 _ w_105) d_cText_addPiece_64 ?_
    refine lv_iload hx hb d_cText_addPiece_67 (lv_at hl 0 rfl) ?_
    refine z_iadd hx hb d_cText_addPiece_69 ?_
    refine zp_Tx_size M hW hS (zid_T g4) (M.2.2.1 _ w_105) d_cText_addPiece_70 (fun H locs hW hS => ?_)
    obtain ⟨u2, g6, hf⟩ := ze1 hf
    have g6 := Option.some.inj g6
    rw [g6] at hW
    have g7 : zlT u2 v1 := by rw [← g6]; exact g3
    have g8 : zlT u2 v0 := by rw [← g6]; exact g4
    refine z_iconst hx hb d_cText_addPiece_73 ?_
    cases hf
    subst hQ
    exact z_retz hx hb (Or.inr rfl) hr hlocks hB hK hW hS d_cText_addPiece_74
  refine z_if_lt hx hb d_cText_addPiece_6 rfl g1 (fun g1 => ?_) (fun g1 => ?_)
  · exact JT1 (Option.some.inj g1).symm _ _ hW hS
  · refine lv_iload hx hb d_cText_addPiece_9 (lv_at hl 0 rfl) ?_
    refine z_if_lt hx hb d_cText_addPiece_11 rfl g1 (fun g1 => ?_) (fun g1 => ?_)
    · exact JT1 (Option.some.inj g1).symm _ _ hW hS
    · refine lv_iload_n hx hb d_cText_addPiece_14 rfl (lv_at hl 4 rfl) ?_
      refine lv_aload_n hx hb d_cText_addPiece_15 rfl (lv_at hl 2 rfl) ?_
      obtain ⟨g9, g1⟩ := zg g1
      refine zg_Tx_size M hW (zid_T g9) (M.2.2.1 _ w_105) d_cText_addPiece_16 ?_
      refine z_icmp_gt hx hb d_cText_addPiece_19 rfl g1 (fun g1 => ?_) (fun g1 => ?_)
      · exact JT1 (Option.some.inj g1).symm _ _ hW hS
      · refine lv_iload hx hb d_cText_addPiece_22 (lv_at hl 0 rfl) ?_
        refine lv_aload_n hx hb d_cText_addPiece_24 rfl (lv_at hl 1 rfl) ?_
        obtain ⟨g10, g1⟩ := zg g1
        refine zg_Tx_letters M hW (zid_T g10) (M.2.2.1 _ w_99) d_cText_addPiece_25 ?_
        refine zl_let M hW (zid_C g10) d_cText_addPiece_28 ?_
        refine lv_aload_n hx hb d_cText_addPiece_29 rfl (lv_at hl 1 rfl) ?_
        refine zg_Tx_size M hW (zid_T g10) (M.2.2.1 _ w_105) d_cText_addPiece_30 ?_
        refine z_isub hx hb d_cText_addPiece_33 ?_
        refine z_icmp_le hx hb d_cText_addPiece_34 rfl g1 (fun g1 => ?_) (fun g1 => ?_)
        · exact JF1 (Option.some.inj g1).symm _ _ hW hS
        · exact JT1 (Option.some.inj g1).symm _ _ hW hS
set_option maxRecDepth 100000 in
set_option maxHeartbeats 4000000 in
theorem k_cText_addAll {l : Launch} {D : va_G} {B : Nat} {y : Nat → ClassId} {ad : Nat × Nat → Nat} {q : Bool} {r : ZR} (F : Nat) (u : ZC) (v0 : Nat) (v1 : Nat) {res : Int} {uo : ZC} (hf : cText_addAll F u v0 v1 = some (res, uo)) : Met l y_cText_addAll (.code y_cText_addAll b_cText_addAll 2 (some .boolean) :: zt) { frames := 6, cells := 0, slots := 0, locals := 169 } (va_Pc [.ref (ad (1, v0)), .ref (ad (1, v1))] (fun U => ZP D B y ad q u r U)) (va_Qi (fun v (_ : Unit) => v = zI res) (fun _ t => ZP D B y ad q uo r t) (fun x => B ≤ x)) 0 0 (fun x => B ≤ x) := by
  refine Met.ofW (cc := b_cText_addAll) (maxL := 2) (ret := (some .boolean)) (by decide) rfl ?_
  intro p e s m args below meth c s₁ Bd hml hv
  obtain ⟨hargs, hB, hW, hK⟩ := hv
  have hx := Bd.exec
  have hb := Bd.bytes
  have hr := Bd.returns
  have hts0 := atoms_spec (ws := .code y_cText_addAll b_cText_addAll 2 (some .boolean) :: zt) Bd.pre
  have hown : s.vm.findClass "TreeShell$Text" = some m.cls := findClass_of_methodNamed Bd.named
  have hlocks := Bd.notSynchronized
  have M : ZM p c b_cText_addAll s args m "TreeShell$Text" D y := ⟨hx, hb, fun w h => hts0 w (List.mem_cons_of_mem _ h), hown, hK⟩
  have hS : va_S (fun x => B ≤ x) s.heap s.heap [] := va_S.rf
  have hE := lg_entry_eq m ([.ref (ad (1, v0)), .ref (ad (1, v1))] : List Value) 2
  rw [← hargs] at hE
  rw [hE]
  have hl := lv_entry ([.ref (ad (1, v0)), .ref (ad (1, v1))] : List Value) (n := 2) (Nat.le_of_ble_eq_true rfl)
  generalize (lg_sl ([.ref (ad (1, v0)), .ref (ad (1, v1))] : List Value) ++ List.replicate (2 - (lg_sl ([.ref (ad (1, v0)), .ref (ad (1, v1))] : List Value)).length) Slot.unset).toArray = ls at hl ⊢
  have hl : lv_has ls 2 [(0, .ref (ad (1, v0))), (1, .ref (ad (1, v1)))] := hl
  refine z_start (fun Q R hQ hR => ?_)
  generalize hH : s.heap = H at hW
  have hS : va_S (fun x => B ≤ x) s.heap H [] := by rw [← hH]; exact hS
  rw [cText_addAll] at hf
  refine lv_aload_n hx hb d_cText_addAll_0 rfl (lv_at hl 0 rfl) ?_
  refine lv_aload_n hx hb d_cText_addAll_1 rfl (lv_at hl 1 rfl) ?_
  refine z_iconst hx hb d_cText_addAll_2 ?_
  refine lv_aload_n hx hb d_cText_addAll_3 rfl (lv_at hl 1 rfl) ?_
  obtain ⟨g1, hf⟩ := zg hf
  refine zg_Tx_size M hW (zid_T g1) (M.2.2.1 _ w_105) d_cText_addAll_4 ?_
  obtain ⟨g2, hf⟩ := zg hf
  obtain ⟨p1, u2, g3, hf⟩ := ze2 hf
  refine z_callVi (As := [.ref (ad (1, v1)), .int (zI 0), .int (zI (cI u 0 v1))]) (rest := []) (k_cText_addPiece F _ _ _ _ _ g3) M hml (cw_cText_addPiece M.2.2.1 (M.2.2.1 _ w_532) (by rw [hR]; exact Nat.le_of_ble_eq_true rfl) (by rw [hR]; exact Nat.le_of_ble_eq_true rfl)) (zv_Tx hK hW (zid_T g2)) hB hW hS rfl hl.1 rfl (Nat.le_of_ble_eq_true rfl) d_cText_addAll_7 (by rw [hR]; exact ⟨Nat.zero_le _, Nat.zero_le _⟩) (fun H locs hW hS => ?_)
  obtain ⟨g4, hf⟩ := zg hf
  cases hf
  subst hQ
  exact z_retz hx hb g4 hr hlocks hB hK hW hS d_cText_addAll_10
