set_option maxRecDepth 100000 in
set_option maxHeartbeats 4000000 in
theorem k_cGrammar_readRedirections {l : Launch} {D : va_G} {B : Nat} {y : Nat → ClassId} {ad : Nat × Nat → Nat} {q : Bool} {r : ZR} (F : Nat) (u : ZC) {res : Int} {uo : ZC} (hf : cGrammar_readRedirections F u = some (res, uo)) : Met l y_cGrammar_readRedirections (.code y_cGrammar_readRedirections b_cGrammar_readRedirections 2 (some .boolean) :: zt) { frames := 1, cells := 0, slots := 0, locals := 21 } (va_Pc [.ref (ad (0, 2))] (fun U => ZP D B y ad q u r U)) (va_Qi (fun v (_ : Unit) => v = zI res) (fun _ t => ZP D B y ad q uo r t) (fun x => B ≤ x)) 0 0 (fun x => B ≤ x) := by
  refine Met.ofW (cc := b_cGrammar_readRedirections) (maxL := 2) (ret := (some .boolean)) (by decide) rfl ?_
  intro p e s m args below meth c s₁ Bd hml hv
  obtain ⟨hargs, hB, hW, hK⟩ := hv
  have hx := Bd.exec
  have hb := Bd.bytes
  have hr := Bd.returns
  have hts0 := atoms_spec (ws := .code y_cGrammar_readRedirections b_cGrammar_readRedirections 2 (some .boolean) :: zt) Bd.pre
  have hown : s.vm.findClass "TreeShell$Grammar" = some m.cls := findClass_of_methodNamed Bd.named
  have hlocks := Bd.notSynchronized
  have M : ZM p c b_cGrammar_readRedirections s args m "TreeShell$Grammar" D y := ⟨hx, hb, fun w h => hts0 w (List.mem_cons_of_mem _ h), hown, hK⟩
  have hS : va_S (fun x => B ≤ x) s.heap s.heap [] := va_S.rf
  have hE := lg_entry_eq m ([.ref (ad (0, 2))] : List Value) 2
  rw [← hargs] at hE
  rw [hE]
  have hl := lv_entry ([.ref (ad (0, 2))] : List Value) (n := 2) (Nat.le_of_ble_eq_true rfl)
  generalize (lg_sl ([.ref (ad (0, 2))] : List Value) ++ List.replicate (2 - (lg_sl ([.ref (ad (0, 2))] : List Value)).length) Slot.unset).toArray = ls at hl ⊢
  have hl : lv_has ls 2 [(0, .ref (ad (0, 2)))] := hl
  refine z_start (fun Q R hQ hR => ?_)
  generalize hH : s.heap = H at hW
  have hS : va_S (fun x => B ≤ x) s.heap H [] := by rw [← hH]; exact hS
  have C_2 : ∀ (n : Nat), ∀ (u : ZC) (v1 : Int) (H : Heap) (locs : List Loc) (ls : Array Slot), cGrammar_readRedirections_2 F n u v1 = some (res, uo) → lv_has ls 2 [(0, .ref (ad (0, 2))), (1, .int (zI v1))] → ZW D B y ad q u r H → va_S (fun x => B ≤ x) s.heap H locs → W p l e R s m args below meth c H locs 0 0 Q (F0 m 2 ls []) := by
    intro n
    induction n with
    | zero => intro u v1 H locs ls hf; cases (show (none : Option (Int × ZC)) = some (res, uo) from hf)
    | succ n ih =>
      intro u v1 H locs ls hf hl hW hS
      rw [cGrammar_readRedirections_2] at hf
      refine lv_iload_n hx hb d_cGrammar_readRedirections_2 rfl (lv_at hl 1 rfl) ?_
      refine lv_aload_n hx hb d_cGrammar_readRedirections_3 rfl (lv_at hl 0 rfl) ?_
      refine zg_Gr_tokens M hW (M.2.2.1 _ w_155) d_cGrammar_readRedirections_4 ?_
      refine zg_Tk_count M hW (M.2.2.1 _ w_135) d_cGrammar_readRedirections_7 ?_
      obtain ⟨b2, g1, hf⟩ := ze1 hf
      have JT1 : b2 = true → ∀ (H : Heap) (locs : List Loc), ZW D B y ad q u r H → va_S (fun x => B ≤ x) s.heap H locs → W p l e R s m args below meth c H locs 0 0 Q (F0 m 63 ls []) := by
        intro hv H locs hW hS
        have hf := zp (hv) hf
        refine z_iconst hx hb d_cGrammar_readRedirections_63 ?_
        cases hf
        subst hQ
        exact z_retz hx hb (Or.inr rfl) hr hlocks hB hK hW hS d_cGrammar_readRedirections_64
      have JF1 : b2 = false → ∀ (H : Heap) (locs : List Loc), ZW D B y ad q u r H → va_S (fun x => B ≤ x) s.heap H locs → W p l e R s m args below meth c H locs 0 0 Q (F0 m 27 ls []) := by
        intro hv H locs hW hS
        have hf := zn (by rw [hv]; decide) hf
        refine lv_aload_n hx hb d_cGrammar_readRedirections_27 rfl (lv_at hl 0 rfl) ?_
        refine zg_Gr_tokens M hW (M.2.2.1 _ w_155) d_cGrammar_readRedirections_28 ?_
        refine lv_aload_n hx hb d_cGrammar_readRedirections_31 rfl (lv_at hl 0 rfl) ?_
        refine zg_Gr_next M hW (M.2.2.1 _ w_156) d_cGrammar_readRedirections_32 ?_
        refine z_iconst hx hb d_cGrammar_readRedirections_35 ?_
        refine z_iadd hx hb d_cGrammar_readRedirections_36 ?_
        obtain ⟨p3, g2, hf⟩ := ze1 hf
        refine z_callVi (As := [.int (zI ((cI u 3 0) + 1))]) (rest := []) (k_cTokens_kindAt F _ _ g2) M hml (cw_cTokens_kindAt M.2.2.1 (M.2.2.1 _ w_423) (by rw [hR]; exact Nat.le_of_ble_eq_true rfl) (by rw [hR]; exact Nat.le_of_ble_eq_true rfl)) (zv_Tk hK hW) hB hW hS rfl hl.1 rfl (Nat.le_of_ble_eq_true rfl) d_cGrammar_readRedirections_37 (by rw [hR]; exact ⟨Nat.zero_le _, Nat.zero_le _⟩) (fun H locs hW hS => ?_)
        refine z_bipush hx hb d_cGrammar_readRedirections_40 rfl ?_
        refine z_icmp_eq hx hb d_cGrammar_readRedirections_42 rfl hf (fun hf => ?_) (fun hf => ?_)
        · refine lv_aload_n hx hb d_cGrammar_readRedirections_47 rfl (lv_at hl 0 rfl) ?_
          refine lv_dup hx hb d_cGrammar_readRedirections_48 rfl ?_
          refine zg_Gr_next M hW (M.2.2.1 _ w_156) d_cGrammar_readRedirections_49 ?_
          refine z_iconst hx hb d_cGrammar_readRedirections_52 ?_
          refine z_iadd hx hb d_cGrammar_readRedirections_53 ?_
          refine zp_Gr_next M hW hS (M.2.2.1 _ w_156) d_cGrammar_readRedirections_54 (fun H locs hW hS => ?_)
          refine lv_iinc (k := 1) (v := zI (v1 + 1)) (lv' := [(1, .int (zI (v1 + 1))), (0, .ref (ad (0, 2)))]) hx hb d_cGrammar_readRedirections_57 hl rfl (zI_add _ _) (by decide) rfl (fun ls hl => ?_)
          refine lv_goto hx hb d_cGrammar_readRedirections_60 rfl ?_
          exact ih _ _ _ _ _ hf (lv_sub hl [1, 0] rfl) hW hS
        · refine z_iconst hx hb d_cGrammar_readRedirections_45 ?_
          cases hf
          subst hQ
          exact z_retz hx hb (Or.inl rfl) hr hlocks hB hK hW hS d_cGrammar_readRedirections_46
      refine z_icmp_ge hx hb d_cGrammar_readRedirections_10 rfl g1 (fun g1 => ?_) (fun g1 => ?_)
      · exact JT1 (Option.some.inj g1).symm _ _ hW hS
      · refine lv_aload_n hx hb d_cGrammar_readRedirections_13 rfl (lv_at hl 0 rfl) ?_
        refine zg_Gr_tokens M hW (M.2.2.1 _ w_155) d_cGrammar_readRedirections_14 ?_
        refine lv_aload_n hx hb d_cGrammar_readRedirections_17 rfl (lv_at hl 0 rfl) ?_
        refine zg_Gr_next M hW (M.2.2.1 _ w_156) d_cGrammar_readRedirections_18 ?_
        obtain ⟨p1, g3, g1⟩ := ze1 g1
        refine z_callVi (As := [.int (zI (cI u 3 0))]) (rest := []) (k_cTokens_isRedirection F _ _ g3) M hml (cw_cTokens_isRedirection M.2.2.1 (M.2.2.1 _ w_439) (by rw [hR]; exact Nat.le_of_ble_eq_true rfl) (by rw [hR]; exact Nat.le_of_ble_eq_true rfl)) (zv_Tk hK hW) hB hW hS rfl hl.1 rfl (Nat.le_of_ble_eq_true rfl) d_cGrammar_readRedirections_21 (by rw [hR]; exact ⟨Nat.zero_le _, Nat.zero_le _⟩) (fun H locs hW hS => ?_)
        refine z_if_eq hx hb d_cGrammar_readRedirections_24 rfl g1 (fun g1 => ?_) (fun g1 => ?_)
        · exact JT1 (Option.some.inj g1).symm _ _ hW hS
        · exact JF1 (Option.some.inj g1).symm _ _ hW hS
  rw [cGrammar_readRedirections] at hf
  refine z_iconst hx hb d_cGrammar_readRedirections_0 ?_
  refine lv_istore_n (lv' := [(1, .int (zI 0)), (0, .ref (ad (0, 2)))]) hx hb d_cGrammar_readRedirections_1 rfl hl (by decide) rfl (fun ls hl => ?_)
  exact C_2 F _ _ _ _ _ hf (lv_sub hl [1, 0] rfl) hW hS
set_option maxRecDepth 100000 in
set_option maxHeartbeats 4000000 in
theorem k_cGrammar_readSimple {l : Launch} {D : va_G} {B : Nat} {y : Nat → ClassId} {ad : Nat × Nat → Nat} {q : Bool} {r : ZR} (F : Nat) (u : ZC) {res : Int} {uo : ZC} (hf : cGrammar_readSimple F u = some (res, uo)) : Met l y_cGrammar_readSimple (.code y_cGrammar_readSimple b_cGrammar_readSimple 3 (some .boolean) :: zt) { frames := 2, cells := 0, slots := 0, locals := 42 } (va_Pc [.ref (ad (0, 2))] (fun U => ZP D B y ad q u r U)) (va_Qi (fun v (_ : Unit) => v = zI res) (fun _ t => ZP D B y ad q uo r t) (fun x => B ≤ x)) 0 0 (fun x => B ≤ x) := by
  refine Met.ofW (cc := b_cGrammar_readSimple) (maxL := 3) (ret := (some .boolean)) (by decide) rfl ?_
  intro p e s m args below meth c s₁ Bd hml hv
  obtain ⟨hargs, hB, hW, hK⟩ := hv
  have hx := Bd.exec
  have hb := Bd.bytes
  have hr := Bd.returns
  have hts0 := atoms_spec (ws := .code y_cGrammar_readSimple b_cGrammar_readSimple 3 (some .boolean) :: zt) Bd.pre
  have hown : s.vm.findClass "TreeShell$Grammar" = some m.cls := findClass_of_methodNamed Bd.named
  have hlocks := Bd.notSynchronized
  have M : ZM p c b_cGrammar_readSimple s args m "TreeShell$Grammar" D y := ⟨hx, hb, fun w h => hts0 w (List.mem_cons_of_mem _ h), hown, hK⟩
  have hS : va_S (fun x => B ≤ x) s.heap s.heap [] := va_S.rf
  have hE := lg_entry_eq m ([.ref (ad (0, 2))] : List Value) 3
  rw [← hargs] at hE
  rw [hE]
  have hl := lv_entry ([.ref (ad (0, 2))] : List Value) (n := 3) (Nat.le_of_ble_eq_true rfl)
  generalize (lg_sl ([.ref (ad (0, 2))] : List Value) ++ List.replicate (3 - (lg_sl ([.ref (ad (0, 2))] : List Value)).length) Slot.unset).toArray = ls at hl ⊢
  have hl : lv_has ls 3 [(0, .ref (ad (0, 2)))] := hl
  refine z_start (fun Q R hQ hR => ?_)
  generalize hH : s.heap = H at hW
  have hS : va_S (fun x => B ≤ x) s.heap H [] := by rw [← hH]; exact hS
  have C_4 : ∀ (n : Nat), ∀ (u : ZC) (v1 : Int) (v2 : Int) (H : Heap) (locs : List Loc) (ls : Array Slot), cGrammar_readSimple_4 F n u v1 v2 = some (res, uo) → lv_has ls 3 [(0, .ref (ad (0, 2))), (1, .int (zI v1)), (2, .int (zI v2))] → ZW D B y ad q u r H → va_S (fun x => B ≤ x) s.heap H locs → W p l e R s m args below meth c H locs 0 0 Q (F0 m 4 ls []) := by
    intro n
    induction n with
    | zero => intro u v1 v2 H locs ls hf; cases (show (none : Option (Int × ZC)) = some (res, uo) from hf)
    | succ n ih =>
      intro u v1 v2 H locs ls hf hl hW hS
      rw [cGrammar_readSimple_4] at hf
      refine lv_iload_n hx hb d_cGrammar_readSimple_4 rfl (lv_at hl 2 rfl) ?_
      refine lv_aload_n hx hb d_cGrammar_readSimple_5 rfl (lv_at hl 0 rfl) ?_
      refine zg_Gr_tokens M hW (M.2.2.1 _ w_155) d_cGrammar_readSimple_6 ?_
      refine zg_Tk_count M hW (M.2.2.1 _ w_135) d_cGrammar_readSimple_9 ?_
      refine z_icmp_ge hx hb d_cGrammar_readSimple_12 rfl hf (fun hf => ?_) (fun hf => ?_)
      · refine lv_iload_n hx hb d_cGrammar_readSimple_60 rfl (lv_at hl 1 rfl) ?_
        obtain ⟨g1, hf⟩ := zg hf
        cases hf
        subst hQ
        exact z_retz hx hb g1 hr hlocks hB hK hW hS d_cGrammar_readSimple_61
      · refine lv_aload_n hx hb d_cGrammar_readSimple_15 rfl (lv_at hl 0 rfl) ?_
        obtain ⟨p1, u2, g2, hf⟩ := ze2 hf
        refine z_callVi (As := []) (rest := []) (k_cGrammar_readRedirections F _ g2) M hml (cw_cGrammar_readRedirections M.2.2.1 (M.2.2.1 _ w_435) (by rw [hR]; exact Nat.le_of_ble_eq_true rfl) (by rw [hR]; exact Nat.le_of_ble_eq_true rfl)) (zv_Gr hK hW) hB hW hS rfl hl.1 rfl (Nat.le_of_ble_eq_true rfl) d_cGrammar_readSimple_16 (by rw [hR]; exact ⟨Nat.zero_le _, Nat.zero_le _⟩) (fun H locs hW hS => ?_)
        refine z_if_ne hx hb d_cGrammar_readSimple_19 rfl hf (fun hf => ?_) (fun hf => ?_)
        · refine lv_aload_n hx hb d_cGrammar_readSimple_24 rfl (lv_at hl 0 rfl) ?_
          refine zg_Gr_tokens M hW (M.2.2.1 _ w_155) d_cGrammar_readSimple_25 ?_
          refine lv_aload_n hx hb d_cGrammar_readSimple_28 rfl (lv_at hl 0 rfl) ?_
          refine zg_Gr_next M hW (M.2.2.1 _ w_156) d_cGrammar_readSimple_29 ?_
          obtain ⟨p3, g3, hf⟩ := ze1 hf
          refine z_callVi (As := [.int (zI (cI u2 3 0))]) (rest := []) (k_cTokens_kindAt F _ _ g3) M hml (cw_cTokens_kindAt M.2.2.1 (M.2.2.1 _ w_423) (by rw [hR]; exact Nat.le_of_ble_eq_true rfl) (by rw [hR]; exact Nat.le_of_ble_eq_true rfl)) (zv_Tk hK hW) hB hW hS rfl hl.1 rfl (Nat.le_of_ble_eq_true rfl) d_cGrammar_readSimple_32 (by rw [hR]; exact ⟨Nat.zero_le _, Nat.zero_le _⟩) (fun H locs hW hS => ?_)
          refine z_bipush hx hb d_cGrammar_readSimple_35 rfl ?_
          refine z_icmp_eq hx hb d_cGrammar_readSimple_37 rfl hf (fun hf => ?_) (fun hf => ?_)
          · refine z_iconst hx hb d_cGrammar_readSimple_42 ?_
            refine lv_istore_n (lv' := [(1, .int (zI 1)), (0, .ref (ad (0, 2))), (2, .int (zI v2))]) hx hb d_cGrammar_readSimple_43 rfl hl (by decide) rfl (fun ls hl => ?_)
            refine lv_aload_n hx hb d_cGrammar_readSimple_44 rfl (lv_at hl 1 rfl) ?_
            refine lv_dup hx hb d_cGrammar_readSimple_45 rfl ?_
            refine zg_Gr_next M hW (M.2.2.1 _ w_156) d_cGrammar_readSimple_46 ?_
            refine z_iconst hx hb d_cGrammar_readSimple_49 ?_
            refine z_iadd hx hb d_cGrammar_readSimple_50 ?_
            refine zp_Gr_next M hW hS (M.2.2.1 _ w_156) d_cGrammar_readSimple_51 (fun H locs hW hS => ?_)
            refine lv_iinc (k := 2) (v := zI (v2 + 1)) (lv' := [(2, .int (zI (v2 + 1))), (1, .int (zI 1)), (0, .ref (ad (0, 2)))]) hx hb d_cGrammar_readSimple_54 hl rfl (zI_add _ _) (by decide) rfl (fun ls hl => ?_)
            refine lv_goto hx hb d_cGrammar_readSimple_57 rfl ?_
            exact ih _ _ _ _ _ _ hf (lv_sub hl [2, 1, 0] rfl) hW hS
          · refine lv_iload_n hx hb d_cGrammar_readSimple_40 rfl (lv_at hl 1 rfl) ?_
            obtain ⟨g4, hf⟩ := zg hf
            cases hf
            subst hQ
            exact z_retz hx hb g4 hr hlocks hB hK hW hS d_cGrammar_readSimple_41
        · refine z_iconst hx hb d_cGrammar_readSimple_22 ?_
          cases hf
          subst hQ
          exact z_retz hx hb (Or.inl rfl) hr hlocks hB hK hW hS d_cGrammar_readSimple_23
  rw [cGrammar_readSimple] at hf
  refine z_iconst hx hb d_cGrammar_readSimple_0 ?_
  refine lv_istore_n (lv' := [(1, .int (zI 0)), (0, .ref (ad (0, 2)))]) hx hb d_cGrammar_readSimple_1 rfl hl (by decide) rfl (fun ls hl => ?_)
  refine z_iconst hx hb d_cGrammar_readSimple_2 ?_
  refine lv_istore_n (lv' := [(2, .int (zI 0)), (1, .int (zI 0)), (0, .ref (ad (0, 2)))]) hx hb d_cGrammar_readSimple_3 rfl hl (by decide) rfl (fun ls hl => ?_)
  exact C_4 F _ _ _ _ _ _ hf (lv_sub hl [2, 1, 0] rfl) hW hS
set_option maxRecDepth 100000 in
set_option maxHeartbeats 4000000 in
theorem k_cGrammar_readCommand {l : Launch} {D : va_G} {B : Nat} {y : Nat → ClassId} {ad : Nat × Nat → Nat} {q : Bool} {r : ZR} (F : Nat) (rec : ZC → Int → Option (Int × ZC)) (fr lo : Nat) (hrec : ∀ (u : ZC) (v1 : Int) (res : Int) (uo : ZC), rec u v1 = some (res, uo) → Met l y_cGrammar_readList (.code y_cGrammar_readList b_cGrammar_readList 4 (some .boolean) :: zt) { frames := fr, cells := 0, slots := 0, locals := lo } (va_Pc [.ref (ad (0, 2)), .int (zI v1)] (fun U => ZP D B y ad q u r U)) (va_Qi (fun v (_ : Unit) => v = zI res) (fun _ t => ZP D B y ad q uo r t) (fun x => B ≤ x)) 0 0 (fun x => B ≤ x)) (u : ZC) (v1 : Int) {res : Int} {uo : ZC} (hf : cGrammar_readCommand F rec u v1 = some (res, uo)) : Met l y_cGrammar_readCommand (.code y_cGrammar_readCommand b_cGrammar_readCommand 2 (some .boolean) :: zt) { frames := fr + 3, cells := 0, slots := 0, locals := lo + 64 } (va_Pc [.ref (ad (0, 2)), .int (zI v1)] (fun U => ZP D B y ad q u r U)) (va_Qi (fun v (_ : Unit) => v = zI res) (fun _ t => ZP D B y ad q uo r t) (fun x => B ≤ x)) 0 0 (fun x => B ≤ x) := by
  refine Met.ofW (cc := b_cGrammar_readCommand) (maxL := 2) (ret := (some .boolean)) (by decide) rfl ?_
  intro p e s m args below meth c s₁ Bd hml hv
  obtain ⟨hargs, hB, hW, hK⟩ := hv
  have hx := Bd.exec
  have hb := Bd.bytes
  have hr := Bd.returns
  have hts0 := atoms_spec (ws := .code y_cGrammar_readCommand b_cGrammar_readCommand 2 (some .boolean) :: zt) Bd.pre
  have hown : s.vm.findClass "TreeShell$Grammar" = some m.cls := findClass_of_methodNamed Bd.named
  have hlocks := Bd.notSynchronized
  have M : ZM p c b_cGrammar_readCommand s args m "TreeShell$Grammar" D y := ⟨hx, hb, fun w h => hts0 w (List.mem_cons_of_mem _ h), hown, hK⟩
  have hS : va_S (fun x => B ≤ x) s.heap s.heap [] := va_S.rf
  have hE := lg_entry_eq m ([.ref (ad (0, 2)), .int (zI v1)] : List Value) 2
  rw [← hargs] at hE
  rw [hE]
  have hl := lv_entry ([.ref (ad (0, 2)), .int (zI v1)] : List Value) (n := 2) (Nat.le_of_ble_eq_true rfl)
  generalize (lg_sl ([.ref (ad (0, 2)), .int (zI v1)] : List Value) ++ List.replicate (2 - (lg_sl ([.ref (ad (0, 2)), .int (zI v1)] : List Value)).length) Slot.unset).toArray = ls at hl ⊢
  have hl : lv_has ls 2 [(0, .ref (ad (0, 2))), (1, .int (zI v1))] := hl
  refine z_start (fun Q R hQ hR => ?_)
  generalize hH : s.heap = H at hW
  have hS : va_S (fun x => B ≤ x) s.heap H [] := by rw [← hH]; exact hS
  rw [cGrammar_readCommand] at hf
  refine lv_aload_n hx hb d_cGrammar_readCommand_0 rfl (lv_at hl 0 rfl) ?_
  refine zg_Gr_tokens M hW (M.2.2.1 _ w_155) d_cGrammar_readCommand_1 ?_
  refine lv_aload_n hx hb d_cGrammar_readCommand_4 rfl (lv_at hl 0 rfl) ?_
  refine zg_Gr_next M hW (M.2.2.1 _ w_156) d_cGrammar_readCommand_5 ?_
  obtain ⟨p1, g1, hf⟩ := ze1 hf
  refine z_callVi (As := [.int (zI (cI u 3 0))]) (rest := []) (k_cTokens_kindAt F _ _ g1) M hml (cw_cTokens_kindAt M.2.2.1 (M.2.2.1 _ w_423) (by rw [hR]; show 1 ≤ fr + 3; omega) (by rw [hR]; show 21 ≤ lo + 64; omega)) (zv_Tk hK hW) hB hW hS rfl hl.1 rfl (Nat.le_of_ble_eq_true rfl) d_cGrammar_readCommand_8 (by rw [hR]; exact ⟨Nat.zero_le _, Nat.zero_le _⟩) (fun H locs hW hS => ?_)
  refine z_iconst hx hb d_cGrammar_readCommand_11 ?_
  refine z_icmp_eq hx hb d_cGrammar_readCommand_12 rfl hf (fun hf => ?_) (fun hf => ?_)
  · refine lv_aload_n hx hb d_cGrammar_readCommand_20 rfl (lv_at hl 0 rfl) ?_
    refine lv_dup hx hb d_cGrammar_readCommand_21 rfl ?_
    refine zg_Gr_next M hW (M.2.2.1 _ w_156) d_cGrammar_readCommand_22 ?_
    refine z_iconst hx hb d_cGrammar_readCommand_25 ?_
    refine z_iadd hx hb d_cGrammar_readCommand_26 ?_
    refine zp_Gr_next M hW hS (M.2.2.1 _ w_156) d_cGrammar_readCommand_27 (fun H locs hW hS => ?_)
    refine lv_aload_n hx hb d_cGrammar_readCommand_30 rfl (lv_at hl 0 rfl) ?_
    refine lv_iload_n hx hb d_cGrammar_readCommand_31 rfl (lv_at hl 1 rfl) ?_
    refine z_iconst hx hb d_cGrammar_readCommand_32 ?_
    refine z_iadd hx hb d_cGrammar_readCommand_33 ?_
    obtain ⟨p2, u3, g2, hf⟩ := ze2 hf
    refine z_callVi (As := [.int (zI (v1 + 1))]) (rest := []) (hrec _ _ _ _ g2) M hml (cw_cGrammar_readList M.2.2.1 (M.2.2.1 _ w_415) (by rw [hR]; show fr + 1 ≤ fr + 3; omega) (by rw [hR]; show 8 + (4 + 11) + (lo) ≤ lo + 64; omega)) (zv_Gr hK hW) hB hW hS rfl hl.1 rfl (Nat.le_of_ble_eq_true rfl) d_cGrammar_readCommand_34 (by rw [hR]; exact ⟨Nat.zero_le _, Nat.zero_le _⟩) (fun H locs hW hS => ?_)
    obtain ⟨b5, g3, hf⟩ := ze1 hf
    have JT3 : b5 = true → ∀ (H : Heap) (locs : List Loc), ZW D B y ad q u3 r H → va_S (fun x => B ≤ x) s.heap H locs → W p l e R s m args below meth c H locs 0 0 Q (F0 m 56 ls []) := by
      intro hv H locs hW hS
      have hf := zp (hv) hf
      refine z_iconst hx hb d_cGrammar_readCommand_56 ?_
      cases hf
      subst hQ
      exact z_retz hx hb (Or.inl rfl) hr hlocks hB hK hW hS d_cGrammar_readCommand_57
    have JF3 : b5 = false → ∀ (H : Heap) (locs : List Loc), ZW D B y ad q u3 r H → va_S (fun x => B ≤ x) s.heap H locs → W p l e R s m args below meth c H locs 0 0 Q (F0 m 58 ls []) := by
      intro hv H locs hW hS
      have hf := zn (by rw [hv]; decide) hf
      refine lv_aload_n hx hb d_cGrammar_readCommand_58 rfl (lv_at hl 0 rfl) ?_
      refine lv_dup hx hb d_cGrammar_readCommand_59 rfl ?_
      refine zg_Gr_next M hW (M.2.2.1 _ w_156) d_cGrammar_readCommand_60 ?_
      refine z_iconst hx hb d_cGrammar_readCommand_63 ?_
      refine z_iadd hx hb d_cGrammar_readCommand_64 ?_
      refine zp_Gr_next M hW hS (M.2.2.1 _ w_156) d_cGrammar_readCommand_65 (fun H locs hW hS => ?_)
      refine lv_aload_n hx hb d_cGrammar_readCommand_68 rfl (lv_at hl 0 rfl) ?_
      obtain ⟨p6, u7, g4, hf⟩ := ze2 hf
      refine z_callVi (As := []) (rest := []) (k_cGrammar_readRedirections F _ g4) M hml (cw_cGrammar_readRedirections M.2.2.1 (M.2.2.1 _ w_435) (by rw [hR]; show 2 ≤ fr + 3; omega) (by rw [hR]; show 42 ≤ lo + 64; omega)) (zv_Gr hK hW) hB hW hS rfl hl.1 rfl (Nat.le_of_ble_eq_true rfl) d_cGrammar_readCommand_69 (by rw [hR]; exact ⟨Nat.zero_le _, Nat.zero_le _⟩) (fun H locs hW hS => ?_)
      obtain ⟨g5, hf⟩ := zg hf
      cases hf
      subst hQ
      exact z_retz hx hb g5 hr hlocks hB hK hW hS d_cGrammar_readCommand_72
    refine z_if_eq hx hb d_cGrammar_readCommand_37 rfl g3 (fun g3 => ?_) (fun g3 => ?_)
    · exact JT3 (Option.some.inj g3).symm _ _ hW hS
    · refine lv_aload_n hx hb d_cGrammar_readCommand_40 rfl (lv_at hl 0 rfl) ?_
      refine zg_Gr_tokens M hW (M.2.2.1 _ w_155) d_cGrammar_readCommand_41 ?_
      refine lv_aload_n hx hb d_cGrammar_readCommand_44 rfl (lv_at hl 0 rfl) ?_
      refine zg_Gr_next M hW (M.2.2.1 _ w_156) d_cGrammar_readCommand_45 ?_
      obtain ⟨p4, g6, g3⟩ := ze1 g3
      refine z_callVi (As := [.int (zI (cI u3 3 0))]) (rest := []) (k_cTokens_kindAt F _ _ g6) M hml (cw_cTokens_kindAt M.2.2.1 (M.2.2.1 _ w_423) (by rw [hR]; show 1 ≤ fr + 3; omega) (by rw [hR]; show 21 ≤ lo + 64; omega)) (zv_Tk hK hW) hB hW hS rfl hl.1 rfl (Nat.le_of_ble_eq_true rfl) d_cGrammar_readCommand_48 (by rw [hR]; exact ⟨Nat.zero_le _, Nat.zero_le _⟩) (fun H locs hW hS => ?_)
      refine z_bipush hx hb d_cGrammar_readCommand_51 rfl ?_
      refine z_icmp_eq hx hb d_cGrammar_readCommand_53 rfl g3 (fun g3 => ?_) (fun g3 => ?_)
      · exact JF3 (Option.some.inj g3).symm _ _ hW hS
      · exact JT3 (Option.some.inj g3).symm _ _ hW hS
  · refine lv_aload_n hx hb d_cGrammar_readCommand_15 rfl (lv_at hl 0 rfl) ?_
    obtain ⟨p8, u9, g7, hf⟩ := ze2 hf
    refine z_callVi (As := []) (rest := []) (k_cGrammar_readSimple F _ g7) M hml (cw_cGrammar_readSimple M.2.2.1 (M.2.2.1 _ w_431) (by rw [hR]; show 3 ≤ fr + 3; omega) (by rw [hR]; show 64 ≤ lo + 64; omega)) (zv_Gr hK hW) hB hW hS rfl hl.1 rfl (Nat.le_of_ble_eq_true rfl) d_cGrammar_readCommand_16 (by rw [hR]; exact ⟨Nat.zero_le _, Nat.zero_le _⟩) (fun H locs hW hS => ?_)
    obtain ⟨g8, hf⟩ := zg hf
    cases hf
    subst hQ
    exact z_retz hx hb g8 hr hlocks hB hK hW hS d_cGrammar_readCommand_19
set_option maxRecDepth 100000 in
set_option maxHeartbeats 4000000 in
theorem k_cGrammar_readPipeline {l : Launch} {D : va_G} {B : Nat} {y : Nat → ClassId} {ad : Nat × Nat → Nat} {q : Bool} {r : ZR} (F : Nat) (rec : ZC → Int → Option (Int × ZC)) (fr lo : Nat) (hrec : ∀ (u : ZC) (v1 : Int) (res : Int) (uo : ZC), rec u v1 = some (res, uo) → Met l y_cGrammar_readList (.code y_cGrammar_readList b_cGrammar_readList 4 (some .boolean) :: zt) { frames := fr, cells := 0, slots := 0, locals := lo } (va_Pc [.ref (ad (0, 2)), .int (zI v1)] (fun U => ZP D B y ad q u r U)) (va_Qi (fun v (_ : Unit) => v = zI res) (fun _ t => ZP D B y ad q uo r t) (fun x => B ≤ x)) 0 0 (fun x => B ≤ x)) (u : ZC) (v1 : Int) {res : Int} {uo : ZC} (hf : cGrammar_readPipeline F rec u v1 = some (res, uo)) : Met l y_cGrammar_readPipeline (.code y_cGrammar_readPipeline b_cGrammar_readPipeline 3 (some .boolean) :: zt) { frames := fr + 4, cells := 0, slots := 0, locals := lo + 85 } (va_Pc [.ref (ad (0, 2)), .int (zI v1)] (fun U => ZP D B y ad q u r U)) (va_Qi (fun v (_ : Unit) => v = zI res) (fun _ t => ZP D B y ad q uo r t) (fun x => B ≤ x)) 0 0 (fun x => B ≤ x) := by
  refine Met.ofW (cc := b_cGrammar_readPipeline) (maxL := 3) (ret := (some .boolean)) (by decide) rfl ?_
  intro p e s m args below meth c s₁ Bd hml hv
  obtain ⟨hargs, hB, hW, hK⟩ := hv
  have hx := Bd.exec
  have hb := Bd.bytes
  have hr := Bd.returns
  have hts0 := atoms_spec (ws := .code y_cGrammar_readPipeline b_cGrammar_readPipeline 3 (some .boolean) :: zt) Bd.pre
  have hown : s.vm.findClass "TreeShell$Grammar" = some m.cls := findClass_of_methodNamed Bd.named
  have hlocks := Bd.notSynchronized
  have M : ZM p c b_cGrammar_readPipeline s args m "TreeShell$Grammar" D y := ⟨hx, hb, fun w h => hts0 w (List.mem_cons_of_mem _ h), hown, hK⟩
  have hS : va_S (fun x => B ≤ x) s.heap s.heap [] := va_S.rf
  have hE := lg_entry_eq m ([.ref (ad (0, 2)), .int (zI v1)] : List Value) 3
  rw [← hargs] at hE
  rw [hE]
  have hl := lv_entry ([.ref (ad (0, 2)), .int (zI v1)] : List Value) (n := 3) (Nat.le_of_ble_eq_true rfl)
  generalize (lg_sl ([.ref (ad (0, 2)), .int (zI v1)] : List Value) ++ List.replicate (3 - (lg_sl ([.ref (ad (0, 2)), .int (zI v1)] : List Value)).length) Slot.unset).toArray = ls at hl ⊢
  have hl : lv_has ls 3 [(0, .ref (ad (0, 2))), (1, .int (zI v1))] := hl
  refine z_start (fun Q R hQ hR => ?_)
  generalize hH : s.heap = H at hW
  have hS : va_S (fun x => B ≤ x) s.heap H [] := by rw [← hH]; exact hS
  have C_27 : ∀ (n : Nat), ∀ (u : ZC) (v1 : Int) (v2 : Int) (H : Heap) (locs : List Loc) (ls : Array Slot), cGrammar_readPipeline_27 F rec n u v1 v2 = some (res, uo) → lv_has ls 3 [(0, .ref (ad (0, 2))), (1, .int (zI v1)), (2, .int (zI v2))] → ZW D B y ad q u r H → va_S (fun x => B ≤ x) s.heap H locs → W p l e R s m args below meth c H locs 0 0 Q (F0 m 27 ls []) := by
    intro n
    induction n with
    | zero => intro u v1 v2 H locs ls hf; cases (show (none : Option (Int × ZC)) = some (res, uo) from hf)
    | succ n ih =>
      intro u v1 v2 H locs ls hf hl hW hS
      rw [cGrammar_readPipeline_27] at hf
      refine lv_iload_n hx hb d_cGrammar_readPipeline_27 rfl (lv_at hl 2 rfl) ?_
      refine lv_aload_n hx hb d_cGrammar_readPipeline_28 rfl (lv_at hl 0 rfl) ?_
      refine zg_Gr_tokens M hW (M.2.2.1 _ w_155) d_cGrammar_readPipeline_29 ?_
      refine zg_Tk_count M hW (M.2.2.1 _ w_135) d_cGrammar_readPipeline_32 ?_
      refine z_icmp_ge hx hb d_cGrammar_readPipeline_35 rfl hf (fun hf => ?_) (fun hf => ?_)
      · refine z_iconst hx hb d_cGrammar_readPipeline_81 ?_
        cases hf
        subst hQ
        exact z_retz hx hb (Or.inl rfl) hr hlocks hB hK hW hS d_cGrammar_readPipeline_82
      · refine lv_aload_n hx hb d_cGrammar_readPipeline_38 rfl (lv_at hl 0 rfl) ?_
        refine lv_iload_n hx hb d_cGrammar_readPipeline_39 rfl (lv_at hl 1 rfl) ?_
        obtain ⟨p3, u4, g1, hf⟩ := ze2 hf
        refine z_callVi (As := [.int (zI v1)]) (rest := []) (k_cGrammar_readCommand F rec fr lo hrec _ _ g1) M hml (cw_cGrammar_readCommand M.2.2.1 (M.2.2.1 _ w_427) (by rw [hR]; show fr + 3 + 1 ≤ fr + 4; omega) (by rw [hR]; show 8 + (2 + 11) + (lo + 64) ≤ lo + 85; omega)) (zv_Gr hK hW) hB hW hS rfl hl.1 rfl (Nat.le_of_ble_eq_true rfl) d_cGrammar_readPipeline_40 (by rw [hR]; exact ⟨Nat.zero_le _, Nat.zero_le _⟩) (fun H locs hW hS => ?_)
        refine z_if_ne hx hb d_cGrammar_readPipeline_43 rfl hf (fun hf => ?_) (fun hf => ?_)
        · refine lv_aload_n hx hb d_cGrammar_readPipeline_48 rfl (lv_at hl 0 rfl) ?_
          refine zg_Gr_tokens M hW (M.2.2.1 _ w_155) d_cGrammar_readPipeline_49 ?_
          refine lv_aload_n hx hb d_cGrammar_readPipeline_52 rfl (lv_at hl 0 rfl) ?_
          refine zg_Gr_next M hW (M.2.2.1 _ w_156) d_cGrammar_readPipeline_53 ?_
          obtain ⟨p5, g2, hf⟩ := ze1 hf
          refine z_callVi (As := [.int (zI (cI u4 3 0))]) (rest := []) (k_cTokens_kindAt F _ _ g2) M hml (cw_cTokens_kindAt M.2.2.1 (M.2.2.1 _ w_423) (by rw [hR]; show 1 ≤ fr + 4; omega) (by rw [hR]; show 21 ≤ lo + 85; omega)) (zv_Tk hK hW) hB hW hS rfl hl.1 rfl (Nat.le_of_ble_eq_true rfl) d_cGrammar_readPipeline_56 (by rw [hR]; exact ⟨Nat.zero_le _, Nat.zero_le _⟩) (fun H locs hW hS => ?_)
          refine z_iconst hx hb d_cGrammar_readPipeline_59 ?_
          refine z_icmp_eq hx hb d_cGrammar_readPipeline_60 rfl hf (fun hf => ?_) (fun hf => ?_)
          · refine lv_aload_n hx hb d_cGrammar_readPipeline_65 rfl (lv_at hl 0 rfl) ?_
            refine lv_dup hx hb d_cGrammar_readPipeline_66 rfl ?_
            refine zg_Gr_next M hW (M.2.2.1 _ w_156) d_cGrammar_readPipeline_67 ?_
            refine z_iconst hx hb d_cGrammar_readPipeline_70 ?_
            refine z_iadd hx hb d_cGrammar_readPipeline_71 ?_
            refine zp_Gr_next M hW hS (M.2.2.1 _ w_156) d_cGrammar_readPipeline_72 (fun H locs hW hS => ?_)
            refine lv_iinc (k := 2) (v := zI (v2 + 1)) (lv' := [(2, .int (zI (v2 + 1))), (0, .ref (ad (0, 2))), (1, .int (zI v1))]) hx hb d_cGrammar_readPipeline_75 hl rfl (zI_add _ _) (by decide) rfl (fun ls hl => ?_)
            refine lv_goto hx hb d_cGrammar_readPipeline_78 rfl ?_
            exact ih _ _ _ _ _ _ hf (lv_sub hl [1, 2, 0] rfl) hW hS
          · refine z_iconst hx hb d_cGrammar_readPipeline_63 ?_
            cases hf
            subst hQ
            exact z_retz hx hb (Or.inr rfl) hr hlocks hB hK hW hS d_cGrammar_readPipeline_64
        · refine z_iconst hx hb d_cGrammar_readPipeline_46 ?_
          cases hf
          subst hQ
          exact z_retz hx hb (Or.inl rfl) hr hlocks hB hK hW hS d_cGrammar_readPipeline_47
  rw [cGrammar_readPipeline] at hf
  refine lv_aload_n hx hb d_cGrammar_readPipeline_0 rfl (lv_at hl 0 rfl) ?_
  refine zg_Gr_tokens M hW (M.2.2.1 _ w_155) d_cGrammar_readPipeline_1 ?_
  refine lv_aload_n hx hb d_cGrammar_readPipeline_4 rfl (lv_at hl 0 rfl) ?_
  refine zg_Gr_next M hW (M.2.2.1 _ w_156) d_cGrammar_readPipeline_5 ?_
  obtain ⟨p1, g3, hf⟩ := ze1 hf
  refine z_callVi (As := [.int (zI (cI u 3 0))]) (rest := []) (k_cTokens_kindAt F _ _ g3) M hml (cw_cTokens_kindAt M.2.2.1 (M.2.2.1 _ w_423) (by rw [hR]; show 1 ≤ fr + 4; omega) (by rw [hR]; show 21 ≤ lo + 85; omega)) (zv_Tk hK hW) hB hW hS rfl hl.1 rfl (Nat.le_of_ble_eq_true rfl) d_cGrammar_readPipeline_8 (by rw [hR]; exact ⟨Nat.zero_le _, Nat.zero_le _⟩) (fun H locs hW hS => ?_)
  refine z_iconst hx hb d_cGrammar_readPipeline_11 ?_
  obtain ⟨u2, g4, hf⟩ := ze1 hf
  have J4 : ∀ (H : Heap) (locs : List Loc) (ls : Array Slot), lv_has ls 3 [(0, .ref (ad (0, 2))), (1, .int (zI v1))] → ZW D B y ad q u2 r H → va_S (fun x => B ≤ x) s.heap H locs → W p l e R s m args below meth c H locs 0 0 Q (F0 m 25 ls []) := by
    intro H locs ls hl hW hS
    refine z_iconst hx hb d_cGrammar_readPipeline_25 ?_
    refine lv_istore_n (lv' := [(2, .int (zI 0)), (0, .ref (ad (0, 2))), (1, .int (zI v1))]) hx hb d_cGrammar_readPipeline_26 rfl hl (by decide) rfl (fun ls hl => ?_)
    exact C_27 F _ _ _ _ _ _ hf (lv_sub hl [1, 2, 0] rfl) hW hS
  refine z_icmp_ne hx hb d_cGrammar_readPipeline_12 rfl g4 (fun g4 => ?_) (fun g4 => ?_)
  · cases g4
    exact J4 _ _ _ (lv_sub hl [0, 1] rfl) hW hS
  · refine lv_aload_n hx hb d_cGrammar_readPipeline_15 rfl (lv_at hl 0 rfl) ?_
    refine lv_dup hx hb d_cGrammar_readPipeline_16 rfl ?_
    refine zg_Gr_next M hW (M.2.2.1 _ w_156) d_cGrammar_readPipeline_17 ?_
    refine z_iconst hx hb d_cGrammar_readPipeline_20 ?_
    refine z_iadd hx hb d_cGrammar_readPipeline_21 ?_
    refine zp_Gr_next M hW hS (M.2.2.1 _ w_156) d_cGrammar_readPipeline_22 (fun H locs hW hS => ?_)
    cases g4
    exact J4 _ _ _ (lv_sub hl [0, 1] rfl) hW hS
set_option maxRecDepth 100000 in
set_option maxHeartbeats 4000000 in
theorem k_cGrammar_isListEnd {l : Launch} {D : va_G} {B : Nat} {y : Nat → ClassId} {ad : Nat × Nat → Nat} {q : Bool} {r : ZR} (F : Nat) (u : ZC) {res : Int} (hf : cGrammar_isListEnd F u = some res) : Met l y_cGrammar_isListEnd (.code y_cGrammar_isListEnd b_cGrammar_isListEnd 2 (some .boolean) :: zt) { frames := 1, cells := 0, slots := 0, locals := 21 } (va_Pc [.ref (ad (0, 2))] (fun U => ZP D B y ad q u r U)) (va_Qi (fun v (_ : Unit) => v = zI res) (fun _ t => ZP D B y ad q u r t) (fun x => B ≤ x)) 0 0 (fun x => B ≤ x) := by
  refine Met.ofW (cc := b_cGrammar_isListEnd) (maxL := 2) (ret := (some .boolean)) (by decide) rfl ?_
  intro p e s m args below meth c s₁ Bd hml hv
  obtain ⟨hargs, hB, hW, hK⟩ := hv
  have hx := Bd.exec
  have hb := Bd.bytes
  have hr := Bd.returns
  have hts0 := atoms_spec (ws := .code y_cGrammar_isListEnd b_cGrammar_isListEnd 2 (some .boolean) :: zt) Bd.pre
  have hown : s.vm.findClass "TreeShell$Grammar" = some m.cls := findClass_of_methodNamed Bd.named
  have hlocks := Bd.notSynchronized
  have M : ZM p c b_cGrammar_isListEnd s args m "TreeShell$Grammar" D y := ⟨hx, hb, fun w h => hts0 w (List.mem_cons_of_mem _ h), hown, hK⟩
  have hS : va_S (fun x => B ≤ x) s.heap s.heap [] := va_S.rf
  have hE := lg_entry_eq m ([.ref (ad (0, 2))] : List Value) 2
  rw [← hargs] at hE
  rw [hE]
  have hl := lv_entry ([.ref (ad (0, 2))] : List Value) (n := 2) (Nat.le_of_ble_eq_true rfl)
  generalize (lg_sl ([.ref (ad (0, 2))] : List Value) ++ List.replicate (2 - (lg_sl ([.ref (ad (0, 2))] : List Value)).length) Slot.unset).toArray = ls at hl ⊢
  have hl : lv_has ls 2 [(0, .ref (ad (0, 2)))] := hl
  refine z_start (fun Q R hQ hR => ?_)
  generalize hH : s.heap = H at hW
  have hS : va_S (fun x => B ≤ x) s.heap H [] := by rw [← hH]; exact hS
  rw [cGrammar_isListEnd] at hf
  refine lv_aload_n hx hb d_cGrammar_isListEnd_0 rfl (lv_at hl 0 rfl) ?_
  refine zg_Gr_tokens M hW (M.2.2.1 _ w_155) d_cGrammar_isListEnd_1 ?_
  refine lv_aload_n hx hb d_cGrammar_isListEnd_4 rfl (lv_at hl 0 rfl) ?_
  refine zg_Gr_next M hW (M.2.2.1 _ w_156) d_cGrammar_isListEnd_5 ?_
  obtain ⟨p1, g1, hf⟩ := ze1 hf
  refine z_callVi (As := [.int (zI (cI u 3 0))]) (rest := []) (k_cTokens_kindAt F _ _ g1) M hml (cw_cTokens_kindAt M.2.2.1 (M.2.2.1 _ w_423) (by rw [hR]; exact Nat.le_of_ble_eq_true rfl) (by rw [hR]; exact Nat.le_of_ble_eq_true rfl)) (zv_Tk hK hW) hB hW hS rfl hl.1 rfl (Nat.le_of_ble_eq_true rfl) d_cGrammar_isListEnd_8 (by rw [hR]; exact ⟨Nat.zero_le _, Nat.zero_le _⟩) (fun H locs hW hS => ?_)
  refine lv_istore_n (lv' := [(1, .int (zI p1)), (0, .ref (ad (0, 2)))]) hx hb d_cGrammar_isListEnd_11 rfl hl (by decide) rfl (fun ls hl => ?_)
  refine lv_iload_n hx hb d_cGrammar_isListEnd_12 rfl (lv_at hl 0 rfl) ?_
  refine z_bipush hx hb d_cGrammar_isListEnd_13 rfl ?_
  obtain ⟨x3, g2, hf⟩ := ze1 hf
  have J2 : ∀ (H : Heap) (locs : List Loc) (ls : Array Slot), lv_has ls 2 [] → ZW D B y ad q u r H → va_S (fun x => B ≤ x) s.heap H locs → W p l e R s m args below meth c H locs 0 0 Q (F0 m 29 ls [.int (zI x3)]) := by
    intro H locs ls hl hW hS
    obtain ⟨g3, hf⟩ := zg hf
    cases hf
    subst hQ
    exact z_retz hx hb g3 hr hlocks hB hK hW hS d_cGrammar_isListEnd_29
  obtain ⟨b2, g4, g2⟩ := ze1 g2
  have JT4 : b2 = true → ∀ (H : Heap) (locs : List Loc), ZW D B y ad q u r H → va_S (fun x => B ≤ x) s.heap H locs → W p l e R s m args below meth c H locs 0 0 Q (F0 m 24 ls []) := by
    intro hv H locs hW hS
    have g2 := zp (hv) g2
    refine z_iconst hx hb d_cGrammar_isListEnd_24 ?_
    refine lv_goto hx hb d_cGrammar_isListEnd_25 rfl ?_
    cases g2
    exact J2 _ _ _ (lv_sub hl [] rfl) hW hS
  have JF4 : b2 = false → ∀ (H : Heap) (locs : List Loc), ZW D B y ad q u r H → va_S (fun x => B ≤ x) s.heap H locs → W p l e R s m args below meth c H locs 0 0 Q (F0 m 28 ls []) := by
    intro hv H locs hW hS
    have g2 := zn (by rw [hv]; decide) g2
    refine z_iconst hx hb d_cGrammar_isListEnd_28 ?_
    cases g2
    exact J2 _ _ _ (lv_sub hl [] rfl) hW hS
  refine z_icmp_eq hx hb d_cGrammar_isListEnd_15 rfl g4 (fun g4 => ?_) (fun g4 => ?_)
  · exact JT4 (Option.some.inj g4).symm _ _ hW hS
  · refine lv_iload_n hx hb d_cGrammar_isListEnd_18 rfl (lv_at hl 0 rfl) ?_
    refine z_bipush hx hb d_cGrammar_isListEnd_19 rfl ?_
    refine z_icmp_ne hx hb d_cGrammar_isListEnd_21 rfl g4 (fun g4 => ?_) (fun g4 => ?_)
    · exact JF4 (Option.some.inj g4).symm _ _ hW hS
    · exact JT4 (Option.some.inj g4).symm _ _ hW hS
set_option maxRecDepth 100000 in
set_option maxHeartbeats 4000000 in
theorem k_cGrammar_readList {l : Launch} {D : va_G} {B : Nat} {y : Nat → ClassId} {ad : Nat × Nat → Nat} {q : Bool} {r : ZR} (F : Nat) : ∀ (d : Nat), ∀ (u : ZC) (v1 : Int) (res : Int) (uo : ZC), cGrammar_readList F d u v1 = some (res, uo) → Met l y_cGrammar_readList (.code y_cGrammar_readList b_cGrammar_readList 4 (some .boolean) :: zt) { frames := 5 * d, cells := 0, slots := 0, locals := 107 * d } (va_Pc [.ref (ad (0, 2)), .int (zI v1)] (fun U => ZP D B y ad q u r U)) (va_Qi (fun v (_ : Unit) => v = zI res) (fun _ t => ZP D B y ad q uo r t) (fun x => B ≤ x)) 0 0 (fun x => B ≤ x) := by
  intro d
  induction d with
  | zero => intro u v1 res uo hf; cases (show (none : Option (Int × ZC)) = some (res, uo) from hf)
  | succ d ihd =>
    intro u v1 res uo hf
    refine Met.ofW (cc := b_cGrammar_readList) (maxL := 4) (ret := (some .boolean)) (by decide) rfl ?_
    intro p e s m args below meth c s₁ Bd hml hv
    obtain ⟨hargs, hB, hW, hK⟩ := hv
    have hx := Bd.exec
    have hb := Bd.bytes
    have hr := Bd.returns
    have hts0 := atoms_spec (ws := .code y_cGrammar_readList b_cGrammar_readList 4 (some .boolean) :: zt) Bd.pre
    have hown : s.vm.findClass "TreeShell$Grammar" = some m.cls := findClass_of_methodNamed Bd.named
    have hlocks := Bd.notSynchronized
    have M : ZM p c b_cGrammar_readList s args m "TreeShell$Grammar" D y := ⟨hx, hb, fun w h => hts0 w (List.mem_cons_of_mem _ h), hown, hK⟩
    have hS : va_S (fun x => B ≤ x) s.heap s.heap [] := va_S.rf
    have hE := lg_entry_eq m ([.ref (ad (0, 2)), .int (zI v1)] : List Value) 4
    rw [← hargs] at hE
    rw [hE]
    have hl := lv_entry ([.ref (ad (0, 2)), .int (zI v1)] : List Value) (n := 4) (Nat.le_of_ble_eq_true rfl)
    generalize (lg_sl ([.ref (ad (0, 2)), .int (zI v1)] : List Value) ++ List.replicate (4 - (lg_sl ([.ref (ad (0, 2)), .int (zI v1)] : List Value)).length) Slot.unset).toArray = ls at hl ⊢
    have hl : lv_has ls 4 [(0, .ref (ad (0, 2))), (1, .int (zI v1))] := hl
    refine z_start (fun Q R hQ hR => ?_)
    generalize hH : s.heap = H at hW
    have hS : va_S (fun x => B ≤ x) s.heap H [] := by rw [← hH]; exact hS
    have C_17 : ∀ (n : Nat), ∀ (u : ZC) (v1 : Int) (v2 : Int) (H : Heap) (locs : List Loc) (ls : Array Slot), cGrammar_readList_17 F (cGrammar_readList F d) n u v1 v2 = some (res, uo) → lv_has ls 4 [(0, .ref (ad (0, 2))), (1, .int (zI v1)), (2, .int (zI v2))] → ZW D B y ad q u r H → va_S (fun x => B ≤ x) s.heap H locs → W p l e R s m args below meth c H locs 0 0 Q (F0 m 17 ls []) := by
      intro n
      induction n with
      | zero => intro u v1 v2 H locs ls hf; cases (show (none : Option (Int × ZC)) = some (res, uo) from hf)
      | succ n ih =>
        intro u v1 v2 H locs ls hf hl hW hS
        rw [cGrammar_readList_17] at hf
        refine lv_iload_n hx hb d_cGrammar_readList_17 rfl (lv_at hl 2 rfl) ?_
        refine lv_aload_n hx hb d_cGrammar_readList_18 rfl (lv_at hl 0 rfl) ?_
        refine zg_Gr_tokens M hW (M.2.2.1 _ w_155) d_cGrammar_readList_19 ?_
        refine zg_Tk_count M hW (M.2.2.1 _ w_135) d_cGrammar_readList_22 ?_
        refine z_icmp_ge hx hb d_cGrammar_readList_25 rfl hf (fun hf => ?_) (fun hf => ?_)
        · refine z_iconst hx hb d_cGrammar_readList_86 ?_
          cases hf
          subst hQ
          exact z_retz hx hb (Or.inr rfl) hr hlocks hB hK hW hS d_cGrammar_readList_87
        · refine lv_aload_n hx hb d_cGrammar_readList_28 rfl (lv_at hl 0 rfl) ?_
          refine zg_Gr_tokens M hW (M.2.2.1 _ w_155) d_cGrammar_readList_29 ?_
          refine lv_aload_n hx hb d_cGrammar_readList_32 rfl (lv_at hl 0 rfl) ?_
          refine zg_Gr_next M hW (M.2.2.1 _ w_156) d_cGrammar_readList_33 ?_
          obtain ⟨p3, g1, hf⟩ := ze1 hf
          refine z_callVi (As := [.int (zI (cI u 3 0))]) (rest := []) (k_cTokens_kindAt F _ _ g1) M hml (cw_cTokens_kindAt M.2.2.1 (M.2.2.1 _ w_423) (by rw [hR]; show 1 ≤ 5 * (d + 1); omega) (by rw [hR]; show 21 ≤ 107 * (d + 1); omega)) (zv_Tk hK hW) hB hW hS rfl hl.1 rfl (Nat.le_of_ble_eq_true rfl) d_cGrammar_readList_36 (by rw [hR]; exact ⟨Nat.zero_le _, Nat.zero_le _⟩) (fun H locs hW hS => ?_)
          refine lv_istore_n (lv' := [(3, .int (zI p3)), (0, .ref (ad (0, 2))), (1, .int (zI v1)), (2, .int (zI v2))]) hx hb d_cGrammar_readList_39 rfl hl (by decide) rfl (fun ls hl => ?_)
          refine lv_iload_n hx hb d_cGrammar_readList_40 rfl (lv_at hl 0 rfl) ?_
          refine z_iconst hx hb d_cGrammar_readList_41 ?_
          refine z_icmp_le hx hb d_cGrammar_readList_42 rfl hf (fun hf => ?_) (fun hf => ?_)
          · refine lv_aload_n hx hb d_cGrammar_readList_47 rfl (lv_at hl 1 rfl) ?_
            refine lv_dup hx hb d_cGrammar_readList_48 rfl ?_
            refine zg_Gr_next M hW (M.2.2.1 _ w_156) d_cGrammar_readList_49 ?_
            refine z_iconst hx hb d_cGrammar_readList_52 ?_
            refine z_iadd hx hb d_cGrammar_readList_53 ?_
            refine zp_Gr_next M hW hS (M.2.2.1 _ w_156) d_cGrammar_readList_54 (fun H locs hW hS => ?_)
            refine lv_iload_n hx hb d_cGrammar_readList_57 rfl (lv_at hl 0 rfl) ?_
            obtain ⟨b5, g2, hf⟩ := ze1 hf
            have JT2 : b5 = true → ∀ (H : Heap) (locs : List Loc), ZW D B y ad q (sI u 3 0 ((cI u 3 0) + 1)) r H → va_S (fun x => B ≤ x) s.heap H locs → W p l e R s m args below meth c H locs 0 0 Q (F0 m 70 ls []) := by
              intro hv H locs hW hS
              have hf := zp (hv) hf
              refine lv_aload_n hx hb d_cGrammar_readList_70 rfl (lv_at hl 1 rfl) ?_
              refine lv_iload_n hx hb d_cGrammar_readList_71 rfl (lv_at hl 2 rfl) ?_
              obtain ⟨p6, u7, g3, hf⟩ := ze2 hf
              refine z_callVi (As := [.int (zI v1)]) (rest := []) (k_cGrammar_readPipeline F _ (5 * d) (107 * d) ihd _ _ g3) M hml (cw_cGrammar_readPipeline M.2.2.1 (M.2.2.1 _ w_419) (by rw [hR]; show 5 * d + 4 + 1 ≤ 5 * (d + 1); omega) (by rw [hR]; show 8 + (3 + 11) + (107 * d + 85) ≤ 107 * (d + 1); omega)) (zv_Gr hK hW) hB hW hS rfl hl.1 rfl (Nat.le_of_ble_eq_true rfl) d_cGrammar_readList_72 (by rw [hR]; exact ⟨Nat.zero_le _, Nat.zero_le _⟩) (fun H locs hW hS => ?_)
              refine z_if_ne hx hb d_cGrammar_readList_75 rfl hf (fun hf => ?_) (fun hf => ?_)
              · refine lv_iinc (k := 3) (v := zI (v2 + 1)) (lv' := [(2, .int (zI (v2 + 1))), (3, .int (zI p3)), (0, .ref (ad (0, 2))), (1, .int (zI v1))]) hx hb d_cGrammar_readList_80 hl rfl (zI_add _ _) (by decide) rfl (fun ls hl => ?_)
                refine lv_goto hx hb d_cGrammar_readList_83 rfl ?_
                exact ih _ _ _ _ _ _ hf (lv_sub hl [2, 3, 0] rfl) hW hS
              · refine z_iconst hx hb d_cGrammar_readList_78 ?_
                cases hf
                subst hQ
                exact z_retz hx hb (Or.inl rfl) hr hlocks hB hK hW hS d_cGrammar_readList_79
            have JF2 : b5 = false → ∀ (H : Heap) (locs : List Loc), ZW D B y ad q (sI u 3 0 ((cI u 3 0) + 1)) r H → va_S (fun x => B ≤ x) s.heap H locs → W p l e R s m args below meth c H locs 0 0 Q (F0 m 68 ls []) := by
              intro hv H locs hW hS
              have hf := zn (by rw [hv]; decide) hf
              refine z_iconst hx hb d_cGrammar_readList_68 ?_
              cases hf
              subst hQ
              exact z_retz hx hb (Or.inr rfl) hr hlocks hB hK hW hS d_cGrammar_readList_69
            refine z_if_ne hx hb d_cGrammar_readList_58 rfl g2 (fun g2 => ?_) (fun g2 => ?_)
            · exact JT2 (Option.some.inj g2).symm _ _ hW hS
            · refine lv_aload_n hx hb d_cGrammar_readList_61 rfl (lv_at hl 1 rfl) ?_
              obtain ⟨p4, g4, g2⟩ := ze1 g2
              refine z_callVi (As := []) (rest := []) (k_cGrammar_isListEnd F _ g4) M hml (cw_cGrammar_isListEnd M.2.2.1 (M.2.2.1 _ w_443) (by rw [hR]; show 2 ≤ 5 * (d + 1); omega) (by rw [hR]; show 42 ≤ 107 * (d + 1); omega)) (zv_Gr hK hW) hB hW hS rfl hl.1 rfl (Nat.le_of_ble_eq_true rfl) d_cGrammar_readList_62 (by rw [hR]; exact ⟨Nat.zero_le _, Nat.zero_le _⟩) (fun H locs hW hS => ?_)
              refine z_if_eq hx hb d_cGrammar_readList_65 rfl g2 (fun g2 => ?_) (fun g2 => ?_)
              · exact JT2 (Option.some.inj g2).symm _ _ hW hS
              · exact JF2 (Option.some.inj g2).symm _ _ hW hS
          · refine z_iconst hx hb d_cGrammar_readList_45 ?_
            cases hf
            subst hQ
            exact z_retz hx hb (Or.inr rfl) hr hlocks hB hK hW hS d_cGrammar_readList_46
    rw [cGrammar_readList] at hf
    refine lv_iload_n hx hb d_cGrammar_readList_0 rfl (lv_at hl 1 rfl) ?_
    refine z_iconst hx hb d_cGrammar_readList_1 ?_
    refine z_icmp_gt hx hb d_cGrammar_readList_2 rfl hf (fun hf => ?_) (fun hf => ?_)
    · refine z_iconst hx hb d_cGrammar_readList_13 ?_
      cases hf
      subst hQ
      exact z_retz hx hb (Or.inl rfl) hr hlocks hB hK hW hS d_cGrammar_readList_14
    · refine lv_aload_n hx hb d_cGrammar_readList_5 rfl (lv_at hl 0 rfl) ?_
      refine lv_iload_n hx hb d_cGrammar_readList_6 rfl (lv_at hl 1 rfl) ?_
      obtain ⟨p1, u2, g5, hf⟩ := ze2 hf
      refine z_callVi (As := [.int (zI v1)]) (rest := []) (k_cGrammar_readPipeline F _ (5 * d) (107 * d) ihd _ _ g5) M hml (cw_cGrammar_readPipeline M.2.2.1 (M.2.2.1 _ w_419) (by rw [hR]; show 5 * d + 4 + 1 ≤ 5 * (d + 1); omega) (by rw [hR]; show 8 + (3 + 11) + (107 * d + 85) ≤ 107 * (d + 1); omega)) (zv_Gr hK hW) hB hW hS rfl hl.1 rfl (Nat.le_of_ble_eq_true rfl) d_cGrammar_readList_7 (by rw [hR]; exact ⟨Nat.zero_le _, Nat.zero_le _⟩) (fun H locs hW hS => ?_)
      refine z_if_ne hx hb d_cGrammar_readList_10 rfl hf (fun hf => ?_) (fun hf => ?_)
      · refine z_iconst hx hb d_cGrammar_readList_15 ?_
        refine lv_istore_n (lv' := [(2, .int (zI 0)), (0, .ref (ad (0, 2))), (1, .int (zI v1))]) hx hb d_cGrammar_readList_16 rfl hl (by decide) rfl (fun ls hl => ?_)
        exact C_17 F _ _ _ _ _ _ hf (lv_sub hl [1, 2, 0] rfl) hW hS
      · refine z_iconst hx hb d_cGrammar_readList_13 ?_
        cases hf
        subst hQ
        exact z_retz hx hb (Or.inl rfl) hr hlocks hB hK hW hS d_cGrammar_readList_14
set_option maxRecDepth 100000 in
set_option maxHeartbeats 4000000 in
theorem k_cGrammar_accepts {l : Launch} {D : va_G} {B : Nat} {y : Nat → ClassId} {ad : Nat × Nat → Nat} {q : Bool} {r : ZR} (F : Nat) (u : ZC) {res : Int} {uo : ZC} (hf : cGrammar_accepts F u = some (res, uo)) : Met l y_cGrammar_accepts (.code y_cGrammar_accepts b_cGrammar_accepts 1 (some .boolean) :: zt) { frames := 31, cells := 0, slots := 0, locals := 665 } (va_Pc [.ref (ad (0, 2))] (fun U => ZP D B y ad q u r U)) (va_Qi (fun v (_ : Unit) => v = zI res) (fun _ t => ZP D B y ad q uo r t) (fun x => B ≤ x)) 0 0 (fun x => B ≤ x) := by
  refine Met.ofW (cc := b_cGrammar_accepts) (maxL := 1) (ret := (some .boolean)) (by decide) rfl ?_
  intro p e s m args below meth c s₁ Bd hml hv
  obtain ⟨hargs, hB, hW, hK⟩ := hv
  have hx := Bd.exec
  have hb := Bd.bytes
  have hr := Bd.returns
  have hts0 := atoms_spec (ws := .code y_cGrammar_accepts b_cGrammar_accepts 1 (some .boolean) :: zt) Bd.pre
  have hown : s.vm.findClass "TreeShell$Grammar" = some m.cls := findClass_of_methodNamed Bd.named
  have hlocks := Bd.notSynchronized
  have M : ZM p c b_cGrammar_accepts s args m "TreeShell$Grammar" D y := ⟨hx, hb, fun w h => hts0 w (List.mem_cons_of_mem _ h), hown, hK⟩
  have hS : va_S (fun x => B ≤ x) s.heap s.heap [] := va_S.rf
  have hE := lg_entry_eq m ([.ref (ad (0, 2))] : List Value) 1
  rw [← hargs] at hE
  rw [hE]
  have hl := lv_entry ([.ref (ad (0, 2))] : List Value) (n := 1) (Nat.le_of_ble_eq_true rfl)
  generalize (lg_sl ([.ref (ad (0, 2))] : List Value) ++ List.replicate (1 - (lg_sl ([.ref (ad (0, 2))] : List Value)).length) Slot.unset).toArray = ls at hl ⊢
  have hl : lv_has ls 1 [(0, .ref (ad (0, 2)))] := hl
  refine z_start (fun Q R hQ hR => ?_)
  generalize hH : s.heap = H at hW
  have hS : va_S (fun x => B ≤ x) s.heap H [] := by rw [← hH]; exact hS
  rw [cGrammar_accepts] at hf
  refine lv_aload_n hx hb d_cGrammar_accepts_0 rfl (lv_at hl 0 rfl) ?_
  refine zg_Gr_tokens M hW (M.2.2.1 _ w_155) d_cGrammar_accepts_1 ?_
  obtain ⟨p1, u2, g1, hf⟩ := ze2 hf
  refine z_callVi (As := []) (rest := []) (k_cTokens_cutLine F _ g1) M hml (cw_cTokens_cutLine M.2.2.1 (M.2.2.1 _ w_399) (by rw [hR]; exact Nat.le_of_ble_eq_true rfl) (by rw [hR]; exact Nat.le_of_ble_eq_true rfl)) (zv_Tk hK hW) hB hW hS rfl hl.1 rfl (Nat.le_of_ble_eq_true rfl) d_cGrammar_accepts_4 (by rw [hR]; exact ⟨Nat.zero_le _, Nat.zero_le _⟩) (fun H locs hW hS => ?_)
  refine z_if_ne hx hb d_cGrammar_accepts_7 rfl hf (fun hf => ?_) (fun hf => ?_)
  · refine lv_aload_n hx hb d_cGrammar_accepts_12 rfl (lv_at hl 0 rfl) ?_
    refine z_iconst hx hb d_cGrammar_accepts_13 ?_
    refine zp_Gr_next M hW hS (M.2.2.1 _ w_156) d_cGrammar_accepts_14 (fun H locs hW hS => ?_)
    refine lv_aload_n hx hb d_cGrammar_accepts_17 rfl (lv_at hl 0 rfl) ?_
    refine zg_Gr_tokens M hW (M.2.2.1 _ w_155) d_cGrammar_accepts_18 ?_
    refine zg_Tk_count M hW (M.2.2.1 _ w_135) d_cGrammar_accepts_21 ?_
    obtain ⟨x6, u7, g2, hf⟩ := ze2 hf
    have J2 : ∀ (H : Heap) (locs : List Loc) (ls : Array Slot), lv_has ls 1 [] → ZW D B y ad q u7 r H → va_S (fun x => B ≤ x) s.heap H locs → W p l e R s m args below meth c H locs 0 0 Q (F0 m 54 ls [.int (zI x6)]) := by
      intro H locs ls hl hW hS
      obtain ⟨g3, hf⟩ := zg hf
      cases hf
      subst hQ
      exact z_retz hx hb g3 hr hlocks hB hK hW hS d_cGrammar_accepts_54
    refine z_if_eq hx hb d_cGrammar_accepts_24 rfl g2 (fun g2 => ?_) (fun g2 => ?_)
    · refine z_iconst hx hb d_cGrammar_accepts_49 ?_
      refine lv_goto hx hb d_cGrammar_accepts_50 rfl ?_
      cases g2
      exact J2 _ _ _ (lv_sub hl [] rfl) hW hS
    · refine lv_aload_n hx hb d_cGrammar_accepts_27 rfl (lv_at hl 0 rfl) ?_
      refine z_iconst hx hb d_cGrammar_accepts_28 ?_
      obtain ⟨p3, u4, g4, g2⟩ := ze2 g2
      refine z_callVi (As := [.int (zI 0)]) (rest := []) (k_cGrammar_readList F 6 _ _ _ _ g4) M hml (cw_cGrammar_readList M.2.2.1 (M.2.2.1 _ w_415) (by rw [hR]; exact Nat.le_of_ble_eq_true rfl) (by rw [hR]; exact Nat.le_of_ble_eq_true rfl)) (zv_Gr hK hW) hB hW hS rfl hl.1 rfl (Nat.le_of_ble_eq_true rfl) d_cGrammar_accepts_29 (by rw [hR]; exact ⟨Nat.zero_le _, Nat.zero_le _⟩) (fun H locs hW hS => ?_)
      obtain ⟨b5, g5, g2⟩ := ze1 g2
      have JT5 : b5 = true → ∀ (H : Heap) (locs : List Loc), ZW D B y ad q u4 r H → va_S (fun x => B ≤ x) s.heap H locs → W p l e R s m args below meth c H locs 0 0 Q (F0 m 53 ls []) := by
        intro hv H locs hW hS
        have g2 := zp (hv) g2
        refine z_iconst hx hb d_cGrammar_accepts_53 ?_
        cases g2
        exact J2 _ _ _ (lv_sub hl [] rfl) hW hS
      have JF5 : b5 = false → ∀ (H : Heap) (locs : List Loc), ZW D B y ad q u4 r H → va_S (fun x => B ≤ x) s.heap H locs → W p l e R s m args below meth c H locs 0 0 Q (F0 m 49 ls []) := by
        intro hv H locs hW hS
        have g2 := zn (by rw [hv]; decide) g2
        refine z_iconst hx hb d_cGrammar_accepts_49 ?_
        refine lv_goto hx hb d_cGrammar_accepts_50 rfl ?_
        cases g2
        exact J2 _ _ _ (lv_sub hl [] rfl) hW hS
      refine z_if_eq hx hb d_cGrammar_accepts_32 rfl g5 (fun g5 => ?_) (fun g5 => ?_)
      · exact JT5 (Option.some.inj g5).symm _ _ hW hS
      · refine lv_aload_n hx hb d_cGrammar_accepts_35 rfl (lv_at hl 0 rfl) ?_
        refine zg_Gr_next M hW (M.2.2.1 _ w_156) d_cGrammar_accepts_36 ?_
        refine lv_aload_n hx hb d_cGrammar_accepts_39 rfl (lv_at hl 0 rfl) ?_
        refine zg_Gr_tokens M hW (M.2.2.1 _ w_155) d_cGrammar_accepts_40 ?_
        refine zg_Tk_count M hW (M.2.2.1 _ w_135) d_cGrammar_accepts_43 ?_
        refine z_icmp_ne hx hb d_cGrammar_accepts_46 rfl g5 (fun g5 => ?_) (fun g5 => ?_)
        · exact JT5 (Option.some.inj g5).symm _ _ hW hS
        · exact JF5 (Option.some.inj g5).symm _ _ hW hS
  · refine z_iconst hx hb d_cGrammar_accepts_10 ?_
    cases hf
    subst hQ
    exact z_retz hx hb (Or.inl rfl) hr hlocks hB hK hW hS d_cGrammar_accepts_11
