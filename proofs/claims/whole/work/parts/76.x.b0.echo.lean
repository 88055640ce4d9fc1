set_option maxRecDepth 100000 in
set_option maxHeartbeats 4000000 in
theorem k_cTools_echo {l : Launch} {D : va_G} {B : Nat} {y : Nat → ClassId} {ad : Nat × Nat → Nat} {q : Bool} {r : ZR} {sa sv : Nat → Nat} (F : Nat) (u : ZC) (v1 : Nat) {res : Int} {uo : ZC} (hf : cTools_echo F u v1 = some (res, uo)) : Met l y_cTools_echo (.code y_cTools_echo b_cTools_echo 5 (some .int) :: zt) { frames := 6, cells := 0, slots := 0, locals := 169 } (va_Pc [.ref (ad (0, 6)), .ref (ad (1, v1))] (fun U => ZP D B y ad q u r U ∧ zX B sa sv U)) (va_Qi (fun v (_ : Unit) => v = zI res) (fun _ t => ZP D B y ad q uo r t) (fun x => B ≤ x)) 0 0 (fun x => B ≤ x) := by
  refine Met.ofW (cc := b_cTools_echo) (maxL := 5) (ret := (some .int)) (by decide) rfl ?_
  intro p e s m args below meth c s₁ Bd hml hv
  obtain ⟨hargs, ⟨hB, hW, hK⟩, hX⟩ := hv
  have hx := Bd.exec
  have hb := Bd.bytes
  have hr := Bd.returns
  have hts0 := atoms_spec (ws := .code y_cTools_echo b_cTools_echo 5 (some .int) :: zt) Bd.pre
  have hown : s.vm.findClass "TreeShell$Tools" = some m.cls := findClass_of_methodNamed Bd.named
  have hlocks := Bd.notSynchronized
  have M : ZM p c b_cTools_echo s args m "TreeShell$Tools" D y := ⟨hx, hb, fun w h => hts0 w (List.mem_cons_of_mem _ h), hown, hK⟩
  have hS : va_S (fun x => B ≤ x) s.heap s.heap [] := va_S.rf
  have hE := lg_entry_eq m ([.ref (ad (0, 6)), .ref (ad (1, v1))] : List Value) 5
  rw [← hargs] at hE
  rw [hE]
  have hl := lv_entry ([.ref (ad (0, 6)), .ref (ad (1, v1))] : List Value) (n := 5) (Nat.le_of_ble_eq_true rfl)
  generalize (lg_sl ([.ref (ad (0, 6)), .ref (ad (1, v1))] : List Value) ++ List.replicate (5 - (lg_sl ([.ref (ad (0, 6)), .ref (ad (1, v1))] : List Value)).length) Slot.unset).toArray = ls at hl ⊢
  have hl : lv_has ls 5 [(0, .ref (ad (0, 6))), (1, .ref (ad (1, v1)))] := hl
  refine z_start (fun Q R hQ hR => ?_)
  generalize hH : s.heap = H at hW
  have hS : va_S (fun x => B ≤ x) s.heap H [] := by rw [← hH]; exact hS
  have C_24 : ∀ (n : Nat), ∀ (u : ZC) (v1 : Nat) (v2 : Int) (v3 : Int) (v4 : Int) (H : Heap) (locs : List Loc) (ls : Array Slot), cTools_echo_24 F n u v1 v2 v3 v4 = some (res, uo) → lv_has ls 5 [(0, .ref (ad (0, 6))), (1, .ref (ad (1, v1))), (2, .int (zI v2)), (3, .int (zI v3)), (4, .int (zI v4))] → ZW D B y ad q u r H → va_S (fun x => B ≤ x) s.heap H locs → W p l e R s m args below meth c H locs 0 0 Q (F0 m 24 ls []) := by
    intro n
    induction n with
    | zero => intro u v1 v2 v3 v4 H locs ls hf; cases (show (none : Option (Int × ZC)) = some (res, uo) from hf)
    | succ n ih =>
      intro u v1 v2 v3 v4 H locs ls hf hl hW hS
      rw [cTools_echo_24] at hf
      refine lv_iload hx hb d_cTools_echo_24 (lv_at hl 4 rfl) ?_
      refine lv_aload_n hx hb d_cTools_echo_26 rfl (lv_at hl 0 rfl) ?_
      refine zg_To_words M hW (M.2.2.1 _ w_283) d_cTools_echo_27 ?_
      refine zg_Wo_count M hW (M.2.2.1 _ w_267) d_cTools_echo_30 ?_
      refine z_icmp_ge hx hb d_cTools_echo_33 rfl hf (fun hf => ?_) (fun hf => ?_)
      · refine lv_iload_n hx hb d_cTools_echo_84 rfl (lv_at hl 2 rfl) ?_
        obtain ⟨u4, g1, hf⟩ := ze1 hf
        have J1 : ∀ (H : Heap) (locs : List Loc) (ls : Array Slot), lv_has ls 5 [] → ZW D B y ad q u4 r H → va_S (fun x => B ≤ x) s.heap H locs → W p l e R s m args below meth c H locs 0 0 Q (F0 m 94 ls []) := by
          intro H locs ls hl hW hS
          refine z_iconst hx hb d_cTools_echo_94 ?_
          cases hf
          subst hQ
          exact z_reti hx hb hr hlocks hB hK hW hS d_cTools_echo_95
        refine z_if_ne hx hb d_cTools_echo_85 rfl g1 (fun g1 => ?_) (fun g1 => ?_)
        · cases g1
          exact J1 _ _ _ (lv_sub hl [] rfl) hW hS
        · refine lv_aload_n hx hb d_cTools_echo_88 rfl (lv_at hl 1 rfl) ?_
          refine z_bipush hx hb d_cTools_echo_89 rfl ?_
          obtain ⟨g2, g1⟩ := zg g1
          obtain ⟨u3, g3, g1⟩ := ze1 g1
          refine z_callVv (As := [.int (zI 10)]) (rest := []) (k_cText_add F _ _ _ g3) M hml (cw_cText_add M.2.2.1 (M.2.2.1 _ w_627) (by rw [hR]; exact Nat.le_of_ble_eq_true rfl) (by rw [hR]; exact Nat.le_of_ble_eq_true rfl)) (zv_Tx hK hW (zid_T g2)) hB hW hS rfl hl.1 rfl (Nat.le_of_ble_eq_true rfl) d_cTools_echo_91 (by rw [hR]; exact ⟨Nat.zero_le _, Nat.zero_le _⟩) (fun H locs hW hS => ?_)
          cases g1
          exact J1 _ _ _ (lv_sub hl [] rfl) hW hS
      · refine lv_iload hx hb d_cTools_echo_36 (lv_at hl 4 rfl) ?_
        refine lv_iload_n hx hb d_cTools_echo_38 rfl (lv_at hl 3 rfl) ?_
        obtain ⟨u6, g4, hf⟩ := ze1 hf
        have J4 : ∀ (H : Heap) (locs : List Loc) (ls : Array Slot), lv_has ls 5 [(0, .ref (ad (0, 6))), (1, .ref (ad (1, v1))), (2, .int (zI v2)), (3, .int (zI v3)), (4, .int (zI v4))] → ZW D B y ad q u6 r H → va_S (fun x => B ≤ x) s.heap H locs → W p l e R s m args below meth c H locs 0 0 Q (F0 m 48 ls []) := by
          intro H locs ls hl hW hS
          refine lv_aload_n hx hb d_cTools_echo_48 rfl (lv_at hl 1 rfl) ?_
          refine lv_aload_n hx hb d_cTools_echo_49 rfl (lv_at hl 0 rfl) ?_
          refine zg_To_words M hW (M.2.2.1 _ w_283) d_cTools_echo_50 ?_
          refine zg_Wo_joined M hW (M.2.2.1 _ w_264) d_cTools_echo_53 ?_
          refine lv_aload_n hx hb d_cTools_echo_56 rfl (lv_at hl 0 rfl) ?_
          refine zg_To_words M hW (M.2.2.1 _ w_283) d_cTools_echo_57 ?_
          refine lv_iload hx hb d_cTools_echo_60 (lv_at hl 4 rfl) ?_
          obtain ⟨p7, g5, hf⟩ := ze1 hf
          refine z_callVi (As := [.int (zI v4)]) (rest := [.ref (ad (1, 1)), .ref (ad (1, v1))]) (k_cWords_startOf F _ _ g5) M hml (cw_cWords_startOf M.2.2.1 (M.2.2.1 _ w_628) (by rw [hR]; exact Nat.le_of_ble_eq_true rfl) (by rw [hR]; exact Nat.le_of_ble_eq_true rfl)) (zv_Wo hK hW) hB hW hS rfl hl.1 rfl (Nat.le_of_ble_eq_true rfl) d_cTools_echo_62 (by rw [hR]; exact ⟨Nat.zero_le _, Nat.zero_le _⟩) (fun H locs hW hS => ?_)
          refine lv_aload_n hx hb d_cTools_echo_65 rfl (lv_at hl 0 rfl) ?_
          refine zg_To_words M hW (M.2.2.1 _ w_283) d_cTools_echo_66 ?_
          refine lv_iload hx hb d_cTools_echo_69 (lv_at hl 4 rfl) ?_
          obtain ⟨p8, g6, hf⟩ := ze1 hf
          refine z_callVi (As := [.int (zI v4)]) (rest := [.int (zI p7), .ref (ad (1, 1)), .ref (ad (1, v1))]) (k_cWords_endOf F _ _ g6) M hml (cw_cWords_endOf M.2.2.1 (M.2.2.1 _ w_629) (by rw [hR]; exact Nat.le_of_ble_eq_true rfl) (by rw [hR]; exact Nat.le_of_ble_eq_true rfl)) (zv_Wo hK hW) hB hW hS rfl hl.1 rfl (Nat.le_of_ble_eq_true rfl) d_cTools_echo_71 (by rw [hR]; exact ⟨Nat.zero_le _, Nat.zero_le _⟩) (fun H locs hW hS => ?_)
          obtain ⟨g7, hf⟩ := zg hf
          obtain ⟨p9, u10, g8, hf⟩ := ze2 hf
          refine z_callVi (As := [.ref (ad (1, 1)), .int (zI p7), .int (zI p8)]) (rest := []) (k_cText_addPiece F _ _ _ _ _ g8) M hml (cw_cText_addPiece M.2.2.1 (M.2.2.1 _ w_630) (by rw [hR]; exact Nat.le_of_ble_eq_true rfl) (by rw [hR]; exact Nat.le_of_ble_eq_true rfl)) (zv_Tx hK hW (zid_T g7)) hB hW hS rfl hl.1 rfl (Nat.le_of_ble_eq_true rfl) d_cTools_echo_74 (by rw [hR]; exact ⟨Nat.zero_le _, Nat.zero_le _⟩) (fun H locs hW hS => ?_)
          refine lv_pop hx hb d_cTools_echo_77 rfl ?_
          refine lv_iinc (k := 4) (v := zI (v4 + 1)) (lv' := [(4, .int (zI (v4 + 1))), (0, .ref (ad (0, 6))), (1, .ref (ad (1, v1))), (2, .int (zI v2)), (3, .int (zI v3))]) hx hb d_cTools_echo_78 hl rfl (zI_add _ _) (by decide) rfl (fun ls hl => ?_)
          refine lv_goto hx hb d_cTools_echo_81 rfl ?_
          exact ih _ _ _ _ _ _ _ _ hf (lv_sub hl [1, 2, 3, 4, 0] rfl) hW hS
        refine z_icmp_le hx hb d_cTools_echo_39 rfl g4 (fun g4 => ?_) (fun g4 => ?_)
        · cases g4
          exact J4 _ _ _ (lv_sub hl [0, 1, 2, 3, 4] rfl) hW hS
        · refine lv_aload_n hx hb d_cTools_echo_42 rfl (lv_at hl 1 rfl) ?_
          refine z_bipush hx hb d_cTools_echo_43 rfl ?_
          obtain ⟨g9, g4⟩ := zg g4
          obtain ⟨u5, g10, g4⟩ := ze1 g4
          refine z_callVv (As := [.int (zI 32)]) (rest := []) (k_cText_add F _ _ _ g10) M hml (cw_cText_add M.2.2.1 (M.2.2.1 _ w_627) (by rw [hR]; exact Nat.le_of_ble_eq_true rfl) (by rw [hR]; exact Nat.le_of_ble_eq_true rfl)) (zv_Tx hK hW (zid_T g9)) hB hW hS rfl hl.1 rfl (Nat.le_of_ble_eq_true rfl) d_cTools_echo_45 (by rw [hR]; exact ⟨Nat.zero_le _, Nat.zero_le _⟩) (fun H locs hW hS => ?_)
          cases g4
          exact J4 _ _ _ (lv_sub hl [0, 1, 2, 3, 4] rfl) hW hS
  rw [cTools_echo] at hf
  refine lv_aload_n hx hb d_cTools_echo_0 rfl (lv_at hl 0 rfl) ?_
  refine zg_To_words M hW (M.2.2.1 _ w_283) d_cTools_echo_1 ?_
  refine z_iconst hx hb d_cTools_echo_4 ?_
  refine va_ldcS hx hb hown hX.2.1.1 d_cTools_echo_5 ?_
  obtain ⟨p1, g11, hf⟩ := ze1 hf
  refine z_callVi (As := [.int (zI 1), .ref (sa 0)]) (rest := []) (k_cWords_has F _ _ _ (by decide) g11) M hml (cw_cWords_has M.2.2.1 (M.2.2.1 _ w_568) (by rw [hR]; exact Nat.le_of_ble_eq_true rfl) (by rw [hR]; exact Nat.le_of_ble_eq_true rfl)) (zv_Wo hK hW) hB hW hS rfl hl.1 rfl (Nat.le_of_ble_eq_true rfl) d_cTools_echo_7 (by rw [hR]; exact ⟨Nat.zero_le _, Nat.zero_le _⟩) (fun H locs hW hS => ?_)
  refine lv_istore_n (lv' := [(2, .int (zI p1)), (0, .ref (ad (0, 6))), (1, .ref (ad (1, v1)))]) hx hb d_cTools_echo_10 rfl hl (by decide) rfl (fun ls hl => ?_)
  refine lv_iload_n hx hb d_cTools_echo_11 rfl (lv_at hl 0 rfl) ?_
  obtain ⟨x2, g12, hf⟩ := ze1 hf
  have J12 : ∀ (H : Heap) (locs : List Loc) (ls : Array Slot), lv_has ls 5 [(0, .ref (ad (0, 6))), (1, .ref (ad (1, v1))), (2, .int (zI p1))] → ZW D B y ad q u r H → va_S (fun x => B ≤ x) s.heap H locs → W p l e R s m args below meth c H locs 0 0 Q (F0 m 20 ls [.int (zI x2)]) := by
    intro H locs ls hl hW hS
    refine lv_istore_n (lv' := [(3, .int (zI x2)), (0, .ref (ad (0, 6))), (1, .ref (ad (1, v1))), (2, .int (zI p1))]) hx hb d_cTools_echo_20 rfl hl (by decide) rfl (fun ls hl => ?_)
    refine lv_iload_n hx hb d_cTools_echo_21 rfl (lv_at hl 0 rfl) ?_
    refine lv_istore (lv' := [(4, .int (zI x2)), (3, .int (zI x2)), (0, .ref (ad (0, 6))), (1, .ref (ad (1, v1))), (2, .int (zI p1))]) hx hb d_cTools_echo_22 hl (by decide) rfl (fun ls hl => ?_)
    exact C_24 F _ _ _ _ _ _ _ _ hf (lv_sub hl [2, 3, 4, 1, 0] rfl) hW hS
  refine z_if_eq hx hb d_cTools_echo_12 rfl g12 (fun g12 => ?_) (fun g12 => ?_)
  · refine z_iconst hx hb d_cTools_echo_19 ?_
    cases g12
    exact J12 _ _ _ (lv_sub hl [1, 2, 0] rfl) hW hS
  · refine z_iconst hx hb d_cTools_echo_15 ?_
    refine lv_goto hx hb d_cTools_echo_16 rfl ?_
    cases g12
    exact J12 _ _ _ (lv_sub hl [1, 2, 0] rfl) hW hS
