set_option maxRecDepth 100000 in
set_option maxHeartbeats 4000000 in
theorem k_cTools_run {l : Launch} {D : va_G} {B : Nat} {y : Nat → ClassId} {ad : Nat × Nat → Nat} {q : Bool} {r : ZR} {sa sv : Nat → Nat} (F : Nat) (u : ZC) (v1 : Nat) (v2 : Nat) {res : Int} {uo : ZC} (hf : cTools_run F u v1 v2 = some (res, uo)) : Met l y_cTools_run (.code y_cTools_run b_cTools_run 3 (some .int) :: zt) { frames := 8, cells := (cL uo).length - (cL u).length, slots := 160 * ((cL uo).length - (cL u).length), locals := 214 } (va_Pc [.ref (ad (0, 6)), .ref (ad (1, v1)), .ref (ad (1, v2))] (fun U => ZP D B y ad q u r U ∧ zX B sa sv U)) (va_Qi (fun v (ad2 : Nat × Nat → Nat) => v = zI res ∧ ∀ j, j ∈ zid q u → ad2 j = ad j) (fun ad2 t => ZP D B y ad2 q uo r t) (fun x => B ≤ x)) ((cL uo).length - (cL u).length) (160 * ((cL uo).length - (cL u).length)) (fun x => B ≤ x) := by
  refine Met.ofW (cc := b_cTools_run) (maxL := 3) (ret := (some .int)) (by decide) rfl ?_
  intro p e s m args below meth c s₁ Bd hml hv
  obtain ⟨hargs, ⟨hB, hW, hK⟩, hX⟩ := hv
  have hx := Bd.exec
  have hb := Bd.bytes
  have hr := Bd.returns
  have hts0 := atoms_spec (ws := .code y_cTools_run b_cTools_run 3 (some .int) :: zt) Bd.pre
  have hown : s.vm.findClass "TreeShell$Tools" = some m.cls := findClass_of_methodNamed Bd.named
  have hlocks := Bd.notSynchronized
  have M : ZM p c b_cTools_run s args m "TreeShell$Tools" D y := ⟨hx, hb, fun w h => hts0 w (List.mem_cons_of_mem _ h), hown, hK⟩
  have hS : va_S (fun x => B ≤ x) s.heap s.heap [] := va_S.rf
  have hE := lg_entry_eq m ([.ref (ad (0, 6)), .ref (ad (1, v1)), .ref (ad (1, v2))] : List Value) 3
  rw [← hargs] at hE
  rw [hE]
  have hl := lv_entry ([.ref (ad (0, 6)), .ref (ad (1, v1)), .ref (ad (1, v2))] : List Value) (n := 3) (Nat.le_of_ble_eq_true rfl)
  generalize (lg_sl ([.ref (ad (0, 6)), .ref (ad (1, v1)), .ref (ad (1, v2))] : List Value) ++ List.replicate (3 - (lg_sl ([.ref (ad (0, 6)), .ref (ad (1, v1)), .ref (ad (1, v2))] : List Value)).length) Slot.unset).toArray = ls at hl ⊢
  have hl : lv_has ls 3 [(0, .ref (ad (0, 6))), (1, .ref (ad (1, v1))), (2, .ref (ad (1, v2)))] := hl
  refine z_startM (fun Q R L0 ad0 cs ss hQ hR hL0 hM => ?_)
  have hRc : R.cells = (cL uo).length - L0.length ∧ R.slots = 160 * ((cL uo).length - L0.length) := by rw [hR, hL0]; exact ⟨rfl, rfl⟩
  generalize hH : s.heap = H at hW
  have hS : va_S (fun x => B ≤ x) s.heap H [] := by rw [← hH]; exact hS
  rw [cTools_run] at hf
  refine lv_aload_n hx hb d_cTools_run_0 rfl (lv_at hl 0 rfl) ?_
  refine zg_To_words M hW (M.2.2.1 _ w_283) d_cTools_run_1 ?_
  refine z_iconst hx hb d_cTools_run_4 ?_
  refine va_ldcS hx hb hown hX.2.1.2.2.1 d_cTools_run_5 ?_
  obtain ⟨p1, g1, hf⟩ := ze1 hf
  refine z_callXVi (As := [.int (zI 0), .ref (sa 2)]) (rest := []) (k_cWords_has F _ _ _ (by decide) g1) M hX hml (cw_cWords_has M.2.2.1 (M.2.2.1 _ w_568) (by rw [hR]; exact Nat.le_of_ble_eq_true rfl) (by rw [hR]; exact Nat.le_of_ble_eq_true rfl)) (zv_Wo hK hW) hB hW hS rfl hl.1 rfl (Nat.le_of_ble_eq_true rfl) d_cTools_run_7 (zmk_room hM) (fun H locs hW hS => ?_)
  refine z_if_eq hx hb d_cTools_run_10 rfl hf (fun hf => ?_) (fun hf => ?_)
  · refine lv_aload_n hx hb d_cTools_run_19 rfl (lv_at hl 0 rfl) ?_
    refine zg_To_words M hW (M.2.2.1 _ w_283) d_cTools_run_20 ?_
    refine z_iconst hx hb d_cTools_run_23 ?_
    refine va_ldcS hx hb hown hX.2.1.2.2.2.1 d_cTools_run_24 ?_
    obtain ⟨p2, g2, hf⟩ := ze1 hf
    refine z_callXVi (As := [.int (zI 0), .ref (sa 3)]) (rest := []) (k_cWords_has F _ _ _ (by decide) g2) M hX hml (cw_cWords_has M.2.2.1 (M.2.2.1 _ w_568) (by rw [hR]; exact Nat.le_of_ble_eq_true rfl) (by rw [hR]; exact Nat.le_of_ble_eq_true rfl)) (zv_Wo hK hW) hB hW hS rfl hl.1 rfl (Nat.le_of_ble_eq_true rfl) d_cTools_run_26 (zmk_room hM) (fun H locs hW hS => ?_)
    refine z_if_eq hx hb d_cTools_run_29 rfl hf (fun hf => ?_) (fun hf => ?_)
    · refine lv_aload_n hx hb d_cTools_run_39 rfl (lv_at hl 0 rfl) ?_
      refine zg_To_words M hW (M.2.2.1 _ w_283) d_cTools_run_40 ?_
      refine z_iconst hx hb d_cTools_run_43 ?_
      refine va_ldcS hx hb hown hX.2.1.2.2.2.2.1 d_cTools_run_44 ?_
      obtain ⟨p3, g3, hf⟩ := ze1 hf
      refine z_callXVi (As := [.int (zI 0), .ref (sa 4)]) (rest := []) (k_cWords_has F _ _ _ (by decide) g3) M hX hml (cw_cWords_has M.2.2.1 (M.2.2.1 _ w_568) (by rw [hR]; exact Nat.le_of_ble_eq_true rfl) (by rw [hR]; exact Nat.le_of_ble_eq_true rfl)) (zv_Wo hK hW) hB hW hS rfl hl.1 rfl (Nat.le_of_ble_eq_true rfl) d_cTools_run_46 (zmk_room hM) (fun H locs hW hS => ?_)
      refine z_if_eq hx hb d_cTools_run_49 rfl hf (fun hf => ?_) (fun hf => ?_)
      · refine lv_aload_n hx hb d_cTools_run_59 rfl (lv_at hl 0 rfl) ?_
        refine zg_To_words M hW (M.2.2.1 _ w_283) d_cTools_run_60 ?_
        refine z_iconst hx hb d_cTools_run_63 ?_
        refine va_ldcS hx hb hown hX.2.1.2.2.2.2.2.1 d_cTools_run_64 ?_
        obtain ⟨p4, g4, hf⟩ := ze1 hf
        refine z_callXVi (As := [.int (zI 0), .ref (sa 5)]) (rest := []) (k_cWords_has F _ _ _ (by decide) g4) M hX hml (cw_cWords_has M.2.2.1 (M.2.2.1 _ w_568) (by rw [hR]; exact Nat.le_of_ble_eq_true rfl) (by rw [hR]; exact Nat.le_of_ble_eq_true rfl)) (zv_Wo hK hW) hB hW hS rfl hl.1 rfl (Nat.le_of_ble_eq_true rfl) d_cTools_run_66 (zmk_room hM) (fun H locs hW hS => ?_)
        refine z_if_eq hx hb d_cTools_run_69 rfl hf (fun hf => ?_) (fun hf => ?_)
        · refine lv_aload_n hx hb d_cTools_run_79 rfl (lv_at hl 0 rfl) ?_
          refine zg_To_words M hW (M.2.2.1 _ w_283) d_cTools_run_80 ?_
          refine z_iconst hx hb d_cTools_run_83 ?_
          refine va_ldcS hx hb hown hX.2.1.2.2.2.2.2.2.1 d_cTools_run_84 ?_
          obtain ⟨p5, g5, hf⟩ := ze1 hf
          refine z_callXVi (As := [.int (zI 0), .ref (sa 6)]) (rest := []) (k_cWords_has F _ _ _ (by decide) g5) M hX hml (cw_cWords_has M.2.2.1 (M.2.2.1 _ w_568) (by rw [hR]; exact Nat.le_of_ble_eq_true rfl) (by rw [hR]; exact Nat.le_of_ble_eq_true rfl)) (zv_Wo hK hW) hB hW hS rfl hl.1 rfl (Nat.le_of_ble_eq_true rfl) d_cTools_run_86 (zmk_room hM) (fun H locs hW hS => ?_)
          refine z_if_eq hx hb d_cTools_run_89 rfl hf (fun hf => ?_) (fun hf => ?_)
          · refine lv_aload_n hx hb d_cTools_run_98 rfl (lv_at hl 0 rfl) ?_
            refine zg_To_words M hW (M.2.2.1 _ w_283) d_cTools_run_99 ?_
            refine z_iconst hx hb d_cTools_run_102 ?_
            refine va_ldcS hx hb hown hX.2.1.2.2.2.2.2.2.2.1 d_cTools_run_103 ?_
            obtain ⟨p6, g6, hf⟩ := ze1 hf
            refine z_callXVi (As := [.int (zI 0), .ref (sa 7)]) (rest := []) (k_cWords_has F _ _ _ (by decide) g6) M hX hml (cw_cWords_has M.2.2.1 (M.2.2.1 _ w_568) (by rw [hR]; exact Nat.le_of_ble_eq_true rfl) (by rw [hR]; exact Nat.le_of_ble_eq_true rfl)) (zv_Wo hK hW) hB hW hS rfl hl.1 rfl (Nat.le_of_ble_eq_true rfl) d_cTools_run_105 (zmk_room hM) (fun H locs hW hS => ?_)
            refine z_if_eq hx hb d_cTools_run_108 rfl hf (fun hf => ?_) (fun hf => ?_)
            · refine lv_aload_n hx hb d_cTools_run_116 rfl (lv_at hl 0 rfl) ?_
              refine zg_To_words M hW (M.2.2.1 _ w_283) d_cTools_run_117 ?_
              refine z_iconst hx hb d_cTools_run_120 ?_
              refine va_ldcS hx hb hown hX.2.1.2.2.2.2.2.2.2.2 d_cTools_run_121 ?_
              obtain ⟨p7, g7, hf⟩ := ze1 hf
              refine z_callXVi (As := [.int (zI 0), .ref (sa 8)]) (rest := []) (k_cWords_has F _ _ _ (by decide) g7) M hX hml (cw_cWords_has M.2.2.1 (M.2.2.1 _ w_568) (by rw [hR]; exact Nat.le_of_ble_eq_true rfl) (by rw [hR]; exact Nat.le_of_ble_eq_true rfl)) (zv_Wo hK hW) hB hW hS rfl hl.1 rfl (Nat.le_of_ble_eq_true rfl) d_cTools_run_123 (zmk_room hM) (fun H locs hW hS => ?_)
              obtain ⟨x10, u11, g8, hf⟩ := ze2 hf
              have J8 : ∀ (ad : Nat × Nat → Nat) (H : Heap) (locs : List Loc) (ls : Array Slot) (cs ss : Nat), lv_has ls 3 [] → ZW D B y ad q u11 r H → va_S (fun x => B ≤ x) s.heap H locs → zmk q R L0 ad0 (cL u11) ad cs ss → W p l e R s m args below meth c H locs cs ss Q (F0 m 138 ls [.int (zI x10)]) := by
                intro ad H locs ls cs ss hl hW hS hM
                cases hf
                subst hQ
                exact z_retiM hx hb hr hlocks hB hK hW hS hM d_cTools_run_138
              refine z_if_eq hx hb d_cTools_run_126 rfl g8 (fun g8 => ?_) (fun g8 => ?_)
              · refine z_bipush hx hb d_cTools_run_136 rfl ?_
                cases g8
                exact J8 _ _ _ _ _ _ (lv_sub hl [] rfl) hW hS hM
              · refine lv_aload_n hx hb d_cTools_run_129 rfl (lv_at hl 0 rfl) ?_
                obtain ⟨p8, u9, g9, g8⟩ := ze2 g8
                refine z_callVi (As := []) (rest := []) (k_cTools_cd F _ g9) M hml (cw_cTools_cd M.2.2.1 (M.2.2.1 _ w_681) (by rw [hR]; exact Nat.le_of_ble_eq_true rfl) (by rw [hR]; exact Nat.le_of_ble_eq_true rfl)) (zv_To hK hW) hB hW hS rfl hl.1 rfl (Nat.le_of_ble_eq_true rfl) d_cTools_run_130 (zmk_room hM) (fun H locs hW hS => ?_)
                have hM : zmk q R L0 ad0 (cL u9) ad cs ss := zmk_q (l_cTools_cd F _ g9) hM
                refine lv_goto hx hb d_cTools_run_133 rfl ?_
                cases g8
                exact J8 _ _ _ _ _ _ (lv_sub hl [] rfl) hW hS hM
            · refine lv_aload_n hx hb d_cTools_run_111 rfl (lv_at hl 0 rfl) ?_
              obtain ⟨p12, u13, g10, hf⟩ := ze2 hf
              have g11 : zgr u u13 := l_cTools_mkdir F _ g10
              have g12 : zgr u13 uo := by
                exact zgr_f (zgr_rf u13) (congrArg Prod.snd (Option.some.inj hf)).symm rfl
              refine z_callMVi (As := []) (rest := []) (k_cTools_mkdir F _ g10) M hX hml (cw_cTools_mkdir M.2.2.1 (M.2.2.1 _ w_675) (by rw [hR]; exact Nat.le_of_ble_eq_true rfl) (by rw [hR]; exact Nat.le_of_ble_eq_true rfl)) (zv_To hK hW) hB hW hS rfl hl.1 rfl (Nat.le_of_ble_eq_true rfl) d_cTools_run_112 hM g11 g12 hRc (fun ad cs ss H locs hag hM hW hS => ?_)
              have hl : lv_has ls 3 [] := by
                exact lv_sub hl [] rfl
              cases hf
              subst hQ
              exact z_retiM hx hb hr hlocks hB hK hW hS hM d_cTools_run_115
          · refine lv_aload_n hx hb d_cTools_run_92 rfl (lv_at hl 0 rfl) ?_
            refine lv_aload_n hx hb d_cTools_run_93 rfl (lv_at hl 2 rfl) ?_
            obtain ⟨p14, u15, g13, hf⟩ := ze2 hf
            refine z_callVi (As := [.ref (ad (1, v2))]) (rest := []) (k_cTools_ls F _ _ g13) M hml (cw_cTools_ls M.2.2.1 (M.2.2.1 _ w_665) (by rw [hR]; exact Nat.le_of_ble_eq_true rfl) (by rw [hR]; exact Nat.le_of_ble_eq_true rfl)) (zv_To hK hW) hB hW hS rfl hl.1 rfl (Nat.le_of_ble_eq_true rfl) d_cTools_run_94 (zmk_room hM) (fun H locs hW hS => ?_)
            have hM : zmk q R L0 ad0 (cL u15) ad cs ss := zmk_q (l_cTools_ls F _ _ g13) hM
            cases hf
            subst hQ
            exact z_retiM hx hb hr hlocks hB hK hW hS hM d_cTools_run_97
        · refine lv_aload_n hx hb d_cTools_run_72 rfl (lv_at hl 0 rfl) ?_
          refine lv_aload_n hx hb d_cTools_run_73 rfl (lv_at hl 1 rfl) ?_
          refine lv_aload_n hx hb d_cTools_run_74 rfl (lv_at hl 2 rfl) ?_
          obtain ⟨p16, u17, g14, hf⟩ := ze2 hf
          refine z_callXVi (As := [.ref (ad (1, v1)), .ref (ad (1, v2))]) (rest := []) (k_cTools_grep F _ _ _ g14) M hX hml (cw_cTools_grep M.2.2.1 (M.2.2.1 _ w_649) (by rw [hR]; exact Nat.le_of_ble_eq_true rfl) (by rw [hR]; exact Nat.le_of_ble_eq_true rfl)) (zv_To hK hW) hB hW hS rfl hl.1 rfl (Nat.le_of_ble_eq_true rfl) d_cTools_run_75 (zmk_room hM) (fun H locs hW hS => ?_)
          have hM : zmk q R L0 ad0 (cL u17) ad cs ss := zmk_q (l_cTools_grep F _ _ _ g14) hM
          cases hf
          subst hQ
          exact z_retiM hx hb hr hlocks hB hK hW hS hM d_cTools_run_78
      · refine lv_aload_n hx hb d_cTools_run_52 rfl (lv_at hl 0 rfl) ?_
        refine lv_aload_n hx hb d_cTools_run_53 rfl (lv_at hl 1 rfl) ?_
        refine lv_aload_n hx hb d_cTools_run_54 rfl (lv_at hl 2 rfl) ?_
        obtain ⟨p18, u19, g15, hf⟩ := ze2 hf
        refine z_callVi (As := [.ref (ad (1, v1)), .ref (ad (1, v2))]) (rest := []) (k_cTools_wc F _ _ _ g15) M hml (cw_cTools_wc M.2.2.1 (M.2.2.1 _ w_643) (by rw [hR]; exact Nat.le_of_ble_eq_true rfl) (by rw [hR]; exact Nat.le_of_ble_eq_true rfl)) (zv_To hK hW) hB hW hS rfl hl.1 rfl (Nat.le_of_ble_eq_true rfl) d_cTools_run_55 (zmk_room hM) (fun H locs hW hS => ?_)
        have hM : zmk q R L0 ad0 (cL u19) ad cs ss := zmk_q (l_cTools_wc F _ _ _ g15) hM
        cases hf
        subst hQ
        exact z_retiM hx hb hr hlocks hB hK hW hS hM d_cTools_run_58
    · refine lv_aload_n hx hb d_cTools_run_32 rfl (lv_at hl 0 rfl) ?_
      refine lv_aload_n hx hb d_cTools_run_33 rfl (lv_at hl 1 rfl) ?_
      refine lv_aload_n hx hb d_cTools_run_34 rfl (lv_at hl 2 rfl) ?_
      obtain ⟨p20, u21, g16, hf⟩ := ze2 hf
      refine z_callVi (As := [.ref (ad (1, v1)), .ref (ad (1, v2))]) (rest := []) (k_cTools_cat F _ _ _ g16) M hml (cw_cTools_cat M.2.2.1 (M.2.2.1 _ w_632) (by rw [hR]; exact Nat.le_of_ble_eq_true rfl) (by rw [hR]; exact Nat.le_of_ble_eq_true rfl)) (zv_To hK hW) hB hW hS rfl hl.1 rfl (Nat.le_of_ble_eq_true rfl) d_cTools_run_35 (zmk_room hM) (fun H locs hW hS => ?_)
      have hM : zmk q R L0 ad0 (cL u21) ad cs ss := zmk_q (l_cTools_cat F _ _ _ g16) hM
      cases hf
      subst hQ
      exact z_retiM hx hb hr hlocks hB hK hW hS hM d_cTools_run_38
  · refine lv_aload_n hx hb d_cTools_run_13 rfl (lv_at hl 0 rfl) ?_
    refine lv_aload_n hx hb d_cTools_run_14 rfl (lv_at hl 2 rfl) ?_
    obtain ⟨p22, u23, g17, hf⟩ := ze2 hf
    refine z_callXVi (As := [.ref (ad (1, v2))]) (rest := []) (k_cTools_echo F _ _ g17) M hX hml (cw_cTools_echo M.2.2.1 (M.2.2.1 _ w_622) (by rw [hR]; exact Nat.le_of_ble_eq_true rfl) (by rw [hR]; exact Nat.le_of_ble_eq_true rfl)) (zv_To hK hW) hB hW hS rfl hl.1 rfl (Nat.le_of_ble_eq_true rfl) d_cTools_run_15 (zmk_room hM) (fun H locs hW hS => ?_)
    have hM : zmk q R L0 ad0 (cL u23) ad cs ss := zmk_q (l_cTools_echo F _ _ g17) hM
    cases hf
    subst hQ
    exact z_retiM hx hb hr hlocks hB hK hW hS hM d_cTools_run_18
