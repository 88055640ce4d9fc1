set_option maxRecDepth 100000 in
set_option maxHeartbeats 4000000 in
theorem k_cShell_enter {l : Launch} {D : va_G} {B : Nat} {y : Nat → ClassId} {ad : Nat × Nat → Nat} {q : Bool} {r : ZR} {sa sv : Nat → Nat} (F : Nat) (u : ZC) {res : Int} {uo : ZC} (hf : cShell_enter F u = some (res, uo)) : Met l y_cShell_enter (.code y_cShell_enter b_cShell_enter 2 (some .int) :: zt) { frames := 67, cells := (cL uo).length - (cL u).length, slots := 160 * ((cL uo).length - (cL u).length), locals := 1833 } (va_Pc [.ref (ad (0, 0))] (fun U => ZP D B y ad q u r U ∧ zX B sa sv U)) (va_Qi (fun v (ad2 : Nat × Nat → Nat) => v = zI res ∧ ∀ j, j ∈ zid q u → ad2 j = ad j) (fun ad2 t => ZP D B y ad2 q uo r t) (fun x => B ≤ x)) ((cL uo).length - (cL u).length) (160 * ((cL uo).length - (cL u).length)) (fun x => B ≤ x) := by
  refine Met.ofW (cc := b_cShell_enter) (maxL := 2) (ret := (some .int)) (by decide) rfl ?_
  intro p e s m args below meth c s₁ Bd hml hv
  obtain ⟨hargs, ⟨hB, hW, hK⟩, hX⟩ := hv
  have hx := Bd.exec
  have hb := Bd.bytes
  have hr := Bd.returns
  have hts0 := atoms_spec (ws := .code y_cShell_enter b_cShell_enter 2 (some .int) :: zt) Bd.pre
  have hown : s.vm.findClass "TreeShell" = some m.cls := findClass_of_methodNamed Bd.named
  have hlocks := Bd.notSynchronized
  have M : ZM p c b_cShell_enter s args m "TreeShell" D y := ⟨hx, hb, fun w h => hts0 w (List.mem_cons_of_mem _ h), hown, hK⟩
  have hS : va_S (fun x => B ≤ x) s.heap s.heap [] := va_S.rf
  have hE := lg_entry_eq m ([.ref (ad (0, 0))] : List Value) 2
  rw [← hargs] at hE
  rw [hE]
  have hl := lv_entry ([.ref (ad (0, 0))] : List Value) (n := 2) (Nat.le_of_ble_eq_true rfl)
  generalize (lg_sl ([.ref (ad (0, 0))] : List Value) ++ List.replicate (2 - (lg_sl ([.ref (ad (0, 0))] : List Value)).length) Slot.unset).toArray = ls at hl ⊢
  have hl : lv_has ls 2 [(0, .ref (ad (0, 0)))] := hl
  refine z_startM (fun Q R L0 ad0 cs ss hQ hR hL0 hM => ?_)
  have hRc : R.cells = (cL uo).length - L0.length ∧ R.slots = 160 * ((cL uo).length - L0.length) := by rw [hR, hL0]; exact ⟨rfl, rfl⟩
  generalize hH : s.heap = H at hW
  have hS : va_S (fun x => B ≤ x) s.heap H [] := by rw [← hH]; exact hS
  rw [cShell_enter] at hf
  refine lv_aload_n hx hb d_cShell_enter_0 rfl (lv_at hl 0 rfl) ?_
  refine zg_Sh_grammar M hW (M.2.2.1 _ w_352) d_cShell_enter_1 ?_
  obtain ⟨p1, u2, g1, hf⟩ := ze2 hf
  refine z_callVi (As := []) (rest := []) (k_cGrammar_accepts F _ g1) M hml (cw_cGrammar_accepts M.2.2.1 (M.2.2.1 _ w_395) (by rw [hR]; exact Nat.le_of_ble_eq_true rfl) (by rw [hR]; exact Nat.le_of_ble_eq_true rfl)) (zv_Gr hK hW) hB hW hS rfl hl.1 rfl (Nat.le_of_ble_eq_true rfl) d_cShell_enter_4 (zmk_room hM) (fun H locs hW hS => ?_)
  have hM : zmk q R L0 ad0 (cL u2) ad cs ss := zmk_q (l_cGrammar_accepts F _ g1) hM
  refine lv_istore_n (lv' := [(1, .int (zI p1)), (0, .ref (ad (0, 0)))]) hx hb d_cShell_enter_7 rfl hl (by decide) rfl (fun ls hl => ?_)
  refine lv_aload_n hx hb d_cShell_enter_8 rfl (lv_at hl 1 rfl) ?_
  refine zg_Sh_runner M hW (M.2.2.1 _ w_354) d_cShell_enter_9 ?_
  obtain ⟨u3, g2, hf⟩ := ze1 hf
  refine z_callVv (As := []) (rest := []) (k_cRunner_forget F _ g2) M hml (cw_cRunner_forget M.2.2.1 (M.2.2.1 _ w_455) (by rw [hR]; exact Nat.le_of_ble_eq_true rfl) (by rw [hR]; exact Nat.le_of_ble_eq_true rfl)) (zv_Ru hK hW) hB hW hS rfl hl.1 rfl (Nat.le_of_ble_eq_true rfl) d_cShell_enter_12 (zmk_room hM) (fun H locs hW hS => ?_)
  have hM : zmk q R L0 ad0 (cL u3) ad cs ss := zmk_q (l_cRunner_forget F _ g2) hM
  refine lv_iload_n hx hb d_cShell_enter_15 rfl (lv_at hl 0 rfl) ?_
  obtain ⟨u6, g3, hf⟩ := ze1 hf
  have J3 : ∀ (ad : Nat × Nat → Nat) (H : Heap) (locs : List Loc) (ls : Array Slot) (cs ss : Nat), lv_has ls 2 [(0, .ref (ad (0, 0))), (1, .int (zI p1))] → ZW D B y ad q u6 r H → va_S (fun x => B ≤ x) s.heap H locs → zmk q R L0 ad0 (cL u6) ad cs ss → W p l e R s m args below meth c H locs cs ss Q (F0 m 54 ls []) := by
    intro ad H locs ls cs ss hl hW hS hM
    refine lv_aload_n hx hb d_cShell_enter_54 rfl (lv_at hl 0 rfl) ?_
    refine zg_Sh_line M hW (M.2.2.1 _ w_350) d_cShell_enter_55 ?_
    obtain ⟨u7, g4, hf⟩ := ze1 hf
    refine z_callVv (As := []) (rest := []) (k_cText_clear F _ _ g4) M hml (cw_cText_clear M.2.2.1 (M.2.2.1 _ w_383) (by rw [hR]; exact Nat.le_of_ble_eq_true rfl) (by rw [hR]; exact Nat.le_of_ble_eq_true rfl)) (zv_Tx hK hW (zid_T (Or.inl (by decide)))) hB hW hS rfl hl.1 rfl (Nat.le_of_ble_eq_true rfl) d_cShell_enter_58 (zmk_room hM) (fun H locs hW hS => ?_)
    have hM : zmk q R L0 ad0 (cL u7) ad cs ss := zmk_q (l_cText_clear F _ _ g4) hM
    refine lv_iload_n hx hb d_cShell_enter_61 rfl (lv_at hl 1 rfl) ?_
    obtain ⟨x8, g5, hf⟩ := ze1 hf
    have J5 : ∀ (ad : Nat × Nat → Nat) (H : Heap) (locs : List Loc) (ls : Array Slot) (cs ss : Nat), lv_has ls 2 [] → ZW D B y ad q u7 r H → va_S (fun x => B ≤ x) s.heap H locs → zmk q R L0 ad0 (cL u7) ad cs ss → W p l e R s m args below meth c H locs cs ss Q (F0 m 76 ls [.int (zI x8)]) := by
      intro ad H locs ls cs ss hl hW hS hM
      cases hf
      subst hQ
      exact z_retiM hx hb hr hlocks hB hK hW hS hM d_cShell_enter_76
    refine z_if_eq hx hb d_cShell_enter_62 rfl g5 (fun g5 => ?_) (fun g5 => ?_)
    · refine z_iconst hx hb d_cShell_enter_75 ?_
      cases g5
      exact J5 _ _ _ _ _ _ (lv_sub hl [] rfl) hW hS hM
    · refine lv_aload_n hx hb d_cShell_enter_65 rfl (lv_at hl 0 rfl) ?_
      refine zg_Sh_runner M hW (M.2.2.1 _ w_354) d_cShell_enter_66 ?_
      refine zg_Ru_status M hW (M.2.2.1 _ w_330) d_cShell_enter_69 ?_
      refine lv_goto hx hb d_cShell_enter_72 rfl ?_
      cases g5
      exact J5 _ _ _ _ _ _ (lv_sub hl [] rfl) hW hS hM
  have gJ3 : zgr u6 uo := by
    obtain ⟨u7, l501, hf⟩ := ze1 hf
    have l502 : zgr u6 u7 := zgr_q (l_cText_clear F _ _ l501)
    obtain ⟨x8, l503, hf⟩ := ze1 hf
    exact zgr_f (zgr_tr (zgr_rf u6) (l502)) (congrArg Prod.snd (Option.some.inj hf)).symm rfl
  refine z_if_eq hx hb d_cShell_enter_16 rfl g3 (fun g3 => ?_) (fun g3 => ?_)
  · cases g3
    exact J3 _ _ _ _ _ _ (lv_sub hl [1, 0] rfl) hW hS hM
  · refine lv_aload_n hx hb d_cShell_enter_19 rfl (lv_at hl 1 rfl) ?_
    refine zg_Sh_runner M hW (M.2.2.1 _ w_354) d_cShell_enter_20 ?_
    refine z_iconst hx hb d_cShell_enter_23 ?_
    refine lv_aload_n hx hb d_cShell_enter_24 rfl (lv_at hl 1 rfl) ?_
    refine zg_Sh_tokens M hW (M.2.2.1 _ w_351) d_cShell_enter_25 ?_
    refine zg_Tk_count M hW (M.2.2.1 _ w_136) d_cShell_enter_28 ?_
    refine z_iconst hx hb d_cShell_enter_31 ?_
    refine lv_aload_n hx hb d_cShell_enter_32 rfl (lv_at hl 1 rfl) ?_
    refine zg_Sh_runner M hW (M.2.2.1 _ w_354) d_cShell_enter_33 ?_
    refine zg_Ru_nothing M hW (M.2.2.1 _ w_323) d_cShell_enter_36 ?_
    obtain ⟨p4, u5, g6, g3⟩ := ze2 g3
    have g7 : zgr u3 u5 := l_cRunner_runList F 6 _ _ _ _ _ _ _ g6
    have g8 : zgr u5 uo := by
      have gI : zgr u5 u6 := by
        rcases zpp g3 with ⟨-, g3⟩ | ⟨-, g3⟩
        · exact zgr_f (zgr_rf u5) ((Option.some.inj g3)).symm rfl
        · exact zgr_f (zgr_rf u5) ((Option.some.inj g3)).symm rfl
      exact zgr_tr gI gJ3
    refine z_callMNVi (As := [.int (zI 0), .int (zI (cI u3 2 0)), .int (zI 0), .ref (ad (1, 2))]) (rest := []) (k_cRunner_runList F 6 _ _ _ _ _ _ _ _ g6) M hX hml (cwn_cRunner_runList M.2.2.1 hX.2.2 (by rw [hR]; exact Nat.le_of_ble_eq_true rfl) (by rw [hR]; exact Nat.le_of_ble_eq_true rfl)) (zv_Ru hK hW) hB hW hS rfl hl.1 rfl (Nat.le_of_ble_eq_true rfl) d_cShell_enter_39 hM g7 g8 hRc (fun ad cs ss H locs hag hM hW hS => ?_)
    have hl : lv_has ls 2 [(1, .int (zI p1)), (0, .ref (ad (0, 0)))] := by
      rw [hag (0, 0) (zid_f (by decide +kernel))]
      exact lv_sub hl [0, 1] rfl
    refine z_if_ne hx hb d_cShell_enter_42 rfl g3 (fun g3 => ?_) (fun g3 => ?_)
    · cases g3
      exact J3 _ _ _ _ _ _ (lv_sub hl [1, 0] rfl) hW hS hM
    · refine lv_aload_n hx hb d_cShell_enter_45 rfl (lv_at hl 1 rfl) ?_
      refine zg_Sh_runner M hW (M.2.2.1 _ w_354) d_cShell_enter_46 ?_
      refine z_bipush hx hb d_cShell_enter_49 rfl ?_
      refine zp_Ru_status M hW hS (M.2.2.1 _ w_330) d_cShell_enter_51 (fun H locs hW hS => ?_)
      cases g3
      exact J3 _ _ _ _ _ _ (lv_sub hl [1, 0] rfl) hW hS hM
