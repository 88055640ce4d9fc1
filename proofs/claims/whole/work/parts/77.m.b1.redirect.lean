set_option maxRecDepth 100000 in
set_option maxHeartbeats 4000000 in
theorem k_cRunner_redirect {l : Launch} {D : va_G} {B : Nat} {y : Nat → ClassId} {ad : Nat × Nat → Nat} {q : Bool} {r : ZR} {sa sv : Nat → Nat} (F : Nat) (u : ZC) (v1 : Int) (v2 : Int) (v3 : Nat) {res : Int} {uo : ZC} (hf : cRunner_redirect F u v1 v2 v3 = some (res, uo)) : Met l y_cRunner_redirect (.code y_cRunner_redirect b_cRunner_redirect 6 (some .int) :: zt) { frames := 8, cells := (cL uo).length - (cL u).length, slots := 160 * ((cL uo).length - (cL u).length), locals := 215 } (va_Pc [.ref (ad (0, 4)), .int (zI v1), .int (zI v2), .ref (ad (4, v3))] (fun U => ZP D B y ad q u r U ∧ zX B sa sv U)) (va_Qi (fun v (ad2 : Nat × Nat → Nat) => v = zI res ∧ ∀ j, j ∈ zid q u → ad2 j = ad j) (fun ad2 t => ZP D B y ad2 q uo r t) (fun x => B ≤ x)) ((cL uo).length - (cL u).length) (160 * ((cL uo).length - (cL u).length)) (fun x => B ≤ x) := by
  refine Met.ofW (cc := b_cRunner_redirect) (maxL := 6) (ret := (some .int)) (by decide) rfl ?_
  intro p e s m args below meth c s₁ Bd hml hv
  obtain ⟨hargs, ⟨hB, hW, hK⟩, hX⟩ := hv
  have hx := Bd.exec
  have hb := Bd.bytes
  have hr := Bd.returns
  have hts0 := atoms_spec (ws := .code y_cRunner_redirect b_cRunner_redirect 6 (some .int) :: zt) Bd.pre
  have hown : s.vm.findClass "TreeShell$Runner" = some m.cls := findClass_of_methodNamed Bd.named
  have hlocks := Bd.notSynchronized
  have M : ZM p c b_cRunner_redirect s args m "TreeShell$Runner" D y := ⟨hx, hb, fun w h => hts0 w (List.mem_cons_of_mem _ h), hown, hK⟩
  have hS : va_S (fun x => B ≤ x) s.heap s.heap [] := va_S.rf
  have hE := lg_entry_eq m ([.ref (ad (0, 4)), .int (zI v1), .int (zI v2), .ref (ad (4, v3))] : List Value) 6
  rw [← hargs] at hE
  rw [hE]
  have hl := lv_entry ([.ref (ad (0, 4)), .int (zI v1), .int (zI v2), .ref (ad (4, v3))] : List Value) (n := 6) (Nat.le_of_ble_eq_true rfl)
  generalize (lg_sl ([.ref (ad (0, 4)), .int (zI v1), .int (zI v2), .ref (ad (4, v3))] : List Value) ++ List.replicate (6 - (lg_sl ([.ref (ad (0, 4)), .int (zI v1), .int (zI v2), .ref (ad (4, v3))] : List Value)).length) Slot.unset).toArray = ls at hl ⊢
  have hl : lv_has ls 6 [(0, .ref (ad (0, 4))), (1, .int (zI v1)), (2, .int (zI v2)), (3, .ref (ad (4, v3)))] := hl
  refine z_startM (fun Q R L0 ad0 cs ss hQ hR hL0 hM => ?_)
  have hRc : R.cells = (cL uo).length - L0.length ∧ R.slots = 160 * ((cL uo).length - L0.length) := by rw [hR, hL0]; exact ⟨rfl, rfl⟩
  generalize hH : s.heap = H at hW
  have hS : va_S (fun x => B ≤ x) s.heap H [] := by rw [← hH]; exact hS
  have G_6 : ∀ (n : Nat), ∀ (u : ZC) (v2 : Int) (v3 : Nat) (v4 : Int) (v5 : Int), cRunner_redirect_6 F n u v2 v3 v4 v5 = some (res, uo) → zgr u uo := by
    intro n
    induction n with
    | zero => intro u v2 v3 v4 v5 hf; cases (show (none : Option (Int × ZC)) = some (res, uo) from hf)
    | succ n ih =>
      intro u v2 v3 v4 v5 hf
      rw [cRunner_redirect_6] at hf
      obtain ⟨b1, l501, hf⟩ := ze1 hf
      rcases zpp hf with ⟨-, hf⟩ | ⟨-, hf⟩
      · exact zgr_f (zgr_rf u) (congrArg Prod.snd (Option.some.inj hf)).symm rfl
      · obtain ⟨p2, l502, hf⟩ := ze1 hf
        obtain ⟨x16, u17, l503, hf⟩ := ze2 hf
        have l504 : zgr u u17 := by
          rcases zpp l503 with ⟨-, l503⟩ | ⟨-, l503⟩
          · exact zgr_f (zgr_rf u) (congrArg Prod.snd (Option.some.inj l503)).symm rfl
          · obtain ⟨u3, l505, l503⟩ := ze1 l503
            have l506 : zgr u u3 := zgr_q (l_cWords_clear F _ l505)
            obtain ⟨u4, l507, l503⟩ := ze1 l503
            have l508 : zgr u3 u4 := zgr_q (l_cWords_add F _ _ _ l507)
            obtain ⟨p5, u6, l509, l503⟩ := ze2 l503
            have l510 : zgr u4 u6 := zgr_q (l_cTree_follow F _ _ l509)
            obtain ⟨p7, l511, l503⟩ := ze1 l503
            obtain ⟨x14, u15, l512, l503⟩ := ze2 l503
            have l513 : zgr u6 u15 := by
              rcases zpp l512 with ⟨-, l512⟩ | ⟨-, l512⟩
              · obtain ⟨p8, l514, l512⟩ := ze1 l512
                obtain ⟨x9, l515, l512⟩ := ze1 l512
                obtain ⟨-, l512⟩ := zg l512
                obtain ⟨p10, u11, l516, l512⟩ := ze2 l512
                have l517 : zgr u6 u11 := l_cRunner_redirectOutput F _ _ _ l516
                exact zgr_f (zgr_tr (zgr_rf u6) (l517)) (congrArg Prod.snd (Option.some.inj l512)).symm rfl
              · obtain ⟨p12, u13, l518, l512⟩ := ze2 l512
                have l519 : zgr u6 u13 := zgr_q (l_cRunner_redirectInput F _ _ l518)
                exact zgr_f (zgr_tr (zgr_rf u6) (l519)) (congrArg Prod.snd (Option.some.inj l512)).symm rfl
            exact zgr_f (zgr_tr (zgr_tr (zgr_tr (zgr_tr (zgr_rf u) (l506)) (l508)) (l510)) (l513)) (congrArg Prod.snd (Option.some.inj l503)).symm rfl
        exact zgr_tr (zgr_tr (zgr_rf u) (l504)) (ih _ _ _ _ _ hf)
  have C_6 : ∀ (n : Nat), ∀ (ad : Nat × Nat → Nat) (u : ZC) (v2 : Int) (v3 : Nat) (v4 : Int) (v5 : Int) (H : Heap) (locs : List Loc) (ls : Array Slot) (cs ss : Nat), cRunner_redirect_6 F n u v2 v3 v4 v5 = some (res, uo) → lv_has ls 6 [(0, .ref (ad (0, 4))), (2, .int (zI v2)), (3, .ref (ad (4, v3))), (4, .int (zI v4)), (5, .int (zI v5))] → ZW D B y ad q u r H → va_S (fun x => B ≤ x) s.heap H locs → zmk q R L0 ad0 (cL u) ad cs ss → W p l e R s m args below meth c H locs cs ss Q (F0 m 6 ls []) := by
    intro n
    induction n with
    | zero => intro ad u v2 v3 v4 v5 H locs ls cs ss hf; cases (show (none : Option (Int × ZC)) = some (res, uo) from hf)
    | succ n ih =>
      intro ad u v2 v3 v4 v5 H locs ls cs ss hf hl hW hS hM
      rw [cRunner_redirect_6] at hf
      refine lv_iload hx hb d_cRunner_redirect_6 (lv_at hl 4 rfl) ?_
      refine lv_iload_n hx hb d_cRunner_redirect_8 rfl (lv_at hl 1 rfl) ?_
      obtain ⟨b1, g1, hf⟩ := ze1 hf
      have JT1 : b1 = true → ∀ (H : Heap) (locs : List Loc), ZW D B y ad q u r H → va_S (fun x => B ≤ x) s.heap H locs → zmk q R L0 ad0 (cL u) ad cs ss → W p l e R s m args below meth c H locs cs ss Q (F0 m 122 ls []) := by
        intro hv H locs hW hS hM
        have hf := zp (hv) hf
        refine lv_iload hx hb d_cRunner_redirect_122 (lv_at hl 3 rfl) ?_
        cases hf
        subst hQ
        exact z_retiM hx hb hr hlocks hB hK hW hS hM d_cRunner_redirect_124
      have JF1 : b1 = false → ∀ (H : Heap) (locs : List Loc), ZW D B y ad q u r H → va_S (fun x => B ≤ x) s.heap H locs → zmk q R L0 ad0 (cL u) ad cs ss → W p l e R s m args below meth c H locs cs ss Q (F0 m 17 ls []) := by
        intro hv H locs hW hS hM
        have hf := zn (by rw [hv]; decide) hf
        refine lv_aload_n hx hb d_cRunner_redirect_17 rfl (lv_at hl 0 rfl) ?_
        refine zg_Ru_tokens M hW (M.2.2.1 _ w_324) d_cRunner_redirect_18 ?_
        refine lv_iload hx hb d_cRunner_redirect_21 (lv_at hl 4 rfl) ?_
        obtain ⟨p2, g2, hf⟩ := ze1 hf
        refine z_callVi (As := [.int (zI v5)]) (rest := []) (k_cTokens_isRedirection F _ _ g2) M hml (cw_cTokens_isRedirection M.2.2.1 (M.2.2.1 _ w_487) (by rw [hR]; exact Nat.le_of_ble_eq_true rfl) (by rw [hR]; exact Nat.le_of_ble_eq_true rfl)) (zv_Tk hK hW) hB hW hS rfl hl.1 rfl (Nat.le_of_ble_eq_true rfl) d_cRunner_redirect_23 (zmk_room hM) (fun H locs hW hS => ?_)
        obtain ⟨x16, u17, g3, hf⟩ := ze2 hf
        have J3 : ∀ (ad : Nat × Nat → Nat) (H : Heap) (locs : List Loc) (ls : Array Slot) (cs ss : Nat), lv_has ls 6 [(0, .ref (ad (0, 4))), (2, .int (zI v2)), (3, .ref (ad (4, v3))), (4, .int (zI x16)), (5, .int (zI v5))] → ZW D B y ad q u17 r H → va_S (fun x => B ≤ x) s.heap H locs → zmk q R L0 ad0 (cL u17) ad cs ss → W p l e R s m args below meth c H locs cs ss Q (F0 m 116 ls []) := by
          intro ad H locs ls cs ss hl hW hS hM
          refine lv_iinc (k := 4) (v := zI (v5 + 1)) (lv' := [(5, .int (zI (v5 + 1))), (0, .ref (ad (0, 4))), (2, .int (zI v2)), (3, .ref (ad (4, v3))), (4, .int (zI x16))]) hx hb d_cRunner_redirect_116 hl rfl (zI_add _ _) (by decide) rfl (fun ls hl => ?_)
          refine lv_goto hx hb d_cRunner_redirect_119 rfl ?_
          exact ih _ _ _ _ _ _ _ _ _ _ _ hf (lv_sub hl [1, 2, 3, 4, 0] rfl) hW hS hM
        have gJ3 : zgr u17 uo := by
          exact zgr_tr (zgr_rf u17) ((G_6 n) _ _ _ _ _ hf)
        refine z_if_eq hx hb d_cRunner_redirect_26 rfl g3 (fun g3 => ?_) (fun g3 => ?_)
        · cases g3
          exact J3 _ _ _ _ _ _ (lv_sub hl [0, 1, 2, 3, 4] rfl) hW hS hM
        · refine lv_aload_n hx hb d_cRunner_redirect_29 rfl (lv_at hl 0 rfl) ?_
          refine zg_Ru_words M hW (M.2.2.1 _ w_326) d_cRunner_redirect_30 ?_
          obtain ⟨u3, g4, g3⟩ := ze1 g3
          refine z_callVv (As := []) (rest := []) (k_cWords_clear F _ g4) M hml (cw_cWords_clear M.2.2.1 (M.2.2.1 _ w_488) (by rw [hR]; exact Nat.le_of_ble_eq_true rfl) (by rw [hR]; exact Nat.le_of_ble_eq_true rfl)) (zv_Wo hK hW) hB hW hS rfl hl.1 rfl (Nat.le_of_ble_eq_true rfl) d_cRunner_redirect_33 (zmk_room hM) (fun H locs hW hS => ?_)
          have hM : zmk q R L0 ad0 (cL u3) ad cs ss := zmk_q (l_cWords_clear F _ g4) hM
          refine lv_aload_n hx hb d_cRunner_redirect_36 rfl (lv_at hl 0 rfl) ?_
          refine zg_Ru_words M hW (M.2.2.1 _ w_326) d_cRunner_redirect_37 ?_
          refine lv_aload_n hx hb d_cRunner_redirect_40 rfl (lv_at hl 0 rfl) ?_
          refine zg_Ru_tokens M hW (M.2.2.1 _ w_324) d_cRunner_redirect_41 ?_
          refine lv_iload hx hb d_cRunner_redirect_44 (lv_at hl 4 rfl) ?_
          refine z_iconst hx hb d_cRunner_redirect_46 ?_
          refine z_iadd hx hb d_cRunner_redirect_47 ?_
          refine lv_aload_n hx hb d_cRunner_redirect_48 rfl (lv_at hl 0 rfl) ?_
          refine zg_Ru_status M hW (M.2.2.1 _ w_329) d_cRunner_redirect_49 ?_
          obtain ⟨u4, g5, g3⟩ := ze1 g3
          refine z_callVv (As := [.ref (ad (0, 1)), .int (zI (v5 + 1)), .int (zI (cI u3 8 0))]) (rest := []) (k_cWords_add F _ _ _ g5) M hml (cw_cWords_add M.2.2.1 (M.2.2.1 _ w_493) (by rw [hR]; exact Nat.le_of_ble_eq_true rfl) (by rw [hR]; exact Nat.le_of_ble_eq_true rfl)) (zv_Wo hK hW) hB hW hS rfl hl.1 rfl (Nat.le_of_ble_eq_true rfl) d_cRunner_redirect_52 (zmk_room hM) (fun H locs hW hS => ?_)
          have hM : zmk q R L0 ad0 (cL u4) ad cs ss := zmk_q (l_cWords_add F _ _ _ g5) hM
          refine lv_aload_n hx hb d_cRunner_redirect_55 rfl (lv_at hl 0 rfl) ?_
          refine zg_Ru_tree M hW (M.2.2.1 _ w_325) d_cRunner_redirect_56 ?_
          refine lv_aload_n hx hb d_cRunner_redirect_59 rfl (lv_at hl 0 rfl) ?_
          refine zg_Ru_words M hW (M.2.2.1 _ w_326) d_cRunner_redirect_60 ?_
          refine z_iconst hx hb d_cRunner_redirect_63 ?_
          obtain ⟨p5, u6, g6, g3⟩ := ze2 g3
          refine z_callVq (As := [.ref (ad (0, 5)), .int (zI 0)]) (rest := []) (k_cTree_follow F _ _ g6) M hml (cw_cTree_follow M.2.2.1 (M.2.2.1 _ w_503) (by rw [hR]; exact Nat.le_of_ble_eq_true rfl) (by rw [hR]; exact Nat.le_of_ble_eq_true rfl)) (zv_Tr hK hW) hB hW hS rfl hl.1 rfl (Nat.le_of_ble_eq_true rfl) d_cRunner_redirect_64 (zmk_room hM) (fun H locs hW hS => ?_)
          have hM : zmk q R L0 ad0 (cL u6) ad cs ss := zmk_q (l_cTree_follow F _ _ g6) hM
          refine lv_pop hx hb d_cRunner_redirect_67 (zrf_cat _) ?_
          refine lv_aload_n hx hb d_cRunner_redirect_68 rfl (lv_at hl 0 rfl) ?_
          refine zg_Ru_tokens M hW (M.2.2.1 _ w_324) d_cRunner_redirect_69 ?_
          refine lv_iload hx hb d_cRunner_redirect_72 (lv_at hl 4 rfl) ?_
          obtain ⟨p7, g7, g3⟩ := ze1 g3
          refine z_callVi (As := [.int (zI v5)]) (rest := []) (k_cTokens_kindAt F _ _ g7) M hml (cw_cTokens_kindAt M.2.2.1 (M.2.2.1 _ w_478) (by rw [hR]; exact Nat.le_of_ble_eq_true rfl) (by rw [hR]; exact Nat.le_of_ble_eq_true rfl)) (zv_Tk hK hW) hB hW hS rfl hl.1 rfl (Nat.le_of_ble_eq_true rfl) d_cRunner_redirect_74 (zmk_room hM) (fun H locs hW hS => ?_)
          refine z_bipush hx hb d_cRunner_redirect_77 rfl ?_
          obtain ⟨x14, u15, g8, g3⟩ := ze2 g3
          have J8 : ∀ (ad : Nat × Nat → Nat) (H : Heap) (locs : List Loc) (ls : Array Slot) (cs ss : Nat), lv_has ls 6 [(0, .ref (ad (0, 4))), (2, .int (zI v2)), (3, .ref (ad (4, v3))), (5, .int (zI v5))] → ZW D B y ad q u15 r H → va_S (fun x => B ≤ x) s.heap H locs → zmk q R L0 ad0 (cL u15) ad cs ss → W p l e R s m args below meth c H locs cs ss Q (F0 m 114 ls [.int (zI x14)]) := by
            intro ad H locs ls cs ss hl hW hS hM
            refine lv_istore (lv' := [(4, .int (zI x14)), (0, .ref (ad (0, 4))), (2, .int (zI v2)), (3, .ref (ad (4, v3))), (5, .int (zI v5))]) hx hb d_cRunner_redirect_114 hl (by decide) rfl (fun ls hl => ?_)
            cases g3
            exact J3 _ _ _ _ _ _ (lv_sub hl [1, 2, 3, 0, 4] rfl) hW hS hM
          have gJ8 : zgr u15 uo := by
            have gI : zgr u15 u17 := by
              exact zgr_f (zgr_rf u15) (congrArg Prod.snd (Option.some.inj g3)).symm rfl
            exact zgr_tr gI gJ3
          refine z_icmp_ne hx hb d_cRunner_redirect_79 rfl g8 (fun g8 => ?_) (fun g8 => ?_)
          · refine lv_aload_n hx hb d_cRunner_redirect_90 rfl (lv_at hl 0 rfl) ?_
            refine lv_aload_n hx hb d_cRunner_redirect_91 rfl (lv_at hl 2 rfl) ?_
            refine lv_aload_n hx hb d_cRunner_redirect_92 rfl (lv_at hl 0 rfl) ?_
            refine zg_Ru_tokens M hW (M.2.2.1 _ w_324) d_cRunner_redirect_93 ?_
            refine lv_iload hx hb d_cRunner_redirect_96 (lv_at hl 4 rfl) ?_
            obtain ⟨p8, g9, g8⟩ := ze1 g8
            refine z_callVi (As := [.int (zI v5)]) (rest := [.ref (ad (4, v3)), .ref (ad (0, 4))]) (k_cTokens_kindAt F _ _ g9) M hml (cw_cTokens_kindAt M.2.2.1 (M.2.2.1 _ w_478) (by rw [hR]; exact Nat.le_of_ble_eq_true rfl) (by rw [hR]; exact Nat.le_of_ble_eq_true rfl)) (zv_Tk hK hW) hB hW hS rfl hl.1 rfl (Nat.le_of_ble_eq_true rfl) d_cRunner_redirect_98 (zmk_room hM) (fun H locs hW hS => ?_)
            refine z_bipush hx hb d_cRunner_redirect_101 rfl ?_
            obtain ⟨x9, g10, g8⟩ := ze1 g8
            have J10 : ∀ (ad : Nat × Nat → Nat) (H : Heap) (locs : List Loc) (ls : Array Slot) (cs ss : Nat), lv_has ls 6 [(0, .ref (ad (0, 4))), (2, .int (zI v2)), (3, .ref (ad (4, v3))), (5, .int (zI v5))] → ZW D B y ad q u6 r H → va_S (fun x => B ≤ x) s.heap H locs → zmk q R L0 ad0 (cL u6) ad cs ss → W p l e R s m args below meth c H locs cs ss Q (F0 m 111 ls [.int (zI x9), .ref (ad (4, v3)), .ref (ad (0, 4))]) := by
              intro ad H locs ls cs ss hl hW hS hM
              obtain ⟨g11, g8⟩ := zg g8
              obtain ⟨p10, u11, g12, g8⟩ := ze2 g8
              have g13 : zgr u6 u11 := l_cRunner_redirectOutput F _ _ _ g12
              have g14 : zgr u11 uo := by
                have gI : zgr u11 u15 := by
                  exact zgr_f (zgr_rf u11) (congrArg Prod.snd (Option.some.inj g8)).symm rfl
                exact zgr_tr gI gJ8
              refine z_callMVi (As := [.ref (ad (4, v3)), .int (zI x9)]) (rest := []) (k_cRunner_redirectOutput F _ _ _ g12) M hX hml (cw_cRunner_redirectOutput M.2.2.1 (M.2.2.1 _ w_539) (by rw [hR]; exact Nat.le_of_ble_eq_true rfl) (by rw [hR]; exact Nat.le_of_ble_eq_true rfl)) (zv_Ru hK hW) hB hW hS rfl hl.1 rfl (Nat.le_of_ble_eq_true rfl) d_cRunner_redirect_111 hM g13 g14 hRc (fun ad cs ss H locs hag hM hW hS => ?_)
              have hl : lv_has ls 6 [(0, .ref (ad (0, 4))), (2, .int (zI v2)), (3, .ref (ad (4, v3))), (5, .int (zI v5))] := by
                rw [hag (0, 4) (zid_f (by decide +kernel)), hag (4, v3) (zid_L g11)]
                exact lv_sub hl [0, 1, 2, 3] rfl
              cases g8
              exact J8 _ _ _ _ _ _ (lv_sub hl [0, 1, 2, 3] rfl) hW hS hM
            refine z_icmp_ne hx hb d_cRunner_redirect_103 rfl g10 (fun g10 => ?_) (fun g10 => ?_)
            · refine z_iconst hx hb d_cRunner_redirect_110 ?_
              cases g10
              exact J10 _ _ _ _ _ _ (lv_sub hl [0, 1, 2, 4] rfl) hW hS hM
            · refine z_iconst hx hb d_cRunner_redirect_106 ?_
              refine lv_goto hx hb d_cRunner_redirect_107 rfl ?_
              cases g10
              exact J10 _ _ _ _ _ _ (lv_sub hl [0, 1, 2, 4] rfl) hW hS hM
          · refine lv_aload_n hx hb d_cRunner_redirect_82 rfl (lv_at hl 0 rfl) ?_
            refine lv_aload_n hx hb d_cRunner_redirect_83 rfl (lv_at hl 2 rfl) ?_
            obtain ⟨p12, u13, g15, g8⟩ := ze2 g8
            refine z_callVi (As := [.ref (ad (4, v3))]) (rest := []) (k_cRunner_redirectInput F _ _ g15) M hml (cw_cRunner_redirectInput M.2.2.1 (M.2.2.1 _ w_524) (by rw [hR]; exact Nat.le_of_ble_eq_true rfl) (by rw [hR]; exact Nat.le_of_ble_eq_true rfl)) (zv_Ru hK hW) hB hW hS rfl hl.1 rfl (Nat.le_of_ble_eq_true rfl) d_cRunner_redirect_84 (zmk_room hM) (fun H locs hW hS => ?_)
            have hM : zmk q R L0 ad0 (cL u13) ad cs ss := zmk_q (l_cRunner_redirectInput F _ _ g15) hM
            refine lv_goto hx hb d_cRunner_redirect_87 rfl ?_
            cases g8
            exact J8 _ _ _ _ _ _ (lv_sub hl [0, 1, 2, 4] rfl) hW hS hM
      refine z_icmp_ge hx hb d_cRunner_redirect_9 rfl g1 (fun g1 => ?_) (fun g1 => ?_)
      · exact JT1 (Option.some.inj g1).symm _ _ hW hS hM
      · refine lv_iload hx hb d_cRunner_redirect_12 (lv_at hl 3 rfl) ?_
        refine z_if_ne hx hb d_cRunner_redirect_14 rfl g1 (fun g1 => ?_) (fun g1 => ?_)
        · exact JT1 (Option.some.inj g1).symm _ _ hW hS hM
        · exact JF1 (Option.some.inj g1).symm _ _ hW hS hM
  rw [cRunner_redirect] at hf
  refine z_iconst hx hb d_cRunner_redirect_0 ?_
  refine lv_istore (lv' := [(4, .int (zI 0)), (0, .ref (ad (0, 4))), (1, .int (zI v1)), (2, .int (zI v2)), (3, .ref (ad (4, v3)))]) hx hb d_cRunner_redirect_1 hl (by decide) rfl (fun ls hl => ?_)
  refine lv_iload_n hx hb d_cRunner_redirect_3 rfl (lv_at hl 2 rfl) ?_
  refine lv_istore (lv' := [(5, .int (zI v1)), (4, .int (zI 0)), (0, .ref (ad (0, 4))), (1, .int (zI v1)), (2, .int (zI v2)), (3, .ref (ad (4, v3)))]) hx hb d_cRunner_redirect_4 hl (by decide) rfl (fun ls hl => ?_)
  exact C_6 F _ _ _ _ _ _ _ _ _ _ _ hf (lv_sub hl [2, 4, 5, 1, 0] rfl) hW hS hM
