set_option maxRecDepth 100000 in
set_option maxHeartbeats 4000000 in
theorem k_cRunner_runCommand {l : Launch} {D : va_G} {B : Nat} {y : Nat → ClassId} {ad : Nat × Nat → Nat} {q : Bool} {r : ZR} {sa sv : Nat → Nat} (F : Nat) (rec : ZC → Int → Int → Int → Nat → Option (Int × ZC)) (fr lo : Nat) (hrec : ∀ (ad : Nat × Nat → Nat) (u : ZC) (v1 : Int) (v2 : Int) (v3 : Int) (v4 : Nat) (res : Int) (uo : ZC), rec u v1 v2 v3 v4 = some (res, uo) → Met l y_cRunner_runList (.code y_cRunner_runList b_cRunner_runList 8 (some .boolean) :: zt) { frames := fr, cells := (cL uo).length - (cL u).length, slots := 160 * ((cL uo).length - (cL u).length), locals := lo } (va_Pc [.ref (ad (0, 4)), .int (zI v1), .int (zI v2), .int (zI v3), .ref (ad (1, v4))] (fun U => ZP D B y ad q u r U ∧ zX B sa sv U)) (va_Qi (fun v (ad2 : Nat × Nat → Nat) => v = zI res ∧ ∀ j, j ∈ zid q u → ad2 j = ad j) (fun ad2 t => ZP D B y ad2 q uo r t) (fun x => B ≤ x)) ((cL uo).length - (cL u).length) (160 * ((cL uo).length - (cL u).length)) (fun x => B ≤ x)) (hrg : ∀ (u : ZC) (v1 : Int) (v2 : Int) (v3 : Int) (v4 : Nat) (res : Int) (uo : ZC), rec u v1 v2 v3 v4 = some (res, uo) → zgr u uo) (u : ZC) (v1 : Int) (v2 : Int) (v3 : Int) (v4 : Nat) {res : Int} {uo : ZC} (hf : cRunner_runCommand F rec u v1 v2 v3 v4 = some (res, uo)) : Met l y_cRunner_runCommand (.code y_cRunner_runCommand b_cRunner_runCommand 10 (some .int) :: zt) { frames := fr + 9, cells := (cL uo).length - (cL u).length, slots := 160 * ((cL uo).length - (cL u).length), locals := lo + 240 } (va_Pc [.ref (ad (0, 4)), .int (zI v1), .int (zI v2), .int (zI v3), .ref (ad (1, v4))] (fun U => ZP D B y ad q u r U ∧ zX B sa sv U)) (va_Qi (fun v (ad2 : Nat × Nat → Nat) => v = zI res ∧ ∀ j, j ∈ zid q u → ad2 j = ad j) (fun ad2 t => ZP D B y ad2 q uo r t) (fun x => B ≤ x)) ((cL uo).length - (cL u).length) (160 * ((cL uo).length - (cL u).length)) (fun x => B ≤ x) := by
  refine Met.ofW (cc := b_cRunner_runCommand) (maxL := 10) (ret := (some .int)) (by decide) rfl ?_
  intro p e s m args below meth c s₁ Bd hml hv
  obtain ⟨hargs, ⟨hB, hW, hK⟩, hX⟩ := hv
  have hx := Bd.exec
  have hb := Bd.bytes
  have hr := Bd.returns
  have hts0 := atoms_spec (ws := .code y_cRunner_runCommand b_cRunner_runCommand 10 (some .int) :: zt) Bd.pre
  have hown : s.vm.findClass "TreeShell$Runner" = some m.cls := findClass_of_methodNamed Bd.named
  have hlocks := Bd.notSynchronized
  have M : ZM p c b_cRunner_runCommand s args m "TreeShell$Runner" D y := ⟨hx, hb, fun w h => hts0 w (List.mem_cons_of_mem _ h), hown, hK⟩
  have hS : va_S (fun x => B ≤ x) s.heap s.heap [] := va_S.rf
  have hE := lg_entry_eq m ([.ref (ad (0, 4)), .int (zI v1), .int (zI v2), .int (zI v3), .ref (ad (1, v4))] : List Value) 10
  rw [← hargs] at hE
  rw [hE]
  have hl := lv_entry ([.ref (ad (0, 4)), .int (zI v1), .int (zI v2), .int (zI v3), .ref (ad (1, v4))] : List Value) (n := 10) (Nat.le_of_ble_eq_true rfl)
  generalize (lg_sl ([.ref (ad (0, 4)), .int (zI v1), .int (zI v2), .int (zI v3), .ref (ad (1, v4))] : List Value) ++ List.replicate (10 - (lg_sl ([.ref (ad (0, 4)), .int (zI v1), .int (zI v2), .int (zI v3), .ref (ad (1, v4))] : List Value)).length) Slot.unset).toArray = ls at hl ⊢
  have hl : lv_has ls 10 [(0, .ref (ad (0, 4))), (1, .int (zI v1)), (2, .int (zI v2)), (3, .int (zI v3)), (4, .ref (ad (1, v4)))] := hl
  refine z_startM (fun Q R L0 ad0 cs ss hQ hR hL0 hM => ?_)
  have hRc : R.cells = (cL uo).length - L0.length ∧ R.slots = 160 * ((cL uo).length - L0.length) := by rw [hR, hL0]; exact ⟨rfl, rfl⟩
  generalize hH : s.heap = H at hW
  have hS : va_S (fun x => B ≤ x) s.heap H [] := by rw [← hH]; exact hS
  rw [cRunner_runCommand] at hf
  refine lv_aload_n hx hb d_cRunner_runCommand_0 rfl (lv_at hl 0 rfl) ?_
  refine zg_Ru_levels M hW (M.2.2.1 _ w_328) d_cRunner_runCommand_1 ?_
  refine lv_iload_n hx hb d_cRunner_runCommand_4 rfl (lv_at hl 3 rfl) ?_
  obtain ⟨g1, hf⟩ := zg hf
  refine za_lev M hW g1 d_cRunner_runCommand_5 ?_
  refine lv_astore (lv' := [(5, .ref (ad (4, v3.toNat))), (0, .ref (ad (0, 4))), (1, .int (zI v1)), (2, .int (zI v2)), (3, .int (zI v3)), (4, .ref (ad (1, v4)))]) hx hb d_cRunner_runCommand_6 hl (by decide) rfl (fun ls hl => ?_)
  refine lv_aload hx hb d_cRunner_runCommand_8 (lv_at hl 0 rfl) ?_
  refine zg_Le_commandOutput M hW (zid_L (z_lev g1)) (M.2.2.1 _ w_300) d_cRunner_runCommand_10 ?_
  obtain ⟨u1, g2, hf⟩ := ze1 hf
  refine z_callVv (As := []) (rest := []) (k_cText_clear F _ _ g2) M hml (cw_cText_clear M.2.2.1 (M.2.2.1 _ w_459) (by rw [hR]; show 1 ≤ fr + 9; omega) (by rw [hR]; show 20 ≤ lo + 240; omega)) (zv_Tx hK hW (zid_T (Or.inl (by have := (z_lev g1); omega)))) hB hW hS rfl hl.1 rfl (Nat.le_of_ble_eq_true rfl) d_cRunner_runCommand_13 (zmk_room hM) (fun H locs hW hS => ?_)
  have hM : zmk q R L0 ad0 (cL u1) ad cs ss := zmk_q (l_cText_clear F _ _ g2) hM
  refine lv_aload hx hb d_cRunner_runCommand_16 (lv_at hl 0 rfl) ?_
  refine z_iconst hx hb d_cRunner_runCommand_18 ?_
  refine zp_Le_readsFile M hW hS (zid_L (z_lev g1)) (Or.inl rfl) (M.2.2.1 _ w_306) d_cRunner_runCommand_19 (fun H locs hW hS => ?_)
  refine lv_aload hx hb d_cRunner_runCommand_22 (lv_at hl 0 rfl) ?_
  refine lv_null hx hb d_cRunner_runCommand_24 ?_
  refine zp_Le_target (v := none) M hW hS (zid_L (z_lev g1)) (M.2.2.1 _ w_308) d_cRunner_runCommand_25 (fun H locs hW hS => ?_)
  refine lv_aload_n hx hb d_cRunner_runCommand_28 rfl (lv_at hl 1 rfl) ?_
  refine zg_Ru_tokens M hW (M.2.2.1 _ w_324) d_cRunner_runCommand_29 ?_
  refine lv_iload_n hx hb d_cRunner_runCommand_32 rfl (lv_at hl 2 rfl) ?_
  obtain ⟨p2, g3, hf⟩ := ze1 hf
  refine z_callVi (As := [.int (zI v1)]) (rest := []) (k_cTokens_kindAt F _ _ g3) M hml (cw_cTokens_kindAt M.2.2.1 (M.2.2.1 _ w_478) (by rw [hR]; show 1 ≤ fr + 9; omega) (by rw [hR]; show 21 ≤ lo + 240; omega)) (zv_Tk hK hW) hB hW hS rfl hl.1 rfl (Nat.le_of_ble_eq_true rfl) d_cRunner_runCommand_33 (zmk_room hM) (fun H locs hW hS => ?_)
  refine z_iconst hx hb d_cRunner_runCommand_36 ?_
  obtain ⟨x3, g4, hf⟩ := ze1 hf
  have J4 : ∀ (ad : Nat × Nat → Nat) (H : Heap) (locs : List Loc) (ls : Array Slot) (cs ss : Nat), lv_has ls 10 [(0, .ref (ad (0, 4))), (1, .int (zI v1)), (2, .int (zI v2)), (3, .int (zI v3)), (4, .ref (ad (1, v4))), (5, .ref (ad (4, v3.toNat)))] → ZW D B y ad q (sP (sI u1 11 v3.toNat 0) 4 v3.toNat none) r H → va_S (fun x => B ≤ x) s.heap H locs → zmk q R L0 ad0 (cL (sP (sI u1 11 v3.toNat 0) 4 v3.toNat none)) ad cs ss → W p l e R s m args below meth c H locs cs ss Q (F0 m 45 ls [.int (zI x3)]) := by
    intro ad H locs ls cs ss hl hW hS hM
    refine lv_istore (lv' := [(6, .int (zI x3)), (0, .ref (ad (0, 4))), (1, .int (zI v1)), (2, .int (zI v2)), (3, .int (zI v3)), (4, .ref (ad (1, v4))), (5, .ref (ad (4, v3.toNat)))]) hx hb d_cRunner_runCommand_45 hl (by decide) rfl (fun ls hl => ?_)
    refine lv_iload hx hb d_cRunner_runCommand_47 (lv_at hl 0 rfl) ?_
    obtain ⟨x5, g5, hf⟩ := ze1 hf
    have J5 : ∀ (ad : Nat × Nat → Nat) (H : Heap) (locs : List Loc) (ls : Array Slot) (cs ss : Nat), lv_has ls 10 [(0, .ref (ad (0, 4))), (1, .int (zI v1)), (2, .int (zI v2)), (3, .int (zI v3)), (4, .ref (ad (1, v4))), (5, .ref (ad (4, v3.toNat))), (6, .int (zI x3))] → ZW D B y ad q (sP (sI u1 11 v3.toNat 0) 4 v3.toNat none) r H → va_S (fun x => B ≤ x) s.heap H locs → zmk q R L0 ad0 (cL (sP (sI u1 11 v3.toNat 0) 4 v3.toNat none)) ad cs ss → W p l e R s m args below meth c H locs cs ss Q (F0 m 71 ls [.int (zI x5)]) := by
      intro ad H locs ls cs ss hl hW hS hM
      refine lv_istore (lv' := [(7, .int (zI x5)), (0, .ref (ad (0, 4))), (1, .int (zI v1)), (2, .int (zI v2)), (3, .int (zI v3)), (4, .ref (ad (1, v4))), (5, .ref (ad (4, v3.toNat))), (6, .int (zI x3))]) hx hb d_cRunner_runCommand_71 hl (by decide) rfl (fun ls hl => ?_)
      refine lv_aload_n hx hb d_cRunner_runCommand_73 rfl (lv_at hl 1 rfl) ?_
      refine lv_iload hx hb d_cRunner_runCommand_74 (lv_at hl 0 rfl) ?_
      refine lv_iload_n hx hb d_cRunner_runCommand_76 rfl (lv_at hl 3 rfl) ?_
      refine lv_aload hx hb d_cRunner_runCommand_77 (lv_at hl 6 rfl) ?_
      obtain ⟨g6, hf⟩ := zg hf
      obtain ⟨p6, u7, g7, hf⟩ := ze2 hf
      have g8 : zgr (sP (sI u1 11 v3.toNat 0) 4 v3.toNat none) u7 := l_cRunner_redirect F _ _ _ _ g7
      have g9 : zgr u7 uo := by
        rcases zpp hf with ⟨-, hf⟩ | ⟨-, hf⟩
        · obtain ⟨x8, l501, hf⟩ := ze1 hf
          obtain ⟨x14, u15, l502, hf⟩ := ze2 hf
          have l503 : zgr u7 u15 := by
            rcases zpp l502 with ⟨-, l502⟩ | ⟨-, l502⟩
            · obtain ⟨u9, l504, l502⟩ := ze1 l502
              have l505 : zgr u7 u9 := zgr_q (l_cRunner_takeWords F _ _ _ l504)
              obtain ⟨p10, u11, l506, l502⟩ := ze2 l502
              have l507 : zgr (sI u9 9 0 ((cI u9 9 0) + 1)) u11 := l_cTools_run F _ _ _ l506
              exact zgr_f (zgr_tr (zgr_tr (zgr_rf u7) (l505)) (l507)) (congrArg Prod.snd (Option.some.inj l502)).symm rfl
            · obtain ⟨p12, u13, l508, l502⟩ := ze2 l502
              have l509 : zgr u7 u13 := l_cRunner_runGroup F _ hrg _ _ _ _ _ l508
              exact zgr_f (zgr_tr (zgr_rf u7) (l509)) (congrArg Prod.snd (Option.some.inj l502)).symm rfl
          obtain ⟨b16, l510, hf⟩ := ze1 hf
          rcases zpp hf with ⟨-, hf⟩ | ⟨-, hf⟩
          · exact zgr_f (zgr_tr (zgr_rf u7) (l503)) (congrArg Prod.snd (Option.some.inj hf)).symm rfl
          · obtain ⟨o17, l511, hf⟩ := ze1 hf
            rcases zel hf with ⟨-, hf⟩ | ⟨n18, -, hf⟩
            · exact zgr_f (zgr_tr (zgr_rf u7) (l503)) (congrArg Prod.snd (Option.some.inj hf)).symm rfl
            · obtain ⟨o19, l512, hf⟩ := ze1 hf
              obtain ⟨n20, -, hf⟩ := zes hf
              obtain ⟨p21, u22, l513, hf⟩ := ze2 hf
              have l514 : zgr u15 u22 := zgr_q (l_cTree_append F _ _ _ l513)
              rcases zpp hf with ⟨-, hf⟩ | ⟨-, hf⟩
              · obtain ⟨u23, l515, hf⟩ := ze1 hf
                have l516 : zgr u22 u23 := zgr_q (l_cText_clear F _ _ l515)
                exact zgr_f (zgr_tr (zgr_tr (zgr_tr (zgr_rf u7) (l503)) (l514)) (l516)) (congrArg Prod.snd (Option.some.inj hf)).symm rfl
              · exact zgr_f (zgr_tr (zgr_tr (zgr_rf u7) (l503)) (l514)) (congrArg Prod.snd (Option.some.inj hf)).symm rfl
        · exact zgr_f (zgr_rf u7) (congrArg Prod.snd (Option.some.inj hf)).symm rfl
      refine z_callMVi (As := [.int (zI x5), .int (zI v2), .ref (ad (4, v3.toNat))]) (rest := []) (k_cRunner_redirect F _ _ _ _ g7) M hX hml (cw_cRunner_redirect M.2.2.1 (M.2.2.1 _ w_483) (by rw [hR]; show 9 ≤ fr + 9; omega) (by rw [hR]; show 240 ≤ lo + 240; omega)) (zv_Ru hK hW) hB hW hS rfl hl.1 rfl (Nat.le_of_ble_eq_true rfl) d_cRunner_runCommand_79 hM g8 g9 hRc (fun ad cs ss H locs hag hM hW hS => ?_)
      have hl : lv_has ls 10 [(7, .int (zI x5)), (0, .ref (ad (0, 4))), (1, .int (zI v1)), (2, .int (zI v2)), (3, .int (zI v3)), (4, .ref (ad (1, v4))), (5, .ref (ad (4, v3.toNat))), (6, .int (zI x3))] := by
        rw [hag (0, 4) (zid_f (by decide +kernel)), hag (1, v4) (zid_T g6), hag (4, v3.toNat) (zid_L (z_lev g1))]
        exact lv_sub hl [0, 1, 2, 3, 4, 5, 6, 7] rfl
      refine lv_istore (lv' := [(8, .int (zI p6)), (7, .int (zI x5)), (0, .ref (ad (0, 4))), (1, .int (zI v1)), (2, .int (zI v2)), (3, .int (zI v3)), (4, .ref (ad (1, v4))), (5, .ref (ad (4, v3.toNat))), (6, .int (zI x3))]) hx hb d_cRunner_runCommand_82 hl (by decide) rfl (fun ls hl => ?_)
      refine lv_iload hx hb d_cRunner_runCommand_84 (lv_at hl 0 rfl) ?_
      refine z_if_eq hx hb d_cRunner_runCommand_86 rfl hf (fun hf => ?_) (fun hf => ?_)
      · refine lv_aload hx hb d_cRunner_runCommand_92 (lv_at hl 7 rfl) ?_
        refine zg_Le_readsFile M hW (zid_L (z_lev g1)) (M.2.2.1 _ w_306) d_cRunner_runCommand_94 ?_
        obtain ⟨x8, g10, hf⟩ := ze1 hf
        have J10 : ∀ (ad : Nat × Nat → Nat) (H : Heap) (locs : List Loc) (ls : Array Slot) (cs ss : Nat), lv_has ls 10 [(0, .ref (ad (0, 4))), (1, .int (zI v1)), (2, .int (zI v2)), (3, .int (zI v3)), (5, .ref (ad (4, v3.toNat))), (6, .int (zI x3)), (7, .int (zI x5))] → ZW D B y ad q u7 r H → va_S (fun x => B ≤ x) s.heap H locs → zmk q R L0 ad0 (cL u7) ad cs ss → W p l e R s m args below meth c H locs cs ss Q (F0 m 110 ls [.ref (ad (1, x8))]) := by
          intro ad H locs ls cs ss hl hW hS hM
          refine lv_astore (lv' := [(9, .ref (ad (1, x8))), (0, .ref (ad (0, 4))), (1, .int (zI v1)), (2, .int (zI v2)), (3, .int (zI v3)), (5, .ref (ad (4, v3.toNat))), (6, .int (zI x3)), (7, .int (zI x5))]) hx hb d_cRunner_runCommand_110 hl (by decide) rfl (fun ls hl => ?_)
          refine lv_iload hx hb d_cRunner_runCommand_112 (lv_at hl 6 rfl) ?_
          obtain ⟨x14, u15, g11, hf⟩ := ze2 hf
          have J11 : ∀ (ad : Nat × Nat → Nat) (H : Heap) (locs : List Loc) (ls : Array Slot) (cs ss : Nat), lv_has ls 10 [(0, .ref (ad (0, 4))), (5, .ref (ad (4, v3.toNat))), (8, .int (zI x14))] → ZW D B y ad q u15 r H → va_S (fun x => B ≤ x) s.heap H locs → zmk q R L0 ad0 (cL u15) ad cs ss → W p l e R s m args below meth c H locs cs ss Q (F0 m 166 ls []) := by
            intro ad H locs ls cs ss hl hW hS hM
            refine lv_iload hx hb d_cRunner_runCommand_166 (lv_at hl 2 rfl) ?_
            refine z_bipush hx hb d_cRunner_runCommand_168 rfl ?_
            obtain ⟨b16, g12, hf⟩ := ze1 hf
            have JT12 : b16 = true → ∀ (H : Heap) (locs : List Loc), ZW D B y ad q u15 r H → va_S (fun x => B ≤ x) s.heap H locs → zmk q R L0 ad0 (cL u15) ad cs ss → W p l e R s m args below meth c H locs cs ss Q (F0 m 184 ls []) := by
              intro hv H locs hW hS hM
              have hf := zp (hv) hf
              refine z_bipush hx hb d_cRunner_runCommand_184 rfl ?_
              cases hf
              subst hQ
              exact z_retiM hx hb hr hlocks hB hK hW hS hM d_cRunner_runCommand_186
            have JF12 : b16 = false → ∀ (H : Heap) (locs : List Loc), ZW D B y ad q u15 r H → va_S (fun x => B ≤ x) s.heap H locs → zmk q R L0 ad0 (cL u15) ad cs ss → W p l e R s m args below meth c H locs cs ss Q (F0 m 187 ls []) := by
              intro hv H locs hW hS hM
              have hf := zn (by rw [hv]; decide) hf
              refine lv_aload hx hb d_cRunner_runCommand_187 (lv_at hl 1 rfl) ?_
              refine zg_Le_target M hW (zid_L (z_lev g1)) (M.2.2.1 _ w_308) d_cRunner_runCommand_189 ?_
              obtain ⟨o17, g13, hf⟩ := ze1 hf
              have g13 := Option.some.inj g13
              rw [g13]
              refine z_ifnull hx hb d_cRunner_runCommand_192 rfl hf (fun hyg14 hn => ?_) (fun n18 hn hyg14 => ?_)
              · subst hn
                have hf := hyg14
                have hl : lv_has ls 10 [(0, .ref (ad (0, 4))), (5, .ref (ad (4, v3.toNat))), (8, .int (zI x14))] := hl
                refine lv_iload hx hb d_cRunner_runCommand_226 (lv_at hl 2 rfl) ?_
                cases hf
                subst hQ
                exact z_retiM hx hb hr hlocks hB hK hW hS hM d_cRunner_runCommand_228
              · subst hn
                have hf := hyg14
                have hl : lv_has ls 10 [(0, .ref (ad (0, 4))), (5, .ref (ad (4, v3.toNat))), (8, .int (zI x14))] := hl
                refine lv_aload_n hx hb d_cRunner_runCommand_195 rfl (lv_at hl 0 rfl) ?_
                refine zg_Ru_tree M hW (M.2.2.1 _ w_325) d_cRunner_runCommand_196 ?_
                refine lv_aload hx hb d_cRunner_runCommand_199 (lv_at hl 1 rfl) ?_
                refine zg_Le_target M hW (zid_L (z_lev g1)) (M.2.2.1 _ w_308) d_cRunner_runCommand_201 ?_
                obtain ⟨o19, g15, hf⟩ := ze1 hf
                have g15 := Option.some.inj g15
                rw [g15]
                refine lv_aload hx hb d_cRunner_runCommand_204 (lv_at hl 1 rfl) ?_
                refine zg_Le_commandOutput M hW (zid_L (z_lev g1)) (M.2.2.1 _ w_300) d_cRunner_runCommand_206 ?_
                obtain ⟨n20, hn, hyg16⟩ := zes hf
                subst hn
                have hf := hyg16
                have hl : lv_has ls 10 [(0, .ref (ad (0, 4))), (5, .ref (ad (4, v3.toNat))), (8, .int (zI x14))] := hl
                obtain ⟨p21, u22, g17, hf⟩ := ze2 hf
                refine z_callVi (As := [.ref (ad (1, n20)), .ref (ad (1, (4 + 4 * v3.toNat)))]) (rest := []) (k_cTree_append F _ _ _ g17) M hml (cw_cTree_append M.2.2.1 (M.2.2.1 _ w_685) (by rw [hR]; show 8 ≤ fr + 9; omega) (by rw [hR]; show 212 ≤ lo + 240; omega)) (zv_Tr hK hW) hB hW hS rfl hl.1 rfl (Nat.le_of_ble_eq_true rfl) d_cRunner_runCommand_209 (zmk_room hM) (fun H locs hW hS => ?_)
                have hM : zmk q R L0 ad0 (cL u22) ad cs ss := zmk_q (l_cTree_append F _ _ _ g17) hM
                refine z_if_ne hx hb d_cRunner_runCommand_212 rfl hf (fun hf => ?_) (fun hf => ?_)
                · refine lv_aload hx hb d_cRunner_runCommand_218 (lv_at hl 1 rfl) ?_
                  refine zg_Le_commandOutput M hW (zid_L (z_lev g1)) (M.2.2.1 _ w_300) d_cRunner_runCommand_220 ?_
                  obtain ⟨u23, g18, hf⟩ := ze1 hf
                  refine z_callVv (As := []) (rest := []) (k_cText_clear F _ _ g18) M hml (cw_cText_clear M.2.2.1 (M.2.2.1 _ w_459) (by rw [hR]; show 1 ≤ fr + 9; omega) (by rw [hR]; show 20 ≤ lo + 240; omega)) (zv_Tx hK hW (zid_T (Or.inl (by have := (z_lev g1); omega)))) hB hW hS rfl hl.1 rfl (Nat.le_of_ble_eq_true rfl) d_cRunner_runCommand_223 (zmk_room hM) (fun H locs hW hS => ?_)
                  have hM : zmk q R L0 ad0 (cL u23) ad cs ss := zmk_q (l_cText_clear F _ _ g18) hM
                  refine lv_iload hx hb d_cRunner_runCommand_226 (lv_at hl 2 rfl) ?_
                  cases hf
                  subst hQ
                  exact z_retiM hx hb hr hlocks hB hK hW hS hM d_cRunner_runCommand_228
                · refine z_bipush hx hb d_cRunner_runCommand_215 rfl ?_
                  cases hf
                  subst hQ
                  exact z_retiM hx hb hr hlocks hB hK hW hS hM d_cRunner_runCommand_217
            refine z_icmp_eq hx hb d_cRunner_runCommand_170 rfl g12 (fun g12 => ?_) (fun g12 => ?_)
            · exact JT12 (Option.some.inj g12).symm _ _ hW hS hM
            · refine lv_aload hx hb d_cRunner_runCommand_173 (lv_at hl 1 rfl) ?_
              refine zg_Le_commandOutput M hW (zid_L (z_lev g1)) (M.2.2.1 _ w_300) d_cRunner_runCommand_175 ?_
              refine zg_Tx_spilled M hW (zid_T (Or.inl (by have := (z_lev g1); omega))) (M.2.2.1 _ w_112) d_cRunner_runCommand_178 ?_
              refine z_if_eq hx hb d_cRunner_runCommand_181 rfl g12 (fun g12 => ?_) (fun g12 => ?_)
              · exact JF12 (Option.some.inj g12).symm _ _ hW hS hM
              · exact JT12 (Option.some.inj g12).symm _ _ hW hS hM
          have gJ11 : zgr u15 uo := by
            obtain ⟨b16, l517, hf⟩ := ze1 hf
            rcases zpp hf with ⟨-, hf⟩ | ⟨-, hf⟩
            · exact zgr_f (zgr_rf u15) (congrArg Prod.snd (Option.some.inj hf)).symm rfl
            · obtain ⟨o17, l518, hf⟩ := ze1 hf
              rcases zel hf with ⟨-, hf⟩ | ⟨n18, -, hf⟩
              · exact zgr_f (zgr_rf u15) (congrArg Prod.snd (Option.some.inj hf)).symm rfl
              · obtain ⟨o19, l519, hf⟩ := ze1 hf
                obtain ⟨n20, -, hf⟩ := zes hf
                obtain ⟨p21, u22, l520, hf⟩ := ze2 hf
                have l521 : zgr u15 u22 := zgr_q (l_cTree_append F _ _ _ l520)
                rcases zpp hf with ⟨-, hf⟩ | ⟨-, hf⟩
                · obtain ⟨u23, l522, hf⟩ := ze1 hf
                  have l523 : zgr u22 u23 := zgr_q (l_cText_clear F _ _ l522)
                  exact zgr_f (zgr_tr (zgr_tr (zgr_rf u15) (l521)) (l523)) (congrArg Prod.snd (Option.some.inj hf)).symm rfl
                · exact zgr_f (zgr_tr (zgr_rf u15) (l521)) (congrArg Prod.snd (Option.some.inj hf)).symm rfl
          refine z_if_eq hx hb d_cRunner_runCommand_114 rfl g11 (fun g11 => ?_) (fun g11 => ?_)
          · refine lv_aload_n hx hb d_cRunner_runCommand_134 rfl (lv_at hl 1 rfl) ?_
            refine lv_iload_n hx hb d_cRunner_runCommand_135 rfl (lv_at hl 2 rfl) ?_
            refine lv_iload_n hx hb d_cRunner_runCommand_136 rfl (lv_at hl 3 rfl) ?_
            obtain ⟨u9, g19, g11⟩ := ze1 g11
            refine z_callVv (As := [.int (zI v1), .int (zI v2)]) (rest := []) (k_cRunner_takeWords F _ _ _ g19) M hml (cw_cRunner_takeWords M.2.2.1 (M.2.2.1 _ w_559) (by rw [hR]; show 4 ≤ fr + 9; omega) (by rw [hR]; show 94 ≤ lo + 240; omega)) (zv_Ru hK hW) hB hW hS rfl hl.1 rfl (Nat.le_of_ble_eq_true rfl) d_cRunner_runCommand_137 (zmk_room hM) (fun H locs hW hS => ?_)
            have hM : zmk q R L0 ad0 (cL u9) ad cs ss := zmk_q (l_cRunner_takeWords F _ _ _ g19) hM
            refine lv_aload_n hx hb d_cRunner_runCommand_140 rfl (lv_at hl 1 rfl) ?_
            refine lv_dup hx hb d_cRunner_runCommand_141 rfl ?_
            refine zg_Ru_ran M hW (M.2.2.1 _ w_331) d_cRunner_runCommand_142 ?_
            refine z_iconst hx hb d_cRunner_runCommand_145 ?_
            refine z_iadd hx hb d_cRunner_runCommand_146 ?_
            refine zp_Ru_ran M hW hS (M.2.2.1 _ w_331) d_cRunner_runCommand_147 (fun H locs hW hS => ?_)
            refine lv_aload_n hx hb d_cRunner_runCommand_150 rfl (lv_at hl 1 rfl) ?_
            refine zg_Ru_tools M hW (M.2.2.1 _ w_327) d_cRunner_runCommand_151 ?_
            refine lv_aload hx hb d_cRunner_runCommand_154 (lv_at hl 0 rfl) ?_
            refine lv_aload hx hb d_cRunner_runCommand_156 (lv_at hl 5 rfl) ?_
            refine zg_Le_commandOutput M hW (zid_L (z_lev g1)) (M.2.2.1 _ w_300) d_cRunner_runCommand_158 ?_
            obtain ⟨p10, u11, g20, g11⟩ := ze2 g11
            have g21 : zgr (sI u9 9 0 ((cI u9 9 0) + 1)) u11 := l_cTools_run F _ _ _ g20
            have g22 : zgr u11 uo := by
              have gI : zgr u11 u15 := by
                exact zgr_f (zgr_rf u11) (congrArg Prod.snd (Option.some.inj g11)).symm rfl
              exact zgr_tr gI gJ11
            refine z_callMVi (As := [.ref (ad (1, x8)), .ref (ad (1, (4 + 4 * v3.toNat)))]) (rest := []) (k_cTools_run F _ _ _ g20) M hX hml (cw_cTools_run M.2.2.1 (M.2.2.1 _ w_563) (by rw [hR]; show 9 ≤ fr + 9; omega) (by rw [hR]; show 236 ≤ lo + 240; omega)) (zv_To hK hW) hB hW hS rfl hl.1 rfl (Nat.le_of_ble_eq_true rfl) d_cRunner_runCommand_161 hM g21 g22 hRc (fun ad cs ss H locs hag hM hW hS => ?_)
            have hl : lv_has ls 10 [(0, .ref (ad (0, 4))), (5, .ref (ad (4, v3.toNat)))] := by
              rw [hag (0, 4) (zid_f (by decide +kernel)), hag (4, v3.toNat) (zid_L (z_lev g1))]
              exact lv_sub hl [1, 5] rfl
            refine lv_istore (lv' := [(8, .int (zI p10)), (0, .ref (ad (0, 4))), (5, .ref (ad (4, v3.toNat)))]) hx hb d_cRunner_runCommand_164 hl (by decide) rfl (fun ls hl => ?_)
            cases g11
            exact J11 _ _ _ _ _ _ (lv_sub hl [1, 2, 0] rfl) hW hS hM
          · refine lv_aload_n hx hb d_cRunner_runCommand_117 rfl (lv_at hl 1 rfl) ?_
            refine lv_iload_n hx hb d_cRunner_runCommand_118 rfl (lv_at hl 2 rfl) ?_
            refine z_iconst hx hb d_cRunner_runCommand_119 ?_
            refine z_iadd hx hb d_cRunner_runCommand_120 ?_
            refine lv_iload hx hb d_cRunner_runCommand_121 (lv_at hl 7 rfl) ?_
            refine lv_iload_n hx hb d_cRunner_runCommand_123 rfl (lv_at hl 4 rfl) ?_
            refine lv_aload hx hb d_cRunner_runCommand_124 (lv_at hl 0 rfl) ?_
            obtain ⟨p12, u13, g23, g11⟩ := ze2 g11
            have g24 : zgr u7 u13 := l_cRunner_runGroup F _ hrg _ _ _ _ _ g23
            have g25 : zgr u13 uo := by
              have gI : zgr u13 u15 := by
                exact zgr_f (zgr_rf u13) (congrArg Prod.snd (Option.some.inj g11)).symm rfl
              exact zgr_tr gI gJ11
            refine z_callMVi (As := [.int (zI (v1 + 1)), .int (zI x5), .int (zI v3), .ref (ad (1, x8))]) (rest := []) (k_cRunner_runGroup F rec fr lo hrec hrg _ _ _ _ _ g23) M hX hml (cw_cRunner_runGroup M.2.2.1 (M.2.2.1 _ w_554) (by rw [hR]; show fr + 7 + 1 ≤ fr + 9; omega) (by rw [hR]; show 8 + (7 + 11) + (lo + 190) ≤ lo + 240; omega)) (zv_Ru hK hW) hB hW hS rfl hl.1 rfl (Nat.le_of_ble_eq_true rfl) d_cRunner_runCommand_126 hM g24 g25 hRc (fun ad cs ss H locs hag hM hW hS => ?_)
            have hl : lv_has ls 10 [(0, .ref (ad (0, 4))), (5, .ref (ad (4, v3.toNat)))] := by
              rw [hag (0, 4) (zid_f (by decide +kernel)), hag (4, v3.toNat) (zid_L (z_lev g1))]
              exact lv_sub hl [1, 5] rfl
            refine lv_istore (lv' := [(8, .int (zI p12)), (0, .ref (ad (0, 4))), (5, .ref (ad (4, v3.toNat)))]) hx hb d_cRunner_runCommand_129 hl (by decide) rfl (fun ls hl => ?_)
            refine lv_goto hx hb d_cRunner_runCommand_131 rfl ?_
            cases g11
            exact J11 _ _ _ _ _ _ (lv_sub hl [1, 2, 0] rfl) hW hS hM
        refine z_if_eq hx hb d_cRunner_runCommand_97 rfl g10 (fun g10 => ?_) (fun g10 => ?_)
        · refine lv_aload hx hb d_cRunner_runCommand_108 (lv_at hl 6 rfl) ?_
          cases g10
          exact J10 _ _ _ _ _ _ (lv_sub hl [2, 3, 4, 5, 7, 8, 1] rfl) hW hS hM
        · refine lv_aload hx hb d_cRunner_runCommand_100 (lv_at hl 7 rfl) ?_
          refine zg_Le_redirected M hW (zid_L (z_lev g1)) (M.2.2.1 _ w_304) d_cRunner_runCommand_102 ?_
          refine lv_goto hx hb d_cRunner_runCommand_105 rfl ?_
          cases g10
          exact J10 _ _ _ _ _ _ (lv_sub hl [2, 3, 4, 5, 7, 8, 1] rfl) hW hS hM
      · refine lv_iload hx hb d_cRunner_runCommand_89 (lv_at hl 0 rfl) ?_
        cases hf
        subst hQ
        exact z_retiM hx hb hr hlocks hB hK hW hS hM d_cRunner_runCommand_91
    refine z_if_eq hx hb d_cRunner_runCommand_49 rfl g5 (fun g5 => ?_) (fun g5 => ?_)
    · refine lv_iload_n hx hb d_cRunner_runCommand_70 rfl (lv_at hl 2 rfl) ?_
      cases g5
      exact J5 _ _ _ _ _ _ (lv_sub hl [1, 2, 3, 4, 5, 6, 0] rfl) hW hS hM
    · refine lv_aload_n hx hb d_cRunner_runCommand_52 rfl (lv_at hl 1 rfl) ?_
      refine zg_Ru_tokens M hW (M.2.2.1 _ w_324) d_cRunner_runCommand_53 ?_
      refine lv_iload_n hx hb d_cRunner_runCommand_56 rfl (lv_at hl 2 rfl) ?_
      refine z_iconst hx hb d_cRunner_runCommand_57 ?_
      refine z_iadd hx hb d_cRunner_runCommand_58 ?_
      refine lv_iload_n hx hb d_cRunner_runCommand_59 rfl (lv_at hl 3 rfl) ?_
      refine z_bipush hx hb d_cRunner_runCommand_60 rfl ?_
      refine z_bipush hx hb d_cRunner_runCommand_62 rfl ?_
      obtain ⟨p4, g26, g5⟩ := ze1 g5
      refine z_callVi (As := [.int (zI (v1 + 1)), .int (zI v2), .int (zI 6), .int (zI 6)]) (rest := []) (k_cTokens_find F _ _ _ _ _ g26) M hml (cw_cTokens_find M.2.2.1 (M.2.2.1 _ w_464) (by rw [hR]; show 2 ≤ fr + 9; omega) (by rw [hR]; show 48 ≤ lo + 240; omega)) (zv_Tk hK hW) hB hW hS rfl hl.1 rfl (Nat.le_of_ble_eq_true rfl) d_cRunner_runCommand_64 (zmk_room hM) (fun H locs hW hS => ?_)
      refine lv_goto hx hb d_cRunner_runCommand_67 rfl ?_
      cases g5
      exact J5 _ _ _ _ _ _ (lv_sub hl [1, 2, 3, 4, 5, 6, 0] rfl) hW hS hM
  refine z_icmp_ne hx hb d_cRunner_runCommand_37 rfl g4 (fun g4 => ?_) (fun g4 => ?_)
  · refine z_iconst hx hb d_cRunner_runCommand_44 ?_
    cases g4
    exact J4 _ _ _ _ _ _ (lv_sub hl [1, 2, 3, 4, 5, 0] rfl) hW hS hM
  · refine z_iconst hx hb d_cRunner_runCommand_40 ?_
    refine lv_goto hx hb d_cRunner_runCommand_41 rfl ?_
    cases g4
    exact J4 _ _ _ _ _ _ (lv_sub hl [1, 2, 3, 4, 5, 0] rfl) hW hS hM
