set_option maxRecDepth 100000 in
set_option maxHeartbeats 4000000 in
theorem k_cRunner_runList {l : Launch} {D : va_G} {B : Nat} {y : Nat → ClassId} {q : Bool} {r : ZR} {sa sv : Nat → Nat} (F : Nat) : ∀ (d : Nat), ∀ (ad : Nat × Nat → Nat) (u : ZC) (v1 : Int) (v2 : Int) (v3 : Int) (v4 : Nat) (res : Int) (uo : ZC), cRunner_runList F d u v1 v2 v3 v4 = some (res, uo) → Met l y_cRunner_runList (.code y_cRunner_runList b_cRunner_runList 8 (some .boolean) :: zt) { frames := 11 * d, cells := (cL uo).length - (cL u).length, slots := 160 * ((cL uo).length - (cL u).length), locals := 301 * d } (va_Pc [.ref (ad (0, 4)), .int (zI v1), .int (zI v2), .int (zI v3), .ref (ad (1, v4))] (fun U => ZP D B y ad q u r U ∧ zX B sa sv U)) (va_Qi (fun v (ad2 : Nat × Nat → Nat) => v = zI res ∧ ∀ j, j ∈ zid q u → ad2 j = ad j) (fun ad2 t => ZP D B y ad2 q uo r t) (fun x => B ≤ x)) ((cL uo).length - (cL u).length) (160 * ((cL uo).length - (cL u).length)) (fun x => B ≤ x) := by
  intro d
  induction d with
  | zero => intro ad u v1 v2 v3 v4 res uo hf; cases (show (none : Option (Int × ZC)) = some (res, uo) from hf)
  | succ d ihd =>
    intro ad u v1 v2 v3 v4 res uo hf
    refine Met.ofW (cc := b_cRunner_runList) (maxL := 8) (ret := (some .boolean)) (by decide) rfl ?_
    intro p e s m args below meth c s₁ Bd hml hv
    obtain ⟨hargs, ⟨hB, hW, hK⟩, hX⟩ := hv
    have hx := Bd.exec
    have hb := Bd.bytes
    have hr := Bd.returns
    have hts0 := atoms_spec (ws := .code y_cRunner_runList b_cRunner_runList 8 (some .boolean) :: zt) Bd.pre
    have hown : s.vm.findClass "TreeShell$Runner" = some m.cls := findClass_of_methodNamed Bd.named
    have hlocks := Bd.notSynchronized
    have M : ZM p c b_cRunner_runList s args m "TreeShell$Runner" D y := ⟨hx, hb, fun w h => hts0 w (List.mem_cons_of_mem _ h), hown, hK⟩
    have hS : va_S (fun x => B ≤ x) s.heap s.heap [] := va_S.rf
    have hE := lg_entry_eq m ([.ref (ad (0, 4)), .int (zI v1), .int (zI v2), .int (zI v3), .ref (ad (1, v4))] : List Value) 8
    rw [← hargs] at hE
    rw [hE]
    have hl := lv_entry ([.ref (ad (0, 4)), .int (zI v1), .int (zI v2), .int (zI v3), .ref (ad (1, v4))] : List Value) (n := 8) (Nat.le_of_ble_eq_true rfl)
    generalize (lg_sl ([.ref (ad (0, 4)), .int (zI v1), .int (zI v2), .int (zI v3), .ref (ad (1, v4))] : List Value) ++ List.replicate (8 - (lg_sl ([.ref (ad (0, 4)), .int (zI v1), .int (zI v2), .int (zI v3), .ref (ad (1, v4))] : List Value)).length) Slot.unset).toArray = ls at hl ⊢
    have hl : lv_has ls 8 [(0, .ref (ad (0, 4))), (1, .int (zI v1)), (2, .int (zI v2)), (3, .int (zI v3)), (4, .ref (ad (1, v4)))] := hl
    refine z_startM (fun Q R L0 ad0 cs ss hQ hR hL0 hM => ?_)
    have hRc : R.cells = (cL uo).length - L0.length ∧ R.slots = 160 * ((cL uo).length - L0.length) := by rw [hR, hL0]; exact ⟨rfl, rfl⟩
    generalize hH : s.heap = H at hW
    have hS : va_S (fun x => B ≤ x) s.heap H [] := by rw [← hH]; exact hS
    have G_75 : ∀ (k25 : ZC → Int → Int → Nat → Int → Int → Option (Int × ZC)) (hk25 : ∀ (u : ZC) (v2 : Int) (v3 : Int) (v4 : Nat) (v5 : Int) (v6 : Int), k25 u v2 v3 v4 v5 v6 = some (res, uo) → zgr u uo) , ∀ (u : ZC) (v2 : Int) (v3 : Int) (v4 : Nat) (v7 : Int), cRunner_runList_75 F (cRunner_runList F d) k25 u v2 v3 v4 v7 = some (res, uo) → zgr u uo := by
      intro k25 hk25 u v2 v3 v4 v7 hf
      rw [cRunner_runList_75] at hf
      obtain ⟨p6, l501, hf⟩ := ze1 hf
      exact zgr_tr (zgr_rf u) (hk25 _ _ _ _ _ _ hf)
    have G_25 : ∀ (n : Nat), ∀ (u : ZC) (v2 : Int) (v3 : Int) (v4 : Nat) (v5 : Int) (v6 : Int), cRunner_runList_25 F (cRunner_runList F d) n u v2 v3 v4 v5 v6 = some (res, uo) → zgr u uo := by
      intro n
      induction n with
      | zero => intro u v2 v3 v4 v5 v6 hf; cases (show (none : Option (Int × ZC)) = some (res, uo) from hf)
      | succ n ih =>
        intro u v2 v3 v4 v5 v6 hf
        rw [cRunner_runList_25] at hf
        rcases zpp hf with ⟨-, hf⟩ | ⟨-, hf⟩
        · exact zgr_f (zgr_rf u) (congrArg Prod.snd (Option.some.inj hf)).symm rfl
        · obtain ⟨p2, l502, hf⟩ := ze1 hf
          obtain ⟨p3, l503, hf⟩ := ze1 hf
          rcases zpp hf with ⟨-, hf⟩ | ⟨-, hf⟩
          · exact zgr_tr (zgr_rf u) (G_75 _ ih _ _ _ _ _ hf)
          · obtain ⟨-, hf⟩ := zg hf
            obtain ⟨p4, u5, l504, hf⟩ := ze2 hf
            have l505 : zgr u u5 := l_cRunner_runPipeline F _ (l_cRunner_runList F d) _ _ _ _ _ l504
            rcases zpp hf with ⟨-, hf⟩ | ⟨-, hf⟩
            · exact zgr_tr (zgr_tr (zgr_rf u) (l505)) (G_75 _ ih _ _ _ _ _ hf)
            · exact zgr_f (zgr_tr (zgr_rf u) (l505)) (congrArg Prod.snd (Option.some.inj hf)).symm rfl
    have C_75 : ∀ (k25 : ZC → Int → Int → Nat → Int → Int → Option (Int × ZC)) (hk25 : ∀ (ad : Nat × Nat → Nat) (u : ZC) (v2 : Int) (v3 : Int) (v4 : Nat) (v5 : Int) (v6 : Int) (H : Heap) (locs : List Loc) (ls : Array Slot) (cs ss : Nat), k25 u v2 v3 v4 v5 v6 = some (res, uo) → lv_has ls 8 [(0, .ref (ad (0, 4))), (2, .int (zI v2)), (3, .int (zI v3)), (4, .ref (ad (1, v4))), (5, .int (zI v5)), (6, .int (zI v6))] → ZW D B y ad q u r H → va_S (fun x => B ≤ x) s.heap H locs → zmk q R L0 ad0 (cL u) ad cs ss → W p l e R s m args below meth c H locs cs ss Q (F0 m 25 ls [])) , ∀ (ad : Nat × Nat → Nat) (u : ZC) (v2 : Int) (v3 : Int) (v4 : Nat) (v7 : Int) (H : Heap) (locs : List Loc) (ls : Array Slot) (cs ss : Nat), cRunner_runList_75 F (cRunner_runList F d) k25 u v2 v3 v4 v7 = some (res, uo) → lv_has ls 8 [(0, .ref (ad (0, 4))), (2, .int (zI v2)), (3, .int (zI v3)), (4, .ref (ad (1, v4))), (7, .int (zI v7))] → ZW D B y ad q u r H → va_S (fun x => B ≤ x) s.heap H locs → zmk q R L0 ad0 (cL u) ad cs ss → W p l e R s m args below meth c H locs cs ss Q (F0 m 75 ls []) := by
      intro k25 hk25 ad u v2 v3 v4 v7 H locs ls cs ss hf hl hW hS hM
      rw [cRunner_runList_75] at hf
      refine lv_aload_n hx hb d_cRunner_runList_75 rfl (lv_at hl 0 rfl) ?_
      refine zg_Ru_tokens M hW (M.2.2.1 _ w_324) d_cRunner_runList_76 ?_
      refine lv_iload hx hb d_cRunner_runList_79 (lv_at hl 4 rfl) ?_
      obtain ⟨p6, g1, hf⟩ := ze1 hf
      refine z_callVi (As := [.int (zI v7)]) (rest := []) (k_cTokens_kindAt F _ _ g1) M hml (cw_cTokens_kindAt M.2.2.1 (M.2.2.1 _ w_478) (by rw [hR]; show 1 ≤ 11 * (d + 1); omega) (by rw [hR]; show 21 ≤ 301 * (d + 1); omega)) (zv_Tk hK hW) hB hW hS rfl hl.1 rfl (Nat.le_of_ble_eq_true rfl) d_cRunner_runList_81 (zmk_room hM) (fun H locs hW hS => ?_)
      refine lv_istore (lv' := [(5, .int (zI p6)), (0, .ref (ad (0, 4))), (2, .int (zI v2)), (3, .int (zI v3)), (4, .ref (ad (1, v4))), (7, .int (zI v7))]) hx hb d_cRunner_runList_84 hl (by decide) rfl (fun ls hl => ?_)
      refine lv_iload hx hb d_cRunner_runList_86 (lv_at hl 5 rfl) ?_
      refine z_iconst hx hb d_cRunner_runList_88 ?_
      refine z_iadd hx hb d_cRunner_runList_89 ?_
      refine lv_istore (lv' := [(6, .int (zI (v7 + 1))), (5, .int (zI p6)), (0, .ref (ad (0, 4))), (2, .int (zI v2)), (3, .int (zI v3)), (4, .ref (ad (1, v4))), (7, .int (zI v7))]) hx hb d_cRunner_runList_90 hl (by decide) rfl (fun ls hl => ?_)
      refine lv_goto hx hb d_cRunner_runList_92 rfl ?_
      exact hk25 _ _ _ _ _ _ _ _ _ _ _ _ hf (lv_sub hl [2, 3, 4, 5, 1, 0] rfl) hW hS hM
    have C_25 : ∀ (n : Nat), ∀ (ad : Nat × Nat → Nat) (u : ZC) (v2 : Int) (v3 : Int) (v4 : Nat) (v5 : Int) (v6 : Int) (H : Heap) (locs : List Loc) (ls : Array Slot) (cs ss : Nat), cRunner_runList_25 F (cRunner_runList F d) n u v2 v3 v4 v5 v6 = some (res, uo) → lv_has ls 8 [(0, .ref (ad (0, 4))), (2, .int (zI v2)), (3, .int (zI v3)), (4, .ref (ad (1, v4))), (5, .int (zI v5)), (6, .int (zI v6))] → ZW D B y ad q u r H → va_S (fun x => B ≤ x) s.heap H locs → zmk q R L0 ad0 (cL u) ad cs ss → W p l e R s m args below meth c H locs cs ss Q (F0 m 25 ls []) := by
      intro n
      induction n with
      | zero => intro ad u v2 v3 v4 v5 v6 H locs ls cs ss hf; cases (show (none : Option (Int × ZC)) = some (res, uo) from hf)
      | succ n ih =>
        intro ad u v2 v3 v4 v5 v6 H locs ls cs ss hf hl hW hS hM
        rw [cRunner_runList_25] at hf
        refine lv_iload hx hb d_cRunner_runList_25 (lv_at hl 5 rfl) ?_
        refine lv_iload_n hx hb d_cRunner_runList_27 rfl (lv_at hl 1 rfl) ?_
        refine z_icmp_ge hx hb d_cRunner_runList_28 rfl hf (fun hf => ?_) (fun hf => ?_)
        · refine z_iconst hx hb d_cRunner_runList_95 ?_
          cases hf
          subst hQ
          exact z_retzM hx hb (Or.inr rfl) hr hlocks hB hK hW hS hM d_cRunner_runList_96
        · refine lv_iload hx hb d_cRunner_runList_31 (lv_at hl 5 rfl) ?_
          refine lv_aload_n hx hb d_cRunner_runList_33 rfl (lv_at hl 0 rfl) ?_
          refine zg_Ru_tokens M hW (M.2.2.1 _ w_324) d_cRunner_runList_34 ?_
          refine lv_iload hx hb d_cRunner_runList_37 (lv_at hl 5 rfl) ?_
          refine lv_iload_n hx hb d_cRunner_runList_39 rfl (lv_at hl 1 rfl) ?_
          refine z_iconst hx hb d_cRunner_runList_40 ?_
          refine z_iconst hx hb d_cRunner_runList_41 ?_
          obtain ⟨p2, g2, hf⟩ := ze1 hf
          refine z_callVi (As := [.int (zI v6), .int (zI v2), .int (zI 0), .int (zI 2)]) (rest := [.int (zI v6)]) (k_cTokens_find F _ _ _ _ _ g2) M hml (cw_cTokens_find M.2.2.1 (M.2.2.1 _ w_464) (by rw [hR]; show 2 ≤ 11 * (d + 1); omega) (by rw [hR]; show 48 ≤ 301 * (d + 1); omega)) (zv_Tk hK hW) hB hW hS rfl hl.1 rfl (Nat.le_of_ble_eq_true rfl) d_cRunner_runList_42 (zmk_room hM) (fun H locs hW hS => ?_)
          refine z_mmax hx hb hown M.2.2.1 hml (by rw [hR]; exact Nat.le_of_ble_eq_true rfl) (by rw [hR]; exact Nat.le_of_ble_eq_true rfl) hl.1 (Nat.le_of_ble_eq_true rfl) (zmk_room hM) (M.2.2.1 _ w_469) d_cRunner_runList_45 ?_
          refine lv_istore (lv' := [(7, .int (zI (zmax v6 p2))), (0, .ref (ad (0, 4))), (2, .int (zI v2)), (3, .int (zI v3)), (4, .ref (ad (1, v4))), (5, .int (zI v5)), (6, .int (zI v6))]) hx hb d_cRunner_runList_48 hl (by decide) rfl (fun ls hl => ?_)
          refine lv_aload_n hx hb d_cRunner_runList_50 rfl (lv_at hl 1 rfl) ?_
          refine lv_iload hx hb d_cRunner_runList_51 (lv_at hl 5 rfl) ?_
          obtain ⟨p3, g3, hf⟩ := ze1 hf
          refine z_callVi (As := [.int (zI v5)]) (rest := []) (k_cRunner_isDue F _ _ g3) M hml (cw_cRunner_isDue M.2.2.1 (M.2.2.1 _ w_470) (by rw [hR]; show 1 ≤ 11 * (d + 1); omega) (by rw [hR]; show 21 ≤ 301 * (d + 1); omega)) (zv_Ru hK hW) hB hW hS rfl hl.1 rfl (Nat.le_of_ble_eq_true rfl) d_cRunner_runList_53 (zmk_room hM) (fun H locs hW hS => ?_)
          refine z_if_eq hx hb d_cRunner_runList_56 rfl hf (fun hf => ?_) (fun hf => ?_)
          · exact C_75 _ ih _ _ _ _ _ _ _ _ _ _ _ hf (lv_sub hl [1, 2, 3, 4, 0] rfl) hW hS hM
          · refine lv_aload_n hx hb d_cRunner_runList_59 rfl (lv_at hl 1 rfl) ?_
            refine lv_iload hx hb d_cRunner_runList_60 (lv_at hl 6 rfl) ?_
            refine lv_iload hx hb d_cRunner_runList_62 (lv_at hl 0 rfl) ?_
            refine lv_iload_n hx hb d_cRunner_runList_64 rfl (lv_at hl 3 rfl) ?_
            refine lv_aload hx hb d_cRunner_runList_65 (lv_at hl 4 rfl) ?_
            obtain ⟨g4, hf⟩ := zg hf
            obtain ⟨p4, u5, g5, hf⟩ := ze2 hf
            have g6 : zgr u u5 := l_cRunner_runPipeline F _ (l_cRunner_runList F d) _ _ _ _ _ g5
            have g7 : zgr u5 uo := by
              rcases zpp hf with ⟨-, hf⟩ | ⟨-, hf⟩
              · exact zgr_tr (zgr_rf u5) (G_75 _ (G_25 n) _ _ _ _ _ hf)
              · exact zgr_f (zgr_rf u5) (congrArg Prod.snd (Option.some.inj hf)).symm rfl
            refine z_callMVi (As := [.int (zI v6), .int (zI (zmax v6 p2)), .int (zI v3), .ref (ad (1, v4))]) (rest := []) (k_cRunner_runPipeline F _ (11 * d) (301 * d) ihd (l_cRunner_runList F d) _ _ _ _ _ g5) M hX hml (cw_cRunner_runPipeline M.2.2.1 (M.2.2.1 _ w_474) (by rw [hR]; show 11 * d + 10 + 1 ≤ 11 * (d + 1); omega) (by rw [hR]; show 8 + (13 + 11) + (301 * d + 269) ≤ 301 * (d + 1); omega)) (zv_Ru hK hW) hB hW hS rfl hl.1 rfl (Nat.le_of_ble_eq_true rfl) d_cRunner_runList_67 hM g6 g7 hRc (fun ad cs ss H locs hag hM hW hS => ?_)
            have hl : lv_has ls 8 [(7, .int (zI (zmax v6 p2))), (0, .ref (ad (0, 4))), (2, .int (zI v2)), (3, .int (zI v3)), (4, .ref (ad (1, v4)))] := by
              rw [hag (0, 4) (zid_f (by decide +kernel)), hag (1, v4) (zid_T g4)]
              exact lv_sub hl [0, 1, 2, 3, 4] rfl
            refine z_if_ne hx hb d_cRunner_runList_70 rfl hf (fun hf => ?_) (fun hf => ?_)
            · exact C_75 _ ih _ _ _ _ _ _ _ _ _ _ _ hf (lv_sub hl [1, 2, 3, 4, 0] rfl) hW hS hM
            · refine z_iconst hx hb d_cRunner_runList_73 ?_
              cases hf
              subst hQ
              exact z_retzM hx hb (Or.inl rfl) hr hlocks hB hK hW hS hM d_cRunner_runList_74
    rw [cRunner_runList] at hf
    refine lv_iload_n hx hb d_cRunner_runList_0 rfl (lv_at hl 3 rfl) ?_
    refine z_iconst hx hb d_cRunner_runList_1 ?_
    refine z_icmp_le hx hb d_cRunner_runList_2 rfl hf (fun hf => ?_) (fun hf => ?_)
    · refine lv_aload_n hx hb d_cRunner_runList_7 rfl (lv_at hl 0 rfl) ?_
      refine zg_Ru_levels M hW (M.2.2.1 _ w_328) d_cRunner_runList_8 ?_
      refine lv_iload_n hx hb d_cRunner_runList_11 rfl (lv_at hl 3 rfl) ?_
      obtain ⟨g8, hf⟩ := zg hf
      refine za_lev M hW g8 d_cRunner_runList_12 ?_
      refine zg_Le_listOutput M hW (zid_L (z_lev g8)) (M.2.2.1 _ w_298) d_cRunner_runList_13 ?_
      obtain ⟨u1, g9, hf⟩ := ze1 hf
      refine z_callVv (As := []) (rest := []) (k_cText_clear F _ _ g9) M hml (cw_cText_clear M.2.2.1 (M.2.2.1 _ w_459) (by rw [hR]; show 1 ≤ 11 * (d + 1); omega) (by rw [hR]; show 20 ≤ 301 * (d + 1); omega)) (zv_Tx hK hW (zid_T (Or.inl (by have := (z_lev g8); omega)))) hB hW hS rfl hl.1 rfl (Nat.le_of_ble_eq_true rfl) d_cRunner_runList_16 (zmk_room hM) (fun H locs hW hS => ?_)
      have hM : zmk q R L0 ad0 (cL u1) ad cs ss := zmk_q (l_cText_clear F _ _ g9) hM
      refine z_iconst hx hb d_cRunner_runList_19 ?_
      refine lv_istore (lv' := [(5, .int (zI 0)), (0, .ref (ad (0, 4))), (1, .int (zI v1)), (2, .int (zI v2)), (3, .int (zI v3)), (4, .ref (ad (1, v4)))]) hx hb d_cRunner_runList_20 hl (by decide) rfl (fun ls hl => ?_)
      refine lv_iload_n hx hb d_cRunner_runList_22 rfl (lv_at hl 2 rfl) ?_
      refine lv_istore (lv' := [(6, .int (zI v1)), (5, .int (zI 0)), (0, .ref (ad (0, 4))), (1, .int (zI v1)), (2, .int (zI v2)), (3, .int (zI v3)), (4, .ref (ad (1, v4)))]) hx hb d_cRunner_runList_23 hl (by decide) rfl (fun ls hl => ?_)
      exact C_25 F _ _ _ _ _ _ _ _ _ _ _ _ hf (lv_sub hl [2, 4, 5, 6, 1, 0] rfl) hW hS hM
    · refine z_iconst hx hb d_cRunner_runList_5 ?_
      cases hf
      subst hQ
      exact z_retzM hx hb (Or.inl rfl) hr hlocks hB hK hW hS hM d_cRunner_runList_6
