set_option maxRecDepth 100000 in
set_option maxHeartbeats 4000000 in
theorem k_cRunner_runGroup {l : Launch} {D : va_G} {B : Nat} {y : Nat → ClassId} {ad : Nat × Nat → Nat} {q : Bool} {r : ZR} {sa sv : Nat → Nat} (F : Nat) (rec : ZC → Int → Int → Int → Nat → Option (Int × ZC)) (fr lo : Nat) (hrec : ∀ (ad : Nat × Nat → Nat) (u : ZC) (v1 : Int) (v2 : Int) (v3 : Int) (v4 : Nat) (res : Int) (uo : ZC), rec u v1 v2 v3 v4 = some (res, uo) → Met l y_cRunner_runList (.code y_cRunner_runList b_cRunner_runList 8 (some .boolean) :: zt) { frames := fr, cells := (cL uo).length - (cL u).length, slots := 160 * ((cL uo).length - (cL u).length), locals := lo } (va_Pc [.ref (ad (0, 4)), .int (zI v1), .int (zI v2), .int (zI v3), .ref (ad (1, v4))] (fun U => ZP D B y ad q u r U ∧ zX B sa sv U)) (va_Qi (fun v (ad2 : Nat × Nat → Nat) => v = zI res ∧ ∀ j, j ∈ zid q u → ad2 j = ad j) (fun ad2 t => ZP D B y ad2 q uo r t) (fun x => B ≤ x)) ((cL uo).length - (cL u).length) (160 * ((cL uo).length - (cL u).length)) (fun x => B ≤ x)) (hrg : ∀ (u : ZC) (v1 : Int) (v2 : Int) (v3 : Int) (v4 : Nat) (res : Int) (uo : ZC), rec u v1 v2 v3 v4 = some (res, uo) → zgr u uo) (u : ZC) (v1 : Int) (v2 : Int) (v3 : Int) (v4 : Nat) {res : Int} {uo : ZC} (hf : cRunner_runGroup F rec u v1 v2 v3 v4 = some (res, uo)) : Met l y_cRunner_runGroup (.code y_cRunner_runGroup b_cRunner_runGroup 7 (some .int) :: zt) { frames := fr + 7, cells := (cL uo).length - (cL u).length, slots := 160 * ((cL uo).length - (cL u).length), locals := lo + 190 } (va_Pc [.ref (ad (0, 4)), .int (zI v1), .int (zI v2), .int (zI v3), .ref (ad (1, v4))] (fun U => ZP D B y ad q u r U ∧ zX B sa sv U)) (va_Qi (fun v (ad2 : Nat × Nat → Nat) => v = zI res ∧ ∀ j, j ∈ zid q u → ad2 j = ad j) (fun ad2 t => ZP D B y ad2 q uo r t) (fun x => B ≤ x)) ((cL uo).length - (cL u).length) (160 * ((cL uo).length - (cL u).length)) (fun x => B ≤ x) := by
  refine Met.ofW (cc := b_cRunner_runGroup) (maxL := 7) (ret := (some .int)) (by decide) rfl ?_
  intro p e s m args below meth c s₁ Bd hml hv
  obtain ⟨hargs, ⟨hB, hW, hK⟩, hX⟩ := hv
  have hx := Bd.exec
  have hb := Bd.bytes
  have hr := Bd.returns
  have hts0 := atoms_spec (ws := .code y_cRunner_runGroup b_cRunner_runGroup 7 (some .int) :: zt) Bd.pre
  have hown : s.vm.findClass "TreeShell$Runner" = some m.cls := findClass_of_methodNamed Bd.named
  have hlocks := Bd.notSynchronized
  have M : ZM p c b_cRunner_runGroup s args m "TreeShell$Runner" D y := ⟨hx, hb, fun w h => hts0 w (List.mem_cons_of_mem _ h), hown, hK⟩
  have hS : va_S (fun x => B ≤ x) s.heap s.heap [] := va_S.rf
  have hE := lg_entry_eq m ([.ref (ad (0, 4)), .int (zI v1), .int (zI v2), .int (zI v3), .ref (ad (1, v4))] : List Value) 7
  rw [← hargs] at hE
  rw [hE]
  have hl := lv_entry ([.ref (ad (0, 4)), .int (zI v1), .int (zI v2), .int (zI v3), .ref (ad (1, v4))] : List Value) (n := 7) (Nat.le_of_ble_eq_true rfl)
  generalize (lg_sl ([.ref (ad (0, 4)), .int (zI v1), .int (zI v2), .int (zI v3), .ref (ad (1, v4))] : List Value) ++ List.replicate (7 - (lg_sl ([.ref (ad (0, 4)), .int (zI v1), .int (zI v2), .int (zI v3), .ref (ad (1, v4))] : List Value)).length) Slot.unset).toArray = ls at hl ⊢
  have hl : lv_has ls 7 [(0, .ref (ad (0, 4))), (1, .int (zI v1)), (2, .int (zI v2)), (3, .int (zI v3)), (4, .ref (ad (1, v4)))] := hl
  refine z_startM (fun Q R L0 ad0 cs ss hQ hR hL0 hM => ?_)
  have hRc : R.cells = (cL uo).length - L0.length ∧ R.slots = 160 * ((cL uo).length - L0.length) := by rw [hR, hL0]; exact ⟨rfl, rfl⟩
  generalize hH : s.heap = H at hW
  have hS : va_S (fun x => B ≤ x) s.heap H [] := by rw [← hH]; exact hS
  rw [cRunner_runGroup] at hf
  refine lv_aload_n hx hb d_cRunner_runGroup_0 rfl (lv_at hl 0 rfl) ?_
  refine zg_Ru_tree M hW (M.2.2.1 _ w_325) d_cRunner_runGroup_1 ?_
  refine zg_Tr_here M hW (M.2.2.1 _ w_211) d_cRunner_runGroup_4 ?_
  obtain ⟨o1, g1, hf⟩ := ze1 hf
  have g1 := Option.some.inj g1
  rw [g1]
  refine z_astore (lv2 := [(5, zrf ad 3 o1), (0, .ref (ad (0, 4))), (1, .int (zI v1)), (2, .int (zI v2)), (3, .int (zI v3)), (4, .ref (ad (1, v4)))]) hx hb d_cRunner_runGroup_7 hl (by decide) rfl (fun ls hl => ?_)
  refine lv_aload_n hx hb d_cRunner_runGroup_9 rfl (lv_at hl 1 rfl) ?_
  refine lv_iload_n hx hb d_cRunner_runGroup_10 rfl (lv_at hl 2 rfl) ?_
  refine lv_iload_n hx hb d_cRunner_runGroup_11 rfl (lv_at hl 3 rfl) ?_
  refine lv_iload_n hx hb d_cRunner_runGroup_12 rfl (lv_at hl 4 rfl) ?_
  refine z_iconst hx hb d_cRunner_runGroup_13 ?_
  refine z_iadd hx hb d_cRunner_runGroup_14 ?_
  refine lv_aload hx hb d_cRunner_runGroup_15 (lv_at hl 5 rfl) ?_
  obtain ⟨g2, hf⟩ := zg hf
  obtain ⟨p2, u3, g3, hf⟩ := ze2 hf
  have g4 : zgr u u3 := hrg _ _ _ _ _ _ _ g3
  have g5 : zgr u3 uo := by
    rcases zpp hf with ⟨-, hf⟩ | ⟨-, hf⟩
    · obtain ⟨-, hf⟩ := zg hf
      obtain ⟨-, hf⟩ := zg hf
      obtain ⟨p4, u5, l501, hf⟩ := ze2 hf
      have l502 : zgr (sP u3 1 0 o1) u5 := zgr_q (l_cText_addAll F _ _ _ l501)
      exact zgr_f (zgr_tr (zgr_rf u3) (l502)) (congrArg Prod.snd (Option.some.inj hf)).symm rfl
    · exact zgr_f (zgr_rf u3) (congrArg Prod.snd (Option.some.inj hf)).symm rfl
  refine z_callMVi (As := [.int (zI v1), .int (zI v2), .int (zI (v3 + 1)), .ref (ad (1, v4))]) (rest := []) (hrec _ _ _ _ _ _ _ _ g3) M hX hml (cw_cRunner_runList M.2.2.1 (M.2.2.1 _ w_558) (by rw [hR]; show fr + 1 ≤ fr + 7; omega) (by rw [hR]; show 8 + (8 + 11) + (lo) ≤ lo + 190; omega)) (zv_Ru hK hW) hB hW hS rfl hl.1 rfl (Nat.le_of_ble_eq_true rfl) d_cRunner_runGroup_17 hM g4 g5 hRc (fun ad cs ss H locs hag hM hW hS => ?_)
  have hl : lv_has ls 7 [(5, zrf ad 3 o1), (0, .ref (ad (0, 4))), (3, .int (zI v3))] := by
    rw [zrf_ag hag g2, hag (0, 4) (zid_f (by decide +kernel))]
    exact lv_sub hl [0, 1, 4] rfl
  refine lv_istore (lv' := [(6, .int (zI p2)), (5, zrf ad 3 o1), (0, .ref (ad (0, 4))), (3, .int (zI v3))]) hx hb d_cRunner_runGroup_20 hl (by decide) (by simp only [List.filter, zrf_cat] <;> rfl) (fun ls hl => ?_)
  refine lv_aload_n hx hb d_cRunner_runGroup_22 rfl (lv_at hl 2 rfl) ?_
  refine zg_Ru_tree M hW (M.2.2.1 _ w_325) d_cRunner_runGroup_23 ?_
  refine z_aload hx hb d_cRunner_runGroup_26 (lv_at hl 1 rfl) ?_
  refine zp_Tr_here (v := o1) M hW hS (M.2.2.1 _ w_211) d_cRunner_runGroup_28 (fun H locs hW hS => ?_)
  refine lv_iload hx hb d_cRunner_runGroup_31 (lv_at hl 0 rfl) ?_
  refine z_if_ne hx hb d_cRunner_runGroup_33 rfl hf (fun hf => ?_) (fun hf => ?_)
  · refine lv_aload_n hx hb d_cRunner_runGroup_39 rfl (lv_at hl 2 rfl) ?_
    refine zg_Ru_levels M hW (M.2.2.1 _ w_328) d_cRunner_runGroup_40 ?_
    refine lv_iload_n hx hb d_cRunner_runGroup_43 rfl (lv_at hl 3 rfl) ?_
    obtain ⟨g6, hf⟩ := zg hf
    refine za_lev M hW g6 d_cRunner_runGroup_44 ?_
    refine zg_Le_commandOutput M hW (zid_L (z_lev g6)) (M.2.2.1 _ w_300) d_cRunner_runGroup_45 ?_
    refine lv_aload_n hx hb d_cRunner_runGroup_48 rfl (lv_at hl 2 rfl) ?_
    refine zg_Ru_levels M hW (M.2.2.1 _ w_328) d_cRunner_runGroup_49 ?_
    refine lv_iload_n hx hb d_cRunner_runGroup_52 rfl (lv_at hl 3 rfl) ?_
    refine z_iconst hx hb d_cRunner_runGroup_53 ?_
    refine z_iadd hx hb d_cRunner_runGroup_54 ?_
    obtain ⟨g7, hf⟩ := zg hf
    refine za_lev M hW g7 d_cRunner_runGroup_55 ?_
    refine zg_Le_listOutput M hW (zid_L (z_lev g7)) (M.2.2.1 _ w_298) d_cRunner_runGroup_56 ?_
    obtain ⟨p4, u5, g8, hf⟩ := ze2 hf
    refine z_callVi (As := [.ref (ad (1, (3 + 4 * (v3 + 1).toNat)))]) (rest := []) (k_cText_addAll F _ _ _ g8) M hml (cw_cText_addAll M.2.2.1 (M.2.2.1 _ w_528) (by rw [hR]; show 7 ≤ fr + 7; omega) (by rw [hR]; show 190 ≤ lo + 190; omega)) (zv_Tx hK hW (zid_T (Or.inl (by have := (z_lev g6); omega)))) hB hW hS rfl hl.1 rfl (Nat.le_of_ble_eq_true rfl) d_cRunner_runGroup_59 (zmk_room hM) (fun H locs hW hS => ?_)
    have hM : zmk q R L0 ad0 (cL u5) ad cs ss := zmk_q (l_cText_addAll F _ _ _ g8) hM
    refine lv_pop hx hb d_cRunner_runGroup_62 rfl ?_
    refine lv_aload_n hx hb d_cRunner_runGroup_63 rfl (lv_at hl 2 rfl) ?_
    refine zg_Ru_status M hW (M.2.2.1 _ w_329) d_cRunner_runGroup_64 ?_
    cases hf
    subst hQ
    exact z_retiM hx hb hr hlocks hB hK hW hS hM d_cRunner_runGroup_67
  · refine z_bipush hx hb d_cRunner_runGroup_36 rfl ?_
    cases hf
    subst hQ
    exact z_retiM hx hb hr hlocks hB hK hW hS hM d_cRunner_runGroup_38
