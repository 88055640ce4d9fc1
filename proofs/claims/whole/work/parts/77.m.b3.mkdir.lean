set_option maxRecDepth 100000 in
set_option maxHeartbeats 4000000 in
theorem k_cTools_mkdir {l : Launch} {D : va_G} {B : Nat} {y : Nat → ClassId} {ad : Nat × Nat → Nat} {q : Bool} {r : ZR} {sa sv : Nat → Nat} (F : Nat) (u : ZC) {res : Int} {uo : ZC} (hf : cTools_mkdir F u = some (res, uo)) : Met l y_cTools_mkdir (.code y_cTools_mkdir b_cTools_mkdir 1 (some .int) :: zt) { frames := 7, cells := (cL uo).length - (cL u).length, slots := 160 * ((cL uo).length - (cL u).length), locals := 192 } (va_Pc [.ref (ad (0, 6))] (fun U => ZP D B y ad q u r U ∧ zX B sa sv U)) (va_Qi (fun v (ad2 : Nat × Nat → Nat) => v = zI res ∧ ∀ j, j ∈ zid q u → ad2 j = ad j) (fun ad2 t => ZP D B y ad2 q uo r t) (fun x => B ≤ x)) ((cL uo).length - (cL u).length) (160 * ((cL uo).length - (cL u).length)) (fun x => B ≤ x) := by
  refine Met.ofW (cc := b_cTools_mkdir) (maxL := 1) (ret := (some .int)) (by decide) rfl ?_
  intro p e s m args below meth c s₁ Bd hml hv
  obtain ⟨hargs, ⟨hB, hW, hK⟩, hX⟩ := hv
  have hx := Bd.exec
  have hb := Bd.bytes
  have hr := Bd.returns
  have hts0 := atoms_spec (ws := .code y_cTools_mkdir b_cTools_mkdir 1 (some .int) :: zt) Bd.pre
  have hown : s.vm.findClass "TreeShell$Tools" = some m.cls := findClass_of_methodNamed Bd.named
  have hlocks := Bd.notSynchronized
  have M : ZM p c b_cTools_mkdir s args m "TreeShell$Tools" D y := ⟨hx, hb, fun w h => hts0 w (List.mem_cons_of_mem _ h), hown, hK⟩
  have hS : va_S (fun x => B ≤ x) s.heap s.heap [] := va_S.rf
  have hE := lg_entry_eq m ([.ref (ad (0, 6))] : List Value) 1
  rw [← hargs] at hE
  rw [hE]
  have hl := lv_entry ([.ref (ad (0, 6))] : List Value) (n := 1) (Nat.le_of_ble_eq_true rfl)
  generalize (lg_sl ([.ref (ad (0, 6))] : List Value) ++ List.replicate (1 - (lg_sl ([.ref (ad (0, 6))] : List Value)).length) Slot.unset).toArray = ls at hl ⊢
  have hl : lv_has ls 1 [(0, .ref (ad (0, 6)))] := hl
  refine z_startM (fun Q R L0 ad0 cs ss hQ hR hL0 hM => ?_)
  have hRc : R.cells = (cL uo).length - L0.length ∧ R.slots = 160 * ((cL uo).length - L0.length) := by rw [hR, hL0]; exact ⟨rfl, rfl⟩
  generalize hH : s.heap = H at hW
  have hS : va_S (fun x => B ≤ x) s.heap H [] := by rw [← hH]; exact hS
  rw [cTools_mkdir] at hf
  refine lv_aload_n hx hb d_cTools_mkdir_0 rfl (lv_at hl 0 rfl) ?_
  refine zg_To_words M hW (M.2.2.1 _ w_283) d_cTools_mkdir_1 ?_
  refine zg_Wo_count M hW (M.2.2.1 _ w_267) d_cTools_mkdir_4 ?_
  refine z_iconst hx hb d_cTools_mkdir_7 ?_
  refine z_icmp_eq hx hb d_cTools_mkdir_8 rfl hf (fun hf => ?_) (fun hf => ?_)
  · refine lv_aload_n hx hb d_cTools_mkdir_13 rfl (lv_at hl 0 rfl) ?_
    refine zg_To_tree M hW (M.2.2.1 _ w_284) d_cTools_mkdir_14 ?_
    refine lv_aload_n hx hb d_cTools_mkdir_17 rfl (lv_at hl 0 rfl) ?_
    refine zg_To_words M hW (M.2.2.1 _ w_283) d_cTools_mkdir_18 ?_
    refine z_iconst hx hb d_cTools_mkdir_21 ?_
    obtain ⟨p1, u2, g1, hf⟩ := ze2 hf
    refine z_callVq (As := [.ref (ad (0, 5)), .int (zI 1)]) (rest := []) (k_cTree_follow F _ _ g1) M hml (cw_cTree_follow M.2.2.1 (M.2.2.1 _ w_638) (by rw [hR]; exact Nat.le_of_ble_eq_true rfl) (by rw [hR]; exact Nat.le_of_ble_eq_true rfl)) (zv_Tr hK hW) hB hW hS rfl hl.1 rfl (Nat.le_of_ble_eq_true rfl) d_cTools_mkdir_22 (zmk_room hM) (fun H locs hW hS => ?_)
    have hM : zmk q R L0 ad0 (cL u2) ad cs ss := zmk_q (l_cTree_follow F _ _ g1) hM
    refine lv_pop hx hb d_cTools_mkdir_25 (zrf_cat _) ?_
    refine lv_aload_n hx hb d_cTools_mkdir_26 rfl (lv_at hl 0 rfl) ?_
    refine zg_To_tree M hW (M.2.2.1 _ w_284) d_cTools_mkdir_27 ?_
    refine zg_Tr_vacantIn M hW (M.2.2.1 _ w_222) d_cTools_mkdir_30 ?_
    obtain ⟨o3, g2, hf⟩ := ze1 hf
    have g2 := Option.some.inj g2
    rw [g2]
    refine z_ifnonnull hx hb d_cTools_mkdir_33 rfl hf (fun hyg3 hn => ?_) (fun n4 hn hyg3 => ?_)
    · subst hn
      have hf := hyg3
      have hl : lv_has ls 1 [(0, .ref (ad (0, 6)))] := hl
      refine z_iconst hx hb d_cTools_mkdir_36 ?_
      cases hf
      subst hQ
      exact z_retiM hx hb hr hlocks hB hK hW hS hM d_cTools_mkdir_37
    · subst hn
      have hf := hyg3
      have hl : lv_has ls 1 [(0, .ref (ad (0, 6)))] := hl
      refine lv_aload_n hx hb d_cTools_mkdir_38 rfl (lv_at hl 0 rfl) ?_
      refine zg_To_tree M hW (M.2.2.1 _ w_284) d_cTools_mkdir_39 ?_
      refine z_iconst hx hb d_cTools_mkdir_42 ?_
      obtain ⟨p5, u6, g4, hf⟩ := ze2 hf
      have g5 : zgr u2 u6 := l_cTree_make F _ _ g4
      have g6 : zgr u6 uo := by
        obtain ⟨x8, l501, hf⟩ := ze1 hf
        exact zgr_f (zgr_rf u6) (congrArg Prod.snd (Option.some.inj hf)).symm rfl
      refine z_callMVq (As := [.int (zI 0)]) (rest := []) (k_cTree_make F _ _ g4) M hX hml (cw_cTree_make M.2.2.1 (M.2.2.1 _ w_679) (by rw [hR]; exact Nat.le_of_ble_eq_true rfl) (by rw [hR]; exact Nat.le_of_ble_eq_true rfl)) (zv_Tr hK hW) hB hW hS rfl hl.1 rfl (Nat.le_of_ble_eq_true rfl) d_cTools_mkdir_43 hM g5 g6 hRc (fun ad cs ss H locs hag hM hW hS => ?_)
      have hl : lv_has ls 1 [] := by
        exact lv_sub hl [] rfl
      obtain ⟨x8, g7, hf⟩ := ze1 hf
      have J7 : ∀ (ad : Nat × Nat → Nat) (H : Heap) (locs : List Loc) (ls : Array Slot) (cs ss : Nat), lv_has ls 1 [] → ZW D B y ad q u6 r H → va_S (fun x => B ≤ x) s.heap H locs → zmk q R L0 ad0 (cL u6) ad cs ss → W p l e R s m args below meth c H locs cs ss Q (F0 m 55 ls [.int (zI x8)]) := by
        intro ad H locs ls cs ss hl hW hS hM
        cases hf
        subst hQ
        exact z_retiM hx hb hr hlocks hB hK hW hS hM d_cTools_mkdir_55
      refine z_ifnonnull hx hb d_cTools_mkdir_46 rfl g7 (fun hyg8 hn => ?_) (fun n7 hn hyg8 => ?_)
      · subst hn
        have g7 := hyg8
        have hl : lv_has ls 1 [] := hl
        refine z_bipush hx hb d_cTools_mkdir_49 rfl ?_
        refine lv_goto hx hb d_cTools_mkdir_51 rfl ?_
        cases g7
        exact J7 _ _ _ _ _ _ (lv_sub hl [] rfl) hW hS hM
      · subst hn
        have g7 := hyg8
        have hl : lv_has ls 1 [] := hl
        refine z_iconst hx hb d_cTools_mkdir_54 ?_
        cases g7
        exact J7 _ _ _ _ _ _ (lv_sub hl [] rfl) hW hS hM
  · refine z_iconst hx hb d_cTools_mkdir_11 ?_
    cases hf
    subst hQ
    exact z_retiM hx hb hr hlocks hB hK hW hS hM d_cTools_mkdir_12
