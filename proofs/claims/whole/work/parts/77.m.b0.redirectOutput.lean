set_option maxRecDepth 100000 in
set_option maxHeartbeats 4000000 in
theorem k_cRunner_redirectOutput {l : Launch} {D : va_G} {B : Nat} {y : Nat → ClassId} {ad : Nat × Nat → Nat} {q : Bool} {r : ZR} {sa sv : Nat → Nat} (F : Nat) (u : ZC) (v1 : Nat) (v2 : Int) {res : Int} {uo : ZC} (hf : cRunner_redirectOutput F u v1 v2 = some (res, uo)) : Met l y_cRunner_redirectOutput (.code y_cRunner_redirectOutput b_cRunner_redirectOutput 4 (some .int) :: zt) { frames := 7, cells := (cL uo).length - (cL u).length, slots := 160 * ((cL uo).length - (cL u).length), locals := 192 } (va_Pc [.ref (ad (0, 4)), .ref (ad (4, v1)), .int (zI v2)] (fun U => ZP D B y ad q u r U ∧ zX B sa sv U)) (va_Qi (fun v (ad2 : Nat × Nat → Nat) => v = zI res ∧ ∀ j, j ∈ zid q u → ad2 j = ad j) (fun ad2 t => ZP D B y ad2 q uo r t) (fun x => B ≤ x)) ((cL uo).length - (cL u).length) (160 * ((cL uo).length - (cL u).length)) (fun x => B ≤ x) := by
  refine Met.ofW (cc := b_cRunner_redirectOutput) (maxL := 4) (ret := (some .int)) (by decide) rfl ?_
  intro p e s m args below meth c s₁ Bd hml hv
  obtain ⟨hargs, ⟨hB, hW, hK⟩, hX⟩ := hv
  have hx := Bd.exec
  have hb := Bd.bytes
  have hr := Bd.returns
  have hts0 := atoms_spec (ws := .code y_cRunner_redirectOutput b_cRunner_redirectOutput 4 (some .int) :: zt) Bd.pre
  have hown : s.vm.findClass "TreeShell$Runner" = some m.cls := findClass_of_methodNamed Bd.named
  have hlocks := Bd.notSynchronized
  have M : ZM p c b_cRunner_redirectOutput s args m "TreeShell$Runner" D y := ⟨hx, hb, fun w h => hts0 w (List.mem_cons_of_mem _ h), hown, hK⟩
  have hS : va_S (fun x => B ≤ x) s.heap s.heap [] := va_S.rf
  have hE := lg_entry_eq m ([.ref (ad (0, 4)), .ref (ad (4, v1)), .int (zI v2)] : List Value) 4
  rw [← hargs] at hE
  rw [hE]
  have hl := lv_entry ([.ref (ad (0, 4)), .ref (ad (4, v1)), .int (zI v2)] : List Value) (n := 4) (Nat.le_of_ble_eq_true rfl)
  generalize (lg_sl ([.ref (ad (0, 4)), .ref (ad (4, v1)), .int (zI v2)] : List Value) ++ List.replicate (4 - (lg_sl ([.ref (ad (0, 4)), .ref (ad (4, v1)), .int (zI v2)] : List Value)).length) Slot.unset).toArray = ls at hl ⊢
  have hl : lv_has ls 4 [(0, .ref (ad (0, 4))), (1, .ref (ad (4, v1))), (2, .int (zI v2))] := hl
  refine z_startM (fun Q R L0 ad0 cs ss hQ hR hL0 hM => ?_)
  have hRc : R.cells = (cL uo).length - L0.length ∧ R.slots = 160 * ((cL uo).length - L0.length) := by rw [hR, hL0]; exact ⟨rfl, rfl⟩
  generalize hH : s.heap = H at hW
  have hS : va_S (fun x => B ≤ x) s.heap H [] := by rw [← hH]; exact hS
  have G_34 : ∀ (u : ZC) (v1 : Nat) (v2 : Int) (v3 : Option Nat), cRunner_redirectOutput_34 F u v1 v2 v3 = some (res, uo) → zgr u uo := by
    intro u v1 v2 v3 hf
    rw [cRunner_redirectOutput_34] at hf
    obtain ⟨b10, l501, hf⟩ := ze1 hf
    rcases zpp hf with ⟨-, hf⟩ | ⟨-, hf⟩
    · exact zgr_f (zgr_rf u) (congrArg Prod.snd (Option.some.inj hf)).symm rfl
    · obtain ⟨u15, l502, hf⟩ := ze1 hf
      have l503 : zgr u u15 := by
        rcases zpp l502 with ⟨-, l502⟩ | ⟨-, l502⟩
        · exact zgr_f (zgr_rf u) ((Option.some.inj l502)).symm rfl
        · obtain ⟨n11, -, l502⟩ := zes l502
          obtain ⟨-, l502⟩ := zg l502
          obtain ⟨o12, l504, l502⟩ := ze1 l502
          obtain ⟨n13, -, l502⟩ := zes l502
          obtain ⟨u14, l505, l502⟩ := ze1 l502
          have l506 : zgr u u14 := zgr_q (l_cTree_empty F _ _ l505)
          exact zgr_f (zgr_tr (zgr_rf u) (l506)) ((Option.some.inj l502)).symm rfl
      obtain ⟨n16, -, hf⟩ := zes hf
      obtain ⟨-, hf⟩ := zg hf
      obtain ⟨o17, l507, hf⟩ := ze1 hf
      obtain ⟨-, hf⟩ := zg hf
      exact zgr_f (zgr_tr (zgr_rf u) (l503)) (congrArg Prod.snd (Option.some.inj hf)).symm rfl
  have C_34 : ∀ (ad : Nat × Nat → Nat) (u : ZC) (v1 : Nat) (v2 : Int) (v3 : Option Nat) (H : Heap) (locs : List Loc) (ls : Array Slot) (cs ss : Nat), cRunner_redirectOutput_34 F u v1 v2 v3 = some (res, uo) → lv_has ls 4 [(0, .ref (ad (0, 4))), (1, .ref (ad (4, v1))), (2, .int (zI v2)), (3, zrf ad 3 v3)] → ZW D B y ad q u r H → va_S (fun x => B ≤ x) s.heap H locs → zmk q R L0 ad0 (cL u) ad cs ss → W p l e R s m args below meth c H locs cs ss Q (F0 m 34 ls []) := by
    intro ad u v1 v2 v3 H locs ls cs ss hf hl hW hS hM
    rw [cRunner_redirectOutput_34] at hf
    refine z_aload_n hx hb d_cRunner_redirectOutput_34 rfl (lv_at hl 3 rfl) ?_
    obtain ⟨b10, g1, hf⟩ := ze1 hf
    have JT1 : b10 = true → ∀ (H : Heap) (locs : List Loc), ZW D B y ad q u r H → va_S (fun x => B ≤ x) s.heap H locs → zmk q R L0 ad0 (cL u) ad cs ss → W p l e R s m args below meth c H locs cs ss Q (F0 m 45 ls []) := by
      intro hv H locs hW hS hM
      have hf := zp (hv) hf
      refine z_iconst hx hb d_cRunner_redirectOutput_45 ?_
      cases hf
      subst hQ
      exact z_retiM hx hb hr hlocks hB hK hW hS hM d_cRunner_redirectOutput_46
    have JF1 : b10 = false → ∀ (H : Heap) (locs : List Loc), ZW D B y ad q u r H → va_S (fun x => B ≤ x) s.heap H locs → zmk q R L0 ad0 (cL u) ad cs ss → W p l e R s m args below meth c H locs cs ss Q (F0 m 47 ls []) := by
      intro hv H locs hW hS hM
      have hf := zn (by rw [hv]; decide) hf
      refine lv_iload_n hx hb d_cRunner_redirectOutput_47 rfl (lv_at hl 2 rfl) ?_
      obtain ⟨u15, g2, hf⟩ := ze1 hf
      have J2 : ∀ (ad : Nat × Nat → Nat) (H : Heap) (locs : List Loc) (ls : Array Slot) (cs ss : Nat), lv_has ls 4 [(1, .ref (ad (4, v1))), (3, zrf ad 3 v3)] → ZW D B y ad q u15 r H → va_S (fun x => B ≤ x) s.heap H locs → zmk q R L0 ad0 (cL u15) ad cs ss → W p l e R s m args below meth c H locs cs ss Q (F0 m 62 ls []) := by
        intro ad H locs ls cs ss hl hW hS hM
        refine lv_aload_n hx hb d_cRunner_redirectOutput_62 rfl (lv_at hl 0 rfl) ?_
        refine z_aload_n hx hb d_cRunner_redirectOutput_63 rfl (lv_at hl 1 rfl) ?_
        obtain ⟨n16, hn, hyg3⟩ := zes hf
        subst hn
        have hf := hyg3
        have hl : lv_has ls 4 [(1, .ref (ad (4, v1))), (3, .ref (ad (3, n16)))] := hl
        obtain ⟨g4, hf⟩ := zg hf
        refine zg_No_content M hW (zid_N g4) (M.2.2.1 _ w_192) d_cRunner_redirectOutput_64 ?_
        obtain ⟨o17, g5, hf⟩ := ze1 hf
        have g5 := Option.some.inj g5
        rw [g5]
        obtain ⟨g6, hf⟩ := zg hf
        refine zp_Le_target (v := o17) M hW hS (zid_L g6) (M.2.2.1 _ w_308) d_cRunner_redirectOutput_67 (fun H locs hW hS => ?_)
        refine z_iconst hx hb d_cRunner_redirectOutput_70 ?_
        cases hf
        subst hQ
        exact z_retiM hx hb hr hlocks hB hK hW hS hM d_cRunner_redirectOutput_71
      refine z_if_eq hx hb d_cRunner_redirectOutput_48 rfl g2 (fun g2 => ?_) (fun g2 => ?_)
      · cases g2
        exact J2 _ _ _ _ _ _ (lv_sub hl [1, 3] rfl) hW hS hM
      · refine lv_aload_n hx hb d_cRunner_redirectOutput_51 rfl (lv_at hl 0 rfl) ?_
        refine zg_Ru_tree M hW (M.2.2.1 _ w_325) d_cRunner_redirectOutput_52 ?_
        refine z_aload_n hx hb d_cRunner_redirectOutput_55 rfl (lv_at hl 3 rfl) ?_
        obtain ⟨n11, hn, hyg7⟩ := zes g2
        subst hn
        have g2 := hyg7
        have hl : lv_has ls 4 [(0, .ref (ad (0, 4))), (1, .ref (ad (4, v1))), (2, .int (zI v2)), (3, .ref (ad (3, n11)))] := hl
        obtain ⟨g8, g2⟩ := zg g2
        refine zg_No_content M hW (zid_N g8) (M.2.2.1 _ w_192) d_cRunner_redirectOutput_56 ?_
        obtain ⟨o12, g9, g2⟩ := ze1 g2
        have g9 := Option.some.inj g9
        rw [g9]
        obtain ⟨n13, hn, hyg10⟩ := zes g2
        subst hn
        have g2 := hyg10
        have hl : lv_has ls 4 [(0, .ref (ad (0, 4))), (1, .ref (ad (4, v1))), (2, .int (zI v2)), (3, .ref (ad (3, n11)))] := hl
        obtain ⟨u14, g11, g2⟩ := ze1 g2
        refine z_callVv (As := [.ref (ad (1, n13))]) (rest := []) (k_cTree_empty F _ _ g11) M hml (cw_cTree_empty M.2.2.1 (M.2.2.1 _ w_549) (by rw [hR]; exact Nat.le_of_ble_eq_true rfl) (by rw [hR]; exact Nat.le_of_ble_eq_true rfl)) (zv_Tr hK hW) hB hW hS rfl hl.1 rfl (Nat.le_of_ble_eq_true rfl) d_cRunner_redirectOutput_59 (zmk_room hM) (fun H locs hW hS => ?_)
        have hM : zmk q R L0 ad0 (cL u14) ad cs ss := zmk_q (l_cTree_empty F _ _ g11) hM
        cases g2
        exact J2 _ _ _ _ _ _ (lv_sub hl [1, 3] rfl) hW hS hM
    refine z_ifnull hx hb d_cRunner_redirectOutput_35 rfl g1 (fun hyg12 hn => ?_) (fun n7 hn hyg12 => ?_)
    · subst hn
      have g1 := hyg12
      have hl : lv_has ls 4 [(0, .ref (ad (0, 4))), (1, .ref (ad (4, v1))), (2, .int (zI v2)), (3, .null)] := hl
      exact JT1 (Option.some.inj g1).symm _ _ hW hS hM
    · subst hn
      have g1 := hyg12
      have hl : lv_has ls 4 [(0, .ref (ad (0, 4))), (1, .ref (ad (4, v1))), (2, .int (zI v2)), (3, .ref (ad (3, n7)))] := hl
      refine lv_aload_n hx hb d_cRunner_redirectOutput_38 rfl (lv_at hl 3 rfl) ?_
      obtain ⟨g13, g1⟩ := zg g1
      refine zg_No_content M hW (zid_N g13) (M.2.2.1 _ w_192) d_cRunner_redirectOutput_39 ?_
      obtain ⟨o8, g14, g1⟩ := ze1 g1
      have g14 := Option.some.inj g14
      rw [g14]
      refine z_ifnonnull hx hb d_cRunner_redirectOutput_42 rfl g1 (fun hyg15 hn => ?_) (fun n9 hn hyg15 => ?_)
      · subst hn
        have g1 := hyg15
        have hl : lv_has ls 4 [(0, .ref (ad (0, 4))), (1, .ref (ad (4, v1))), (2, .int (zI v2)), (3, .ref (ad (3, n7)))] := hl
        exact JT1 (Option.some.inj g1).symm _ _ hW hS hM
      · subst hn
        have g1 := hyg15
        have hl : lv_has ls 4 [(0, .ref (ad (0, 4))), (1, .ref (ad (4, v1))), (2, .int (zI v2)), (3, .ref (ad (3, n7)))] := hl
        exact JF1 (Option.some.inj g1).symm _ _ hW hS hM
  rw [cRunner_redirectOutput] at hf
  refine lv_aload_n hx hb d_cRunner_redirectOutput_0 rfl (lv_at hl 0 rfl) ?_
  refine zg_Ru_tree M hW (M.2.2.1 _ w_325) d_cRunner_redirectOutput_1 ?_
  refine zg_Tr_found M hW (M.2.2.1 _ w_220) d_cRunner_redirectOutput_4 ?_
  obtain ⟨o1, g16, hf⟩ := ze1 hf
  have g16 := Option.some.inj g16
  rw [g16]
  refine z_astore_n (lv2 := [(3, zrf ad 3 o1), (0, .ref (ad (0, 4))), (1, .ref (ad (4, v1))), (2, .int (zI v2))]) hx hb d_cRunner_redirectOutput_7 rfl hl (by decide) rfl (fun ls hl => ?_)
  refine lv_aload_n hx hb d_cRunner_redirectOutput_8 rfl (lv_at hl 1 rfl) ?_
  refine zg_Ru_tree M hW (M.2.2.1 _ w_325) d_cRunner_redirectOutput_9 ?_
  refine zg_Tr_vacantIn M hW (M.2.2.1 _ w_223) d_cRunner_redirectOutput_12 ?_
  obtain ⟨o2, g17, hf⟩ := ze1 hf
  have g17 := Option.some.inj g17
  rw [g17]
  refine z_ifnull hx hb d_cRunner_redirectOutput_15 rfl hf (fun hyg18 hn => ?_) (fun n3 hn hyg18 => ?_)
  · subst hn
    have hf := hyg18
    have hl : lv_has ls 4 [(3, zrf ad 3 o1), (0, .ref (ad (0, 4))), (1, .ref (ad (4, v1))), (2, .int (zI v2))] := hl
    exact C_34 _ _ _ _ _ _ _ _ _ _ hf (lv_sub hl [1, 2, 3, 0] rfl) hW hS hM
  · subst hn
    have hf := hyg18
    have hl : lv_has ls 4 [(3, zrf ad 3 o1), (0, .ref (ad (0, 4))), (1, .ref (ad (4, v1))), (2, .int (zI v2))] := hl
    refine lv_aload_n hx hb d_cRunner_redirectOutput_18 rfl (lv_at hl 1 rfl) ?_
    refine zg_Ru_tree M hW (M.2.2.1 _ w_325) d_cRunner_redirectOutput_19 ?_
    refine z_iconst hx hb d_cRunner_redirectOutput_22 ?_
    obtain ⟨g19, hf⟩ := zg hf
    obtain ⟨p4, u5, g20, hf⟩ := ze2 hf
    have g21 : zgr u u5 := l_cTree_make F _ _ g20
    have g22 : zgr u5 uo := by
      rcases zel hf with ⟨-, hf⟩ | ⟨n6, -, hf⟩
      · exact zgr_f (zgr_rf u5) (congrArg Prod.snd (Option.some.inj hf)).symm rfl
      · exact zgr_tr (zgr_rf u5) (G_34 _ _ _ _ hf)
    refine z_callMVq (As := [.int (zI 1)]) (rest := []) (k_cTree_make F _ _ g20) M hX hml (cw_cTree_make M.2.2.1 (M.2.2.1 _ w_543) (by rw [hR]; exact Nat.le_of_ble_eq_true rfl) (by rw [hR]; exact Nat.le_of_ble_eq_true rfl)) (zv_Tr hK hW) hB hW hS rfl hl.1 rfl (Nat.le_of_ble_eq_true rfl) d_cRunner_redirectOutput_23 hM g21 g22 hRc (fun ad cs ss H locs hag hM hW hS => ?_)
    have hl : lv_has ls 4 [(0, .ref (ad (0, 4))), (1, .ref (ad (4, v1))), (2, .int (zI v2))] := by
      rw [hag (0, 4) (zid_f (by decide +kernel)), hag (4, v1) (zid_L g19)]
      exact lv_sub hl [1, 2, 3] rfl
    refine z_astore_n (lv2 := [(3, zrf ad 3 p4), (0, .ref (ad (0, 4))), (1, .ref (ad (4, v1))), (2, .int (zI v2))]) hx hb d_cRunner_redirectOutput_26 rfl hl (by decide) rfl (fun ls hl => ?_)
    refine z_aload_n hx hb d_cRunner_redirectOutput_27 rfl (lv_at hl 0 rfl) ?_
    refine z_ifnonnull hx hb d_cRunner_redirectOutput_28 rfl hf (fun hyg23 hn => ?_) (fun n6 hn hyg23 => ?_)
    · subst hn
      have hf := hyg23
      have hl : lv_has ls 4 [(3, .null), (0, .ref (ad (0, 4))), (1, .ref (ad (4, v1))), (2, .int (zI v2))] := hl
      refine z_bipush hx hb d_cRunner_redirectOutput_31 rfl ?_
      cases hf
      subst hQ
      exact z_retiM hx hb hr hlocks hB hK hW hS hM d_cRunner_redirectOutput_33
    · subst hn
      have hf := hyg23
      have hl : lv_has ls 4 [(3, .ref (ad (3, n6))), (0, .ref (ad (0, 4))), (1, .ref (ad (4, v1))), (2, .int (zI v2))] := hl
      exact C_34 _ _ _ _ _ _ _ _ _ _ hf (lv_sub hl [1, 2, 3, 0] rfl) hW hS hM
