set_option maxRecDepth 100000 in
set_option maxHeartbeats 4000000 in
theorem k_cRunner_runPipeline {l : Launch} {D : va_G} {B : Nat} {y : Nat → ClassId} {ad : Nat × Nat → Nat} {q : Bool} {r : ZR} {sa sv : Nat → Nat} (F : Nat) (rec : ZC → Int → Int → Int → Nat → Option (Int × ZC)) (fr lo : Nat) (hrec : ∀ (ad : Nat × Nat → Nat) (u : ZC) (v1 : Int) (v2 : Int) (v3 : Int) (v4 : Nat) (res : Int) (uo : ZC), rec u v1 v2 v3 v4 = some (res, uo) → Met l y_cRunner_runList (.code y_cRunner_runList b_cRunner_runList 8 (some .boolean) :: zt) { frames := fr, cells := (cL uo).length - (cL u).length, slots := 160 * ((cL uo).length - (cL u).length), locals := lo } (va_Pc [.ref (ad (0, 4)), .int (zI v1), .int (zI v2), .int (zI v3), .ref (ad (1, v4))] (fun U => ZP D B y ad q u r U ∧ zX B sa sv U)) (va_Qi (fun v (ad2 : Nat × Nat → Nat) => v = zI res ∧ ∀ j, j ∈ zid q u → ad2 j = ad j) (fun ad2 t => ZP D B y ad2 q uo r t) (fun x => B ≤ x)) ((cL uo).length - (cL u).length) (160 * ((cL uo).length - (cL u).length)) (fun x => B ≤ x)) (hrg : ∀ (u : ZC) (v1 : Int) (v2 : Int) (v3 : Int) (v4 : Nat) (res : Int) (uo : ZC), rec u v1 v2 v3 v4 = some (res, uo) → zgr u uo) (u : ZC) (v1 : Int) (v2 : Int) (v3 : Int) (v4 : Nat) {res : Int} {uo : ZC} (hf : cRunner_runPipeline F rec u v1 v2 v3 v4 = some (res, uo)) : Met l y_cRunner_runPipeline (.code y_cRunner_runPipeline b_cRunner_runPipeline 13 (some .boolean) :: zt) { frames := fr + 10, cells := (cL uo).length - (cL u).length, slots := 160 * ((cL uo).length - (cL u).length), locals := lo + 269 } (va_Pc [.ref (ad (0, 4)), .int (zI v1), .int (zI v2), .int (zI v3), .ref (ad (1, v4))] (fun U => ZP D B y ad q u r U ∧ zX B sa sv U)) (va_Qi (fun v (ad2 : Nat × Nat → Nat) => v = zI res ∧ ∀ j, j ∈ zid q u → ad2 j = ad j) (fun ad2 t => ZP D B y ad2 q uo r t) (fun x => B ≤ x)) ((cL uo).length - (cL u).length) (160 * ((cL uo).length - (cL u).length)) (fun x => B ≤ x) := by
  refine Met.ofW (cc := b_cRunner_runPipeline) (maxL := 13) (ret := (some .boolean)) (by decide) rfl ?_
  intro p e s m args below meth c s₁ Bd hml hv
  obtain ⟨hargs, ⟨hB, hW, hK⟩, hX⟩ := hv
  have hx := Bd.exec
  have hb := Bd.bytes
  have hr := Bd.returns
  have hts0 := atoms_spec (ws := .code y_cRunner_runPipeline b_cRunner_runPipeline 13 (some .boolean) :: zt) Bd.pre
  have hown : s.vm.findClass "TreeShell$Runner" = some m.cls := findClass_of_methodNamed Bd.named
  have hlocks := Bd.notSynchronized
  have M : ZM p c b_cRunner_runPipeline s args m "TreeShell$Runner" D y := ⟨hx, hb, fun w h => hts0 w (List.mem_cons_of_mem _ h), hown, hK⟩
  have hS : va_S (fun x => B ≤ x) s.heap s.heap [] := va_S.rf
  have hE := lg_entry_eq m ([.ref (ad (0, 4)), .int (zI v1), .int (zI v2), .int (zI v3), .ref (ad (1, v4))] : List Value) 13
  rw [← hargs] at hE
  rw [hE]
  have hl := lv_entry ([.ref (ad (0, 4)), .int (zI v1), .int (zI v2), .int (zI v3), .ref (ad (1, v4))] : List Value) (n := 13) (Nat.le_of_ble_eq_true rfl)
  generalize (lg_sl ([.ref (ad (0, 4)), .int (zI v1), .int (zI v2), .int (zI v3), .ref (ad (1, v4))] : List Value) ++ List.replicate (13 - (lg_sl ([.ref (ad (0, 4)), .int (zI v1), .int (zI v2), .int (zI v3), .ref (ad (1, v4))] : List Value)).length) Slot.unset).toArray = ls at hl ⊢
  have hl : lv_has ls 13 [(0, .ref (ad (0, 4))), (1, .int (zI v1)), (2, .int (zI v2)), (3, .int (zI v3)), (4, .ref (ad (1, v4)))] := hl
  refine z_startM (fun Q R L0 ad0 cs ss hQ hR hL0 hM => ?_)
  have hRc : R.cells = (cL uo).length - L0.length ∧ R.slots = 160 * ((cL uo).length - L0.length) := by rw [hR, hL0]; exact ⟨rfl, rfl⟩
  generalize hH : s.heap = H at hW
  have hS : va_S (fun x => B ≤ x) s.heap H [] := by rw [← hH]; exact hS
  have G_71 : ∀ (n : Nat), ∀ (u : ZC) (v2 : Int) (v3 : Int) (v5 : Nat) (v6 : Int) (v7 : Int) (v8 : Int) (v9 : Nat) (v10 : Int), cRunner_runPipeline_71 F rec n u v2 v3 v5 v6 v7 v8 v9 v10 = some (res, uo) → zgr u uo := by
    intro n
    induction n with
    | zero => intro u v2 v3 v5 v6 v7 v8 v9 v10 hf; cases (show (none : Option (Int × ZC)) = some (res, uo) from hf)
    | succ n ih =>
      intro u v2 v3 v5 v6 v7 v8 v9 v10 hf
      rw [cRunner_runPipeline_71] at hf
      rcases zpp hf with ⟨-, hf⟩ | ⟨-, hf⟩
      · obtain ⟨x7, l501, hf⟩ := ze1 hf
        obtain ⟨-, hf⟩ := zg hf
        obtain ⟨p8, u9, l502, hf⟩ := ze2 hf
        have l503 : zgr (sI u 8 0 x7) u9 := zgr_q (l_cText_addAll F _ _ _ l502)
        obtain ⟨-, hf⟩ := zg hf
        exact zgr_f (zgr_tr (zgr_rf u) (l503)) (congrArg Prod.snd (Option.some.inj hf)).symm rfl
      · obtain ⟨p10, l504, hf⟩ := ze1 hf
        obtain ⟨o11, l505, hf⟩ := ze1 hf
        obtain ⟨-, hf⟩ := zg hf
        obtain ⟨-, hf⟩ := zg hf
        obtain ⟨-, hf⟩ := zg hf
        obtain ⟨p12, u13, l506, hf⟩ := ze2 hf
        have l507 : zgr u u13 := l_cRunner_runCommand F _ hrg _ _ _ _ _ l506
        obtain ⟨u14, l508, hf⟩ := ze1 hf
        have l509 : zgr u13 u14 := by
          rcases zpp l508 with ⟨-, l508⟩ | ⟨-, l508⟩
          · exact zgr_f (zgr_rf u13) ((Option.some.inj l508)).symm rfl
          · exact zgr_f (zgr_rf u13) ((Option.some.inj l508)).symm rfl
        rcases zpp hf with ⟨-, hf⟩ | ⟨-, hf⟩
        · obtain ⟨x18, u19, l510, hf⟩ := ze2 hf
          have l511 : zgr u14 u19 := by
            rcases zpp l510 with ⟨-, l510⟩ | ⟨-, l510⟩
            · exact zgr_f (zgr_rf u14) (congrArg Prod.snd (Option.some.inj l510)).symm rfl
            · obtain ⟨u15, l512, l510⟩ := ze1 l510
              have l513 : zgr u14 u15 := zgr_q (l_cText_clear F _ _ l512)
              obtain ⟨p16, u17, l514, l510⟩ := ze2 l510
              have l515 : zgr u15 u17 := zgr_q (l_cText_addAll F _ _ _ l514)
              exact zgr_f (zgr_tr (zgr_tr (zgr_rf u14) (l513)) (l515)) (congrArg Prod.snd (Option.some.inj l510)).symm rfl
          exact zgr_tr (zgr_tr (zgr_tr (zgr_tr (zgr_rf u) (l507)) (l509)) (l511)) (ih _ _ _ _ _ _ _ _ _ hf)
        · exact zgr_f (zgr_tr (zgr_tr (zgr_rf u) (l507)) (l509)) (congrArg Prod.snd (Option.some.inj hf)).symm rfl
  have C_71 : ∀ (n : Nat), ∀ (ad : Nat × Nat → Nat) (u : ZC) (v2 : Int) (v3 : Int) (v5 : Nat) (v6 : Int) (v7 : Int) (v8 : Int) (v9 : Nat) (v10 : Int) (H : Heap) (locs : List Loc) (ls : Array Slot) (cs ss : Nat), cRunner_runPipeline_71 F rec n u v2 v3 v5 v6 v7 v8 v9 v10 = some (res, uo) → lv_has ls 13 [(0, .ref (ad (0, 4))), (2, .int (zI v2)), (3, .int (zI v3)), (5, .ref (ad (4, v5))), (6, .int (zI v6)), (7, .int (zI v7)), (8, .int (zI v8)), (9, .ref (ad (1, v9))), (10, .int (zI v10))] → ZW D B y ad q u r H → va_S (fun x => B ≤ x) s.heap H locs → zmk q R L0 ad0 (cL u) ad cs ss → W p l e R s m args below meth c H locs cs ss Q (F0 m 71 ls []) := by
    intro n
    induction n with
    | zero => intro ad u v2 v3 v5 v6 v7 v8 v9 v10 H locs ls cs ss hf; cases (show (none : Option (Int × ZC)) = some (res, uo) from hf)
    | succ n ih =>
      intro ad u v2 v3 v5 v6 v7 v8 v9 v10 H locs ls cs ss hf hl hW hS hM
      rw [cRunner_runPipeline_71] at hf
      refine lv_iload hx hb d_cRunner_runPipeline_71 (lv_at hl 5 rfl) ?_
      refine lv_iload_n hx hb d_cRunner_runPipeline_73 rfl (lv_at hl 1 rfl) ?_
      refine z_icmp_ge hx hb d_cRunner_runPipeline_74 rfl hf (fun hf => ?_) (fun hf => ?_)
      · refine lv_iload hx hb d_cRunner_runPipeline_185 (lv_at hl 4 rfl) ?_
        obtain ⟨x7, g1, hf⟩ := ze1 hf
        have J1 : ∀ (ad : Nat × Nat → Nat) (H : Heap) (locs : List Loc) (ls : Array Slot) (cs ss : Nat), lv_has ls 13 [(0, .ref (ad (0, 4))), (5, .ref (ad (4, v5))), (10, .int (zI x7))] → ZW D B y ad q u r H → va_S (fun x => B ≤ x) s.heap H locs → zmk q R L0 ad0 (cL u) ad cs ss → W p l e R s m args below meth c H locs cs ss Q (F0 m 202 ls []) := by
          intro ad H locs ls cs ss hl hW hS hM
          refine lv_aload_n hx hb d_cRunner_runPipeline_202 rfl (lv_at hl 0 rfl) ?_
          refine lv_iload hx hb d_cRunner_runPipeline_203 (lv_at hl 2 rfl) ?_
          refine zp_Ru_status M hW hS (M.2.2.1 _ w_329) d_cRunner_runPipeline_205 (fun H locs hW hS => ?_)
          refine lv_aload hx hb d_cRunner_runPipeline_208 (lv_at hl 1 rfl) ?_
          obtain ⟨g2, hf⟩ := zg hf
          refine zg_Le_listOutput M hW (zid_L g2) (M.2.2.1 _ w_298) d_cRunner_runPipeline_210 ?_
          refine lv_aload hx hb d_cRunner_runPipeline_213 (lv_at hl 1 rfl) ?_
          refine zg_Le_commandOutput M hW (zid_L g2) (M.2.2.1 _ w_300) d_cRunner_runPipeline_215 ?_
          obtain ⟨p8, u9, g3, hf⟩ := ze2 hf
          refine z_callVi (As := [.ref (ad (1, (4 + 4 * v5)))]) (rest := []) (k_cText_addAll F _ _ _ g3) M hml (cw_cText_addAll M.2.2.1 (M.2.2.1 _ w_528) (by rw [hR]; show 7 ≤ fr + 10; omega) (by rw [hR]; show 190 ≤ lo + 269; omega)) (zv_Tx hK hW (zid_T (Or.inl (by have := g2; omega)))) hB hW hS rfl hl.1 rfl (Nat.le_of_ble_eq_true rfl) d_cRunner_runPipeline_218 (zmk_room hM) (fun H locs hW hS => ?_)
          have hM : zmk q R L0 ad0 (cL u9) ad cs ss := zmk_q (l_cText_addAll F _ _ _ g3) hM
          obtain ⟨g4, hf⟩ := zg hf
          cases hf
          subst hQ
          exact z_retzM hx hb g4 hr hlocks hB hK hW hS hM d_cRunner_runPipeline_221
        refine z_if_eq hx hb d_cRunner_runPipeline_187 rfl g1 (fun g1 => ?_) (fun g1 => ?_)
        · cases g1
          exact J1 _ _ _ _ _ _ (lv_sub hl [0, 3, 8] rfl) hW hS hM
        · refine lv_iload hx hb d_cRunner_runPipeline_190 (lv_at hl 8 rfl) ?_
          obtain ⟨x6, g5, g1⟩ := ze1 g1
          have J5 : ∀ (ad : Nat × Nat → Nat) (H : Heap) (locs : List Loc) (ls : Array Slot) (cs ss : Nat), lv_has ls 13 [(0, .ref (ad (0, 4))), (5, .ref (ad (4, v5)))] → ZW D B y ad q u r H → va_S (fun x => B ≤ x) s.heap H locs → zmk q R L0 ad0 (cL u) ad cs ss → W p l e R s m args below meth c H locs cs ss Q (F0 m 200 ls [.int (zI x6)]) := by
            intro ad H locs ls cs ss hl hW hS hM
            refine lv_istore (lv' := [(10, .int (zI x6)), (0, .ref (ad (0, 4))), (5, .ref (ad (4, v5)))]) hx hb d_cRunner_runPipeline_200 hl (by decide) rfl (fun ls hl => ?_)
            cases g1
            exact J1 _ _ _ _ _ _ (lv_sub hl [1, 2, 0] rfl) hW hS hM
          refine z_if_ne hx hb d_cRunner_runPipeline_192 rfl g5 (fun g5 => ?_) (fun g5 => ?_)
          · refine z_iconst hx hb d_cRunner_runPipeline_199 ?_
            cases g5
            exact J5 _ _ _ _ _ _ (lv_sub hl [0, 3] rfl) hW hS hM
          · refine z_iconst hx hb d_cRunner_runPipeline_195 ?_
            refine lv_goto hx hb d_cRunner_runPipeline_196 rfl ?_
            cases g5
            exact J5 _ _ _ _ _ _ (lv_sub hl [0, 3] rfl) hW hS hM
      · refine lv_iload hx hb d_cRunner_runPipeline_77 (lv_at hl 5 rfl) ?_
        refine lv_aload_n hx hb d_cRunner_runPipeline_79 rfl (lv_at hl 0 rfl) ?_
        refine zg_Ru_tokens M hW (M.2.2.1 _ w_324) d_cRunner_runPipeline_80 ?_
        refine lv_iload hx hb d_cRunner_runPipeline_83 (lv_at hl 5 rfl) ?_
        refine lv_iload_n hx hb d_cRunner_runPipeline_85 rfl (lv_at hl 1 rfl) ?_
        refine z_iconst hx hb d_cRunner_runPipeline_86 ?_
        refine z_iconst hx hb d_cRunner_runPipeline_87 ?_
        obtain ⟨p10, g6, hf⟩ := ze1 hf
        refine z_callVi (As := [.int (zI v7), .int (zI v2), .int (zI 3), .int (zI 3)]) (rest := [.int (zI v7)]) (k_cTokens_find F _ _ _ _ _ g6) M hml (cw_cTokens_find M.2.2.1 (M.2.2.1 _ w_464) (by rw [hR]; show 2 ≤ fr + 10; omega) (by rw [hR]; show 48 ≤ lo + 269; omega)) (zv_Tk hK hW) hB hW hS rfl hl.1 rfl (Nat.le_of_ble_eq_true rfl) d_cRunner_runPipeline_88 (zmk_room hM) (fun H locs hW hS => ?_)
        refine z_mmax hx hb hown M.2.2.1 hml (by rw [hR]; exact Nat.le_of_ble_eq_true rfl) (by rw [hR]; exact Nat.le_of_ble_eq_true rfl) hl.1 (Nat.le_of_ble_eq_true rfl) (zmk_room hM) (M.2.2.1 _ w_469) d_cRunner_runPipeline_91 ?_
        refine lv_istore (lv' := [(11, .int (zI (zmax v7 p10))), (0, .ref (ad (0, 4))), (2, .int (zI v2)), (3, .int (zI v3)), (5, .ref (ad (4, v5))), (6, .int (zI v6)), (7, .int (zI v7)), (8, .int (zI v8)), (9, .ref (ad (1, v9))), (10, .int (zI v10))]) hx hb d_cRunner_runPipeline_94 hl (by decide) rfl (fun ls hl => ?_)
        refine lv_aload_n hx hb d_cRunner_runPipeline_96 rfl (lv_at hl 1 rfl) ?_
        refine zg_Ru_tree M hW (M.2.2.1 _ w_325) d_cRunner_runPipeline_97 ?_
        refine zg_Tr_here M hW (M.2.2.1 _ w_211) d_cRunner_runPipeline_100 ?_
        obtain ⟨o11, g7, hf⟩ := ze1 hf
        have g7 := Option.some.inj g7
        rw [g7]
        refine z_astore (lv2 := [(12, zrf ad 3 o11), (11, .int (zI (zmax v7 p10))), (0, .ref (ad (0, 4))), (2, .int (zI v2)), (3, .int (zI v3)), (5, .ref (ad (4, v5))), (6, .int (zI v6)), (7, .int (zI v7)), (8, .int (zI v8)), (9, .ref (ad (1, v9))), (10, .int (zI v10))]) hx hb d_cRunner_runPipeline_103 hl (by decide) rfl (fun ls hl => ?_)
        refine lv_aload_n hx hb d_cRunner_runPipeline_105 rfl (lv_at hl 2 rfl) ?_
        refine lv_iload hx hb d_cRunner_runPipeline_106 (lv_at hl 7 rfl) ?_
        refine lv_iload hx hb d_cRunner_runPipeline_108 (lv_at hl 1 rfl) ?_
        refine lv_iload_n hx hb d_cRunner_runPipeline_110 rfl (lv_at hl 4 rfl) ?_
        refine lv_aload hx hb d_cRunner_runPipeline_111 (lv_at hl 9 rfl) ?_
        obtain ⟨g8, hf⟩ := zg hf
        obtain ⟨g9, hf⟩ := zg hf
        obtain ⟨g10, hf⟩ := zg hf
        obtain ⟨p12, u13, g11, hf⟩ := ze2 hf
        have g12 : zgr u u13 := l_cRunner_runCommand F _ hrg _ _ _ _ _ g11
        have g13 : zgr u13 uo := by
          obtain ⟨u14, l516, hf⟩ := ze1 hf
          have l517 : zgr u13 u14 := by
            rcases zpp l516 with ⟨-, l516⟩ | ⟨-, l516⟩
            · exact zgr_f (zgr_rf u13) ((Option.some.inj l516)).symm rfl
            · exact zgr_f (zgr_rf u13) ((Option.some.inj l516)).symm rfl
          rcases zpp hf with ⟨-, hf⟩ | ⟨-, hf⟩
          · obtain ⟨x18, u19, l518, hf⟩ := ze2 hf
            have l519 : zgr u14 u19 := by
              rcases zpp l518 with ⟨-, l518⟩ | ⟨-, l518⟩
              · exact zgr_f (zgr_rf u14) (congrArg Prod.snd (Option.some.inj l518)).symm rfl
              · obtain ⟨u15, l520, l518⟩ := ze1 l518
                have l521 : zgr u14 u15 := zgr_q (l_cText_clear F _ _ l520)
                obtain ⟨p16, u17, l522, l518⟩ := ze2 l518
                have l523 : zgr u15 u17 := zgr_q (l_cText_addAll F _ _ _ l522)
                exact zgr_f (zgr_tr (zgr_tr (zgr_rf u14) (l521)) (l523)) (congrArg Prod.snd (Option.some.inj l518)).symm rfl
            exact zgr_tr (zgr_tr (zgr_tr (zgr_rf u13) (l517)) (l519)) ((G_71 n) _ _ _ _ _ _ _ _ _ hf)
          · exact zgr_f (zgr_tr (zgr_rf u13) (l517)) (congrArg Prod.snd (Option.some.inj hf)).symm rfl
        refine z_callMVi (As := [.int (zI v7), .int (zI (zmax v7 p10)), .int (zI v3), .ref (ad (1, v9))]) (rest := []) (k_cRunner_runCommand F rec fr lo hrec hrg _ _ _ _ _ g11) M hX hml (cw_cRunner_runCommand M.2.2.1 (M.2.2.1 _ w_479) (by rw [hR]; show fr + 9 + 1 ≤ fr + 10; omega) (by rw [hR]; show 8 + (10 + 11) + (lo + 240) ≤ lo + 269; omega)) (zv_Ru hK hW) hB hW hS rfl hl.1 rfl (Nat.le_of_ble_eq_true rfl) d_cRunner_runPipeline_113 hM g12 g13 hRc (fun ad cs ss H locs hag hM hW hS => ?_)
        have hl : lv_has ls 13 [(12, zrf ad 3 o11), (11, .int (zI (zmax v7 p10))), (0, .ref (ad (0, 4))), (2, .int (zI v2)), (3, .int (zI v3)), (5, .ref (ad (4, v5))), (6, .int (zI v6)), (8, .int (zI v8)), (9, .ref (ad (1, v9)))] := by
          rw [zrf_ag hag g10, hag (0, 4) (zid_f (by decide +kernel)), hag (4, v5) (zid_L g8), hag (1, v9) (zid_T g9)]
          exact lv_sub hl [0, 1, 2, 3, 4, 5, 6, 8, 9] rfl
        refine lv_istore (lv' := [(10, .int (zI p12)), (12, zrf ad 3 o11), (11, .int (zI (zmax v7 p10))), (0, .ref (ad (0, 4))), (2, .int (zI v2)), (3, .int (zI v3)), (5, .ref (ad (4, v5))), (6, .int (zI v6)), (8, .int (zI v8)), (9, .ref (ad (1, v9)))]) hx hb d_cRunner_runPipeline_116 hl (by decide) rfl (fun ls hl => ?_)
        refine lv_iload hx hb d_cRunner_runPipeline_118 (lv_at hl 8 rfl) ?_
        obtain ⟨u14, g14, hf⟩ := ze1 hf
        have J14 : ∀ (ad : Nat × Nat → Nat) (H : Heap) (locs : List Loc) (ls : Array Slot) (cs ss : Nat), lv_has ls 13 [(0, .ref (ad (0, 4))), (2, .int (zI v2)), (3, .int (zI v3)), (5, .ref (ad (4, v5))), (6, .int (zI v6)), (8, .int (zI v8)), (9, .ref (ad (1, v9))), (10, .int (zI p12)), (11, .int (zI (zmax v7 p10)))] → ZW D B y ad q u14 r H → va_S (fun x => B ≤ x) s.heap H locs → zmk q R L0 ad0 (cL u14) ad cs ss → W p l e R s m args below meth c H locs cs ss Q (F0 m 132 ls []) := by
          intro ad H locs ls cs ss hl hW hS hM
          refine lv_iload hx hb d_cRunner_runPipeline_132 (lv_at hl 7 rfl) ?_
          refine z_bipush hx hb d_cRunner_runPipeline_134 rfl ?_
          refine z_icmp_ne hx hb d_cRunner_runPipeline_136 rfl hf (fun hf => ?_) (fun hf => ?_)
          · refine lv_iload hx hb d_cRunner_runPipeline_141 (lv_at hl 8 rfl) ?_
            refine lv_iload_n hx hb d_cRunner_runPipeline_143 rfl (lv_at hl 1 rfl) ?_
            obtain ⟨x18, u19, g15, hf⟩ := ze2 hf
            have J15 : ∀ (ad : Nat × Nat → Nat) (H : Heap) (locs : List Loc) (ls : Array Slot) (cs ss : Nat), lv_has ls 13 [(0, .ref (ad (0, 4))), (2, .int (zI v2)), (3, .int (zI v3)), (5, .ref (ad (4, v5))), (6, .int (zI v6)), (8, .int (zI v8)), (9, .ref (ad (1, x18))), (10, .int (zI p12)), (11, .int (zI (zmax v7 p10)))] → ZW D B y ad q u19 r H → va_S (fun x => B ≤ x) s.heap H locs → zmk q R L0 ad0 (cL u19) ad cs ss → W p l e R s m args below meth c H locs cs ss Q (F0 m 176 ls []) := by
              intro ad H locs ls cs ss hl hW hS hM
              refine lv_iload hx hb d_cRunner_runPipeline_176 (lv_at hl 8 rfl) ?_
              refine z_iconst hx hb d_cRunner_runPipeline_178 ?_
              refine z_iadd hx hb d_cRunner_runPipeline_179 ?_
              refine lv_istore (lv' := [(7, .int (zI ((zmax v7 p10) + 1))), (0, .ref (ad (0, 4))), (2, .int (zI v2)), (3, .int (zI v3)), (5, .ref (ad (4, v5))), (6, .int (zI v6)), (8, .int (zI v8)), (9, .ref (ad (1, x18))), (10, .int (zI p12)), (11, .int (zI (zmax v7 p10)))]) hx hb d_cRunner_runPipeline_180 hl (by decide) rfl (fun ls hl => ?_)
              refine lv_goto hx hb d_cRunner_runPipeline_182 rfl ?_
              exact ih _ _ _ _ _ _ _ _ _ _ _ _ _ _ _ hf (lv_sub hl [1, 2, 3, 4, 5, 0, 6, 7, 8] rfl) hW hS hM
            refine z_icmp_ge hx hb d_cRunner_runPipeline_144 rfl g15 (fun g15 => ?_) (fun g15 => ?_)
            · cases g15
              exact J15 _ _ _ _ _ _ (lv_sub hl [0, 1, 2, 3, 4, 5, 6, 7, 8] rfl) hW hS hM
            · refine lv_aload hx hb d_cRunner_runPipeline_147 (lv_at hl 3 rfl) ?_
              refine zg_Le_piped M hW (zid_L g8) (M.2.2.1 _ w_302) d_cRunner_runPipeline_149 ?_
              obtain ⟨u15, g16, g15⟩ := ze1 g15
              refine z_callVv (As := []) (rest := []) (k_cText_clear F _ _ g16) M hml (cw_cText_clear M.2.2.1 (M.2.2.1 _ w_459) (by rw [hR]; show 1 ≤ fr + 10; omega) (by rw [hR]; show 20 ≤ lo + 269; omega)) (zv_Tx hK hW (zid_T (Or.inl (by have := g8; omega)))) hB hW hS rfl hl.1 rfl (Nat.le_of_ble_eq_true rfl) d_cRunner_runPipeline_152 (zmk_room hM) (fun H locs hW hS => ?_)
              have hM : zmk q R L0 ad0 (cL u15) ad cs ss := zmk_q (l_cText_clear F _ _ g16) hM
              refine lv_aload hx hb d_cRunner_runPipeline_155 (lv_at hl 3 rfl) ?_
              refine zg_Le_piped M hW (zid_L g8) (M.2.2.1 _ w_302) d_cRunner_runPipeline_157 ?_
              refine lv_aload hx hb d_cRunner_runPipeline_160 (lv_at hl 3 rfl) ?_
              refine zg_Le_commandOutput M hW (zid_L g8) (M.2.2.1 _ w_300) d_cRunner_runPipeline_162 ?_
              obtain ⟨p16, u17, g17, g15⟩ := ze2 g15
              refine z_callVi (As := [.ref (ad (1, (4 + 4 * v5)))]) (rest := []) (k_cText_addAll F _ _ _ g17) M hml (cw_cText_addAll M.2.2.1 (M.2.2.1 _ w_528) (by rw [hR]; show 7 ≤ fr + 10; omega) (by rw [hR]; show 190 ≤ lo + 269; omega)) (zv_Tx hK hW (zid_T (Or.inl (by have := g8; omega)))) hB hW hS rfl hl.1 rfl (Nat.le_of_ble_eq_true rfl) d_cRunner_runPipeline_165 (zmk_room hM) (fun H locs hW hS => ?_)
              have hM : zmk q R L0 ad0 (cL u17) ad cs ss := zmk_q (l_cText_addAll F _ _ _ g17) hM
              refine lv_pop hx hb d_cRunner_runPipeline_168 rfl ?_
              refine lv_aload hx hb d_cRunner_runPipeline_169 (lv_at hl 3 rfl) ?_
              refine zg_Le_piped M hW (zid_L g8) (M.2.2.1 _ w_302) d_cRunner_runPipeline_171 ?_
              refine lv_astore (lv' := [(9, .ref (ad (1, (5 + 4 * v5)))), (0, .ref (ad (0, 4))), (2, .int (zI v2)), (3, .int (zI v3)), (5, .ref (ad (4, v5))), (6, .int (zI v6)), (8, .int (zI v8)), (10, .int (zI p12)), (11, .int (zI (zmax v7 p10)))]) hx hb d_cRunner_runPipeline_174 hl (by decide) rfl (fun ls hl => ?_)
              cases g15
              exact J15 _ _ _ _ _ _ (lv_sub hl [1, 2, 3, 4, 5, 6, 0, 7, 8] rfl) hW hS hM
          · refine z_iconst hx hb d_cRunner_runPipeline_139 ?_
            cases hf
            subst hQ
            exact z_retzM hx hb (Or.inl rfl) hr hlocks hB hK hW hS hM d_cRunner_runPipeline_140
        refine z_if_eq hx hb d_cRunner_runPipeline_120 rfl g14 (fun g14 => ?_) (fun g14 => ?_)
        · cases g14
          exact J14 _ _ _ _ _ _ (lv_sub hl [3, 4, 5, 6, 7, 8, 9, 0, 2] rfl) hW hS hM
        · refine lv_aload_n hx hb d_cRunner_runPipeline_123 rfl (lv_at hl 3 rfl) ?_
          refine zg_Ru_tree M hW (M.2.2.1 _ w_325) d_cRunner_runPipeline_124 ?_
          refine z_aload hx hb d_cRunner_runPipeline_127 (lv_at hl 1 rfl) ?_
          refine zp_Tr_here (v := o11) M hW hS (M.2.2.1 _ w_211) d_cRunner_runPipeline_129 (fun H locs hW hS => ?_)
          cases g14
          exact J14 _ _ _ _ _ _ (lv_sub hl [3, 4, 5, 6, 7, 8, 9, 0, 2] rfl) hW hS hM
  rw [cRunner_runPipeline] at hf
  refine lv_aload_n hx hb d_cRunner_runPipeline_0 rfl (lv_at hl 0 rfl) ?_
  refine zg_Ru_levels M hW (M.2.2.1 _ w_328) d_cRunner_runPipeline_1 ?_
  refine lv_iload_n hx hb d_cRunner_runPipeline_4 rfl (lv_at hl 3 rfl) ?_
  obtain ⟨g18, hf⟩ := zg hf
  refine za_lev M hW g18 d_cRunner_runPipeline_5 ?_
  refine lv_astore (lv' := [(5, .ref (ad (4, v3.toNat))), (0, .ref (ad (0, 4))), (1, .int (zI v1)), (2, .int (zI v2)), (3, .int (zI v3)), (4, .ref (ad (1, v4)))]) hx hb d_cRunner_runPipeline_6 hl (by decide) rfl (fun ls hl => ?_)
  refine lv_aload_n hx hb d_cRunner_runPipeline_8 rfl (lv_at hl 1 rfl) ?_
  refine zg_Ru_tokens M hW (M.2.2.1 _ w_324) d_cRunner_runPipeline_9 ?_
  refine lv_iload_n hx hb d_cRunner_runPipeline_12 rfl (lv_at hl 2 rfl) ?_
  obtain ⟨p1, g19, hf⟩ := ze1 hf
  refine z_callVi (As := [.int (zI v1)]) (rest := []) (k_cTokens_kindAt F _ _ g19) M hml (cw_cTokens_kindAt M.2.2.1 (M.2.2.1 _ w_478) (by rw [hR]; show 1 ≤ fr + 10; omega) (by rw [hR]; show 21 ≤ lo + 269; omega)) (zv_Tk hK hW) hB hW hS rfl hl.1 rfl (Nat.le_of_ble_eq_true rfl) d_cRunner_runPipeline_13 (zmk_room hM) (fun H locs hW hS => ?_)
  refine z_iconst hx hb d_cRunner_runPipeline_16 ?_
  obtain ⟨x2, g20, hf⟩ := ze1 hf
  have J20 : ∀ (ad : Nat × Nat → Nat) (H : Heap) (locs : List Loc) (ls : Array Slot) (cs ss : Nat), lv_has ls 13 [(0, .ref (ad (0, 4))), (1, .int (zI v1)), (2, .int (zI v2)), (3, .int (zI v3)), (4, .ref (ad (1, v4))), (5, .ref (ad (4, v3.toNat)))] → ZW D B y ad q u r H → va_S (fun x => B ≤ x) s.heap H locs → zmk q R L0 ad0 (cL u) ad cs ss → W p l e R s m args below meth c H locs cs ss Q (F0 m 25 ls [.int (zI x2)]) := by
    intro ad H locs ls cs ss hl hW hS hM
    refine lv_istore (lv' := [(6, .int (zI x2)), (0, .ref (ad (0, 4))), (1, .int (zI v1)), (2, .int (zI v2)), (3, .int (zI v3)), (4, .ref (ad (1, v4))), (5, .ref (ad (4, v3.toNat)))]) hx hb d_cRunner_runPipeline_25 hl (by decide) rfl (fun ls hl => ?_)
    refine lv_iload hx hb d_cRunner_runPipeline_27 (lv_at hl 0 rfl) ?_
    obtain ⟨x3, g21, hf⟩ := ze1 hf
    have J21 : ∀ (ad : Nat × Nat → Nat) (H : Heap) (locs : List Loc) (ls : Array Slot) (cs ss : Nat), lv_has ls 13 [(0, .ref (ad (0, 4))), (2, .int (zI v2)), (3, .int (zI v3)), (4, .ref (ad (1, v4))), (5, .ref (ad (4, v3.toNat))), (6, .int (zI x2))] → ZW D B y ad q u r H → va_S (fun x => B ≤ x) s.heap H locs → zmk q R L0 ad0 (cL u) ad cs ss → W p l e R s m args below meth c H locs cs ss Q (F0 m 39 ls [.int (zI x3)]) := by
      intro ad H locs ls cs ss hl hW hS hM
      refine lv_istore (lv' := [(7, .int (zI x3)), (0, .ref (ad (0, 4))), (2, .int (zI v2)), (3, .int (zI v3)), (4, .ref (ad (1, v4))), (5, .ref (ad (4, v3.toNat))), (6, .int (zI x2))]) hx hb d_cRunner_runPipeline_39 hl (by decide) rfl (fun ls hl => ?_)
      refine lv_aload_n hx hb d_cRunner_runPipeline_41 rfl (lv_at hl 1 rfl) ?_
      refine zg_Ru_tokens M hW (M.2.2.1 _ w_324) d_cRunner_runPipeline_42 ?_
      refine lv_iload hx hb d_cRunner_runPipeline_45 (lv_at hl 0 rfl) ?_
      refine lv_iload_n hx hb d_cRunner_runPipeline_47 rfl (lv_at hl 2 rfl) ?_
      refine z_iconst hx hb d_cRunner_runPipeline_48 ?_
      refine z_iconst hx hb d_cRunner_runPipeline_49 ?_
      obtain ⟨p4, g22, hf⟩ := ze1 hf
      refine z_callVi (As := [.int (zI x3), .int (zI v2), .int (zI 3), .int (zI 3)]) (rest := []) (k_cTokens_find F _ _ _ _ _ g22) M hml (cw_cTokens_find M.2.2.1 (M.2.2.1 _ w_464) (by rw [hR]; show 2 ≤ fr + 10; omega) (by rw [hR]; show 48 ≤ lo + 269; omega)) (zv_Tk hK hW) hB hW hS rfl hl.1 rfl (Nat.le_of_ble_eq_true rfl) d_cRunner_runPipeline_50 (zmk_room hM) (fun H locs hW hS => ?_)
      refine lv_iload_n hx hb d_cRunner_runPipeline_53 rfl (lv_at hl 2 rfl) ?_
      obtain ⟨x5, g23, hf⟩ := ze1 hf
      have J23 : ∀ (ad : Nat × Nat → Nat) (H : Heap) (locs : List Loc) (ls : Array Slot) (cs ss : Nat), lv_has ls 13 [(0, .ref (ad (0, 4))), (2, .int (zI v2)), (3, .int (zI v3)), (4, .ref (ad (1, v4))), (5, .ref (ad (4, v3.toNat))), (6, .int (zI x2)), (7, .int (zI x3))] → ZW D B y ad q u r H → va_S (fun x => B ≤ x) s.heap H locs → zmk q R L0 ad0 (cL u) ad cs ss → W p l e R s m args below meth c H locs cs ss Q (F0 m 62 ls [.int (zI x5)]) := by
        intro ad H locs ls cs ss hl hW hS hM
        refine lv_istore (lv' := [(8, .int (zI x5)), (0, .ref (ad (0, 4))), (2, .int (zI v2)), (3, .int (zI v3)), (4, .ref (ad (1, v4))), (5, .ref (ad (4, v3.toNat))), (6, .int (zI x2)), (7, .int (zI x3))]) hx hb d_cRunner_runPipeline_62 hl (by decide) rfl (fun ls hl => ?_)
        refine lv_aload hx hb d_cRunner_runPipeline_64 (lv_at hl 4 rfl) ?_
        refine lv_astore (lv' := [(9, .ref (ad (1, v4))), (8, .int (zI x5)), (0, .ref (ad (0, 4))), (2, .int (zI v2)), (3, .int (zI v3)), (4, .ref (ad (1, v4))), (5, .ref (ad (4, v3.toNat))), (6, .int (zI x2)), (7, .int (zI x3))]) hx hb d_cRunner_runPipeline_66 hl (by decide) rfl (fun ls hl => ?_)
        refine z_iconst hx hb d_cRunner_runPipeline_68 ?_
        refine lv_istore (lv' := [(10, .int (zI 0)), (9, .ref (ad (1, v4))), (8, .int (zI x5)), (0, .ref (ad (0, 4))), (2, .int (zI v2)), (3, .int (zI v3)), (4, .ref (ad (1, v4))), (5, .ref (ad (4, v3.toNat))), (6, .int (zI x2)), (7, .int (zI x3))]) hx hb d_cRunner_runPipeline_69 hl (by decide) rfl (fun ls hl => ?_)
        exact C_71 F _ _ _ _ _ _ _ _ _ _ _ _ _ _ _ hf (lv_sub hl [3, 4, 5, 7, 8, 9, 2, 1, 0] rfl) hW hS hM
      refine z_icmp_ge hx hb d_cRunner_runPipeline_54 rfl g23 (fun g23 => ?_) (fun g23 => ?_)
      · refine z_iconst hx hb d_cRunner_runPipeline_61 ?_
        cases g23
        exact J23 _ _ _ _ _ _ (lv_sub hl [1, 2, 3, 4, 5, 6, 0] rfl) hW hS hM
      · refine z_iconst hx hb d_cRunner_runPipeline_57 ?_
        refine lv_goto hx hb d_cRunner_runPipeline_58 rfl ?_
        cases g23
        exact J23 _ _ _ _ _ _ (lv_sub hl [1, 2, 3, 4, 5, 6, 0] rfl) hW hS hM
    refine z_if_eq hx hb d_cRunner_runPipeline_29 rfl g21 (fun g21 => ?_) (fun g21 => ?_)
    · refine lv_iload_n hx hb d_cRunner_runPipeline_38 rfl (lv_at hl 2 rfl) ?_
      cases g21
      exact J21 _ _ _ _ _ _ (lv_sub hl [1, 3, 4, 5, 6, 0] rfl) hW hS hM
    · refine lv_iload_n hx hb d_cRunner_runPipeline_32 rfl (lv_at hl 2 rfl) ?_
      refine z_iconst hx hb d_cRunner_runPipeline_33 ?_
      refine z_iadd hx hb d_cRunner_runPipeline_34 ?_
      refine lv_goto hx hb d_cRunner_runPipeline_35 rfl ?_
      cases g21
      exact J21 _ _ _ _ _ _ (lv_sub hl [1, 3, 4, 5, 6, 0] rfl) hW hS hM
  refine z_icmp_ne hx hb d_cRunner_runPipeline_17 rfl g20 (fun g20 => ?_) (fun g20 => ?_)
  · refine z_iconst hx hb d_cRunner_runPipeline_24 ?_
    cases g20
    exact J20 _ _ _ _ _ _ (lv_sub hl [1, 2, 3, 4, 5, 0] rfl) hW hS hM
  · refine z_iconst hx hb d_cRunner_runPipeline_20 ?_
    refine lv_goto hx hb d_cRunner_runPipeline_21 rfl ?_
    cases g20
    exact J20 _ _ _ _ _ _ (lv_sub hl [1, 2, 3, 4, 5, 0] rfl) hW hS hM
