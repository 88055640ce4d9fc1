set_option maxRecDepth 100000 in
set_option maxHeartbeats 4000000 in
theorem k_cTools_contentOf {l : Launch} {D : va_G} {B : Nat} {y : Nat → ClassId} {ad : Nat × Nat → Nat} {q : Bool} {r : ZR} (F : Nat) (u : ZC) (v0 : Option Nat) {res : Option Nat} (hf : cTools_contentOf F u v0 = some res) : Met l y_cTools_contentOf (.code y_cTools_contentOf b_cTools_contentOf 1 (some (.object "TreeShell$Text")) :: zt) { frames := 0, cells := 0, slots := 0, locals := 0 } (va_Pc [zrf ad 3 v0] (fun U => ZP D B y ad q u r U)) (va_Qq (fun v (_ : Unit) => v = res.map fun n => ad (1, n)) (fun _ t => ZP D B y ad q u r t) (fun x => B ≤ x)) 0 0 (fun x => B ≤ x) := by
  cases v0 with
  | none =>
    refine Met.ofW (cc := b_cTools_contentOf) (maxL := 1) (ret := (some (.object "TreeShell$Text"))) (by decide) rfl ?_
    intro p e s m args below meth c s₁ Bd hml hv
    obtain ⟨hargs, hB, hW, hK⟩ := hv
    have hargs : args = ([.null] : List Value).toArray := hargs
    have hx := Bd.exec
    have hb := Bd.bytes
    have hr := Bd.returns
    have hts0 := atoms_spec (ws := .code y_cTools_contentOf b_cTools_contentOf 1 (some (.object "TreeShell$Text")) :: zt) Bd.pre
    have hown : s.vm.findClass "TreeShell$Tools" = some m.cls := findClass_of_methodNamed Bd.named
    have hlocks := Bd.notSynchronized
    have M : ZM p c b_cTools_contentOf s args m "TreeShell$Tools" D y := ⟨hx, hb, fun w h => hts0 w (List.mem_cons_of_mem _ h), hown, hK⟩
    have hS : va_S (fun x => B ≤ x) s.heap s.heap [] := va_S.rf
    have hE := lg_entry_eq m ([.null] : List Value) 1
    rw [← hargs] at hE
    rw [hE]
    have hl := lv_entry ([.null] : List Value) (n := 1) (Nat.le_of_ble_eq_true rfl)
    generalize (lg_sl ([.null] : List Value) ++ List.replicate (1 - (lg_sl ([.null] : List Value)).length) Slot.unset).toArray = ls at hl ⊢
    have hl : lv_has ls 1 [(0, .null)] := hl
    refine z_start (fun Q R hQ hR => ?_)
    generalize hH : s.heap = H at hW
    have hS : va_S (fun x => B ≤ x) s.heap H [] := by rw [← hH]; exact hS
    rw [cTools_contentOf] at hf
    have hf : (
      Option.bind ((
          some ()) : Option (Unit)) fun (z1 : Unit) =>
      some none) = some res := hf
    refine lv_aload_nN hx hb d_cTools_contentOf_0 rfl (lv_at hl 0 rfl) ?_
    obtain ⟨z1, g101, hf⟩ := ze1 hf
    have J101 : ∀ (H : Heap) (locs : List Loc) (ls : Array Slot), lv_has ls 1 [] → ZW D B y ad q u r H → va_S (fun x => B ≤ x) s.heap H locs → W p l e R s m args below meth c H locs 0 0 Q (F0 m 12 ls [.null]) := by
      intro H locs ls hl hW hS
      cases hf
      subst hQ
      exact z_retq (kd := 1) (a := none) hx hb hr hlocks hB hK hW hS d_cTools_contentOf_12
    refine lv_ifnonnullN hx hb d_cTools_contentOf_1 ?_
    refine lv_null hx hb d_cTools_contentOf_4 ?_
    refine lv_goto hx hb d_cTools_contentOf_5 rfl ?_
    cases g101
    exact J101 _ _ _ (lv_sub hl [] rfl) hW hS
  | some v0 =>
    refine Met.ofW (cc := b_cTools_contentOf) (maxL := 1) (ret := (some (.object "TreeShell$Text"))) (by decide) rfl ?_
    intro p e s m args below meth c s₁ Bd hml hv
    obtain ⟨hargs, hB, hW, hK⟩ := hv
    have hargs : args = ([.ref (ad (3, v0))] : List Value).toArray := hargs
    have hx := Bd.exec
    have hb := Bd.bytes
    have hr := Bd.returns
    have hts0 := atoms_spec (ws := .code y_cTools_contentOf b_cTools_contentOf 1 (some (.object "TreeShell$Text")) :: zt) Bd.pre
    have hown : s.vm.findClass "TreeShell$Tools" = some m.cls := findClass_of_methodNamed Bd.named
    have hlocks := Bd.notSynchronized
    have M : ZM p c b_cTools_contentOf s args m "TreeShell$Tools" D y := ⟨hx, hb, fun w h => hts0 w (List.mem_cons_of_mem _ h), hown, hK⟩
    have hS : va_S (fun x => B ≤ x) s.heap s.heap [] := va_S.rf
    have hE := lg_entry_eq m ([.ref (ad (3, v0))] : List Value) 1
    rw [← hargs] at hE
    rw [hE]
    have hl := lv_entry ([.ref (ad (3, v0))] : List Value) (n := 1) (Nat.le_of_ble_eq_true rfl)
    generalize (lg_sl ([.ref (ad (3, v0))] : List Value) ++ List.replicate (1 - (lg_sl ([.ref (ad (3, v0))] : List Value)).length) Slot.unset).toArray = ls at hl ⊢
    have hl : lv_has ls 1 [(0, .ref (ad (3, v0)))] := hl
    refine z_start (fun Q R hQ hR => ?_)
    generalize hH : s.heap = H at hW
    have hS : va_S (fun x => B ≤ x) s.heap H [] := by rw [← hH]; exact hS
    rw [cTools_contentOf] at hf
    have hf : (
      Option.bind ((
          if zlN u v0 then (
          Option.bind (some (cP u 6 v0)) fun (o1 : Option Nat) =>
          some (o1)) else none) : Option (Option Nat)) fun (x2 : Option Nat) =>
      some x2) = some res := hf
    refine lv_aload_n hx hb d_cTools_contentOf_0 rfl (lv_at hl 0 rfl) ?_
    obtain ⟨x2, g101, hf⟩ := ze1 hf
    have J101 : ∀ (H : Heap) (locs : List Loc) (ls : Array Slot), lv_has ls 1 [] → ZW D B y ad q u r H → va_S (fun x => B ≤ x) s.heap H locs → W p l e R s m args below meth c H locs 0 0 Q (F0 m 12 ls [zrf ad 1 x2]) := by
      intro H locs ls hl hW hS
      cases hf
      subst hQ
      exact z_retq hx hb hr hlocks hB hK hW hS d_cTools_contentOf_12
    refine lv_ifnonnull hx hb d_cTools_contentOf_1 rfl ?_
    refine lv_aload_n hx hb d_cTools_contentOf_8 rfl (lv_at hl 0 rfl) ?_
    obtain ⟨g102, g101⟩ := zg g101
    refine zg_No_content M hW (zid_N g102) (M.2.2.1 _ w_191) d_cTools_contentOf_9 ?_
    obtain ⟨o1, g103, g101⟩ := ze1 g101
    have g103 := Option.some.inj g103
    rw [g103]
    cases g101
    exact J101 _ _ _ (lv_sub hl [] rfl) hW hS
set_option maxRecDepth 100000 in
set_option maxHeartbeats 4000000 in
theorem k_cTools_cat {l : Launch} {D : va_G} {B : Nat} {y : Nat → ClassId} {ad : Nat × Nat → Nat} {q : Bool} {r : ZR} (F : Nat) (u : ZC) (v1 : Nat) (v2 : Nat) {res : Int} {uo : ZC} (hf : cTools_cat F u v1 v2 = some (res, uo)) : Met l y_cTools_cat (.code y_cTools_cat b_cTools_cat 5 (some .int) :: zt) { frames := 7, cells := 0, slots := 0, locals := 190 } (va_Pc [.ref (ad (0, 6)), .ref (ad (1, v1)), .ref (ad (1, v2))] (fun U => ZP D B y ad q u r U)) (va_Qi (fun v (_ : Unit) => v = zI res) (fun _ t => ZP D B y ad q uo r t) (fun x => B ≤ x)) 0 0 (fun x => B ≤ x) := by
  refine Met.ofW (cc := b_cTools_cat) (maxL := 5) (ret := (some .int)) (by decide) rfl ?_
  intro p e s m args below meth c s₁ Bd hml hv
  obtain ⟨hargs, hB, hW, hK⟩ := hv
  have hx := Bd.exec
  have hb := Bd.bytes
  have hr := Bd.returns
  have hts0 := atoms_spec (ws := .code y_cTools_cat b_cTools_cat 5 (some .int) :: zt) Bd.pre
  have hown : s.vm.findClass "TreeShell$Tools" = some m.cls := findClass_of_methodNamed Bd.named
  have hlocks := Bd.notSynchronized
  have M : ZM p c b_cTools_cat s args m "TreeShell$Tools" D y := ⟨hx, hb, fun w h => hts0 w (List.mem_cons_of_mem _ h), hown, hK⟩
  have hS : va_S (fun x => B ≤ x) s.heap s.heap [] := va_S.rf
  have hE := lg_entry_eq m ([.ref (ad (0, 6)), .ref (ad (1, v1)), .ref (ad (1, v2))] : List Value) 5
  rw [← hargs] at hE
  rw [hE]
  have hl := lv_entry ([.ref (ad (0, 6)), .ref (ad (1, v1)), .ref (ad (1, v2))] : List Value) (n := 5) (Nat.le_of_ble_eq_true rfl)
  generalize (lg_sl ([.ref (ad (0, 6)), .ref (ad (1, v1)), .ref (ad (1, v2))] : List Value) ++ List.replicate (5 - (lg_sl ([.ref (ad (0, 6)), .ref (ad (1, v1)), .ref (ad (1, v2))] : List Value)).length) Slot.unset).toArray = ls at hl ⊢
  have hl : lv_has ls 5 [(0, .ref (ad (0, 6))), (1, .ref (ad (1, v1))), (2, .ref (ad (1, v2)))] := hl
  refine z_start (fun Q R hQ hR => ?_)
  generalize hH : s.heap = H at hW
  have hS : va_S (fun x => B ≤ x) s.heap H [] := by rw [← hH]; exact hS
  have C_64 : ∀ (n : Nat), ∀ (u : ZC) (v2 : Nat) (v3 : Int) (H : Heap) (locs : List Loc) (ls : Array Slot), cTools_cat_64 F n u v2 v3 = some (res, uo) → lv_has ls 5 [(0, .ref (ad (0, 6))), (2, .ref (ad (1, v2))), (3, .int (zI v3))] → ZW D B y ad q u r H → va_S (fun x => B ≤ x) s.heap H locs → W p l e R s m args below meth c H locs 0 0 Q (F0 m 64 ls []) := by
    intro n
    induction n with
    | zero => intro u v2 v3 H locs ls hf; cases (show (none : Option (Int × ZC)) = some (res, uo) from hf)
    | succ n ih =>
      intro u v2 v3 H locs ls hf hl hW hS
      rw [cTools_cat_64] at hf
      refine lv_iload_n hx hb d_cTools_cat_64 rfl (lv_at hl 2 rfl) ?_
      refine lv_aload_n hx hb d_cTools_cat_65 rfl (lv_at hl 0 rfl) ?_
      refine zg_To_words M hW (M.2.2.1 _ w_283) d_cTools_cat_66 ?_
      refine zg_Wo_count M hW (M.2.2.1 _ w_267) d_cTools_cat_69 ?_
      refine z_icmp_ge hx hb d_cTools_cat_72 rfl hf (fun hf => ?_) (fun hf => ?_)
      · refine z_iconst hx hb d_cTools_cat_110 ?_
        cases hf
        subst hQ
        exact z_reti hx hb hr hlocks hB hK hW hS d_cTools_cat_111
      · refine lv_aload_n hx hb d_cTools_cat_75 rfl (lv_at hl 0 rfl) ?_
        refine zg_To_tree M hW (M.2.2.1 _ w_284) d_cTools_cat_76 ?_
        refine lv_aload_n hx hb d_cTools_cat_79 rfl (lv_at hl 0 rfl) ?_
        refine zg_To_words M hW (M.2.2.1 _ w_283) d_cTools_cat_80 ?_
        refine lv_iload_n hx hb d_cTools_cat_83 rfl (lv_at hl 2 rfl) ?_
        obtain ⟨p8, u9, g1, hf⟩ := ze2 hf
        refine z_callVq (As := [.ref (ad (0, 5)), .int (zI v3)]) (rest := []) (k_cTree_follow F _ _ g1) M hml (cw_cTree_follow M.2.2.1 (M.2.2.1 _ w_638) (by rw [hR]; exact Nat.le_of_ble_eq_true rfl) (by rw [hR]; exact Nat.le_of_ble_eq_true rfl)) (zv_Tr hK hW) hB hW hS rfl hl.1 rfl (Nat.le_of_ble_eq_true rfl) d_cTools_cat_84 (by rw [hR]; exact ⟨Nat.zero_le _, Nat.zero_le _⟩) (fun H locs hW hS => ?_)
        obtain ⟨p10, g2, hf⟩ := ze1 hf
        refine z_callSq (As := [zrf ad 3 p8]) (rest := []) (k_cTools_contentOf F _ _ g2) M hml (cw_cTools_contentOf M.2.2.1 (M.2.2.1 _ w_639) (by rw [hR]; exact Nat.le_of_ble_eq_true rfl) (by rw [hR]; exact Nat.le_of_ble_eq_true rfl)) hB hW hS rfl hl.1 rfl (Nat.le_of_ble_eq_true rfl) d_cTools_cat_87 (by rw [hR]; exact ⟨Nat.zero_le _, Nat.zero_le _⟩) (fun H locs hW hS => ?_)
        refine z_astore (lv2 := [(4, zrf ad 1 p10), (0, .ref (ad (0, 6))), (2, .ref (ad (1, v2))), (3, .int (zI v3))]) hx hb d_cTools_cat_90 hl (by decide) rfl (fun ls hl => ?_)
        refine z_aload hx hb d_cTools_cat_92 (lv_at hl 0 rfl) ?_
        obtain ⟨u14, g3, hf⟩ := ze1 hf
        have J3 : ∀ (H : Heap) (locs : List Loc) (ls : Array Slot), lv_has ls 5 [(0, .ref (ad (0, 6))), (2, .ref (ad (1, v2))), (3, .int (zI v3))] → ZW D B y ad q u14 r H → va_S (fun x => B ≤ x) s.heap H locs → W p l e R s m args below meth c H locs 0 0 Q (F0 m 104 ls []) := by
          intro H locs ls hl hW hS
          refine lv_iinc (k := 2) (v := zI (v3 + 1)) (lv' := [(3, .int (zI (v3 + 1))), (0, .ref (ad (0, 6))), (2, .ref (ad (1, v2)))]) hx hb d_cTools_cat_104 hl rfl (zI_add _ _) (by decide) rfl (fun ls hl => ?_)
          refine lv_goto hx hb d_cTools_cat_107 rfl ?_
          exact ih _ _ _ _ _ _ hf (lv_sub hl [1, 2, 0] rfl) hW hS
        refine z_ifnull hx hb d_cTools_cat_94 rfl g3 (fun hyg4 hn => ?_) (fun n11 hn hyg4 => ?_)
        · subst hn
          have g3 := hyg4
          have hl : lv_has ls 5 [(4, .null), (0, .ref (ad (0, 6))), (2, .ref (ad (1, v2))), (3, .int (zI v3))] := hl
          cases g3
          exact J3 _ _ _ (lv_sub hl [1, 2, 3] rfl) hW hS
        · subst hn
          have g3 := hyg4
          have hl : lv_has ls 5 [(4, .ref (ad (1, n11))), (0, .ref (ad (0, 6))), (2, .ref (ad (1, v2))), (3, .int (zI v3))] := hl
          refine lv_aload_n hx hb d_cTools_cat_97 rfl (lv_at hl 2 rfl) ?_
          refine lv_aload hx hb d_cTools_cat_98 (lv_at hl 0 rfl) ?_
          obtain ⟨g5, g3⟩ := zg g3
          obtain ⟨p12, u13, g6, g3⟩ := ze2 g3
          refine z_callVi (As := [.ref (ad (1, n11))]) (rest := []) (k_cText_addAll F _ _ _ g6) M hml (cw_cText_addAll M.2.2.1 (M.2.2.1 _ w_636) (by rw [hR]; exact Nat.le_of_ble_eq_true rfl) (by rw [hR]; exact Nat.le_of_ble_eq_true rfl)) (zv_Tx hK hW (zid_T g5)) hB hW hS rfl hl.1 rfl (Nat.le_of_ble_eq_true rfl) d_cTools_cat_100 (by rw [hR]; exact ⟨Nat.zero_le _, Nat.zero_le _⟩) (fun H locs hW hS => ?_)
          refine lv_pop hx hb d_cTools_cat_103 rfl ?_
          cases g3
          exact J3 _ _ _ (lv_sub hl [1, 2, 3] rfl) hW hS
  have C_25 : ∀ (n : Nat), ∀ (u : ZC) (v2 : Nat) (v3 : Int) (H : Heap) (locs : List Loc) (ls : Array Slot), cTools_cat_25 F n u v2 v3 = some (res, uo) → lv_has ls 5 [(0, .ref (ad (0, 6))), (2, .ref (ad (1, v2))), (3, .int (zI v3))] → ZW D B y ad q u r H → va_S (fun x => B ≤ x) s.heap H locs → W p l e R s m args below meth c H locs 0 0 Q (F0 m 25 ls []) := by
    intro n
    induction n with
    | zero => intro u v2 v3 H locs ls hf; cases (show (none : Option (Int × ZC)) = some (res, uo) from hf)
    | succ n ih =>
      intro u v2 v3 H locs ls hf hl hW hS
      rw [cTools_cat_25] at hf
      refine lv_iload_n hx hb d_cTools_cat_25 rfl (lv_at hl 2 rfl) ?_
      refine lv_aload_n hx hb d_cTools_cat_26 rfl (lv_at hl 0 rfl) ?_
      refine zg_To_words M hW (M.2.2.1 _ w_283) d_cTools_cat_27 ?_
      refine zg_Wo_count M hW (M.2.2.1 _ w_267) d_cTools_cat_30 ?_
      refine z_icmp_ge hx hb d_cTools_cat_33 rfl hf (fun hf => ?_) (fun hf => ?_)
      · refine z_iconst hx hb d_cTools_cat_62 ?_
        refine lv_istore_n (lv' := [(3, .int (zI 1)), (0, .ref (ad (0, 6))), (2, .ref (ad (1, v2)))]) hx hb d_cTools_cat_63 rfl hl (by decide) rfl (fun ls hl => ?_)
        exact C_64 F _ _ _ _ _ _ hf (lv_sub hl [1, 2, 0] rfl) hW hS
      · refine lv_aload_n hx hb d_cTools_cat_36 rfl (lv_at hl 0 rfl) ?_
        refine zg_To_tree M hW (M.2.2.1 _ w_284) d_cTools_cat_37 ?_
        refine lv_aload_n hx hb d_cTools_cat_40 rfl (lv_at hl 0 rfl) ?_
        refine zg_To_words M hW (M.2.2.1 _ w_283) d_cTools_cat_41 ?_
        refine lv_iload_n hx hb d_cTools_cat_44 rfl (lv_at hl 2 rfl) ?_
        obtain ⟨p4, u5, g7, hf⟩ := ze2 hf
        refine z_callVq (As := [.ref (ad (0, 5)), .int (zI v3)]) (rest := []) (k_cTree_follow F _ _ g7) M hml (cw_cTree_follow M.2.2.1 (M.2.2.1 _ w_638) (by rw [hR]; exact Nat.le_of_ble_eq_true rfl) (by rw [hR]; exact Nat.le_of_ble_eq_true rfl)) (zv_Tr hK hW) hB hW hS rfl hl.1 rfl (Nat.le_of_ble_eq_true rfl) d_cTools_cat_45 (by rw [hR]; exact ⟨Nat.zero_le _, Nat.zero_le _⟩) (fun H locs hW hS => ?_)
        obtain ⟨p6, g8, hf⟩ := ze1 hf
        refine z_callSq (As := [zrf ad 3 p4]) (rest := []) (k_cTools_contentOf F _ _ g8) M hml (cw_cTools_contentOf M.2.2.1 (M.2.2.1 _ w_639) (by rw [hR]; exact Nat.le_of_ble_eq_true rfl) (by rw [hR]; exact Nat.le_of_ble_eq_true rfl)) hB hW hS rfl hl.1 rfl (Nat.le_of_ble_eq_true rfl) d_cTools_cat_48 (by rw [hR]; exact ⟨Nat.zero_le _, Nat.zero_le _⟩) (fun H locs hW hS => ?_)
        refine z_ifnonnull hx hb d_cTools_cat_51 rfl hf (fun hyg9 hn => ?_) (fun n7 hn hyg9 => ?_)
        · subst hn
          have hf := hyg9
          have hl : lv_has ls 5 [(0, .ref (ad (0, 6))), (2, .ref (ad (1, v2))), (3, .int (zI v3))] := hl
          refine z_iconst hx hb d_cTools_cat_54 ?_
          cases hf
          subst hQ
          exact z_reti hx hb hr hlocks hB hK hW hS d_cTools_cat_55
        · subst hn
          have hf := hyg9
          have hl : lv_has ls 5 [(0, .ref (ad (0, 6))), (2, .ref (ad (1, v2))), (3, .int (zI v3))] := hl
          refine lv_iinc (k := 2) (v := zI (v3 + 1)) (lv' := [(3, .int (zI (v3 + 1))), (0, .ref (ad (0, 6))), (2, .ref (ad (1, v2)))]) hx hb d_cTools_cat_56 hl rfl (zI_add _ _) (by decide) rfl (fun ls hl => ?_)
          refine lv_goto hx hb d_cTools_cat_59 rfl ?_
          exact ih _ _ _ _ _ _ hf (lv_sub hl [1, 2, 0] rfl) hW hS
  rw [cTools_cat] at hf
  refine lv_aload_n hx hb d_cTools_cat_0 rfl (lv_at hl 0 rfl) ?_
  refine zg_To_words M hW (M.2.2.1 _ w_283) d_cTools_cat_1 ?_
  refine zg_Wo_count M hW (M.2.2.1 _ w_267) d_cTools_cat_4 ?_
  refine z_iconst hx hb d_cTools_cat_7 ?_
  refine z_icmp_ne hx hb d_cTools_cat_8 rfl hf (fun hf => ?_) (fun hf => ?_)
  · refine z_iconst hx hb d_cTools_cat_23 ?_
    refine lv_istore_n (lv' := [(3, .int (zI 1)), (0, .ref (ad (0, 6))), (1, .ref (ad (1, v1))), (2, .ref (ad (1, v2)))]) hx hb d_cTools_cat_24 rfl hl (by decide) rfl (fun ls hl => ?_)
    exact C_25 F _ _ _ _ _ _ hf (lv_sub hl [1, 3, 0] rfl) hW hS
  · refine lv_aload_n hx hb d_cTools_cat_11 rfl (lv_at hl 2 rfl) ?_
    refine lv_aload_n hx hb d_cTools_cat_12 rfl (lv_at hl 1 rfl) ?_
    obtain ⟨g10, hf⟩ := zg hf
    obtain ⟨p1, u2, g11, hf⟩ := ze2 hf
    refine z_callVi (As := [.ref (ad (1, v1))]) (rest := []) (k_cText_addAll F _ _ _ g11) M hml (cw_cText_addAll M.2.2.1 (M.2.2.1 _ w_636) (by rw [hR]; exact Nat.le_of_ble_eq_true rfl) (by rw [hR]; exact Nat.le_of_ble_eq_true rfl)) (zv_Tx hK hW (zid_T g10)) hB hW hS rfl hl.1 rfl (Nat.le_of_ble_eq_true rfl) d_cTools_cat_13 (by rw [hR]; exact ⟨Nat.zero_le _, Nat.zero_le _⟩) (fun H locs hW hS => ?_)
    refine lv_pop hx hb d_cTools_cat_16 rfl ?_
    refine lv_aload_n hx hb d_cTools_cat_17 rfl (lv_at hl 1 rfl) ?_
    obtain ⟨g12, hf⟩ := zg hf
    obtain ⟨u3, g13, hf⟩ := ze1 hf
    refine z_callVv (As := []) (rest := []) (k_cText_clear F _ _ g13) M hml (cw_cText_clear M.2.2.1 (M.2.2.1 _ w_637) (by rw [hR]; exact Nat.le_of_ble_eq_true rfl) (by rw [hR]; exact Nat.le_of_ble_eq_true rfl)) (zv_Tx hK hW (zid_T g12)) hB hW hS rfl hl.1 rfl (Nat.le_of_ble_eq_true rfl) d_cTools_cat_18 (by rw [hR]; exact ⟨Nat.zero_le _, Nat.zero_le _⟩) (fun H locs hW hS => ?_)
    refine z_iconst hx hb d_cTools_cat_21 ?_
    cases hf
    subst hQ
    exact z_reti hx hb hr hlocks hB hK hW hS d_cTools_cat_22
set_option maxRecDepth 100000 in
set_option maxHeartbeats 4000000 in
theorem k_cTools_wc {l : Launch} {D : va_G} {B : Nat} {y : Nat → ClassId} {ad : Nat × Nat → Nat} {q : Bool} {r : ZR} (F : Nat) (u : ZC) (v1 : Nat) (v2 : Nat) {res : Int} {uo : ZC} (hf : cTools_wc F u v1 v2 = some (res, uo)) : Met l y_cTools_wc (.code y_cTools_wc b_cTools_wc 11 (some .int) :: zt) { frames := 2, cells := 0, slots := 0, locals := 56 } (va_Pc [.ref (ad (0, 6)), .ref (ad (1, v1)), .ref (ad (1, v2))] (fun U => ZP D B y ad q u r U)) (va_Qi (fun v (_ : Unit) => v = zI res) (fun _ t => ZP D B y ad q uo r t) (fun x => B ≤ x)) 0 0 (fun x => B ≤ x) := by
  refine Met.ofW (cc := b_cTools_wc) (maxL := 11) (ret := (some .int)) (by decide) rfl ?_
  intro p e s m args below meth c s₁ Bd hml hv
  obtain ⟨hargs, hB, hW, hK⟩ := hv
  have hx := Bd.exec
  have hb := Bd.bytes
  have hr := Bd.returns
  have hts0 := atoms_spec (ws := .code y_cTools_wc b_cTools_wc 11 (some .int) :: zt) Bd.pre
  have hown : s.vm.findClass "TreeShell$Tools" = some m.cls := findClass_of_methodNamed Bd.named
  have hlocks := Bd.notSynchronized
  have M : ZM p c b_cTools_wc s args m "TreeShell$Tools" D y := ⟨hx, hb, fun w h => hts0 w (List.mem_cons_of_mem _ h), hown, hK⟩
  have hS : va_S (fun x => B ≤ x) s.heap s.heap [] := va_S.rf
  have hE := lg_entry_eq m ([.ref (ad (0, 6)), .ref (ad (1, v1)), .ref (ad (1, v2))] : List Value) 11
  rw [← hargs] at hE
  rw [hE]
  have hl := lv_entry ([.ref (ad (0, 6)), .ref (ad (1, v1)), .ref (ad (1, v2))] : List Value) (n := 11) (Nat.le_of_ble_eq_true rfl)
  generalize (lg_sl ([.ref (ad (0, 6)), .ref (ad (1, v1)), .ref (ad (1, v2))] : List Value) ++ List.replicate (11 - (lg_sl ([.ref (ad (0, 6)), .ref (ad (1, v1)), .ref (ad (1, v2))] : List Value)).length) Slot.unset).toArray = ls at hl ⊢
  have hl : lv_has ls 11 [(0, .ref (ad (0, 6))), (1, .ref (ad (1, v1))), (2, .ref (ad (1, v2)))] := hl
  refine z_start (fun Q R hQ hR => ?_)
  generalize hH : s.heap = H at hW
  have hS : va_S (fun x => B ≤ x) s.heap H [] := by rw [← hH]; exact hS
  have C_74 : ∀ (n : Nat), ∀ (u : ZC) (v1 : Nat) (v2 : Nat) (v3 : Int) (v4 : Nat) (v5 : Int) (v6 : Int) (v7 : Int) (v8 : Int) (H : Heap) (locs : List Loc) (ls : Array Slot), cTools_wc_74 F n u v1 v2 v3 v4 v5 v6 v7 v8 = some (res, uo) → lv_has ls 11 [(1, .ref (ad (1, v1))), (2, .ref (ad (1, v2))), (3, .int (zI v3)), (4, .ref (ad (1, v4))), (5, .int (zI v5)), (6, .int (zI v6)), (7, .int (zI v7)), (8, .int (zI v8))] → ZW D B y ad q u r H → va_S (fun x => B ≤ x) s.heap H locs → W p l e R s m args below meth c H locs 0 0 Q (F0 m 74 ls []) := by
    intro n
    induction n with
    | zero => intro u v1 v2 v3 v4 v5 v6 v7 v8 H locs ls hf; cases (show (none : Option (Int × ZC)) = some (res, uo) from hf)
    | succ n ih =>
      intro u v1 v2 v3 v4 v5 v6 v7 v8 H locs ls hf hl hW hS
      rw [cTools_wc_74] at hf
      refine lv_iload hx hb d_cTools_wc_74 (lv_at hl 7 rfl) ?_
      refine lv_aload hx hb d_cTools_wc_76 (lv_at hl 3 rfl) ?_
      obtain ⟨g1, hf⟩ := zg hf
      refine zg_Tx_size M hW (zid_T g1) (M.2.2.1 _ w_109) d_cTools_wc_78 ?_
      refine z_icmp_ge hx hb d_cTools_wc_81 rfl hf (fun hf => ?_) (fun hf => ?_)
      · refine lv_aload_n hx hb d_cTools_wc_162 rfl (lv_at hl 1 rfl) ?_
        refine lv_iload hx hb d_cTools_wc_163 (lv_at hl 4 rfl) ?_
        obtain ⟨g2, hf⟩ := zg hf
        obtain ⟨u8, g3, hf⟩ := ze1 hf
        refine z_callVv (As := [.int (zI v5)]) (rest := []) (k_cText_addNumber F _ _ _ g3) M hml (cw_cText_addNumber M.2.2.1 (M.2.2.1 _ w_647) (by rw [hR]; exact Nat.le_of_ble_eq_true rfl) (by rw [hR]; exact Nat.le_of_ble_eq_true rfl)) (zv_Tx hK hW (zid_T g2)) hB hW hS rfl hl.1 rfl (Nat.le_of_ble_eq_true rfl) d_cTools_wc_165 (by rw [hR]; exact ⟨Nat.zero_le _, Nat.zero_le _⟩) (fun H locs hW hS => ?_)
        refine lv_aload_n hx hb d_cTools_wc_168 rfl (lv_at hl 1 rfl) ?_
        refine z_bipush hx hb d_cTools_wc_169 rfl ?_
        obtain ⟨g4, hf⟩ := zg hf
        obtain ⟨u9, g5, hf⟩ := ze1 hf
        refine z_callVv (As := [.int (zI 32)]) (rest := []) (k_cText_add F _ _ _ g5) M hml (cw_cText_add M.2.2.1 (M.2.2.1 _ w_627) (by rw [hR]; exact Nat.le_of_ble_eq_true rfl) (by rw [hR]; exact Nat.le_of_ble_eq_true rfl)) (zv_Tx hK hW (zid_T g4)) hB hW hS rfl hl.1 rfl (Nat.le_of_ble_eq_true rfl) d_cTools_wc_171 (by rw [hR]; exact ⟨Nat.zero_le _, Nat.zero_le _⟩) (fun H locs hW hS => ?_)
        refine lv_aload_n hx hb d_cTools_wc_174 rfl (lv_at hl 1 rfl) ?_
        refine lv_iload hx hb d_cTools_wc_175 (lv_at hl 5 rfl) ?_
        obtain ⟨g6, hf⟩ := zg hf
        obtain ⟨u10, g7, hf⟩ := ze1 hf
        refine z_callVv (As := [.int (zI v6)]) (rest := []) (k_cText_addNumber F _ _ _ g7) M hml (cw_cText_addNumber M.2.2.1 (M.2.2.1 _ w_647) (by rw [hR]; exact Nat.le_of_ble_eq_true rfl) (by rw [hR]; exact Nat.le_of_ble_eq_true rfl)) (zv_Tx hK hW (zid_T g6)) hB hW hS rfl hl.1 rfl (Nat.le_of_ble_eq_true rfl) d_cTools_wc_177 (by rw [hR]; exact ⟨Nat.zero_le _, Nat.zero_le _⟩) (fun H locs hW hS => ?_)
        refine lv_aload_n hx hb d_cTools_wc_180 rfl (lv_at hl 1 rfl) ?_
        refine z_bipush hx hb d_cTools_wc_181 rfl ?_
        obtain ⟨g8, hf⟩ := zg hf
        obtain ⟨u11, g9, hf⟩ := ze1 hf
        refine z_callVv (As := [.int (zI 32)]) (rest := []) (k_cText_add F _ _ _ g9) M hml (cw_cText_add M.2.2.1 (M.2.2.1 _ w_627) (by rw [hR]; exact Nat.le_of_ble_eq_true rfl) (by rw [hR]; exact Nat.le_of_ble_eq_true rfl)) (zv_Tx hK hW (zid_T g8)) hB hW hS rfl hl.1 rfl (Nat.le_of_ble_eq_true rfl) d_cTools_wc_183 (by rw [hR]; exact ⟨Nat.zero_le _, Nat.zero_le _⟩) (fun H locs hW hS => ?_)
        refine lv_aload_n hx hb d_cTools_wc_186 rfl (lv_at hl 1 rfl) ?_
        refine lv_aload hx hb d_cTools_wc_187 (lv_at hl 3 rfl) ?_
        obtain ⟨g10, hf⟩ := zg hf
        refine zg_Tx_size M hW (zid_T g10) (M.2.2.1 _ w_109) d_cTools_wc_189 ?_
        obtain ⟨g11, hf⟩ := zg hf
        obtain ⟨u12, g12, hf⟩ := ze1 hf
        refine z_callVv (As := [.int (zI (cI u11 0 v4))]) (rest := []) (k_cText_addNumber F _ _ _ g12) M hml (cw_cText_addNumber M.2.2.1 (M.2.2.1 _ w_647) (by rw [hR]; exact Nat.le_of_ble_eq_true rfl) (by rw [hR]; exact Nat.le_of_ble_eq_true rfl)) (zv_Tx hK hW (zid_T g11)) hB hW hS rfl hl.1 rfl (Nat.le_of_ble_eq_true rfl) d_cTools_wc_192 (by rw [hR]; exact ⟨Nat.zero_le _, Nat.zero_le _⟩) (fun H locs hW hS => ?_)
        refine lv_aload_n hx hb d_cTools_wc_195 rfl (lv_at hl 1 rfl) ?_
        refine z_bipush hx hb d_cTools_wc_196 rfl ?_
        obtain ⟨g13, hf⟩ := zg hf
        obtain ⟨u13, g14, hf⟩ := ze1 hf
        refine z_callVv (As := [.int (zI 10)]) (rest := []) (k_cText_add F _ _ _ g14) M hml (cw_cText_add M.2.2.1 (M.2.2.1 _ w_627) (by rw [hR]; exact Nat.le_of_ble_eq_true rfl) (by rw [hR]; exact Nat.le_of_ble_eq_true rfl)) (zv_Tx hK hW (zid_T g13)) hB hW hS rfl hl.1 rfl (Nat.le_of_ble_eq_true rfl) d_cTools_wc_198 (by rw [hR]; exact ⟨Nat.zero_le _, Nat.zero_le _⟩) (fun H locs hW hS => ?_)
        refine lv_iload_n hx hb d_cTools_wc_201 rfl (lv_at hl 2 rfl) ?_
        obtain ⟨u15, g15, hf⟩ := ze1 hf
        have J15 : ∀ (H : Heap) (locs : List Loc) (ls : Array Slot), lv_has ls 11 [] → ZW D B y ad q u15 r H → va_S (fun x => B ≤ x) s.heap H locs → W p l e R s m args below meth c H locs 0 0 Q (F0 m 209 ls []) := by
          intro H locs ls hl hW hS
          refine z_iconst hx hb d_cTools_wc_209 ?_
          cases hf
          subst hQ
          exact z_reti hx hb hr hlocks hB hK hW hS d_cTools_wc_210
        refine z_if_eq hx hb d_cTools_wc_202 rfl g15 (fun g15 => ?_) (fun g15 => ?_)
        · cases g15
          exact J15 _ _ _ (lv_sub hl [] rfl) hW hS
        · refine lv_aload_n hx hb d_cTools_wc_205 rfl (lv_at hl 0 rfl) ?_
          obtain ⟨g16, g15⟩ := zg g15
          obtain ⟨u14, g17, g15⟩ := ze1 g15
          refine z_callVv (As := []) (rest := []) (k_cText_clear F _ _ g17) M hml (cw_cText_clear M.2.2.1 (M.2.2.1 _ w_637) (by rw [hR]; exact Nat.le_of_ble_eq_true rfl) (by rw [hR]; exact Nat.le_of_ble_eq_true rfl)) (zv_Tx hK hW (zid_T g16)) hB hW hS rfl hl.1 rfl (Nat.le_of_ble_eq_true rfl) d_cTools_wc_206 (by rw [hR]; exact ⟨Nat.zero_le _, Nat.zero_le _⟩) (fun H locs hW hS => ?_)
          cases g15
          exact J15 _ _ _ (lv_sub hl [] rfl) hW hS
      · refine lv_aload hx hb d_cTools_wc_84 (lv_at hl 3 rfl) ?_
        refine zg_Tx_letters M hW (zid_T g1) (M.2.2.1 _ w_103) d_cTools_wc_86 ?_
        refine lv_iload hx hb d_cTools_wc_89 (lv_at hl 7 rfl) ?_
        obtain ⟨g18, hf⟩ := zg hf
        refine za_let M hW (zid_C g1) g18 d_cTools_wc_91 ?_
        refine lv_istore (lv' := [(9, .int (zI (cA u 0 v4 v8.toNat))), (1, .ref (ad (1, v1))), (2, .ref (ad (1, v2))), (3, .int (zI v3)), (4, .ref (ad (1, v4))), (5, .int (zI v5)), (6, .int (zI v6)), (7, .int (zI v7)), (8, .int (zI v8))]) hx hb d_cTools_wc_92 hl (by decide) rfl (fun ls hl => ?_)
        refine lv_iload hx hb d_cTools_wc_94 (lv_at hl 0 rfl) ?_
        refine z_bipush hx hb d_cTools_wc_96 rfl ?_
        obtain ⟨x17, g19, hf⟩ := ze1 hf
        have J19 : ∀ (H : Heap) (locs : List Loc) (ls : Array Slot), lv_has ls 11 [(1, .ref (ad (1, v1))), (2, .ref (ad (1, v2))), (3, .int (zI v3)), (4, .ref (ad (1, v4))), (5, .int (zI v5)), (6, .int (zI v6)), (7, .int (zI v7)), (8, .int (zI v8)), (9, .int (zI (cA u 0 v4 v8.toNat)))] → ZW D B y ad q u r H → va_S (fun x => B ≤ x) s.heap H locs → W p l e R s m args below meth c H locs 0 0 Q (F0 m 113 ls [.int (zI x17)]) := by
          intro H locs ls hl hW hS
          refine lv_istore (lv' := [(10, .int (zI x17)), (1, .ref (ad (1, v1))), (2, .ref (ad (1, v2))), (3, .int (zI v3)), (4, .ref (ad (1, v4))), (5, .int (zI v5)), (6, .int (zI v6)), (7, .int (zI v7)), (8, .int (zI v8)), (9, .int (zI (cA u 0 v4 v8.toNat)))]) hx hb d_cTools_wc_113 hl (by decide) rfl (fun ls hl => ?_)
          refine lv_iload hx hb d_cTools_wc_115 (lv_at hl 5 rfl) ?_
          refine lv_iload hx hb d_cTools_wc_117 (lv_at hl 9 rfl) ?_
          refine z_bipush hx hb d_cTools_wc_119 rfl ?_
          obtain ⟨x18, g20, hf⟩ := ze1 hf
          have J20 : ∀ (H : Heap) (locs : List Loc) (ls : Array Slot), lv_has ls 11 [(1, .ref (ad (1, v1))), (2, .ref (ad (1, v2))), (3, .int (zI v3)), (4, .ref (ad (1, v4))), (6, .int (zI v6)), (7, .int (zI v7)), (8, .int (zI v8)), (10, .int (zI x17))] → ZW D B y ad q u r H → va_S (fun x => B ≤ x) s.heap H locs → W p l e R s m args below meth c H locs 0 0 Q (F0 m 129 ls [.int (zI x18), .int (zI v5)]) := by
            intro H locs ls hl hW hS
            refine z_iadd hx hb d_cTools_wc_129 ?_
            refine lv_istore (lv' := [(5, .int (zI (v5 + x18))), (1, .ref (ad (1, v1))), (2, .ref (ad (1, v2))), (3, .int (zI v3)), (4, .ref (ad (1, v4))), (6, .int (zI v6)), (7, .int (zI v7)), (8, .int (zI v8)), (10, .int (zI x17))]) hx hb d_cTools_wc_130 hl (by decide) rfl (fun ls hl => ?_)
            refine lv_iload hx hb d_cTools_wc_132 (lv_at hl 5 rfl) ?_
            refine lv_iload hx hb d_cTools_wc_134 (lv_at hl 6 rfl) ?_
            obtain ⟨x20, g21, hf⟩ := ze1 hf
            have J21 : ∀ (H : Heap) (locs : List Loc) (ls : Array Slot), lv_has ls 11 [(1, .ref (ad (1, v1))), (2, .ref (ad (1, v2))), (3, .int (zI v3)), (4, .ref (ad (1, v4))), (5, .int (zI (v5 + x18))), (8, .int (zI v8)), (10, .int (zI x17))] → ZW D B y ad q u r H → va_S (fun x => B ≤ x) s.heap H locs → W p l e R s m args below meth c H locs 0 0 Q (F0 m 149 ls [.int (zI x20), .int (zI v6)]) := by
              intro H locs ls hl hW hS
              refine z_iadd hx hb d_cTools_wc_149 ?_
              refine lv_istore (lv' := [(6, .int (zI (v6 + x20))), (1, .ref (ad (1, v1))), (2, .ref (ad (1, v2))), (3, .int (zI v3)), (4, .ref (ad (1, v4))), (5, .int (zI (v5 + x18))), (8, .int (zI v8)), (10, .int (zI x17))]) hx hb d_cTools_wc_150 hl (by decide) rfl (fun ls hl => ?_)
              refine lv_iload hx hb d_cTools_wc_152 (lv_at hl 7 rfl) ?_
              refine lv_istore (lv' := [(7, .int (zI x17)), (6, .int (zI (v6 + x20))), (1, .ref (ad (1, v1))), (2, .ref (ad (1, v2))), (3, .int (zI v3)), (4, .ref (ad (1, v4))), (5, .int (zI (v5 + x18))), (8, .int (zI v8)), (10, .int (zI x17))]) hx hb d_cTools_wc_154 hl (by decide) rfl (fun ls hl => ?_)
              refine lv_iinc (k := 7) (v := zI (v8 + 1)) (lv' := [(8, .int (zI (v8 + 1))), (7, .int (zI x17)), (6, .int (zI (v6 + x20))), (1, .ref (ad (1, v1))), (2, .ref (ad (1, v2))), (3, .int (zI v3)), (4, .ref (ad (1, v4))), (5, .int (zI (v5 + x18))), (10, .int (zI x17))]) hx hb d_cTools_wc_156 hl rfl (zI_add _ _) (by decide) rfl (fun ls hl => ?_)
              refine lv_goto hx hb d_cTools_wc_159 rfl ?_
              exact ih _ _ _ _ _ _ _ _ _ _ _ _ hf (lv_sub hl [3, 4, 5, 6, 7, 2, 1, 0] rfl) hW hS
            obtain ⟨b19, g22, g21⟩ := ze1 g21
            have JT22 : b19 = true → ∀ (H : Heap) (locs : List Loc), ZW D B y ad q u r H → va_S (fun x => B ≤ x) s.heap H locs → W p l e R s m args below meth c H locs 0 0 Q (F0 m 148 ls [.int (zI v6)]) := by
              intro hv H locs hW hS
              have g21 := zp (hv) g21
              refine z_iconst hx hb d_cTools_wc_148 ?_
              cases g21
              exact J21 _ _ _ (lv_sub hl [1, 2, 3, 4, 0, 7, 8] rfl) hW hS
            have JF22 : b19 = false → ∀ (H : Heap) (locs : List Loc), ZW D B y ad q u r H → va_S (fun x => B ≤ x) s.heap H locs → W p l e R s m args below meth c H locs 0 0 Q (F0 m 144 ls [.int (zI v6)]) := by
              intro hv H locs hW hS
              have g21 := zn (by rw [hv]; decide) g21
              refine z_iconst hx hb d_cTools_wc_144 ?_
              refine lv_goto hx hb d_cTools_wc_145 rfl ?_
              cases g21
              exact J21 _ _ _ (lv_sub hl [1, 2, 3, 4, 0, 7, 8] rfl) hW hS
            refine z_if_eq hx hb d_cTools_wc_136 rfl g22 (fun g22 => ?_) (fun g22 => ?_)
            · exact JT22 (Option.some.inj g22).symm _ _ hW hS
            · refine lv_iload hx hb d_cTools_wc_139 (lv_at hl 8 rfl) ?_
              refine z_if_ne hx hb d_cTools_wc_141 rfl g22 (fun g22 => ?_) (fun g22 => ?_)
              · exact JT22 (Option.some.inj g22).symm _ _ hW hS
              · exact JF22 (Option.some.inj g22).symm _ _ hW hS
          refine z_icmp_ne hx hb d_cTools_wc_121 rfl g20 (fun g20 => ?_) (fun g20 => ?_)
          · refine z_iconst hx hb d_cTools_wc_128 ?_
            cases g20
            exact J20 _ _ _ (lv_sub hl [1, 2, 3, 4, 6, 7, 8, 0] rfl) hW hS
          · refine z_iconst hx hb d_cTools_wc_124 ?_
            refine lv_goto hx hb d_cTools_wc_125 rfl ?_
            cases g20
            exact J20 _ _ _ (lv_sub hl [1, 2, 3, 4, 6, 7, 8, 0] rfl) hW hS
        obtain ⟨b16, g23, g19⟩ := ze1 g19
        have JT23 : b16 = true → ∀ (H : Heap) (locs : List Loc), ZW D B y ad q u r H → va_S (fun x => B ≤ x) s.heap H locs → W p l e R s m args below meth c H locs 0 0 Q (F0 m 108 ls []) := by
          intro hv H locs hW hS
          have g19 := zp (hv) g19
          refine z_iconst hx hb d_cTools_wc_108 ?_
          refine lv_goto hx hb d_cTools_wc_109 rfl ?_
          cases g19
          exact J19 _ _ _ (lv_sub hl [1, 2, 3, 4, 5, 6, 7, 8, 0] rfl) hW hS
        have JF23 : b16 = false → ∀ (H : Heap) (locs : List Loc), ZW D B y ad q u r H → va_S (fun x => B ≤ x) s.heap H locs → W p l e R s m args below meth c H locs 0 0 Q (F0 m 112 ls []) := by
          intro hv H locs hW hS
          have g19 := zn (by rw [hv]; decide) g19
          refine z_iconst hx hb d_cTools_wc_112 ?_
          cases g19
          exact J19 _ _ _ (lv_sub hl [1, 2, 3, 4, 5, 6, 7, 8, 0] rfl) hW hS
        refine z_icmp_eq hx hb d_cTools_wc_98 rfl g23 (fun g23 => ?_) (fun g23 => ?_)
        · exact JT23 (Option.some.inj g23).symm _ _ hW hS
        · refine lv_iload hx hb d_cTools_wc_101 (lv_at hl 0 rfl) ?_
          refine z_bipush hx hb d_cTools_wc_103 rfl ?_
          refine z_icmp_ne hx hb d_cTools_wc_105 rfl g23 (fun g23 => ?_) (fun g23 => ?_)
          · exact JF23 (Option.some.inj g23).symm _ _ hW hS
          · exact JT23 (Option.some.inj g23).symm _ _ hW hS
  rw [cTools_wc] at hf
  refine lv_aload_n hx hb d_cTools_wc_0 rfl (lv_at hl 0 rfl) ?_
  refine zg_To_words M hW (M.2.2.1 _ w_283) d_cTools_wc_1 ?_
  refine zg_Wo_count M hW (M.2.2.1 _ w_267) d_cTools_wc_4 ?_
  refine z_iconst hx hb d_cTools_wc_7 ?_
  refine z_icmp_le hx hb d_cTools_wc_8 rfl hf (fun hf => ?_) (fun hf => ?_)
  · refine lv_aload_n hx hb d_cTools_wc_13 rfl (lv_at hl 0 rfl) ?_
    refine zg_To_words M hW (M.2.2.1 _ w_283) d_cTools_wc_14 ?_
    refine zg_Wo_count M hW (M.2.2.1 _ w_267) d_cTools_wc_17 ?_
    refine z_iconst hx hb d_cTools_wc_20 ?_
    obtain ⟨x1, g24, hf⟩ := ze1 hf
    have J24 : ∀ (H : Heap) (locs : List Loc) (ls : Array Slot), lv_has ls 11 [(0, .ref (ad (0, 6))), (1, .ref (ad (1, v1))), (2, .ref (ad (1, v2)))] → ZW D B y ad q u r H → va_S (fun x => B ≤ x) s.heap H locs → W p l e R s m args below meth c H locs 0 0 Q (F0 m 29 ls [.int (zI x1)]) := by
      intro H locs ls hl hW hS
      refine lv_istore_n (lv' := [(3, .int (zI x1)), (0, .ref (ad (0, 6))), (1, .ref (ad (1, v1))), (2, .ref (ad (1, v2)))]) hx hb d_cTools_wc_29 rfl hl (by decide) rfl (fun ls hl => ?_)
      refine lv_iload_n hx hb d_cTools_wc_30 rfl (lv_at hl 0 rfl) ?_
      obtain ⟨x5, u6, g25, hf⟩ := ze2 hf
      have J25 : ∀ (H : Heap) (locs : List Loc) (ls : Array Slot), lv_has ls 11 [(1, .ref (ad (1, v1))), (2, .ref (ad (1, v2))), (3, .int (zI x1))] → ZW D B y ad q u6 r H → va_S (fun x => B ≤ x) s.heap H locs → W p l e R s m args below meth c H locs 0 0 Q (F0 m 53 ls [zrf ad 1 x5]) := by
        intro H locs ls hl hW hS
        refine z_astore (lv2 := [(4, zrf ad 1 x5), (1, .ref (ad (1, v1))), (2, .ref (ad (1, v2))), (3, .int (zI x1))]) hx hb d_cTools_wc_53 hl (by decide) rfl (fun ls hl => ?_)
        refine z_aload hx hb d_cTools_wc_55 (lv_at hl 0 rfl) ?_
        refine z_ifnonnull hx hb d_cTools_wc_57 rfl hf (fun hyg26 hn => ?_) (fun n7 hn hyg26 => ?_)
        · subst hn
          have hf := hyg26
          have hl : lv_has ls 11 [(4, .null), (1, .ref (ad (1, v1))), (2, .ref (ad (1, v2))), (3, .int (zI x1))] := hl
          refine z_iconst hx hb d_cTools_wc_60 ?_
          cases hf
          subst hQ
          exact z_reti hx hb hr hlocks hB hK hW hS d_cTools_wc_61
        · subst hn
          have hf := hyg26
          have hl : lv_has ls 11 [(4, .ref (ad (1, n7))), (1, .ref (ad (1, v1))), (2, .ref (ad (1, v2))), (3, .int (zI x1))] := hl
          refine z_iconst hx hb d_cTools_wc_62 ?_
          refine lv_istore (lv' := [(5, .int (zI 0)), (4, .ref (ad (1, n7))), (1, .ref (ad (1, v1))), (2, .ref (ad (1, v2))), (3, .int (zI x1))]) hx hb d_cTools_wc_63 hl (by decide) rfl (fun ls hl => ?_)
          refine z_iconst hx hb d_cTools_wc_65 ?_
          refine lv_istore (lv' := [(6, .int (zI 0)), (5, .int (zI 0)), (4, .ref (ad (1, n7))), (1, .ref (ad (1, v1))), (2, .ref (ad (1, v2))), (3, .int (zI x1))]) hx hb d_cTools_wc_66 hl (by decide) rfl (fun ls hl => ?_)
          refine z_iconst hx hb d_cTools_wc_68 ?_
          refine lv_istore (lv' := [(7, .int (zI 1)), (6, .int (zI 0)), (5, .int (zI 0)), (4, .ref (ad (1, n7))), (1, .ref (ad (1, v1))), (2, .ref (ad (1, v2))), (3, .int (zI x1))]) hx hb d_cTools_wc_69 hl (by decide) rfl (fun ls hl => ?_)
          refine z_iconst hx hb d_cTools_wc_71 ?_
          refine lv_istore (lv' := [(8, .int (zI 0)), (7, .int (zI 1)), (6, .int (zI 0)), (5, .int (zI 0)), (4, .ref (ad (1, n7))), (1, .ref (ad (1, v1))), (2, .ref (ad (1, v2))), (3, .int (zI x1))]) hx hb d_cTools_wc_72 hl (by decide) rfl (fun ls hl => ?_)
          exact C_74 F _ _ _ _ _ _ _ _ _ _ _ _ hf (lv_sub hl [5, 6, 7, 4, 3, 2, 1, 0] rfl) hW hS
      refine z_if_eq hx hb d_cTools_wc_31 rfl g25 (fun g25 => ?_) (fun g25 => ?_)
      · refine lv_aload_n hx hb d_cTools_wc_38 rfl (lv_at hl 1 rfl) ?_
        refine zg_To_tree M hW (M.2.2.1 _ w_284) d_cTools_wc_39 ?_
        refine lv_aload_n hx hb d_cTools_wc_42 rfl (lv_at hl 1 rfl) ?_
        refine zg_To_words M hW (M.2.2.1 _ w_283) d_cTools_wc_43 ?_
        refine z_iconst hx hb d_cTools_wc_46 ?_
        obtain ⟨p2, u3, g27, g25⟩ := ze2 g25
        refine z_callVq (As := [.ref (ad (0, 5)), .int (zI 1)]) (rest := []) (k_cTree_follow F _ _ g27) M hml (cw_cTree_follow M.2.2.1 (M.2.2.1 _ w_638) (by rw [hR]; exact Nat.le_of_ble_eq_true rfl) (by rw [hR]; exact Nat.le_of_ble_eq_true rfl)) (zv_Tr hK hW) hB hW hS rfl hl.1 rfl (Nat.le_of_ble_eq_true rfl) d_cTools_wc_47 (by rw [hR]; exact ⟨Nat.zero_le _, Nat.zero_le _⟩) (fun H locs hW hS => ?_)
        obtain ⟨p4, g28, g25⟩ := ze1 g25
        refine z_callSq (As := [zrf ad 3 p2]) (rest := []) (k_cTools_contentOf F _ _ g28) M hml (cw_cTools_contentOf M.2.2.1 (M.2.2.1 _ w_639) (by rw [hR]; exact Nat.le_of_ble_eq_true rfl) (by rw [hR]; exact Nat.le_of_ble_eq_true rfl)) hB hW hS rfl hl.1 rfl (Nat.le_of_ble_eq_true rfl) d_cTools_wc_50 (by rw [hR]; exact ⟨Nat.zero_le _, Nat.zero_le _⟩) (fun H locs hW hS => ?_)
        cases g25
        exact J25 _ _ _ (lv_sub hl [2, 3, 0] rfl) hW hS
      · refine lv_aload_n hx hb d_cTools_wc_34 rfl (lv_at hl 2 rfl) ?_
        refine lv_goto hx hb d_cTools_wc_35 rfl ?_
        cases g25
        exact J25 _ _ _ (lv_sub hl [2, 3, 0] rfl) hW hS
    refine z_icmp_ne hx hb d_cTools_wc_21 rfl g24 (fun g24 => ?_) (fun g24 => ?_)
    · refine z_iconst hx hb d_cTools_wc_28 ?_
      cases g24
      exact J24 _ _ _ (lv_sub hl [0, 1, 2] rfl) hW hS
    · refine z_iconst hx hb d_cTools_wc_24 ?_
      refine lv_goto hx hb d_cTools_wc_25 rfl ?_
      cases g24
      exact J24 _ _ _ (lv_sub hl [0, 1, 2] rfl) hW hS
  · refine z_iconst hx hb d_cTools_wc_11 ?_
    cases hf
    subst hQ
    exact z_reti hx hb hr hlocks hB hK hW hS d_cTools_wc_12
set_option maxRecDepth 100000 in
set_option maxHeartbeats 4000000 in
theorem k_cTools_fits {l : Launch} {D : va_G} {B : Nat} {y : Nat → ClassId} {ad : Nat × Nat → Nat} {q : Bool} {r : ZR} (F : Nat) (u : ZC) (v1 : Nat) (v2 : Int) (v3 : Int) (v4 : Int) {res : Int} (hf : cTools_fits F u v1 v2 v3 v4 = some res) : Met l y_cTools_fits (.code y_cTools_fits b_cTools_fits 7 (some .boolean) :: zt) { frames := 0, cells := 0, slots := 0, locals := 0 } (va_Pc [.ref (ad (0, 6)), .ref (ad (1, v1)), .int (zI v2), .int (zI v3), .int (zI v4)] (fun U => ZP D B y ad q u r U)) (va_Qi (fun v (_ : Unit) => v = zI res) (fun _ t => ZP D B y ad q u r t) (fun x => B ≤ x)) 0 0 (fun x => B ≤ x) := by
  refine Met.ofW (cc := b_cTools_fits) (maxL := 7) (ret := (some .boolean)) (by decide) rfl ?_
  intro p e s m args below meth c s₁ Bd hml hv
  obtain ⟨hargs, hB, hW, hK⟩ := hv
  have hx := Bd.exec
  have hb := Bd.bytes
  have hr := Bd.returns
  have hts0 := atoms_spec (ws := .code y_cTools_fits b_cTools_fits 7 (some .boolean) :: zt) Bd.pre
  have hown : s.vm.findClass "TreeShell$Tools" = some m.cls := findClass_of_methodNamed Bd.named
  have hlocks := Bd.notSynchronized
  have M : ZM p c b_cTools_fits s args m "TreeShell$Tools" D y := ⟨hx, hb, fun w h => hts0 w (List.mem_cons_of_mem _ h), hown, hK⟩
  have hS : va_S (fun x => B ≤ x) s.heap s.heap [] := va_S.rf
  have hE := lg_entry_eq m ([.ref (ad (0, 6)), .ref (ad (1, v1)), .int (zI v2), .int (zI v3), .int (zI v4)] : List Value) 7
  rw [← hargs] at hE
  rw [hE]
  have hl := lv_entry ([.ref (ad (0, 6)), .ref (ad (1, v1)), .int (zI v2), .int (zI v3), .int (zI v4)] : List Value) (n := 7) (Nat.le_of_ble_eq_true rfl)
  generalize (lg_sl ([.ref (ad (0, 6)), .ref (ad (1, v1)), .int (zI v2), .int (zI v3), .int (zI v4)] : List Value) ++ List.replicate (7 - (lg_sl ([.ref (ad (0, 6)), .ref (ad (1, v1)), .int (zI v2), .int (zI v3), .int (zI v4)] : List Value)).length) Slot.unset).toArray = ls at hl ⊢
  have hl : lv_has ls 7 [(0, .ref (ad (0, 6))), (1, .ref (ad (1, v1))), (2, .int (zI v2)), (3, .int (zI v3)), (4, .int (zI v4))] := hl
  refine z_start (fun Q R hQ hR => ?_)
  generalize hH : s.heap = H at hW
  have hS : va_S (fun x => B ≤ x) s.heap H [] := by rw [← hH]; exact hS
  have C_3 : ∀ (n : Nat), ∀ (v1 : Nat) (v2 : Int) (v3 : Int) (v4 : Int) (v5 : Int) (H : Heap) (locs : List Loc) (ls : Array Slot), cTools_fits_3 F n u v1 v2 v3 v4 v5 = some res → lv_has ls 7 [(0, .ref (ad (0, 6))), (1, .ref (ad (1, v1))), (2, .int (zI v2)), (3, .int (zI v3)), (4, .int (zI v4)), (5, .int (zI v5))] → ZW D B y ad q u r H → va_S (fun x => B ≤ x) s.heap H locs → W p l e R s m args below meth c H locs 0 0 Q (F0 m 3 ls []) := by
    intro n
    induction n with
    | zero => intro v1 v2 v3 v4 v5 H locs ls hf; cases (show (none : Option (Int)) = some res from hf)
    | succ n ih =>
      intro v1 v2 v3 v4 v5 H locs ls hf hl hW hS
      rw [cTools_fits_3] at hf
      refine lv_iload hx hb d_cTools_fits_3 (lv_at hl 5 rfl) ?_
      refine lv_iload hx hb d_cTools_fits_5 (lv_at hl 4 rfl) ?_
      refine z_icmp_ge hx hb d_cTools_fits_7 rfl hf (fun hf => ?_) (fun hf => ?_)
      · refine z_iconst hx hb d_cTools_fits_56 ?_
        cases hf
        subst hQ
        exact z_retz hx hb (Or.inr rfl) hr hlocks hB hK hW hS d_cTools_fits_57
      · refine lv_aload_n hx hb d_cTools_fits_10 rfl (lv_at hl 0 rfl) ?_
        refine zg_To_words M hW (M.2.2.1 _ w_283) d_cTools_fits_11 ?_
        refine zg_Wo_joined M hW (M.2.2.1 _ w_264) d_cTools_fits_14 ?_
        refine zg_Tx_letters M hW (zid_T (Or.inl (by decide))) (M.2.2.1 _ w_103) d_cTools_fits_17 ?_
        refine lv_iload hx hb d_cTools_fits_20 (lv_at hl 5 rfl) ?_
        obtain ⟨g1, hf⟩ := zg hf
        refine za_let M hW (zid_C (Or.inl (by decide))) g1 d_cTools_fits_22 ?_
        refine lv_istore (lv' := [(6, .int (zI (cA u 0 1 v5.toNat))), (0, .ref (ad (0, 6))), (1, .ref (ad (1, v1))), (2, .int (zI v2)), (3, .int (zI v3)), (4, .int (zI v4)), (5, .int (zI v5))]) hx hb d_cTools_fits_23 hl (by decide) rfl (fun ls hl => ?_)
        refine lv_iload hx hb d_cTools_fits_25 (lv_at hl 0 rfl) ?_
        refine z_bipush hx hb d_cTools_fits_27 rfl ?_
        obtain ⟨b1, g2, hf⟩ := ze1 hf
        have JT2 : b1 = true → ∀ (H : Heap) (locs : List Loc), ZW D B y ad q u r H → va_S (fun x => B ≤ x) s.heap H locs → W p l e R s m args below meth c H locs 0 0 Q (F0 m 50 ls []) := by
          intro hv H locs hW hS
          have hf := zp (hv) hf
          refine lv_iinc (k := 6) (v := zI (v5 + 1)) (lv' := [(5, .int (zI (v5 + 1))), (6, .int (zI (cA u 0 1 v5.toNat))), (0, .ref (ad (0, 6))), (1, .ref (ad (1, v1))), (2, .int (zI v2)), (3, .int (zI v3)), (4, .int (zI v4))]) hx hb d_cTools_fits_50 hl rfl (zI_add _ _) (by decide) rfl (fun ls hl => ?_)
          refine lv_goto hx hb d_cTools_fits_53 rfl ?_
          exact ih _ _ _ _ _ _ _ _ hf (lv_sub hl [2, 3, 4, 5, 6, 0] rfl) hW hS
        have JF2 : b1 = false → ∀ (H : Heap) (locs : List Loc), ZW D B y ad q u r H → va_S (fun x => B ≤ x) s.heap H locs → W p l e R s m args below meth c H locs 0 0 Q (F0 m 48 ls []) := by
          intro hv H locs hW hS
          have hf := zn (by rw [hv]; decide) hf
          refine z_iconst hx hb d_cTools_fits_48 ?_
          cases hf
          subst hQ
          exact z_retz hx hb (Or.inl rfl) hr hlocks hB hK hW hS d_cTools_fits_49
        refine z_icmp_eq hx hb d_cTools_fits_29 rfl g2 (fun g2 => ?_) (fun g2 => ?_)
        · exact JT2 (Option.some.inj g2).symm _ _ hW hS
        · refine lv_iload hx hb d_cTools_fits_32 (lv_at hl 0 rfl) ?_
          refine lv_aload_n hx hb d_cTools_fits_34 rfl (lv_at hl 2 rfl) ?_
          obtain ⟨g3, g2⟩ := zg g2
          refine zg_Tx_letters M hW (zid_T g3) (M.2.2.1 _ w_103) d_cTools_fits_35 ?_
          refine lv_iload_n hx hb d_cTools_fits_38 rfl (lv_at hl 3 rfl) ?_
          refine lv_iload hx hb d_cTools_fits_39 (lv_at hl 6 rfl) ?_
          refine z_iadd hx hb d_cTools_fits_41 ?_
          refine lv_iload_n hx hb d_cTools_fits_42 rfl (lv_at hl 4 rfl) ?_
          refine z_isub hx hb d_cTools_fits_43 ?_
          obtain ⟨g4, g2⟩ := zg g2
          refine za_let M hW (zid_C g3) g4 d_cTools_fits_44 ?_
          refine z_icmp_eq hx hb d_cTools_fits_45 rfl g2 (fun g2 => ?_) (fun g2 => ?_)
          · exact JT2 (Option.some.inj g2).symm _ _ hW hS
          · exact JF2 (Option.some.inj g2).symm _ _ hW hS
  rw [cTools_fits] at hf
  refine lv_iload_n hx hb d_cTools_fits_0 rfl (lv_at hl 3 rfl) ?_
  refine lv_istore (lv' := [(5, .int (zI v3)), (0, .ref (ad (0, 6))), (1, .ref (ad (1, v1))), (2, .int (zI v2)), (3, .int (zI v3)), (4, .int (zI v4))]) hx hb d_cTools_fits_1 hl (by decide) rfl (fun ls hl => ?_)
  exact C_3 F _ _ _ _ _ _ _ _ hf (lv_sub hl [1, 2, 3, 4, 5, 0] rfl) hW hS
set_option maxRecDepth 100000 in
set_option maxHeartbeats 4000000 in
theorem k_cTools_matches {l : Launch} {D : va_G} {B : Nat} {y : Nat → ClassId} {ad : Nat × Nat → Nat} {q : Bool} {r : ZR} (F : Nat) (u : ZC) (v1 : Nat) (v2 : Int) (v3 : Int) (v4 : Int) {res : Int} (hf : cTools_matches F u v1 v2 v3 v4 = some res) : Met l y_cTools_matches (.code y_cTools_matches b_cTools_matches 14 (some .boolean) :: zt) { frames := 1, cells := 0, slots := 0, locals := 26 } (va_Pc [.ref (ad (0, 6)), .ref (ad (1, v1)), .int (zI v2), .int (zI v3), .int (zI v4)] (fun U => ZP D B y ad q u r U)) (va_Qi (fun v (_ : Unit) => v = zI res) (fun _ t => ZP D B y ad q u r t) (fun x => B ≤ x)) 0 0 (fun x => B ≤ x) := by
  refine Met.ofW (cc := b_cTools_matches) (maxL := 14) (ret := (some .boolean)) (by decide) rfl ?_
  intro p e s m args below meth c s₁ Bd hml hv
  obtain ⟨hargs, hB, hW, hK⟩ := hv
  have hx := Bd.exec
  have hb := Bd.bytes
  have hr := Bd.returns
  have hts0 := atoms_spec (ws := .code y_cTools_matches b_cTools_matches 14 (some .boolean) :: zt) Bd.pre
  have hown : s.vm.findClass "TreeShell$Tools" = some m.cls := findClass_of_methodNamed Bd.named
  have hlocks := Bd.notSynchronized
  have M : ZM p c b_cTools_matches s args m "TreeShell$Tools" D y := ⟨hx, hb, fun w h => hts0 w (List.mem_cons_of_mem _ h), hown, hK⟩
  have hS : va_S (fun x => B ≤ x) s.heap s.heap [] := va_S.rf
  have hE := lg_entry_eq m ([.ref (ad (0, 6)), .ref (ad (1, v1)), .int (zI v2), .int (zI v3), .int (zI v4)] : List Value) 14
  rw [← hargs] at hE
  rw [hE]
  have hl := lv_entry ([.ref (ad (0, 6)), .ref (ad (1, v1)), .int (zI v2), .int (zI v3), .int (zI v4)] : List Value) (n := 14) (Nat.le_of_ble_eq_true rfl)
  generalize (lg_sl ([.ref (ad (0, 6)), .ref (ad (1, v1)), .int (zI v2), .int (zI v3), .int (zI v4)] : List Value) ++ List.replicate (14 - (lg_sl ([.ref (ad (0, 6)), .ref (ad (1, v1)), .int (zI v2), .int (zI v3), .int (zI v4)] : List Value)).length) Slot.unset).toArray = ls at hl ⊢
  have hl : lv_has ls 14 [(0, .ref (ad (0, 6))), (1, .ref (ad (1, v1))), (2, .int (zI v2)), (3, .int (zI v3)), (4, .int (zI v4))] := hl
  refine z_start (fun Q R hQ hR => ?_)
  generalize hH : s.heap = H at hW
  have hS : va_S (fun x => B ≤ x) s.heap H [] := by rw [← hH]; exact hS
  have C_162 : ∀ (n : Nat), ∀ (v1 : Nat) (v6 : Int) (v7 : Int) (v12 : Int) (v13 : Int) (H : Heap) (locs : List Loc) (ls : Array Slot), cTools_matches_162 F n u v1 v6 v7 v12 v13 = some res → lv_has ls 14 [(0, .ref (ad (0, 6))), (1, .ref (ad (1, v1))), (6, .int (zI v6)), (7, .int (zI v7)), (12, .int (zI v12)), (13, .int (zI v13))] → ZW D B y ad q u r H → va_S (fun x => B ≤ x) s.heap H locs → W p l e R s m args below meth c H locs 0 0 Q (F0 m 162 ls []) := by
    intro n
    induction n with
    | zero => intro v1 v6 v7 v12 v13 H locs ls hf; cases (show (none : Option (Int)) = some res from hf)
    | succ n ih =>
      intro v1 v6 v7 v12 v13 H locs ls hf hl hW hS
      rw [cTools_matches_162] at hf
      refine lv_iload hx hb d_cTools_matches_162 (lv_at hl 5 rfl) ?_
      refine lv_iload hx hb d_cTools_matches_164 (lv_at hl 4 rfl) ?_
      refine z_icmp_gt hx hb d_cTools_matches_166 rfl hf (fun hf => ?_) (fun hf => ?_)
      · refine z_iconst hx hb d_cTools_matches_191 ?_
        cases hf
        subst hQ
        exact z_retz hx hb (Or.inl rfl) hr hlocks hB hK hW hS d_cTools_matches_192
      · refine lv_aload_n hx hb d_cTools_matches_169 rfl (lv_at hl 0 rfl) ?_
        refine lv_aload_n hx hb d_cTools_matches_170 rfl (lv_at hl 1 rfl) ?_
        refine lv_iload hx hb d_cTools_matches_171 (lv_at hl 5 rfl) ?_
        refine lv_iload hx hb d_cTools_matches_173 (lv_at hl 2 rfl) ?_
        refine lv_iload hx hb d_cTools_matches_175 (lv_at hl 3 rfl) ?_
        obtain ⟨p11, g1, hf⟩ := ze1 hf
        refine z_callVi (As := [.ref (ad (1, v1)), .int (zI v13), .int (zI v6), .int (zI v7)]) (rest := []) (k_cTools_fits F _ _ _ _ _ g1) M hml (cw_cTools_fits M.2.2.1 (M.2.2.1 _ w_660) (by rw [hR]; exact Nat.le_of_ble_eq_true rfl) (by rw [hR]; exact Nat.le_of_ble_eq_true rfl)) (zv_To hK hW) hB hW hS rfl hl.1 rfl (Nat.le_of_ble_eq_true rfl) d_cTools_matches_177 (by rw [hR]; exact ⟨Nat.zero_le _, Nat.zero_le _⟩) (fun H locs hW hS => ?_)
        refine z_if_eq hx hb d_cTools_matches_180 rfl hf (fun hf => ?_) (fun hf => ?_)
        · refine lv_iinc (k := 5) (v := zI (v13 + 1)) (lv' := [(13, .int (zI (v13 + 1))), (0, .ref (ad (0, 6))), (1, .ref (ad (1, v1))), (6, .int (zI v6)), (7, .int (zI v7)), (12, .int (zI v12))]) hx hb d_cTools_matches_185 hl rfl (zI_add _ _) (by decide) rfl (fun ls hl => ?_)
          refine lv_goto hx hb d_cTools_matches_188 rfl ?_
          exact ih _ _ _ _ _ _ _ _ hf (lv_sub hl [1, 2, 3, 4, 5, 0] rfl) hW hS
        · refine z_iconst hx hb d_cTools_matches_183 ?_
          cases hf
          subst hQ
          exact z_retz hx hb (Or.inr rfl) hr hlocks hB hK hW hS d_cTools_matches_184
  rw [cTools_matches] at hf
  refine lv_aload_n hx hb d_cTools_matches_0 rfl (lv_at hl 0 rfl) ?_
  refine zg_To_words M hW (M.2.2.1 _ w_283) d_cTools_matches_1 ?_
  refine zg_Wo_joined M hW (M.2.2.1 _ w_264) d_cTools_matches_4 ?_
  refine zg_Tx_letters M hW (zid_T (Or.inl (by decide))) (M.2.2.1 _ w_103) d_cTools_matches_7 ?_
  refine lv_astore (lv' := [(5, .ref (ad (2, 1))), (0, .ref (ad (0, 6))), (1, .ref (ad (1, v1))), (2, .int (zI v2)), (3, .int (zI v3)), (4, .int (zI v4))]) hx hb d_cTools_matches_10 hl (by decide) rfl (fun ls hl => ?_)
  refine lv_aload_n hx hb d_cTools_matches_12 rfl (lv_at hl 1 rfl) ?_
  refine zg_To_words M hW (M.2.2.1 _ w_283) d_cTools_matches_13 ?_
  refine lv_iload hx hb d_cTools_matches_16 (lv_at hl 5 rfl) ?_
  obtain ⟨p1, g2, hf⟩ := ze1 hf
  refine z_callVi (As := [.int (zI v4)]) (rest := []) (k_cWords_startOf F _ _ g2) M hml (cw_cWords_startOf M.2.2.1 (M.2.2.1 _ w_628) (by rw [hR]; exact Nat.le_of_ble_eq_true rfl) (by rw [hR]; exact Nat.le_of_ble_eq_true rfl)) (zv_Wo hK hW) hB hW hS rfl hl.1 rfl (Nat.le_of_ble_eq_true rfl) d_cTools_matches_18 (by rw [hR]; exact ⟨Nat.zero_le _, Nat.zero_le _⟩) (fun H locs hW hS => ?_)
  refine lv_istore (lv' := [(6, .int (zI p1)), (5, .ref (ad (2, 1))), (0, .ref (ad (0, 6))), (1, .ref (ad (1, v1))), (2, .int (zI v2)), (3, .int (zI v3)), (4, .int (zI v4))]) hx hb d_cTools_matches_21 hl (by decide) rfl (fun ls hl => ?_)
  refine lv_aload_n hx hb d_cTools_matches_23 rfl (lv_at hl 2 rfl) ?_
  refine zg_To_words M hW (M.2.2.1 _ w_283) d_cTools_matches_24 ?_
  refine lv_iload hx hb d_cTools_matches_27 (lv_at hl 6 rfl) ?_
  obtain ⟨p2, g3, hf⟩ := ze1 hf
  refine z_callVi (As := [.int (zI v4)]) (rest := []) (k_cWords_endOf F _ _ g3) M hml (cw_cWords_endOf M.2.2.1 (M.2.2.1 _ w_629) (by rw [hR]; exact Nat.le_of_ble_eq_true rfl) (by rw [hR]; exact Nat.le_of_ble_eq_true rfl)) (zv_Wo hK hW) hB hW hS rfl hl.1 rfl (Nat.le_of_ble_eq_true rfl) d_cTools_matches_29 (by rw [hR]; exact ⟨Nat.zero_le _, Nat.zero_le _⟩) (fun H locs hW hS => ?_)
  refine lv_istore (lv' := [(7, .int (zI p2)), (6, .int (zI p1)), (5, .ref (ad (2, 1))), (0, .ref (ad (0, 6))), (1, .ref (ad (1, v1))), (2, .int (zI v2)), (3, .int (zI v3)), (4, .int (zI v4))]) hx hb d_cTools_matches_32 hl (by decide) rfl (fun ls hl => ?_)
  refine lv_iload hx hb d_cTools_matches_34 (lv_at hl 1 rfl) ?_
  refine lv_iload hx hb d_cTools_matches_36 (lv_at hl 0 rfl) ?_
  obtain ⟨x4, g4, hf⟩ := ze1 hf
  have J4 : ∀ (H : Heap) (locs : List Loc) (ls : Array Slot), lv_has ls 14 [(0, .ref (ad (0, 6))), (1, .ref (ad (1, v1))), (2, .int (zI v2)), (3, .int (zI v3)), (5, .ref (ad (2, 1))), (6, .int (zI p1)), (7, .int (zI p2))] → ZW D B y ad q u r H → va_S (fun x => B ≤ x) s.heap H locs → W p l e R s m args below meth c H locs 0 0 Q (F0 m 56 ls [.int (zI x4)]) := by
    intro H locs ls hl hW hS
    refine lv_istore (lv' := [(8, .int (zI x4)), (0, .ref (ad (0, 6))), (1, .ref (ad (1, v1))), (2, .int (zI v2)), (3, .int (zI v3)), (5, .ref (ad (2, 1))), (6, .int (zI p1)), (7, .int (zI p2))]) hx hb d_cTools_matches_56 hl (by decide) rfl (fun ls hl => ?_)
    refine lv_iload hx hb d_cTools_matches_58 (lv_at hl 6 rfl) ?_
    refine lv_iload hx hb d_cTools_matches_60 (lv_at hl 0 rfl) ?_
    obtain ⟨x5, g5, hf⟩ := ze1 hf
    have J5 : ∀ (H : Heap) (locs : List Loc) (ls : Array Slot), lv_has ls 14 [(0, .ref (ad (0, 6))), (1, .ref (ad (1, v1))), (2, .int (zI v2)), (3, .int (zI v3)), (5, .ref (ad (2, 1))), (7, .int (zI p2)), (8, .int (zI x4))] → ZW D B y ad q u r H → va_S (fun x => B ≤ x) s.heap H locs → W p l e R s m args below meth c H locs 0 0 Q (F0 m 70 ls [.int (zI x5), .int (zI p1)]) := by
      intro H locs ls hl hW hS
      refine z_iadd hx hb d_cTools_matches_70 ?_
      refine lv_istore (lv' := [(6, .int (zI (p1 + x5))), (0, .ref (ad (0, 6))), (1, .ref (ad (1, v1))), (2, .int (zI v2)), (3, .int (zI v3)), (5, .ref (ad (2, 1))), (7, .int (zI p2)), (8, .int (zI x4))]) hx hb d_cTools_matches_71 hl (by decide) rfl (fun ls hl => ?_)
      refine lv_iload hx hb d_cTools_matches_73 (lv_at hl 0 rfl) ?_
      refine lv_iload hx hb d_cTools_matches_75 (lv_at hl 6 rfl) ?_
      obtain ⟨x7, g6, hf⟩ := ze1 hf
      have J6 : ∀ (H : Heap) (locs : List Loc) (ls : Array Slot), lv_has ls 14 [(0, .ref (ad (0, 6))), (1, .ref (ad (1, v1))), (2, .int (zI v2)), (3, .int (zI v3)), (6, .int (zI (p1 + x5))), (7, .int (zI p2)), (8, .int (zI x4))] → ZW D B y ad q u r H → va_S (fun x => B ≤ x) s.heap H locs → W p l e R s m args below meth c H locs 0 0 Q (F0 m 97 ls [.int (zI x7)]) := by
        intro H locs ls hl hW hS
        refine lv_istore (lv' := [(9, .int (zI x7)), (0, .ref (ad (0, 6))), (1, .ref (ad (1, v1))), (2, .int (zI v2)), (3, .int (zI v3)), (6, .int (zI (p1 + x5))), (7, .int (zI p2)), (8, .int (zI x4))]) hx hb d_cTools_matches_97 hl (by decide) rfl (fun ls hl => ?_)
        refine lv_iload hx hb d_cTools_matches_99 (lv_at hl 6 rfl) ?_
        refine lv_iload hx hb d_cTools_matches_101 (lv_at hl 0 rfl) ?_
        obtain ⟨x8, g7, hf⟩ := ze1 hf
        have J7 : ∀ (H : Heap) (locs : List Loc) (ls : Array Slot), lv_has ls 14 [(0, .ref (ad (0, 6))), (1, .ref (ad (1, v1))), (2, .int (zI v2)), (3, .int (zI v3)), (6, .int (zI (p1 + x5))), (8, .int (zI x4)), (9, .int (zI x7))] → ZW D B y ad q u r H → va_S (fun x => B ≤ x) s.heap H locs → W p l e R s m args below meth c H locs 0 0 Q (F0 m 111 ls [.int (zI x8), .int (zI p2)]) := by
          intro H locs ls hl hW hS
          refine z_isub hx hb d_cTools_matches_111 ?_
          refine lv_istore (lv' := [(7, .int (zI (p2 - x8))), (0, .ref (ad (0, 6))), (1, .ref (ad (1, v1))), (2, .int (zI v2)), (3, .int (zI v3)), (6, .int (zI (p1 + x5))), (8, .int (zI x4)), (9, .int (zI x7))]) hx hb d_cTools_matches_112 hl (by decide) rfl (fun ls hl => ?_)
          refine lv_iload_n hx hb d_cTools_matches_114 rfl (lv_at hl 4 rfl) ?_
          refine lv_iload hx hb d_cTools_matches_115 (lv_at hl 0 rfl) ?_
          refine lv_iload hx hb d_cTools_matches_117 (lv_at hl 5 rfl) ?_
          refine z_isub hx hb d_cTools_matches_119 ?_
          refine z_isub hx hb d_cTools_matches_120 ?_
          refine lv_istore (lv' := [(10, .int (zI (v3 - ((p2 - x8) - (p1 + x5))))), (7, .int (zI (p2 - x8))), (0, .ref (ad (0, 6))), (1, .ref (ad (1, v1))), (2, .int (zI v2)), (3, .int (zI v3)), (6, .int (zI (p1 + x5))), (8, .int (zI x4)), (9, .int (zI x7))]) hx hb d_cTools_matches_121 hl (by decide) rfl (fun ls hl => ?_)
          refine lv_iload hx hb d_cTools_matches_123 (lv_at hl 8 rfl) ?_
          obtain ⟨x9, g8, hf⟩ := ze1 hf
          have J8 : ∀ (H : Heap) (locs : List Loc) (ls : Array Slot), lv_has ls 14 [(0, .ref (ad (0, 6))), (1, .ref (ad (1, v1))), (2, .int (zI v2)), (6, .int (zI (p1 + x5))), (7, .int (zI (p2 - x8))), (8, .int (zI x4)), (10, .int (zI (v3 - ((p2 - x8) - (p1 + x5)))))] → ZW D B y ad q u r H → va_S (fun x => B ≤ x) s.heap H locs → W p l e R s m args below meth c H locs 0 0 Q (F0 m 138 ls [.int (zI x9)]) := by
            intro H locs ls hl hW hS
            refine lv_istore (lv' := [(11, .int (zI x9)), (0, .ref (ad (0, 6))), (1, .ref (ad (1, v1))), (2, .int (zI v2)), (6, .int (zI (p1 + x5))), (7, .int (zI (p2 - x8))), (8, .int (zI x4)), (10, .int (zI (v3 - ((p2 - x8) - (p1 + x5)))))]) hx hb d_cTools_matches_138 hl (by decide) rfl (fun ls hl => ?_)
            refine lv_iload hx hb d_cTools_matches_140 (lv_at hl 6 rfl) ?_
            obtain ⟨x10, g9, hf⟩ := ze1 hf
            have J9 : ∀ (H : Heap) (locs : List Loc) (ls : Array Slot), lv_has ls 14 [(0, .ref (ad (0, 6))), (1, .ref (ad (1, v1))), (6, .int (zI (p1 + x5))), (7, .int (zI (p2 - x8))), (11, .int (zI x9))] → ZW D B y ad q u r H → va_S (fun x => B ≤ x) s.heap H locs → W p l e R s m args below meth c H locs 0 0 Q (F0 m 156 ls [.int (zI x10)]) := by
              intro H locs ls hl hW hS
              refine lv_istore (lv' := [(12, .int (zI x10)), (0, .ref (ad (0, 6))), (1, .ref (ad (1, v1))), (6, .int (zI (p1 + x5))), (7, .int (zI (p2 - x8))), (11, .int (zI x9))]) hx hb d_cTools_matches_156 hl (by decide) rfl (fun ls hl => ?_)
              refine lv_iload hx hb d_cTools_matches_158 (lv_at hl 5 rfl) ?_
              refine lv_istore (lv' := [(13, .int (zI x9)), (12, .int (zI x10)), (0, .ref (ad (0, 6))), (1, .ref (ad (1, v1))), (6, .int (zI (p1 + x5))), (7, .int (zI (p2 - x8))), (11, .int (zI x9))]) hx hb d_cTools_matches_160 hl (by decide) rfl (fun ls hl => ?_)
              exact C_162 F _ _ _ _ _ _ _ _ hf (lv_sub hl [2, 3, 4, 5, 1, 0] rfl) hW hS
            refine z_if_eq hx hb d_cTools_matches_142 rfl g9 (fun g9 => ?_) (fun g9 => ?_)
            · refine lv_iload hx hb d_cTools_matches_154 (lv_at hl 7 rfl) ?_
              cases g9
              exact J9 _ _ _ (lv_sub hl [1, 2, 4, 5, 0] rfl) hW hS
            · refine lv_iload_n hx hb d_cTools_matches_145 rfl (lv_at hl 3 rfl) ?_
              refine lv_iload hx hb d_cTools_matches_146 (lv_at hl 7 rfl) ?_
              refine z_mmin hx hb hown M.2.2.1 hml (by rw [hR]; exact Nat.le_of_ble_eq_true rfl) (by rw [hR]; exact Nat.le_of_ble_eq_true rfl) hl.1 (Nat.le_of_ble_eq_true rfl) (by rw [hR]; exact ⟨Nat.zero_le _, Nat.zero_le _⟩) (M.2.2.1 _ w_659) d_cTools_matches_148 ?_
              refine lv_goto hx hb d_cTools_matches_151 rfl ?_
              cases g9
              exact J9 _ _ _ (lv_sub hl [1, 2, 4, 5, 0] rfl) hW hS
          refine z_if_eq hx hb d_cTools_matches_125 rfl g8 (fun g8 => ?_) (fun g8 => ?_)
          · refine lv_iload_n hx hb d_cTools_matches_137 rfl (lv_at hl 4 rfl) ?_
            cases g8
            exact J8 _ _ _ (lv_sub hl [2, 3, 4, 6, 1, 7, 0] rfl) hW hS
          · refine lv_iload_n hx hb d_cTools_matches_128 rfl (lv_at hl 4 rfl) ?_
            refine lv_iload hx hb d_cTools_matches_129 (lv_at hl 0 rfl) ?_
            refine z_mmax hx hb hown M.2.2.1 hml (by rw [hR]; exact Nat.le_of_ble_eq_true rfl) (by rw [hR]; exact Nat.le_of_ble_eq_true rfl) hl.1 (Nat.le_of_ble_eq_true rfl) (by rw [hR]; exact ⟨Nat.zero_le _, Nat.zero_le _⟩) (M.2.2.1 _ w_658) d_cTools_matches_131 ?_
            refine lv_goto hx hb d_cTools_matches_134 rfl ?_
            cases g8
            exact J8 _ _ _ (lv_sub hl [2, 3, 4, 6, 1, 7, 0] rfl) hW hS
        refine z_if_eq hx hb d_cTools_matches_103 rfl g7 (fun g7 => ?_) (fun g7 => ?_)
        · refine z_iconst hx hb d_cTools_matches_110 ?_
          cases g7
          exact J7 _ _ _ (lv_sub hl [1, 2, 3, 4, 5, 7, 0] rfl) hW hS
        · refine z_iconst hx hb d_cTools_matches_106 ?_
          refine lv_goto hx hb d_cTools_matches_107 rfl ?_
          cases g7
          exact J7 _ _ _ (lv_sub hl [1, 2, 3, 4, 5, 7, 0] rfl) hW hS
      obtain ⟨b6, g10, g6⟩ := ze1 g6
      have JT10 : b6 = true → ∀ (H : Heap) (locs : List Loc), ZW D B y ad q u r H → va_S (fun x => B ≤ x) s.heap H locs → W p l e R s m args below meth c H locs 0 0 Q (F0 m 96 ls []) := by
        intro hv H locs hW hS
        have g6 := zp (hv) g6
        refine z_iconst hx hb d_cTools_matches_96 ?_
        cases g6
        exact J6 _ _ _ (lv_sub hl [1, 2, 3, 4, 0, 6, 7] rfl) hW hS
      have JF10 : b6 = false → ∀ (H : Heap) (locs : List Loc), ZW D B y ad q u r H → va_S (fun x => B ≤ x) s.heap H locs → W p l e R s m args below meth c H locs 0 0 Q (F0 m 92 ls []) := by
        intro hv H locs hW hS
        have g6 := zn (by rw [hv]; decide) g6
        refine z_iconst hx hb d_cTools_matches_92 ?_
        refine lv_goto hx hb d_cTools_matches_93 rfl ?_
        cases g6
        exact J6 _ _ _ (lv_sub hl [1, 2, 3, 4, 0, 6, 7] rfl) hW hS
      refine z_icmp_ge hx hb d_cTools_matches_77 rfl g10 (fun g10 => ?_) (fun g10 => ?_)
      · exact JT10 (Option.some.inj g10).symm _ _ hW hS
      · refine lv_aload hx hb d_cTools_matches_80 (lv_at hl 5 rfl) ?_
        refine lv_iload hx hb d_cTools_matches_82 (lv_at hl 6 rfl) ?_
        refine z_iconst hx hb d_cTools_matches_84 ?_
        refine z_isub hx hb d_cTools_matches_85 ?_
        obtain ⟨g11, g10⟩ := zg g10
        refine za_let M hW (zid_C (Or.inl (by decide))) g11 d_cTools_matches_86 ?_
        refine z_bipush hx hb d_cTools_matches_87 rfl ?_
        refine z_icmp_ne hx hb d_cTools_matches_89 rfl g10 (fun g10 => ?_) (fun g10 => ?_)
        · exact JT10 (Option.some.inj g10).symm _ _ hW hS
        · exact JF10 (Option.some.inj g10).symm _ _ hW hS
    refine z_if_eq hx hb d_cTools_matches_62 rfl g5 (fun g5 => ?_) (fun g5 => ?_)
    · refine z_iconst hx hb d_cTools_matches_69 ?_
      cases g5
      exact J5 _ _ _ (lv_sub hl [1, 2, 3, 4, 5, 7, 0] rfl) hW hS
    · refine z_iconst hx hb d_cTools_matches_65 ?_
      refine lv_goto hx hb d_cTools_matches_66 rfl ?_
      cases g5
      exact J5 _ _ _ (lv_sub hl [1, 2, 3, 4, 5, 7, 0] rfl) hW hS
  obtain ⟨b3, g12, g4⟩ := ze1 g4
  have JT12 : b3 = true → ∀ (H : Heap) (locs : List Loc), ZW D B y ad q u r H → va_S (fun x => B ≤ x) s.heap H locs → W p l e R s m args below meth c H locs 0 0 Q (F0 m 55 ls []) := by
    intro hv H locs hW hS
    have g4 := zp (hv) g4
    refine z_iconst hx hb d_cTools_matches_55 ?_
    cases g4
    exact J4 _ _ _ (lv_sub hl [3, 4, 5, 6, 2, 1, 0] rfl) hW hS
  have JF12 : b3 = false → ∀ (H : Heap) (locs : List Loc), ZW D B y ad q u r H → va_S (fun x => B ≤ x) s.heap H locs → W p l e R s m args below meth c H locs 0 0 Q (F0 m 51 ls []) := by
    intro hv H locs hW hS
    have g4 := zn (by rw [hv]; decide) g4
    refine z_iconst hx hb d_cTools_matches_51 ?_
    refine lv_goto hx hb d_cTools_matches_52 rfl ?_
    cases g4
    exact J4 _ _ _ (lv_sub hl [3, 4, 5, 6, 2, 1, 0] rfl) hW hS
  refine z_icmp_ge hx hb d_cTools_matches_38 rfl g12 (fun g12 => ?_) (fun g12 => ?_)
  · exact JT12 (Option.some.inj g12).symm _ _ hW hS
  · refine lv_aload hx hb d_cTools_matches_41 (lv_at hl 2 rfl) ?_
    refine lv_iload hx hb d_cTools_matches_43 (lv_at hl 1 rfl) ?_
    obtain ⟨g13, g12⟩ := zg g12
    refine za_let M hW (zid_C (Or.inl (by decide))) g13 d_cTools_matches_45 ?_
    refine z_bipush hx hb d_cTools_matches_46 rfl ?_
    refine z_icmp_ne hx hb d_cTools_matches_48 rfl g12 (fun g12 => ?_) (fun g12 => ?_)
    · exact JT12 (Option.some.inj g12).symm _ _ hW hS
    · exact JF12 (Option.some.inj g12).symm _ _ hW hS
set_option maxRecDepth 100000 in
set_option maxHeartbeats 4000000 in
theorem k_cTools_ls {l : Launch} {D : va_G} {B : Nat} {y : Nat → ClassId} {ad : Nat × Nat → Nat} {q : Bool} {r : ZR} (F : Nat) (u : ZC) (v1 : Nat) {res : Int} {uo : ZC} (hf : cTools_ls F u v1 = some (res, uo)) : Met l y_cTools_ls (.code y_cTools_ls b_cTools_ls 5 (some .int) :: zt) { frames := 2, cells := 0, slots := 0, locals := 56 } (va_Pc [.ref (ad (0, 6)), .ref (ad (1, v1))] (fun U => ZP D B y ad q u r U)) (va_Qi (fun v (_ : Unit) => v = zI res) (fun _ t => ZP D B y ad q uo r t) (fun x => B ≤ x)) 0 0 (fun x => B ≤ x) := by
  refine Met.ofW (cc := b_cTools_ls) (maxL := 5) (ret := (some .int)) (by decide) rfl ?_
  intro p e s m args below meth c s₁ Bd hml hv
  obtain ⟨hargs, hB, hW, hK⟩ := hv
  have hx := Bd.exec
  have hb := Bd.bytes
  have hr := Bd.returns
  have hts0 := atoms_spec (ws := .code y_cTools_ls b_cTools_ls 5 (some .int) :: zt) Bd.pre
  have hown : s.vm.findClass "TreeShell$Tools" = some m.cls := findClass_of_methodNamed Bd.named
  have hlocks := Bd.notSynchronized
  have M : ZM p c b_cTools_ls s args m "TreeShell$Tools" D y := ⟨hx, hb, fun w h => hts0 w (List.mem_cons_of_mem _ h), hown, hK⟩
  have hS : va_S (fun x => B ≤ x) s.heap s.heap [] := va_S.rf
  have hE := lg_entry_eq m ([.ref (ad (0, 6)), .ref (ad (1, v1))] : List Value) 5
  rw [← hargs] at hE
  rw [hE]
  have hl := lv_entry ([.ref (ad (0, 6)), .ref (ad (1, v1))] : List Value) (n := 5) (Nat.le_of_ble_eq_true rfl)
  generalize (lg_sl ([.ref (ad (0, 6)), .ref (ad (1, v1))] : List Value) ++ List.replicate (5 - (lg_sl ([.ref (ad (0, 6)), .ref (ad (1, v1))] : List Value)).length) Slot.unset).toArray = ls at hl ⊢
  have hl : lv_has ls 5 [(0, .ref (ad (0, 6))), (1, .ref (ad (1, v1)))] := hl
  refine z_start (fun Q R hQ hR => ?_)
  generalize hH : s.heap = H at hW
  have hS : va_S (fun x => B ≤ x) s.heap H [] := by rw [← hH]; exact hS
  have C_89 : ∀ (n : Nat), ∀ (u : ZC) (v1 : Nat) (v2 : Nat) (v3 : Option Nat) (v4 : Int) (H : Heap) (locs : List Loc) (ls : Array Slot), cTools_ls_89 F n u v1 v2 v3 v4 = some (res, uo) → lv_has ls 5 [(0, .ref (ad (0, 6))), (1, .ref (ad (1, v1))), (2, .ref (ad (3, v2))), (3, zrf ad 3 v3), (4, .int (zI v4))] → ZW D B y ad q u r H → va_S (fun x => B ≤ x) s.heap H locs → W p l e R s m args below meth c H locs 0 0 Q (F0 m 89 ls []) := by
    intro n
    induction n with
    | zero => intro u v1 v2 v3 v4 H locs ls hf; cases (show (none : Option (Int × ZC)) = some (res, uo) from hf)
    | succ n ih =>
      intro u v1 v2 v3 v4 H locs ls hf hl hW hS
      rw [cTools_ls_89] at hf
      refine lv_iload hx hb d_cTools_ls_89 (lv_at hl 4 rfl) ?_
      refine lv_aload_n hx hb d_cTools_ls_91 rfl (lv_at hl 0 rfl) ?_
      refine zg_To_tree M hW (M.2.2.1 _ w_284) d_cTools_ls_92 ?_
      refine zg_Tr_count M hW (M.2.2.1 _ w_215) d_cTools_ls_95 ?_
      obtain ⟨b13, g1, hf⟩ := ze1 hf
      have JT1 : b13 = true → ∀ (H : Heap) (locs : List Loc), ZW D B y ad q u r H → va_S (fun x => B ≤ x) s.heap H locs → W p l e R s m args below meth c H locs 0 0 Q (F0 m 151 ls []) := by
        intro hv H locs hW hS
        have hf := zp (hv) hf
        refine z_iconst hx hb d_cTools_ls_151 ?_
        cases hf
        subst hQ
        exact z_reti hx hb hr hlocks hB hK hW hS d_cTools_ls_152
      have JF1 : b13 = false → ∀ (H : Heap) (locs : List Loc), ZW D B y ad q u r H → va_S (fun x => B ≤ x) s.heap H locs → W p l e R s m args below meth c H locs 0 0 Q (F0 m 105 ls []) := by
        intro hv H locs hW hS
        have hf := zn (by rw [hv]; decide) hf
        refine lv_aload_n hx hb d_cTools_ls_105 rfl (lv_at hl 1 rfl) ?_
        refine z_aload_n hx hb d_cTools_ls_106 rfl (lv_at hl 3 rfl) ?_
        obtain ⟨n14, hn, hyg2⟩ := zes hf
        subst hn
        have hf := hyg2
        have hl : lv_has ls 5 [(0, .ref (ad (0, 6))), (1, .ref (ad (1, v1))), (2, .ref (ad (3, v2))), (3, .ref (ad (3, n14))), (4, .int (zI v4))] := hl
        obtain ⟨g3, hf⟩ := zg hf
        refine zg_No_name M hW (zid_N g3) (M.2.2.1 _ w_188) d_cTools_ls_107 ?_
        obtain ⟨g4, hf⟩ := zg hf
        obtain ⟨u15, g5, hf⟩ := ze1 hf
        refine z_callVv (As := [.long (cJ u 0 n14)]) (rest := []) (k_cText_addPacked F _ _ _ g5) M hml (cw_cText_addPacked M.2.2.1 (M.2.2.1 _ w_669) (by rw [hR]; exact Nat.le_of_ble_eq_true rfl) (by rw [hR]; exact Nat.le_of_ble_eq_true rfl)) (zv_Tx hK hW (zid_T g4)) hB hW hS rfl hl.1 rfl (Nat.le_of_ble_eq_true rfl) d_cTools_ls_110 (by rw [hR]; exact ⟨Nat.zero_le _, Nat.zero_le _⟩) (fun H locs hW hS => ?_)
        refine lv_aload_n hx hb d_cTools_ls_113 rfl (lv_at hl 3 rfl) ?_
        obtain ⟨g6, hf⟩ := zg hf
        refine zg_No_content M hW (zid_N g6) (M.2.2.1 _ w_191) d_cTools_ls_114 ?_
        obtain ⟨o16, g7, hf⟩ := ze1 hf
        have g7 := Option.some.inj g7
        rw [g7]
        obtain ⟨u19, g8, hf⟩ := ze1 hf
        have J8 : ∀ (H : Heap) (locs : List Loc) (ls : Array Slot), lv_has ls 5 [(0, .ref (ad (0, 6))), (1, .ref (ad (1, v1))), (2, .ref (ad (3, v2))), (3, .ref (ad (3, n14))), (4, .int (zI v4))] → ZW D B y ad q u19 r H → va_S (fun x => B ≤ x) s.heap H locs → W p l e R s m args below meth c H locs 0 0 Q (F0 m 126 ls []) := by
          intro H locs ls hl hW hS
          refine lv_aload_n hx hb d_cTools_ls_126 rfl (lv_at hl 1 rfl) ?_
          refine z_bipush hx hb d_cTools_ls_127 rfl ?_
          obtain ⟨g9, hf⟩ := zg hf
          obtain ⟨u20, g10, hf⟩ := ze1 hf
          refine z_callVv (As := [.int (zI 10)]) (rest := []) (k_cText_add F _ _ _ g10) M hml (cw_cText_add M.2.2.1 (M.2.2.1 _ w_627) (by rw [hR]; exact Nat.le_of_ble_eq_true rfl) (by rw [hR]; exact Nat.le_of_ble_eq_true rfl)) (zv_Tx hK hW (zid_T g9)) hB hW hS rfl hl.1 rfl (Nat.le_of_ble_eq_true rfl) d_cTools_ls_129 (by rw [hR]; exact ⟨Nat.zero_le _, Nat.zero_le _⟩) (fun H locs hW hS => ?_)
          refine lv_aload_n hx hb d_cTools_ls_132 rfl (lv_at hl 0 rfl) ?_
          refine zg_To_tree M hW (M.2.2.1 _ w_284) d_cTools_ls_133 ?_
          refine lv_aload_n hx hb d_cTools_ls_136 rfl (lv_at hl 2 rfl) ?_
          refine lv_aload_n hx hb d_cTools_ls_137 rfl (lv_at hl 3 rfl) ?_
          obtain ⟨g11, hf⟩ := zg hf
          refine zg_No_name M hW (zid_N g11) (M.2.2.1 _ w_188) d_cTools_ls_138 ?_
          obtain ⟨p21, g12, hf⟩ := ze1 hf
          refine z_callVq (As := [.ref (ad (3, v2)), .long (cJ u20 0 n14)]) (rest := []) (k_cTree_nextIn F _ _ _ g12) M hml (cw_cTree_nextIn M.2.2.1 (M.2.2.1 _ w_670) (by rw [hR]; exact Nat.le_of_ble_eq_true rfl) (by rw [hR]; exact Nat.le_of_ble_eq_true rfl)) (zv_Tr hK hW) hB hW hS rfl hl.1 rfl (Nat.le_of_ble_eq_true rfl) d_cTools_ls_141 (by rw [hR]; exact ⟨Nat.zero_le _, Nat.zero_le _⟩) (fun H locs hW hS => ?_)
          refine z_astore_n (lv2 := [(3, zrf ad 3 p21), (0, .ref (ad (0, 6))), (1, .ref (ad (1, v1))), (2, .ref (ad (3, v2))), (4, .int (zI v4))]) hx hb d_cTools_ls_144 rfl hl (by decide) rfl (fun ls hl => ?_)
          refine lv_iinc (k := 4) (v := zI (v4 + 1)) (lv' := [(4, .int (zI (v4 + 1))), (3, zrf ad 3 p21), (0, .ref (ad (0, 6))), (1, .ref (ad (1, v1))), (2, .ref (ad (3, v2)))]) hx hb d_cTools_ls_145 hl rfl (zI_add _ _) (by decide) (by simp only [List.filter, zrf_cat] <;> rfl) (fun ls hl => ?_)
          refine lv_goto hx hb d_cTools_ls_148 rfl ?_
          exact ih _ _ _ _ _ _ _ _ hf (lv_sub hl [2, 3, 4, 1, 0] rfl) hW hS
        refine z_ifnonnull hx hb d_cTools_ls_117 rfl g8 (fun hyg13 hn => ?_) (fun n17 hn hyg13 => ?_)
        · subst hn
          have g8 := hyg13
          have hl : lv_has ls 5 [(0, .ref (ad (0, 6))), (1, .ref (ad (1, v1))), (2, .ref (ad (3, v2))), (3, .ref (ad (3, n14))), (4, .int (zI v4))] := hl
          refine lv_aload_n hx hb d_cTools_ls_120 rfl (lv_at hl 1 rfl) ?_
          refine z_bipush hx hb d_cTools_ls_121 rfl ?_
          obtain ⟨g14, g8⟩ := zg g8
          obtain ⟨u18, g15, g8⟩ := ze1 g8
          refine z_callVv (As := [.int (zI 47)]) (rest := []) (k_cText_add F _ _ _ g15) M hml (cw_cText_add M.2.2.1 (M.2.2.1 _ w_627) (by rw [hR]; exact Nat.le_of_ble_eq_true rfl) (by rw [hR]; exact Nat.le_of_ble_eq_true rfl)) (zv_Tx hK hW (zid_T g14)) hB hW hS rfl hl.1 rfl (Nat.le_of_ble_eq_true rfl) d_cTools_ls_123 (by rw [hR]; exact ⟨Nat.zero_le _, Nat.zero_le _⟩) (fun H locs hW hS => ?_)
          cases g8
          exact J8 _ _ _ (lv_sub hl [0, 1, 2, 3, 4] rfl) hW hS
        · subst hn
          have g8 := hyg13
          have hl : lv_has ls 5 [(0, .ref (ad (0, 6))), (1, .ref (ad (1, v1))), (2, .ref (ad (3, v2))), (3, .ref (ad (3, n14))), (4, .int (zI v4))] := hl
          cases g8
          exact J8 _ _ _ (lv_sub hl [0, 1, 2, 3, 4] rfl) hW hS
      refine z_icmp_ge hx hb d_cTools_ls_98 rfl g1 (fun g1 => ?_) (fun g1 => ?_)
      · exact JT1 (Option.some.inj g1).symm _ _ hW hS
      · refine z_aload_n hx hb d_cTools_ls_101 rfl (lv_at hl 3 rfl) ?_
        refine z_ifnull hx hb d_cTools_ls_102 rfl g1 (fun hyg16 hn => ?_) (fun n12 hn hyg16 => ?_)
        · subst hn
          have g1 := hyg16
          have hl : lv_has ls 5 [(0, .ref (ad (0, 6))), (1, .ref (ad (1, v1))), (2, .ref (ad (3, v2))), (3, .null), (4, .int (zI v4))] := hl
          exact JT1 (Option.some.inj g1).symm _ _ hW hS
        · subst hn
          have g1 := hyg16
          have hl : lv_has ls 5 [(0, .ref (ad (0, 6))), (1, .ref (ad (1, v1))), (2, .ref (ad (3, v2))), (3, .ref (ad (3, n12))), (4, .int (zI v4))] := hl
          exact JF1 (Option.some.inj g1).symm _ _ hW hS
  rw [cTools_ls] at hf
  refine lv_aload_n hx hb d_cTools_ls_0 rfl (lv_at hl 0 rfl) ?_
  refine zg_To_words M hW (M.2.2.1 _ w_283) d_cTools_ls_1 ?_
  refine zg_Wo_count M hW (M.2.2.1 _ w_267) d_cTools_ls_4 ?_
  refine z_iconst hx hb d_cTools_ls_7 ?_
  refine z_icmp_le hx hb d_cTools_ls_8 rfl hf (fun hf => ?_) (fun hf => ?_)
  · refine lv_aload_n hx hb d_cTools_ls_13 rfl (lv_at hl 0 rfl) ?_
    refine zg_To_words M hW (M.2.2.1 _ w_283) d_cTools_ls_14 ?_
    refine zg_Wo_count M hW (M.2.2.1 _ w_267) d_cTools_ls_17 ?_
    refine z_iconst hx hb d_cTools_ls_20 ?_
    obtain ⟨x4, u5, g17, hf⟩ := ze2 hf
    have J17 : ∀ (H : Heap) (locs : List Loc) (ls : Array Slot), lv_has ls 5 [(0, .ref (ad (0, 6))), (1, .ref (ad (1, v1)))] → ZW D B y ad q u5 r H → va_S (fun x => B ≤ x) s.heap H locs → W p l e R s m args below meth c H locs 0 0 Q (F0 m 46 ls [zrf ad 3 x4]) := by
      intro H locs ls hl hW hS
      refine z_astore_n (lv2 := [(2, zrf ad 3 x4), (0, .ref (ad (0, 6))), (1, .ref (ad (1, v1)))]) hx hb d_cTools_ls_46 rfl hl (by decide) rfl (fun ls hl => ?_)
      refine z_aload_n hx hb d_cTools_ls_47 rfl (lv_at hl 0 rfl) ?_
      refine z_ifnonnull hx hb d_cTools_ls_48 rfl hf (fun hyg18 hn => ?_) (fun n6 hn hyg18 => ?_)
      · subst hn
        have hf := hyg18
        have hl : lv_has ls 5 [(2, .null), (0, .ref (ad (0, 6))), (1, .ref (ad (1, v1)))] := hl
        refine z_iconst hx hb d_cTools_ls_51 ?_
        cases hf
        subst hQ
        exact z_reti hx hb hr hlocks hB hK hW hS d_cTools_ls_52
      · subst hn
        have hf := hyg18
        have hl : lv_has ls 5 [(2, .ref (ad (3, n6))), (0, .ref (ad (0, 6))), (1, .ref (ad (1, v1)))] := hl
        refine lv_aload_n hx hb d_cTools_ls_53 rfl (lv_at hl 0 rfl) ?_
        obtain ⟨g19, hf⟩ := zg hf
        refine zg_No_content M hW (zid_N g19) (M.2.2.1 _ w_191) d_cTools_ls_54 ?_
        obtain ⟨o7, g20, hf⟩ := ze1 hf
        have g20 := Option.some.inj g20
        rw [g20]
        refine z_ifnull hx hb d_cTools_ls_57 rfl hf (fun hyg21 hn => ?_) (fun n8 hn hyg21 => ?_)
        · subst hn
          have hf := hyg21
          have hl : lv_has ls 5 [(2, .ref (ad (3, n6))), (0, .ref (ad (0, 6))), (1, .ref (ad (1, v1)))] := hl
          refine lv_aload_n hx hb d_cTools_ls_76 rfl (lv_at hl 1 rfl) ?_
          refine zg_To_tree M hW (M.2.2.1 _ w_284) d_cTools_ls_77 ?_
          refine lv_aload_n hx hb d_cTools_ls_80 rfl (lv_at hl 0 rfl) ?_
          refine lv_lconst (v := 0) hx hb d_cTools_ls_81 rfl ?_
          obtain ⟨p9, g22, hf⟩ := ze1 hf
          refine z_callVq (As := [.ref (ad (3, n6)), .long (0 : Int64)]) (rest := []) (k_cTree_nextIn F _ _ _ g22) M hml (cw_cTree_nextIn M.2.2.1 (M.2.2.1 _ w_670) (by rw [hR]; exact Nat.le_of_ble_eq_true rfl) (by rw [hR]; exact Nat.le_of_ble_eq_true rfl)) (zv_Tr hK hW) hB hW hS rfl hl.1 rfl (Nat.le_of_ble_eq_true rfl) d_cTools_ls_82 (by rw [hR]; exact ⟨Nat.zero_le _, Nat.zero_le _⟩) (fun H locs hW hS => ?_)
          refine z_astore_n (lv2 := [(3, zrf ad 3 p9), (2, .ref (ad (3, n6))), (0, .ref (ad (0, 6))), (1, .ref (ad (1, v1)))]) hx hb d_cTools_ls_85 rfl hl (by decide) rfl (fun ls hl => ?_)
          refine z_iconst hx hb d_cTools_ls_86 ?_
          refine lv_istore (lv' := [(4, .int (zI 0)), (3, zrf ad 3 p9), (2, .ref (ad (3, n6))), (0, .ref (ad (0, 6))), (1, .ref (ad (1, v1)))]) hx hb d_cTools_ls_87 hl (by decide) (by simp only [List.filter, zrf_cat] <;> rfl) (fun ls hl => ?_)
          exact C_89 F _ _ _ _ _ _ _ _ hf (lv_sub hl [3, 4, 2, 1, 0] rfl) hW hS
        · subst hn
          have hf := hyg21
          have hl : lv_has ls 5 [(2, .ref (ad (3, n6))), (0, .ref (ad (0, 6))), (1, .ref (ad (1, v1)))] := hl
          refine lv_aload_n hx hb d_cTools_ls_60 rfl (lv_at hl 2 rfl) ?_
          refine lv_aload_n hx hb d_cTools_ls_61 rfl (lv_at hl 0 rfl) ?_
          refine zg_No_name M hW (zid_N g19) (M.2.2.1 _ w_188) d_cTools_ls_62 ?_
          obtain ⟨g23, hf⟩ := zg hf
          obtain ⟨u10, g24, hf⟩ := ze1 hf
          refine z_callVv (As := [.long (cJ u5 0 n6)]) (rest := []) (k_cText_addPacked F _ _ _ g24) M hml (cw_cText_addPacked M.2.2.1 (M.2.2.1 _ w_669) (by rw [hR]; exact Nat.le_of_ble_eq_true rfl) (by rw [hR]; exact Nat.le_of_ble_eq_true rfl)) (zv_Tx hK hW (zid_T g23)) hB hW hS rfl hl.1 rfl (Nat.le_of_ble_eq_true rfl) d_cTools_ls_65 (by rw [hR]; exact ⟨Nat.zero_le _, Nat.zero_le _⟩) (fun H locs hW hS => ?_)
          refine lv_aload_n hx hb d_cTools_ls_68 rfl (lv_at hl 2 rfl) ?_
          refine z_bipush hx hb d_cTools_ls_69 rfl ?_
          obtain ⟨g25, hf⟩ := zg hf
          obtain ⟨u11, g26, hf⟩ := ze1 hf
          refine z_callVv (As := [.int (zI 10)]) (rest := []) (k_cText_add F _ _ _ g26) M hml (cw_cText_add M.2.2.1 (M.2.2.1 _ w_627) (by rw [hR]; exact Nat.le_of_ble_eq_true rfl) (by rw [hR]; exact Nat.le_of_ble_eq_true rfl)) (zv_Tx hK hW (zid_T g25)) hB hW hS rfl hl.1 rfl (Nat.le_of_ble_eq_true rfl) d_cTools_ls_71 (by rw [hR]; exact ⟨Nat.zero_le _, Nat.zero_le _⟩) (fun H locs hW hS => ?_)
          refine z_iconst hx hb d_cTools_ls_74 ?_
          cases hf
          subst hQ
          exact z_reti hx hb hr hlocks hB hK hW hS d_cTools_ls_75
    refine z_icmp_ne hx hb d_cTools_ls_21 rfl g17 (fun g17 => ?_) (fun g17 => ?_)
    · refine lv_aload_n hx hb d_cTools_ls_34 rfl (lv_at hl 0 rfl) ?_
      refine zg_To_tree M hW (M.2.2.1 _ w_284) d_cTools_ls_35 ?_
      refine lv_aload_n hx hb d_cTools_ls_38 rfl (lv_at hl 0 rfl) ?_
      refine zg_To_words M hW (M.2.2.1 _ w_283) d_cTools_ls_39 ?_
      refine z_iconst hx hb d_cTools_ls_42 ?_
      obtain ⟨p1, u2, g27, g17⟩ := ze2 g17
      refine z_callVq (As := [.ref (ad (0, 5)), .int (zI 1)]) (rest := []) (k_cTree_follow F _ _ g27) M hml (cw_cTree_follow M.2.2.1 (M.2.2.1 _ w_638) (by rw [hR]; exact Nat.le_of_ble_eq_true rfl) (by rw [hR]; exact Nat.le_of_ble_eq_true rfl)) (zv_Tr hK hW) hB hW hS rfl hl.1 rfl (Nat.le_of_ble_eq_true rfl) d_cTools_ls_43 (by rw [hR]; exact ⟨Nat.zero_le _, Nat.zero_le _⟩) (fun H locs hW hS => ?_)
      cases g17
      exact J17 _ _ _ (lv_sub hl [0, 1] rfl) hW hS
    · refine lv_aload_n hx hb d_cTools_ls_24 rfl (lv_at hl 0 rfl) ?_
      refine zg_To_tree M hW (M.2.2.1 _ w_284) d_cTools_ls_25 ?_
      refine zg_Tr_here M hW (M.2.2.1 _ w_212) d_cTools_ls_28 ?_
      obtain ⟨o3, g28, g17⟩ := ze1 g17
      have g28 := Option.some.inj g28
      rw [g28]
      refine lv_goto hx hb d_cTools_ls_31 rfl ?_
      cases g17
      exact J17 _ _ _ (lv_sub hl [0, 1] rfl) hW hS
  · refine z_iconst hx hb d_cTools_ls_11 ?_
    cases hf
    subst hQ
    exact z_reti hx hb hr hlocks hB hK hW hS d_cTools_ls_12
set_option maxRecDepth 100000 in
set_option maxHeartbeats 4000000 in
theorem k_cTools_cd {l : Launch} {D : va_G} {B : Nat} {y : Nat → ClassId} {ad : Nat × Nat → Nat} {q : Bool} {r : ZR} (F : Nat) (u : ZC) {res : Int} {uo : ZC} (hf : cTools_cd F u = some (res, uo)) : Met l y_cTools_cd (.code y_cTools_cd b_cTools_cd 2 (some .int) :: zt) { frames := 2, cells := 0, slots := 0, locals := 56 } (va_Pc [.ref (ad (0, 6))] (fun U => ZP D B y ad q u r U)) (va_Qi (fun v (_ : Unit) => v = zI res) (fun _ t => ZP D B y ad q uo r t) (fun x => B ≤ x)) 0 0 (fun x => B ≤ x) := by
  refine Met.ofW (cc := b_cTools_cd) (maxL := 2) (ret := (some .int)) (by decide) rfl ?_
  intro p e s m args below meth c s₁ Bd hml hv
  obtain ⟨hargs, hB, hW, hK⟩ := hv
  have hx := Bd.exec
  have hb := Bd.bytes
  have hr := Bd.returns
  have hts0 := atoms_spec (ws := .code y_cTools_cd b_cTools_cd 2 (some .int) :: zt) Bd.pre
  have hown : s.vm.findClass "TreeShell$Tools" = some m.cls := findClass_of_methodNamed Bd.named
  have hlocks := Bd.notSynchronized
  have M : ZM p c b_cTools_cd s args m "TreeShell$Tools" D y := ⟨hx, hb, fun w h => hts0 w (List.mem_cons_of_mem _ h), hown, hK⟩
  have hS : va_S (fun x => B ≤ x) s.heap s.heap [] := va_S.rf
  have hE := lg_entry_eq m ([.ref (ad (0, 6))] : List Value) 2
  rw [← hargs] at hE
  rw [hE]
  have hl := lv_entry ([.ref (ad (0, 6))] : List Value) (n := 2) (Nat.le_of_ble_eq_true rfl)
  generalize (lg_sl ([.ref (ad (0, 6))] : List Value) ++ List.replicate (2 - (lg_sl ([.ref (ad (0, 6))] : List Value)).length) Slot.unset).toArray = ls at hl ⊢
  have hl : lv_has ls 2 [(0, .ref (ad (0, 6)))] := hl
  refine z_start (fun Q R hQ hR => ?_)
  generalize hH : s.heap = H at hW
  have hS : va_S (fun x => B ≤ x) s.heap H [] := by rw [← hH]; exact hS
  rw [cTools_cd] at hf
  refine lv_aload_n hx hb d_cTools_cd_0 rfl (lv_at hl 0 rfl) ?_
  refine zg_To_words M hW (M.2.2.1 _ w_283) d_cTools_cd_1 ?_
  refine zg_Wo_count M hW (M.2.2.1 _ w_267) d_cTools_cd_4 ?_
  refine z_iconst hx hb d_cTools_cd_7 ?_
  refine z_icmp_le hx hb d_cTools_cd_8 rfl hf (fun hf => ?_) (fun hf => ?_)
  · refine lv_aload_n hx hb d_cTools_cd_13 rfl (lv_at hl 0 rfl) ?_
    refine zg_To_words M hW (M.2.2.1 _ w_283) d_cTools_cd_14 ?_
    refine zg_Wo_count M hW (M.2.2.1 _ w_267) d_cTools_cd_17 ?_
    refine z_iconst hx hb d_cTools_cd_20 ?_
    obtain ⟨x3, u4, g1, hf⟩ := ze2 hf
    have J1 : ∀ (H : Heap) (locs : List Loc) (ls : Array Slot), lv_has ls 2 [(0, .ref (ad (0, 6)))] → ZW D B y ad q u4 r H → va_S (fun x => B ≤ x) s.heap H locs → W p l e R s m args below meth c H locs 0 0 Q (F0 m 46 ls [zrf ad 3 x3]) := by
      intro H locs ls hl hW hS
      refine z_astore_n (lv2 := [(1, zrf ad 3 x3), (0, .ref (ad (0, 6)))]) hx hb d_cTools_cd_46 rfl hl (by decide) rfl (fun ls hl => ?_)
      refine z_aload_n hx hb d_cTools_cd_47 rfl (lv_at hl 0 rfl) ?_
      obtain ⟨b8, g2, hf⟩ := ze1 hf
      have JT2 : b8 = true → ∀ (H : Heap) (locs : List Loc), ZW D B y ad q u4 r H → va_S (fun x => B ≤ x) s.heap H locs → W p l e R s m args below meth c H locs 0 0 Q (F0 m 58 ls []) := by
        intro hv H locs hW hS
        have hf := zp (hv) hf
        refine z_iconst hx hb d_cTools_cd_58 ?_
        cases hf
        subst hQ
        exact z_reti hx hb hr hlocks hB hK hW hS d_cTools_cd_59
      have JF2 : b8 = false → ∀ (H : Heap) (locs : List Loc), ZW D B y ad q u4 r H → va_S (fun x => B ≤ x) s.heap H locs → W p l e R s m args below meth c H locs 0 0 Q (F0 m 60 ls []) := by
        intro hv H locs hW hS
        have hf := zn (by rw [hv]; decide) hf
        refine lv_aload_n hx hb d_cTools_cd_60 rfl (lv_at hl 1 rfl) ?_
        refine zg_To_tree M hW (M.2.2.1 _ w_284) d_cTools_cd_61 ?_
        refine z_aload_n hx hb d_cTools_cd_64 rfl (lv_at hl 0 rfl) ?_
        refine zp_Tr_here (v := x3) M hW hS (M.2.2.1 _ w_212) d_cTools_cd_65 (fun H locs hW hS => ?_)
        refine z_iconst hx hb d_cTools_cd_68 ?_
        cases hf
        subst hQ
        exact z_reti hx hb hr hlocks hB hK hW hS d_cTools_cd_69
      refine z_ifnull hx hb d_cTools_cd_48 rfl g2 (fun hyg3 hn => ?_) (fun n5 hn hyg3 => ?_)
      · subst hn
        have g2 := hyg3
        have hl : lv_has ls 2 [(1, .null), (0, .ref (ad (0, 6)))] := hl
        exact JT2 (Option.some.inj g2).symm _ _ hW hS
      · subst hn
        have g2 := hyg3
        have hl : lv_has ls 2 [(1, .ref (ad (3, n5))), (0, .ref (ad (0, 6)))] := hl
        refine lv_aload_n hx hb d_cTools_cd_51 rfl (lv_at hl 0 rfl) ?_
        obtain ⟨g4, g2⟩ := zg g2
        refine zg_No_content M hW (zid_N g4) (M.2.2.1 _ w_191) d_cTools_cd_52 ?_
        obtain ⟨o6, g5, g2⟩ := ze1 g2
        have g5 := Option.some.inj g5
        rw [g5]
        refine z_ifnull hx hb d_cTools_cd_55 rfl g2 (fun hyg6 hn => ?_) (fun n7 hn hyg6 => ?_)
        · subst hn
          have g2 := hyg6
          have hl : lv_has ls 2 [(1, .ref (ad (3, n5))), (0, .ref (ad (0, 6)))] := hl
          exact JF2 (Option.some.inj g2).symm _ _ hW hS
        · subst hn
          have g2 := hyg6
          have hl : lv_has ls 2 [(1, .ref (ad (3, n5))), (0, .ref (ad (0, 6)))] := hl
          exact JT2 (Option.some.inj g2).symm _ _ hW hS
    refine z_icmp_ne hx hb d_cTools_cd_21 rfl g1 (fun g1 => ?_) (fun g1 => ?_)
    · refine lv_aload_n hx hb d_cTools_cd_34 rfl (lv_at hl 0 rfl) ?_
      refine zg_To_tree M hW (M.2.2.1 _ w_284) d_cTools_cd_35 ?_
      refine lv_aload_n hx hb d_cTools_cd_38 rfl (lv_at hl 0 rfl) ?_
      refine zg_To_words M hW (M.2.2.1 _ w_283) d_cTools_cd_39 ?_
      refine z_iconst hx hb d_cTools_cd_42 ?_
      obtain ⟨p1, u2, g7, g1⟩ := ze2 g1
      refine z_callVq (As := [.ref (ad (0, 5)), .int (zI 1)]) (rest := []) (k_cTree_follow F _ _ g7) M hml (cw_cTree_follow M.2.2.1 (M.2.2.1 _ w_638) (by rw [hR]; exact Nat.le_of_ble_eq_true rfl) (by rw [hR]; exact Nat.le_of_ble_eq_true rfl)) (zv_Tr hK hW) hB hW hS rfl hl.1 rfl (Nat.le_of_ble_eq_true rfl) d_cTools_cd_43 (by rw [hR]; exact ⟨Nat.zero_le _, Nat.zero_le _⟩) (fun H locs hW hS => ?_)
      cases g1
      exact J1 _ _ _ (lv_sub hl [0] rfl) hW hS
    · refine lv_aload_n hx hb d_cTools_cd_24 rfl (lv_at hl 0 rfl) ?_
      refine zg_To_tree M hW (M.2.2.1 _ w_284) d_cTools_cd_25 ?_
      refine zg_Tr_root M hW (M.2.2.1 _ w_208) d_cTools_cd_28 ?_
      refine lv_goto hx hb d_cTools_cd_31 rfl ?_
      cases g1
      exact J1 _ _ _ (lv_sub hl [0] rfl) hW hS
  · refine z_iconst hx hb d_cTools_cd_11 ?_
    cases hf
    subst hQ
    exact z_reti hx hb hr hlocks hB hK hW hS d_cTools_cd_12
