set_option maxRecDepth 100000 in
set_option maxHeartbeats 4000000 in
theorem k_cRunner_forget {l : Launch} {D : va_G} {B : Nat} {y : Nat → ClassId} {ad : Nat × Nat → Nat} {q : Bool} {r : ZR} (F : Nat) (u : ZC) {uo : ZC} (hf : cRunner_forget F u = some uo) : Met l y_cRunner_forget (.code y_cRunner_forget b_cRunner_forget 1 none :: zt) { frames := 1, cells := 0, slots := 0, locals := 20 } (va_Pc [.ref (ad (0, 4))] (fun U => ZP D B y ad q u r U)) (va_Qv (fun (_ : Unit) => True) (fun _ t => ZP D B y ad q uo r t) (fun x => B ≤ x)) 0 0 (fun x => B ≤ x) := by
  refine Met.ofW (cc := b_cRunner_forget) (maxL := 1) (ret := none) (by decide) rfl ?_
  intro p e s m args below meth c s₁ Bd hml hv
  obtain ⟨hargs, hB, hW, hK⟩ := hv
  have hx := Bd.exec
  have hb := Bd.bytes
  have hr := Bd.returns
  have hts0 := atoms_spec (ws := .code y_cRunner_forget b_cRunner_forget 1 none :: zt) Bd.pre
  have hown : s.vm.findClass "TreeShell$Runner" = some m.cls := findClass_of_methodNamed Bd.named
  have hlocks := Bd.notSynchronized
  have M : ZM p c b_cRunner_forget s args m "TreeShell$Runner" D y := ⟨hx, hb, fun w h => hts0 w (List.mem_cons_of_mem _ h), hown, hK⟩
  have hS : va_S (fun x => B ≤ x) s.heap s.heap [] := va_S.rf
  have hE := lg_entry_eq m ([.ref (ad (0, 4))] : List Value) 1
  rw [← hargs] at hE
  rw [hE]
  have hl := lv_entry ([.ref (ad (0, 4))] : List Value) (n := 1) (Nat.le_of_ble_eq_true rfl)
  generalize (lg_sl ([.ref (ad (0, 4))] : List Value) ++ List.replicate (1 - (lg_sl ([.ref (ad (0, 4))] : List Value)).length) Slot.unset).toArray = ls at hl ⊢
  have hl : lv_has ls 1 [(0, .ref (ad (0, 4)))] := hl
  refine z_start (fun Q R hQ hR => ?_)
  generalize hH : s.heap = H at hW
  have hS : va_S (fun x => B ≤ x) s.heap H [] := by rw [← hH]; exact hS
  rw [cRunner_forget] at hf
  refine lv_aload_n hx hb d_cRunner_forget_0 rfl (lv_at hl 0 rfl) ?_
  refine zg_Ru_levels M hW (M.2.2.1 _ w_328) d_cRunner_forget_1 ?_
  refine z_iconst hx hb d_cRunner_forget_4 ?_
  obtain ⟨g1, hf⟩ := zg hf
  refine za_lev M hW g1 d_cRunner_forget_5 ?_
  refine zg_Le_listOutput M hW (zid_L (show 0 < 5 by decide)) (M.2.2.1 _ w_298) d_cRunner_forget_6 ?_
  obtain ⟨u1, g2, hf⟩ := ze1 hf
  refine z_callVv (As := []) (rest := []) (k_cText_clear F _ _ g2) M hml (cw_cText_clear M.2.2.1 (M.2.2.1 _ w_459) (by rw [hR]; exact Nat.le_of_ble_eq_true rfl) (by rw [hR]; exact Nat.le_of_ble_eq_true rfl)) (zv_Tx hK hW (zid_T (Or.inl (by have := (show 0 < 5 by decide); omega)))) hB hW hS rfl hl.1 rfl (Nat.le_of_ble_eq_true rfl) d_cRunner_forget_9 (by rw [hR]; exact ⟨Nat.zero_le _, Nat.zero_le _⟩) (fun H locs hW hS => ?_)
  refine lv_aload_n hx hb d_cRunner_forget_12 rfl (lv_at hl 0 rfl) ?_
  refine z_iconst hx hb d_cRunner_forget_13 ?_
  refine zp_Ru_ran M hW hS (M.2.2.1 _ w_331) d_cRunner_forget_14 (fun H locs hW hS => ?_)
  cases hf
  subst hQ
  exact z_retv hx hb hr hlocks hB hK hW hS d_cRunner_forget_17
set_option maxRecDepth 100000 in
set_option maxHeartbeats 4000000 in
theorem k_cRunner_isDue {l : Launch} {D : va_G} {B : Nat} {y : Nat → ClassId} {ad : Nat × Nat → Nat} {q : Bool} {r : ZR} (F : Nat) (u : ZC) (v1 : Int) {res : Int} (hf : cRunner_isDue F u v1 = some res) : Met l y_cRunner_isDue (.code y_cRunner_isDue b_cRunner_isDue 2 (some .boolean) :: zt) { frames := 0, cells := 0, slots := 0, locals := 0 } (va_Pc [.ref (ad (0, 4)), .int (zI v1)] (fun U => ZP D B y ad q u r U)) (va_Qi (fun v (_ : Unit) => v = zI res) (fun _ t => ZP D B y ad q u r t) (fun x => B ≤ x)) 0 0 (fun x => B ≤ x) := by
  refine Met.ofW (cc := b_cRunner_isDue) (maxL := 2) (ret := (some .boolean)) (by decide) rfl ?_
  intro p e s m args below meth c s₁ Bd hml hv
  obtain ⟨hargs, hB, hW, hK⟩ := hv
  have hx := Bd.exec
  have hb := Bd.bytes
  have hr := Bd.returns
  have hts0 := atoms_spec (ws := .code y_cRunner_isDue b_cRunner_isDue 2 (some .boolean) :: zt) Bd.pre
  have hown : s.vm.findClass "TreeShell$Runner" = some m.cls := findClass_of_methodNamed Bd.named
  have hlocks := Bd.notSynchronized
  have M : ZM p c b_cRunner_isDue s args m "TreeShell$Runner" D y := ⟨hx, hb, fun w h => hts0 w (List.mem_cons_of_mem _ h), hown, hK⟩
  have hS : va_S (fun x => B ≤ x) s.heap s.heap [] := va_S.rf
  have hE := lg_entry_eq m ([.ref (ad (0, 4)), .int (zI v1)] : List Value) 2
  rw [← hargs] at hE
  rw [hE]
  have hl := lv_entry ([.ref (ad (0, 4)), .int (zI v1)] : List Value) (n := 2) (Nat.le_of_ble_eq_true rfl)
  generalize (lg_sl ([.ref (ad (0, 4)), .int (zI v1)] : List Value) ++ List.replicate (2 - (lg_sl ([.ref (ad (0, 4)), .int (zI v1)] : List Value)).length) Slot.unset).toArray = ls at hl ⊢
  have hl : lv_has ls 2 [(0, .ref (ad (0, 4))), (1, .int (zI v1))] := hl
  refine z_start (fun Q R hQ hR => ?_)
  generalize hH : s.heap = H at hW
  have hS : va_S (fun x => B ≤ x) s.heap H [] := by rw [← hH]; exact hS
  rw [cRunner_isDue] at hf
  refine lv_iload_n hx hb d_cRunner_isDue_0 rfl (lv_at hl 1 rfl) ?_
  refine z_iconst hx hb d_cRunner_isDue_1 ?_
  refine z_icmp_ne hx hb d_cRunner_isDue_2 rfl hf (fun hf => ?_) (fun hf => ?_)
  · refine lv_iload_n hx hb d_cRunner_isDue_18 rfl (lv_at hl 1 rfl) ?_
    refine z_iconst hx hb d_cRunner_isDue_19 ?_
    obtain ⟨x2, g1, hf⟩ := ze1 hf
    have J1 : ∀ (H : Heap) (locs : List Loc) (ls : Array Slot), lv_has ls 2 [] → ZW D B y ad q u r H → va_S (fun x => B ≤ x) s.heap H locs → W p l e R s m args below meth c H locs 0 0 Q (F0 m 35 ls [.int (zI x2)]) := by
      intro H locs ls hl hW hS
      obtain ⟨g2, hf⟩ := zg hf
      cases hf
      subst hQ
      exact z_retz hx hb g2 hr hlocks hB hK hW hS d_cRunner_isDue_35
    obtain ⟨b1, g3, g1⟩ := ze1 g1
    have JT3 : b1 = true → ∀ (H : Heap) (locs : List Loc), ZW D B y ad q u r H → va_S (fun x => B ≤ x) s.heap H locs → W p l e R s m args below meth c H locs 0 0 Q (F0 m 30 ls []) := by
      intro hv H locs hW hS
      have g1 := zp (hv) g1
      refine z_iconst hx hb d_cRunner_isDue_30 ?_
      refine lv_goto hx hb d_cRunner_isDue_31 rfl ?_
      cases g1
      exact J1 _ _ _ (lv_sub hl [] rfl) hW hS
    have JF3 : b1 = false → ∀ (H : Heap) (locs : List Loc), ZW D B y ad q u r H → va_S (fun x => B ≤ x) s.heap H locs → W p l e R s m args below meth c H locs 0 0 Q (F0 m 34 ls []) := by
      intro hv H locs hW hS
      have g1 := zn (by rw [hv]; decide) g1
      refine z_iconst hx hb d_cRunner_isDue_34 ?_
      cases g1
      exact J1 _ _ _ (lv_sub hl [] rfl) hW hS
    refine z_icmp_ne hx hb d_cRunner_isDue_20 rfl g3 (fun g3 => ?_) (fun g3 => ?_)
    · exact JT3 (Option.some.inj g3).symm _ _ hW hS
    · refine lv_aload_n hx hb d_cRunner_isDue_23 rfl (lv_at hl 0 rfl) ?_
      refine zg_Ru_status M hW (M.2.2.1 _ w_329) d_cRunner_isDue_24 ?_
      refine z_if_eq hx hb d_cRunner_isDue_27 rfl g3 (fun g3 => ?_) (fun g3 => ?_)
      · exact JF3 (Option.some.inj g3).symm _ _ hW hS
      · exact JT3 (Option.some.inj g3).symm _ _ hW hS
  · refine lv_aload_n hx hb d_cRunner_isDue_5 rfl (lv_at hl 0 rfl) ?_
    refine zg_Ru_status M hW (M.2.2.1 _ w_329) d_cRunner_isDue_6 ?_
    obtain ⟨x3, g4, hf⟩ := ze1 hf
    have J4 : ∀ (H : Heap) (locs : List Loc) (ls : Array Slot), lv_has ls 2 [] → ZW D B y ad q u r H → va_S (fun x => B ≤ x) s.heap H locs → W p l e R s m args below meth c H locs 0 0 Q (F0 m 17 ls [.int (zI x3)]) := by
      intro H locs ls hl hW hS
      obtain ⟨g5, hf⟩ := zg hf
      cases hf
      subst hQ
      exact z_retz hx hb g5 hr hlocks hB hK hW hS d_cRunner_isDue_17
    refine z_if_ne hx hb d_cRunner_isDue_9 rfl g4 (fun g4 => ?_) (fun g4 => ?_)
    · refine z_iconst hx hb d_cRunner_isDue_16 ?_
      cases g4
      exact J4 _ _ _ (lv_sub hl [] rfl) hW hS
    · refine z_iconst hx hb d_cRunner_isDue_12 ?_
      refine lv_goto hx hb d_cRunner_isDue_13 rfl ?_
      cases g4
      exact J4 _ _ _ (lv_sub hl [] rfl) hW hS
set_option maxRecDepth 100000 in
set_option maxHeartbeats 4000000 in
theorem k_cRunner_redirectInput {l : Launch} {D : va_G} {B : Nat} {y : Nat → ClassId} {ad : Nat × Nat → Nat} {q : Bool} {r : ZR} (F : Nat) (u : ZC) (v1 : Nat) {res : Int} {uo : ZC} (hf : cRunner_redirectInput F u v1 = some (res, uo)) : Met l y_cRunner_redirectInput (.code y_cRunner_redirectInput b_cRunner_redirectInput 3 (some .int) :: zt) { frames := 7, cells := 0, slots := 0, locals := 190 } (va_Pc [.ref (ad (0, 4)), .ref (ad (4, v1))] (fun U => ZP D B y ad q u r U)) (va_Qi (fun v (_ : Unit) => v = zI res) (fun _ t => ZP D B y ad q uo r t) (fun x => B ≤ x)) 0 0 (fun x => B ≤ x) := by
  refine Met.ofW (cc := b_cRunner_redirectInput) (maxL := 3) (ret := (some .int)) (by decide) rfl ?_
  intro p e s m args below meth c s₁ Bd hml hv
  obtain ⟨hargs, hB, hW, hK⟩ := hv
  have hx := Bd.exec
  have hb := Bd.bytes
  have hr := Bd.returns
  have hts0 := atoms_spec (ws := .code y_cRunner_redirectInput b_cRunner_redirectInput 3 (some .int) :: zt) Bd.pre
  have hown : s.vm.findClass "TreeShell$Runner" = some m.cls := findClass_of_methodNamed Bd.named
  have hlocks := Bd.notSynchronized
  have M : ZM p c b_cRunner_redirectInput s args m "TreeShell$Runner" D y := ⟨hx, hb, fun w h => hts0 w (List.mem_cons_of_mem _ h), hown, hK⟩
  have hS : va_S (fun x => B ≤ x) s.heap s.heap [] := va_S.rf
  have hE := lg_entry_eq m ([.ref (ad (0, 4)), .ref (ad (4, v1))] : List Value) 3
  rw [← hargs] at hE
  rw [hE]
  have hl := lv_entry ([.ref (ad (0, 4)), .ref (ad (4, v1))] : List Value) (n := 3) (Nat.le_of_ble_eq_true rfl)
  generalize (lg_sl ([.ref (ad (0, 4)), .ref (ad (4, v1))] : List Value) ++ List.replicate (3 - (lg_sl ([.ref (ad (0, 4)), .ref (ad (4, v1))] : List Value)).length) Slot.unset).toArray = ls at hl ⊢
  have hl : lv_has ls 3 [(0, .ref (ad (0, 4))), (1, .ref (ad (4, v1)))] := hl
  refine z_start (fun Q R hQ hR => ?_)
  generalize hH : s.heap = H at hW
  have hS : va_S (fun x => B ≤ x) s.heap H [] := by rw [← hH]; exact hS
  rw [cRunner_redirectInput] at hf
  refine lv_aload_n hx hb d_cRunner_redirectInput_0 rfl (lv_at hl 0 rfl) ?_
  refine zg_Ru_tree M hW (M.2.2.1 _ w_325) d_cRunner_redirectInput_1 ?_
  refine zg_Tr_found M hW (M.2.2.1 _ w_220) d_cRunner_redirectInput_4 ?_
  obtain ⟨o1, g1, hf⟩ := ze1 hf
  have g1 := Option.some.inj g1
  rw [g1]
  refine z_astore_n (lv2 := [(2, zrf ad 3 o1), (0, .ref (ad (0, 4))), (1, .ref (ad (4, v1)))]) hx hb d_cRunner_redirectInput_7 rfl hl (by decide) rfl (fun ls hl => ?_)
  refine z_aload_n hx hb d_cRunner_redirectInput_8 rfl (lv_at hl 0 rfl) ?_
  obtain ⟨b5, g2, hf⟩ := ze1 hf
  have JT2 : b5 = true → ∀ (H : Heap) (locs : List Loc), ZW D B y ad q u r H → va_S (fun x => B ≤ x) s.heap H locs → W p l e R s m args below meth c H locs 0 0 Q (F0 m 19 ls []) := by
    intro hv H locs hW hS
    have hf := zp (hv) hf
    refine z_iconst hx hb d_cRunner_redirectInput_19 ?_
    cases hf
    subst hQ
    exact z_reti hx hb hr hlocks hB hK hW hS d_cRunner_redirectInput_20
  have JF2 : b5 = false → ∀ (H : Heap) (locs : List Loc), ZW D B y ad q u r H → va_S (fun x => B ≤ x) s.heap H locs → W p l e R s m args below meth c H locs 0 0 Q (F0 m 21 ls []) := by
    intro hv H locs hW hS
    have hf := zn (by rw [hv]; decide) hf
    refine lv_aload_n hx hb d_cRunner_redirectInput_21 rfl (lv_at hl 2 rfl) ?_
    obtain ⟨g3, hf⟩ := zg hf
    refine zg_Le_redirected M hW (zid_L g3) (M.2.2.1 _ w_304) d_cRunner_redirectInput_22 ?_
    obtain ⟨u6, g4, hf⟩ := ze1 hf
    refine z_callVv (As := []) (rest := []) (k_cText_clear F _ _ g4) M hml (cw_cText_clear M.2.2.1 (M.2.2.1 _ w_459) (by rw [hR]; exact Nat.le_of_ble_eq_true rfl) (by rw [hR]; exact Nat.le_of_ble_eq_true rfl)) (zv_Tx hK hW (zid_T (Or.inl (by have := g3; omega)))) hB hW hS rfl hl.1 rfl (Nat.le_of_ble_eq_true rfl) d_cRunner_redirectInput_25 (by rw [hR]; exact ⟨Nat.zero_le _, Nat.zero_le _⟩) (fun H locs hW hS => ?_)
    refine lv_aload_n hx hb d_cRunner_redirectInput_28 rfl (lv_at hl 2 rfl) ?_
    refine zg_Le_redirected M hW (zid_L g3) (M.2.2.1 _ w_304) d_cRunner_redirectInput_29 ?_
    refine z_aload_n hx hb d_cRunner_redirectInput_32 rfl (lv_at hl 0 rfl) ?_
    obtain ⟨n7, hn, hyg5⟩ := zes hf
    subst hn
    have hf := hyg5
    have hl : lv_has ls 3 [(2, .ref (ad (3, n7))), (0, .ref (ad (0, 4))), (1, .ref (ad (4, v1)))] := hl
    obtain ⟨g6, hf⟩ := zg hf
    refine zg_No_content M hW (zid_N g6) (M.2.2.1 _ w_192) d_cRunner_redirectInput_33 ?_
    obtain ⟨o8, g7, hf⟩ := ze1 hf
    have g7 := Option.some.inj g7
    rw [g7]
    obtain ⟨n9, hn, hyg8⟩ := zes hf
    subst hn
    have hf := hyg8
    have hl : lv_has ls 3 [(2, .ref (ad (3, n7))), (0, .ref (ad (0, 4))), (1, .ref (ad (4, v1)))] := hl
    obtain ⟨p10, u11, g9, hf⟩ := ze2 hf
    refine z_callVi (As := [.ref (ad (1, n9))]) (rest := []) (k_cText_addAll F _ _ _ g9) M hml (cw_cText_addAll M.2.2.1 (M.2.2.1 _ w_528) (by rw [hR]; exact Nat.le_of_ble_eq_true rfl) (by rw [hR]; exact Nat.le_of_ble_eq_true rfl)) (zv_Tx hK hW (zid_T (Or.inl (by have := g3; omega)))) hB hW hS rfl hl.1 rfl (Nat.le_of_ble_eq_true rfl) d_cRunner_redirectInput_36 (by rw [hR]; exact ⟨Nat.zero_le _, Nat.zero_le _⟩) (fun H locs hW hS => ?_)
    refine lv_pop hx hb d_cRunner_redirectInput_39 rfl ?_
    refine lv_aload_n hx hb d_cRunner_redirectInput_40 rfl (lv_at hl 2 rfl) ?_
    refine z_iconst hx hb d_cRunner_redirectInput_41 ?_
    refine zp_Le_readsFile M hW hS (zid_L g3) (Or.inr rfl) (M.2.2.1 _ w_306) d_cRunner_redirectInput_42 (fun H locs hW hS => ?_)
    refine z_iconst hx hb d_cRunner_redirectInput_45 ?_
    cases hf
    subst hQ
    exact z_reti hx hb hr hlocks hB hK hW hS d_cRunner_redirectInput_46
  refine z_ifnull hx hb d_cRunner_redirectInput_9 rfl g2 (fun hyg10 hn => ?_) (fun n2 hn hyg10 => ?_)
  · subst hn
    have g2 := hyg10
    have hl : lv_has ls 3 [(2, .null), (0, .ref (ad (0, 4))), (1, .ref (ad (4, v1)))] := hl
    exact JT2 (Option.some.inj g2).symm _ _ hW hS
  · subst hn
    have g2 := hyg10
    have hl : lv_has ls 3 [(2, .ref (ad (3, n2))), (0, .ref (ad (0, 4))), (1, .ref (ad (4, v1)))] := hl
    refine lv_aload_n hx hb d_cRunner_redirectInput_12 rfl (lv_at hl 0 rfl) ?_
    obtain ⟨g11, g2⟩ := zg g2
    refine zg_No_content M hW (zid_N g11) (M.2.2.1 _ w_192) d_cRunner_redirectInput_13 ?_
    obtain ⟨o3, g12, g2⟩ := ze1 g2
    have g12 := Option.some.inj g12
    rw [g12]
    refine z_ifnonnull hx hb d_cRunner_redirectInput_16 rfl g2 (fun hyg13 hn => ?_) (fun n4 hn hyg13 => ?_)
    · subst hn
      have g2 := hyg13
      have hl : lv_has ls 3 [(2, .ref (ad (3, n2))), (0, .ref (ad (0, 4))), (1, .ref (ad (4, v1)))] := hl
      exact JT2 (Option.some.inj g2).symm _ _ hW hS
    · subst hn
      have g2 := hyg13
      have hl : lv_has ls 3 [(2, .ref (ad (3, n2))), (0, .ref (ad (0, 4))), (1, .ref (ad (4, v1)))] := hl
      exact JF2 (Option.some.inj g2).symm _ _ hW hS
set_option maxRecDepth 100000 in
set_option maxHeartbeats 4000000 in
theorem k_cRunner_takeWords {l : Launch} {D : va_G} {B : Nat} {y : Nat → ClassId} {ad : Nat × Nat → Nat} {q : Bool} {r : ZR} (F : Nat) (u : ZC) (v1 : Int) (v2 : Int) {uo : ZC} (hf : cRunner_takeWords F u v1 v2 = some uo) : Met l y_cRunner_takeWords (.code y_cRunner_takeWords b_cRunner_takeWords 4 none :: zt) { frames := 3, cells := 0, slots := 0, locals := 71 } (va_Pc [.ref (ad (0, 4)), .int (zI v1), .int (zI v2)] (fun U => ZP D B y ad q u r U)) (va_Qv (fun (_ : Unit) => True) (fun _ t => ZP D B y ad q uo r t) (fun x => B ≤ x)) 0 0 (fun x => B ≤ x) := by
  refine Met.ofW (cc := b_cRunner_takeWords) (maxL := 4) (ret := none) (by decide) rfl ?_
  intro p e s m args below meth c s₁ Bd hml hv
  obtain ⟨hargs, hB, hW, hK⟩ := hv
  have hx := Bd.exec
  have hb := Bd.bytes
  have hr := Bd.returns
  have hts0 := atoms_spec (ws := .code y_cRunner_takeWords b_cRunner_takeWords 4 none :: zt) Bd.pre
  have hown : s.vm.findClass "TreeShell$Runner" = some m.cls := findClass_of_methodNamed Bd.named
  have hlocks := Bd.notSynchronized
  have M : ZM p c b_cRunner_takeWords s args m "TreeShell$Runner" D y := ⟨hx, hb, fun w h => hts0 w (List.mem_cons_of_mem _ h), hown, hK⟩
  have hS : va_S (fun x => B ≤ x) s.heap s.heap [] := va_S.rf
  have hE := lg_entry_eq m ([.ref (ad (0, 4)), .int (zI v1), .int (zI v2)] : List Value) 4
  rw [← hargs] at hE
  rw [hE]
  have hl := lv_entry ([.ref (ad (0, 4)), .int (zI v1), .int (zI v2)] : List Value) (n := 4) (Nat.le_of_ble_eq_true rfl)
  generalize (lg_sl ([.ref (ad (0, 4)), .int (zI v1), .int (zI v2)] : List Value) ++ List.replicate (4 - (lg_sl ([.ref (ad (0, 4)), .int (zI v1), .int (zI v2)] : List Value)).length) Slot.unset).toArray = ls at hl ⊢
  have hl : lv_has ls 4 [(0, .ref (ad (0, 4))), (1, .int (zI v1)), (2, .int (zI v2))] := hl
  refine z_start (fun Q R hQ hR => ?_)
  generalize hH : s.heap = H at hW
  have hS : va_S (fun x => B ≤ x) s.heap H [] := by rw [← hH]; exact hS
  have C_9 : ∀ (n : Nat), ∀ (u : ZC) (v2 : Int) (v3 : Int) (H : Heap) (locs : List Loc) (ls : Array Slot), cRunner_takeWords_9 F n u v2 v3 = some uo → lv_has ls 4 [(0, .ref (ad (0, 4))), (2, .int (zI v2)), (3, .int (zI v3))] → ZW D B y ad q u r H → va_S (fun x => B ≤ x) s.heap H locs → W p l e R s m args below meth c H locs 0 0 Q (F0 m 9 ls []) := by
    intro n
    induction n with
    | zero => intro u v2 v3 H locs ls hf; cases (show (none : Option (ZC)) = some uo from hf)
    | succ n ih =>
      intro u v2 v3 H locs ls hf hl hW hS
      rw [cRunner_takeWords_9] at hf
      refine lv_iload_n hx hb d_cRunner_takeWords_9 rfl (lv_at hl 2 rfl) ?_
      refine lv_iload_n hx hb d_cRunner_takeWords_10 rfl (lv_at hl 1 rfl) ?_
      refine z_icmp_ge hx hb d_cRunner_takeWords_11 rfl hf (fun hf => ?_) (fun hf => ?_)
      · cases hf
        subst hQ
        exact z_retv hx hb hr hlocks hB hK hW hS d_cRunner_takeWords_49
      · refine lv_aload_n hx hb d_cRunner_takeWords_14 rfl (lv_at hl 0 rfl) ?_
        refine zg_Ru_tokens M hW (M.2.2.1 _ w_324) d_cRunner_takeWords_15 ?_
        refine lv_iload_n hx hb d_cRunner_takeWords_18 rfl (lv_at hl 2 rfl) ?_
        refine z_iconst hx hb d_cRunner_takeWords_19 ?_
        refine z_isub hx hb d_cRunner_takeWords_20 ?_
        obtain ⟨p2, g1, hf⟩ := ze1 hf
        refine z_callVi (As := [.int (zI (v3 - 1))]) (rest := []) (k_cTokens_isRedirection F _ _ g1) M hml (cw_cTokens_isRedirection M.2.2.1 (M.2.2.1 _ w_487) (by rw [hR]; exact Nat.le_of_ble_eq_true rfl) (by rw [hR]; exact Nat.le_of_ble_eq_true rfl)) (zv_Tk hK hW) hB hW hS rfl hl.1 rfl (Nat.le_of_ble_eq_true rfl) d_cRunner_takeWords_21 (by rw [hR]; exact ⟨Nat.zero_le _, Nat.zero_le _⟩) (fun H locs hW hS => ?_)
        obtain ⟨u4, g2, hf⟩ := ze1 hf
        have J2 : ∀ (H : Heap) (locs : List Loc) (ls : Array Slot), lv_has ls 4 [(0, .ref (ad (0, 4))), (2, .int (zI v2)), (3, .int (zI v3))] → ZW D B y ad q u4 r H → va_S (fun x => B ≤ x) s.heap H locs → W p l e R s m args below meth c H locs 0 0 Q (F0 m 43 ls []) := by
          intro H locs ls hl hW hS
          refine lv_iinc (k := 2) (v := zI (v3 + 1)) (lv' := [(3, .int (zI (v3 + 1))), (0, .ref (ad (0, 4))), (2, .int (zI v2))]) hx hb d_cRunner_takeWords_43 hl rfl (zI_add _ _) (by decide) rfl (fun ls hl => ?_)
          refine lv_goto hx hb d_cRunner_takeWords_46 rfl ?_
          exact ih _ _ _ _ _ _ hf (lv_sub hl [1, 2, 0] rfl) hW hS
        refine z_if_ne hx hb d_cRunner_takeWords_24 rfl g2 (fun g2 => ?_) (fun g2 => ?_)
        · cases g2
          exact J2 _ _ _ (lv_sub hl [0, 1, 2] rfl) hW hS
        · refine lv_aload_n hx hb d_cRunner_takeWords_27 rfl (lv_at hl 0 rfl) ?_
          refine zg_Ru_words M hW (M.2.2.1 _ w_326) d_cRunner_takeWords_28 ?_
          refine lv_aload_n hx hb d_cRunner_takeWords_31 rfl (lv_at hl 0 rfl) ?_
          refine zg_Ru_tokens M hW (M.2.2.1 _ w_324) d_cRunner_takeWords_32 ?_
          refine lv_iload_n hx hb d_cRunner_takeWords_35 rfl (lv_at hl 2 rfl) ?_
          refine lv_aload_n hx hb d_cRunner_takeWords_36 rfl (lv_at hl 0 rfl) ?_
          refine zg_Ru_status M hW (M.2.2.1 _ w_329) d_cRunner_takeWords_37 ?_
          obtain ⟨u3, g3, g2⟩ := ze1 g2
          refine z_callVv (As := [.ref (ad (0, 1)), .int (zI v3), .int (zI (cI u 8 0))]) (rest := []) (k_cWords_add F _ _ _ g3) M hml (cw_cWords_add M.2.2.1 (M.2.2.1 _ w_493) (by rw [hR]; exact Nat.le_of_ble_eq_true rfl) (by rw [hR]; exact Nat.le_of_ble_eq_true rfl)) (zv_Wo hK hW) hB hW hS rfl hl.1 rfl (Nat.le_of_ble_eq_true rfl) d_cRunner_takeWords_40 (by rw [hR]; exact ⟨Nat.zero_le _, Nat.zero_le _⟩) (fun H locs hW hS => ?_)
          cases g2
          exact J2 _ _ _ (lv_sub hl [0, 1, 2] rfl) hW hS
  rw [cRunner_takeWords] at hf
  refine lv_aload_n hx hb d_cRunner_takeWords_0 rfl (lv_at hl 0 rfl) ?_
  refine zg_Ru_words M hW (M.2.2.1 _ w_326) d_cRunner_takeWords_1 ?_
  obtain ⟨u1, g4, hf⟩ := ze1 hf
  refine z_callVv (As := []) (rest := []) (k_cWords_clear F _ g4) M hml (cw_cWords_clear M.2.2.1 (M.2.2.1 _ w_488) (by rw [hR]; exact Nat.le_of_ble_eq_true rfl) (by rw [hR]; exact Nat.le_of_ble_eq_true rfl)) (zv_Wo hK hW) hB hW hS rfl hl.1 rfl (Nat.le_of_ble_eq_true rfl) d_cRunner_takeWords_4 (by rw [hR]; exact ⟨Nat.zero_le _, Nat.zero_le _⟩) (fun H locs hW hS => ?_)
  refine lv_iload_n hx hb d_cRunner_takeWords_7 rfl (lv_at hl 1 rfl) ?_
  refine lv_istore_n (lv' := [(3, .int (zI v1)), (0, .ref (ad (0, 4))), (1, .int (zI v1)), (2, .int (zI v2))]) hx hb d_cRunner_takeWords_8 rfl hl (by decide) rfl (fun ls hl => ?_)
  exact C_9 F _ _ _ _ _ _ hf (lv_sub hl [1, 3, 0] rfl) hW hS
set_option maxRecDepth 100000 in
set_option maxHeartbeats 4000000 in
theorem k_cRunner_output {l : Launch} {D : va_G} {B : Nat} {y : Nat → ClassId} {ad : Nat × Nat → Nat} {q : Bool} {r : ZR} (F : Nat) (u : ZC) {res : Option Nat} (hf : cRunner_output F u = some res) : Met l y_cRunner_output (.code y_cRunner_output b_cRunner_output 1 (some (.object "TreeShell$Text")) :: zt) { frames := 0, cells := 0, slots := 0, locals := 0 } (va_Pc [.ref (ad (0, 4))] (fun U => ZP D B y ad q u r U)) (va_Qq (fun v (_ : Unit) => v = res.map fun n => ad (1, n)) (fun _ t => ZP D B y ad q u r t) (fun x => B ≤ x)) 0 0 (fun x => B ≤ x) := by
  refine Met.ofW (cc := b_cRunner_output) (maxL := 1) (ret := (some (.object "TreeShell$Text"))) (by decide) rfl ?_
  intro p e s m args below meth c s₁ Bd hml hv
  obtain ⟨hargs, hB, hW, hK⟩ := hv
  have hx := Bd.exec
  have hb := Bd.bytes
  have hr := Bd.returns
  have hts0 := atoms_spec (ws := .code y_cRunner_output b_cRunner_output 1 (some (.object "TreeShell$Text")) :: zt) Bd.pre
  have hown : s.vm.findClass "TreeShell$Runner" = some m.cls := findClass_of_methodNamed Bd.named
  have hlocks := Bd.notSynchronized
  have M : ZM p c b_cRunner_output s args m "TreeShell$Runner" D y := ⟨hx, hb, fun w h => hts0 w (List.mem_cons_of_mem _ h), hown, hK⟩
  have hS : va_S (fun x => B ≤ x) s.heap s.heap [] := va_S.rf
  have hE := lg_entry_eq m ([.ref (ad (0, 4))] : List Value) 1
  rw [← hargs] at hE
  rw [hE]
  have hl := lv_entry ([.ref (ad (0, 4))] : List Value) (n := 1) (Nat.le_of_ble_eq_true rfl)
  generalize (lg_sl ([.ref (ad (0, 4))] : List Value) ++ List.replicate (1 - (lg_sl ([.ref (ad (0, 4))] : List Value)).length) Slot.unset).toArray = ls at hl ⊢
  have hl : lv_has ls 1 [(0, .ref (ad (0, 4)))] := hl
  refine z_start (fun Q R hQ hR => ?_)
  generalize hH : s.heap = H at hW
  have hS : va_S (fun x => B ≤ x) s.heap H [] := by rw [← hH]; exact hS
  rw [cRunner_output] at hf
  refine lv_aload_n hx hb d_cRunner_output_0 rfl (lv_at hl 0 rfl) ?_
  refine zg_Ru_levels M hW (M.2.2.1 _ w_328) d_cRunner_output_1 ?_
  refine z_iconst hx hb d_cRunner_output_4 ?_
  obtain ⟨g1, hf⟩ := zg hf
  refine za_lev M hW g1 d_cRunner_output_5 ?_
  refine zg_Le_listOutput M hW (zid_L (show 0 < 5 by decide)) (M.2.2.1 _ w_298) d_cRunner_output_6 ?_
  cases hf
  subst hQ
  exact z_retq (kd := 1) (a := (some (3 + 4 * 0))) hx hb hr hlocks hB hK hW hS d_cRunner_output_9
