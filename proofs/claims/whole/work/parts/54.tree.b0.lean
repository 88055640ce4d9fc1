set_option maxRecDepth 100000 in
set_option maxHeartbeats 4000000 in
theorem k_cTree_isNameLetter {l : Launch} {D : va_G} {B : Nat} {y : Nat → ClassId} {ad : Nat × Nat → Nat} {q : Bool} {r : ZR} (F : Nat) (u : ZC) (v0 : Int) {res : Int} (hf : cTree_isNameLetter F u v0 = some res) : Met l y_cTree_isNameLetter (.code y_cTree_isNameLetter b_cTree_isNameLetter 1 (some .boolean) :: zt) { frames := 0, cells := 0, slots := 0, locals := 0 } (va_Pc [.int (zI v0)] (fun U => ZP D B y ad q u r U)) (va_Qi (fun v (_ : Unit) => v = zI res) (fun _ t => ZP D B y ad q u r t) (fun x => B ≤ x)) 0 0 (fun x => B ≤ x) := by
  refine Met.ofW (cc := b_cTree_isNameLetter) (maxL := 1) (ret := (some .boolean)) (by decide) rfl ?_
  intro p e s m args below meth c s₁ Bd hml hv
  obtain ⟨hargs, hB, hW, hK⟩ := hv
  have hx := Bd.exec
  have hb := Bd.bytes
  have hr := Bd.returns
  have hts0 := atoms_spec (ws := .code y_cTree_isNameLetter b_cTree_isNameLetter 1 (some .boolean) :: zt) Bd.pre
  have hown : s.vm.findClass "TreeShell$Tree" = some m.cls := findClass_of_methodNamed Bd.named
  have hlocks := Bd.notSynchronized
  have M : ZM p c b_cTree_isNameLetter s args m "TreeShell$Tree" D y := ⟨hx, hb, fun w h => hts0 w (List.mem_cons_of_mem _ h), hown, hK⟩
  have hS : va_S (fun x => B ≤ x) s.heap s.heap [] := va_S.rf
  have hE := lg_entry_eq m ([.int (zI v0)] : List Value) 1
  rw [← hargs] at hE
  rw [hE]
  have hl := lv_entry ([.int (zI v0)] : List Value) (n := 1) (Nat.le_of_ble_eq_true rfl)
  generalize (lg_sl ([.int (zI v0)] : List Value) ++ List.replicate (1 - (lg_sl ([.int (zI v0)] : List Value)).length) Slot.unset).toArray = ls at hl ⊢
  have hl : lv_has ls 1 [(0, .int (zI v0))] := hl
  refine z_start (fun Q R hQ hR => ?_)
  generalize hH : s.heap = H at hW
  have hS : va_S (fun x => B ≤ x) s.heap H [] := by rw [← hH]; exact hS
  rw [cTree_isNameLetter] at hf
  refine lv_iload_n hx hb d_cTree_isNameLetter_0 rfl (lv_at hl 0 rfl) ?_
  refine z_bipush hx hb d_cTree_isNameLetter_1 rfl ?_
  obtain ⟨x2, g1, hf⟩ := ze1 hf
  have J1 : ∀ (H : Heap) (locs : List Loc) (ls : Array Slot), lv_has ls 1 [] → ZW D B y ad q u r H → va_S (fun x => B ≤ x) s.heap H locs → W p l e R s m args below meth c H locs 0 0 Q (F0 m 41 ls [.int (zI x2)]) := by
    intro H locs ls hl hW hS
    obtain ⟨g2, hf⟩ := zg hf
    cases hf
    subst hQ
    exact z_retz hx hb g2 hr hlocks hB hK hW hS d_cTree_isNameLetter_41
  obtain ⟨b1, g3, g1⟩ := ze1 g1
  have JT3 : b1 = true → ∀ (H : Heap) (locs : List Loc), ZW D B y ad q u r H → va_S (fun x => B ≤ x) s.heap H locs → W p l e R s m args below meth c H locs 0 0 Q (F0 m 36 ls []) := by
    intro hv H locs hW hS
    have g1 := zp (hv) g1
    refine z_iconst hx hb d_cTree_isNameLetter_36 ?_
    refine lv_goto hx hb d_cTree_isNameLetter_37 rfl ?_
    cases g1
    exact J1 _ _ _ (lv_sub hl [] rfl) hW hS
  have JF3 : b1 = false → ∀ (H : Heap) (locs : List Loc), ZW D B y ad q u r H → va_S (fun x => B ≤ x) s.heap H locs → W p l e R s m args below meth c H locs 0 0 Q (F0 m 40 ls []) := by
    intro hv H locs hW hS
    have g1 := zn (by rw [hv]; decide) g1
    refine z_iconst hx hb d_cTree_isNameLetter_40 ?_
    cases g1
    exact J1 _ _ _ (lv_sub hl [] rfl) hW hS
  refine z_icmp_lt hx hb d_cTree_isNameLetter_3 rfl g3 (fun g3 => ?_) (fun g3 => ?_)
  · refine lv_iload_n hx hb d_cTree_isNameLetter_12 rfl (lv_at hl 0 rfl) ?_
    refine z_bipush hx hb d_cTree_isNameLetter_13 rfl ?_
    refine z_icmp_lt hx hb d_cTree_isNameLetter_15 rfl g3 (fun g3 => ?_) (fun g3 => ?_)
    · refine lv_iload_n hx hb d_cTree_isNameLetter_24 rfl (lv_at hl 0 rfl) ?_
      refine z_bipush hx hb d_cTree_isNameLetter_25 rfl ?_
      refine z_icmp_eq hx hb d_cTree_isNameLetter_27 rfl g3 (fun g3 => ?_) (fun g3 => ?_)
      · exact JT3 (Option.some.inj g3).symm _ _ hW hS
      · refine lv_iload_n hx hb d_cTree_isNameLetter_30 rfl (lv_at hl 0 rfl) ?_
        refine z_bipush hx hb d_cTree_isNameLetter_31 rfl ?_
        refine z_icmp_ne hx hb d_cTree_isNameLetter_33 rfl g3 (fun g3 => ?_) (fun g3 => ?_)
        · exact JF3 (Option.some.inj g3).symm _ _ hW hS
        · exact JT3 (Option.some.inj g3).symm _ _ hW hS
    · refine lv_iload_n hx hb d_cTree_isNameLetter_18 rfl (lv_at hl 0 rfl) ?_
      refine z_bipush hx hb d_cTree_isNameLetter_19 rfl ?_
      refine z_icmp_le hx hb d_cTree_isNameLetter_21 rfl g3 (fun g3 => ?_) (fun g3 => ?_)
      · exact JT3 (Option.some.inj g3).symm _ _ hW hS
      · refine lv_iload_n hx hb d_cTree_isNameLetter_24 rfl (lv_at hl 0 rfl) ?_
        refine z_bipush hx hb d_cTree_isNameLetter_25 rfl ?_
        refine z_icmp_eq hx hb d_cTree_isNameLetter_27 rfl g3 (fun g3 => ?_) (fun g3 => ?_)
        · exact JT3 (Option.some.inj g3).symm _ _ hW hS
        · refine lv_iload_n hx hb d_cTree_isNameLetter_30 rfl (lv_at hl 0 rfl) ?_
          refine z_bipush hx hb d_cTree_isNameLetter_31 rfl ?_
          refine z_icmp_ne hx hb d_cTree_isNameLetter_33 rfl g3 (fun g3 => ?_) (fun g3 => ?_)
          · exact JF3 (Option.some.inj g3).symm _ _ hW hS
          · exact JT3 (Option.some.inj g3).symm _ _ hW hS
  · refine lv_iload_n hx hb d_cTree_isNameLetter_6 rfl (lv_at hl 0 rfl) ?_
    refine z_bipush hx hb d_cTree_isNameLetter_7 rfl ?_
    refine z_icmp_le hx hb d_cTree_isNameLetter_9 rfl g3 (fun g3 => ?_) (fun g3 => ?_)
    · exact JT3 (Option.some.inj g3).symm _ _ hW hS
    · refine lv_iload_n hx hb d_cTree_isNameLetter_12 rfl (lv_at hl 0 rfl) ?_
      refine z_bipush hx hb d_cTree_isNameLetter_13 rfl ?_
      refine z_icmp_lt hx hb d_cTree_isNameLetter_15 rfl g3 (fun g3 => ?_) (fun g3 => ?_)
      · refine lv_iload_n hx hb d_cTree_isNameLetter_24 rfl (lv_at hl 0 rfl) ?_
        refine z_bipush hx hb d_cTree_isNameLetter_25 rfl ?_
        refine z_icmp_eq hx hb d_cTree_isNameLetter_27 rfl g3 (fun g3 => ?_) (fun g3 => ?_)
        · exact JT3 (Option.some.inj g3).symm _ _ hW hS
        · refine lv_iload_n hx hb d_cTree_isNameLetter_30 rfl (lv_at hl 0 rfl) ?_
          refine z_bipush hx hb d_cTree_isNameLetter_31 rfl ?_
          refine z_icmp_ne hx hb d_cTree_isNameLetter_33 rfl g3 (fun g3 => ?_) (fun g3 => ?_)
          · exact JF3 (Option.some.inj g3).symm _ _ hW hS
          · exact JT3 (Option.some.inj g3).symm _ _ hW hS
      · refine lv_iload_n hx hb d_cTree_isNameLetter_18 rfl (lv_at hl 0 rfl) ?_
        refine z_bipush hx hb d_cTree_isNameLetter_19 rfl ?_
        refine z_icmp_le hx hb d_cTree_isNameLetter_21 rfl g3 (fun g3 => ?_) (fun g3 => ?_)
        · exact JT3 (Option.some.inj g3).symm _ _ hW hS
        · refine lv_iload_n hx hb d_cTree_isNameLetter_24 rfl (lv_at hl 0 rfl) ?_
          refine z_bipush hx hb d_cTree_isNameLetter_25 rfl ?_
          refine z_icmp_eq hx hb d_cTree_isNameLetter_27 rfl g3 (fun g3 => ?_) (fun g3 => ?_)
          · exact JT3 (Option.some.inj g3).symm _ _ hW hS
          · refine lv_iload_n hx hb d_cTree_isNameLetter_30 rfl (lv_at hl 0 rfl) ?_
            refine z_bipush hx hb d_cTree_isNameLetter_31 rfl ?_
            refine z_icmp_ne hx hb d_cTree_isNameLetter_33 rfl g3 (fun g3 => ?_) (fun g3 => ?_)
            · exact JF3 (Option.some.inj g3).symm _ _ hW hS
            · exact JT3 (Option.some.inj g3).symm _ _ hW hS
set_option maxRecDepth 100000 in
set_option maxHeartbeats 4000000 in
theorem k_cTree_followPiece {l : Launch} {D : va_G} {B : Nat} {y : Nat → ClassId} {ad : Nat × Nat → Nat} {q : Bool} {r : ZR} (F : Nat) (u : ZC) (v1 : Int64) (v3 : Int) (v4 : Int) {uo : ZC} (hf : cTree_followPiece F u v1 v3 v4 = some uo) : Met l y_cTree_followPiece (.code y_cTree_followPiece b_cTree_followPiece 7 none :: zt) { frames := 0, cells := 0, slots := 0, locals := 0 } (va_Pc [.ref (ad (0, 3)), .long v1, .int (zI v3), .int (zI v4)] (fun U => ZP D B y ad q u r U)) (va_Qv (fun (_ : Unit) => True) (fun _ t => ZP D B y ad q uo r t) (fun x => B ≤ x)) 0 0 (fun x => B ≤ x) := by
  refine Met.ofW (cc := b_cTree_followPiece) (maxL := 7) (ret := none) (by decide) rfl ?_
  intro p e s m args below meth c s₁ Bd hml hv
  obtain ⟨hargs, hB, hW, hK⟩ := hv
  have hx := Bd.exec
  have hb := Bd.bytes
  have hr := Bd.returns
  have hts0 := atoms_spec (ws := .code y_cTree_followPiece b_cTree_followPiece 7 none :: zt) Bd.pre
  have hown : s.vm.findClass "TreeShell$Tree" = some m.cls := findClass_of_methodNamed Bd.named
  have hlocks := Bd.notSynchronized
  have M : ZM p c b_cTree_followPiece s args m "TreeShell$Tree" D y := ⟨hx, hb, fun w h => hts0 w (List.mem_cons_of_mem _ h), hown, hK⟩
  have hS : va_S (fun x => B ≤ x) s.heap s.heap [] := va_S.rf
  have hE := lg_entry_eq m ([.ref (ad (0, 3)), .long v1, .int (zI v3), .int (zI v4)] : List Value) 7
  rw [← hargs] at hE
  rw [hE]
  have hl := lv_entry ([.ref (ad (0, 3)), .long v1, .int (zI v3), .int (zI v4)] : List Value) (n := 7) (Nat.le_of_ble_eq_true rfl)
  generalize (lg_sl ([.ref (ad (0, 3)), .long v1, .int (zI v3), .int (zI v4)] : List Value) ++ List.replicate (7 - (lg_sl ([.ref (ad (0, 3)), .long v1, .int (zI v3), .int (zI v4)] : List Value)).length) Slot.unset).toArray = ls at hl ⊢
  have hl : lv_has ls 7 [(0, .ref (ad (0, 3))), (1, .long v1), (3, .int (zI v3)), (4, .int (zI v4))] := hl
  refine z_start (fun Q R hQ hR => ?_)
  generalize hH : s.heap = H at hW
  have hS : va_S (fun x => B ≤ x) s.heap H [] := by rw [← hH]; exact hS
  have C_116 : ∀ (n : Nat), ∀ (u : ZC) (v5 : Option Nat) (v6 : Option Nat) (H : Heap) (locs : List Loc) (ls : Array Slot), cTree_followPiece_116 F n u v5 v6 = some uo → lv_has ls 7 [(0, .ref (ad (0, 3))), (5, zrf ad 3 v5), (6, zrf ad 3 v6)] → ZW D B y ad q u r H → va_S (fun x => B ≤ x) s.heap H locs → W p l e R s m args below meth c H locs 0 0 Q (F0 m 116 ls []) := by
    intro n
    induction n with
    | zero => intro u v5 v6 H locs ls hf; cases (show (none : Option (ZC)) = some uo from hf)
    | succ n ih =>
      intro u v5 v6 H locs ls hf hl hW hS
      rw [cTree_followPiece_116] at hf
      refine z_aload hx hb d_cTree_followPiece_116 (lv_at hl 2 rfl) ?_
      refine z_ifnull hx hb d_cTree_followPiece_118 rfl hf (fun hyg1 hn => ?_) (fun n16 hn hyg1 => ?_)
      · subst hn
        have hf := hyg1
        have hl : lv_has ls 7 [(0, .ref (ad (0, 3))), (5, zrf ad 3 v5), (6, .null)] := hl
        refine lv_aload_n hx hb d_cTree_followPiece_160 rfl (lv_at hl 0 rfl) ?_
        refine lv_aload_n hx hb d_cTree_followPiece_161 rfl (lv_at hl 0 rfl) ?_
        refine zg_Tr_found M hW (M.2.2.1 _ w_219) d_cTree_followPiece_162 ?_
        obtain ⟨o17, g2, hf⟩ := ze1 hf
        have g2 := Option.some.inj g2
        rw [g2]
        obtain ⟨x19, g3, hf⟩ := ze1 hf
        have J3 : ∀ (H : Heap) (locs : List Loc) (ls : Array Slot), lv_has ls 7 [] → ZW D B y ad q u r H → va_S (fun x => B ≤ x) s.heap H locs → W p l e R s m args below meth c H locs 0 0 Q (F0 m 174 ls [zrf ad 3 x19, .ref (ad (0, 3))]) := by
          intro H locs ls hl hW hS
          refine zp_Tr_vacantIn (v := x19) M hW hS (M.2.2.1 _ w_221) d_cTree_followPiece_174 (fun H locs hW hS => ?_)
          cases hf
          subst hQ
          exact z_retv hx hb hr hlocks hB hK hW hS d_cTree_followPiece_177
        refine z_ifnonnull hx hb d_cTree_followPiece_165 rfl g3 (fun hyg4 hn => ?_) (fun n18 hn hyg4 => ?_)
        · subst hn
          have g3 := hyg4
          have hl : lv_has ls 7 [(0, .ref (ad (0, 3))), (5, zrf ad 3 v5), (6, .null)] := hl
          refine z_aload hx hb d_cTree_followPiece_168 (lv_at hl 1 rfl) ?_
          refine lv_goto hx hb d_cTree_followPiece_170 rfl ?_
          cases g3
          exact J3 _ _ _ (lv_sub hl [] rfl) hW hS
        · subst hn
          have g3 := hyg4
          have hl : lv_has ls 7 [(0, .ref (ad (0, 3))), (5, zrf ad 3 v5), (6, .null)] := hl
          refine lv_null hx hb d_cTree_followPiece_173 ?_
          cases g3
          exact J3 _ _ _ (lv_sub hl [] rfl) hW hS
      · subst hn
        have hf := hyg1
        have hl : lv_has ls 7 [(0, .ref (ad (0, 3))), (5, zrf ad 3 v5), (6, .ref (ad (3, n16)))] := hl
        refine lv_aload hx hb d_cTree_followPiece_121 (lv_at hl 2 rfl) ?_
        obtain ⟨g5, hf⟩ := zg hf
        refine zg_No_parent M hW (zid_N g5) (M.2.2.1 _ w_184) d_cTree_followPiece_123 ?_
        obtain ⟨o20, g6, hf⟩ := ze1 hf
        have g6 := Option.some.inj g6
        rw [g6]
        refine z_aload hx hb d_cTree_followPiece_126 (lv_at hl 1 rfl) ?_
        obtain ⟨u22, g7, hf⟩ := ze1 hf
        have J7 : ∀ (H : Heap) (locs : List Loc) (ls : Array Slot), lv_has ls 7 [(0, .ref (ad (0, 3))), (5, zrf ad 3 v5), (6, .ref (ad (3, n16)))] → ZW D B y ad q u22 r H → va_S (fun x => B ≤ x) s.heap H locs → W p l e R s m args below meth c H locs 0 0 Q (F0 m 150 ls []) := by
          intro H locs ls hl hW hS
          refine lv_aload hx hb d_cTree_followPiece_150 (lv_at hl 2 rfl) ?_
          obtain ⟨g8, hf⟩ := zg hf
          refine zg_No_older M hW (zid_N g8) (M.2.2.1 _ w_194) d_cTree_followPiece_152 ?_
          obtain ⟨o23, g9, hf⟩ := ze1 hf
          have g9 := Option.some.inj g9
          rw [g9]
          refine z_astore (lv2 := [(6, zrf ad 3 o23), (0, .ref (ad (0, 3))), (5, zrf ad 3 v5)]) hx hb d_cTree_followPiece_155 hl (by decide) (by simp only [List.filter, zrf_cat] <;> rfl) (fun ls hl => ?_)
          refine lv_goto hx hb d_cTree_followPiece_157 rfl ?_
          exact ih _ _ _ _ _ _ hf (lv_sub hl [1, 2, 0] rfl) hW hS
        obtain ⟨b21, g10, g7⟩ := ze1 g7
        have JT10 : b21 = true → ∀ (H : Heap) (locs : List Loc), ZW D B y ad q u r H → va_S (fun x => B ≤ x) s.heap H locs → W p l e R s m args below meth c H locs 0 0 Q (F0 m 150 ls []) := by
          intro hv H locs hW hS
          have g7 := zp (hv) g7
          cases g7
          exact J7 _ _ _ (lv_sub hl [0, 1, 2] rfl) hW hS
        have JF10 : b21 = false → ∀ (H : Heap) (locs : List Loc), ZW D B y ad q u r H → va_S (fun x => B ≤ x) s.heap H locs → W p l e R s m args below meth c H locs 0 0 Q (F0 m 144 ls []) := by
          intro hv H locs hW hS
          have g7 := zn (by rw [hv]; decide) g7
          refine lv_aload_n hx hb d_cTree_followPiece_144 rfl (lv_at hl 0 rfl) ?_
          refine lv_aload hx hb d_cTree_followPiece_145 (lv_at hl 2 rfl) ?_
          refine zp_Tr_found (v := (some n16)) M hW hS (M.2.2.1 _ w_219) d_cTree_followPiece_147 (fun H locs hW hS => ?_)
          cases g7
          exact J7 _ _ _ (lv_sub hl [0, 1, 2] rfl) hW hS
        obtain ⟨g11, g10⟩ := zg g10
        obtain ⟨g12, g10⟩ := zg g10
        refine z_acmp_ne hx hb hW g11 g12 d_cTree_followPiece_128 rfl g10 (fun g10 => ?_) (fun g10 => ?_)
        · exact JT10 (Option.some.inj g10).symm _ _ hW hS
        · refine lv_aload hx hb d_cTree_followPiece_131 (lv_at hl 2 rfl) ?_
          refine zg_No_name M hW (zid_N g5) (M.2.2.1 _ w_187) d_cTree_followPiece_133 ?_
          refine lv_aload_n hx hb d_cTree_followPiece_136 rfl (lv_at hl 0 rfl) ?_
          refine zg_Tr_vacantName M hW (M.2.2.1 _ w_224) d_cTree_followPiece_137 ?_
          refine W.lcmp hx hb d_cTree_followPiece_140 ?_
          refine z_lif_ne hx hb d_cTree_followPiece_141 rfl g10 (fun g10 => ?_) (fun g10 => ?_)
          · exact JT10 (Option.some.inj g10).symm _ _ hW hS
          · exact JF10 (Option.some.inj g10).symm _ _ hW hS
  rw [cTree_followPiece] at hf
  refine lv_iload_n hx hb d_cTree_followPiece_0 rfl (lv_at hl 2 rfl) ?_
  obtain ⟨b1, g13, hf⟩ := ze1 hf
  have JT13 : b1 = true → ∀ (H : Heap) (locs : List Loc), ZW D B y ad q u r H → va_S (fun x => B ≤ x) s.heap H locs → W p l e R s m args below meth c H locs 0 0 Q (F0 m 17 ls []) := by
    intro hv H locs hW hS
    have hf := zp (hv) hf
    cases hf
    subst hQ
    exact z_retv hx hb hr hlocks hB hK hW hS d_cTree_followPiece_17
  have JF13 : b1 = false → ∀ (H : Heap) (locs : List Loc), ZW D B y ad q u r H → va_S (fun x => B ≤ x) s.heap H locs → W p l e R s m args below meth c H locs 0 0 Q (F0 m 18 ls []) := by
    intro hv H locs hW hS
    have hf := zn (by rw [hv]; decide) hf
    refine lv_aload_n hx hb d_cTree_followPiece_18 rfl (lv_at hl 0 rfl) ?_
    refine zg_Tr_found M hW (M.2.2.1 _ w_219) d_cTree_followPiece_19 ?_
    obtain ⟨o2, g14, hf⟩ := ze1 hf
    have g14 := Option.some.inj g14
    rw [g14]
    refine z_astore (lv2 := [(5, zrf ad 3 o2), (0, .ref (ad (0, 3))), (1, .long v1), (3, .int (zI v3)), (4, .int (zI v4))]) hx hb d_cTree_followPiece_22 hl (by decide) rfl (fun ls hl => ?_)
    refine lv_aload_n hx hb d_cTree_followPiece_24 rfl (lv_at hl 1 rfl) ?_
    refine lv_null hx hb d_cTree_followPiece_25 ?_
    refine zp_Tr_found (v := none) M hW hS (M.2.2.1 _ w_219) d_cTree_followPiece_26 (fun H locs hW hS => ?_)
    refine lv_aload_n hx hb d_cTree_followPiece_29 rfl (lv_at hl 1 rfl) ?_
    refine lv_null hx hb d_cTree_followPiece_30 ?_
    refine zp_Tr_vacantIn (v := none) M hW hS (M.2.2.1 _ w_221) d_cTree_followPiece_31 (fun H locs hW hS => ?_)
    refine z_aload hx hb d_cTree_followPiece_34 (lv_at hl 0 rfl) ?_
    obtain ⟨b6, g15, hf⟩ := ze1 hf
    have JT15 : b6 = true → ∀ (H : Heap) (locs : List Loc), ZW D B y ad q (sP (sP u 2 0 none) 3 0 none) r H → va_S (fun x => B ≤ x) s.heap H locs → W p l e R s m args below meth c H locs 0 0 Q (F0 m 47 ls []) := by
      intro hv H locs hW hS
      have hf := zp (hv) hf
      cases hf
      subst hQ
      exact z_retv hx hb hr hlocks hB hK hW hS d_cTree_followPiece_47
    have JF15 : b6 = false → ∀ (H : Heap) (locs : List Loc), ZW D B y ad q (sP (sP u 2 0 none) 3 0 none) r H → va_S (fun x => B ≤ x) s.heap H locs → W p l e R s m args below meth c H locs 0 0 Q (F0 m 48 ls []) := by
      intro hv H locs hW hS
      have hf := zn (by rw [hv]; decide) hf
      refine lv_iload_n hx hb d_cTree_followPiece_48 rfl (lv_at hl 3 rfl) ?_
      refine z_iconst hx hb d_cTree_followPiece_49 ?_
      obtain ⟨b7, g16, hf⟩ := ze1 hf
      have JT16 : b7 = true → ∀ (H : Heap) (locs : List Loc), ZW D B y ad q (sP (sP u 2 0 none) 3 0 none) r H → va_S (fun x => B ≤ x) s.heap H locs → W p l e R s m args below meth c H locs 0 0 Q (F0 m 86 ls []) := by
        intro hv H locs hW hS
        have hf := zp (hv) hf
        refine lv_iload_n hx hb d_cTree_followPiece_86 rfl (lv_at hl 3 rfl) ?_
        refine z_bipush hx hb d_cTree_followPiece_87 rfl ?_
        obtain ⟨b8, g17, hf⟩ := ze1 hf
        have JT17 : b8 = true → ∀ (H : Heap) (locs : List Loc), ZW D B y ad q (sP (sP u 2 0 none) 3 0 none) r H → va_S (fun x => B ≤ x) s.heap H locs → W p l e R s m args below meth c H locs 0 0 Q (F0 m 177 ls []) := by
          intro hv H locs hW hS
          have hf := zp (hv) hf
          cases hf
          subst hQ
          exact z_retv hx hb hr hlocks hB hK hW hS d_cTree_followPiece_177
        have JF17 : b8 = false → ∀ (H : Heap) (locs : List Loc), ZW D B y ad q (sP (sP u 2 0 none) 3 0 none) r H → va_S (fun x => B ≤ x) s.heap H locs → W p l e R s m args below meth c H locs 0 0 Q (F0 m 97 ls []) := by
          intro hv H locs hW hS
          have hf := zn (by rw [hv]; decide) hf
          refine lv_aload_n hx hb d_cTree_followPiece_97 rfl (lv_at hl 1 rfl) ?_
          refine lv_lload_n hx hb d_cTree_followPiece_98 rfl (lv_at hl 2 rfl) ?_
          refine z_bipush hx hb d_cTree_followPiece_99 rfl ?_
          refine z_bipush hx hb d_cTree_followPiece_101 rfl ?_
          refine lv_iload_n hx hb d_cTree_followPiece_103 rfl (lv_at hl 3 rfl) ?_
          refine z_isub hx hb d_cTree_followPiece_104 ?_
          refine z_imul hx hb d_cTree_followPiece_105 ?_
          refine z_lshl hx hb d_cTree_followPiece_106 ?_
          refine zp_Tr_vacantName M hW hS (M.2.2.1 _ w_224) d_cTree_followPiece_107 (fun H locs hW hS => ?_)
          obtain ⟨u9, g18, hf⟩ := ze1 hf
          have g18 := Option.some.inj g18
          rw [g18] at hW
          refine lv_aload_n hx hb d_cTree_followPiece_110 rfl (lv_at hl 1 rfl) ?_
          refine zg_Tr_newest M hW (M.2.2.1 _ w_209) d_cTree_followPiece_111 ?_
          obtain ⟨o10, g19, hf⟩ := ze1 hf
          have g19 := Option.some.inj g19
          rw [g19]
          refine z_astore (lv2 := [(6, zrf ad 3 o10), (5, zrf ad 3 o2), (0, .ref (ad (0, 3))), (1, .long v1), (3, .int (zI v3)), (4, .int (zI v4))]) hx hb d_cTree_followPiece_114 hl (by decide) (by simp only [List.filter, zrf_cat] <;> rfl) (fun ls hl => ?_)
          exact C_116 F _ _ _ _ _ _ hf (lv_sub hl [2, 1, 0] rfl) hW hS
        refine z_icmp_gt hx hb d_cTree_followPiece_89 rfl g17 (fun g17 => ?_) (fun g17 => ?_)
        · exact JT17 (Option.some.inj g17).symm _ _ hW hS
        · refine lv_iload hx hb d_cTree_followPiece_92 (lv_at hl 4 rfl) ?_
          refine z_if_eq hx hb d_cTree_followPiece_94 rfl g17 (fun g17 => ?_) (fun g17 => ?_)
          · exact JT17 (Option.some.inj g17).symm _ _ hW hS
          · exact JF17 (Option.some.inj g17).symm _ _ hW hS
      have JF16 : b7 = false → ∀ (H : Heap) (locs : List Loc), ZW D B y ad q (sP (sP u 2 0 none) 3 0 none) r H → va_S (fun x => B ≤ x) s.heap H locs → W p l e R s m args below meth c H locs 0 0 Q (F0 m 61 ls []) := by
        intro hv H locs hW hS
        have hf := zn (by rw [hv]; decide) hf
        refine lv_aload_n hx hb d_cTree_followPiece_61 rfl (lv_at hl 1 rfl) ?_
        refine z_aload hx hb d_cTree_followPiece_62 (lv_at hl 0 rfl) ?_
        obtain ⟨n11, hn, hyg20⟩ := zes hf
        subst hn
        have hf := hyg20
        have hl : lv_has ls 7 [(5, .ref (ad (3, n11))), (0, .ref (ad (0, 3))), (1, .long v1), (3, .int (zI v3)), (4, .int (zI v4))] := hl
        obtain ⟨g21, hf⟩ := zg hf
        refine zg_No_parent M hW (zid_N g21) (M.2.2.1 _ w_184) d_cTree_followPiece_64 ?_
        obtain ⟨o12, g22, hf⟩ := ze1 hf
        have g22 := Option.some.inj g22
        rw [g22]
        obtain ⟨x15, g23, hf⟩ := ze1 hf
        have J23 : ∀ (H : Heap) (locs : List Loc) (ls : Array Slot), lv_has ls 7 [] → ZW D B y ad q (sP (sP u 2 0 none) 3 0 none) r H → va_S (fun x => B ≤ x) s.heap H locs → W p l e R s m args below meth c H locs 0 0 Q (F0 m 80 ls [zrf ad 3 x15, .ref (ad (0, 3))]) := by
          intro H locs ls hl hW hS
          refine zp_Tr_found (v := x15) M hW hS (M.2.2.1 _ w_219) d_cTree_followPiece_80 (fun H locs hW hS => ?_)
          refine lv_goto hx hb d_cTree_followPiece_83 rfl ?_
          cases hf
          subst hQ
          exact z_retv hx hb hr hlocks hB hK hW hS d_cTree_followPiece_177
        refine z_ifnonnull hx hb d_cTree_followPiece_67 rfl g23 (fun hyg24 hn => ?_) (fun n13 hn hyg24 => ?_)
        · subst hn
          have g23 := hyg24
          have hl : lv_has ls 7 [(5, .ref (ad (3, n11))), (0, .ref (ad (0, 3))), (1, .long v1), (3, .int (zI v3)), (4, .int (zI v4))] := hl
          refine lv_aload hx hb d_cTree_followPiece_70 (lv_at hl 0 rfl) ?_
          refine lv_goto hx hb d_cTree_followPiece_72 rfl ?_
          cases g23
          exact J23 _ _ _ (lv_sub hl [] rfl) hW hS
        · subst hn
          have g23 := hyg24
          have hl : lv_has ls 7 [(5, .ref (ad (3, n11))), (0, .ref (ad (0, 3))), (1, .long v1), (3, .int (zI v3)), (4, .int (zI v4))] := hl
          refine lv_aload hx hb d_cTree_followPiece_75 (lv_at hl 0 rfl) ?_
          refine zg_No_parent M hW (zid_N g21) (M.2.2.1 _ w_184) d_cTree_followPiece_77 ?_
          obtain ⟨o14, g25, g23⟩ := ze1 g23
          have g25 := Option.some.inj g25
          rw [g25]
          cases g23
          exact J23 _ _ _ (lv_sub hl [] rfl) hW hS
      refine z_icmp_ne hx hb d_cTree_followPiece_50 rfl g16 (fun g16 => ?_) (fun g16 => ?_)
      · exact JT16 (Option.some.inj g16).symm _ _ hW hS
      · refine lv_lload_n hx hb d_cTree_followPiece_53 rfl (lv_at hl 2 rfl) ?_
        refine lv_ldc2 hx hb hown (M.2.2.1 _ w_523) d_cTree_followPiece_54 ?_
        refine W.lcmp hx hb d_cTree_followPiece_57 ?_
        refine z_lif_ne hx hb d_cTree_followPiece_58 rfl g16 (fun g16 => ?_) (fun g16 => ?_)
        · exact JT16 (Option.some.inj g16).symm _ _ hW hS
        · exact JF16 (Option.some.inj g16).symm _ _ hW hS
    refine z_ifnull hx hb d_cTree_followPiece_36 rfl g15 (fun hyg26 hn => ?_) (fun n3 hn hyg26 => ?_)
    · subst hn
      have g15 := hyg26
      have hl : lv_has ls 7 [(5, .null), (0, .ref (ad (0, 3))), (1, .long v1), (3, .int (zI v3)), (4, .int (zI v4))] := hl
      exact JT15 (Option.some.inj g15).symm _ _ hW hS
    · subst hn
      have g15 := hyg26
      have hl : lv_has ls 7 [(5, .ref (ad (3, n3))), (0, .ref (ad (0, 3))), (1, .long v1), (3, .int (zI v3)), (4, .int (zI v4))] := hl
      refine lv_aload hx hb d_cTree_followPiece_39 (lv_at hl 0 rfl) ?_
      obtain ⟨g27, g15⟩ := zg g15
      refine zg_No_content M hW (zid_N g27) (M.2.2.1 _ w_190) d_cTree_followPiece_41 ?_
      obtain ⟨o4, g28, g15⟩ := ze1 g15
      have g28 := Option.some.inj g28
      rw [g28]
      refine z_ifnull hx hb d_cTree_followPiece_44 rfl g15 (fun hyg29 hn => ?_) (fun n5 hn hyg29 => ?_)
      · subst hn
        have g15 := hyg29
        have hl : lv_has ls 7 [(5, .ref (ad (3, n3))), (0, .ref (ad (0, 3))), (1, .long v1), (3, .int (zI v3)), (4, .int (zI v4))] := hl
        exact JF15 (Option.some.inj g15).symm _ _ hW hS
      · subst hn
        have g15 := hyg29
        have hl : lv_has ls 7 [(5, .ref (ad (3, n3))), (0, .ref (ad (0, 3))), (1, .long v1), (3, .int (zI v3)), (4, .int (zI v4))] := hl
        exact JT15 (Option.some.inj g15).symm _ _ hW hS
  refine z_if_eq hx hb d_cTree_followPiece_1 rfl g13 (fun g13 => ?_) (fun g13 => ?_)
  · exact JT13 (Option.some.inj g13).symm _ _ hW hS
  · refine lv_iload_n hx hb d_cTree_followPiece_4 rfl (lv_at hl 2 rfl) ?_
    refine z_iconst hx hb d_cTree_followPiece_5 ?_
    refine z_icmp_ne hx hb d_cTree_followPiece_6 rfl g13 (fun g13 => ?_) (fun g13 => ?_)
    · exact JF13 (Option.some.inj g13).symm _ _ hW hS
    · refine lv_lload_n hx hb d_cTree_followPiece_9 rfl (lv_at hl 1 rfl) ?_
      refine lv_ldc2 hx hb hown (M.2.2.1 _ w_522) d_cTree_followPiece_10 ?_
      refine W.lcmp hx hb d_cTree_followPiece_13 ?_
      refine z_lif_ne hx hb d_cTree_followPiece_14 rfl g13 (fun g13 => ?_) (fun g13 => ?_)
      · exact JF13 (Option.some.inj g13).symm _ _ hW hS
      · exact JT13 (Option.some.inj g13).symm _ _ hW hS
set_option maxRecDepth 100000 in
set_option maxHeartbeats 4000000 in
theorem k_cTree_follow {l : Launch} {D : va_G} {B : Nat} {y : Nat → ClassId} {ad : Nat × Nat → Nat} {q : Bool} {r : ZR} (F : Nat) (u : ZC) (v2 : Int) {res : Option Nat} {uo : ZC} (hf : cTree_follow F u v2 = some (res, uo)) : Met l y_cTree_follow (.code y_cTree_follow b_cTree_follow 11 (some (.object "TreeShell$Node")) :: zt) { frames := 1, cells := 0, slots := 0, locals := 26 } (va_Pc [.ref (ad (0, 3)), .ref (ad (0, 5)), .int (zI v2)] (fun U => ZP D B y ad q u r U)) (va_Qq (fun v (_ : Unit) => v = res.map fun n => ad (3, n)) (fun _ t => ZP D B y ad q uo r t) (fun x => B ≤ x)) 0 0 (fun x => B ≤ x) := by
  refine Met.ofW (cc := b_cTree_follow) (maxL := 11) (ret := (some (.object "TreeShell$Node"))) (by decide) rfl ?_
  intro p e s m args below meth c s₁ Bd hml hv
  obtain ⟨hargs, hB, hW, hK⟩ := hv
  have hx := Bd.exec
  have hb := Bd.bytes
  have hr := Bd.returns
  have hts0 := atoms_spec (ws := .code y_cTree_follow b_cTree_follow 11 (some (.object "TreeShell$Node")) :: zt) Bd.pre
  have hown : s.vm.findClass "TreeShell$Tree" = some m.cls := findClass_of_methodNamed Bd.named
  have hlocks := Bd.notSynchronized
  have M : ZM p c b_cTree_follow s args m "TreeShell$Tree" D y := ⟨hx, hb, fun w h => hts0 w (List.mem_cons_of_mem _ h), hown, hK⟩
  have hS : va_S (fun x => B ≤ x) s.heap s.heap [] := va_S.rf
  have hE := lg_entry_eq m ([.ref (ad (0, 3)), .ref (ad (0, 5)), .int (zI v2)] : List Value) 11
  rw [← hargs] at hE
  rw [hE]
  have hl := lv_entry ([.ref (ad (0, 3)), .ref (ad (0, 5)), .int (zI v2)] : List Value) (n := 11) (Nat.le_of_ble_eq_true rfl)
  generalize (lg_sl ([.ref (ad (0, 3)), .ref (ad (0, 5)), .int (zI v2)] : List Value) ++ List.replicate (11 - (lg_sl ([.ref (ad (0, 3)), .ref (ad (0, 5)), .int (zI v2)] : List Value)).length) Slot.unset).toArray = ls at hl ⊢
  have hl : lv_has ls 11 [(0, .ref (ad (0, 3))), (1, .ref (ad (0, 5))), (2, .int (zI v2))] := hl
  refine z_start (fun Q R hQ hR => ?_)
  generalize hH : s.heap = H at hW
  have hS : va_S (fun x => B ≤ x) s.heap H [] := by rw [← hH]; exact hS
  have C_71 : ∀ (n : Nat), ∀ (u : ZC) (v5 : Int) (v6 : Int64) (v8 : Int) (v9 : Int) (v10 : Int) (H : Heap) (locs : List Loc) (ls : Array Slot), cTree_follow_71 F n u v5 v6 v8 v9 v10 = some (res, uo) → lv_has ls 11 [(0, .ref (ad (0, 3))), (3, .ref (ad (2, 1))), (5, .int (zI v5)), (6, .long v6), (8, .int (zI v8)), (9, .int (zI v9)), (10, .int (zI v10))] → ZW D B y ad q u r H → va_S (fun x => B ≤ x) s.heap H locs → W p l e R s m args below meth c H locs 0 0 Q (F0 m 71 ls []) := by
    intro n
    induction n with
    | zero => intro u v5 v6 v8 v9 v10 H locs ls hf; cases (show (none : Option (Option Nat × ZC)) = some (res, uo) from hf)
    | succ n ih =>
      intro u v5 v6 v8 v9 v10 H locs ls hf hl hW hS
      rw [cTree_follow_71] at hf
      refine lv_iload hx hb d_cTree_follow_71 (lv_at hl 6 rfl) ?_
      refine lv_iload hx hb d_cTree_follow_73 (lv_at hl 2 rfl) ?_
      refine z_icmp_gt hx hb d_cTree_follow_75 rfl hf (fun hf => ?_) (fun hf => ?_)
      · refine lv_aload_n hx hb d_cTree_follow_160 rfl (lv_at hl 0 rfl) ?_
        refine zg_Tr_found M hW (M.2.2.1 _ w_219) d_cTree_follow_161 ?_
        obtain ⟨o6, g1, hf⟩ := ze1 hf
        have g1 := Option.some.inj g1
        rw [g1]
        cases hf
        subst hQ
        exact z_retq hx hb hr hlocks hB hK hW hS d_cTree_follow_164
      · refine lv_iload hx hb d_cTree_follow_78 (lv_at hl 6 rfl) ?_
        refine lv_iload hx hb d_cTree_follow_80 (lv_at hl 2 rfl) ?_
        obtain ⟨x12, x13, x14, u15, g2, hf⟩ := ze4 hf
        have J2 : ∀ (H : Heap) (locs : List Loc) (ls : Array Slot), lv_has ls 11 [(0, .ref (ad (0, 3))), (3, .ref (ad (2, 1))), (5, .int (zI v5)), (6, .long x12), (8, .int (zI x13)), (9, .int (zI x14)), (10, .int (zI v10))] → ZW D B y ad q u15 r H → va_S (fun x => B ≤ x) s.heap H locs → W p l e R s m args below meth c H locs 0 0 Q (F0 m 154 ls []) := by
          intro H locs ls hl hW hS
          refine lv_iinc (k := 6) (v := zI (v10 + 1)) (lv' := [(10, .int (zI (v10 + 1))), (0, .ref (ad (0, 3))), (3, .ref (ad (2, 1))), (5, .int (zI v5)), (6, .long x12), (8, .int (zI x13)), (9, .int (zI x14))]) hx hb d_cTree_follow_154 hl rfl (zI_add _ _) (by decide) rfl (fun ls hl => ?_)
          refine lv_goto hx hb d_cTree_follow_157 rfl ?_
          exact ih _ _ _ _ _ _ _ _ _ hf (lv_sub hl [1, 2, 3, 4, 5, 6, 0] rfl) hW hS
        obtain ⟨b7, g3, g2⟩ := ze1 g2
        have JT3 : b7 = true → ∀ (H : Heap) (locs : List Loc), ZW D B y ad q u r H → va_S (fun x => B ≤ x) s.heap H locs → W p l e R s m args below meth c H locs 0 0 Q (F0 m 135 ls []) := by
          intro hv H locs hW hS
          have g2 := zp (hv) g2
          refine lv_aload_n hx hb d_cTree_follow_135 rfl (lv_at hl 0 rfl) ?_
          refine lv_lload hx hb d_cTree_follow_136 (lv_at hl 3 rfl) ?_
          refine lv_iload hx hb d_cTree_follow_138 (lv_at hl 4 rfl) ?_
          refine lv_iload hx hb d_cTree_follow_140 (lv_at hl 5 rfl) ?_
          obtain ⟨u8, g4, g2⟩ := ze1 g2
          refine z_callVv (As := [.long v6, .int (zI v8), .int (zI v9)]) (rest := []) (k_cTree_followPiece F _ _ _ _ g4) M hml (cw_cTree_followPiece M.2.2.1 (M.2.2.1 _ w_518) (by rw [hR]; exact Nat.le_of_ble_eq_true rfl) (by rw [hR]; exact Nat.le_of_ble_eq_true rfl)) (zv_Tr hK hW) hB hW hS rfl hl.1 rfl (Nat.le_of_ble_eq_true rfl) d_cTree_follow_142 (by rw [hR]; exact ⟨Nat.zero_le _, Nat.zero_le _⟩) (fun H locs hW hS => ?_)
          refine lv_lconst (v := 0) hx hb d_cTree_follow_145 rfl ?_
          refine lv_lstore (lv' := [(6, .long (0 : Int64)), (0, .ref (ad (0, 3))), (3, .ref (ad (2, 1))), (5, .int (zI v5)), (8, .int (zI v8)), (9, .int (zI v9)), (10, .int (zI v10))]) hx hb d_cTree_follow_146 hl (by decide) rfl (fun ls hl => ?_)
          refine z_iconst hx hb d_cTree_follow_148 ?_
          refine lv_istore (lv' := [(8, .int (zI 0)), (6, .long (0 : Int64)), (0, .ref (ad (0, 3))), (3, .ref (ad (2, 1))), (5, .int (zI v5)), (9, .int (zI v9)), (10, .int (zI v10))]) hx hb d_cTree_follow_149 hl (by decide) rfl (fun ls hl => ?_)
          refine z_iconst hx hb d_cTree_follow_151 ?_
          refine lv_istore (lv' := [(9, .int (zI 1)), (8, .int (zI 0)), (6, .long (0 : Int64)), (0, .ref (ad (0, 3))), (3, .ref (ad (2, 1))), (5, .int (zI v5)), (10, .int (zI v10))]) hx hb d_cTree_follow_152 hl (by decide) rfl (fun ls hl => ?_)
          cases g2
          exact J2 _ _ _ (lv_sub hl [3, 4, 5, 2, 1, 0, 6] rfl) hW hS
        have JF3 : b7 = false → ∀ (H : Heap) (locs : List Loc), ZW D B y ad q u r H → va_S (fun x => B ≤ x) s.heap H locs → W p l e R s m args below meth c H locs 0 0 Q (F0 m 94 ls []) := by
          intro hv H locs hW hS
          have g2 := zn (by rw [hv]; decide) g2
          refine lv_lload hx hb d_cTree_follow_94 (lv_at hl 3 rfl) ?_
          refine z_bipush hx hb d_cTree_follow_96 rfl ?_
          refine z_lshl hx hb d_cTree_follow_98 ?_
          refine lv_aload_n hx hb d_cTree_follow_99 rfl (lv_at hl 1 rfl) ?_
          refine lv_iload hx hb d_cTree_follow_100 (lv_at hl 6 rfl) ?_
          obtain ⟨g5, g2⟩ := zg g2
          refine za_let M hW (zid_C (Or.inl (by decide))) g5 d_cTree_follow_102 ?_
          refine z_i2l hx hb d_cTree_follow_103 ?_
          refine lv_lor hx hb d_cTree_follow_104 ?_
          refine lv_lstore (lv' := [(6, .long ((zlshl v6 8) ||| (zi2l (cA u 0 1 v10.toNat)))), (0, .ref (ad (0, 3))), (3, .ref (ad (2, 1))), (5, .int (zI v5)), (8, .int (zI v8)), (9, .int (zI v9)), (10, .int (zI v10))]) hx hb d_cTree_follow_105 hl (by decide) rfl (fun ls hl => ?_)
          refine lv_iinc (k := 4) (v := zI (v8 + 1)) (lv' := [(8, .int (zI (v8 + 1))), (6, .long ((zlshl v6 8) ||| (zi2l (cA u 0 1 v10.toNat)))), (0, .ref (ad (0, 3))), (3, .ref (ad (2, 1))), (5, .int (zI v5)), (9, .int (zI v9)), (10, .int (zI v10))]) hx hb d_cTree_follow_107 hl rfl (zI_add _ _) (by decide) rfl (fun ls hl => ?_)
          refine lv_iload hx hb d_cTree_follow_110 (lv_at hl 5 rfl) ?_
          obtain ⟨x11, g6, g2⟩ := ze1 g2
          have J6 : ∀ (H : Heap) (locs : List Loc) (ls : Array Slot), lv_has ls 11 [(0, .ref (ad (0, 3))), (3, .ref (ad (2, 1))), (5, .int (zI v5)), (6, .long ((zlshl v6 8) ||| (zi2l (cA u 0 1 v10.toNat)))), (8, .int (zI (v8 + 1))), (10, .int (zI v10))] → ZW D B y ad q u r H → va_S (fun x => B ≤ x) s.heap H locs → W p l e R s m args below meth c H locs 0 0 Q (F0 m 130 ls [.int (zI x11)]) := by
            intro H locs ls hl hW hS
            refine lv_istore (lv' := [(9, .int (zI x11)), (0, .ref (ad (0, 3))), (3, .ref (ad (2, 1))), (5, .int (zI v5)), (6, .long ((zlshl v6 8) ||| (zi2l (cA u 0 1 v10.toNat)))), (8, .int (zI (v8 + 1))), (10, .int (zI v10))]) hx hb d_cTree_follow_130 hl (by decide) rfl (fun ls hl => ?_)
            refine lv_goto hx hb d_cTree_follow_132 rfl ?_
            cases g2
            exact J2 _ _ _ (lv_sub hl [1, 2, 3, 4, 5, 0, 6] rfl) hW hS
          obtain ⟨b10, g7, g6⟩ := ze1 g6
          have JT7 : b10 = true → ∀ (H : Heap) (locs : List Loc), ZW D B y ad q u r H → va_S (fun x => B ≤ x) s.heap H locs → W p l e R s m args below meth c H locs 0 0 Q (F0 m 129 ls []) := by
            intro hv H locs hW hS
            have g6 := zp (hv) g6
            refine z_iconst hx hb d_cTree_follow_129 ?_
            cases g6
            exact J6 _ _ _ (lv_sub hl [2, 3, 4, 1, 0, 6] rfl) hW hS
          have JF7 : b10 = false → ∀ (H : Heap) (locs : List Loc), ZW D B y ad q u r H → va_S (fun x => B ≤ x) s.heap H locs → W p l e R s m args below meth c H locs 0 0 Q (F0 m 125 ls []) := by
            intro hv H locs hW hS
            have g6 := zn (by rw [hv]; decide) g6
            refine z_iconst hx hb d_cTree_follow_125 ?_
            refine lv_goto hx hb d_cTree_follow_126 rfl ?_
            cases g6
            exact J6 _ _ _ (lv_sub hl [2, 3, 4, 1, 0, 6] rfl) hW hS
          refine z_if_eq hx hb d_cTree_follow_112 rfl g7 (fun g7 => ?_) (fun g7 => ?_)
          · exact JT7 (Option.some.inj g7).symm _ _ hW hS
          · refine lv_aload_n hx hb d_cTree_follow_115 rfl (lv_at hl 3 rfl) ?_
            refine lv_iload hx hb d_cTree_follow_116 (lv_at hl 6 rfl) ?_
            refine za_let M hW (zid_C (Or.inl (by decide))) g5 d_cTree_follow_118 ?_
            obtain ⟨p9, g8, g7⟩ := ze1 g7
            refine z_callSi (As := [.int (zI (cA u 0 1 v10.toNat))]) (rest := []) (k_cTree_isNameLetter F _ _ g8) M hml (cw_cTree_isNameLetter M.2.2.1 (M.2.2.1 _ w_515) (by rw [hR]; exact Nat.le_of_ble_eq_true rfl) (by rw [hR]; exact Nat.le_of_ble_eq_true rfl)) hB hW hS rfl hl.1 rfl (Nat.le_of_ble_eq_true rfl) d_cTree_follow_119 (by rw [hR]; exact ⟨Nat.zero_le _, Nat.zero_le _⟩) (fun H locs hW hS => ?_)
            refine z_if_eq hx hb d_cTree_follow_122 rfl g7 (fun g7 => ?_) (fun g7 => ?_)
            · exact JT7 (Option.some.inj g7).symm _ _ hW hS
            · exact JF7 (Option.some.inj g7).symm _ _ hW hS
        refine z_icmp_ge hx hb d_cTree_follow_82 rfl g3 (fun g3 => ?_) (fun g3 => ?_)
        · exact JT3 (Option.some.inj g3).symm _ _ hW hS
        · refine lv_aload_n hx hb d_cTree_follow_85 rfl (lv_at hl 1 rfl) ?_
          refine lv_iload hx hb d_cTree_follow_86 (lv_at hl 6 rfl) ?_
          obtain ⟨g9, g3⟩ := zg g3
          refine za_let M hW (zid_C (Or.inl (by decide))) g9 d_cTree_follow_88 ?_
          refine z_bipush hx hb d_cTree_follow_89 rfl ?_
          refine z_icmp_eq hx hb d_cTree_follow_91 rfl g3 (fun g3 => ?_) (fun g3 => ?_)
          · exact JT3 (Option.some.inj g3).symm _ _ hW hS
          · exact JF3 (Option.some.inj g3).symm _ _ hW hS
  rw [cTree_follow] at hf
  refine lv_aload_n hx hb d_cTree_follow_0 rfl (lv_at hl 1 rfl) ?_
  refine zg_Wo_joined M hW (M.2.2.1 _ w_263) d_cTree_follow_1 ?_
  refine zg_Tx_letters M hW (zid_T (Or.inl (by decide))) (M.2.2.1 _ w_100) d_cTree_follow_4 ?_
  refine lv_astore_n (lv' := [(3, .ref (ad (2, 1))), (0, .ref (ad (0, 3))), (1, .ref (ad (0, 5))), (2, .int (zI v2))]) hx hb d_cTree_follow_7 rfl hl (by decide) rfl (fun ls hl => ?_)
  refine lv_aload_n hx hb d_cTree_follow_8 rfl (lv_at hl 2 rfl) ?_
  refine lv_iload_n hx hb d_cTree_follow_9 rfl (lv_at hl 3 rfl) ?_
  obtain ⟨p1, g10, hf⟩ := ze1 hf
  refine z_callVi (As := [.int (zI v2)]) (rest := []) (k_cWords_startOf F _ _ g10) M hml (cw_cWords_startOf M.2.2.1 (M.2.2.1 _ w_507) (by rw [hR]; exact Nat.le_of_ble_eq_true rfl) (by rw [hR]; exact Nat.le_of_ble_eq_true rfl)) (zv_Wo hK hW) hB hW hS rfl hl.1 rfl (Nat.le_of_ble_eq_true rfl) d_cTree_follow_10 (by rw [hR]; exact ⟨Nat.zero_le _, Nat.zero_le _⟩) (fun H locs hW hS => ?_)
  refine lv_istore (lv' := [(4, .int (zI p1)), (3, .ref (ad (2, 1))), (0, .ref (ad (0, 3))), (1, .ref (ad (0, 5))), (2, .int (zI v2))]) hx hb d_cTree_follow_13 hl (by decide) rfl (fun ls hl => ?_)
  refine lv_aload_n hx hb d_cTree_follow_15 rfl (lv_at hl 3 rfl) ?_
  refine lv_iload_n hx hb d_cTree_follow_16 rfl (lv_at hl 4 rfl) ?_
  obtain ⟨p2, g11, hf⟩ := ze1 hf
  refine z_callVi (As := [.int (zI v2)]) (rest := []) (k_cWords_endOf F _ _ g11) M hml (cw_cWords_endOf M.2.2.1 (M.2.2.1 _ w_511) (by rw [hR]; exact Nat.le_of_ble_eq_true rfl) (by rw [hR]; exact Nat.le_of_ble_eq_true rfl)) (zv_Wo hK hW) hB hW hS rfl hl.1 rfl (Nat.le_of_ble_eq_true rfl) d_cTree_follow_17 (by rw [hR]; exact ⟨Nat.zero_le _, Nat.zero_le _⟩) (fun H locs hW hS => ?_)
  refine lv_istore (lv' := [(5, .int (zI p2)), (4, .int (zI p1)), (3, .ref (ad (2, 1))), (0, .ref (ad (0, 3))), (1, .ref (ad (0, 5))), (2, .int (zI v2))]) hx hb d_cTree_follow_20 hl (by decide) rfl (fun ls hl => ?_)
  refine lv_aload_n hx hb d_cTree_follow_22 rfl (lv_at hl 3 rfl) ?_
  refine lv_iload hx hb d_cTree_follow_23 (lv_at hl 1 rfl) ?_
  refine lv_iload hx hb d_cTree_follow_25 (lv_at hl 0 rfl) ?_
  obtain ⟨x5, g12, hf⟩ := ze1 hf
  have J12 : ∀ (H : Heap) (locs : List Loc) (ls : Array Slot), lv_has ls 11 [(0, .ref (ad (0, 3))), (3, .ref (ad (2, 1))), (4, .int (zI p1)), (5, .int (zI p2))] → ZW D B y ad q u r H → va_S (fun x => B ≤ x) s.heap H locs → W p l e R s m args below meth c H locs 0 0 Q (F0 m 50 ls [zrf ad 3 x5, .ref (ad (0, 3))]) := by
    intro H locs ls hl hW hS
    refine zp_Tr_found (v := x5) M hW hS (M.2.2.1 _ w_219) d_cTree_follow_50 (fun H locs hW hS => ?_)
    refine lv_aload_n hx hb d_cTree_follow_53 rfl (lv_at hl 0 rfl) ?_
    refine lv_null hx hb d_cTree_follow_54 ?_
    refine zp_Tr_vacantIn (v := none) M hW hS (M.2.2.1 _ w_221) d_cTree_follow_55 (fun H locs hW hS => ?_)
    refine lv_lconst (v := 0) hx hb d_cTree_follow_58 rfl ?_
    refine lv_lstore (lv' := [(6, .long (0 : Int64)), (0, .ref (ad (0, 3))), (3, .ref (ad (2, 1))), (4, .int (zI p1)), (5, .int (zI p2))]) hx hb d_cTree_follow_59 hl (by decide) rfl (fun ls hl => ?_)
    refine z_iconst hx hb d_cTree_follow_61 ?_
    refine lv_istore (lv' := [(8, .int (zI 0)), (6, .long (0 : Int64)), (0, .ref (ad (0, 3))), (3, .ref (ad (2, 1))), (4, .int (zI p1)), (5, .int (zI p2))]) hx hb d_cTree_follow_62 hl (by decide) rfl (fun ls hl => ?_)
    refine z_iconst hx hb d_cTree_follow_64 ?_
    refine lv_istore (lv' := [(9, .int (zI 1)), (8, .int (zI 0)), (6, .long (0 : Int64)), (0, .ref (ad (0, 3))), (3, .ref (ad (2, 1))), (4, .int (zI p1)), (5, .int (zI p2))]) hx hb d_cTree_follow_65 hl (by decide) rfl (fun ls hl => ?_)
    refine lv_iload hx hb d_cTree_follow_67 (lv_at hl 5 rfl) ?_
    refine lv_istore (lv' := [(10, .int (zI p1)), (9, .int (zI 1)), (8, .int (zI 0)), (6, .long (0 : Int64)), (0, .ref (ad (0, 3))), (3, .ref (ad (2, 1))), (4, .int (zI p1)), (5, .int (zI p2))]) hx hb d_cTree_follow_69 hl (by decide) rfl (fun ls hl => ?_)
    exact C_71 F _ _ _ _ _ _ _ _ _ hf (lv_sub hl [4, 5, 7, 3, 2, 1, 0] rfl) hW hS
  obtain ⟨b3, g13, g12⟩ := ze1 g12
  have JT13 : b3 = true → ∀ (H : Heap) (locs : List Loc), ZW D B y ad q u r H → va_S (fun x => B ≤ x) s.heap H locs → W p l e R s m args below meth c H locs 0 0 Q (F0 m 46 ls [.ref (ad (0, 3))]) := by
    intro hv H locs hW hS
    have g12 := zp (hv) g12
    refine lv_aload_n hx hb d_cTree_follow_46 rfl (lv_at hl 3 rfl) ?_
    refine zg_Tr_here M hW (M.2.2.1 _ w_210) d_cTree_follow_47 ?_
    obtain ⟨o4, g14, g12⟩ := ze1 g12
    have g14 := Option.some.inj g14
    rw [g14]
    cases g12
    exact J12 _ _ _ (lv_sub hl [3, 2, 1, 0] rfl) hW hS
  have JF13 : b3 = false → ∀ (H : Heap) (locs : List Loc), ZW D B y ad q u r H → va_S (fun x => B ≤ x) s.heap H locs → W p l e R s m args below meth c H locs 0 0 Q (F0 m 39 ls [.ref (ad (0, 3))]) := by
    intro hv H locs hW hS
    have g12 := zn (by rw [hv]; decide) g12
    refine lv_aload_n hx hb d_cTree_follow_39 rfl (lv_at hl 3 rfl) ?_
    refine zg_Tr_root M hW (M.2.2.1 _ w_207) d_cTree_follow_40 ?_
    refine lv_goto hx hb d_cTree_follow_43 rfl ?_
    cases g12
    exact J12 _ _ _ (lv_sub hl [3, 2, 1, 0] rfl) hW hS
  refine z_icmp_ge hx hb d_cTree_follow_27 rfl g13 (fun g13 => ?_) (fun g13 => ?_)
  · exact JT13 (Option.some.inj g13).symm _ _ hW hS
  · refine lv_aload_n hx hb d_cTree_follow_30 rfl (lv_at hl 2 rfl) ?_
    refine lv_iload hx hb d_cTree_follow_31 (lv_at hl 1 rfl) ?_
    obtain ⟨g15, g13⟩ := zg g13
    refine za_let M hW (zid_C (Or.inl (by decide))) g15 d_cTree_follow_33 ?_
    refine z_bipush hx hb d_cTree_follow_34 rfl ?_
    refine z_icmp_ne hx hb d_cTree_follow_36 rfl g13 (fun g13 => ?_) (fun g13 => ?_)
    · exact JT13 (Option.some.inj g13).symm _ _ hW hS
    · exact JF13 (Option.some.inj g13).symm _ _ hW hS
set_option maxRecDepth 100000 in
set_option maxHeartbeats 4000000 in
theorem k_cTree_empty {l : Launch} {D : va_G} {B : Nat} {y : Nat → ClassId} {ad : Nat × Nat → Nat} {q : Bool} {r : ZR} (F : Nat) (u : ZC) (v1 : Nat) {uo : ZC} (hf : cTree_empty F u v1 = some uo) : Met l y_cTree_empty (.code y_cTree_empty b_cTree_empty 2 none :: zt) { frames := 1, cells := 0, slots := 0, locals := 20 } (va_Pc [.ref (ad (0, 3)), .ref (ad (1, v1))] (fun U => ZP D B y ad q u r U)) (va_Qv (fun (_ : Unit) => True) (fun _ t => ZP D B y ad q uo r t) (fun x => B ≤ x)) 0 0 (fun x => B ≤ x) := by
  refine Met.ofW (cc := b_cTree_empty) (maxL := 2) (ret := none) (by decide) rfl ?_
  intro p e s m args below meth c s₁ Bd hml hv
  obtain ⟨hargs, hB, hW, hK⟩ := hv
  have hx := Bd.exec
  have hb := Bd.bytes
  have hr := Bd.returns
  have hts0 := atoms_spec (ws := .code y_cTree_empty b_cTree_empty 2 none :: zt) Bd.pre
  have hown : s.vm.findClass "TreeShell$Tree" = some m.cls := findClass_of_methodNamed Bd.named
  have hlocks := Bd.notSynchronized
  have M : ZM p c b_cTree_empty s args m "TreeShell$Tree" D y := ⟨hx, hb, fun w h => hts0 w (List.mem_cons_of_mem _ h), hown, hK⟩
  have hS : va_S (fun x => B ≤ x) s.heap s.heap [] := va_S.rf
  have hE := lg_entry_eq m ([.ref (ad (0, 3)), .ref (ad (1, v1))] : List Value) 2
  rw [← hargs] at hE
  rw [hE]
  have hl := lv_entry ([.ref (ad (0, 3)), .ref (ad (1, v1))] : List Value) (n := 2) (Nat.le_of_ble_eq_true rfl)
  generalize (lg_sl ([.ref (ad (0, 3)), .ref (ad (1, v1))] : List Value) ++ List.replicate (2 - (lg_sl ([.ref (ad (0, 3)), .ref (ad (1, v1))] : List Value)).length) Slot.unset).toArray = ls at hl ⊢
  have hl : lv_has ls 2 [(0, .ref (ad (0, 3))), (1, .ref (ad (1, v1)))] := hl
  refine z_start (fun Q R hQ hR => ?_)
  generalize hH : s.heap = H at hW
  have hS : va_S (fun x => B ≤ x) s.heap H [] := by rw [← hH]; exact hS
  rw [cTree_empty] at hf
  refine lv_aload_n hx hb d_cTree_empty_0 rfl (lv_at hl 0 rfl) ?_
  refine lv_dup hx hb d_cTree_empty_1 rfl ?_
  refine zg_Tr_total M hW (M.2.2.1 _ w_217) d_cTree_empty_2 ?_
  refine lv_aload_n hx hb d_cTree_empty_5 rfl (lv_at hl 1 rfl) ?_
  obtain ⟨g1, hf⟩ := zg hf
  refine zg_Tx_size M hW (zid_T g1) (M.2.2.1 _ w_110) d_cTree_empty_6 ?_
  refine z_isub hx hb d_cTree_empty_9 ?_
  refine zp_Tr_total M hW hS (M.2.2.1 _ w_217) d_cTree_empty_10 (fun H locs hW hS => ?_)
  refine lv_aload_n hx hb d_cTree_empty_13 rfl (lv_at hl 1 rfl) ?_
  obtain ⟨u1, g2, hf⟩ := ze1 hf
  refine z_callVv (As := []) (rest := []) (k_cText_clear F _ _ g2) M hml (cw_cText_clear M.2.2.1 (M.2.2.1 _ w_553) (by rw [hR]; exact Nat.le_of_ble_eq_true rfl) (by rw [hR]; exact Nat.le_of_ble_eq_true rfl)) (zv_Tx hK hW (zid_T g1)) hB hW hS rfl hl.1 rfl (Nat.le_of_ble_eq_true rfl) d_cTree_empty_14 (by rw [hR]; exact ⟨Nat.zero_le _, Nat.zero_le _⟩) (fun H locs hW hS => ?_)
  cases hf
  subst hQ
  exact z_retv hx hb hr hlocks hB hK hW hS d_cTree_empty_17
set_option maxRecDepth 100000 in
set_option maxHeartbeats 4000000 in
theorem k_cTree_nextIn {l : Launch} {D : va_G} {B : Nat} {y : Nat → ClassId} {ad : Nat × Nat → Nat} {q : Bool} {r : ZR} (F : Nat) (u : ZC) (v1 : Nat) (v2 : Int64) {res : Option Nat} (hf : cTree_nextIn F u v1 v2 = some res) : Met l y_cTree_nextIn (.code y_cTree_nextIn b_cTree_nextIn 6 (some (.object "TreeShell$Node")) :: zt) { frames := 0, cells := 0, slots := 0, locals := 0 } (va_Pc [.ref (ad (0, 3)), .ref (ad (3, v1)), .long v2] (fun U => ZP D B y ad q u r U)) (va_Qq (fun v (_ : Unit) => v = res.map fun n => ad (3, n)) (fun _ t => ZP D B y ad q u r t) (fun x => B ≤ x)) 0 0 (fun x => B ≤ x) := by
  refine Met.ofW (cc := b_cTree_nextIn) (maxL := 6) (ret := (some (.object "TreeShell$Node"))) (by decide) rfl ?_
  intro p e s m args below meth c s₁ Bd hml hv
  obtain ⟨hargs, hB, hW, hK⟩ := hv
  have hx := Bd.exec
  have hb := Bd.bytes
  have hr := Bd.returns
  have hts0 := atoms_spec (ws := .code y_cTree_nextIn b_cTree_nextIn 6 (some (.object "TreeShell$Node")) :: zt) Bd.pre
  have hown : s.vm.findClass "TreeShell$Tree" = some m.cls := findClass_of_methodNamed Bd.named
  have hlocks := Bd.notSynchronized
  have M : ZM p c b_cTree_nextIn s args m "TreeShell$Tree" D y := ⟨hx, hb, fun w h => hts0 w (List.mem_cons_of_mem _ h), hown, hK⟩
  have hS : va_S (fun x => B ≤ x) s.heap s.heap [] := va_S.rf
  have hE := lg_entry_eq m ([.ref (ad (0, 3)), .ref (ad (3, v1)), .long v2] : List Value) 6
  rw [← hargs] at hE
  rw [hE]
  have hl := lv_entry ([.ref (ad (0, 3)), .ref (ad (3, v1)), .long v2] : List Value) (n := 6) (Nat.le_of_ble_eq_true rfl)
  generalize (lg_sl ([.ref (ad (0, 3)), .ref (ad (3, v1)), .long v2] : List Value) ++ List.replicate (6 - (lg_sl ([.ref (ad (0, 3)), .ref (ad (3, v1)), .long v2] : List Value)).length) Slot.unset).toArray = ls at hl ⊢
  have hl : lv_has ls 6 [(0, .ref (ad (0, 3))), (1, .ref (ad (3, v1))), (2, .long v2)] := hl
  refine z_start (fun Q R hQ hR => ?_)
  generalize hH : s.heap = H at hW
  have hS : va_S (fun x => B ≤ x) s.heap H [] := by rw [← hH]; exact hS
  have C_9 : ∀ (n : Nat), ∀ (v1 : Nat) (v2 : Int64) (v4 : Option Nat) (v5 : Option Nat) (H : Heap) (locs : List Loc) (ls : Array Slot), cTree_nextIn_9 F n u v1 v2 v4 v5 = some res → lv_has ls 6 [(1, .ref (ad (3, v1))), (2, .long v2), (4, zrf ad 3 v4), (5, zrf ad 3 v5)] → ZW D B y ad q u r H → va_S (fun x => B ≤ x) s.heap H locs → W p l e R s m args below meth c H locs 0 0 Q (F0 m 9 ls []) := by
    intro n
    induction n with
    | zero => intro v1 v2 v4 v5 H locs ls hf; cases (show (none : Option (Option Nat)) = some res from hf)
    | succ n ih =>
      intro v1 v2 v4 v5 H locs ls hf hl hW hS
      rw [cTree_nextIn_9] at hf
      refine z_aload hx hb d_cTree_nextIn_9 (lv_at hl 3 rfl) ?_
      refine z_ifnull hx hb d_cTree_nextIn_11 rfl hf (fun hyg1 hn => ?_) (fun n2 hn hyg1 => ?_)
      · subst hn
        have hf := hyg1
        have hl : lv_has ls 6 [(1, .ref (ad (3, v1))), (2, .long v2), (4, zrf ad 3 v4), (5, .null)] := hl
        refine z_aload hx hb d_cTree_nextIn_66 (lv_at hl 2 rfl) ?_
        cases hf
        subst hQ
        exact z_retq hx hb hr hlocks hB hK hW hS d_cTree_nextIn_68
      · subst hn
        have hf := hyg1
        have hl : lv_has ls 6 [(1, .ref (ad (3, v1))), (2, .long v2), (4, zrf ad 3 v4), (5, .ref (ad (3, n2)))] := hl
        refine lv_aload hx hb d_cTree_nextIn_14 (lv_at hl 3 rfl) ?_
        obtain ⟨g2, hf⟩ := zg hf
        refine zg_No_parent M hW (zid_N g2) (M.2.2.1 _ w_184) d_cTree_nextIn_16 ?_
        obtain ⟨o3, g3, hf⟩ := ze1 hf
        have g3 := Option.some.inj g3
        rw [g3]
        refine lv_aload_n hx hb d_cTree_nextIn_19 rfl (lv_at hl 0 rfl) ?_
        obtain ⟨x6, g4, hf⟩ := ze1 hf
        have J4 : ∀ (H : Heap) (locs : List Loc) (ls : Array Slot), lv_has ls 6 [(1, .ref (ad (3, v1))), (2, .long v2), (4, zrf ad 3 x6), (5, .ref (ad (3, n2)))] → ZW D B y ad q u r H → va_S (fun x => B ≤ x) s.heap H locs → W p l e R s m args below meth c H locs 0 0 Q (F0 m 56 ls []) := by
          intro H locs ls hl hW hS
          refine lv_aload hx hb d_cTree_nextIn_56 (lv_at hl 3 rfl) ?_
          refine zg_No_older M hW (zid_N g2) (M.2.2.1 _ w_194) d_cTree_nextIn_58 ?_
          obtain ⟨o7, g5, hf⟩ := ze1 hf
          have g5 := Option.some.inj g5
          rw [g5]
          refine z_astore (lv2 := [(5, zrf ad 3 o7), (1, .ref (ad (3, v1))), (2, .long v2), (4, zrf ad 3 x6)]) hx hb d_cTree_nextIn_61 hl (by decide) (by simp only [List.filter, zrf_cat] <;> rfl) (fun ls hl => ?_)
          refine lv_goto hx hb d_cTree_nextIn_63 rfl ?_
          exact ih _ _ _ _ _ _ _ hf (lv_sub hl [1, 2, 3, 0] rfl) hW hS
        obtain ⟨b5, g6, g4⟩ := ze1 g4
        have JT6 : b5 = true → ∀ (H : Heap) (locs : List Loc), ZW D B y ad q u r H → va_S (fun x => B ≤ x) s.heap H locs → W p l e R s m args below meth c H locs 0 0 Q (F0 m 56 ls []) := by
          intro hv H locs hW hS
          have g4 := zp (hv) g4
          cases g4
          exact J4 _ _ _ (lv_sub hl [0, 1, 2, 3] rfl) hW hS
        have JF6 : b5 = false → ∀ (H : Heap) (locs : List Loc), ZW D B y ad q u r H → va_S (fun x => B ≤ x) s.heap H locs → W p l e R s m args below meth c H locs 0 0 Q (F0 m 52 ls []) := by
          intro hv H locs hW hS
          have g4 := zn (by rw [hv]; decide) g4
          refine lv_aload hx hb d_cTree_nextIn_52 (lv_at hl 3 rfl) ?_
          refine lv_astore (lv' := [(4, .ref (ad (3, n2))), (1, .ref (ad (3, v1))), (2, .long v2), (5, .ref (ad (3, n2)))]) hx hb d_cTree_nextIn_54 hl (by decide) rfl (fun ls hl => ?_)
          cases g4
          exact J4 _ _ _ (lv_sub hl [1, 2, 0, 3] rfl) hW hS
        obtain ⟨g7, g6⟩ := zg g6
        obtain ⟨g8, g6⟩ := zg g6
        refine z_acmp_ne hx hb hW g7 g8 d_cTree_nextIn_20 rfl g6 (fun g6 => ?_) (fun g6 => ?_)
        · exact JT6 (Option.some.inj g6).symm _ _ hW hS
        · refine lv_aload hx hb d_cTree_nextIn_23 (lv_at hl 3 rfl) ?_
          refine zg_No_name M hW (zid_N g2) (M.2.2.1 _ w_187) d_cTree_nextIn_25 ?_
          refine lv_lload_n hx hb d_cTree_nextIn_28 rfl (lv_at hl 1 rfl) ?_
          refine W.lcmp hx hb d_cTree_nextIn_29 ?_
          refine z_lif_le hx hb d_cTree_nextIn_30 rfl g6 (fun g6 => ?_) (fun g6 => ?_)
          · exact JT6 (Option.some.inj g6).symm _ _ hW hS
          · refine z_aload hx hb d_cTree_nextIn_33 (lv_at hl 2 rfl) ?_
            refine z_ifnull hx hb d_cTree_nextIn_35 rfl g6 (fun hyg9 hn => ?_) (fun n4 hn hyg9 => ?_)
            · subst hn
              have g6 := hyg9
              have hl : lv_has ls 6 [(1, .ref (ad (3, v1))), (2, .long v2), (4, .null), (5, .ref (ad (3, n2)))] := hl
              exact JF6 (Option.some.inj g6).symm _ _ hW hS
            · subst hn
              have g6 := hyg9
              have hl : lv_has ls 6 [(1, .ref (ad (3, v1))), (2, .long v2), (4, .ref (ad (3, n4))), (5, .ref (ad (3, n2)))] := hl
              refine lv_aload hx hb d_cTree_nextIn_38 (lv_at hl 3 rfl) ?_
              refine zg_No_name M hW (zid_N g2) (M.2.2.1 _ w_187) d_cTree_nextIn_40 ?_
              refine lv_aload hx hb d_cTree_nextIn_43 (lv_at hl 2 rfl) ?_
              obtain ⟨g10, g6⟩ := zg g6
              refine zg_No_name M hW (zid_N g10) (M.2.2.1 _ w_187) d_cTree_nextIn_45 ?_
              refine W.lcmp hx hb d_cTree_nextIn_48 ?_
              refine z_lif_ge hx hb d_cTree_nextIn_49 rfl g6 (fun g6 => ?_) (fun g6 => ?_)
              · exact JT6 (Option.some.inj g6).symm _ _ hW hS
              · exact JF6 (Option.some.inj g6).symm _ _ hW hS
  rw [cTree_nextIn] at hf
  refine lv_null hx hb d_cTree_nextIn_0 ?_
  refine lv_astoreN (lv' := [(4, .null), (0, .ref (ad (0, 3))), (1, .ref (ad (3, v1))), (2, .long v2)]) hx hb d_cTree_nextIn_1 hl (by decide) rfl (fun ls hl => ?_)
  refine lv_aload_n hx hb d_cTree_nextIn_3 rfl (lv_at hl 1 rfl) ?_
  refine zg_Tr_newest M hW (M.2.2.1 _ w_209) d_cTree_nextIn_4 ?_
  obtain ⟨o1, g11, hf⟩ := ze1 hf
  have g11 := Option.some.inj g11
  rw [g11]
  refine z_astore (lv2 := [(5, zrf ad 3 o1), (4, .null), (0, .ref (ad (0, 3))), (1, .ref (ad (3, v1))), (2, .long v2)]) hx hb d_cTree_nextIn_7 hl (by decide) rfl (fun ls hl => ?_)
  exact C_9 F _ _ _ _ _ _ _ hf (lv_sub hl [3, 4, 1, 0] rfl) hW hS
set_option maxRecDepth 100000 in
set_option maxHeartbeats 4000000 in
theorem k_cTree_append {l : Launch} {D : va_G} {B : Nat} {y : Nat → ClassId} {ad : Nat × Nat → Nat} {q : Bool} {r : ZR} (F : Nat) (u : ZC) (v1 : Nat) (v2 : Nat) {res : Int} {uo : ZC} (hf : cTree_append F u v1 v2 = some (res, uo)) : Met l y_cTree_append (.code y_cTree_append b_cTree_append 3 (some .boolean) :: zt) { frames := 7, cells := 0, slots := 0, locals := 190 } (va_Pc [.ref (ad (0, 3)), .ref (ad (1, v1)), .ref (ad (1, v2))] (fun U => ZP D B y ad q u r U)) (va_Qi (fun v (_ : Unit) => v = zI res) (fun _ t => ZP D B y ad q uo r t) (fun x => B ≤ x)) 0 0 (fun x => B ≤ x) := by
  refine Met.ofW (cc := b_cTree_append) (maxL := 3) (ret := (some .boolean)) (by decide) rfl ?_
  intro p e s m args below meth c s₁ Bd hml hv
  obtain ⟨hargs, hB, hW, hK⟩ := hv
  have hx := Bd.exec
  have hb := Bd.bytes
  have hr := Bd.returns
  have hts0 := atoms_spec (ws := .code y_cTree_append b_cTree_append 3 (some .boolean) :: zt) Bd.pre
  have hown : s.vm.findClass "TreeShell$Tree" = some m.cls := findClass_of_methodNamed Bd.named
  have hlocks := Bd.notSynchronized
  have M : ZM p c b_cTree_append s args m "TreeShell$Tree" D y := ⟨hx, hb, fun w h => hts0 w (List.mem_cons_of_mem _ h), hown, hK⟩
  have hS : va_S (fun x => B ≤ x) s.heap s.heap [] := va_S.rf
  have hE := lg_entry_eq m ([.ref (ad (0, 3)), .ref (ad (1, v1)), .ref (ad (1, v2))] : List Value) 3
  rw [← hargs] at hE
  rw [hE]
  have hl := lv_entry ([.ref (ad (0, 3)), .ref (ad (1, v1)), .ref (ad (1, v2))] : List Value) (n := 3) (Nat.le_of_ble_eq_true rfl)
  generalize (lg_sl ([.ref (ad (0, 3)), .ref (ad (1, v1)), .ref (ad (1, v2))] : List Value) ++ List.replicate (3 - (lg_sl ([.ref (ad (0, 3)), .ref (ad (1, v1)), .ref (ad (1, v2))] : List Value)).length) Slot.unset).toArray = ls at hl ⊢
  have hl : lv_has ls 3 [(0, .ref (ad (0, 3))), (1, .ref (ad (1, v1))), (2, .ref (ad (1, v2)))] := hl
  refine z_start (fun Q R hQ hR => ?_)
  generalize hH : s.heap = H at hW
  have hS : va_S (fun x => B ≤ x) s.heap H [] := by rw [← hH]; exact hS
  rw [cTree_append] at hf
  refine lv_aload_n hx hb d_cTree_append_0 rfl (lv_at hl 2 rfl) ?_
  obtain ⟨g1, hf⟩ := zg hf
  refine zg_Tx_size M hW (zid_T g1) (M.2.2.1 _ w_110) d_cTree_append_1 ?_
  refine lv_aload_n hx hb d_cTree_append_4 rfl (lv_at hl 0 rfl) ?_
  refine zg_Tr_mostChars M hW (M.2.2.1 _ w_205) d_cTree_append_5 ?_
  refine lv_aload_n hx hb d_cTree_append_8 rfl (lv_at hl 0 rfl) ?_
  refine zg_Tr_total M hW (M.2.2.1 _ w_217) d_cTree_append_9 ?_
  refine z_isub hx hb d_cTree_append_12 ?_
  refine z_icmp_gt hx hb d_cTree_append_13 rfl hf (fun hf => ?_) (fun hf => ?_)
  · refine z_iconst hx hb d_cTree_append_24 ?_
    cases hf
    subst hQ
    exact z_retz hx hb (Or.inl rfl) hr hlocks hB hK hW hS d_cTree_append_25
  · refine lv_aload_n hx hb d_cTree_append_16 rfl (lv_at hl 1 rfl) ?_
    refine lv_aload_n hx hb d_cTree_append_17 rfl (lv_at hl 2 rfl) ?_
    obtain ⟨g2, hf⟩ := zg hf
    obtain ⟨p1, u2, g3, hf⟩ := ze2 hf
    refine z_callVi (As := [.ref (ad (1, v2))]) (rest := []) (k_cText_addAll F _ _ _ g3) M hml (cw_cText_addAll M.2.2.1 (M.2.2.1 _ w_689) (by rw [hR]; exact Nat.le_of_ble_eq_true rfl) (by rw [hR]; exact Nat.le_of_ble_eq_true rfl)) (zv_Tx hK hW (zid_T g2)) hB hW hS rfl hl.1 rfl (Nat.le_of_ble_eq_true rfl) d_cTree_append_18 (by rw [hR]; exact ⟨Nat.zero_le _, Nat.zero_le _⟩) (fun H locs hW hS => ?_)
    refine z_if_ne hx hb d_cTree_append_21 rfl hf (fun hf => ?_) (fun hf => ?_)
    · refine lv_aload_n hx hb d_cTree_append_26 rfl (lv_at hl 0 rfl) ?_
      refine lv_dup hx hb d_cTree_append_27 rfl ?_
      refine zg_Tr_total M hW (M.2.2.1 _ w_217) d_cTree_append_28 ?_
      refine lv_aload_n hx hb d_cTree_append_31 rfl (lv_at hl 2 rfl) ?_
      obtain ⟨g4, hf⟩ := zg hf
      refine zg_Tx_size M hW (zid_T g4) (M.2.2.1 _ w_110) d_cTree_append_32 ?_
      refine z_iadd hx hb d_cTree_append_35 ?_
      refine zp_Tr_total M hW hS (M.2.2.1 _ w_217) d_cTree_append_36 (fun H locs hW hS => ?_)
      refine z_iconst hx hb d_cTree_append_39 ?_
      cases hf
      subst hQ
      exact z_retz hx hb (Or.inr rfl) hr hlocks hB hK hW hS d_cTree_append_40
    · refine z_iconst hx hb d_cTree_append_24 ?_
      cases hf
      subst hQ
      exact z_retz hx hb (Or.inl rfl) hr hlocks hB hK hW hS d_cTree_append_25
