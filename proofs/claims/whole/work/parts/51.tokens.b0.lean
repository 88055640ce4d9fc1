set_option maxRecDepth 100000 in
set_option maxHeartbeats 4000000 in
theorem k_cTokens_kindOf {l : Launch} {D : va_G} {B : Nat} {y : Nat → ClassId} {ad : Nat × Nat → Nat} {q : Bool} {r : ZR} (F : Nat) (u : ZC) (v1 : Int) {res : Int} (hf : cTokens_kindOf F u v1 = some res) : Met l y_cTokens_kindOf (.code y_cTokens_kindOf b_cTokens_kindOf 4 (some .int) :: zt) { frames := 0, cells := 0, slots := 0, locals := 0 } (va_Pc [.ref (ad (0, 1)), .int (zI v1)] (fun U => ZP D B y ad q u r U)) (va_Qi (fun v (_ : Unit) => v = zI res) (fun _ t => ZP D B y ad q u r t) (fun x => B ≤ x)) 0 0 (fun x => B ≤ x) := by
  refine Met.ofW (cc := b_cTokens_kindOf) (maxL := 4) (ret := (some .int)) (by decide) rfl ?_
  intro p e s m args below meth c s₁ Bd hml hv
  obtain ⟨hargs, hB, hW, hK⟩ := hv
  have hx := Bd.exec
  have hb := Bd.bytes
  have hr := Bd.returns
  have hts0 := atoms_spec (ws := .code y_cTokens_kindOf b_cTokens_kindOf 4 (some .int) :: zt) Bd.pre
  have hown : s.vm.findClass "TreeShell$Tokens" = some m.cls := findClass_of_methodNamed Bd.named
  have hlocks := Bd.notSynchronized
  have M : ZM p c b_cTokens_kindOf s args m "TreeShell$Tokens" D y := ⟨hx, hb, fun w h => hts0 w (List.mem_cons_of_mem _ h), hown, hK⟩
  have hS : va_S (fun x => B ≤ x) s.heap s.heap [] := va_S.rf
  have hE := lg_entry_eq m ([.ref (ad (0, 1)), .int (zI v1)] : List Value) 4
  rw [← hargs] at hE
  rw [hE]
  have hl := lv_entry ([.ref (ad (0, 1)), .int (zI v1)] : List Value) (n := 4) (Nat.le_of_ble_eq_true rfl)
  generalize (lg_sl ([.ref (ad (0, 1)), .int (zI v1)] : List Value) ++ List.replicate (4 - (lg_sl ([.ref (ad (0, 1)), .int (zI v1)] : List Value)).length) Slot.unset).toArray = ls at hl ⊢
  have hl : lv_has ls 4 [(0, .ref (ad (0, 1))), (1, .int (zI v1))] := hl
  refine z_start (fun Q R hQ hR => ?_)
  generalize hH : s.heap = H at hW
  have hS : va_S (fun x => B ≤ x) s.heap H [] := by rw [← hH]; exact hS
  rw [cTokens_kindOf] at hf
  refine lv_aload_n hx hb d_cTokens_kindOf_0 rfl (lv_at hl 0 rfl) ?_
  refine zg_Tk_line M hW (M.2.2.1 _ w_127) d_cTokens_kindOf_1 ?_
  refine zg_Tx_letters M hW (zid_T (Or.inl (by decide))) (M.2.2.1 _ w_101) d_cTokens_kindOf_4 ?_
  refine lv_iload_n hx hb d_cTokens_kindOf_7 rfl (lv_at hl 1 rfl) ?_
  obtain ⟨g1, hf⟩ := zg hf
  refine za_let M hW (zid_C (Or.inl (by decide))) g1 d_cTokens_kindOf_8 ?_
  refine lv_istore_n (lv' := [(2, .int (zI (cA u 0 0 v1.toNat))), (0, .ref (ad (0, 1))), (1, .int (zI v1))]) hx hb d_cTokens_kindOf_9 rfl hl (by decide) rfl (fun ls hl => ?_)
  refine lv_iload_n hx hb d_cTokens_kindOf_10 rfl (lv_at hl 2 rfl) ?_
  refine z_iconst hx hb d_cTokens_kindOf_11 ?_
  refine z_iadd hx hb d_cTokens_kindOf_12 ?_
  refine lv_aload_n hx hb d_cTokens_kindOf_13 rfl (lv_at hl 1 rfl) ?_
  refine zg_Tk_line M hW (M.2.2.1 _ w_127) d_cTokens_kindOf_14 ?_
  refine zg_Tx_size M hW (zid_T (Or.inl (by decide))) (M.2.2.1 _ w_106) d_cTokens_kindOf_17 ?_
  obtain ⟨x2, g2, hf⟩ := ze1 hf
  have J2 : ∀ (H : Heap) (locs : List Loc) (ls : Array Slot), lv_has ls 4 [(2, .int (zI (cA u 0 0 v1.toNat)))] → ZW D B y ad q u r H → va_S (fun x => B ≤ x) s.heap H locs → W p l e R s m args below meth c H locs 0 0 Q (F0 m 43 ls [.int (zI x2)]) := by
    intro H locs ls hl hW hS
    refine lv_istore_n (lv' := [(3, .int (zI x2)), (2, .int (zI (cA u 0 0 v1.toNat)))]) hx hb d_cTokens_kindOf_43 rfl hl (by decide) rfl (fun ls hl => ?_)
    refine lv_iload_n hx hb d_cTokens_kindOf_44 rfl (lv_at hl 1 rfl) ?_
    by_cases c45_0 : zI (cA u 0 0 v1.toNat) = 33
    · have hf := zp c45_0 hf
      refine lv_lookup hx hb d_cTokens_kindOf_45 (by decide) (by rw [c45_0]) rfl ?_
      refine z_iconst hx hb d_cTokens_kindOf_143 ?_
      cases hf
      subst hQ
      exact z_reti hx hb hr hlocks hB hK hW hS d_cTokens_kindOf_144
    · have hf := zn c45_0 hf
      by_cases c45_1 : zI (cA u 0 0 v1.toNat) = 38
      · have hf := zp c45_1 hf
        refine lv_lookup hx hb d_cTokens_kindOf_45 (by decide) (by rw [c45_1]) rfl ?_
        refine lv_iload_n hx hb d_cTokens_kindOf_122 rfl (lv_at hl 0 rfl) ?_
        obtain ⟨x3, g3, hf⟩ := ze1 hf
        have J3 : ∀ (H : Heap) (locs : List Loc) (ls : Array Slot), lv_has ls 4 [] → ZW D B y ad q u r H → va_S (fun x => B ≤ x) s.heap H locs → W p l e R s m args below meth c H locs 0 0 Q (F0 m 132 ls [.int (zI x3)]) := by
          intro H locs ls hl hW hS
          cases hf
          subst hQ
          exact z_reti hx hb hr hlocks hB hK hW hS d_cTokens_kindOf_132
        refine z_if_eq hx hb d_cTokens_kindOf_123 rfl g3 (fun g3 => ?_) (fun g3 => ?_)
        · refine z_bipush hx hb d_cTokens_kindOf_130 rfl ?_
          cases g3
          exact J3 _ _ _ (lv_sub hl [] rfl) hW hS
        · refine z_iconst hx hb d_cTokens_kindOf_126 ?_
          refine lv_goto hx hb d_cTokens_kindOf_127 rfl ?_
          cases g3
          exact J3 _ _ _ (lv_sub hl [] rfl) hW hS
      · have hf := zn c45_1 hf
        by_cases c45_2 : zI (cA u 0 0 v1.toNat) = 40
        · have hf := zp c45_2 hf
          refine lv_lookup hx hb d_cTokens_kindOf_45 (by decide) (by rw [c45_2]) rfl ?_
          refine z_iconst hx hb d_cTokens_kindOf_145 ?_
          cases hf
          subst hQ
          exact z_reti hx hb hr hlocks hB hK hW hS d_cTokens_kindOf_146
        · have hf := zn c45_2 hf
          by_cases c45_3 : zI (cA u 0 0 v1.toNat) = 41
          · have hf := zp c45_3 hf
            refine lv_lookup hx hb d_cTokens_kindOf_45 (by decide) (by rw [c45_3]) rfl ?_
            refine z_bipush hx hb d_cTokens_kindOf_147 rfl ?_
            cases hf
            subst hQ
            exact z_reti hx hb hr hlocks hB hK hW hS d_cTokens_kindOf_149
          · have hf := zn c45_3 hf
            by_cases c45_4 : zI (cA u 0 0 v1.toNat) = 59
            · have hf := zp c45_4 hf
              refine lv_lookup hx hb d_cTokens_kindOf_45 (by decide) (by rw [c45_4]) rfl ?_
              refine z_iconst hx hb d_cTokens_kindOf_120 ?_
              cases hf
              subst hQ
              exact z_reti hx hb hr hlocks hB hK hW hS d_cTokens_kindOf_121
            · have hf := zn c45_4 hf
              by_cases c45_5 : zI (cA u 0 0 v1.toNat) = 60
              · have hf := zp c45_5 hf
                refine lv_lookup hx hb d_cTokens_kindOf_45 (by decide) (by rw [c45_5]) rfl ?_
                refine z_bipush hx hb d_cTokens_kindOf_150 rfl ?_
                cases hf
                subst hQ
                exact z_reti hx hb hr hlocks hB hK hW hS d_cTokens_kindOf_152
              · have hf := zn c45_5 hf
                by_cases c45_6 : zI (cA u 0 0 v1.toNat) = 62
                · have hf := zp c45_6 hf
                  refine lv_lookup hx hb d_cTokens_kindOf_45 (by decide) (by rw [c45_6]) rfl ?_
                  refine lv_iload_n hx hb d_cTokens_kindOf_153 rfl (lv_at hl 0 rfl) ?_
                  obtain ⟨x4, g4, hf⟩ := ze1 hf
                  have J4 : ∀ (H : Heap) (locs : List Loc) (ls : Array Slot), lv_has ls 4 [] → ZW D B y ad q u r H → va_S (fun x => B ≤ x) s.heap H locs → W p l e R s m args below meth c H locs 0 0 Q (F0 m 164 ls [.int (zI x4)]) := by
                    intro H locs ls hl hW hS
                    cases hf
                    subst hQ
                    exact z_reti hx hb hr hlocks hB hK hW hS d_cTokens_kindOf_164
                  refine z_if_eq hx hb d_cTokens_kindOf_154 rfl g4 (fun g4 => ?_) (fun g4 => ?_)
                  · refine z_bipush hx hb d_cTokens_kindOf_162 rfl ?_
                    cases g4
                    exact J4 _ _ _ (lv_sub hl [] rfl) hW hS
                  · refine z_bipush hx hb d_cTokens_kindOf_157 rfl ?_
                    refine lv_goto hx hb d_cTokens_kindOf_159 rfl ?_
                    cases g4
                    exact J4 _ _ _ (lv_sub hl [] rfl) hW hS
                · have hf := zn c45_6 hf
                  by_cases c45_7 : zI (cA u 0 0 v1.toNat) = 124
                  · have hf := zp c45_7 hf
                    refine lv_lookup hx hb d_cTokens_kindOf_45 (by decide) (by rw [c45_7]) rfl ?_
                    refine lv_iload_n hx hb d_cTokens_kindOf_133 rfl (lv_at hl 0 rfl) ?_
                    obtain ⟨x5, g5, hf⟩ := ze1 hf
                    have J5 : ∀ (H : Heap) (locs : List Loc) (ls : Array Slot), lv_has ls 4 [] → ZW D B y ad q u r H → va_S (fun x => B ≤ x) s.heap H locs → W p l e R s m args below meth c H locs 0 0 Q (F0 m 142 ls [.int (zI x5)]) := by
                      intro H locs ls hl hW hS
                      cases hf
                      subst hQ
                      exact z_reti hx hb hr hlocks hB hK hW hS d_cTokens_kindOf_142
                    refine z_if_eq hx hb d_cTokens_kindOf_134 rfl g5 (fun g5 => ?_) (fun g5 => ?_)
                    · refine z_iconst hx hb d_cTokens_kindOf_141 ?_
                      cases g5
                      exact J5 _ _ _ (lv_sub hl [] rfl) hW hS
                    · refine z_iconst hx hb d_cTokens_kindOf_137 ?_
                      refine lv_goto hx hb d_cTokens_kindOf_138 rfl ?_
                      cases g5
                      exact J5 _ _ _ (lv_sub hl [] rfl) hW hS
                  · have hf := zn c45_7 hf
                    refine lv_lookup hx hb d_cTokens_kindOf_45 (by decide) ((lv_osw c45_0 rfl).trans <| (lv_osw c45_1 rfl).trans <| (lv_osw c45_2 rfl).trans <| (lv_osw c45_3 rfl).trans <| (lv_osw c45_4 rfl).trans <| (lv_osw c45_5 rfl).trans <| (lv_osw c45_6 rfl).trans <| (lv_osw c45_7 rfl).trans <| rfl) rfl ?_
                    refine z_bipush hx hb d_cTokens_kindOf_165 rfl ?_
                    cases hf
                    subst hQ
                    exact z_reti hx hb hr hlocks hB hK hW hS d_cTokens_kindOf_167
  obtain ⟨b1, g6, g2⟩ := ze1 g2
  have JT6 : b1 = true → ∀ (H : Heap) (locs : List Loc), ZW D B y ad q u r H → va_S (fun x => B ≤ x) s.heap H locs → W p l e R s m args below meth c H locs 0 0 Q (F0 m 42 ls []) := by
    intro hv H locs hW hS
    have g2 := zp (hv) g2
    refine z_iconst hx hb d_cTokens_kindOf_42 ?_
    cases g2
    exact J2 _ _ _ (lv_sub hl [0] rfl) hW hS
  have JF6 : b1 = false → ∀ (H : Heap) (locs : List Loc), ZW D B y ad q u r H → va_S (fun x => B ≤ x) s.heap H locs → W p l e R s m args below meth c H locs 0 0 Q (F0 m 38 ls []) := by
    intro hv H locs hW hS
    have g2 := zn (by rw [hv]; decide) g2
    refine z_iconst hx hb d_cTokens_kindOf_38 ?_
    refine lv_goto hx hb d_cTokens_kindOf_39 rfl ?_
    cases g2
    exact J2 _ _ _ (lv_sub hl [0] rfl) hW hS
  refine z_icmp_ge hx hb d_cTokens_kindOf_20 rfl g6 (fun g6 => ?_) (fun g6 => ?_)
  · exact JT6 (Option.some.inj g6).symm _ _ hW hS
  · refine lv_aload_n hx hb d_cTokens_kindOf_23 rfl (lv_at hl 1 rfl) ?_
    refine zg_Tk_line M hW (M.2.2.1 _ w_127) d_cTokens_kindOf_24 ?_
    refine zg_Tx_letters M hW (zid_T (Or.inl (by decide))) (M.2.2.1 _ w_101) d_cTokens_kindOf_27 ?_
    refine lv_iload_n hx hb d_cTokens_kindOf_30 rfl (lv_at hl 2 rfl) ?_
    refine z_iconst hx hb d_cTokens_kindOf_31 ?_
    refine z_iadd hx hb d_cTokens_kindOf_32 ?_
    obtain ⟨g7, g6⟩ := zg g6
    refine za_let M hW (zid_C (Or.inl (by decide))) g7 d_cTokens_kindOf_33 ?_
    refine lv_iload_n hx hb d_cTokens_kindOf_34 rfl (lv_at hl 0 rfl) ?_
    refine z_icmp_ne hx hb d_cTokens_kindOf_35 rfl g6 (fun g6 => ?_) (fun g6 => ?_)
    · exact JT6 (Option.some.inj g6).symm _ _ hW hS
    · exact JF6 (Option.some.inj g6).symm _ _ hW hS
set_option maxRecDepth 100000 in
set_option maxHeartbeats 4000000 in
theorem k_cTokens_wordEnd {l : Launch} {D : va_G} {B : Nat} {y : Nat → ClassId} {ad : Nat × Nat → Nat} {q : Bool} {r : ZR} (F : Nat) (u : ZC) (v1 : Int) {res : Int} (hf : cTokens_wordEnd F u v1 = some res) : Met l y_cTokens_wordEnd (.code y_cTokens_wordEnd b_cTokens_wordEnd 5 (some .int) :: zt) { frames := 1, cells := 0, slots := 0, locals := 23 } (va_Pc [.ref (ad (0, 1)), .int (zI v1)] (fun U => ZP D B y ad q u r U)) (va_Qi (fun v (_ : Unit) => v = zI res) (fun _ t => ZP D B y ad q u r t) (fun x => B ≤ x)) 0 0 (fun x => B ≤ x) := by
  refine Met.ofW (cc := b_cTokens_wordEnd) (maxL := 5) (ret := (some .int)) (by decide) rfl ?_
  intro p e s m args below meth c s₁ Bd hml hv
  obtain ⟨hargs, hB, hW, hK⟩ := hv
  have hx := Bd.exec
  have hb := Bd.bytes
  have hr := Bd.returns
  have hts0 := atoms_spec (ws := .code y_cTokens_wordEnd b_cTokens_wordEnd 5 (some .int) :: zt) Bd.pre
  have hown : s.vm.findClass "TreeShell$Tokens" = some m.cls := findClass_of_methodNamed Bd.named
  have hlocks := Bd.notSynchronized
  have M : ZM p c b_cTokens_wordEnd s args m "TreeShell$Tokens" D y := ⟨hx, hb, fun w h => hts0 w (List.mem_cons_of_mem _ h), hown, hK⟩
  have hS : va_S (fun x => B ≤ x) s.heap s.heap [] := va_S.rf
  have hE := lg_entry_eq m ([.ref (ad (0, 1)), .int (zI v1)] : List Value) 5
  rw [← hargs] at hE
  rw [hE]
  have hl := lv_entry ([.ref (ad (0, 1)), .int (zI v1)] : List Value) (n := 5) (Nat.le_of_ble_eq_true rfl)
  generalize (lg_sl ([.ref (ad (0, 1)), .int (zI v1)] : List Value) ++ List.replicate (5 - (lg_sl ([.ref (ad (0, 1)), .int (zI v1)] : List Value)).length) Slot.unset).toArray = ls at hl ⊢
  have hl : lv_has ls 5 [(0, .ref (ad (0, 1))), (1, .int (zI v1))] := hl
  refine z_start (fun Q R hQ hR => ?_)
  generalize hH : s.heap = H at hW
  have hS : va_S (fun x => B ≤ x) s.heap H [] := by rw [← hH]; exact hS
  have C_69 : ∀ (k4 : ZC → Int → Int → Option (Int)) (hk4 : ∀ (v2 : Int) (v3 : Int) (H : Heap) (locs : List Loc) (ls : Array Slot), k4 u v2 v3 = some res → lv_has ls 5 [(0, .ref (ad (0, 1))), (2, .int (zI v2)), (3, .int (zI v3))] → ZW D B y ad q u r H → va_S (fun x => B ≤ x) s.heap H locs → W p l e R s m args below meth c H locs 0 0 Q (F0 m 4 ls [])) , ∀ (v2 : Int) (v3 : Int) (H : Heap) (locs : List Loc) (ls : Array Slot), cTokens_wordEnd_69 F k4 u v2 v3 = some res → lv_has ls 5 [(0, .ref (ad (0, 1))), (2, .int (zI v2)), (3, .int (zI v3))] → ZW D B y ad q u r H → va_S (fun x => B ≤ x) s.heap H locs → W p l e R s m args below meth c H locs 0 0 Q (F0 m 69 ls []) := by
    intro k4 hk4 v2 v3 H locs ls hf hl hW hS
    rw [cTokens_wordEnd_69] at hf
    refine lv_iinc (k := 2) (v := zI (v3 + 1)) (lv' := [(3, .int (zI (v3 + 1))), (0, .ref (ad (0, 1))), (2, .int (zI v2))]) hx hb d_cTokens_wordEnd_69 hl rfl (zI_add _ _) (by decide) rfl (fun ls hl => ?_)
    refine lv_goto hx hb d_cTokens_wordEnd_72 rfl ?_
    exact hk4 _ _ _ _ _ hf (lv_sub hl [1, 2, 0] rfl) hW hS
  have C_4 : ∀ (n : Nat), ∀ (v2 : Int) (v3 : Int) (H : Heap) (locs : List Loc) (ls : Array Slot), cTokens_wordEnd_4 F n u v2 v3 = some res → lv_has ls 5 [(0, .ref (ad (0, 1))), (2, .int (zI v2)), (3, .int (zI v3))] → ZW D B y ad q u r H → va_S (fun x => B ≤ x) s.heap H locs → W p l e R s m args below meth c H locs 0 0 Q (F0 m 4 ls []) := by
    intro n
    induction n with
    | zero => intro v2 v3 H locs ls hf; cases (show (none : Option (Int)) = some res from hf)
    | succ n ih =>
      intro v2 v3 H locs ls hf hl hW hS
      rw [cTokens_wordEnd_4] at hf
      refine lv_iload_n hx hb d_cTokens_wordEnd_4 rfl (lv_at hl 2 rfl) ?_
      refine lv_aload_n hx hb d_cTokens_wordEnd_5 rfl (lv_at hl 0 rfl) ?_
      refine zg_Tk_line M hW (M.2.2.1 _ w_127) d_cTokens_wordEnd_6 ?_
      refine zg_Tx_size M hW (zid_T (Or.inl (by decide))) (M.2.2.1 _ w_106) d_cTokens_wordEnd_9 ?_
      refine z_icmp_ge hx hb d_cTokens_wordEnd_12 rfl hf (fun hf => ?_) (fun hf => ?_)
      · refine lv_iload_n hx hb d_cTokens_wordEnd_75 rfl (lv_at hl 1 rfl) ?_
        obtain ⟨x1, g1, hf⟩ := ze1 hf
        have J1 : ∀ (H : Heap) (locs : List Loc) (ls : Array Slot), lv_has ls 5 [] → ZW D B y ad q u r H → va_S (fun x => B ≤ x) s.heap H locs → W p l e R s m args below meth c H locs 0 0 Q (F0 m 98 ls [.int (zI x1)]) := by
          intro H locs ls hl hW hS
          cases hf
          subst hQ
          exact z_reti hx hb hr hlocks hB hK hW hS d_cTokens_wordEnd_98
        refine z_if_eq hx hb d_cTokens_wordEnd_76 rfl g1 (fun g1 => ?_) (fun g1 => ?_)
        · refine lv_aload_n hx hb d_cTokens_wordEnd_91 rfl (lv_at hl 0 rfl) ?_
          refine zg_Tk_line M hW (M.2.2.1 _ w_127) d_cTokens_wordEnd_92 ?_
          refine zg_Tx_size M hW (zid_T (Or.inl (by decide))) (M.2.2.1 _ w_106) d_cTokens_wordEnd_95 ?_
          cases g1
          exact J1 _ _ _ (lv_sub hl [] rfl) hW hS
        · refine lv_aload_n hx hb d_cTokens_wordEnd_79 rfl (lv_at hl 0 rfl) ?_
          refine zg_Tk_line M hW (M.2.2.1 _ w_127) d_cTokens_wordEnd_80 ?_
          refine zg_Tx_size M hW (zid_T (Or.inl (by decide))) (M.2.2.1 _ w_106) d_cTokens_wordEnd_83 ?_
          refine z_iconst hx hb d_cTokens_wordEnd_86 ?_
          refine z_iadd hx hb d_cTokens_wordEnd_87 ?_
          refine lv_goto hx hb d_cTokens_wordEnd_88 rfl ?_
          cases g1
          exact J1 _ _ _ (lv_sub hl [] rfl) hW hS
      · refine lv_aload_n hx hb d_cTokens_wordEnd_15 rfl (lv_at hl 0 rfl) ?_
        refine zg_Tk_line M hW (M.2.2.1 _ w_127) d_cTokens_wordEnd_16 ?_
        refine zg_Tx_letters M hW (zid_T (Or.inl (by decide))) (M.2.2.1 _ w_101) d_cTokens_wordEnd_19 ?_
        refine lv_iload_n hx hb d_cTokens_wordEnd_22 rfl (lv_at hl 2 rfl) ?_
        obtain ⟨g2, hf⟩ := zg hf
        refine za_let M hW (zid_C (Or.inl (by decide))) g2 d_cTokens_wordEnd_23 ?_
        refine lv_istore (lv' := [(4, .int (zI (cA u 0 0 v3.toNat))), (0, .ref (ad (0, 1))), (2, .int (zI v2)), (3, .int (zI v3))]) hx hb d_cTokens_wordEnd_24 hl (by decide) rfl (fun ls hl => ?_)
        refine lv_iload hx hb d_cTokens_wordEnd_26 (lv_at hl 0 rfl) ?_
        refine z_bipush hx hb d_cTokens_wordEnd_28 rfl ?_
        refine z_icmp_ne hx hb d_cTokens_wordEnd_30 rfl hf (fun hf => ?_) (fun hf => ?_)
        · refine lv_iload_n hx hb d_cTokens_wordEnd_46 rfl (lv_at hl 2 rfl) ?_
          obtain ⟨b3, g3, hf⟩ := ze1 hf
          have JT3 : b3 = true → ∀ (H : Heap) (locs : List Loc), ZW D B y ad q u r H → va_S (fun x => B ≤ x) s.heap H locs → W p l e R s m args below meth c H locs 0 0 Q (F0 m 69 ls []) := by
            intro hv H locs hW hS
            have hf := zp (hv) hf
            exact C_69 _ ih _ _ _ _ _ hf (lv_sub hl [1, 2, 3] rfl) hW hS
          have JF3 : b3 = false → ∀ (H : Heap) (locs : List Loc), ZW D B y ad q u r H → va_S (fun x => B ≤ x) s.heap H locs → W p l e R s m args below meth c H locs 0 0 Q (F0 m 67 ls []) := by
            intro hv H locs hW hS
            have hf := zn (by rw [hv]; decide) hf
            refine lv_iload_n hx hb d_cTokens_wordEnd_67 rfl (lv_at hl 3 rfl) ?_
            cases hf
            subst hQ
            exact z_reti hx hb hr hlocks hB hK hW hS d_cTokens_wordEnd_68
          refine z_if_ne hx hb d_cTokens_wordEnd_47 rfl g3 (fun g3 => ?_) (fun g3 => ?_)
          · exact JT3 (Option.some.inj g3).symm _ _ hW hS
          · refine lv_iload hx hb d_cTokens_wordEnd_50 (lv_at hl 0 rfl) ?_
            refine z_bipush hx hb d_cTokens_wordEnd_52 rfl ?_
            refine z_icmp_eq hx hb d_cTokens_wordEnd_54 rfl g3 (fun g3 => ?_) (fun g3 => ?_)
            · exact JF3 (Option.some.inj g3).symm _ _ hW hS
            · refine lv_aload_n hx hb d_cTokens_wordEnd_57 rfl (lv_at hl 1 rfl) ?_
              refine lv_iload_n hx hb d_cTokens_wordEnd_58 rfl (lv_at hl 3 rfl) ?_
              obtain ⟨p2, g4, g3⟩ := ze1 g3
              refine z_callVi (As := [.int (zI v3)]) (rest := []) (k_cTokens_kindOf F _ _ g4) M hml (cw_cTokens_kindOf M.2.2.1 (M.2.2.1 _ w_403) (by rw [hR]; exact Nat.le_of_ble_eq_true rfl) (by rw [hR]; exact Nat.le_of_ble_eq_true rfl)) (zv_Tk hK hW) hB hW hS rfl hl.1 rfl (Nat.le_of_ble_eq_true rfl) d_cTokens_wordEnd_59 (by rw [hR]; exact ⟨Nat.zero_le _, Nat.zero_le _⟩) (fun H locs hW hS => ?_)
              refine z_bipush hx hb d_cTokens_wordEnd_62 rfl ?_
              refine z_icmp_eq hx hb d_cTokens_wordEnd_64 rfl g3 (fun g3 => ?_) (fun g3 => ?_)
              · exact JT3 (Option.some.inj g3).symm _ _ hW hS
              · exact JF3 (Option.some.inj g3).symm _ _ hW hS
        · refine lv_iload_n hx hb d_cTokens_wordEnd_33 rfl (lv_at hl 2 rfl) ?_
          obtain ⟨x4, g5, hf⟩ := ze1 hf
          have J5 : ∀ (H : Heap) (locs : List Loc) (ls : Array Slot), lv_has ls 5 [(0, .ref (ad (0, 1))), (3, .int (zI v3))] → ZW D B y ad q u r H → va_S (fun x => B ≤ x) s.heap H locs → W p l e R s m args below meth c H locs 0 0 Q (F0 m 42 ls [.int (zI x4)]) := by
            intro H locs ls hl hW hS
            refine lv_istore_n (lv' := [(2, .int (zI x4)), (0, .ref (ad (0, 1))), (3, .int (zI v3))]) hx hb d_cTokens_wordEnd_42 rfl hl (by decide) rfl (fun ls hl => ?_)
            refine lv_goto hx hb d_cTokens_wordEnd_43 rfl ?_
            exact C_69 _ ih _ _ _ _ _ hf (lv_sub hl [1, 0, 2] rfl) hW hS
          refine z_if_ne hx hb d_cTokens_wordEnd_34 rfl g5 (fun g5 => ?_) (fun g5 => ?_)
          · refine z_iconst hx hb d_cTokens_wordEnd_41 ?_
            cases g5
            exact J5 _ _ _ (lv_sub hl [1, 3] rfl) hW hS
          · refine z_iconst hx hb d_cTokens_wordEnd_37 ?_
            refine lv_goto hx hb d_cTokens_wordEnd_38 rfl ?_
            cases g5
            exact J5 _ _ _ (lv_sub hl [1, 3] rfl) hW hS
  rw [cTokens_wordEnd] at hf
  refine z_iconst hx hb d_cTokens_wordEnd_0 ?_
  refine lv_istore_n (lv' := [(2, .int (zI 0)), (0, .ref (ad (0, 1))), (1, .int (zI v1))]) hx hb d_cTokens_wordEnd_1 rfl hl (by decide) rfl (fun ls hl => ?_)
  refine lv_iload_n hx hb d_cTokens_wordEnd_2 rfl (lv_at hl 2 rfl) ?_
  refine lv_istore_n (lv' := [(3, .int (zI v1)), (2, .int (zI 0)), (0, .ref (ad (0, 1))), (1, .int (zI v1))]) hx hb d_cTokens_wordEnd_3 rfl hl (by decide) rfl (fun ls hl => ?_)
  exact C_4 F _ _ _ _ _ hf (lv_sub hl [2, 1, 0] rfl) hW hS
set_option maxRecDepth 100000 in
set_option maxHeartbeats 4000000 in
theorem k_cTokens_widthOf {l : Launch} {D : va_G} {B : Nat} {y : Nat → ClassId} {ad : Nat × Nat → Nat} {q : Bool} {r : ZR} (F : Nat) (u : ZC) (v0 : Int) {res : Int} (hf : cTokens_widthOf F u v0 = some res) : Met l y_cTokens_widthOf (.code y_cTokens_widthOf b_cTokens_widthOf 1 (some .int) :: zt) { frames := 0, cells := 0, slots := 0, locals := 0 } (va_Pc [.int (zI v0)] (fun U => ZP D B y ad q u r U)) (va_Qi (fun v (_ : Unit) => v = zI res) (fun _ t => ZP D B y ad q u r t) (fun x => B ≤ x)) 0 0 (fun x => B ≤ x) := by
  refine Met.ofW (cc := b_cTokens_widthOf) (maxL := 1) (ret := (some .int)) (by decide) rfl ?_
  intro p e s m args below meth c s₁ Bd hml hv
  obtain ⟨hargs, hB, hW, hK⟩ := hv
  have hx := Bd.exec
  have hb := Bd.bytes
  have hr := Bd.returns
  have hts0 := atoms_spec (ws := .code y_cTokens_widthOf b_cTokens_widthOf 1 (some .int) :: zt) Bd.pre
  have hown : s.vm.findClass "TreeShell$Tokens" = some m.cls := findClass_of_methodNamed Bd.named
  have hlocks := Bd.notSynchronized
  have M : ZM p c b_cTokens_widthOf s args m "TreeShell$Tokens" D y := ⟨hx, hb, fun w h => hts0 w (List.mem_cons_of_mem _ h), hown, hK⟩
  have hS : va_S (fun x => B ≤ x) s.heap s.heap [] := va_S.rf
  have hE := lg_entry_eq m ([.int (zI v0)] : List Value) 1
  rw [← hargs] at hE
  rw [hE]
  have hl := lv_entry ([.int (zI v0)] : List Value) (n := 1) (Nat.le_of_ble_eq_true rfl)
  generalize (lg_sl ([.int (zI v0)] : List Value) ++ List.replicate (1 - (lg_sl ([.int (zI v0)] : List Value)).length) Slot.unset).toArray = ls at hl ⊢
  have hl : lv_has ls 1 [(0, .int (zI v0))] := hl
  refine z_start (fun Q R hQ hR => ?_)
  generalize hH : s.heap = H at hW
  have hS : va_S (fun x => B ≤ x) s.heap H [] := by rw [← hH]; exact hS
  rw [cTokens_widthOf] at hf
  refine lv_iload_n hx hb d_cTokens_widthOf_0 rfl (lv_at hl 0 rfl) ?_
  refine z_iconst hx hb d_cTokens_widthOf_1 ?_
  obtain ⟨x2, g1, hf⟩ := ze1 hf
  have J1 : ∀ (H : Heap) (locs : List Loc) (ls : Array Slot), lv_has ls 1 [] → ZW D B y ad q u r H → va_S (fun x => B ≤ x) s.heap H locs → W p l e R s m args below meth c H locs 0 0 Q (F0 m 21 ls [.int (zI x2)]) := by
    intro H locs ls hl hW hS
    cases hf
    subst hQ
    exact z_reti hx hb hr hlocks hB hK hW hS d_cTokens_widthOf_21
  obtain ⟨b1, g2, g1⟩ := ze1 g1
  have JT2 : b1 = true → ∀ (H : Heap) (locs : List Loc), ZW D B y ad q u r H → va_S (fun x => B ≤ x) s.heap H locs → W p l e R s m args below meth c H locs 0 0 Q (F0 m 16 ls []) := by
    intro hv H locs hW hS
    have g1 := zp (hv) g1
    refine z_iconst hx hb d_cTokens_widthOf_16 ?_
    refine lv_goto hx hb d_cTokens_widthOf_17 rfl ?_
    cases g1
    exact J1 _ _ _ (lv_sub hl [] rfl) hW hS
  have JF2 : b1 = false → ∀ (H : Heap) (locs : List Loc), ZW D B y ad q u r H → va_S (fun x => B ≤ x) s.heap H locs → W p l e R s m args below meth c H locs 0 0 Q (F0 m 20 ls []) := by
    intro hv H locs hW hS
    have g1 := zn (by rw [hv]; decide) g1
    refine z_iconst hx hb d_cTokens_widthOf_20 ?_
    cases g1
    exact J1 _ _ _ (lv_sub hl [] rfl) hW hS
  refine z_icmp_eq hx hb d_cTokens_widthOf_2 rfl g2 (fun g2 => ?_) (fun g2 => ?_)
  · exact JT2 (Option.some.inj g2).symm _ _ hW hS
  · refine lv_iload_n hx hb d_cTokens_widthOf_5 rfl (lv_at hl 0 rfl) ?_
    refine z_iconst hx hb d_cTokens_widthOf_6 ?_
    refine z_icmp_eq hx hb d_cTokens_widthOf_7 rfl g2 (fun g2 => ?_) (fun g2 => ?_)
    · exact JT2 (Option.some.inj g2).symm _ _ hW hS
    · refine lv_iload_n hx hb d_cTokens_widthOf_10 rfl (lv_at hl 0 rfl) ?_
      refine z_bipush hx hb d_cTokens_widthOf_11 rfl ?_
      refine z_icmp_ne hx hb d_cTokens_widthOf_13 rfl g2 (fun g2 => ?_) (fun g2 => ?_)
      · exact JF2 (Option.some.inj g2).symm _ _ hW hS
      · exact JT2 (Option.some.inj g2).symm _ _ hW hS
set_option maxRecDepth 100000 in
set_option maxHeartbeats 4000000 in
theorem k_cTokens_cutLine {l : Launch} {D : va_G} {B : Nat} {y : Nat → ClassId} {ad : Nat × Nat → Nat} {q : Bool} {r : ZR} (F : Nat) (u : ZC) {res : Int} {uo : ZC} (hf : cTokens_cutLine F u = some (res, uo)) : Met l y_cTokens_cutLine (.code y_cTokens_cutLine b_cTokens_cutLine 4 (some .boolean) :: zt) { frames := 2, cells := 0, slots := 0, locals := 47 } (va_Pc [.ref (ad (0, 1))] (fun U => ZP D B y ad q u r U)) (va_Qi (fun v (_ : Unit) => v = zI res) (fun _ t => ZP D B y ad q uo r t) (fun x => B ≤ x)) 0 0 (fun x => B ≤ x) := by
  refine Met.ofW (cc := b_cTokens_cutLine) (maxL := 4) (ret := (some .boolean)) (by decide) rfl ?_
  intro p e s m args below meth c s₁ Bd hml hv
  obtain ⟨hargs, hB, hW, hK⟩ := hv
  have hx := Bd.exec
  have hb := Bd.bytes
  have hr := Bd.returns
  have hts0 := atoms_spec (ws := .code y_cTokens_cutLine b_cTokens_cutLine 4 (some .boolean) :: zt) Bd.pre
  have hown : s.vm.findClass "TreeShell$Tokens" = some m.cls := findClass_of_methodNamed Bd.named
  have hlocks := Bd.notSynchronized
  have M : ZM p c b_cTokens_cutLine s args m "TreeShell$Tokens" D y := ⟨hx, hb, fun w h => hts0 w (List.mem_cons_of_mem _ h), hown, hK⟩
  have hS : va_S (fun x => B ≤ x) s.heap s.heap [] := va_S.rf
  have hE := lg_entry_eq m ([.ref (ad (0, 1))] : List Value) 4
  rw [← hargs] at hE
  rw [hE]
  have hl := lv_entry ([.ref (ad (0, 1))] : List Value) (n := 4) (Nat.le_of_ble_eq_true rfl)
  generalize (lg_sl ([.ref (ad (0, 1))] : List Value) ++ List.replicate (4 - (lg_sl ([.ref (ad (0, 1))] : List Value)).length) Slot.unset).toArray = ls at hl ⊢
  have hl : lv_has ls 4 [(0, .ref (ad (0, 1)))] := hl
  refine z_start (fun Q R hQ hR => ?_)
  generalize hH : s.heap = H at hW
  have hS : va_S (fun x => B ≤ x) s.heap H [] := by rw [← hH]; exact hS
  have C_134 : ∀ (k7 : ZC → Int → Option (Int × ZC)) (hk7 : ∀ (u : ZC) (v1 : Int) (H : Heap) (locs : List Loc) (ls : Array Slot), k7 u v1 = some (res, uo) → lv_has ls 4 [(0, .ref (ad (0, 1))), (1, .int (zI v1))] → ZW D B y ad q u r H → va_S (fun x => B ≤ x) s.heap H locs → W p l e R s m args below meth c H locs 0 0 Q (F0 m 7 ls [])) , ∀ (u : ZC) (v1 : Int) (v2 : Int) (H : Heap) (locs : List Loc) (ls : Array Slot), cTokens_cutLine_134 F k7 u v1 v2 = some (res, uo) → lv_has ls 4 [(0, .ref (ad (0, 1))), (1, .int (zI v1)), (2, .int (zI v2))] → ZW D B y ad q u r H → va_S (fun x => B ≤ x) s.heap H locs → W p l e R s m args below meth c H locs 0 0 Q (F0 m 134 ls []) := by
    intro k7 hk7 u v1 v2 H locs ls hf hl hW hS
    rw [cTokens_cutLine_134] at hf
    refine lv_iload_n hx hb d_cTokens_cutLine_134 rfl (lv_at hl 1 rfl) ?_
    refine z_iconst hx hb d_cTokens_cutLine_135 ?_
    refine z_iadd hx hb d_cTokens_cutLine_136 ?_
    refine lv_iload_n hx hb d_cTokens_cutLine_137 rfl (lv_at hl 2 rfl) ?_
    refine z_mmax hx hb hown M.2.2.1 hml (by rw [hR]; exact Nat.le_of_ble_eq_true rfl) (by rw [hR]; exact Nat.le_of_ble_eq_true rfl) hl.1 (Nat.le_of_ble_eq_true rfl) (by rw [hR]; exact ⟨Nat.zero_le _, Nat.zero_le _⟩) (M.2.2.1 _ w_414) d_cTokens_cutLine_138 ?_
    refine lv_istore_n (lv' := [(1, .int (zI (zmax (v1 + 1) v2))), (0, .ref (ad (0, 1))), (2, .int (zI v2))]) hx hb d_cTokens_cutLine_141 rfl hl (by decide) rfl (fun ls hl => ?_)
    refine lv_goto hx hb d_cTokens_cutLine_142 rfl ?_
    exact hk7 _ _ _ _ _ hf (lv_sub hl [1, 0] rfl) hW hS
  have C_7 : ∀ (n : Nat), ∀ (u : ZC) (v1 : Int) (H : Heap) (locs : List Loc) (ls : Array Slot), cTokens_cutLine_7 F n u v1 = some (res, uo) → lv_has ls 4 [(0, .ref (ad (0, 1))), (1, .int (zI v1))] → ZW D B y ad q u r H → va_S (fun x => B ≤ x) s.heap H locs → W p l e R s m args below meth c H locs 0 0 Q (F0 m 7 ls []) := by
    intro n
    induction n with
    | zero => intro u v1 H locs ls hf; cases (show (none : Option (Int × ZC)) = some (res, uo) from hf)
    | succ n ih =>
      intro u v1 H locs ls hf hl hW hS
      rw [cTokens_cutLine_7] at hf
      refine lv_iload_n hx hb d_cTokens_cutLine_7 rfl (lv_at hl 1 rfl) ?_
      refine lv_aload_n hx hb d_cTokens_cutLine_8 rfl (lv_at hl 0 rfl) ?_
      refine zg_Tk_line M hW (M.2.2.1 _ w_127) d_cTokens_cutLine_9 ?_
      refine zg_Tx_size M hW (zid_T (Or.inl (by decide))) (M.2.2.1 _ w_106) d_cTokens_cutLine_12 ?_
      refine z_icmp_ge hx hb d_cTokens_cutLine_15 rfl hf (fun hf => ?_) (fun hf => ?_)
      · refine z_iconst hx hb d_cTokens_cutLine_145 ?_
        cases hf
        subst hQ
        exact z_retz hx hb (Or.inr rfl) hr hlocks hB hK hW hS d_cTokens_cutLine_146
      · refine lv_iload_n hx hb d_cTokens_cutLine_18 rfl (lv_at hl 1 rfl) ?_
        refine z_iconst hx hb d_cTokens_cutLine_19 ?_
        refine z_iadd hx hb d_cTokens_cutLine_20 ?_
        refine lv_istore_n (lv' := [(2, .int (zI (v1 + 1))), (0, .ref (ad (0, 1))), (1, .int (zI v1))]) hx hb d_cTokens_cutLine_21 rfl hl (by decide) rfl (fun ls hl => ?_)
        refine lv_aload_n hx hb d_cTokens_cutLine_22 rfl (lv_at hl 1 rfl) ?_
        refine zg_Tk_line M hW (M.2.2.1 _ w_127) d_cTokens_cutLine_23 ?_
        refine zg_Tx_letters M hW (zid_T (Or.inl (by decide))) (M.2.2.1 _ w_101) d_cTokens_cutLine_26 ?_
        refine lv_iload_n hx hb d_cTokens_cutLine_29 rfl (lv_at hl 2 rfl) ?_
        obtain ⟨g1, hf⟩ := zg hf
        refine za_let M hW (zid_C (Or.inl (by decide))) g1 d_cTokens_cutLine_30 ?_
        refine z_bipush hx hb d_cTokens_cutLine_31 rfl ?_
        refine z_icmp_eq hx hb d_cTokens_cutLine_33 rfl hf (fun hf => ?_) (fun hf => ?_)
        · exact C_134 _ ih _ _ _ _ _ _ hf (lv_sub hl [1, 2, 0] rfl) hW hS
        · refine lv_aload_n hx hb d_cTokens_cutLine_36 rfl (lv_at hl 1 rfl) ?_
          refine lv_iload_n hx hb d_cTokens_cutLine_37 rfl (lv_at hl 2 rfl) ?_
          obtain ⟨p1, g2, hf⟩ := ze1 hf
          refine z_callVi (As := [.int (zI v1)]) (rest := []) (k_cTokens_kindOf F _ _ g2) M hml (cw_cTokens_kindOf M.2.2.1 (M.2.2.1 _ w_403) (by rw [hR]; exact Nat.le_of_ble_eq_true rfl) (by rw [hR]; exact Nat.le_of_ble_eq_true rfl)) (zv_Tk hK hW) hB hW hS rfl hl.1 rfl (Nat.le_of_ble_eq_true rfl) d_cTokens_cutLine_38 (by rw [hR]; exact ⟨Nat.zero_le _, Nat.zero_le _⟩) (fun H locs hW hS => ?_)
          refine lv_istore_n (lv' := [(3, .int (zI p1)), (2, .int (zI (v1 + 1))), (0, .ref (ad (0, 1))), (1, .int (zI v1))]) hx hb d_cTokens_cutLine_41 rfl hl (by decide) rfl (fun ls hl => ?_)
          refine lv_iload_n hx hb d_cTokens_cutLine_42 rfl (lv_at hl 0 rfl) ?_
          refine z_bipush hx hb d_cTokens_cutLine_43 rfl ?_
          obtain ⟨x4, g3, hf⟩ := ze1 hf
          have J3 : ∀ (H : Heap) (locs : List Loc) (ls : Array Slot), lv_has ls 4 [(0, .ref (ad (0, 1))), (1, .int (zI v1)), (3, .int (zI p1))] → ZW D B y ad q u r H → va_S (fun x => B ≤ x) s.heap H locs → W p l e R s m args below meth c H locs 0 0 Q (F0 m 62 ls [.int (zI x4)]) := by
            intro H locs ls hl hW hS
            refine lv_istore_n (lv' := [(2, .int (zI x4)), (0, .ref (ad (0, 1))), (1, .int (zI v1)), (3, .int (zI p1))]) hx hb d_cTokens_cutLine_62 rfl hl (by decide) rfl (fun ls hl => ?_)
            refine lv_iload_n hx hb d_cTokens_cutLine_63 rfl (lv_at hl 3 rfl) ?_
            refine z_bipush hx hb d_cTokens_cutLine_64 rfl ?_
            obtain ⟨b5, g4, hf⟩ := ze1 hf
            have JT4 : b5 = true → ∀ (H : Heap) (locs : List Loc), ZW D B y ad q u r H → va_S (fun x => B ≤ x) s.heap H locs → W p l e R s m args below meth c H locs 0 0 Q (F0 m 92 ls []) := by
              intro hv H locs hW hS
              have hf := zp (hv) hf
              refine z_iconst hx hb d_cTokens_cutLine_92 ?_
              cases hf
              subst hQ
              exact z_retz hx hb (Or.inl rfl) hr hlocks hB hK hW hS d_cTokens_cutLine_93
            have JF4 : b5 = false → ∀ (H : Heap) (locs : List Loc), ZW D B y ad q u r H → va_S (fun x => B ≤ x) s.heap H locs → W p l e R s m args below meth c H locs 0 0 Q (F0 m 94 ls []) := by
              intro hv H locs hW hS
              have hf := zn (by rw [hv]; decide) hf
              refine lv_aload_n hx hb d_cTokens_cutLine_94 rfl (lv_at hl 1 rfl) ?_
              refine zg_Tk_kinds M hW (M.2.2.1 _ w_129) d_cTokens_cutLine_95 ?_
              refine lv_aload_n hx hb d_cTokens_cutLine_98 rfl (lv_at hl 1 rfl) ?_
              refine zg_Tk_count M hW (M.2.2.1 _ w_134) d_cTokens_cutLine_99 ?_
              refine lv_iload_n hx hb d_cTokens_cutLine_102 rfl (lv_at hl 3 rfl) ?_
              obtain ⟨g5, hf⟩ := zg hf
              refine zs_8 M hW hS g5 d_cTokens_cutLine_103 (fun H locs hW hS => ?_)
              refine lv_aload_n hx hb d_cTokens_cutLine_104 rfl (lv_at hl 1 rfl) ?_
              refine zg_Tk_starts M hW (M.2.2.1 _ w_130) d_cTokens_cutLine_105 ?_
              refine lv_aload_n hx hb d_cTokens_cutLine_108 rfl (lv_at hl 1 rfl) ?_
              refine zg_Tk_count M hW (M.2.2.1 _ w_134) d_cTokens_cutLine_109 ?_
              refine lv_iload_n hx hb d_cTokens_cutLine_112 rfl (lv_at hl 2 rfl) ?_
              obtain ⟨g6, hf⟩ := zg hf
              refine zs_9 M hW hS g6 d_cTokens_cutLine_113 (fun H locs hW hS => ?_)
              obtain ⟨u6, g7, hf⟩ := ze1 hf
              have g7 := Option.some.inj g7
              rw [g7] at hW
              refine lv_aload_n hx hb d_cTokens_cutLine_114 rfl (lv_at hl 1 rfl) ?_
              refine zg_Tk_ends M hW (M.2.2.1 _ w_132) d_cTokens_cutLine_115 ?_
              refine lv_aload_n hx hb d_cTokens_cutLine_118 rfl (lv_at hl 1 rfl) ?_
              refine zg_Tk_count M hW (M.2.2.1 _ w_134) d_cTokens_cutLine_119 ?_
              refine lv_iload_n hx hb d_cTokens_cutLine_122 rfl (lv_at hl 0 rfl) ?_
              obtain ⟨g8, hf⟩ := zg hf
              refine zs_10 M hW hS g8 d_cTokens_cutLine_123 (fun H locs hW hS => ?_)
              refine lv_aload_n hx hb d_cTokens_cutLine_124 rfl (lv_at hl 1 rfl) ?_
              refine lv_dup hx hb d_cTokens_cutLine_125 rfl ?_
              refine zg_Tk_count M hW (M.2.2.1 _ w_134) d_cTokens_cutLine_126 ?_
              refine z_iconst hx hb d_cTokens_cutLine_129 ?_
              refine z_iadd hx hb d_cTokens_cutLine_130 ?_
              refine zp_Tk_count M hW hS (M.2.2.1 _ w_134) d_cTokens_cutLine_131 (fun H locs hW hS => ?_)
              obtain ⟨u7, g9, hf⟩ := ze1 hf
              have g9 := Option.some.inj g9
              rw [g9] at hW
              exact C_134 _ ih _ _ _ _ _ _ hf (lv_sub hl [1, 2, 0] rfl) hW hS
            refine z_icmp_eq hx hb d_cTokens_cutLine_66 rfl g4 (fun g4 => ?_) (fun g4 => ?_)
            · exact JT4 (Option.some.inj g4).symm _ _ hW hS
            · refine lv_iload_n hx hb d_cTokens_cutLine_69 rfl (lv_at hl 0 rfl) ?_
              refine lv_aload_n hx hb d_cTokens_cutLine_70 rfl (lv_at hl 1 rfl) ?_
              refine zg_Tk_line M hW (M.2.2.1 _ w_127) d_cTokens_cutLine_71 ?_
              refine zg_Tx_size M hW (zid_T (Or.inl (by decide))) (M.2.2.1 _ w_106) d_cTokens_cutLine_74 ?_
              refine z_icmp_gt hx hb d_cTokens_cutLine_77 rfl g4 (fun g4 => ?_) (fun g4 => ?_)
              · exact JT4 (Option.some.inj g4).symm _ _ hW hS
              · refine lv_aload_n hx hb d_cTokens_cutLine_80 rfl (lv_at hl 1 rfl) ?_
                refine zg_Tk_count M hW (M.2.2.1 _ w_134) d_cTokens_cutLine_81 ?_
                refine lv_aload_n hx hb d_cTokens_cutLine_84 rfl (lv_at hl 1 rfl) ?_
                refine zg_Tk_kinds M hW (M.2.2.1 _ w_129) d_cTokens_cutLine_85 ?_
                refine zl_8 M hW d_cTokens_cutLine_88 ?_
                refine z_icmp_lt hx hb d_cTokens_cutLine_89 rfl g4 (fun g4 => ?_) (fun g4 => ?_)
                · exact JF4 (Option.some.inj g4).symm _ _ hW hS
                · exact JT4 (Option.some.inj g4).symm _ _ hW hS
          refine z_icmp_ne hx hb d_cTokens_cutLine_45 rfl g3 (fun g3 => ?_) (fun g3 => ?_)
          · refine lv_iload_n hx hb d_cTokens_cutLine_56 rfl (lv_at hl 3 rfl) ?_
            refine lv_iload_n hx hb d_cTokens_cutLine_57 rfl (lv_at hl 0 rfl) ?_
            obtain ⟨p2, g10, g3⟩ := ze1 g3
            refine z_callSi (As := [.int (zI p1)]) (rest := [.int (zI v1)]) (k_cTokens_widthOf F _ _ g10) M hml (cw_cTokens_widthOf M.2.2.1 (M.2.2.1 _ w_411) (by rw [hR]; exact Nat.le_of_ble_eq_true rfl) (by rw [hR]; exact Nat.le_of_ble_eq_true rfl)) hB hW hS rfl hl.1 rfl (Nat.le_of_ble_eq_true rfl) d_cTokens_cutLine_58 (by rw [hR]; exact ⟨Nat.zero_le _, Nat.zero_le _⟩) (fun H locs hW hS => ?_)
            refine z_iadd hx hb d_cTokens_cutLine_61 ?_
            cases g3
            exact J3 _ _ _ (lv_sub hl [2, 3, 0] rfl) hW hS
          · refine lv_aload_n hx hb d_cTokens_cutLine_48 rfl (lv_at hl 2 rfl) ?_
            refine lv_iload_n hx hb d_cTokens_cutLine_49 rfl (lv_at hl 3 rfl) ?_
            obtain ⟨p3, g11, g3⟩ := ze1 g3
            refine z_callVi (As := [.int (zI v1)]) (rest := []) (k_cTokens_wordEnd F _ _ g11) M hml (cw_cTokens_wordEnd M.2.2.1 (M.2.2.1 _ w_407) (by rw [hR]; exact Nat.le_of_ble_eq_true rfl) (by rw [hR]; exact Nat.le_of_ble_eq_true rfl)) (zv_Tk hK hW) hB hW hS rfl hl.1 rfl (Nat.le_of_ble_eq_true rfl) d_cTokens_cutLine_50 (by rw [hR]; exact ⟨Nat.zero_le _, Nat.zero_le _⟩) (fun H locs hW hS => ?_)
            refine lv_goto hx hb d_cTokens_cutLine_53 rfl ?_
            cases g3
            exact J3 _ _ _ (lv_sub hl [2, 3, 0] rfl) hW hS
  rw [cTokens_cutLine] at hf
  refine lv_aload_n hx hb d_cTokens_cutLine_0 rfl (lv_at hl 0 rfl) ?_
  refine z_iconst hx hb d_cTokens_cutLine_1 ?_
  refine zp_Tk_count M hW hS (M.2.2.1 _ w_134) d_cTokens_cutLine_2 (fun H locs hW hS => ?_)
  refine z_iconst hx hb d_cTokens_cutLine_5 ?_
  refine lv_istore_n (lv' := [(1, .int (zI 0)), (0, .ref (ad (0, 1)))]) hx hb d_cTokens_cutLine_6 rfl hl (by decide) rfl (fun ls hl => ?_)
  exact C_7 F _ _ _ _ _ hf (lv_sub hl [1, 0] rfl) hW hS
set_option maxRecDepth 100000 in
set_option maxHeartbeats 4000000 in
theorem k_cTokens_kindAt {l : Launch} {D : va_G} {B : Nat} {y : Nat → ClassId} {ad : Nat × Nat → Nat} {q : Bool} {r : ZR} (F : Nat) (u : ZC) (v1 : Int) {res : Int} (hf : cTokens_kindAt F u v1 = some res) : Met l y_cTokens_kindAt (.code y_cTokens_kindAt b_cTokens_kindAt 2 (some .int) :: zt) { frames := 0, cells := 0, slots := 0, locals := 0 } (va_Pc [.ref (ad (0, 1)), .int (zI v1)] (fun U => ZP D B y ad q u r U)) (va_Qi (fun v (_ : Unit) => v = zI res) (fun _ t => ZP D B y ad q u r t) (fun x => B ≤ x)) 0 0 (fun x => B ≤ x) := by
  refine Met.ofW (cc := b_cTokens_kindAt) (maxL := 2) (ret := (some .int)) (by decide) rfl ?_
  intro p e s m args below meth c s₁ Bd hml hv
  obtain ⟨hargs, hB, hW, hK⟩ := hv
  have hx := Bd.exec
  have hb := Bd.bytes
  have hr := Bd.returns
  have hts0 := atoms_spec (ws := .code y_cTokens_kindAt b_cTokens_kindAt 2 (some .int) :: zt) Bd.pre
  have hown : s.vm.findClass "TreeShell$Tokens" = some m.cls := findClass_of_methodNamed Bd.named
  have hlocks := Bd.notSynchronized
  have M : ZM p c b_cTokens_kindAt s args m "TreeShell$Tokens" D y := ⟨hx, hb, fun w h => hts0 w (List.mem_cons_of_mem _ h), hown, hK⟩
  have hS : va_S (fun x => B ≤ x) s.heap s.heap [] := va_S.rf
  have hE := lg_entry_eq m ([.ref (ad (0, 1)), .int (zI v1)] : List Value) 2
  rw [← hargs] at hE
  rw [hE]
  have hl := lv_entry ([.ref (ad (0, 1)), .int (zI v1)] : List Value) (n := 2) (Nat.le_of_ble_eq_true rfl)
  generalize (lg_sl ([.ref (ad (0, 1)), .int (zI v1)] : List Value) ++ List.replicate (2 - (lg_sl ([.ref (ad (0, 1)), .int (zI v1)] : List Value)).length) Slot.unset).toArray = ls at hl ⊢
  have hl : lv_has ls 2 [(0, .ref (ad (0, 1))), (1, .int (zI v1))] := hl
  refine z_start (fun Q R hQ hR => ?_)
  generalize hH : s.heap = H at hW
  have hS : va_S (fun x => B ≤ x) s.heap H [] := by rw [← hH]; exact hS
  rw [cTokens_kindAt] at hf
  refine lv_iload_n hx hb d_cTokens_kindAt_0 rfl (lv_at hl 1 rfl) ?_
  obtain ⟨x2, g1, hf⟩ := ze1 hf
  have J1 : ∀ (H : Heap) (locs : List Loc) (ls : Array Slot), lv_has ls 2 [] → ZW D B y ad q u r H → va_S (fun x => B ≤ x) s.heap H locs → W p l e R s m args below meth c H locs 0 0 Q (F0 m 23 ls [.int (zI x2)]) := by
    intro H locs ls hl hW hS
    cases hf
    subst hQ
    exact z_reti hx hb hr hlocks hB hK hW hS d_cTokens_kindAt_23
  obtain ⟨b1, g2, g1⟩ := ze1 g1
  have JT2 : b1 = true → ∀ (H : Heap) (locs : List Loc), ZW D B y ad q u r H → va_S (fun x => B ≤ x) s.heap H locs → W p l e R s m args below meth c H locs 0 0 Q (F0 m 21 ls []) := by
    intro hv H locs hW hS
    have g1 := zp (hv) g1
    refine z_bipush hx hb d_cTokens_kindAt_21 rfl ?_
    cases g1
    exact J1 _ _ _ (lv_sub hl [] rfl) hW hS
  have JF2 : b1 = false → ∀ (H : Heap) (locs : List Loc), ZW D B y ad q u r H → va_S (fun x => B ≤ x) s.heap H locs → W p l e R s m args below meth c H locs 0 0 Q (F0 m 12 ls []) := by
    intro hv H locs hW hS
    have g1 := zn (by rw [hv]; decide) g1
    refine lv_aload_n hx hb d_cTokens_kindAt_12 rfl (lv_at hl 0 rfl) ?_
    refine zg_Tk_kinds M hW (M.2.2.1 _ w_129) d_cTokens_kindAt_13 ?_
    refine lv_iload_n hx hb d_cTokens_kindAt_16 rfl (lv_at hl 1 rfl) ?_
    obtain ⟨g3, g1⟩ := zg g1
    refine za_8 M hW g3 d_cTokens_kindAt_17 ?_
    refine lv_goto hx hb d_cTokens_kindAt_18 rfl ?_
    cases g1
    exact J1 _ _ _ (lv_sub hl [] rfl) hW hS
  refine z_if_lt hx hb d_cTokens_kindAt_1 rfl g2 (fun g2 => ?_) (fun g2 => ?_)
  · exact JT2 (Option.some.inj g2).symm _ _ hW hS
  · refine lv_iload_n hx hb d_cTokens_kindAt_4 rfl (lv_at hl 1 rfl) ?_
    refine lv_aload_n hx hb d_cTokens_kindAt_5 rfl (lv_at hl 0 rfl) ?_
    refine zg_Tk_count M hW (M.2.2.1 _ w_134) d_cTokens_kindAt_6 ?_
    refine z_icmp_ge hx hb d_cTokens_kindAt_9 rfl g2 (fun g2 => ?_) (fun g2 => ?_)
    · exact JT2 (Option.some.inj g2).symm _ _ hW hS
    · exact JF2 (Option.some.inj g2).symm _ _ hW hS
set_option maxRecDepth 100000 in
set_option maxHeartbeats 4000000 in
theorem k_cTokens_isRedirection {l : Launch} {D : va_G} {B : Nat} {y : Nat → ClassId} {ad : Nat × Nat → Nat} {q : Bool} {r : ZR} (F : Nat) (u : ZC) (v1 : Int) {res : Int} (hf : cTokens_isRedirection F u v1 = some res) : Met l y_cTokens_isRedirection (.code y_cTokens_isRedirection b_cTokens_isRedirection 2 (some .boolean) :: zt) { frames := 0, cells := 0, slots := 0, locals := 0 } (va_Pc [.ref (ad (0, 1)), .int (zI v1)] (fun U => ZP D B y ad q u r U)) (va_Qi (fun v (_ : Unit) => v = zI res) (fun _ t => ZP D B y ad q u r t) (fun x => B ≤ x)) 0 0 (fun x => B ≤ x) := by
  refine Met.ofW (cc := b_cTokens_isRedirection) (maxL := 2) (ret := (some .boolean)) (by decide) rfl ?_
  intro p e s m args below meth c s₁ Bd hml hv
  obtain ⟨hargs, hB, hW, hK⟩ := hv
  have hx := Bd.exec
  have hb := Bd.bytes
  have hr := Bd.returns
  have hts0 := atoms_spec (ws := .code y_cTokens_isRedirection b_cTokens_isRedirection 2 (some .boolean) :: zt) Bd.pre
  have hown : s.vm.findClass "TreeShell$Tokens" = some m.cls := findClass_of_methodNamed Bd.named
  have hlocks := Bd.notSynchronized
  have M : ZM p c b_cTokens_isRedirection s args m "TreeShell$Tokens" D y := ⟨hx, hb, fun w h => hts0 w (List.mem_cons_of_mem _ h), hown, hK⟩
  have hS : va_S (fun x => B ≤ x) s.heap s.heap [] := va_S.rf
  have hE := lg_entry_eq m ([.ref (ad (0, 1)), .int (zI v1)] : List Value) 2
  rw [← hargs] at hE
  rw [hE]
  have hl := lv_entry ([.ref (ad (0, 1)), .int (zI v1)] : List Value) (n := 2) (Nat.le_of_ble_eq_true rfl)
  generalize (lg_sl ([.ref (ad (0, 1)), .int (zI v1)] : List Value) ++ List.replicate (2 - (lg_sl ([.ref (ad (0, 1)), .int (zI v1)] : List Value)).length) Slot.unset).toArray = ls at hl ⊢
  have hl : lv_has ls 2 [(0, .ref (ad (0, 1))), (1, .int (zI v1))] := hl
  refine z_start (fun Q R hQ hR => ?_)
  generalize hH : s.heap = H at hW
  have hS : va_S (fun x => B ≤ x) s.heap H [] := by rw [← hH]; exact hS
  rw [cTokens_isRedirection] at hf
  refine lv_iload_n hx hb d_cTokens_isRedirection_0 rfl (lv_at hl 1 rfl) ?_
  obtain ⟨x2, g1, hf⟩ := ze1 hf
  have J1 : ∀ (H : Heap) (locs : List Loc) (ls : Array Slot), lv_has ls 2 [] → ZW D B y ad q u r H → va_S (fun x => B ≤ x) s.heap H locs → W p l e R s m args below meth c H locs 0 0 Q (F0 m 39 ls [.int (zI x2)]) := by
    intro H locs ls hl hW hS
    obtain ⟨g2, hf⟩ := zg hf
    cases hf
    subst hQ
    exact z_retz hx hb g2 hr hlocks hB hK hW hS d_cTokens_isRedirection_39
  obtain ⟨b1, g3, g1⟩ := ze1 g1
  have JT3 : b1 = true → ∀ (H : Heap) (locs : List Loc), ZW D B y ad q u r H → va_S (fun x => B ≤ x) s.heap H locs → W p l e R s m args below meth c H locs 0 0 Q (F0 m 38 ls []) := by
    intro hv H locs hW hS
    have g1 := zp (hv) g1
    refine z_iconst hx hb d_cTokens_isRedirection_38 ?_
    cases g1
    exact J1 _ _ _ (lv_sub hl [] rfl) hW hS
  have JF3 : b1 = false → ∀ (H : Heap) (locs : List Loc), ZW D B y ad q u r H → va_S (fun x => B ≤ x) s.heap H locs → W p l e R s m args below meth c H locs 0 0 Q (F0 m 34 ls []) := by
    intro hv H locs hW hS
    have g1 := zn (by rw [hv]; decide) g1
    refine z_iconst hx hb d_cTokens_isRedirection_34 ?_
    refine lv_goto hx hb d_cTokens_isRedirection_35 rfl ?_
    cases g1
    exact J1 _ _ _ (lv_sub hl [] rfl) hW hS
  refine z_if_lt hx hb d_cTokens_isRedirection_1 rfl g3 (fun g3 => ?_) (fun g3 => ?_)
  · exact JT3 (Option.some.inj g3).symm _ _ hW hS
  · refine lv_iload_n hx hb d_cTokens_isRedirection_4 rfl (lv_at hl 1 rfl) ?_
    refine lv_aload_n hx hb d_cTokens_isRedirection_5 rfl (lv_at hl 0 rfl) ?_
    refine zg_Tk_count M hW (M.2.2.1 _ w_134) d_cTokens_isRedirection_6 ?_
    refine z_icmp_ge hx hb d_cTokens_isRedirection_9 rfl g3 (fun g3 => ?_) (fun g3 => ?_)
    · exact JT3 (Option.some.inj g3).symm _ _ hW hS
    · refine lv_aload_n hx hb d_cTokens_isRedirection_12 rfl (lv_at hl 0 rfl) ?_
      refine zg_Tk_kinds M hW (M.2.2.1 _ w_129) d_cTokens_isRedirection_13 ?_
      refine lv_iload_n hx hb d_cTokens_isRedirection_16 rfl (lv_at hl 1 rfl) ?_
      obtain ⟨g4, g3⟩ := zg g3
      refine za_8 M hW g4 d_cTokens_isRedirection_17 ?_
      refine z_bipush hx hb d_cTokens_isRedirection_18 rfl ?_
      refine z_icmp_lt hx hb d_cTokens_isRedirection_20 rfl g3 (fun g3 => ?_) (fun g3 => ?_)
      · exact JT3 (Option.some.inj g3).symm _ _ hW hS
      · refine lv_aload_n hx hb d_cTokens_isRedirection_23 rfl (lv_at hl 0 rfl) ?_
        refine zg_Tk_kinds M hW (M.2.2.1 _ w_129) d_cTokens_isRedirection_24 ?_
        refine lv_iload_n hx hb d_cTokens_isRedirection_27 rfl (lv_at hl 1 rfl) ?_
        refine za_8 M hW g4 d_cTokens_isRedirection_28 ?_
        refine z_bipush hx hb d_cTokens_isRedirection_29 rfl ?_
        refine z_icmp_gt hx hb d_cTokens_isRedirection_31 rfl g3 (fun g3 => ?_) (fun g3 => ?_)
        · exact JT3 (Option.some.inj g3).symm _ _ hW hS
        · exact JF3 (Option.some.inj g3).symm _ _ hW hS
set_option maxRecDepth 100000 in
set_option maxHeartbeats 4000000 in
theorem k_cTokens_countWords {l : Launch} {D : va_G} {B : Nat} {y : Nat → ClassId} {ad : Nat × Nat → Nat} {q : Bool} {r : ZR} (F : Nat) (u : ZC) {res : Int} (hf : cTokens_countWords F u = some res) : Met l y_cTokens_countWords (.code y_cTokens_countWords b_cTokens_countWords 3 (some .int) :: zt) { frames := 0, cells := 0, slots := 0, locals := 0 } (va_Pc [.ref (ad (0, 1))] (fun U => ZP D B y ad q u r U)) (va_Qi (fun v (_ : Unit) => v = zI res) (fun _ t => ZP D B y ad q u r t) (fun x => B ≤ x)) 0 0 (fun x => B ≤ x) := by
  refine Met.ofW (cc := b_cTokens_countWords) (maxL := 3) (ret := (some .int)) (by decide) rfl ?_
  intro p e s m args below meth c s₁ Bd hml hv
  obtain ⟨hargs, hB, hW, hK⟩ := hv
  have hx := Bd.exec
  have hb := Bd.bytes
  have hr := Bd.returns
  have hts0 := atoms_spec (ws := .code y_cTokens_countWords b_cTokens_countWords 3 (some .int) :: zt) Bd.pre
  have hown : s.vm.findClass "TreeShell$Tokens" = some m.cls := findClass_of_methodNamed Bd.named
  have hlocks := Bd.notSynchronized
  have M : ZM p c b_cTokens_countWords s args m "TreeShell$Tokens" D y := ⟨hx, hb, fun w h => hts0 w (List.mem_cons_of_mem _ h), hown, hK⟩
  have hS : va_S (fun x => B ≤ x) s.heap s.heap [] := va_S.rf
  have hE := lg_entry_eq m ([.ref (ad (0, 1))] : List Value) 3
  rw [← hargs] at hE
  rw [hE]
  have hl := lv_entry ([.ref (ad (0, 1))] : List Value) (n := 3) (Nat.le_of_ble_eq_true rfl)
  generalize (lg_sl ([.ref (ad (0, 1))] : List Value) ++ List.replicate (3 - (lg_sl ([.ref (ad (0, 1))] : List Value)).length) Slot.unset).toArray = ls at hl ⊢
  have hl : lv_has ls 3 [(0, .ref (ad (0, 1)))] := hl
  refine z_start (fun Q R hQ hR => ?_)
  generalize hH : s.heap = H at hW
  have hS : va_S (fun x => B ≤ x) s.heap H [] := by rw [← hH]; exact hS
  have C_4 : ∀ (n : Nat), ∀ (v1 : Int) (v2 : Int) (H : Heap) (locs : List Loc) (ls : Array Slot), cTokens_countWords_4 F n u v1 v2 = some res → lv_has ls 3 [(0, .ref (ad (0, 1))), (1, .int (zI v1)), (2, .int (zI v2))] → ZW D B y ad q u r H → va_S (fun x => B ≤ x) s.heap H locs → W p l e R s m args below meth c H locs 0 0 Q (F0 m 4 ls []) := by
    intro n
    induction n with
    | zero => intro v1 v2 H locs ls hf; cases (show (none : Option (Int)) = some res from hf)
    | succ n ih =>
      intro v1 v2 H locs ls hf hl hW hS
      rw [cTokens_countWords_4] at hf
      refine lv_iload_n hx hb d_cTokens_countWords_4 rfl (lv_at hl 2 rfl) ?_
      refine lv_aload_n hx hb d_cTokens_countWords_5 rfl (lv_at hl 0 rfl) ?_
      refine zg_Tk_count M hW (M.2.2.1 _ w_134) d_cTokens_countWords_6 ?_
      refine z_icmp_ge hx hb d_cTokens_countWords_9 rfl hf (fun hf => ?_) (fun hf => ?_)
      · refine lv_iload_n hx hb d_cTokens_countWords_37 rfl (lv_at hl 1 rfl) ?_
        cases hf
        subst hQ
        exact z_reti hx hb hr hlocks hB hK hW hS d_cTokens_countWords_38
      · refine lv_iload_n hx hb d_cTokens_countWords_12 rfl (lv_at hl 1 rfl) ?_
        refine lv_aload_n hx hb d_cTokens_countWords_13 rfl (lv_at hl 0 rfl) ?_
        refine zg_Tk_kinds M hW (M.2.2.1 _ w_129) d_cTokens_countWords_14 ?_
        refine lv_iload_n hx hb d_cTokens_countWords_17 rfl (lv_at hl 2 rfl) ?_
        obtain ⟨g1, hf⟩ := zg hf
        refine za_8 M hW g1 d_cTokens_countWords_18 ?_
        refine z_bipush hx hb d_cTokens_countWords_19 rfl ?_
        obtain ⟨x1, g2, hf⟩ := ze1 hf
        have J2 : ∀ (H : Heap) (locs : List Loc) (ls : Array Slot), lv_has ls 3 [(0, .ref (ad (0, 1))), (2, .int (zI v2))] → ZW D B y ad q u r H → va_S (fun x => B ≤ x) s.heap H locs → W p l e R s m args below meth c H locs 0 0 Q (F0 m 29 ls [.int (zI x1), .int (zI v1)]) := by
          intro H locs ls hl hW hS
          refine z_iadd hx hb d_cTokens_countWords_29 ?_
          refine lv_istore_n (lv' := [(1, .int (zI (v1 + x1))), (0, .ref (ad (0, 1))), (2, .int (zI v2))]) hx hb d_cTokens_countWords_30 rfl hl (by decide) rfl (fun ls hl => ?_)
          refine lv_iinc (k := 2) (v := zI (v2 + 1)) (lv' := [(2, .int (zI (v2 + 1))), (1, .int (zI (v1 + x1))), (0, .ref (ad (0, 1)))]) hx hb d_cTokens_countWords_31 hl rfl (zI_add _ _) (by decide) rfl (fun ls hl => ?_)
          refine lv_goto hx hb d_cTokens_countWords_34 rfl ?_
          exact ih _ _ _ _ _ hf (lv_sub hl [2, 1, 0] rfl) hW hS
        refine z_icmp_ne hx hb d_cTokens_countWords_21 rfl g2 (fun g2 => ?_) (fun g2 => ?_)
        · refine z_iconst hx hb d_cTokens_countWords_28 ?_
          cases g2
          exact J2 _ _ _ (lv_sub hl [0, 2] rfl) hW hS
        · refine z_iconst hx hb d_cTokens_countWords_24 ?_
          refine lv_goto hx hb d_cTokens_countWords_25 rfl ?_
          cases g2
          exact J2 _ _ _ (lv_sub hl [0, 2] rfl) hW hS
  rw [cTokens_countWords] at hf
  refine z_iconst hx hb d_cTokens_countWords_0 ?_
  refine lv_istore_n (lv' := [(1, .int (zI 0)), (0, .ref (ad (0, 1)))]) hx hb d_cTokens_countWords_1 rfl hl (by decide) rfl (fun ls hl => ?_)
  refine z_iconst hx hb d_cTokens_countWords_2 ?_
  refine lv_istore_n (lv' := [(2, .int (zI 0)), (1, .int (zI 0)), (0, .ref (ad (0, 1)))]) hx hb d_cTokens_countWords_3 rfl hl (by decide) rfl (fun ls hl => ?_)
  exact C_4 F _ _ _ _ _ hf (lv_sub hl [2, 1, 0] rfl) hW hS
set_option maxRecDepth 100000 in
set_option maxHeartbeats 4000000 in
theorem k_cTokens_find {l : Launch} {D : va_G} {B : Nat} {y : Nat → ClassId} {ad : Nat × Nat → Nat} {q : Bool} {r : ZR} (F : Nat) (u : ZC) (v1 : Int) (v2 : Int) (v3 : Int) (v4 : Int) {res : Int} (hf : cTokens_find F u v1 v2 v3 v4 = some res) : Met l y_cTokens_find (.code y_cTokens_find b_cTokens_find 8 (some .int) :: zt) { frames := 1, cells := 0, slots := 0, locals := 21 } (va_Pc [.ref (ad (0, 1)), .int (zI v1), .int (zI v2), .int (zI v3), .int (zI v4)] (fun U => ZP D B y ad q u r U)) (va_Qi (fun v (_ : Unit) => v = zI res) (fun _ t => ZP D B y ad q u r t) (fun x => B ≤ x)) 0 0 (fun x => B ≤ x) := by
  refine Met.ofW (cc := b_cTokens_find) (maxL := 8) (ret := (some .int)) (by decide) rfl ?_
  intro p e s m args below meth c s₁ Bd hml hv
  obtain ⟨hargs, hB, hW, hK⟩ := hv
  have hx := Bd.exec
  have hb := Bd.bytes
  have hr := Bd.returns
  have hts0 := atoms_spec (ws := .code y_cTokens_find b_cTokens_find 8 (some .int) :: zt) Bd.pre
  have hown : s.vm.findClass "TreeShell$Tokens" = some m.cls := findClass_of_methodNamed Bd.named
  have hlocks := Bd.notSynchronized
  have M : ZM p c b_cTokens_find s args m "TreeShell$Tokens" D y := ⟨hx, hb, fun w h => hts0 w (List.mem_cons_of_mem _ h), hown, hK⟩
  have hS : va_S (fun x => B ≤ x) s.heap s.heap [] := va_S.rf
  have hE := lg_entry_eq m ([.ref (ad (0, 1)), .int (zI v1), .int (zI v2), .int (zI v3), .int (zI v4)] : List Value) 8
  rw [← hargs] at hE
  rw [hE]
  have hl := lv_entry ([.ref (ad (0, 1)), .int (zI v1), .int (zI v2), .int (zI v3), .int (zI v4)] : List Value) (n := 8) (Nat.le_of_ble_eq_true rfl)
  generalize (lg_sl ([.ref (ad (0, 1)), .int (zI v1), .int (zI v2), .int (zI v3), .int (zI v4)] : List Value) ++ List.replicate (8 - (lg_sl ([.ref (ad (0, 1)), .int (zI v1), .int (zI v2), .int (zI v3), .int (zI v4)] : List Value)).length) Slot.unset).toArray = ls at hl ⊢
  have hl : lv_has ls 8 [(0, .ref (ad (0, 1))), (1, .int (zI v1)), (2, .int (zI v2)), (3, .int (zI v3)), (4, .int (zI v4))] := hl
  refine z_start (fun Q R hQ hR => ?_)
  generalize hH : s.heap = H at hW
  have hS : va_S (fun x => B ≤ x) s.heap H [] := by rw [← hH]; exact hS
  have C_6 : ∀ (n : Nat), ∀ (v2 : Int) (v3 : Int) (v4 : Int) (v5 : Int) (v6 : Int) (H : Heap) (locs : List Loc) (ls : Array Slot), cTokens_find_6 F n u v2 v3 v4 v5 v6 = some res → lv_has ls 8 [(0, .ref (ad (0, 1))), (2, .int (zI v2)), (3, .int (zI v3)), (4, .int (zI v4)), (5, .int (zI v5)), (6, .int (zI v6))] → ZW D B y ad q u r H → va_S (fun x => B ≤ x) s.heap H locs → W p l e R s m args below meth c H locs 0 0 Q (F0 m 6 ls []) := by
    intro n
    induction n with
    | zero => intro v2 v3 v4 v5 v6 H locs ls hf; cases (show (none : Option (Int)) = some res from hf)
    | succ n ih =>
      intro v2 v3 v4 v5 v6 H locs ls hf hl hW hS
      rw [cTokens_find_6] at hf
      refine lv_iload hx hb d_cTokens_find_6 (lv_at hl 5 rfl) ?_
      refine lv_iload_n hx hb d_cTokens_find_8 rfl (lv_at hl 1 rfl) ?_
      refine z_icmp_ge hx hb d_cTokens_find_9 rfl hf (fun hf => ?_) (fun hf => ?_)
      · refine lv_iload_n hx hb d_cTokens_find_69 rfl (lv_at hl 1 rfl) ?_
        cases hf
        subst hQ
        exact z_reti hx hb hr hlocks hB hK hW hS d_cTokens_find_70
      · refine lv_aload_n hx hb d_cTokens_find_12 rfl (lv_at hl 0 rfl) ?_
        refine lv_iload hx hb d_cTokens_find_13 (lv_at hl 5 rfl) ?_
        obtain ⟨p1, g1, hf⟩ := ze1 hf
        refine z_callVi (As := [.int (zI v6)]) (rest := []) (k_cTokens_kindAt F _ _ g1) M hml (cw_cTokens_kindAt M.2.2.1 (M.2.2.1 _ w_468) (by rw [hR]; exact Nat.le_of_ble_eq_true rfl) (by rw [hR]; exact Nat.le_of_ble_eq_true rfl)) (zv_Tk hK hW) hB hW hS rfl hl.1 rfl (Nat.le_of_ble_eq_true rfl) d_cTokens_find_15 (by rw [hR]; exact ⟨Nat.zero_le _, Nat.zero_le _⟩) (fun H locs hW hS => ?_)
        refine lv_istore (lv' := [(7, .int (zI p1)), (0, .ref (ad (0, 1))), (2, .int (zI v2)), (3, .int (zI v3)), (4, .int (zI v4)), (5, .int (zI v5)), (6, .int (zI v6))]) hx hb d_cTokens_find_18 hl (by decide) rfl (fun ls hl => ?_)
        refine lv_iload hx hb d_cTokens_find_20 (lv_at hl 5 rfl) ?_
        obtain ⟨b2, g2, hf⟩ := ze1 hf
        have JT2 : b2 = true → ∀ (H : Heap) (locs : List Loc), ZW D B y ad q u r H → va_S (fun x => B ≤ x) s.heap H locs → W p l e R s m args below meth c H locs 0 0 Q (F0 m 41 ls []) := by
          intro hv H locs hW hS
          have hf := zp (hv) hf
          refine lv_iload hx hb d_cTokens_find_41 (lv_at hl 0 rfl) ?_
          refine z_iconst hx hb d_cTokens_find_43 ?_
          obtain ⟨x3, g3, hf⟩ := ze1 hf
          have J3 : ∀ (H : Heap) (locs : List Loc) (ls : Array Slot), lv_has ls 8 [(0, .ref (ad (0, 1))), (2, .int (zI v2)), (3, .int (zI v3)), (4, .int (zI v4)), (5, .int (zI x3)), (6, .int (zI v6))] → ZW D B y ad q u r H → va_S (fun x => B ≤ x) s.heap H locs → W p l e R s m args below meth c H locs 0 0 Q (F0 m 63 ls []) := by
            intro H locs ls hl hW hS
            refine lv_iinc (k := 5) (v := zI (v6 + 1)) (lv' := [(6, .int (zI (v6 + 1))), (0, .ref (ad (0, 1))), (2, .int (zI v2)), (3, .int (zI v3)), (4, .int (zI v4)), (5, .int (zI x3))]) hx hb d_cTokens_find_63 hl rfl (zI_add _ _) (by decide) rfl (fun ls hl => ?_)
            refine lv_goto hx hb d_cTokens_find_66 rfl ?_
            exact ih _ _ _ _ _ _ _ _ hf (lv_sub hl [1, 2, 3, 4, 5, 0] rfl) hW hS
          refine z_icmp_ne hx hb d_cTokens_find_44 rfl g3 (fun g3 => ?_) (fun g3 => ?_)
          · refine lv_iload hx hb d_cTokens_find_53 (lv_at hl 0 rfl) ?_
            refine z_bipush hx hb d_cTokens_find_55 rfl ?_
            refine z_icmp_ne hx hb d_cTokens_find_57 rfl g3 (fun g3 => ?_) (fun g3 => ?_)
            · cases g3
              exact J3 _ _ _ (lv_sub hl [1, 2, 3, 4, 5, 6] rfl) hW hS
            · refine lv_iinc (k := 5) (v := zI (v5 + (-1))) (lv' := [(5, .int (zI (v5 + (-1)))), (7, .int (zI p1)), (0, .ref (ad (0, 1))), (2, .int (zI v2)), (3, .int (zI v3)), (4, .int (zI v4)), (6, .int (zI v6))]) hx hb d_cTokens_find_60 hl rfl (zI_add _ _) (by decide) rfl (fun ls hl => ?_)
              cases g3
              exact J3 _ _ _ (lv_sub hl [2, 3, 4, 5, 0, 6] rfl) hW hS
          · refine lv_iinc (k := 5) (v := zI (v5 + 1)) (lv' := [(5, .int (zI (v5 + 1))), (7, .int (zI p1)), (0, .ref (ad (0, 1))), (2, .int (zI v2)), (3, .int (zI v3)), (4, .int (zI v4)), (6, .int (zI v6))]) hx hb d_cTokens_find_47 hl rfl (zI_add _ _) (by decide) rfl (fun ls hl => ?_)
            refine lv_goto hx hb d_cTokens_find_50 rfl ?_
            cases g3
            exact J3 _ _ _ (lv_sub hl [2, 3, 4, 5, 0, 6] rfl) hW hS
        have JF2 : b2 = false → ∀ (H : Heap) (locs : List Loc), ZW D B y ad q u r H → va_S (fun x => B ≤ x) s.heap H locs → W p l e R s m args below meth c H locs 0 0 Q (F0 m 38 ls []) := by
          intro hv H locs hW hS
          have hf := zn (by rw [hv]; decide) hf
          refine lv_iload hx hb d_cTokens_find_38 (lv_at hl 6 rfl) ?_
          cases hf
          subst hQ
          exact z_reti hx hb hr hlocks hB hK hW hS d_cTokens_find_40
        refine z_if_ne hx hb d_cTokens_find_22 rfl g2 (fun g2 => ?_) (fun g2 => ?_)
        · exact JT2 (Option.some.inj g2).symm _ _ hW hS
        · refine lv_iload hx hb d_cTokens_find_25 (lv_at hl 0 rfl) ?_
          refine lv_iload_n hx hb d_cTokens_find_27 rfl (lv_at hl 3 rfl) ?_
          refine z_icmp_lt hx hb d_cTokens_find_28 rfl g2 (fun g2 => ?_) (fun g2 => ?_)
          · exact JT2 (Option.some.inj g2).symm _ _ hW hS
          · refine lv_iload hx hb d_cTokens_find_31 (lv_at hl 0 rfl) ?_
            refine lv_iload hx hb d_cTokens_find_33 (lv_at hl 4 rfl) ?_
            refine z_icmp_gt hx hb d_cTokens_find_35 rfl g2 (fun g2 => ?_) (fun g2 => ?_)
            · exact JT2 (Option.some.inj g2).symm _ _ hW hS
            · exact JF2 (Option.some.inj g2).symm _ _ hW hS
  rw [cTokens_find] at hf
  refine z_iconst hx hb d_cTokens_find_0 ?_
  refine lv_istore (lv' := [(5, .int (zI 0)), (0, .ref (ad (0, 1))), (1, .int (zI v1)), (2, .int (zI v2)), (3, .int (zI v3)), (4, .int (zI v4))]) hx hb d_cTokens_find_1 hl (by decide) rfl (fun ls hl => ?_)
  refine lv_iload_n hx hb d_cTokens_find_3 rfl (lv_at hl 2 rfl) ?_
  refine lv_istore (lv' := [(6, .int (zI v1)), (5, .int (zI 0)), (0, .ref (ad (0, 1))), (1, .int (zI v1)), (2, .int (zI v2)), (3, .int (zI v3)), (4, .int (zI v4))]) hx hb d_cTokens_find_4 hl (by decide) rfl (fun ls hl => ?_)
  exact C_6 F _ _ _ _ _ _ _ _ hf (lv_sub hl [2, 4, 5, 6, 1, 0] rfl) hW hS
