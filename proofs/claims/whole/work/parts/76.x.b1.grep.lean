set_option maxRecDepth 100000 in
set_option maxHeartbeats 4000000 in
theorem k_cTools_grep {l : Launch} {D : va_G} {B : Nat} {y : Nat → ClassId} {ad : Nat × Nat → Nat} {q : Bool} {r : ZR} {sa sv : Nat → Nat} (F : Nat) (u : ZC) (v1 : Nat) (v2 : Nat) {res : Int} {uo : ZC} (hf : cTools_grep F u v1 v2 = some (res, uo)) : Met l y_cTools_grep (.code y_cTools_grep b_cTools_grep 11 (some .int) :: zt) { frames := 6, cells := 0, slots := 0, locals := 169 } (va_Pc [.ref (ad (0, 6)), .ref (ad (1, v1)), .ref (ad (1, v2))] (fun U => ZP D B y ad q u r U ∧ zX B sa sv U)) (va_Qi (fun v (_ : Unit) => v = zI res) (fun _ t => ZP D B y ad q uo r t) (fun x => B ≤ x)) 0 0 (fun x => B ≤ x) := by
  refine Met.ofW (cc := b_cTools_grep) (maxL := 11) (ret := (some .int)) (by decide) rfl ?_
  intro p e s m args below meth c s₁ Bd hml hv
  obtain ⟨hargs, ⟨hB, hW, hK⟩, hX⟩ := hv
  have hx := Bd.exec
  have hb := Bd.bytes
  have hr := Bd.returns
  have hts0 := atoms_spec (ws := .code y_cTools_grep b_cTools_grep 11 (some .int) :: zt) Bd.pre
  have hown : s.vm.findClass "TreeShell$Tools" = some m.cls := findClass_of_methodNamed Bd.named
  have hlocks := Bd.notSynchronized
  have M : ZM p c b_cTools_grep s args m "TreeShell$Tools" D y := ⟨hx, hb, fun w h => hts0 w (List.mem_cons_of_mem _ h), hown, hK⟩
  have hS : va_S (fun x => B ≤ x) s.heap s.heap [] := va_S.rf
  have hE := lg_entry_eq m ([.ref (ad (0, 6)), .ref (ad (1, v1)), .ref (ad (1, v2))] : List Value) 11
  rw [← hargs] at hE
  rw [hE]
  have hl := lv_entry ([.ref (ad (0, 6)), .ref (ad (1, v1)), .ref (ad (1, v2))] : List Value) (n := 11) (Nat.le_of_ble_eq_true rfl)
  generalize (lg_sl ([.ref (ad (0, 6)), .ref (ad (1, v1)), .ref (ad (1, v2))] : List Value) ++ List.replicate (11 - (lg_sl ([.ref (ad (0, 6)), .ref (ad (1, v1)), .ref (ad (1, v2))] : List Value)).length) Slot.unset).toArray = ls at hl ⊢
  have hl : lv_has ls 11 [(0, .ref (ad (0, 6))), (1, .ref (ad (1, v1))), (2, .ref (ad (1, v2)))] := hl
  refine z_start (fun Q R hQ hR => ?_)
  generalize hH : s.heap = H at hW
  have hS : va_S (fun x => B ≤ x) s.heap H [] := by rw [← hH]; exact hS
  have C_116 : ∀ (n : Nat), ∀ (u : ZC) (v1 : Nat) (v2 : Nat) (v3 : Int) (v4 : Int) (v5 : Int) (v6 : Nat) (v7 : Int) (v8 : Int) (v9 : Int) (H : Heap) (locs : List Loc) (ls : Array Slot), cTools_grep_116 F n u v1 v2 v3 v4 v5 v6 v7 v8 v9 = some (res, uo) → lv_has ls 11 [(0, .ref (ad (0, 6))), (1, .ref (ad (1, v1))), (2, .ref (ad (1, v2))), (3, .int (zI v3)), (4, .int (zI v4)), (5, .int (zI v5)), (6, .ref (ad (1, v6))), (7, .int (zI v7)), (8, .int (zI v8)), (9, .int (zI v9))] → ZW D B y ad q u r H → va_S (fun x => B ≤ x) s.heap H locs → W p l e R s m args below meth c H locs 0 0 Q (F0 m 116 ls []) := by
    intro n
    induction n with
    | zero => intro u v1 v2 v3 v4 v5 v6 v7 v8 v9 H locs ls hf; cases (show (none : Option (Int × ZC)) = some (res, uo) from hf)
    | succ n ih =>
      intro u v1 v2 v3 v4 v5 v6 v7 v8 v9 H locs ls hf hl hW hS
      rw [cTools_grep_116] at hf
      refine lv_iload hx hb d_cTools_grep_116 (lv_at hl 9 rfl) ?_
      refine lv_aload hx hb d_cTools_grep_118 (lv_at hl 6 rfl) ?_
      obtain ⟨g1, hf⟩ := zg hf
      refine zg_Tx_size M hW (zid_T g1) (M.2.2.1 _ w_109) d_cTools_grep_120 ?_
      refine z_icmp_gt hx hb d_cTools_grep_123 rfl hf (fun hf => ?_) (fun hf => ?_)
      · refine lv_iload hx hb d_cTools_grep_234 (lv_at hl 5 rfl) ?_
        obtain ⟨u12, g2, hf⟩ := ze1 hf
        have J2 : ∀ (H : Heap) (locs : List Loc) (ls : Array Slot), lv_has ls 11 [(7, .int (zI v7))] → ZW D B y ad q u12 r H → va_S (fun x => B ≤ x) s.heap H locs → W p l e R s m args below meth c H locs 0 0 Q (F0 m 243 ls []) := by
          intro H locs ls hl hW hS
          refine lv_iload hx hb d_cTools_grep_243 (lv_at hl 0 rfl) ?_
          cases hf
          subst hQ
          exact z_reti hx hb hr hlocks hB hK hW hS d_cTools_grep_245
        refine z_if_eq hx hb d_cTools_grep_236 rfl g2 (fun g2 => ?_) (fun g2 => ?_)
        · cases g2
          exact J2 _ _ _ (lv_sub hl [7] rfl) hW hS
        · refine lv_aload_n hx hb d_cTools_grep_239 rfl (lv_at hl 1 rfl) ?_
          obtain ⟨g3, g2⟩ := zg g2
          obtain ⟨u11, g4, g2⟩ := ze1 g2
          refine z_callVv (As := []) (rest := []) (k_cText_clear F _ _ g4) M hml (cw_cText_clear M.2.2.1 (M.2.2.1 _ w_637) (by rw [hR]; exact Nat.le_of_ble_eq_true rfl) (by rw [hR]; exact Nat.le_of_ble_eq_true rfl)) (zv_Tx hK hW (zid_T g3)) hB hW hS rfl hl.1 rfl (Nat.le_of_ble_eq_true rfl) d_cTools_grep_240 (by rw [hR]; exact ⟨Nat.zero_le _, Nat.zero_le _⟩) (fun H locs hW hS => ?_)
          cases g2
          exact J2 _ _ _ (lv_sub hl [7] rfl) hW hS
      · refine lv_iload hx hb d_cTools_grep_126 (lv_at hl 9 rfl) ?_
        refine lv_aload hx hb d_cTools_grep_128 (lv_at hl 6 rfl) ?_
        refine zg_Tx_size M hW (zid_T g1) (M.2.2.1 _ w_109) d_cTools_grep_130 ?_
        obtain ⟨x13, g5, hf⟩ := ze1 hf
        have J5 : ∀ (H : Heap) (locs : List Loc) (ls : Array Slot), lv_has ls 11 [(0, .ref (ad (0, 6))), (1, .ref (ad (1, v1))), (2, .ref (ad (1, v2))), (3, .int (zI v3)), (4, .int (zI v4)), (5, .int (zI v5)), (6, .ref (ad (1, v6))), (7, .int (zI v7)), (8, .int (zI v8)), (9, .int (zI v9))] → ZW D B y ad q u r H → va_S (fun x => B ≤ x) s.heap H locs → W p l e R s m args below meth c H locs 0 0 Q (F0 m 169 ls [.int (zI x13)]) := by
          intro H locs ls hl hW hS
          refine lv_istore (lv' := [(10, .int (zI x13)), (0, .ref (ad (0, 6))), (1, .ref (ad (1, v1))), (2, .ref (ad (1, v2))), (3, .int (zI v3)), (4, .int (zI v4)), (5, .int (zI v5)), (6, .ref (ad (1, v6))), (7, .int (zI v7)), (8, .int (zI v8)), (9, .int (zI v9))]) hx hb d_cTools_grep_169 hl (by decide) rfl (fun ls hl => ?_)
          refine lv_iload hx hb d_cTools_grep_171 (lv_at hl 0 rfl) ?_
          obtain ⟨x19, u20, g6, hf⟩ := ze2 hf
          have J6 : ∀ (H : Heap) (locs : List Loc) (ls : Array Slot), lv_has ls 11 [(0, .ref (ad (0, 6))), (1, .ref (ad (1, v1))), (2, .ref (ad (1, v2))), (3, .int (zI v3)), (4, .int (zI v4)), (5, .int (zI v5)), (6, .ref (ad (1, v6))), (7, .int (zI x19)), (8, .int (zI v8)), (9, .int (zI v9)), (10, .int (zI x13))] → ZW D B y ad q u20 r H → va_S (fun x => B ≤ x) s.heap H locs → W p l e R s m args below meth c H locs 0 0 Q (F0 m 212 ls []) := by
            intro H locs ls hl hW hS
            refine lv_iload hx hb d_cTools_grep_212 (lv_at hl 10 rfl) ?_
            obtain ⟨x21, g7, hf⟩ := ze1 hf
            have J7 : ∀ (H : Heap) (locs : List Loc) (ls : Array Slot), lv_has ls 11 [(0, .ref (ad (0, 6))), (1, .ref (ad (1, v1))), (2, .ref (ad (1, v2))), (3, .int (zI v3)), (4, .int (zI v4)), (5, .int (zI v5)), (6, .ref (ad (1, v6))), (7, .int (zI x19)), (9, .int (zI v9))] → ZW D B y ad q u20 r H → va_S (fun x => B ≤ x) s.heap H locs → W p l e R s m args below meth c H locs 0 0 Q (F0 m 226 ls [.int (zI x21)]) := by
              intro H locs ls hl hW hS
              refine lv_istore (lv' := [(8, .int (zI x21)), (0, .ref (ad (0, 6))), (1, .ref (ad (1, v1))), (2, .ref (ad (1, v2))), (3, .int (zI v3)), (4, .int (zI v4)), (5, .int (zI v5)), (6, .ref (ad (1, v6))), (7, .int (zI x19)), (9, .int (zI v9))]) hx hb d_cTools_grep_226 hl (by decide) rfl (fun ls hl => ?_)
              refine lv_iinc (k := 9) (v := zI (v9 + 1)) (lv' := [(9, .int (zI (v9 + 1))), (8, .int (zI x21)), (0, .ref (ad (0, 6))), (1, .ref (ad (1, v1))), (2, .ref (ad (1, v2))), (3, .int (zI v3)), (4, .int (zI v4)), (5, .int (zI v5)), (6, .ref (ad (1, v6))), (7, .int (zI x19))]) hx hb d_cTools_grep_228 hl rfl (zI_add _ _) (by decide) rfl (fun ls hl => ?_)
              refine lv_goto hx hb d_cTools_grep_231 rfl ?_
              exact ih _ _ _ _ _ _ _ _ _ _ _ _ _ hf (lv_sub hl [2, 3, 4, 5, 6, 7, 8, 9, 1, 0] rfl) hW hS
            refine z_if_eq hx hb d_cTools_grep_214 rfl g7 (fun g7 => ?_) (fun g7 => ?_)
            · refine lv_iload hx hb d_cTools_grep_224 (lv_at hl 8 rfl) ?_
              cases g7
              exact J7 _ _ _ (lv_sub hl [0, 1, 2, 3, 4, 5, 6, 7, 9] rfl) hW hS
            · refine lv_iload hx hb d_cTools_grep_217 (lv_at hl 9 rfl) ?_
              refine z_iconst hx hb d_cTools_grep_219 ?_
              refine z_iadd hx hb d_cTools_grep_220 ?_
              refine lv_goto hx hb d_cTools_grep_221 rfl ?_
              cases g7
              exact J7 _ _ _ (lv_sub hl [0, 1, 2, 3, 4, 5, 6, 7, 9] rfl) hW hS
          obtain ⟨b15, g8, g6⟩ := ze1 g6
          have JT8 : b15 = true → ∀ (H : Heap) (locs : List Loc), ZW D B y ad q u r H → va_S (fun x => B ≤ x) s.heap H locs → W p l e R s m args below meth c H locs 0 0 Q (F0 m 212 ls []) := by
            intro hv H locs hW hS
            have g6 := zp (hv) g6
            cases g6
            exact J6 _ _ _ (lv_sub hl [1, 2, 3, 4, 5, 6, 7, 8, 9, 10, 0] rfl) hW hS
          have JF8 : b15 = false → ∀ (H : Heap) (locs : List Loc), ZW D B y ad q u r H → va_S (fun x => B ≤ x) s.heap H locs → W p l e R s m args below meth c H locs 0 0 Q (F0 m 192 ls []) := by
            intro hv H locs hW hS
            have g6 := zn (by rw [hv]; decide) g6
            refine lv_aload_n hx hb d_cTools_grep_192 rfl (lv_at hl 3 rfl) ?_
            refine lv_aload hx hb d_cTools_grep_193 (lv_at hl 7 rfl) ?_
            refine lv_iload hx hb d_cTools_grep_195 (lv_at hl 9 rfl) ?_
            refine lv_iload hx hb d_cTools_grep_197 (lv_at hl 10 rfl) ?_
            obtain ⟨g9, g6⟩ := zg g6
            obtain ⟨p16, u17, g10, g6⟩ := ze2 g6
            refine z_callVi (As := [.ref (ad (1, v6)), .int (zI v8), .int (zI v9)]) (rest := []) (k_cText_addPiece F _ _ _ _ _ g10) M hml (cw_cText_addPiece M.2.2.1 (M.2.2.1 _ w_630) (by rw [hR]; exact Nat.le_of_ble_eq_true rfl) (by rw [hR]; exact Nat.le_of_ble_eq_true rfl)) (zv_Tx hK hW (zid_T g9)) hB hW hS rfl hl.1 rfl (Nat.le_of_ble_eq_true rfl) d_cTools_grep_199 (by rw [hR]; exact ⟨Nat.zero_le _, Nat.zero_le _⟩) (fun H locs hW hS => ?_)
            refine lv_pop hx hb d_cTools_grep_202 rfl ?_
            refine lv_aload_n hx hb d_cTools_grep_203 rfl (lv_at hl 3 rfl) ?_
            refine z_bipush hx hb d_cTools_grep_204 rfl ?_
            obtain ⟨g11, g6⟩ := zg g6
            obtain ⟨u18, g12, g6⟩ := ze1 g6
            refine z_callVv (As := [.int (zI 10)]) (rest := []) (k_cText_add F _ _ _ g12) M hml (cw_cText_add M.2.2.1 (M.2.2.1 _ w_627) (by rw [hR]; exact Nat.le_of_ble_eq_true rfl) (by rw [hR]; exact Nat.le_of_ble_eq_true rfl)) (zv_Tx hK hW (zid_T g11)) hB hW hS rfl hl.1 rfl (Nat.le_of_ble_eq_true rfl) d_cTools_grep_206 (by rw [hR]; exact ⟨Nat.zero_le _, Nat.zero_le _⟩) (fun H locs hW hS => ?_)
            refine z_iconst hx hb d_cTools_grep_209 ?_
            refine lv_istore (lv' := [(7, .int (zI 0)), (10, .int (zI x13)), (0, .ref (ad (0, 6))), (1, .ref (ad (1, v1))), (2, .ref (ad (1, v2))), (3, .int (zI v3)), (4, .int (zI v4)), (5, .int (zI v5)), (6, .ref (ad (1, v6))), (8, .int (zI v8)), (9, .int (zI v9))]) hx hb d_cTools_grep_210 hl (by decide) rfl (fun ls hl => ?_)
            cases g6
            exact J6 _ _ _ (lv_sub hl [2, 3, 4, 5, 6, 7, 8, 0, 9, 10, 1] rfl) hW hS
          refine z_if_eq hx hb d_cTools_grep_173 rfl g8 (fun g8 => ?_) (fun g8 => ?_)
          · exact JT8 (Option.some.inj g8).symm _ _ hW hS
          · refine lv_aload_n hx hb d_cTools_grep_176 rfl (lv_at hl 1 rfl) ?_
            refine lv_aload hx hb d_cTools_grep_177 (lv_at hl 7 rfl) ?_
            refine lv_iload hx hb d_cTools_grep_179 (lv_at hl 9 rfl) ?_
            refine lv_iload hx hb d_cTools_grep_181 (lv_at hl 10 rfl) ?_
            refine lv_iload hx hb d_cTools_grep_183 (lv_at hl 5 rfl) ?_
            obtain ⟨p14, g13, g8⟩ := ze1 g8
            refine z_callVi (As := [.ref (ad (1, v6)), .int (zI v8), .int (zI v9), .int (zI v4)]) (rest := []) (k_cTools_matches F _ _ _ _ _ g13) M hml (cw_cTools_matches M.2.2.1 (M.2.2.1 _ w_654) (by rw [hR]; exact Nat.le_of_ble_eq_true rfl) (by rw [hR]; exact Nat.le_of_ble_eq_true rfl)) (zv_To hK hW) hB hW hS rfl hl.1 rfl (Nat.le_of_ble_eq_true rfl) d_cTools_grep_185 (by rw [hR]; exact ⟨Nat.zero_le _, Nat.zero_le _⟩) (fun H locs hW hS => ?_)
            refine lv_iload_n hx hb d_cTools_grep_188 rfl (lv_at hl 4 rfl) ?_
            refine z_icmp_eq hx hb d_cTools_grep_189 rfl g8 (fun g8 => ?_) (fun g8 => ?_)
            · exact JT8 (Option.some.inj g8).symm _ _ hW hS
            · exact JF8 (Option.some.inj g8).symm _ _ hW hS
        refine z_icmp_ge hx hb d_cTools_grep_133 rfl g5 (fun g5 => ?_) (fun g5 => ?_)
        · refine lv_iload hx hb d_cTools_grep_157 (lv_at hl 8 rfl) ?_
          refine lv_iload hx hb d_cTools_grep_159 (lv_at hl 9 rfl) ?_
          refine z_icmp_ge hx hb d_cTools_grep_161 rfl g5 (fun g5 => ?_) (fun g5 => ?_)
          · refine z_iconst hx hb d_cTools_grep_168 ?_
            cases g5
            exact J5 _ _ _ (lv_sub hl [0, 1, 2, 3, 4, 5, 6, 7, 8, 9] rfl) hW hS
          · refine z_iconst hx hb d_cTools_grep_164 ?_
            refine lv_goto hx hb d_cTools_grep_165 rfl ?_
            cases g5
            exact J5 _ _ _ (lv_sub hl [0, 1, 2, 3, 4, 5, 6, 7, 8, 9] rfl) hW hS
        · refine lv_aload hx hb d_cTools_grep_136 (lv_at hl 6 rfl) ?_
          refine zg_Tx_letters M hW (zid_T g1) (M.2.2.1 _ w_103) d_cTools_grep_138 ?_
          refine lv_iload hx hb d_cTools_grep_141 (lv_at hl 9 rfl) ?_
          obtain ⟨g14, g5⟩ := zg g5
          refine za_let M hW (zid_C g1) g14 d_cTools_grep_143 ?_
          refine z_bipush hx hb d_cTools_grep_144 rfl ?_
          refine z_icmp_ne hx hb d_cTools_grep_146 rfl g5 (fun g5 => ?_) (fun g5 => ?_)
          · refine z_iconst hx hb d_cTools_grep_153 ?_
            refine lv_goto hx hb d_cTools_grep_154 rfl ?_
            cases g5
            exact J5 _ _ _ (lv_sub hl [0, 1, 2, 3, 4, 5, 6, 7, 8, 9] rfl) hW hS
          · refine z_iconst hx hb d_cTools_grep_149 ?_
            refine lv_goto hx hb d_cTools_grep_150 rfl ?_
            cases g5
            exact J5 _ _ _ (lv_sub hl [0, 1, 2, 3, 4, 5, 6, 7, 8, 9] rfl) hW hS
  rw [cTools_grep] at hf
  refine lv_aload_n hx hb d_cTools_grep_0 rfl (lv_at hl 0 rfl) ?_
  refine zg_To_words M hW (M.2.2.1 _ w_283) d_cTools_grep_1 ?_
  refine z_iconst hx hb d_cTools_grep_4 ?_
  refine va_ldcS hx hb hown hX.2.1.2.1 d_cTools_grep_5 ?_
  obtain ⟨p1, g15, hf⟩ := ze1 hf
  refine z_callVi (As := [.int (zI 1), .ref (sa 1)]) (rest := []) (k_cWords_has F _ _ _ (by decide) g15) M hml (cw_cWords_has M.2.2.1 (M.2.2.1 _ w_568) (by rw [hR]; exact Nat.le_of_ble_eq_true rfl) (by rw [hR]; exact Nat.le_of_ble_eq_true rfl)) (zv_Wo hK hW) hB hW hS rfl hl.1 rfl (Nat.le_of_ble_eq_true rfl) d_cTools_grep_7 (by rw [hR]; exact ⟨Nat.zero_le _, Nat.zero_le _⟩) (fun H locs hW hS => ?_)
  refine lv_istore_n (lv' := [(3, .int (zI p1)), (0, .ref (ad (0, 6))), (1, .ref (ad (1, v1))), (2, .ref (ad (1, v2)))]) hx hb d_cTools_grep_10 rfl hl (by decide) rfl (fun ls hl => ?_)
  refine lv_iload_n hx hb d_cTools_grep_11 rfl (lv_at hl 0 rfl) ?_
  obtain ⟨x2, g16, hf⟩ := ze1 hf
  have J16 : ∀ (H : Heap) (locs : List Loc) (ls : Array Slot), lv_has ls 11 [(0, .ref (ad (0, 6))), (1, .ref (ad (1, v1))), (2, .ref (ad (1, v2))), (3, .int (zI p1))] → ZW D B y ad q u r H → va_S (fun x => B ≤ x) s.heap H locs → W p l e R s m args below meth c H locs 0 0 Q (F0 m 20 ls [.int (zI x2)]) := by
    intro H locs ls hl hW hS
    refine lv_istore (lv' := [(4, .int (zI x2)), (0, .ref (ad (0, 6))), (1, .ref (ad (1, v1))), (2, .ref (ad (1, v2))), (3, .int (zI p1))]) hx hb d_cTools_grep_20 hl (by decide) rfl (fun ls hl => ?_)
    refine lv_aload_n hx hb d_cTools_grep_22 rfl (lv_at hl 1 rfl) ?_
    refine zg_To_words M hW (M.2.2.1 _ w_283) d_cTools_grep_23 ?_
    refine zg_Wo_count M hW (M.2.2.1 _ w_267) d_cTools_grep_26 ?_
    refine lv_iload hx hb d_cTools_grep_29 (lv_at hl 0 rfl) ?_
    obtain ⟨b3, g17, hf⟩ := ze1 hf
    have JT17 : b3 = true → ∀ (H : Heap) (locs : List Loc), ZW D B y ad q u r H → va_S (fun x => B ≤ x) s.heap H locs → W p l e R s m args below meth c H locs 0 0 Q (F0 m 48 ls []) := by
      intro hv H locs hW hS
      have hf := zp (hv) hf
      refine z_iconst hx hb d_cTools_grep_48 ?_
      cases hf
      subst hQ
      exact z_reti hx hb hr hlocks hB hK hW hS d_cTools_grep_49
    have JF17 : b3 = false → ∀ (H : Heap) (locs : List Loc), ZW D B y ad q u r H → va_S (fun x => B ≤ x) s.heap H locs → W p l e R s m args below meth c H locs 0 0 Q (F0 m 50 ls []) := by
      intro hv H locs hW hS
      have hf := zn (by rw [hv]; decide) hf
      refine lv_aload_n hx hb d_cTools_grep_50 rfl (lv_at hl 1 rfl) ?_
      refine zg_To_words M hW (M.2.2.1 _ w_283) d_cTools_grep_51 ?_
      refine zg_Wo_count M hW (M.2.2.1 _ w_267) d_cTools_grep_54 ?_
      refine lv_iload hx hb d_cTools_grep_57 (lv_at hl 0 rfl) ?_
      refine z_iconst hx hb d_cTools_grep_59 ?_
      refine z_iadd hx hb d_cTools_grep_60 ?_
      obtain ⟨x4, g18, hf⟩ := ze1 hf
      have J18 : ∀ (H : Heap) (locs : List Loc) (ls : Array Slot), lv_has ls 11 [(0, .ref (ad (0, 6))), (1, .ref (ad (1, v1))), (2, .ref (ad (1, v2))), (3, .int (zI p1)), (4, .int (zI x2))] → ZW D B y ad q u r H → va_S (fun x => B ≤ x) s.heap H locs → W p l e R s m args below meth c H locs 0 0 Q (F0 m 69 ls [.int (zI x4)]) := by
        intro H locs ls hl hW hS
        refine lv_istore (lv' := [(5, .int (zI x4)), (0, .ref (ad (0, 6))), (1, .ref (ad (1, v1))), (2, .ref (ad (1, v2))), (3, .int (zI p1)), (4, .int (zI x2))]) hx hb d_cTools_grep_69 hl (by decide) rfl (fun ls hl => ?_)
        refine lv_iload hx hb d_cTools_grep_71 (lv_at hl 0 rfl) ?_
        obtain ⟨x8, u9, g19, hf⟩ := ze2 hf
        have J19 : ∀ (H : Heap) (locs : List Loc) (ls : Array Slot), lv_has ls 11 [(0, .ref (ad (0, 6))), (1, .ref (ad (1, v1))), (2, .ref (ad (1, v2))), (3, .int (zI p1)), (4, .int (zI x2)), (5, .int (zI x4))] → ZW D B y ad q u9 r H → va_S (fun x => B ≤ x) s.heap H locs → W p l e R s m args below meth c H locs 0 0 Q (F0 m 98 ls [zrf ad 1 x8]) := by
          intro H locs ls hl hW hS
          refine z_astore (lv2 := [(6, zrf ad 1 x8), (0, .ref (ad (0, 6))), (1, .ref (ad (1, v1))), (2, .ref (ad (1, v2))), (3, .int (zI p1)), (4, .int (zI x2)), (5, .int (zI x4))]) hx hb d_cTools_grep_98 hl (by decide) rfl (fun ls hl => ?_)
          refine z_aload hx hb d_cTools_grep_100 (lv_at hl 0 rfl) ?_
          refine z_ifnonnull hx hb d_cTools_grep_102 rfl hf (fun hyg20 hn => ?_) (fun n10 hn hyg20 => ?_)
          · subst hn
            have hf := hyg20
            have hl : lv_has ls 11 [(6, .null), (0, .ref (ad (0, 6))), (1, .ref (ad (1, v1))), (2, .ref (ad (1, v2))), (3, .int (zI p1)), (4, .int (zI x2)), (5, .int (zI x4))] := hl
            refine z_iconst hx hb d_cTools_grep_105 ?_
            cases hf
            subst hQ
            exact z_reti hx hb hr hlocks hB hK hW hS d_cTools_grep_106
          · subst hn
            have hf := hyg20
            have hl : lv_has ls 11 [(6, .ref (ad (1, n10))), (0, .ref (ad (0, 6))), (1, .ref (ad (1, v1))), (2, .ref (ad (1, v2))), (3, .int (zI p1)), (4, .int (zI x2)), (5, .int (zI x4))] := hl
            refine z_iconst hx hb d_cTools_grep_107 ?_
            refine lv_istore (lv' := [(7, .int (zI 1)), (6, .ref (ad (1, n10))), (0, .ref (ad (0, 6))), (1, .ref (ad (1, v1))), (2, .ref (ad (1, v2))), (3, .int (zI p1)), (4, .int (zI x2)), (5, .int (zI x4))]) hx hb d_cTools_grep_108 hl (by decide) rfl (fun ls hl => ?_)
            refine z_iconst hx hb d_cTools_grep_110 ?_
            refine lv_istore (lv' := [(8, .int (zI 0)), (7, .int (zI 1)), (6, .ref (ad (1, n10))), (0, .ref (ad (0, 6))), (1, .ref (ad (1, v1))), (2, .ref (ad (1, v2))), (3, .int (zI p1)), (4, .int (zI x2)), (5, .int (zI x4))]) hx hb d_cTools_grep_111 hl (by decide) rfl (fun ls hl => ?_)
            refine z_iconst hx hb d_cTools_grep_113 ?_
            refine lv_istore (lv' := [(9, .int (zI 0)), (8, .int (zI 0)), (7, .int (zI 1)), (6, .ref (ad (1, n10))), (0, .ref (ad (0, 6))), (1, .ref (ad (1, v1))), (2, .ref (ad (1, v2))), (3, .int (zI p1)), (4, .int (zI x2)), (5, .int (zI x4))]) hx hb d_cTools_grep_114 hl (by decide) rfl (fun ls hl => ?_)
            exact C_116 F _ _ _ _ _ _ _ _ _ _ _ _ _ hf (lv_sub hl [4, 5, 6, 7, 8, 9, 3, 2, 1, 0] rfl) hW hS
        refine z_if_eq hx hb d_cTools_grep_73 rfl g19 (fun g19 => ?_) (fun g19 => ?_)
        · refine lv_aload_n hx hb d_cTools_grep_80 rfl (lv_at hl 1 rfl) ?_
          refine zg_To_tree M hW (M.2.2.1 _ w_284) d_cTools_grep_81 ?_
          refine lv_aload_n hx hb d_cTools_grep_84 rfl (lv_at hl 1 rfl) ?_
          refine zg_To_words M hW (M.2.2.1 _ w_283) d_cTools_grep_85 ?_
          refine lv_iload hx hb d_cTools_grep_88 (lv_at hl 5 rfl) ?_
          refine z_iconst hx hb d_cTools_grep_90 ?_
          refine z_iadd hx hb d_cTools_grep_91 ?_
          obtain ⟨p5, u6, g21, g19⟩ := ze2 g19
          refine z_callVq (As := [.ref (ad (0, 5)), .int (zI (x2 + 1))]) (rest := []) (k_cTree_follow F _ _ g21) M hml (cw_cTree_follow M.2.2.1 (M.2.2.1 _ w_638) (by rw [hR]; exact Nat.le_of_ble_eq_true rfl) (by rw [hR]; exact Nat.le_of_ble_eq_true rfl)) (zv_Tr hK hW) hB hW hS rfl hl.1 rfl (Nat.le_of_ble_eq_true rfl) d_cTools_grep_92 (by rw [hR]; exact ⟨Nat.zero_le _, Nat.zero_le _⟩) (fun H locs hW hS => ?_)
          obtain ⟨p7, g22, g19⟩ := ze1 g19
          refine z_callSq (As := [zrf ad 3 p5]) (rest := []) (k_cTools_contentOf F _ _ g22) M hml (cw_cTools_contentOf M.2.2.1 (M.2.2.1 _ w_639) (by rw [hR]; exact Nat.le_of_ble_eq_true rfl) (by rw [hR]; exact Nat.le_of_ble_eq_true rfl)) hB hW hS rfl hl.1 rfl (Nat.le_of_ble_eq_true rfl) d_cTools_grep_95 (by rw [hR]; exact ⟨Nat.zero_le _, Nat.zero_le _⟩) (fun H locs hW hS => ?_)
          cases g19
          exact J19 _ _ _ (lv_sub hl [1, 2, 3, 4, 5, 0] rfl) hW hS
        · refine lv_aload_n hx hb d_cTools_grep_76 rfl (lv_at hl 2 rfl) ?_
          refine lv_goto hx hb d_cTools_grep_77 rfl ?_
          cases g19
          exact J19 _ _ _ (lv_sub hl [1, 2, 3, 4, 5, 0] rfl) hW hS
      refine z_icmp_ne hx hb d_cTools_grep_61 rfl g18 (fun g18 => ?_) (fun g18 => ?_)
      · refine z_iconst hx hb d_cTools_grep_68 ?_
        cases g18
        exact J18 _ _ _ (lv_sub hl [1, 2, 3, 4, 0] rfl) hW hS
      · refine z_iconst hx hb d_cTools_grep_64 ?_
        refine lv_goto hx hb d_cTools_grep_65 rfl ?_
        cases g18
        exact J18 _ _ _ (lv_sub hl [1, 2, 3, 4, 0] rfl) hW hS
    refine z_icmp_le hx hb d_cTools_grep_31 rfl g17 (fun g17 => ?_) (fun g17 => ?_)
    · exact JT17 (Option.some.inj g17).symm _ _ hW hS
    · refine lv_aload_n hx hb d_cTools_grep_34 rfl (lv_at hl 1 rfl) ?_
      refine zg_To_words M hW (M.2.2.1 _ w_283) d_cTools_grep_35 ?_
      refine zg_Wo_count M hW (M.2.2.1 _ w_267) d_cTools_grep_38 ?_
      refine lv_iload hx hb d_cTools_grep_41 (lv_at hl 0 rfl) ?_
      refine z_iconst hx hb d_cTools_grep_43 ?_
      refine z_iadd hx hb d_cTools_grep_44 ?_
      refine z_icmp_le hx hb d_cTools_grep_45 rfl g17 (fun g17 => ?_) (fun g17 => ?_)
      · exact JF17 (Option.some.inj g17).symm _ _ hW hS
      · exact JT17 (Option.some.inj g17).symm _ _ hW hS
  refine z_if_eq hx hb d_cTools_grep_12 rfl g16 (fun g16 => ?_) (fun g16 => ?_)
  · refine z_iconst hx hb d_cTools_grep_19 ?_
    cases g16
    exact J16 _ _ _ (lv_sub hl [1, 2, 3, 0] rfl) hW hS
  · refine z_iconst hx hb d_cTools_grep_15 ?_
    refine lv_goto hx hb d_cTools_grep_16 rfl ?_
    cases g16
    exact J16 _ _ _ (lv_sub hl [1, 2, 3, 0] rfl) hW hS
