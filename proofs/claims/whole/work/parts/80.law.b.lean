set_option maxRecDepth 100000 in
set_option maxHeartbeats 4000000 in
theorem law_loop {p : Program} {l : Launch} {e : Env} {s : State} {m : MethodId} {below : List Frame} {meth : Method} {c : Code} {b L NN : Nat} {xs : Nat → Int32} {D : va_G} {y : Nat → ClassId} {X : State → Prop} (F fe le : Nat) (Inv : Nat → ZC → ZR → Prop) (hL : L ≤ NN) (hNN : NN ≤ 100000) (hx : p.tables.exec = Jvm.exec) (hb : c.code = code) (hr : meth.sig.returnType = ret) (hml : c.maxLocals = 4) (hown : s.vm.findClass R_law = some m.cls) (hts : ∀ w ∈ zt, w.before #[Value.ref b] s = true) (hX : va_X b L xs s s.heap) (hbl : b < s.heap.size) (hlocks : meth.locks = false) (hK : va_K D ZCL (ztys y) s) (hXb : ∀ (a : Array Value) (U : State) (g : JFrame) (mk : MethodId), X U → X (U.calling g mk a)) (hXm : ∀ (U : State) (H : Heap) (locs : List Loc), va_S (fun x => s.heap.size ≤ x) s.heap H locs → U.heap = H → s.WarmedH U.vm → X U) (s_type : ∀ (i : Nat) (u : ZC) (r : ZR) (v : Int64), i + 3 ≤ NN → Inv i u r → ∃ (a : Int) (u2 : ZC) (r2 : ZR), cShell_type F u v = some (a, u2) ∧ r_type F r v = some (a, r2) ∧ cL u2 = cL u ∧ Inv (i + 3) u2 r2) (s_wipe : ∀ (i : Nat) (u : ZC) (r : ZR), i + 3 ≤ NN → Inv i u r → ∃ (u2 : ZC) (r2 : ZR), cShell_wipe F u = some u2 ∧ r_wipe F r = some r2 ∧ cL u2 = cL u ∧ Inv (i + 3) u2 r2) (s_typed : ∀ (i : Nat) (u : ZC) (r : ZR), i + 3 ≤ NN → Inv i u r → ∃ (a : Int), cShell_typed F u = some a ∧ r_typed F r = some a ∧ Inv (i + 3) u r) (s_check : ∀ (i : Nat) (u : ZC) (r : ZR), i + 3 ≤ NN → Inv i u r → ∃ (a : Int) (u2 : ZC) (r2 : ZR), cShell_check F u = some (a, u2) ∧ r_check F r = some (a, r2) ∧ cL u2 = cL u ∧ Inv (i + 3) u2 r2) (s_enter : ∀ (i : Nat) (u : ZC) (r : ZR), i + 3 ≤ NN → Inv i u r → ∃ (a : Int) (u2 : ZC) (r2 : ZR), cShell_enter F u = some (a, u2) ∧ r_enter F r = some (a, r2) ∧ (cL u).length ≤ (cL u2).length ∧ Inv (i + 3) u2 r2) (s_status : ∀ (i : Nat) (u : ZC) (r : ZR), i + 3 ≤ NN → Inv i u r → ∃ (a : Int), cShell_status F u = some a ∧ r_status F r = some a ∧ Inv (i + 3) u r) (s_length : ∀ (i : Nat) (u : ZC) (r : ZR), i + 3 ≤ NN → Inv i u r → ∃ (a : Int), cShell_length F u = some a ∧ r_length F r = some a ∧ Inv (i + 3) u r) (s_out : ∀ (i : Nat) (u : ZC) (r : ZR) (v : Int), i + 3 ≤ NN → -2147483648 ≤ v → v < 2147483648 → Inv i u r → ∃ (a : Int64), cShell_out F u v = some a ∧ r_out F r v = some a ∧ Inv (i + 3) u r) (s_ran : ∀ (i : Nat) (u : ZC) (r : ZR), i + 3 ≤ NN → Inv i u r → ∃ (a : Int), cShell_ran F u = some a ∧ r_ran F r = some a ∧ Inv (i + 3) u r) (s_nodes : ∀ (i : Nat) (u : ZC) (r : ZR), i + 3 ≤ NN → Inv i u r → ∃ (a : Int), cShell_nodes F u = some a ∧ r_nodes F r = some a ∧ Inv (i + 3) u r) (s_chars : ∀ (i : Nat) (u : ZC) (r : ZR), i + 3 ≤ NN → Inv i u r → ∃ (a : Int), cShell_chars F u = some a ∧ r_chars F r = some a ∧ Inv (i + 3) u r) (s_depth : ∀ (i : Nat) (u : ZC) (r : ZR), i + 3 ≤ NN → Inv i u r → ∃ (a : Int), cShell_depth F u = some a ∧ r_depth F r = some a ∧ Inv (i + 3) u r) (s_none : ∀ (i : Nat) (u : ZC) (r : ZR), i + 3 ≤ NN → Inv i u r → Inv (i + 3) u r) (s_cap : ∀ (i : Nat) (u : ZC) (r : ZR), Inv i u r → (cL u).length ≤ 36) (hfe : fe + 1 ≤ 2048) (hle : 8 + (2 + 11) + le ≤ 84000) (s_E : ∀ (ad : Nat × Nat → Nat) (u uo : ZC) (r : ZR) (res : Int), cShell_enter F u = some (res, uo) → Met l y_cShell_enter (.code y_cShell_enter b_cShell_enter 2 (some .int) :: zt) { frames := fe, cells := (cL uo).length - (cL u).length, slots := 160 * ((cL uo).length - (cL u).length), locals := le } (va_Pc [.ref (ad (0, 0))] (fun U => ZP D s.heap.size y ad true u r U ∧ X U)) (va_Qi (fun v (ad2 : Nat × Nat → Nat) => v = zI res ∧ ∀ j, j ∈ zid true u → ad2 j = ad j) (fun ad2 t => ZP D s.heap.size y ad2 true uo r t) (fun x => s.heap.size ≤ x)) ((cL uo).length - (cL u).length) (160 * ((cL uo).length - (cL u).length)) (fun x => s.heap.size ≤ x)) : ∀ (n i : Nat) (u : ZC) (r : ZR) (ad : Nat × Nat → Nat) (H : Heap) (locs : List Loc) (ls : Array Slot), L < i + n + 3 → i ≤ L + 3 → Inv i u r → lv_has ls 4 [(0, .ref b), (1, .ref (ad (0, 0))), (2, .ref (ad (10, 0))), (3, .int (zI (i : Int)))] → ZW D s.heap.size y ad true u r H → va_S (fun x => s.heap.size ≤ x) s.heap H locs → W p l e room_1 s m #[Value.ref b] below meth c H locs (94 + (cL u).length) (10000 + 160 * (cL u).length) (lw_Z below #[Value.ref b] s) (F0 m 48 ls []) := by
  have M : ZM p c code s #[Value.ref b] m R_law D y := ⟨hx, hb, hts, hown, hK⟩
  have hA : ¬ (s.heap.size ≤ b) := by omega
  intro n
  induction n with
  | zero =>
    intro i u r ad H locs ls hn hi hI hl hW hS
    have hcap := s_cap i u r hI
    refine lv_iload_n hx hb d_law_48 rfl (lv_at hl 3 rfl) ?_
    refine lv_aload_n hx hb d_law_49 rfl (lv_at hl 0 rfl) ?_
    refine z_slen hx hb hX hbl hA hS d_law_50 ?_
    refine z_iconst hx hb d_law_51 ?_
    refine z_isub hx hb d_law_52 ?_
    refine lv_icmp_gt hx hb d_law_53 rfl (fun hg => ?_) (fun hg => ?_)
    · refine lv_iconst (v := 1) hx hb d_law_335 rfl ?_
      refine va_forget hS.2.2 ?_
      refine W.widen (k := 600000) (n := 7302250) (by omega) (by omega) ?_
      exact lw_ret hx hb hr hlocks d_law_336
    · exact absurd (by rw [zI_lt (by omega) (by omega) (by omega) (by omega)]; omega) hg
  | succ n ih =>
    intro i u r ad H locs ls hn hi hI hl hW hS
    have hcap := s_cap i u r hI
    refine lv_iload_n hx hb d_law_48 rfl (lv_at hl 3 rfl) ?_
    refine lv_aload_n hx hb d_law_49 rfl (lv_at hl 0 rfl) ?_
    refine z_slen hx hb hX hbl hA hS d_law_50 ?_
    refine z_iconst hx hb d_law_51 ?_
    refine z_isub hx hb d_law_52 ?_
    refine lv_icmp_gt hx hb d_law_53 rfl (fun hg => ?_) (fun hg => ?_)
    · refine lv_iconst (v := 1) hx hb d_law_335 rfl ?_
      refine va_forget hS.2.2 ?_
      refine W.widen (k := 600000) (n := 7302250) (by omega) (by omega) ?_
      exact lw_ret hx hb hr hlocks d_law_336
    · rw [zI_lt (by omega) (by omega) (by omega) (by omega)] at hg
      have h3 : i + 3 ≤ L := by omega
      have NX : ∀ (u : ZC) (r : ZR) (ad : Nat × Nat → Nat) (H : Heap) (locs : List Loc), Inv (i + 3) u r → lv_has ls 4 [(0, .ref b), (1, .ref (ad (0, 0))), (2, .ref (ad (10, 0))), (3, .int (zI (i : Int)))] → ZW D s.heap.size y ad true u r H → va_S (fun x => s.heap.size ≤ x) s.heap H locs → W p l e room_1 s m #[Value.ref b] below meth c H locs (94 + (cL u).length) (10000 + 160 * (cL u).length) (lw_Z below #[Value.ref b] s) (F0 m 329 ls []) := by
        intro u r ad H locs hI hl hW hS
        refine lv_iinc (k := 3) (v := zI ((i + 3 : Nat) : Int)) (lv' := [(3, .int (zI ((i + 3 : Nat) : Int))), (0, .ref b), (1, .ref (ad (0, 0))), (2, .ref (ad (10, 0)))]) hx hb d_law_329 hl rfl (by rw [show ((i + 3 : Nat) : Int) = (i : Int) + 3 by omega]; exact zI_add _ _) (by decide) rfl (fun ls hl => ?_)
        refine lv_goto hx hb d_law_332 rfl ?_
        exact ih (i + 3) u r ad H locs ls (by omega) (by omega) hI (lv_sub hl [1, 2, 3, 0] rfl) hW hS
      refine lv_aload_n hx hb d_law_56 rfl (lv_at hl 0 rfl) ?_
      refine lv_iload_n hx hb d_law_57 rfl (lv_at hl 3 rfl) ?_
      refine z_sld hx hb hX hbl hA hS ⟨by omega, by omega, by omega⟩ d_law_58 ?_
      refine z_bipush hx hb d_law_59 rfl ?_
      refine z_iand hx hb d_law_61 ?_
      have hk0 := zand_15 (zsc L xs (i : Int).toNat)
      have hk1 : (zI (zand (zsc L xs (i : Int).toNat) 15)).toInt = zand (zsc L xs (i : Int).toNat) 15 := zI_toInt (by omega) (by omega)
      generalize hkd : zand (zsc L xs (i : Int).toNat) 15 = kd at hk0 hk1 ⊢
      by_cases k0 : kd = 0
      · refine lv_tableIn hx hb d_law_62 (by rw [hk1]; omega) (by rw [hk1]; omega) (by rw [hk1, k0]; rfl) rfl ?_
        obtain ⟨a, u2, r2, hc, hd, hcl, hI2⟩ := s_type i u r ((zlshl (zi2l (zsc L xs ((i : Int) + 1).toNat)) 32) ||| ((zi2l (zsc L xs ((i : Int) + 2).toNat)) &&& (4294967295 : Int64))) (by omega) hI
        refine lv_aload_n hx hb d_law_124 rfl (lv_at hl 1 rfl) ?_
        refine lv_aload_n hx hb d_law_125 rfl (lv_at hl 0 rfl) ?_
        refine lv_iload_n hx hb d_law_126 rfl (lv_at hl 3 rfl) ?_
        refine z_iconst hx hb d_law_127 ?_
        refine z_iadd hx hb d_law_128 ?_
        refine z_sld hx hb hX hbl hA hS ⟨by omega, by omega, by omega⟩ d_law_129 ?_
        refine z_i2l hx hb d_law_130 ?_
        refine z_bipush hx hb d_law_131 rfl ?_
        refine z_lshl hx hb d_law_133 ?_
        refine lv_aload_n hx hb d_law_134 rfl (lv_at hl 0 rfl) ?_
        refine lv_iload_n hx hb d_law_135 rfl (lv_at hl 3 rfl) ?_
        refine z_iconst hx hb d_law_136 ?_
        refine z_iadd hx hb d_law_137 ?_
        refine z_sld hx hb hX hbl hA hS ⟨by omega, by omega, by omega⟩ d_law_138 ?_
        refine z_i2l hx hb d_law_139 ?_
        refine lv_ldc2 hx hb hown (hts _ w_1110) d_law_140 ?_
        refine lv_land hx hb d_law_143 ?_
        refine lv_lor hx hb d_law_144 ?_
        refine z_callVi (As := [.long ((zlshl (zi2l (zsc L xs ((i : Int) + 1).toNat)) 32) ||| ((zi2l (zsc L xs ((i : Int) + 2).toNat)) &&& (4294967295 : Int64)))]) (rest := []) (k_cShell_type F _ _ hc) M hml (cw_cShell_type hts (hts _ w_366) (Nat.le_of_ble_eq_true rfl) (Nat.le_of_ble_eq_true rfl)) (zv_Sh hK hW) (Nat.le_refl _) hW hS rfl hl.1 rfl (Nat.le_of_ble_eq_true rfl) d_law_145 ?_ (fun H locs hW hS => ?_)
        · constructor
          · show 94 + (cL u).length ≤ 600000
            omega
          · show 10000 + 160 * (cL u).length ≤ 7302250
            omega
        refine lv_aload_n hx hb d_law_148 rfl (lv_at hl 2 rfl) ?_
        refine lv_aload_n hx hb d_law_149 rfl (lv_at hl 0 rfl) ?_
        refine lv_iload_n hx hb d_law_150 rfl (lv_at hl 3 rfl) ?_
        refine z_iconst hx hb d_law_151 ?_
        refine z_iadd hx hb d_law_152 ?_
        refine z_sld hx hb hX hbl hA hS ⟨by omega, by omega, by omega⟩ d_law_153 ?_
        refine z_i2l hx hb d_law_154 ?_
        refine z_bipush hx hb d_law_155 rfl ?_
        refine z_lshl hx hb d_law_157 ?_
        refine lv_aload_n hx hb d_law_158 rfl (lv_at hl 0 rfl) ?_
        refine lv_iload_n hx hb d_law_159 rfl (lv_at hl 3 rfl) ?_
        refine z_iconst hx hb d_law_160 ?_
        refine z_iadd hx hb d_law_161 ?_
        refine z_sld hx hb hX hbl hA hS ⟨by omega, by omega, by omega⟩ d_law_162 ?_
        refine z_i2l hx hb d_law_163 ?_
        refine lv_ldc2 hx hb hown (hts _ w_1110) d_law_164 ?_
        refine lv_land hx hb d_law_167 ?_
        refine lv_lor hx hb d_law_168 ?_
        refine z_callVi (As := [.long ((zlshl (zi2l (zsc L xs ((i : Int) + 1).toNat)) 32) ||| ((zi2l (zsc L xs ((i : Int) + 2).toNat)) &&& (4294967295 : Int64)))]) (rest := [.int (zI a)]) (k_r_type F _ _ hd) M hml (cw_r_type hts (hts _ w_882) (Nat.le_of_ble_eq_true rfl) (Nat.le_of_ble_eq_true rfl)) (zv_Mo hK hW) (Nat.le_refl _) hW hS rfl hl.1 rfl (Nat.le_of_ble_eq_true rfl) d_law_169 ?_ (fun H locs hW hS => ?_)
        · constructor
          · show 94 + (cL u).length ≤ 600000
            omega
          · show 10000 + 160 * (cL u).length ≤ 7302250
            omega
        refine lv_icmp_eq hx hb d_law_172 rfl (fun _ => ?_) (fun h => absurd rfl h)
        have hN := NX u2 r2 ad H locs hI2 hl hW hS
        rw [hcl] at hN
        exact hN
      by_cases k1 : kd = 1
      · refine lv_tableIn hx hb d_law_62 (by rw [hk1]; omega) (by rw [hk1]; omega) (by rw [hk1, k1]; rfl) rfl ?_
        obtain ⟨u2, r2, hc, hd, hcl, hI2⟩ := s_wipe i u r (by omega) hI
        refine lv_aload_n hx hb d_law_177 rfl (lv_at hl 1 rfl) ?_
        refine z_callVv (As := []) (rest := []) (k_cShell_wipe F _ hc) M hml (cw_cShell_wipe hts (hts _ w_379) (Nat.le_of_ble_eq_true rfl) (Nat.le_of_ble_eq_true rfl)) (zv_Sh hK hW) (Nat.le_refl _) hW hS rfl hl.1 rfl (Nat.le_of_ble_eq_true rfl) d_law_178 ?_ (fun H locs hW hS => ?_)
        · constructor
          · show 94 + (cL u).length ≤ 600000
            omega
          · show 10000 + 160 * (cL u).length ≤ 7302250
            omega
        refine lv_aload_n hx hb d_law_181 rfl (lv_at hl 2 rfl) ?_
        refine z_callVv (As := []) (rest := []) (k_r_wipe F _ hd) M hml (cw_r_wipe hts (hts _ w_886) (Nat.le_of_ble_eq_true rfl) (Nat.le_of_ble_eq_true rfl)) (zv_Mo hK hW) (Nat.le_refl _) hW hS rfl hl.1 rfl (Nat.le_of_ble_eq_true rfl) d_law_182 ?_ (fun H locs hW hS => ?_)
        · constructor
          · show 94 + (cL u).length ≤ 600000
            omega
          · show 10000 + 160 * (cL u).length ≤ 7302250
            omega
        refine lv_goto hx hb d_law_185 rfl ?_
        have hN := NX u2 r2 ad H locs hI2 hl hW hS
        rw [hcl] at hN
        exact hN
      by_cases k2 : kd = 2
      · refine lv_tableIn hx hb d_law_62 (by rw [hk1]; omega) (by rw [hk1]; omega) (by rw [hk1, k2]; rfl) rfl ?_
        obtain ⟨a, hc, hd, hI2⟩ := s_typed i u r (by omega) hI
        refine lv_aload_n hx hb d_law_188 rfl (lv_at hl 1 rfl) ?_
        refine z_callVi (As := []) (rest := []) (k_cShell_typed F _ hc) M hml (cw_cShell_typed hts (hts _ w_387) (Nat.le_of_ble_eq_true rfl) (Nat.le_of_ble_eq_true rfl)) (zv_Sh hK hW) (Nat.le_refl _) hW hS rfl hl.1 rfl (Nat.le_of_ble_eq_true rfl) d_law_189 ?_ (fun H locs hW hS => ?_)
        · constructor
          · show 94 + (cL u).length ≤ 600000
            omega
          · show 10000 + 160 * (cL u).length ≤ 7302250
            omega
        refine lv_aload_n hx hb d_law_192 rfl (lv_at hl 2 rfl) ?_
        refine z_callVi (As := []) (rest := [.int (zI a)]) (k_r_typed F _ hd) M hml (cw_r_typed hts (hts _ w_890) (Nat.le_of_ble_eq_true rfl) (Nat.le_of_ble_eq_true rfl)) (zv_Mo hK hW) (Nat.le_refl _) hW hS rfl hl.1 rfl (Nat.le_of_ble_eq_true rfl) d_law_193 ?_ (fun H locs hW hS => ?_)
        · constructor
          · show 94 + (cL u).length ≤ 600000
            omega
          · show 10000 + 160 * (cL u).length ≤ 7302250
            omega
        refine lv_icmp_eq hx hb d_law_196 rfl (fun _ => ?_) (fun h => absurd rfl h)
        exact NX u r ad H locs hI2 hl hW hS
      by_cases k3 : kd = 3
      · refine lv_tableIn hx hb d_law_62 (by rw [hk1]; omega) (by rw [hk1]; omega) (by rw [hk1, k3]; rfl) rfl ?_
        obtain ⟨a, u2, r2, hc, hd, hcl, hI2⟩ := s_check i u r (by omega) hI
        refine lv_aload_n hx hb d_law_201 rfl (lv_at hl 1 rfl) ?_
        refine z_callVi (As := []) (rest := []) (k_cShell_check F _ hc) M hml (cw_cShell_check hts (hts _ w_391) (Nat.le_of_ble_eq_true rfl) (Nat.le_of_ble_eq_true rfl)) (zv_Sh hK hW) (Nat.le_refl _) hW hS rfl hl.1 rfl (Nat.le_of_ble_eq_true rfl) d_law_202 ?_ (fun H locs hW hS => ?_)
        · constructor
          · show 94 + (cL u).length ≤ 600000
            omega
          · show 10000 + 160 * (cL u).length ≤ 7302250
            omega
        refine lv_aload_n hx hb d_law_205 rfl (lv_at hl 2 rfl) ?_
        refine z_callVi (As := []) (rest := [.int (zI a)]) (k_r_check F _ hd) M hml (cw_r_check hts (hts _ w_894) (Nat.le_of_ble_eq_true rfl) (Nat.le_of_ble_eq_true rfl)) (zv_Mo hK hW) (Nat.le_refl _) hW hS rfl hl.1 rfl (Nat.le_of_ble_eq_true rfl) d_law_206 ?_ (fun H locs hW hS => ?_)
        · constructor
          · show 94 + (cL u).length ≤ 600000
            omega
          · show 10000 + 160 * (cL u).length ≤ 7302250
            omega
        refine lv_icmp_eq hx hb d_law_209 rfl (fun _ => ?_) (fun h => absurd rfl h)
        have hN := NX u2 r2 ad H locs hI2 hl hW hS
        rw [hcl] at hN
        exact hN
      by_cases k4 : kd = 4
      · refine lv_tableIn hx hb d_law_62 (by rw [hk1]; omega) (by rw [hk1]; omega) (by rw [hk1, k4]; rfl) rfl ?_
        obtain ⟨a, u2, r2, hc, hd, hcl, hI2⟩ := s_enter i u r (by omega) hI
        refine lv_aload_n hx hb d_law_214 rfl (lv_at hl 1 rfl) ?_
        refine z_callVAi (As := []) (rest := []) (s_E ad u u2 r a hc) M hXb (fun U hU hw => hXm U H locs hS hU hw) hml ⟨callB_of 0 hts (zgood w_454) rfl rfl rfl (hts _ w_68) (hts _ w_451) ⟨by decide, by decide, by decide +kernel⟩ ⟨hfe, hle⟩, hts _ w_452, hts _ w_453⟩ (zv_Sh hK hW) (Nat.le_refl _) hW hS rfl hl.1 rfl (Nat.le_of_ble_eq_true rfl) d_law_215 ?_ (fun ad2 H locs hag hW hS => ?_)
        · have hcap2 := s_cap (i + 3) u2 r2 hI2
          constructor
          · show 94 + (cL u).length + ((cL u2).length - (cL u).length) ≤ 600000
            omega
          · show 10000 + 160 * (cL u).length + 160 * ((cL u2).length - (cL u).length) ≤ 7302250
            omega
        have hcap2 := s_cap (i + 3) u2 r2 hI2
        refine W.widen (k := 94 + (cL u2).length) (n := 10000 + 160 * (cL u2).length) (by omega) (by omega) ?_
        have e0 := hag (0, 0) (zid_f (by decide +kernel))
        have e1 := hag (10, 0) (zid_r (by decide +kernel))
        rw [← e0, ← e1] at hl
        clear hag e0 e1
        generalize ad2 = ad at hl hW
        refine lv_aload_n hx hb d_law_218 rfl (lv_at hl 2 rfl) ?_
        refine z_callVi (As := []) (rest := [.int (zI a)]) (k_r_enter F _ hd) M hml (cw_r_enter hts (hts _ w_924) (Nat.le_of_ble_eq_true rfl) (Nat.le_of_ble_eq_true rfl)) (zv_Mo hK hW) (Nat.le_refl _) hW hS rfl hl.1 rfl (Nat.le_of_ble_eq_true rfl) d_law_219 ?_ (fun H locs hW hS => ?_)
        · constructor
          · show 94 + (cL u2).length ≤ 600000
            omega
          · show 10000 + 160 * (cL u2).length ≤ 7302250
            omega
        refine lv_icmp_eq hx hb d_law_222 rfl (fun _ => ?_) (fun h => absurd rfl h)
        exact NX u2 r2 ad H locs hI2 hl hW hS
      by_cases k5 : kd = 5
      · refine lv_tableIn hx hb d_law_62 (by rw [hk1]; omega) (by rw [hk1]; omega) (by rw [hk1, k5]; rfl) rfl ?_
        obtain ⟨a, hc, hd, hI2⟩ := s_status i u r (by omega) hI
        refine lv_aload_n hx hb d_law_227 rfl (lv_at hl 1 rfl) ?_
        refine z_callVi (As := []) (rest := []) (k_cShell_status F _ hc) M hml (cw_cShell_status hts (hts _ w_691) (Nat.le_of_ble_eq_true rfl) (Nat.le_of_ble_eq_true rfl)) (zv_Sh hK hW) (Nat.le_refl _) hW hS rfl hl.1 rfl (Nat.le_of_ble_eq_true rfl) d_law_228 ?_ (fun H locs hW hS => ?_)
        · constructor
          · show 94 + (cL u).length ≤ 600000
            omega
          · show 10000 + 160 * (cL u).length ≤ 7302250
            omega
        refine lv_aload_n hx hb d_law_231 rfl (lv_at hl 2 rfl) ?_
        refine z_callVi (As := []) (rest := [.int (zI a)]) (k_r_status F _ hd) M hml (cw_r_status hts (hts _ w_1085) (Nat.le_of_ble_eq_true rfl) (Nat.le_of_ble_eq_true rfl)) (zv_Mo hK hW) (Nat.le_refl _) hW hS rfl hl.1 rfl (Nat.le_of_ble_eq_true rfl) d_law_232 ?_ (fun H locs hW hS => ?_)
        · constructor
          · show 94 + (cL u).length ≤ 600000
            omega
          · show 10000 + 160 * (cL u).length ≤ 7302250
            omega
        refine lv_icmp_eq hx hb d_law_235 rfl (fun _ => ?_) (fun h => absurd rfl h)
        exact NX u r ad H locs hI2 hl hW hS
      by_cases k6 : kd = 6
      · refine lv_tableIn hx hb d_law_62 (by rw [hk1]; omega) (by rw [hk1]; omega) (by rw [hk1, k6]; rfl) rfl ?_
        obtain ⟨a, hc, hd, hI2⟩ := s_length i u r (by omega) hI
        refine lv_aload_n hx hb d_law_240 rfl (lv_at hl 1 rfl) ?_
        refine z_callVi (As := []) (rest := []) (k_cShell_length F _ hc) M hml (cw_cShell_length hts (hts _ w_695) (Nat.le_of_ble_eq_true rfl) (Nat.le_of_ble_eq_true rfl)) (zv_Sh hK hW) (Nat.le_refl _) hW hS rfl hl.1 rfl (Nat.le_of_ble_eq_true rfl) d_law_241 ?_ (fun H locs hW hS => ?_)
        · constructor
          · show 94 + (cL u).length ≤ 600000
            omega
          · show 10000 + 160 * (cL u).length ≤ 7302250
            omega
        refine lv_aload_n hx hb d_law_244 rfl (lv_at hl 2 rfl) ?_
        refine z_callVi (As := []) (rest := [.int (zI a)]) (k_r_length F _ hd) M hml (cw_r_length hts (hts _ w_1089) (Nat.le_of_ble_eq_true rfl) (Nat.le_of_ble_eq_true rfl)) (zv_Mo hK hW) (Nat.le_refl _) hW hS rfl hl.1 rfl (Nat.le_of_ble_eq_true rfl) d_law_245 ?_ (fun H locs hW hS => ?_)
        · constructor
          · show 94 + (cL u).length ≤ 600000
            omega
          · show 10000 + 160 * (cL u).length ≤ 7302250
            omega
        refine lv_icmp_eq hx hb d_law_248 rfl (fun _ => ?_) (fun h => absurd rfl h)
        exact NX u r ad H locs hI2 hl hW hS
      by_cases k7 : kd = 7
      · refine lv_tableIn hx hb d_law_62 (by rw [hk1]; omega) (by rw [hk1]; omega) (by rw [hk1, k7]; rfl) rfl ?_
        obtain ⟨a, hc, hd, hI2⟩ := s_out i u r (zsc L xs ((i : Int) + 1).toNat) (by omega) (zsc_in _ _ _).1 (zsc_in _ _ _).2 hI
        refine lv_aload_n hx hb d_law_253 rfl (lv_at hl 1 rfl) ?_
        refine lv_aload_n hx hb d_law_254 rfl (lv_at hl 0 rfl) ?_
        refine lv_iload_n hx hb d_law_255 rfl (lv_at hl 3 rfl) ?_
        refine z_iconst hx hb d_law_256 ?_
        refine z_iadd hx hb d_law_257 ?_
        refine z_sld hx hb hX hbl hA hS ⟨by omega, by omega, by omega⟩ d_law_258 ?_
        refine z_callVl (As := [.int (zI (zsc L xs ((i : Int) + 1).toNat))]) (rest := []) (k_cShell_out F _ _ hc) M hml (cw_cShell_out hts (hts _ w_703) (Nat.le_of_ble_eq_true rfl) (Nat.le_of_ble_eq_true rfl)) (zv_Sh hK hW) (Nat.le_refl _) hW hS rfl hl.1 rfl (Nat.le_of_ble_eq_true rfl) d_law_259 ?_ (fun H locs hW hS => ?_)
        · constructor
          · show 94 + (cL u).length ≤ 600000
            omega
          · show 10000 + 160 * (cL u).length ≤ 7302250
            omega
        refine lv_aload_n hx hb d_law_262 rfl (lv_at hl 2 rfl) ?_
        refine lv_aload_n hx hb d_law_263 rfl (lv_at hl 0 rfl) ?_
        refine lv_iload_n hx hb d_law_264 rfl (lv_at hl 3 rfl) ?_
        refine z_iconst hx hb d_law_265 ?_
        refine z_iadd hx hb d_law_266 ?_
        refine z_sld hx hb hX hbl hA hS ⟨by omega, by omega, by omega⟩ d_law_267 ?_
        refine z_callVl (As := [.int (zI (zsc L xs ((i : Int) + 1).toNat))]) (rest := [.long a]) (k_r_out F _ _ hd) M hml (cw_r_out hts (hts _ w_1093) (Nat.le_of_ble_eq_true rfl) (Nat.le_of_ble_eq_true rfl)) (zv_Mo hK hW) (Nat.le_refl _) hW hS rfl hl.1 rfl (Nat.le_of_ble_eq_true rfl) d_law_268 ?_ (fun H locs hW hS => ?_)
        · constructor
          · show 94 + (cL u).length ≤ 600000
            omega
          · show 10000 + 160 * (cL u).length ≤ 7302250
            omega
        refine W.lcmp hx hb d_law_271 ?_
        refine lv_if_eq hx hb d_law_272 rfl (fun _ => ?_) (fun h => absurd ((lg_cmp_eq a a).mpr rfl) h)
        exact NX u r ad H locs hI2 hl hW hS
      by_cases k8 : kd = 8
      · refine lv_tableIn hx hb d_law_62 (by rw [hk1]; omega) (by rw [hk1]; omega) (by rw [hk1, k8]; rfl) rfl ?_
        obtain ⟨a, hc, hd, hI2⟩ := s_ran i u r (by omega) hI
        refine lv_aload_n hx hb d_law_277 rfl (lv_at hl 1 rfl) ?_
        refine z_callVi (As := []) (rest := []) (k_cShell_ran F _ hc) M hml (cw_cShell_ran hts (hts _ w_707) (Nat.le_of_ble_eq_true rfl) (Nat.le_of_ble_eq_true rfl)) (zv_Sh hK hW) (Nat.le_refl _) hW hS rfl hl.1 rfl (Nat.le_of_ble_eq_true rfl) d_law_278 ?_ (fun H locs hW hS => ?_)
        · constructor
          · show 94 + (cL u).length ≤ 600000
            omega
          · show 10000 + 160 * (cL u).length ≤ 7302250
            omega
        refine lv_aload_n hx hb d_law_281 rfl (lv_at hl 2 rfl) ?_
        refine z_callVi (As := []) (rest := [.int (zI a)]) (k_r_ran F _ hd) M hml (cw_r_ran hts (hts _ w_1097) (Nat.le_of_ble_eq_true rfl) (Nat.le_of_ble_eq_true rfl)) (zv_Mo hK hW) (Nat.le_refl _) hW hS rfl hl.1 rfl (Nat.le_of_ble_eq_true rfl) d_law_282 ?_ (fun H locs hW hS => ?_)
        · constructor
          · show 94 + (cL u).length ≤ 600000
            omega
          · show 10000 + 160 * (cL u).length ≤ 7302250
            omega
        refine lv_icmp_eq hx hb d_law_285 rfl (fun _ => ?_) (fun h => absurd rfl h)
        exact NX u r ad H locs hI2 hl hW hS
      by_cases k9 : kd = 9
      · refine lv_tableIn hx hb d_law_62 (by rw [hk1]; omega) (by rw [hk1]; omega) (by rw [hk1, k9]; rfl) rfl ?_
        obtain ⟨a, hc, hd, hI2⟩ := s_nodes i u r (by omega) hI
        refine lv_aload_n hx hb d_law_290 rfl (lv_at hl 1 rfl) ?_
        refine z_callVi (As := []) (rest := []) (k_cShell_nodes F _ hc) M hml (cw_cShell_nodes hts (hts _ w_711) (Nat.le_of_ble_eq_true rfl) (Nat.le_of_ble_eq_true rfl)) (zv_Sh hK hW) (Nat.le_refl _) hW hS rfl hl.1 rfl (Nat.le_of_ble_eq_true rfl) d_law_291 ?_ (fun H locs hW hS => ?_)
        · constructor
          · show 94 + (cL u).length ≤ 600000
            omega
          · show 10000 + 160 * (cL u).length ≤ 7302250
            omega
        refine lv_aload_n hx hb d_law_294 rfl (lv_at hl 2 rfl) ?_
        refine z_callVi (As := []) (rest := [.int (zI a)]) (k_r_nodes F _ hd) M hml (cw_r_nodes hts (hts _ w_1101) (Nat.le_of_ble_eq_true rfl) (Nat.le_of_ble_eq_true rfl)) (zv_Mo hK hW) (Nat.le_refl _) hW hS rfl hl.1 rfl (Nat.le_of_ble_eq_true rfl) d_law_295 ?_ (fun H locs hW hS => ?_)
        · constructor
          · show 94 + (cL u).length ≤ 600000
            omega
          · show 10000 + 160 * (cL u).length ≤ 7302250
            omega
        refine lv_icmp_eq hx hb d_law_298 rfl (fun _ => ?_) (fun h => absurd rfl h)
        exact NX u r ad H locs hI2 hl hW hS
      by_cases k10 : kd = 10
      · refine lv_tableIn hx hb d_law_62 (by rw [hk1]; omega) (by rw [hk1]; omega) (by rw [hk1, k10]; rfl) rfl ?_
        obtain ⟨a, hc, hd, hI2⟩ := s_chars i u r (by omega) hI
        refine lv_aload_n hx hb d_law_303 rfl (lv_at hl 1 rfl) ?_
        refine z_callVi (As := []) (rest := []) (k_cShell_chars F _ hc) M hml (cw_cShell_chars hts (hts _ w_715) (Nat.le_of_ble_eq_true rfl) (Nat.le_of_ble_eq_true rfl)) (zv_Sh hK hW) (Nat.le_refl _) hW hS rfl hl.1 rfl (Nat.le_of_ble_eq_true rfl) d_law_304 ?_ (fun H locs hW hS => ?_)
        · constructor
          · show 94 + (cL u).length ≤ 600000
            omega
          · show 10000 + 160 * (cL u).length ≤ 7302250
            omega
        refine lv_aload_n hx hb d_law_307 rfl (lv_at hl 2 rfl) ?_
        refine z_callVi (As := []) (rest := [.int (zI a)]) (k_r_chars F _ hd) M hml (cw_r_chars hts (hts _ w_1105) (Nat.le_of_ble_eq_true rfl) (Nat.le_of_ble_eq_true rfl)) (zv_Mo hK hW) (Nat.le_refl _) hW hS rfl hl.1 rfl (Nat.le_of_ble_eq_true rfl) d_law_308 ?_ (fun H locs hW hS => ?_)
        · constructor
          · show 94 + (cL u).length ≤ 600000
            omega
          · show 10000 + 160 * (cL u).length ≤ 7302250
            omega
        refine lv_icmp_eq hx hb d_law_311 rfl (fun _ => ?_) (fun h => absurd rfl h)
        exact NX u r ad H locs hI2 hl hW hS
      by_cases k11 : kd = 11
      · refine lv_tableIn hx hb d_law_62 (by rw [hk1]; omega) (by rw [hk1]; omega) (by rw [hk1, k11]; rfl) rfl ?_
        obtain ⟨a, hc, hd, hI2⟩ := s_depth i u r (by omega) hI
        refine lv_aload_n hx hb d_law_316 rfl (lv_at hl 1 rfl) ?_
        refine z_callVi (As := []) (rest := []) (k_cShell_depth F _ hc) M hml (cw_cShell_depth hts (hts _ w_719) (Nat.le_of_ble_eq_true rfl) (Nat.le_of_ble_eq_true rfl)) (zv_Sh hK hW) (Nat.le_refl _) hW hS rfl hl.1 rfl (Nat.le_of_ble_eq_true rfl) d_law_317 ?_ (fun H locs hW hS => ?_)
        · constructor
          · show 94 + (cL u).length ≤ 600000
            omega
          · show 10000 + 160 * (cL u).length ≤ 7302250
            omega
        refine lv_aload_n hx hb d_law_320 rfl (lv_at hl 2 rfl) ?_
        refine z_callVi (As := []) (rest := [.int (zI a)]) (k_r_depth F _ hd) M hml (cw_r_depth hts (hts _ w_1106) (Nat.le_of_ble_eq_true rfl) (Nat.le_of_ble_eq_true rfl)) (zv_Mo hK hW) (Nat.le_refl _) hW hS rfl hl.1 rfl (Nat.le_of_ble_eq_true rfl) d_law_321 ?_ (fun H locs hW hS => ?_)
        · constructor
          · show 94 + (cL u).length ≤ 600000
            omega
          · show 10000 + 160 * (cL u).length ≤ 7302250
            omega
        refine lv_icmp_eq hx hb d_law_324 rfl (fun _ => ?_) (fun h => absurd rfl h)
        exact NX u r ad H locs hI2 hl hW hS
      refine lv_tableOut hx hb d_law_62 (Or.inr (by rw [hk1]; omega)) rfl ?_
      exact NX u r ad H locs (s_none i u r (by omega) hI) hl hW hS
