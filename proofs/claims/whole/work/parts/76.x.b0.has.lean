set_option maxRecDepth 100000 in
set_option maxHeartbeats 4000000 in
theorem k_cWords_has {l : Launch} {D : va_G} {B : Nat} {y : Nat → ClassId} {ad : Nat × Nat → Nat} {q : Bool} {r : ZR} {sa sv : Nat → Nat} (F : Nat) (u : ZC) (v1 : Int) (v2 : Nat) (hlit : v2 < 9) {res : Int} (hf : cWords_has F u v1 v2 = some res) : Met l y_cWords_has (.code y_cWords_has b_cWords_has 5 (some .boolean) :: zt) { frames := 5, cells := 0, slots := 0, locals := 145 } (va_Pc [.ref (ad (0, 5)), .int (zI v1), .ref (sa v2)] (fun U => ZP D B y ad q u r U ∧ zX B sa sv U)) (va_Qi (fun v (_ : Unit) => v = zI res) (fun _ t => ZP D B y ad q u r t) (fun x => B ≤ x)) 0 0 (fun x => B ≤ x) := by
  refine Met.ofW (cc := b_cWords_has) (maxL := 5) (ret := (some .boolean)) (by decide) rfl ?_
  intro p e s m args below meth c s₁ Bd hml hv
  obtain ⟨hargs, ⟨hB, hW, hK⟩, hX⟩ := hv
  have hx := Bd.exec
  have hb := Bd.bytes
  have hr := Bd.returns
  have hts0 := atoms_spec (ws := .code y_cWords_has b_cWords_has 5 (some .boolean) :: zt) Bd.pre
  have hown : s.vm.findClass "TreeShell$Words" = some m.cls := findClass_of_methodNamed Bd.named
  have hlocks := Bd.notSynchronized
  have M : ZM p c b_cWords_has s args m "TreeShell$Words" D y := ⟨hx, hb, fun w h => hts0 w (List.mem_cons_of_mem _ h), hown, hK⟩
  have hS : va_S (fun x => B ≤ x) s.heap s.heap [] := va_S.rf
  have hE := lg_entry_eq m ([.ref (ad (0, 5)), .int (zI v1), .ref (sa v2)] : List Value) 5
  rw [← hargs] at hE
  rw [hE]
  have hl := lv_entry ([.ref (ad (0, 5)), .int (zI v1), .ref (sa v2)] : List Value) (n := 5) (Nat.le_of_ble_eq_true rfl)
  generalize (lg_sl ([.ref (ad (0, 5)), .int (zI v1), .ref (sa v2)] : List Value) ++ List.replicate (5 - (lg_sl ([.ref (ad (0, 5)), .int (zI v1), .ref (sa v2)] : List Value)).length) Slot.unset).toArray = ls at hl ⊢
  have hl : lv_has ls 5 [(0, .ref (ad (0, 5))), (1, .int (zI v1)), (2, .ref (sa v2))] := hl
  refine z_start (fun Q R hQ hR => ?_)
  generalize hH : s.heap = H at hW
  have hS : va_S (fun x => B ≤ x) s.heap H [] := by rw [← hH]; exact hS
  have C_33 : ∀ (n : Nat), ∀ (v2 : Nat) (v3 : Int) (v4 : Int) (H : Heap) (locs : List Loc) (ls : Array Slot), cWords_has_33 F n u v2 v3 v4 = some res → v2 < 9 → lv_has ls 5 [(0, .ref (ad (0, 5))), (2, .ref (sa v2)), (3, .int (zI v3)), (4, .int (zI v4))] → ZW D B y ad q u r H → va_S (fun x => B ≤ x) s.heap H locs → W p l e R s m args below meth c H locs 0 0 Q (F0 m 33 ls []) := by
    intro n
    induction n with
    | zero => intro v2 v3 v4 H locs ls hf; cases (show (none : Option (Int)) = some res from hf)
    | succ n ih =>
      intro v2 v3 v4 H locs ls hf hlit hl hW hS
      rw [cWords_has_33] at hf
      refine lv_iload hx hb d_cWords_has_33 (lv_at hl 3 rfl) ?_
      refine lv_aload_n hx hb d_cWords_has_35 rfl (lv_at hl 1 rfl) ?_
      refine z_strlen (rest := [.int (zI v4)]) M hX hml hlit ⟨callB_of 0 M.2.2.1 (zgood w_577) rfl rfl rfl (M.2.2.1 _ w_81) (M.2.2.1 _ w_574) ⟨by decide, by decide, by decide +kernel⟩ ⟨(by rw [hR]; exact Nat.le_of_ble_eq_true rfl), (by rw [hR]; exact Nat.le_of_ble_eq_true rfl)⟩, M.2.2.1 _ w_575, M.2.2.1 _ w_576⟩ hW hS hl.1 rfl (Nat.le_of_ble_eq_true rfl) d_cWords_has_36 (by rw [hR]; exact ⟨Nat.zero_le _, Nat.zero_le _⟩) (fun H locs hW hS => ?_)
      refine z_icmp_ge hx hb d_cWords_has_39 rfl hf (fun hf => ?_) (fun hf => ?_)
      · refine z_iconst hx hb d_cWords_has_71 ?_
        cases hf
        subst hQ
        exact z_retz hx hb (Or.inr rfl) hr hlocks hB hK hW hS d_cWords_has_72
      · refine lv_aload_n hx hb d_cWords_has_42 rfl (lv_at hl 0 rfl) ?_
        refine zg_Wo_joined M hW (M.2.2.1 _ w_262) d_cWords_has_43 ?_
        refine zg_Tx_letters M hW (zid_T (Or.inl (by decide))) (M.2.2.1 _ w_102) d_cWords_has_46 ?_
        refine lv_iload_n hx hb d_cWords_has_49 rfl (lv_at hl 2 rfl) ?_
        refine lv_iload hx hb d_cWords_has_50 (lv_at hl 3 rfl) ?_
        refine z_iadd hx hb d_cWords_has_52 ?_
        obtain ⟨g1, hf⟩ := zg hf
        refine za_let M hW (zid_C (Or.inl (by decide))) g1 d_cWords_has_53 ?_
        refine lv_aload_n hx hb d_cWords_has_54 rfl (lv_at hl 1 rfl) ?_
        refine lv_iload hx hb d_cWords_has_55 (lv_at hl 3 rfl) ?_
        obtain ⟨g2, hf⟩ := zg hf
        refine z_strch (rest := [.int (zI (cA u 0 1 (v3 + v4).toNat))]) M hX hml hlit g2 ⟨callB_of 1 M.2.2.1 (zgood w_587) rfl rfl rfl (M.2.2.1 _ w_81) (M.2.2.1 _ w_584) ⟨by decide, by decide, by decide +kernel⟩ ⟨(by rw [hR]; exact Nat.le_of_ble_eq_true rfl), (by rw [hR]; exact Nat.le_of_ble_eq_true rfl)⟩, M.2.2.1 _ w_585, M.2.2.1 _ w_586⟩ hW hS hl.1 rfl (Nat.le_of_ble_eq_true rfl) d_cWords_has_57 (by rw [hR]; exact ⟨Nat.zero_le _, Nat.zero_le _⟩) (fun H locs hW hS => ?_)
        refine z_icmp_eq hx hb d_cWords_has_60 rfl hf (fun hf => ?_) (fun hf => ?_)
        · refine lv_iinc (k := 3) (v := zI (v4 + 1)) (lv' := [(4, .int (zI (v4 + 1))), (0, .ref (ad (0, 5))), (2, .ref (sa v2)), (3, .int (zI v3))]) hx hb d_cWords_has_65 hl rfl (zI_add _ _) (by decide) rfl (fun ls hl => ?_)
          refine lv_goto hx hb d_cWords_has_68 rfl ?_
          exact ih _ _ _ _ _ _ hf hlit (lv_sub hl [1, 2, 3, 0] rfl) hW hS
        · refine z_iconst hx hb d_cWords_has_63 ?_
          cases hf
          subst hQ
          exact z_retz hx hb (Or.inl rfl) hr hlocks hB hK hW hS d_cWords_has_64
  rw [cWords_has] at hf
  refine lv_aload_n hx hb d_cWords_has_0 rfl (lv_at hl 0 rfl) ?_
  refine lv_iload_n hx hb d_cWords_has_1 rfl (lv_at hl 1 rfl) ?_
  obtain ⟨p1, g3, hf⟩ := ze1 hf
  refine z_callVi (As := [.int (zI v1)]) (rest := []) (k_cWords_startOf F _ _ g3) M hml (cw_cWords_startOf M.2.2.1 (M.2.2.1 _ w_572) (by rw [hR]; exact Nat.le_of_ble_eq_true rfl) (by rw [hR]; exact Nat.le_of_ble_eq_true rfl)) (zv_Wo hK hW) hB hW hS rfl hl.1 rfl (Nat.le_of_ble_eq_true rfl) d_cWords_has_2 (by rw [hR]; exact ⟨Nat.zero_le _, Nat.zero_le _⟩) (fun H locs hW hS => ?_)
  refine lv_istore_n (lv' := [(3, .int (zI p1)), (0, .ref (ad (0, 5))), (1, .int (zI v1)), (2, .ref (sa v2))]) hx hb d_cWords_has_5 rfl hl (by decide) rfl (fun ls hl => ?_)
  refine lv_iload_n hx hb d_cWords_has_6 rfl (lv_at hl 2 rfl) ?_
  refine lv_aload_n hx hb d_cWords_has_7 rfl (lv_at hl 1 rfl) ?_
  refine zg_Wo_count M hW (M.2.2.1 _ w_266) d_cWords_has_8 ?_
  obtain ⟨b3, g4, hf⟩ := ze1 hf
  have JT4 : b3 = true → ∀ (H : Heap) (locs : List Loc), ZW D B y ad q u r H → va_S (fun x => B ≤ x) s.heap H locs → W p l e R s m args below meth c H locs 0 0 Q (F0 m 28 ls []) := by
    intro hv H locs hW hS
    have hf := zp (hv) hf
    refine z_iconst hx hb d_cWords_has_28 ?_
    cases hf
    subst hQ
    exact z_retz hx hb (Or.inl rfl) hr hlocks hB hK hW hS d_cWords_has_29
  have JF4 : b3 = false → ∀ (H : Heap) (locs : List Loc), ZW D B y ad q u r H → va_S (fun x => B ≤ x) s.heap H locs → W p l e R s m args below meth c H locs 0 0 Q (F0 m 30 ls []) := by
    intro hv H locs hW hS
    have hf := zn (by rw [hv]; decide) hf
    refine z_iconst hx hb d_cWords_has_30 ?_
    refine lv_istore (lv' := [(4, .int (zI 0)), (3, .int (zI p1)), (0, .ref (ad (0, 5))), (1, .int (zI v1)), (2, .ref (sa v2))]) hx hb d_cWords_has_31 hl (by decide) rfl (fun ls hl => ?_)
    exact C_33 F _ _ _ _ _ _ hf hlit (lv_sub hl [2, 4, 1, 0] rfl) hW hS
  refine z_icmp_ge hx hb d_cWords_has_11 rfl g4 (fun g4 => ?_) (fun g4 => ?_)
  · exact JT4 (Option.some.inj g4).symm _ _ hW hS
  · refine lv_aload_n hx hb d_cWords_has_14 rfl (lv_at hl 1 rfl) ?_
    refine lv_iload_n hx hb d_cWords_has_15 rfl (lv_at hl 2 rfl) ?_
    obtain ⟨p2, g5, g4⟩ := ze1 g4
    refine z_callVi (As := [.int (zI v1)]) (rest := []) (k_cWords_endOf F _ _ g5) M hml (cw_cWords_endOf M.2.2.1 (M.2.2.1 _ w_573) (by rw [hR]; exact Nat.le_of_ble_eq_true rfl) (by rw [hR]; exact Nat.le_of_ble_eq_true rfl)) (zv_Wo hK hW) hB hW hS rfl hl.1 rfl (Nat.le_of_ble_eq_true rfl) d_cWords_has_16 (by rw [hR]; exact ⟨Nat.zero_le _, Nat.zero_le _⟩) (fun H locs hW hS => ?_)
    refine lv_iload_n hx hb d_cWords_has_19 rfl (lv_at hl 0 rfl) ?_
    refine z_isub hx hb d_cWords_has_20 ?_
    refine lv_aload_n hx hb d_cWords_has_21 rfl (lv_at hl 3 rfl) ?_
    refine z_strlen (rest := [.int (zI (p2 - p1))]) M hX hml hlit ⟨callB_of 0 M.2.2.1 (zgood w_577) rfl rfl rfl (M.2.2.1 _ w_81) (M.2.2.1 _ w_574) ⟨by decide, by decide, by decide +kernel⟩ ⟨(by rw [hR]; exact Nat.le_of_ble_eq_true rfl), (by rw [hR]; exact Nat.le_of_ble_eq_true rfl)⟩, M.2.2.1 _ w_575, M.2.2.1 _ w_576⟩ hW hS hl.1 rfl (Nat.le_of_ble_eq_true rfl) d_cWords_has_22 (by rw [hR]; exact ⟨Nat.zero_le _, Nat.zero_le _⟩) (fun H locs hW hS => ?_)
    refine z_icmp_eq hx hb d_cWords_has_25 rfl g4 (fun g4 => ?_) (fun g4 => ?_)
    · exact JF4 (Option.some.inj g4).symm _ _ hW hS
    · exact JT4 (Option.some.inj g4).symm _ _ hW hS
