theorem w_81 : (Jvm.Cond.initialized "java/lang/String") ∈ zt := List.mem_filter.mpr ⟨List.mem_of_getElem? (i := 81) (by decide +kernel), rfl⟩
theorem w_82 : (Jvm.Cond.initialized "java/lang/StringLatin1") ∈ zt := List.mem_filter.mpr ⟨List.mem_of_getElem? (i := 82) (by decide +kernel), rfl⟩
theorem w_83 : (Jvm.Cond.initialized "jdk/internal/util/Preconditions") ∈ zt := List.mem_filter.mpr ⟨List.mem_of_getElem? (i := 83) (by decide +kernel), rfl⟩
theorem w_578 : (Jvm.Cond.methodLink "java/lang/String" (335 : Nat) ({ cls := "java/lang/String", name := "coder", desc := "()B" } : Jvm.MethodName)) ∈ zt := List.mem_filter.mpr ⟨List.mem_of_getElem? (i := 578) (by decide +kernel), rfl⟩
theorem w_579 : (Jvm.Cond.instanceMethod ({ cls := "java/lang/String", name := "coder", desc := "()B" } : Jvm.MethodName)) ∈ zt := List.mem_filter.mpr ⟨List.mem_of_getElem? (i := 579) (by decide +kernel), rfl⟩
theorem w_580 : (Jvm.Cond.selects "java/lang/String" ({ cls := "java/lang/String", name := "coder", desc := "()B" } : Jvm.MethodName) ({ cls := "java/lang/String", name := "coder", desc := "()B" } : Jvm.MethodName)) ∈ zt := List.mem_filter.mpr ⟨List.mem_of_getElem? (i := 580) (by decide +kernel), rfl⟩
theorem w_581 : (Jvm.Cond.code ({ cls := "java/lang/String", name := "coder", desc := "()B" } : Jvm.MethodName) prog_14_method_152_code (1 : Nat) (Option.some Jvm.ClassFile.FieldType.byte)) ∈ zt := List.mem_filter.mpr ⟨List.mem_of_getElem? (i := 581) (by decide +kernel), rfl⟩
theorem w_582 : (Jvm.Cond.fieldLink "java/lang/String" (38 : Nat) "java/lang/String" "COMPACT_STRINGS" "Z") ∈ zt := List.mem_filter.mpr ⟨List.mem_of_getElem? (i := 582) (by decide +kernel), rfl⟩
theorem w_588 : (Jvm.Cond.methodLink "java/lang/String" (492 : Nat) ({ cls := "java/lang/String", name := "isLatin1", desc := "()Z" } : Jvm.MethodName)) ∈ zt := List.mem_filter.mpr ⟨List.mem_of_getElem? (i := 588) (by decide +kernel), rfl⟩
theorem w_589 : (Jvm.Cond.instanceMethod ({ cls := "java/lang/String", name := "isLatin1", desc := "()Z" } : Jvm.MethodName)) ∈ zt := List.mem_filter.mpr ⟨List.mem_of_getElem? (i := 589) (by decide +kernel), rfl⟩
theorem w_590 : (Jvm.Cond.selects "java/lang/String" ({ cls := "java/lang/String", name := "isLatin1", desc := "()Z" } : Jvm.MethodName) ({ cls := "java/lang/String", name := "isLatin1", desc := "()Z" } : Jvm.MethodName)) ∈ zt := List.mem_filter.mpr ⟨List.mem_of_getElem? (i := 590) (by decide +kernel), rfl⟩
theorem w_591 : (Jvm.Cond.code ({ cls := "java/lang/String", name := "isLatin1", desc := "()Z" } : Jvm.MethodName) prog_14_method_154_code (1 : Nat) (Option.some Jvm.ClassFile.FieldType.boolean)) ∈ zt := List.mem_filter.mpr ⟨List.mem_of_getElem? (i := 591) (by decide +kernel), rfl⟩
theorem w_592 : (Jvm.Cond.methodLink "java/lang/String" (495 : Nat) ({ cls := "java/lang/StringLatin1", name := "charAt", desc := "([BI)C" } : Jvm.MethodName)) ∈ zt := List.mem_filter.mpr ⟨List.mem_of_getElem? (i := 592) (by decide +kernel), rfl⟩
theorem w_593 : (Jvm.Cond.static ({ cls := "java/lang/StringLatin1", name := "charAt", desc := "([BI)C" } : Jvm.MethodName)) ∈ zt := List.mem_filter.mpr ⟨List.mem_of_getElem? (i := 593) (by decide +kernel), rfl⟩
theorem w_594 : (Jvm.Cond.code ({ cls := "java/lang/StringLatin1", name := "charAt", desc := "([BI)C" } : Jvm.MethodName) prog_15_method_2_code (2 : Nat) (Option.some Jvm.ClassFile.FieldType.char)) ∈ zt := List.mem_filter.mpr ⟨List.mem_of_getElem? (i := 594) (by decide +kernel), rfl⟩
theorem w_595 : (Jvm.Cond.methodLink "java/lang/StringLatin1" (9 : Nat) ({ cls := "java/lang/String", name := "checkIndex", desc := "(II)V" } : Jvm.MethodName)) ∈ zt := List.mem_filter.mpr ⟨List.mem_of_getElem? (i := 595) (by decide +kernel), rfl⟩
theorem w_596 : (Jvm.Cond.static ({ cls := "java/lang/String", name := "checkIndex", desc := "(II)V" } : Jvm.MethodName)) ∈ zt := List.mem_filter.mpr ⟨List.mem_of_getElem? (i := 596) (by decide +kernel), rfl⟩
theorem w_597 : (Jvm.Cond.code ({ cls := "java/lang/String", name := "checkIndex", desc := "(II)V" } : Jvm.MethodName) prog_14_method_155_code (2 : Nat) (Option.none : Option Jvm.ClassFile.FieldType)) ∈ zt := List.mem_filter.mpr ⟨List.mem_of_getElem? (i := 597) (by decide +kernel), rfl⟩
theorem w_598 : (Jvm.Cond.fieldLink "java/lang/String" (1053 : Nat) "jdk/internal/util/Preconditions" "SIOOBE_FORMATTER" "Ljava/util/function/BiFunction;") ∈ zt := List.mem_filter.mpr ⟨List.mem_of_getElem? (i := 598) (by decide +kernel), rfl⟩
theorem w_600 : (Jvm.Cond.methodLink "java/lang/String" (1059 : Nat) ({ cls := "jdk/internal/util/Preconditions", name := "checkIndex", desc := "(IILjava/util/function/BiFunction;)I" } : Jvm.MethodName)) ∈ zt := List.mem_filter.mpr ⟨List.mem_of_getElem? (i := 600) (by decide +kernel), rfl⟩
theorem w_601 : (Jvm.Cond.static ({ cls := "jdk/internal/util/Preconditions", name := "checkIndex", desc := "(IILjava/util/function/BiFunction;)I" } : Jvm.MethodName)) ∈ zt := List.mem_filter.mpr ⟨List.mem_of_getElem? (i := 601) (by decide +kernel), rfl⟩
theorem w_602 : (Jvm.Cond.code ({ cls := "jdk/internal/util/Preconditions", name := "checkIndex", desc := "(IILjava/util/function/BiFunction;)I" } : Jvm.MethodName) prog_18_method_11_code (3 : Nat) (Option.some Jvm.ClassFile.FieldType.int)) ∈ zt := List.mem_filter.mpr ⟨List.mem_of_getElem? (i := 602) (by decide +kernel), rfl⟩
theorem w_1111 : (Jvm.Cond.fieldLink "java/lang/String" (9 : Nat) "java/lang/String" "value" "[B") ∈ zt := List.mem_filter.mpr ⟨List.mem_of_getElem? (i := 1111) (by decide +kernel), rfl⟩
theorem w_1112 : (Jvm.Cond.fieldLink "java/lang/String" (15 : Nat) "java/lang/String" "coder" "B") ∈ zt := List.mem_filter.mpr ⟨List.mem_of_getElem? (i := 1112) (by decide +kernel), rfl⟩
/-! the literals and the String methods that has asks -/
def zsn : List Nat := [2, 2, 4, 3, 2, 4, 2, 5, 2]
def zsb : List (List Int32) := [[45, 110], [45, 118], [101, 99, 104, 111], [99, 97, 116], [119, 99], [103, 114, 101, 112], [108, 115], [109, 107, 100, 105, 114], [99, 100]]
abbrev b_sCoder : ByteArray := prog_14_method_152_code
abbrev y_sCoder : MethodName := ⟨"java/lang/String", "coder", "()B"⟩
abbrev b_sLat : ByteArray := prog_14_method_154_code
abbrev y_sLat : MethodName := ⟨"java/lang/String", "isLatin1", "()Z"⟩
abbrev b_sLen : ByteArray := prog_14_method_54_code
abbrev y_sLen : MethodName := ⟨"java/lang/String", "length", "()I"⟩
abbrev b_sPre : ByteArray := prog_18_method_11_code
abbrev y_sPre : MethodName := ⟨"jdk/internal/util/Preconditions", "checkIndex", "(IILjava/util/function/BiFunction;)I"⟩
abbrev b_sChk : ByteArray := prog_14_method_155_code
abbrev y_sChk : MethodName := ⟨"java/lang/String", "checkIndex", "(II)V"⟩
abbrev b_sL1 : ByteArray := prog_15_method_2_code
abbrev y_sL1 : MethodName := ⟨"java/lang/StringLatin1", "charAt", "([BI)C"⟩
abbrev b_sCh : ByteArray := prog_14_method_56_code
abbrev y_sCh : MethodName := ⟨"java/lang/String", "charAt", "(I)C"⟩
theorem d_sCoder_0 : decode b_sCoder 0 = .ok (.getstatic 38, 3) := by decide +kernel
theorem d_sCoder_3 : decode b_sCoder 3 = .ok (.ifCond .eq 10, 3) := by decide +kernel
theorem d_sCoder_6 : decode b_sCoder 6 = .ok (.aload_n 0, 1) := by decide +kernel
theorem d_sCoder_7 : decode b_sCoder 7 = .ok (.getfield 15, 3) := by decide +kernel
theorem d_sCoder_10 : decode b_sCoder 10 = .ok (.goto 4, 3) := by decide +kernel
theorem d_sCoder_14 : decode b_sCoder 14 = .ok (.ireturn, 1) := by decide +kernel
theorem d_sLat_0 : decode b_sLat 0 = .ok (.getstatic 38, 3) := by decide +kernel
theorem d_sLat_3 : decode b_sLat 3 = .ok (.ifCond .eq 14, 3) := by decide +kernel
theorem d_sLat_6 : decode b_sLat 6 = .ok (.aload_n 0, 1) := by decide +kernel
theorem d_sLat_7 : decode b_sLat 7 = .ok (.getfield 15, 3) := by decide +kernel
theorem d_sLat_10 : decode b_sLat 10 = .ok (.ifCond .ne 7, 3) := by decide +kernel
theorem d_sLat_13 : decode b_sLat 13 = .ok (.iconst 1, 1) := by decide +kernel
theorem d_sLat_14 : decode b_sLat 14 = .ok (.goto 4, 3) := by decide +kernel
theorem d_sLat_18 : decode b_sLat 18 = .ok (.ireturn, 1) := by decide +kernel
theorem d_sLen_0 : decode b_sLen 0 = .ok (.aload_n 0, 1) := by decide +kernel
theorem d_sLen_1 : decode b_sLen 1 = .ok (.getfield 9, 3) := by decide +kernel
theorem d_sLen_4 : decode b_sLen 4 = .ok (.arraylength, 1) := by decide +kernel
theorem d_sLen_5 : decode b_sLen 5 = .ok (.aload_n 0, 1) := by decide +kernel
theorem d_sLen_6 : decode b_sLen 6 = .ok (.invokevirtual 335, 3) := by decide +kernel
theorem d_sLen_9 : decode b_sLen 9 = .ok (.ishr, 1) := by decide +kernel
theorem d_sLen_10 : decode b_sLen 10 = .ok (.ireturn, 1) := by decide +kernel
theorem d_sPre_0 : decode b_sPre 0 = .ok (.iload_n 0, 1) := by decide +kernel
theorem d_sPre_1 : decode b_sPre 1 = .ok (.ifCond .lt 8, 3) := by decide +kernel
theorem d_sPre_4 : decode b_sPre 4 = .ok (.iload_n 0, 1) := by decide +kernel
theorem d_sPre_5 : decode b_sPre 5 = .ok (.iload_n 1, 1) := by decide +kernel
theorem d_sPre_6 : decode b_sPre 6 = .ok (.if_icmp .lt 10, 3) := by decide +kernel
theorem d_sPre_16 : decode b_sPre 16 = .ok (.iload_n 0, 1) := by decide +kernel
theorem d_sPre_17 : decode b_sPre 17 = .ok (.ireturn, 1) := by decide +kernel
theorem d_sChk_0 : decode b_sChk 0 = .ok (.iload_n 0, 1) := by decide +kernel
theorem d_sChk_1 : decode b_sChk 1 = .ok (.iload_n 1, 1) := by decide +kernel
theorem d_sChk_2 : decode b_sChk 2 = .ok (.getstatic 1053, 3) := by decide +kernel
theorem d_sChk_5 : decode b_sChk 5 = .ok (.invokestatic 1059, 3) := by decide +kernel
theorem d_sChk_8 : decode b_sChk 8 = .ok (.pop, 1) := by decide +kernel
theorem d_sChk_9 : decode b_sChk 9 = .ok (.return_, 1) := by decide +kernel
theorem d_sL1_0 : decode b_sL1 0 = .ok (.iload_n 1, 1) := by decide +kernel
theorem d_sL1_1 : decode b_sL1 1 = .ok (.aload_n 0, 1) := by decide +kernel
theorem d_sL1_2 : decode b_sL1 2 = .ok (.arraylength, 1) := by decide +kernel
theorem d_sL1_3 : decode b_sL1 3 = .ok (.invokestatic 9, 3) := by decide +kernel
theorem d_sL1_6 : decode b_sL1 6 = .ok (.aload_n 0, 1) := by decide +kernel
theorem d_sL1_7 : decode b_sL1 7 = .ok (.iload_n 1, 1) := by decide +kernel
theorem d_sL1_8 : decode b_sL1 8 = .ok (.baload, 1) := by decide +kernel
theorem d_sL1_9 : decode b_sL1 9 = .ok (.sipush 255, 3) := by decide +kernel
theorem d_sL1_12 : decode b_sL1 12 = .ok (.iand, 1) := by decide +kernel
theorem d_sL1_13 : decode b_sL1 13 = .ok (.i2c, 1) := by decide +kernel
theorem d_sL1_14 : decode b_sL1 14 = .ok (.ireturn, 1) := by decide +kernel
theorem d_sCh_0 : decode b_sCh 0 = .ok (.aload_n 0, 1) := by decide +kernel
theorem d_sCh_1 : decode b_sCh 1 = .ok (.invokevirtual 492, 3) := by decide +kernel
theorem d_sCh_4 : decode b_sCh 4 = .ok (.ifCond .eq 12, 3) := by decide +kernel
theorem d_sCh_7 : decode b_sCh 7 = .ok (.aload_n 0, 1) := by decide +kernel
theorem d_sCh_8 : decode b_sCh 8 = .ok (.getfield 9, 3) := by decide +kernel
theorem d_sCh_11 : decode b_sCh 11 = .ok (.iload_n 1, 1) := by decide +kernel
theorem d_sCh_12 : decode b_sCh 12 = .ok (.invokestatic 495, 3) := by decide +kernel
theorem d_sCh_15 : decode b_sCh 15 = .ok (.ireturn, 1) := by decide +kernel
def zS (A : Nat → Prop) (sa sv : Nat → Nat) (U : State) : Prop := vk_S 9 zsn zsb sa sv A U U.heap ∧ va_Z "java/lang/String" "COMPACT_STRINGS" "Z" (.int 1) A U U.heap ∧ va_Zq "jdk/internal/util/Preconditions" "SIOOBE_FORMATTER" "Ljava/util/function/BiFunction;" A U U.heap
theorem zS_moved {A : Nat → Prop} {sa sv : Nat → Nat} {s U : State} {H : Heap} {locs : List Loc} (h : zS A sa sv s) (hS : va_S A s.heap H locs) (hU : U.heap = H) (hw : s.WarmedH U.vm) : zS A sa sv U := by
  subst hU
  exact ⟨(h.1.moved hw.alike).kept hS.2.1, (h.2.1.moved hw.alike).kept hS.2.1, (h.2.2.moved hw.alike).kept hS.2.1⟩
theorem zS_call {A : Nat → Prop} {sa sv : Nat → Nat} {U : State} {g : JFrame} {mk : MethodId} {a : Array Value} (h : zS A sa sv U) : zS A sa sv (U.calling g mk a) := ⟨vk_S.moved (u := U) (U := U.calling g mk a) (Vm.Alike.refl U.vm) h.1, va_Z.moved (u := U) (U := U.calling g mk a) (Vm.Alike.refl U.vm) h.2.1, va_Zq.moved (u := U) (U := U.calling g mk a) (Vm.Alike.refl U.vm) h.2.2⟩
theorem zS_narrow {A B : Nat → Prop} {sa sv : Nat → Nat} {U : State} (h : zS A sa sv U) (hAB : ∀ q, B q → A q) : zS B sa sv U := ⟨h.1.narrow hAB, h.2.1.narrow hAB, h.2.2.narrow hAB⟩
theorem zsn_all : ∀ k, k < 9 → Int32.ofNat (zsn.getD k 0) >>> ((0 : Int32) &&& 31) = zI (strN k) ∧ zsn.getD k 0 = strN k ∧ strN k ≤ 5 ∧ ∀ j, j < strN k → (((zsb.getD k []).getD j 0 &&& 255).toUInt32 % 65536).toInt32 = zI (strC k j) := by decide +kernel
theorem zch_all : ∀ k, k < 9 → ∀ j, j < strN k → narrow .char (.int (zI (strC k j))) = .int (zI (strC k j)) := by decide +kernel
theorem zfalse {L : List Value} {sa sv : Nat → Nat} : FrameBlind (va_Pc L (fun U => zS (fun _ => False) sa sv U)) := fun a U g mk h => ⟨h.1, zS_call h.2⟩
set_option maxRecDepth 100000 in
theorem k_sCoder {l : Launch} {sa sv : Nat → Nat} {k : Nat} (hk : k < 9) : Met l y_sCoder (.code y_sCoder b_sCoder 1 (some .byte) :: zt) { frames := 0, cells := 0, slots := 0, locals := 0 } (va_Pc [.ref (sa k)] (fun U => zS (fun _ => False) sa sv U)) (va_Qi (fun v (_ : Unit) => v = 0) (fun _ _ => True) (fun _ => False)) 0 0 (fun _ => False) := by
  refine Met.ofW (cc := b_sCoder) (maxL := 1) (ret := (some .byte)) (by decide) rfl ?_
  intro p e s m args below meth c s₁ Bd hml hv
  obtain ⟨hargs, hE⟩ := hv
  have hx := Bd.exec
  have hb := Bd.bytes
  have hr := Bd.returns
  have hts0 := atoms_spec (ws := .code y_sCoder b_sCoder 1 (some .byte) :: zt) Bd.pre
  have hts : ∀ w ∈ zt, w.before args s = true := fun w h => hts0 w (List.mem_cons_of_mem _ h)
  have hown : s.vm.findClass "java/lang/String" = some m.cls := findClass_of_methodNamed Bd.named
  have hlocks := Bd.notSynchronized
  have hS : va_S (fun _ => False) s.heap s.heap [] := va_S.rf
  have hEn := lg_entry_eq m ([.ref (sa k)] : List Value) 1
  rw [← hargs] at hEn
  rw [hEn]
  have hl := lv_entry ([.ref (sa k)] : List Value) (n := 1) (Nat.le_of_ble_eq_true rfl)
  generalize (lg_sl ([.ref (sa k)] : List Value) ++ List.replicate (1 - (lg_sl ([.ref (sa k)] : List Value)).length) Slot.unset).toArray = ls at hl ⊢
  have hl : lv_has ls 1 [(0, .ref (sa k))] := hl
  refine (va_gets hx hb hE.2.1 hS hown (hts _ w_582) (fun x h => h) d_sCoder_0 ?_)
  refine lv_if_eq hx hb d_sCoder_3 rfl (fun h => absurd h (by decide)) (fun _ => ?_)
  refine lv_aload_n hx hb d_sCoder_6 rfl (lv_at hl 0 rfl) ?_
  refine vk_getf hx hb (hE.1.1 k hk).2.1 hS hown (hts _ w_1112) (fun x h => h) d_sCoder_7 ?_
  refine lv_goto hx hb d_sCoder_10 rfl ?_
  exact W.zret (v := 0) (ty := .byte) hx hb hr rfl (fun t ht hW => ⟨⟨_, (), rfl, rfl, trivial⟩, hS.F ht⟩) hS.2.2 d_sCoder_14 (hlocks := hlocks)
set_option maxRecDepth 100000 in
theorem k_sLat {l : Launch} {sa sv : Nat → Nat} {k : Nat} (hk : k < 9) : Met l y_sLat (.code y_sLat b_sLat 1 (some .boolean) :: zt) { frames := 0, cells := 0, slots := 0, locals := 0 } (va_Pc [.ref (sa k)] (fun U => zS (fun _ => False) sa sv U)) (va_Qi (fun v (_ : Unit) => v = 1) (fun _ _ => True) (fun _ => False)) 0 0 (fun _ => False) := by
  refine Met.ofW (cc := b_sLat) (maxL := 1) (ret := (some .boolean)) (by decide) rfl ?_
  intro p e s m args below meth c s₁ Bd hml hv
  obtain ⟨hargs, hE⟩ := hv
  have hx := Bd.exec
  have hb := Bd.bytes
  have hr := Bd.returns
  have hts0 := atoms_spec (ws := .code y_sLat b_sLat 1 (some .boolean) :: zt) Bd.pre
  have hts : ∀ w ∈ zt, w.before args s = true := fun w h => hts0 w (List.mem_cons_of_mem _ h)
  have hown : s.vm.findClass "java/lang/String" = some m.cls := findClass_of_methodNamed Bd.named
  have hlocks := Bd.notSynchronized
  have hS : va_S (fun _ => False) s.heap s.heap [] := va_S.rf
  have hEn := lg_entry_eq m ([.ref (sa k)] : List Value) 1
  rw [← hargs] at hEn
  rw [hEn]
  have hl := lv_entry ([.ref (sa k)] : List Value) (n := 1) (Nat.le_of_ble_eq_true rfl)
  generalize (lg_sl ([.ref (sa k)] : List Value) ++ List.replicate (1 - (lg_sl ([.ref (sa k)] : List Value)).length) Slot.unset).toArray = ls at hl ⊢
  have hl : lv_has ls 1 [(0, .ref (sa k))] := hl
  refine (va_gets hx hb hE.2.1 hS hown (hts _ w_582) (fun x h => h) d_sLat_0 ?_)
  refine lv_if_eq hx hb d_sLat_3 rfl (fun h => absurd h (by decide)) (fun _ => ?_)
  refine lv_aload_n hx hb d_sLat_6 rfl (lv_at hl 0 rfl) ?_
  refine vk_getf hx hb (hE.1.1 k hk).2.1 hS hown (hts _ w_1112) (fun x h => h) d_sLat_7 ?_
  refine lv_if_ne hx hb d_sLat_10 rfl (fun h => absurd rfl h) (fun _ => ?_)
  refine z_iconst hx hb d_sLat_13 ?_
  refine lv_goto hx hb d_sLat_14 rfl ?_
  exact W.zret (v := zI 1) (ty := .boolean) hx hb hr rfl (fun t ht hW => ⟨⟨_, (), rfl, rfl, trivial⟩, hS.F ht⟩) hS.2.2 d_sLat_18 (hlocks := hlocks)
set_option maxRecDepth 100000 in
theorem k_sLen {l : Launch} {sa sv : Nat → Nat} {k : Nat} (hk : k < 9) : Met l y_sLen (.code y_sLen b_sLen 1 (some .int) :: zt) { frames := 1, cells := 0, slots := 0, locals := 20 } (va_Pc [.ref (sa k)] (fun U => zS (fun _ => False) sa sv U)) (va_Qi (fun v (_ : Unit) => v = zI (strN k)) (fun _ _ => True) (fun _ => False)) 0 0 (fun _ => False) := by
  refine Met.ofW (cc := b_sLen) (maxL := 1) (ret := (some .int)) (by decide) rfl ?_
  intro p e s m args below meth c s₁ Bd hml hv
  obtain ⟨hargs, hE⟩ := hv
  have hx := Bd.exec
  have hb := Bd.bytes
  have hr := Bd.returns
  have hts0 := atoms_spec (ws := .code y_sLen b_sLen 1 (some .int) :: zt) Bd.pre
  have hts : ∀ w ∈ zt, w.before args s = true := fun w h => hts0 w (List.mem_cons_of_mem _ h)
  have hown : s.vm.findClass "java/lang/String" = some m.cls := findClass_of_methodNamed Bd.named
  have hlocks := Bd.notSynchronized
  have hS : va_S (fun _ => False) s.heap s.heap [] := va_S.rf
  have hEn := lg_entry_eq m ([.ref (sa k)] : List Value) 1
  rw [← hargs] at hEn
  rw [hEn]
  have hl := lv_entry ([.ref (sa k)] : List Value) (n := 1) (Nat.le_of_ble_eq_true rfl)
  generalize (lg_sl ([.ref (sa k)] : List Value) ++ List.replicate (1 - (lg_sl ([.ref (sa k)] : List Value)).length) Slot.unset).toArray = ls at hl ⊢
  have hl : lv_has ls 1 [(0, .ref (sa k))] := hl
  refine lv_aload_n hx hb d_sLen_0 rfl (lv_at hl 0 rfl) ?_
  refine vk_getf hx hb (hE.1.1 k hk).2.2.1 hS hown (hts _ w_1111) (fun x h => h) d_sLen_1 ?_
  refine va_tlen hx hb (hE.1.1 k hk).2.2.2 hS rfl d_sLen_4 ?_
  refine lv_aload_n hx hb d_sLen_5 rfl (lv_at hl 0 rfl) ?_
  refine va_calli (va_runV (As := []) (rest := [.int (Int32.ofNat (zsn.getD k 0))]) (g := F0 m 6 ls [.ref (sa k), .int (Int32.ofNat (zsn.getD k 0))]) ⟨hx, hb, hml, hown, hts⟩ (k_sCoder hk) ⟨callB_of 0 hts (zgood w_581) rfl rfl rfl (hts _ w_81) (hts _ w_578) ⟨by decide, by decide, by decide +kernel⟩ ⟨Nat.le_of_ble_eq_true rfl, Nat.le_of_ble_eq_true rfl⟩, hts _ w_579, hts _ w_580⟩ ⟨zfalse, vk_recv hE.1 hk hS, fun U hU hw => ⟨rfl, zS_moved hE hS hU hw⟩⟩ rfl rfl hl.1 rfl (lv_room (Nat.le_of_ble_eq_true rfl)) d_sLen_6 ⟨Nat.zero_le _, Nat.zero_le _⟩) hS (fun q _ h => h) (fun q h => h) (fun v _ t H locs ht hvm hv hP hz hk1 hS => ?_)
  obtain rfl := hv
  refine lv_ishr hx hb d_sLen_9 ?_
  rw [(zsn_all k hk).1]
  exact W.zret (v := zI (strN k)) (ty := .int) hx hb hr rfl (fun t ht hW => ⟨⟨_, (), rfl, rfl, trivial⟩, hS.F ht⟩) hS.2.2 d_sLen_10 (hlocks := hlocks)
set_option maxRecDepth 100000 in
theorem k_sPreN {l : Launch} {sa sv : Nat → Nat} {i n : Int32} (h1 : ¬ i < 0) (h2 : i < n) : Met l y_sPre (.code y_sPre b_sPre 3 (some .int) :: zt) { frames := 0, cells := 0, slots := 0, locals := 0 } (va_Pc [.int i, .int n, .null] (fun U => zS (fun _ => False) sa sv U)) (va_Qi (fun v (_ : Unit) => v = i) (fun _ _ => True) (fun _ => False)) 0 0 (fun _ => False) := by
  refine Met.ofW (cc := b_sPre) (maxL := 3) (ret := (some .int)) (by decide) rfl ?_
  intro p e s m args below meth c s₁ Bd hml hv
  obtain ⟨hargs, hE⟩ := hv
  have hx := Bd.exec
  have hb := Bd.bytes
  have hr := Bd.returns
  have hts0 := atoms_spec (ws := .code y_sPre b_sPre 3 (some .int) :: zt) Bd.pre
  have hts : ∀ w ∈ zt, w.before args s = true := fun w h => hts0 w (List.mem_cons_of_mem _ h)
  have hown : s.vm.findClass "jdk/internal/util/Preconditions" = some m.cls := findClass_of_methodNamed Bd.named
  have hlocks := Bd.notSynchronized
  have hS : va_S (fun _ => False) s.heap s.heap [] := va_S.rf
  have hEn := lg_entry_eq m ([.int i, .int n, .null] : List Value) 3
  rw [← hargs] at hEn
  rw [hEn]
  have hl := lv_entry ([.int i, .int n, .null] : List Value) (n := 3) (Nat.le_of_ble_eq_true rfl)
  generalize (lg_sl ([.int i, .int n, .null] : List Value) ++ List.replicate (3 - (lg_sl ([.int i, .int n, .null] : List Value)).length) Slot.unset).toArray = ls at hl ⊢
  have hl : lv_has ls 3 [(0, .int i), (1, .int n), (2, .null)] := hl
  refine lv_iload_n hx hb d_sPre_0 rfl (lv_at hl 0 rfl) ?_
  refine lv_if_lt hx hb d_sPre_1 rfl (fun h => absurd h h1) (fun _ => ?_)
  refine lv_iload_n hx hb d_sPre_4 rfl (lv_at hl 0 rfl) ?_
  refine lv_iload_n hx hb d_sPre_5 rfl (lv_at hl 1 rfl) ?_
  refine lv_icmp_lt hx hb d_sPre_6 rfl (fun _ => ?_) (fun h => absurd h2 h)
  refine lv_iload_n hx hb d_sPre_16 rfl (lv_at hl 0 rfl) ?_
  exact W.zret (v := i) (ty := .int) hx hb hr rfl (fun t ht hW => ⟨⟨_, (), rfl, rfl, trivial⟩, hS.F ht⟩) hS.2.2 d_sPre_17 (hlocks := hlocks)
set_option maxRecDepth 100000 in
theorem k_sPreR {l : Launch} {sa sv : Nat → Nat} {t : Nat} {i n : Int32} (h1 : ¬ i < 0) (h2 : i < n) : Met l y_sPre (.code y_sPre b_sPre 3 (some .int) :: zt) { frames := 0, cells := 0, slots := 0, locals := 0 } (va_Pc [.int i, .int n, .ref t] (fun U => zS (fun _ => False) sa sv U)) (va_Qi (fun v (_ : Unit) => v = i) (fun _ _ => True) (fun _ => False)) 0 0 (fun _ => False) := by
  refine Met.ofW (cc := b_sPre) (maxL := 3) (ret := (some .int)) (by decide) rfl ?_
  intro p e s m args below meth c s₁ Bd hml hv
  obtain ⟨hargs, hE⟩ := hv
  have hx := Bd.exec
  have hb := Bd.bytes
  have hr := Bd.returns
  have hts0 := atoms_spec (ws := .code y_sPre b_sPre 3 (some .int) :: zt) Bd.pre
  have hts : ∀ w ∈ zt, w.before args s = true := fun w h => hts0 w (List.mem_cons_of_mem _ h)
  have hown : s.vm.findClass "jdk/internal/util/Preconditions" = some m.cls := findClass_of_methodNamed Bd.named
  have hlocks := Bd.notSynchronized
  have hS : va_S (fun _ => False) s.heap s.heap [] := va_S.rf
  have hEn := lg_entry_eq m ([.int i, .int n, .ref t] : List Value) 3
  rw [← hargs] at hEn
  rw [hEn]
  have hl := lv_entry ([.int i, .int n, .ref t] : List Value) (n := 3) (Nat.le_of_ble_eq_true rfl)
  generalize (lg_sl ([.int i, .int n, .ref t] : List Value) ++ List.replicate (3 - (lg_sl ([.int i, .int n, .ref t] : List Value)).length) Slot.unset).toArray = ls at hl ⊢
  have hl : lv_has ls 3 [(0, .int i), (1, .int n), (2, .ref t)] := hl
  refine lv_iload_n hx hb d_sPre_0 rfl (lv_at hl 0 rfl) ?_
  refine lv_if_lt hx hb d_sPre_1 rfl (fun h => absurd h h1) (fun _ => ?_)
  refine lv_iload_n hx hb d_sPre_4 rfl (lv_at hl 0 rfl) ?_
  refine lv_iload_n hx hb d_sPre_5 rfl (lv_at hl 1 rfl) ?_
  refine lv_icmp_lt hx hb d_sPre_6 rfl (fun _ => ?_) (fun h => absurd h2 h)
  refine lv_iload_n hx hb d_sPre_16 rfl (lv_at hl 0 rfl) ?_
  exact W.zret (v := i) (ty := .int) hx hb hr rfl (fun t ht hW => ⟨⟨_, (), rfl, rfl, trivial⟩, hS.F ht⟩) hS.2.2 d_sPre_17 (hlocks := hlocks)
set_option maxRecDepth 100000 in
theorem k_sChk {l : Launch} {sa sv : Nat → Nat} {i n : Int32} (h1 : ¬ i < 0) (h2 : i < n) : Met l y_sChk (.code y_sChk b_sChk 2 none :: zt) { frames := 1, cells := 0, slots := 0, locals := 22 } (va_Pc [.int i, .int n] (fun U => zS (fun _ => False) sa sv U)) (va_Qv (fun (_ : Unit) => True) (fun _ _ => True) (fun _ => False)) 0 0 (fun _ => False) := by
  refine Met.ofW (cc := b_sChk) (maxL := 2) (ret := none) (by decide) rfl ?_
  intro p e s m args below meth c s₁ Bd hml hv
  obtain ⟨hargs, hE⟩ := hv
  have hx := Bd.exec
  have hb := Bd.bytes
  have hr := Bd.returns
  have hts0 := atoms_spec (ws := .code y_sChk b_sChk 2 none :: zt) Bd.pre
  have hts : ∀ w ∈ zt, w.before args s = true := fun w h => hts0 w (List.mem_cons_of_mem _ h)
  have hown : s.vm.findClass "java/lang/String" = some m.cls := findClass_of_methodNamed Bd.named
  have hlocks := Bd.notSynchronized
  have hS : va_S (fun _ => False) s.heap s.heap [] := va_S.rf
  have hEn := lg_entry_eq m ([.int i, .int n] : List Value) 2
  rw [← hargs] at hEn
  rw [hEn]
  have hl := lv_entry ([.int i, .int n] : List Value) (n := 2) (Nat.le_of_ble_eq_true rfl)
  generalize (lg_sl ([.int i, .int n] : List Value) ++ List.replicate (2 - (lg_sl ([.int i, .int n] : List Value)).length) Slot.unset).toArray = ls at hl ⊢
  have hl : lv_has ls 2 [(0, .int i), (1, .int n)] := hl
  refine lv_iload_n hx hb d_sChk_0 rfl (lv_at hl 0 rfl) ?_
  refine lv_iload_n hx hb d_sChk_1 rfl (lv_at hl 1 rfl) ?_
  rcases hE.2.2 with hZ | ⟨t0, hZ⟩
  · refine va_gets hx hb hZ hS hown (hts _ w_598) (fun x h => h) d_sChk_2 ?_
    refine va_calli (va_runS (As := [.int i, .int n, .null]) (rest := []) (g := F0 m 5 ls [.null, .int n, .int i]) ⟨hx, hb, hml, hown, hts⟩ (k_sPreN h1 h2) ⟨callB_of 3 hts (zgood w_602) rfl rfl rfl (hts _ w_83) (hts _ w_600) ⟨by decide, by decide, by decide +kernel⟩ ⟨Nat.le_of_ble_eq_true rfl, Nat.le_of_ble_eq_true rfl⟩, hts _ w_601⟩ ⟨zfalse, fun U hU hw => ⟨rfl, zS_moved hE hS hU hw⟩⟩ rfl rfl hl.1 rfl (lv_room (Nat.le_of_ble_eq_true rfl)) d_sChk_5 ⟨Nat.zero_le _, Nat.zero_le _⟩) hS (fun q _ h => h) (fun q h => h) (fun v _ t H locs ht hvm hv hP hz hk1 hS => ?_)
    obtain rfl := hv
    refine lv_pop hx hb d_sChk_8 rfl ?_
    exact W.vret hx hb hr (fun t ht hW => ⟨⟨(), rfl, trivial, trivial⟩, hS.F ht⟩) hS.2.2 d_sChk_9 (hlocks := hlocks)
  · refine va_gets hx hb hZ hS hown (hts _ w_598) (fun x h => h) d_sChk_2 ?_
    refine va_calli (va_runS (As := [.int i, .int n, .ref t0]) (rest := []) (g := F0 m 5 ls [.ref t0, .int n, .int i]) ⟨hx, hb, hml, hown, hts⟩ (k_sPreR h1 h2) ⟨callB_of 3 hts (zgood w_602) rfl rfl rfl (hts _ w_83) (hts _ w_600) ⟨by decide, by decide, by decide +kernel⟩ ⟨Nat.le_of_ble_eq_true rfl, Nat.le_of_ble_eq_true rfl⟩, hts _ w_601⟩ ⟨zfalse, fun U hU hw => ⟨rfl, zS_moved hE hS hU hw⟩⟩ rfl rfl hl.1 rfl (lv_room (Nat.le_of_ble_eq_true rfl)) d_sChk_5 ⟨Nat.zero_le _, Nat.zero_le _⟩) hS (fun q _ h => h) (fun q h => h) (fun v _ t H locs ht hvm hv hP hz hk1 hS => ?_)
    obtain rfl := hv
    refine lv_pop hx hb d_sChk_8 rfl ?_
    exact W.vret hx hb hr (fun t ht hW => ⟨⟨(), rfl, trivial, trivial⟩, hS.F ht⟩) hS.2.2 d_sChk_9 (hlocks := hlocks)
set_option maxRecDepth 100000 in
theorem k_sL1 {l : Launch} {sa sv : Nat → Nat} {k : Nat} (hk : k < 9) {j : Int} (hj : zix j (strN k)) : Met l y_sL1 (.code y_sL1 b_sL1 2 (some .char) :: zt) { frames := 2, cells := 0, slots := 0, locals := 43 } (va_Pc [.ref (sv k), .int (zI j)] (fun U => zS (fun _ => False) sa sv U)) (va_Qi (fun v (_ : Unit) => v = zI (strC k j.toNat)) (fun _ _ => True) (fun _ => False)) 0 0 (fun _ => False) := by
  refine Met.ofW (cc := b_sL1) (maxL := 2) (ret := (some .char)) (by decide) rfl ?_
  intro p e s m args below meth c s₁ Bd hml hv
  obtain ⟨hargs, hE⟩ := hv
  have hx := Bd.exec
  have hb := Bd.bytes
  have hr := Bd.returns
  have hts0 := atoms_spec (ws := .code y_sL1 b_sL1 2 (some .char) :: zt) Bd.pre
  have hts : ∀ w ∈ zt, w.before args s = true := fun w h => hts0 w (List.mem_cons_of_mem _ h)
  have hown : s.vm.findClass "java/lang/StringLatin1" = some m.cls := findClass_of_methodNamed Bd.named
  have hlocks := Bd.notSynchronized
  have hS : va_S (fun _ => False) s.heap s.heap [] := va_S.rf
  have hEn := lg_entry_eq m ([.ref (sv k), .int (zI j)] : List Value) 2
  rw [← hargs] at hEn
  rw [hEn]
  have hl := lv_entry ([.ref (sv k), .int (zI j)] : List Value) (n := 2) (Nat.le_of_ble_eq_true rfl)
  generalize (lg_sl ([.ref (sv k), .int (zI j)] : List Value) ++ List.replicate (2 - (lg_sl ([.ref (sv k), .int (zI j)] : List Value)).length) Slot.unset).toArray = ls at hl ⊢
  have hl : lv_has ls 2 [(0, .ref (sv k)), (1, .int (zI j))] := hl
  have hN := (zsn_all k hk).2
  refine lv_iload_n hx hb d_sL1_0 rfl (lv_at hl 1 rfl) ?_
  refine lv_aload_n hx hb d_sL1_1 rfl (lv_at hl 0 rfl) ?_
  refine va_tlen hx hb (hE.1.1 k hk).2.2.2 hS (v := zI (strN k)) (by rw [hN.1]; exact Int32.ofInt_eq_ofNat.symm) d_sL1_2 ?_
  refine va_callv (va_runS (As := [.int (zI j), .int (zI (strN k))]) (rest := []) (g := F0 m 3 ls [.int (zI (strN k)), .int (zI j)]) ⟨hx, hb, hml, hown, hts⟩ (k_sChk (i := zI j) (n := zI (strN k)) (znn_n hj.1 hj.2.2) (by rw [zI_lt (by omega) (by omega) (by omega) (by omega)]; exact hj.2.1)) ⟨callB_of 2 hts (zgood w_597) rfl rfl rfl (hts _ w_81) (hts _ w_595) ⟨by decide, by decide, by decide +kernel⟩ ⟨Nat.le_of_ble_eq_true rfl, Nat.le_of_ble_eq_true rfl⟩, hts _ w_596⟩ ⟨zfalse, fun U hU hw => ⟨rfl, zS_moved hE hS hU hw⟩⟩ rfl rfl hl.1 rfl (lv_room (Nat.le_of_ble_eq_true rfl)) d_sL1_3 ⟨Nat.zero_le _, Nat.zero_le _⟩) hS (fun q _ h => h) (fun q h => h) (fun _ t H locs ht hvm hv hP hz hk1 hS => ?_)
  refine lv_aload_n hx hb d_sL1_6 rfl (lv_at hl 0 rfl) ?_
  refine lv_iload_n hx hb d_sL1_7 rfl (lv_at hl 1 rfl) ?_
  refine va_tb hx hb (hE.1.1 k hk).2.2.2 hS (by rw [hN.1]; exact zI_in hj) rfl d_sL1_8 ?_
  rw [zI_cl hj]
  refine lv_sipush (v := 255) hx hb d_sL1_9 rfl ?_
  refine lv_iand hx hb d_sL1_12 ?_
  refine lv_i2c hx hb d_sL1_13 (hN.2.2 j.toNat (by omega)) ?_
  exact W.zret (v := zI (strC k j.toNat)) (ty := .char) hx hb hr (zch_all k hk j.toNat (by omega)) (fun t ht hW => ⟨⟨_, (), rfl, rfl, trivial⟩, hS.F ht⟩) hS.2.2 d_sL1_14 (hlocks := hlocks)
set_option maxRecDepth 100000 in
theorem k_sCh {l : Launch} {sa sv : Nat → Nat} {k : Nat} (hk : k < 9) {j : Int} (hj : zix j (strN k)) : Met l y_sCh (.code y_sCh b_sCh 2 (some .char) :: zt) { frames := 3, cells := 0, slots := 0, locals := 64 } (va_Pc [.ref (sa k), .int (zI j)] (fun U => zS (fun _ => False) sa sv U)) (va_Qi (fun v (_ : Unit) => v = zI (strC k j.toNat)) (fun _ _ => True) (fun _ => False)) 0 0 (fun _ => False) := by
  refine Met.ofW (cc := b_sCh) (maxL := 2) (ret := (some .char)) (by decide) rfl ?_
  intro p e s m args below meth c s₁ Bd hml hv
  obtain ⟨hargs, hE⟩ := hv
  have hx := Bd.exec
  have hb := Bd.bytes
  have hr := Bd.returns
  have hts0 := atoms_spec (ws := .code y_sCh b_sCh 2 (some .char) :: zt) Bd.pre
  have hts : ∀ w ∈ zt, w.before args s = true := fun w h => hts0 w (List.mem_cons_of_mem _ h)
  have hown : s.vm.findClass "java/lang/String" = some m.cls := findClass_of_methodNamed Bd.named
  have hlocks := Bd.notSynchronized
  have hS : va_S (fun _ => False) s.heap s.heap [] := va_S.rf
  have hEn := lg_entry_eq m ([.ref (sa k), .int (zI j)] : List Value) 2
  rw [← hargs] at hEn
  rw [hEn]
  have hl := lv_entry ([.ref (sa k), .int (zI j)] : List Value) (n := 2) (Nat.le_of_ble_eq_true rfl)
  generalize (lg_sl ([.ref (sa k), .int (zI j)] : List Value) ++ List.replicate (2 - (lg_sl ([.ref (sa k), .int (zI j)] : List Value)).length) Slot.unset).toArray = ls at hl ⊢
  have hl : lv_has ls 2 [(0, .ref (sa k)), (1, .int (zI j))] := hl
  refine lv_aload_n hx hb d_sCh_0 rfl (lv_at hl 0 rfl) ?_
  refine va_calli (va_runV (As := []) (rest := []) (g := F0 m 1 ls [.ref (sa k)]) ⟨hx, hb, hml, hown, hts⟩ (k_sLat hk) ⟨callB_of 0 hts (zgood w_591) rfl rfl rfl (hts _ w_81) (hts _ w_588) ⟨by decide, by decide, by decide +kernel⟩ ⟨Nat.le_of_ble_eq_true rfl, Nat.le_of_ble_eq_true rfl⟩, hts _ w_589, hts _ w_590⟩ ⟨zfalse, vk_recv hE.1 hk hS, fun U hU hw => ⟨rfl, zS_moved hE hS hU hw⟩⟩ rfl rfl hl.1 rfl (lv_room (Nat.le_of_ble_eq_true rfl)) d_sCh_1 ⟨Nat.zero_le _, Nat.zero_le _⟩) hS (fun q _ h => h) (fun q h => h) (fun v _ t H locs ht hvm hv hP hz hk1 hS => ?_)
  obtain rfl := hv
  refine lv_if_eq hx hb d_sCh_4 rfl (fun h => absurd h (by decide)) (fun _ => ?_)
  refine lv_aload_n hx hb d_sCh_7 rfl (lv_at hl 0 rfl) ?_
  refine vk_getf hx hb (hE.1.1 k hk).2.2.1 hS hown (hts _ w_1111) (fun x h => h) d_sCh_8 ?_
  refine lv_iload_n hx hb d_sCh_11 rfl (lv_at hl 1 rfl) ?_
  refine va_calli (va_runS (As := [.ref (sv k), .int (zI j)]) (rest := []) (g := F0 m 12 ls [.int (zI j), .ref (sv k)]) ⟨hx, hb, hml, hown, hts⟩ (k_sL1 hk hj) ⟨callB_of 2 hts (zgood w_594) rfl rfl rfl (hts _ w_82) (hts _ w_592) ⟨by decide, by decide, by decide +kernel⟩ ⟨Nat.le_of_ble_eq_true rfl, Nat.le_of_ble_eq_true rfl⟩, hts _ w_593⟩ ⟨zfalse, fun U hU hw => ⟨rfl, zS_moved hE hS hU hw⟩⟩ rfl rfl hl.1 rfl (lv_room (Nat.le_of_ble_eq_true rfl)) d_sCh_12 ⟨Nat.zero_le _, Nat.zero_le _⟩) hS (fun q _ h => h) (fun q h => h) (fun v _ t H locs ht hvm hv hP hz hk1 hS => ?_)
  obtain rfl := hv
  exact W.zret (v := zI (strC k j.toNat)) (ty := .char) hx hb hr (zch_all k hk j.toNat (by have := hj.2.1; omega)) (fun t ht hW => ⟨⟨_, (), rfl, rfl, trivial⟩, hS.F ht⟩) hS.2.2 d_sCh_15 (hlocks := hlocks)
/-- the side facts that go from start to start: the literals, the links that are no good words -/
def zX (B : Nat) (sa sv : Nat → Nat) (U : State) : Prop := zS (fun x => B ≤ x) sa sv U ∧ (vk_R "TreeShell$Tools" 56 "-n" (sa 0) U ∧ vk_R "TreeShell$Tools" 116 "-v" (sa 1) U ∧ vk_R "TreeShell$Tools" 19 "echo" (sa 2) U ∧ vk_R "TreeShell$Tools" 30 "cat" (sa 3) U ∧ vk_R "TreeShell$Tools" 35 "wc" (sa 4) U ∧ vk_R "TreeShell$Tools" 39 "grep" (sa 5) U ∧ vk_R "TreeShell$Tools" 43 "ls" (sa 6) U ∧ vk_R "TreeShell$Tools" 47 "mkdir" (sa 7) U ∧ vk_R "TreeShell$Tools" 52 "cd" (sa 8) U) ∧ va_Nw (.methodLinkNest "TreeShell" 95 y_cRunner_runList "TreeShell") U
theorem zX_moved {B : Nat} {sa sv : Nat → Nat} {s U : State} {H : Heap} {locs : List Loc} (h : zX B sa sv s) (hS : va_S (fun x => B ≤ x) s.heap H locs) (hU : U.heap = H) (hw : s.WarmedH U.vm) : zX B sa sv U := by
  obtain ⟨h1, ⟨a0, a1, a2, a3, a4, a5, a6, a7, a8⟩, h3⟩ := h
  exact ⟨zS_moved h1 hS hU hw, ⟨a0.warm hw, a1.warm hw, a2.warm hw, a3.warm hw, a4.warm hw, a5.warm hw, a6.warm hw, a7.warm hw, a8.warm hw⟩, va_Nw.warmM hw h3⟩
theorem zX_call {B : Nat} {sa sv : Nat → Nat} {U : State} {g : JFrame} {mk : MethodId} {a : Array Value} (h : zX B sa sv U) : zX B sa sv (U.calling g mk a) := by
  obtain ⟨h1, ⟨a0, a1, a2, a3, a4, a5, a6, a7, a8⟩, h3⟩ := h
  exact ⟨zS_call h1, ⟨vk_R.same (u := U) (U := U.calling g mk a) rfl a0, vk_R.same (u := U) (U := U.calling g mk a) rfl a1, vk_R.same (u := U) (U := U.calling g mk a) rfl a2, vk_R.same (u := U) (U := U.calling g mk a) rfl a3, vk_R.same (u := U) (U := U.calling g mk a) rfl a4, vk_R.same (u := U) (U := U.calling g mk a) rfl a5, vk_R.same (u := U) (U := U.calling g mk a) rfl a6, vk_R.same (u := U) (U := U.calling g mk a) rfl a7, vk_R.same (u := U) (U := U.calling g mk a) rfl a8⟩, va_Nw.same (u := U) (U := U.calling g mk a) rfl rfl h3⟩
section
variable {p : Program} {l : Launch} {e : Env} {R : Room} {s : State} {m : MethodId} {args : Array Value} {below : List Frame} {meth : Method} {c : Code} {H H0 : Heap} {locs : List Loc} {cells slots : Nat} {Q : State → Prop}
variable {cc : ByteArray} {pc : Nat} {ls : Array Slot} {rest : List Value} {α : Type} {o : α} {D : va_G} {B : Nat} {y : Nat → ClassId} {ad : Nat × Nat → Nat} {q : Bool} {u : ZC} {r : ZR} {sa sv : Nat → Nat}
theorem zblX {L : List Value} : FrameBlind (va_Pc L (fun U => ZP D B y ad q u r U ∧ zX B sa sv U)) := fun a U g mk h => ⟨h.1, ⟨h.2.1.1, h.2.1.2.1, va_K.moved (u := U) (U := U.calling g mk a) (Vm.Alike.refl U.vm) h.2.1.2.2⟩, zX_call h.2.2⟩
theorem zpreX {L : List Value} (hX : zX B sa sv s) (hB : B ≤ s.heap.size) (hK : va_K D ZCL (ztys y) s) (hW : ZW D B y ad q u r H) (hS : va_S (fun x => B ≤ x) s.heap H locs) : ∀ U : State, U.heap = H → s.WarmedH U.vm → va_Pc L (fun U => ZP D B y ad q u r U ∧ zX B sa sv U) L.toArray U := fun U hU hw => ⟨rfl, ⟨by rw [hU]; exact Nat.le_trans hB hS.1, by rw [hU]; exact hW, va_K.moved hw.alike hK⟩, zX_moved hX hS hU hw⟩
/-- String.length, String.charAt on a literal -/
theorem z_strlen {own : String} {ix k nL : Nat} {st0 : List Value} (M : ZM p c cc s args m own D y) (hX : zX B sa sv s) (hml : c.maxLocals = nL) (hk : k < 9) (cw : CallW R s args own "java/lang/String" ix y_sLen b_sLen 1 (some .int) (.code y_sLen b_sLen 1 (some .int) :: zt) { frames := 1, cells := 0, slots := 0, locals := 20 } 0 0 0) (hW : ZW D B y ad q u r H) (hS : va_S (fun x => B ≤ x) s.heap H locs) (hz : ls.size = nL) (hst : st0 = .ref (sa k) :: rest) (hrm : (rest.map fun v => v.category).sum ≤ 8) (hd : decode cc pc = .ok (.invokevirtual ix, 3)) (hcs : cells ≤ R.cells ∧ slots ≤ R.slots) (kk : ∀ (H1 : Heap) (locs1 : List Loc), ZW D B y ad q u r H1 → va_S (fun x => B ≤ x) s.heap H1 locs1 → W p l e R s m args below meth c H1 locs1 cells slots Q (F0 m (pc + 3) ls (.int (zI (strN k)) :: rest))) : W p l e R s m args below meth c H locs cells slots Q (F0 m (pc) ls (st0)) := by
  refine va_calli (va_runV (As := []) (rest := rest) (g := F0 m pc ls st0) ⟨M.1, M.2.1, hml, M.2.2.2.1, M.2.2.1⟩ (k_sLen (sa := sa) (sv := sv) hk) cw ⟨zfalse, vk_recv hX.1.1 hk hS, fun U hU hw => ⟨rfl, zS_narrow (zS_moved hX.1 hS hU hw) (fun q h => h.elim)⟩⟩ rfl rfl hz hst (lv_room hrm) hd hcs) hS (fun q _ h => h.elim) (fun q h => h.elim) (fun v _ t H1 locs1 ht hvm hv hP hz1 hk1 hS => ?_)
  obtain rfl := hv
  exact kk H1 locs1 ⟨hW.1.kept (fun j x hx => hk1 x.1 ((hW.1 j x hx).lt) (fun h => h)), hW.2⟩ hS
theorem z_strch {own : String} {ix k nL : Nat} {j : Int} {st0 : List Value} (M : ZM p c cc s args m own D y) (hX : zX B sa sv s) (hml : c.maxLocals = nL) (hk : k < 9) (hj : zix j (strN k)) (cw : CallW R s args own "java/lang/String" ix y_sCh b_sCh 2 (some .char) (.code y_sCh b_sCh 2 (some .char) :: zt) { frames := 3, cells := 0, slots := 0, locals := 64 } 0 0 1) (hW : ZW D B y ad q u r H) (hS : va_S (fun x => B ≤ x) s.heap H locs) (hz : ls.size = nL) (hst : st0 = .int (zI j) :: .ref (sa k) :: rest) (hrm : (rest.map fun v => v.category).sum ≤ 8) (hd : decode cc pc = .ok (.invokevirtual ix, 3)) (hcs : cells ≤ R.cells ∧ slots ≤ R.slots) (kk : ∀ (H1 : Heap) (locs1 : List Loc), ZW D B y ad q u r H1 → va_S (fun x => B ≤ x) s.heap H1 locs1 → W p l e R s m args below meth c H1 locs1 cells slots Q (F0 m (pc + 3) ls (.int (zI (strC k j.toNat)) :: rest))) : W p l e R s m args below meth c H locs cells slots Q (F0 m (pc) ls (st0)) := by
  refine va_calli (va_runV (As := [.int (zI j)]) (rest := rest) (g := F0 m pc ls st0) ⟨M.1, M.2.1, hml, M.2.2.2.1, M.2.2.1⟩ (k_sCh (sa := sa) (sv := sv) hk hj) cw ⟨zfalse, vk_recv hX.1.1 hk hS, fun U hU hw => ⟨rfl, zS_narrow (zS_moved hX.1 hS hU hw) (fun q h => h.elim)⟩⟩ rfl rfl hz hst (lv_room hrm) hd hcs) hS (fun q _ h => h.elim) (fun q h => h.elim) (fun v _ t H1 locs1 ht hvm hv hP hz1 hk1 hS => ?_)
  obtain rfl := hv
  exact kk H1 locs1 ⟨hW.1.kept (fun j x hx => hk1 x.1 ((hW.1 j x hx).lt) (fun h => h)), hW.2⟩ hS
/-- a call whose start wants the side facts -/
theorem z_callXVi {own C9 : String} {ix mL9 n9 nL : Nat} {y9 : MethodName} {by9 : ByteArray} {rt9 : Option FieldType} {rm9 : Room} {b9 : Nat} {As : List Value} {u2 : ZC} {r2 : ZR} {a : Int} {st0 : List Value} (hM : Met l y9 (.code y9 by9 mL9 rt9 :: zt) rm9 (va_Pc (Value.ref b9 :: As) (fun U => ZP D B y ad q u r U ∧ zX B sa sv U)) (va_Qi (fun v (_ : Unit) => v = zI a) (fun _ t => ZP D B y ad q u2 r2 t) (fun x => B ≤ x)) 0 0 (fun x => B ≤ x)) (M : ZM p c cc s args m own D y) (hX : zX B sa sv s) (hml : c.maxLocals = nL) (cw : CallW R s args own C9 ix y9 by9 mL9 rt9 (.code y9 by9 mL9 rt9 :: zt) rm9 0 0 n9) (hrc : ∃ cell : Cell, H[b9]? = some cell ∧ cell.vm.isStatics = false ∧ s.vm.findClass C9 = some cell.cls) (hB : B ≤ s.heap.size) (hW : ZW D B y ad q u r H) (hS : va_S (fun x => B ≤ x) s.heap H locs) (hn : As.length = n9) (hz : ls.size = nL) (hst : st0 = As.reverse ++ .ref b9 :: rest) (hrm : (rest.map fun v => v.category).sum ≤ 8) (hd : decode cc pc = .ok (.invokevirtual ix, 3)) (hcs : cells ≤ R.cells ∧ slots ≤ R.slots) (kk : ∀ (H1 : Heap) (locs1 : List Loc), ZW D B y ad q u2 r2 H1 → va_S (fun x => B ≤ x) s.heap H1 locs1 → W p l e R s m args below meth c H1 locs1 cells slots Q (F0 m (pc + 3) ls (.int (zI a) :: rest))) : W p l e R s m args below meth c H locs cells slots Q (F0 m (pc) ls (st0)) := by
  refine va_calli (va_runV (As := As) (rest := rest) (g := F0 m pc ls st0) ⟨M.1, M.2.1, hml, M.2.2.2.1, M.2.2.1⟩ hM cw ⟨zblX, hrc, zpreX hX hB M.2.2.2.2 hW hS⟩ rfl hn hz hst (lv_room hrm) hd hcs) hS (fun x _ h => h) (fun x h => h) (fun v _ t H1 locs1 ht hvm hv hP hz hk hS => ?_)
  obtain rfl := hv; exact kk H1 locs1 (by rw [← ht]; exact hP.2.1) hS
end
