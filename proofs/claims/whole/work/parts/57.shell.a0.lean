theorem w_351 : (Jvm.Cond.fieldLink "TreeShell" (23 : Nat) "TreeShell" "tokens" "LTreeShell$Tokens;") ∈ zt := List.mem_filter.mpr ⟨List.mem_of_getElem? (i := 351) (by decide +kernel), rfl⟩
theorem w_352 : (Jvm.Cond.fieldLink "TreeShell" (32 : Nat) "TreeShell" "grammar" "LTreeShell$Grammar;") ∈ zt := List.mem_filter.mpr ⟨List.mem_of_getElem? (i := 352) (by decide +kernel), rfl⟩
theorem w_392 : (Jvm.Cond.instanceMethod ({ cls := "TreeShell", name := "check", desc := "()I" } : Jvm.MethodName)) ∈ zt := List.mem_filter.mpr ⟨List.mem_of_getElem? (i := 392) (by decide +kernel), rfl⟩
theorem w_393 : (Jvm.Cond.selects "TreeShell" ({ cls := "TreeShell", name := "check", desc := "()I" } : Jvm.MethodName) ({ cls := "TreeShell", name := "check", desc := "()I" } : Jvm.MethodName)) ∈ zt := List.mem_filter.mpr ⟨List.mem_of_getElem? (i := 393) (by decide +kernel), rfl⟩
theorem w_394 : (Jvm.Cond.code ({ cls := "TreeShell", name := "check", desc := "()I" } : Jvm.MethodName) prog_1_method_6_code (1 : Nat) (Option.some Jvm.ClassFile.FieldType.int)) ∈ zt := List.mem_filter.mpr ⟨List.mem_of_getElem? (i := 394) (by decide +kernel), rfl⟩
theorem w_395 : (Jvm.Cond.methodLink "TreeShell" (78 : Nat) ({ cls := "TreeShell$Grammar", name := "accepts", desc := "()Z" } : Jvm.MethodName)) ∈ zt := List.mem_filter.mpr ⟨List.mem_of_getElem? (i := 395) (by decide +kernel), rfl⟩
theorem w_447 : (Jvm.Cond.methodLink "TreeShell" (82 : Nat) ({ cls := "TreeShell$Tokens", name := "countWords", desc := "()I" } : Jvm.MethodName)) ∈ zt := List.mem_filter.mpr ⟨List.mem_of_getElem? (i := 447) (by decide +kernel), rfl⟩
theorem d_cShell_within_0 : decode b_cShell_within 0 = .ok (.iload_n 0, 1) := by decide +kernel
theorem d_cShell_within_1 : decode b_cShell_within 1 = .ok (.iload_n 1, 1) := by decide +kernel
theorem d_cShell_within_2 : decode b_cShell_within 2 = .ok (.iload_n 2, 1) := by decide +kernel
theorem d_cShell_within_3 : decode b_cShell_within 3 = .ok (.invokestatic 58, 3) := by decide +kernel
theorem d_cShell_within_6 : decode b_cShell_within 6 = .ok (.invokestatic 64, 3) := by decide +kernel
theorem d_cShell_within_9 : decode b_cShell_within 9 = .ok (.ireturn, 1) := by decide +kernel
theorem d_cShell_type_0 : decode b_cShell_type 0 = .ok (.iconst 0, 1) := by decide +kernel
theorem d_cShell_type_1 : decode b_cShell_type 1 = .ok (.istore_n 3, 1) := by decide +kernel
theorem d_cShell_type_2 : decode b_cShell_type 2 = .ok (.bipush 56, 2) := by decide +kernel
theorem d_cShell_type_4 : decode b_cShell_type 4 = .ok (.istore 4, 2) := by decide +kernel
theorem d_cShell_type_6 : decode b_cShell_type 6 = .ok (.iload 4, 2) := by decide +kernel
theorem d_cShell_type_8 : decode b_cShell_type 8 = .ok (.ifCond .lt 54, 3) := by decide +kernel
theorem d_cShell_type_11 : decode b_cShell_type 11 = .ok (.lload_n 1, 1) := by decide +kernel
theorem d_cShell_type_12 : decode b_cShell_type 12 = .ok (.iload 4, 2) := by decide +kernel
theorem d_cShell_type_14 : decode b_cShell_type 14 = .ok (.lushr, 1) := by decide +kernel
theorem d_cShell_type_15 : decode b_cShell_type 15 = .ok (.l2i, 1) := by decide +kernel
theorem d_cShell_type_16 : decode b_cShell_type 16 = .ok (.sipush 255, 3) := by decide +kernel
theorem d_cShell_type_19 : decode b_cShell_type 19 = .ok (.iand, 1) := by decide +kernel
theorem d_cShell_type_20 : decode b_cShell_type 20 = .ok (.istore 5, 2) := by decide +kernel
theorem d_cShell_type_22 : decode b_cShell_type 22 = .ok (.iload 5, 2) := by decide +kernel
theorem d_cShell_type_24 : decode b_cShell_type 24 = .ok (.ifCond .eq 19, 3) := by decide +kernel
theorem d_cShell_type_27 : decode b_cShell_type 27 = .ok (.iload 5, 2) := by decide +kernel
theorem d_cShell_type_29 : decode b_cShell_type 29 = .ok (.bipush 32, 2) := by decide +kernel
theorem d_cShell_type_31 : decode b_cShell_type 31 = .ok (.if_icmp .lt 10, 3) := by decide +kernel
theorem d_cShell_type_34 : decode b_cShell_type 34 = .ok (.iload 5, 2) := by decide +kernel
theorem d_cShell_type_36 : decode b_cShell_type 36 = .ok (.bipush 126, 2) := by decide +kernel
theorem d_cShell_type_38 : decode b_cShell_type 38 = .ok (.if_icmp .le 5, 3) := by decide +kernel
theorem d_cShell_type_41 : decode b_cShell_type 41 = .ok (.iconst 0, 1) := by decide +kernel
theorem d_cShell_type_42 : decode b_cShell_type 42 = .ok (.ireturn, 1) := by decide +kernel
theorem d_cShell_type_43 : decode b_cShell_type 43 = .ok (.iload_n 3, 1) := by decide +kernel
theorem d_cShell_type_44 : decode b_cShell_type 44 = .ok (.iload 5, 2) := by decide +kernel
theorem d_cShell_type_46 : decode b_cShell_type 46 = .ok (.ifCond .ne 7, 3) := by decide +kernel
theorem d_cShell_type_49 : decode b_cShell_type 49 = .ok (.iconst 0, 1) := by decide +kernel
theorem d_cShell_type_50 : decode b_cShell_type 50 = .ok (.goto 4, 3) := by decide +kernel
theorem d_cShell_type_53 : decode b_cShell_type 53 = .ok (.iconst 1, 1) := by decide +kernel
theorem d_cShell_type_54 : decode b_cShell_type 54 = .ok (.iadd, 1) := by decide +kernel
theorem d_cShell_type_55 : decode b_cShell_type 55 = .ok (.istore_n 3, 1) := by decide +kernel
theorem d_cShell_type_56 : decode b_cShell_type 56 = .ok (.iinc 4 (-8), 3) := by decide +kernel
theorem d_cShell_type_59 : decode b_cShell_type 59 = .ok (.goto (-53), 3) := by decide +kernel
theorem d_cShell_type_62 : decode b_cShell_type 62 = .ok (.aload_n 0, 1) := by decide +kernel
theorem d_cShell_type_63 : decode b_cShell_type 63 = .ok (.getfield 14, 3) := by decide +kernel
theorem d_cShell_type_66 : decode b_cShell_type 66 = .ok (.getfield 67, 3) := by decide +kernel
theorem d_cShell_type_69 : decode b_cShell_type 69 = .ok (.iload_n 3, 1) := by decide +kernel
theorem d_cShell_type_70 : decode b_cShell_type 70 = .ok (.iadd, 1) := by decide +kernel
theorem d_cShell_type_71 : decode b_cShell_type 71 = .ok (.bipush 64, 2) := by decide +kernel
theorem d_cShell_type_73 : decode b_cShell_type 73 = .ok (.if_icmp .le 5, 3) := by decide +kernel
theorem d_cShell_type_76 : decode b_cShell_type 76 = .ok (.iconst 0, 1) := by decide +kernel
theorem d_cShell_type_77 : decode b_cShell_type 77 = .ok (.ireturn, 1) := by decide +kernel
theorem d_cShell_type_78 : decode b_cShell_type 78 = .ok (.aload_n 0, 1) := by decide +kernel
theorem d_cShell_type_79 : decode b_cShell_type 79 = .ok (.getfield 14, 3) := by decide +kernel
theorem d_cShell_type_82 : decode b_cShell_type 82 = .ok (.lload_n 1, 1) := by decide +kernel
theorem d_cShell_type_83 : decode b_cShell_type 83 = .ok (.invokevirtual 71, 3) := by decide +kernel
theorem d_cShell_type_86 : decode b_cShell_type 86 = .ok (.iconst 1, 1) := by decide +kernel
theorem d_cShell_type_87 : decode b_cShell_type 87 = .ok (.ireturn, 1) := by decide +kernel
theorem d_cShell_wipe_0 : decode b_cShell_wipe 0 = .ok (.aload_n 0, 1) := by decide +kernel
theorem d_cShell_wipe_1 : decode b_cShell_wipe 1 = .ok (.getfield 14, 3) := by decide +kernel
theorem d_cShell_wipe_4 : decode b_cShell_wipe 4 = .ok (.invokevirtual 75, 3) := by decide +kernel
theorem d_cShell_wipe_7 : decode b_cShell_wipe 7 = .ok (.return_, 1) := by decide +kernel
theorem d_cShell_typed_0 : decode b_cShell_typed 0 = .ok (.aload_n 0, 1) := by decide +kernel
theorem d_cShell_typed_1 : decode b_cShell_typed 1 = .ok (.getfield 14, 3) := by decide +kernel
theorem d_cShell_typed_4 : decode b_cShell_typed 4 = .ok (.getfield 67, 3) := by decide +kernel
theorem d_cShell_typed_7 : decode b_cShell_typed 7 = .ok (.ireturn, 1) := by decide +kernel
theorem d_cShell_check_0 : decode b_cShell_check 0 = .ok (.aload_n 0, 1) := by decide +kernel
theorem d_cShell_check_1 : decode b_cShell_check 1 = .ok (.getfield 32, 3) := by decide +kernel
theorem d_cShell_check_4 : decode b_cShell_check 4 = .ok (.invokevirtual 78, 3) := by decide +kernel
theorem d_cShell_check_7 : decode b_cShell_check 7 = .ok (.ifCond .eq 13, 3) := by decide +kernel
theorem d_cShell_check_10 : decode b_cShell_check 10 = .ok (.aload_n 0, 1) := by decide +kernel
theorem d_cShell_check_11 : decode b_cShell_check 11 = .ok (.getfield 23, 3) := by decide +kernel
theorem d_cShell_check_14 : decode b_cShell_check 14 = .ok (.invokevirtual 82, 3) := by decide +kernel
theorem d_cShell_check_17 : decode b_cShell_check 17 = .ok (.goto 4, 3) := by decide +kernel
theorem d_cShell_check_20 : decode b_cShell_check 20 = .ok (.iconst (-1), 1) := by decide +kernel
theorem d_cShell_check_21 : decode b_cShell_check 21 = .ok (.ireturn, 1) := by decide +kernel
theorem d_cShell_status_0 : decode b_cShell_status 0 = .ok (.aload_n 0, 1) := by decide +kernel
theorem d_cShell_status_1 : decode b_cShell_status 1 = .ok (.getfield 54, 3) := by decide +kernel
theorem d_cShell_status_4 : decode b_cShell_status 4 = .ok (.getfield 99, 3) := by decide +kernel
theorem d_cShell_status_7 : decode b_cShell_status 7 = .ok (.ireturn, 1) := by decide +kernel
theorem d_cShell_length_0 : decode b_cShell_length 0 = .ok (.aload_n 0, 1) := by decide +kernel
theorem d_cShell_length_1 : decode b_cShell_length 1 = .ok (.getfield 54, 3) := by decide +kernel
theorem d_cShell_length_4 : decode b_cShell_length 4 = .ok (.invokevirtual 102, 3) := by decide +kernel
theorem d_cShell_length_7 : decode b_cShell_length 7 = .ok (.getfield 67, 3) := by decide +kernel
theorem d_cShell_length_10 : decode b_cShell_length 10 = .ok (.ireturn, 1) := by decide +kernel
theorem d_cShell_out_0 : decode b_cShell_out 0 = .ok (.aload_n 0, 1) := by decide +kernel
theorem d_cShell_out_1 : decode b_cShell_out 1 = .ok (.getfield 54, 3) := by decide +kernel
theorem d_cShell_out_4 : decode b_cShell_out 4 = .ok (.invokevirtual 102, 3) := by decide +kernel
theorem d_cShell_out_7 : decode b_cShell_out 7 = .ok (.astore_n 2, 1) := by decide +kernel
theorem d_cShell_out_8 : decode b_cShell_out 8 = .ok (.iload_n 1, 1) := by decide +kernel
theorem d_cShell_out_9 : decode b_cShell_out 9 = .ok (.ifCond .lt 14, 3) := by decide +kernel
theorem d_cShell_out_12 : decode b_cShell_out 12 = .ok (.iload_n 1, 1) := by decide +kernel
theorem d_cShell_out_13 : decode b_cShell_out 13 = .ok (.aload_n 2, 1) := by decide +kernel
theorem d_cShell_out_14 : decode b_cShell_out 14 = .ok (.getfield 67, 3) := by decide +kernel
theorem d_cShell_out_17 : decode b_cShell_out 17 = .ok (.bipush 8, 2) := by decide +kernel
theorem d_cShell_out_19 : decode b_cShell_out 19 = .ok (.idiv, 1) := by decide +kernel
theorem d_cShell_out_20 : decode b_cShell_out 20 = .ok (.if_icmp .le 5, 3) := by decide +kernel
theorem d_cShell_out_23 : decode b_cShell_out 23 = .ok (.lconst 0, 1) := by decide +kernel
theorem d_cShell_out_24 : decode b_cShell_out 24 = .ok (.lreturn, 1) := by decide +kernel
theorem d_cShell_out_25 : decode b_cShell_out 25 = .ok (.lconst 0, 1) := by decide +kernel
theorem d_cShell_out_26 : decode b_cShell_out 26 = .ok (.lstore_n 3, 1) := by decide +kernel
theorem d_cShell_out_27 : decode b_cShell_out 27 = .ok (.bipush 8, 2) := by decide +kernel
theorem d_cShell_out_29 : decode b_cShell_out 29 = .ok (.iload_n 1, 1) := by decide +kernel
theorem d_cShell_out_30 : decode b_cShell_out 30 = .ok (.imul, 1) := by decide +kernel
theorem d_cShell_out_31 : decode b_cShell_out 31 = .ok (.istore 5, 2) := by decide +kernel
theorem d_cShell_out_33 : decode b_cShell_out 33 = .ok (.iload 5, 2) := by decide +kernel
theorem d_cShell_out_35 : decode b_cShell_out 35 = .ok (.bipush 8, 2) := by decide +kernel
theorem d_cShell_out_37 : decode b_cShell_out 37 = .ok (.iload_n 1, 1) := by decide +kernel
theorem d_cShell_out_38 : decode b_cShell_out 38 = .ok (.imul, 1) := by decide +kernel
theorem d_cShell_out_39 : decode b_cShell_out 39 = .ok (.bipush 8, 2) := by decide +kernel
theorem d_cShell_out_41 : decode b_cShell_out 41 = .ok (.iadd, 1) := by decide +kernel
theorem d_cShell_out_42 : decode b_cShell_out 42 = .ok (.if_icmp .ge 36, 3) := by decide +kernel
theorem d_cShell_out_45 : decode b_cShell_out 45 = .ok (.lload_n 3, 1) := by decide +kernel
theorem d_cShell_out_46 : decode b_cShell_out 46 = .ok (.bipush 8, 2) := by decide +kernel
theorem d_cShell_out_48 : decode b_cShell_out 48 = .ok (.lshl, 1) := by decide +kernel
theorem d_cShell_out_49 : decode b_cShell_out 49 = .ok (.iload 5, 2) := by decide +kernel
theorem d_cShell_out_51 : decode b_cShell_out 51 = .ok (.aload_n 2, 1) := by decide +kernel
theorem d_cShell_out_52 : decode b_cShell_out 52 = .ok (.getfield 67, 3) := by decide +kernel
theorem d_cShell_out_55 : decode b_cShell_out 55 = .ok (.if_icmp .ge 13, 3) := by decide +kernel
theorem d_cShell_out_58 : decode b_cShell_out 58 = .ok (.aload_n 2, 1) := by decide +kernel
theorem d_cShell_out_59 : decode b_cShell_out 59 = .ok (.getfield 106, 3) := by decide +kernel
theorem d_cShell_out_62 : decode b_cShell_out 62 = .ok (.iload 5, 2) := by decide +kernel
theorem d_cShell_out_64 : decode b_cShell_out 64 = .ok (.caload, 1) := by decide +kernel
theorem d_cShell_out_65 : decode b_cShell_out 65 = .ok (.goto 4, 3) := by decide +kernel
theorem d_cShell_out_68 : decode b_cShell_out 68 = .ok (.iconst 0, 1) := by decide +kernel
theorem d_cShell_out_69 : decode b_cShell_out 69 = .ok (.i2l, 1) := by decide +kernel
theorem d_cShell_out_70 : decode b_cShell_out 70 = .ok (.lor, 1) := by decide +kernel
theorem d_cShell_out_71 : decode b_cShell_out 71 = .ok (.lstore_n 3, 1) := by decide +kernel
theorem d_cShell_out_72 : decode b_cShell_out 72 = .ok (.iinc 5 1, 3) := by decide +kernel
theorem d_cShell_out_75 : decode b_cShell_out 75 = .ok (.goto (-42), 3) := by decide +kernel
theorem d_cShell_out_78 : decode b_cShell_out 78 = .ok (.lload_n 3, 1) := by decide +kernel
theorem d_cShell_out_79 : decode b_cShell_out 79 = .ok (.lreturn, 1) := by decide +kernel
theorem d_cShell_ran_0 : decode b_cShell_ran 0 = .ok (.aload_n 0, 1) := by decide +kernel
theorem d_cShell_ran_1 : decode b_cShell_ran 1 = .ok (.getfield 54, 3) := by decide +kernel
theorem d_cShell_ran_4 : decode b_cShell_ran 4 = .ok (.getfield 110, 3) := by decide +kernel
theorem d_cShell_ran_7 : decode b_cShell_ran 7 = .ok (.ireturn, 1) := by decide +kernel
theorem d_cShell_nodes_0 : decode b_cShell_nodes 0 = .ok (.aload_n 0, 1) := by decide +kernel
theorem d_cShell_nodes_1 : decode b_cShell_nodes 1 = .ok (.getfield 45, 3) := by decide +kernel
theorem d_cShell_nodes_4 : decode b_cShell_nodes 4 = .ok (.getfield 113, 3) := by decide +kernel
theorem d_cShell_nodes_7 : decode b_cShell_nodes 7 = .ok (.ireturn, 1) := by decide +kernel
theorem d_cShell_chars_0 : decode b_cShell_chars 0 = .ok (.aload_n 0, 1) := by decide +kernel
theorem d_cShell_chars_1 : decode b_cShell_chars 1 = .ok (.getfield 45, 3) := by decide +kernel
theorem d_cShell_chars_4 : decode b_cShell_chars 4 = .ok (.getfield 114, 3) := by decide +kernel
theorem d_cShell_chars_7 : decode b_cShell_chars 7 = .ok (.ireturn, 1) := by decide +kernel
theorem d_cShell_depth_0 : decode b_cShell_depth 0 = .ok (.iconst 0, 1) := by decide +kernel
theorem d_cShell_depth_1 : decode b_cShell_depth 1 = .ok (.istore_n 1, 1) := by decide +kernel
theorem d_cShell_depth_2 : decode b_cShell_depth 2 = .ok (.aload_n 0, 1) := by decide +kernel
theorem d_cShell_depth_3 : decode b_cShell_depth 3 = .ok (.getfield 45, 3) := by decide +kernel
theorem d_cShell_depth_6 : decode b_cShell_depth 6 = .ok (.getfield 117, 3) := by decide +kernel
theorem d_cShell_depth_9 : decode b_cShell_depth 9 = .ok (.astore_n 2, 1) := by decide +kernel
theorem d_cShell_depth_10 : decode b_cShell_depth 10 = .ok (.aload_n 2, 1) := by decide +kernel
theorem d_cShell_depth_11 : decode b_cShell_depth 11 = .ok (.getfield 121, 3) := by decide +kernel
theorem d_cShell_depth_14 : decode b_cShell_depth 14 = .ok (.ifnull 14, 3) := by decide +kernel
theorem d_cShell_depth_17 : decode b_cShell_depth 17 = .ok (.iinc 1 1, 3) := by decide +kernel
theorem d_cShell_depth_20 : decode b_cShell_depth 20 = .ok (.aload_n 2, 1) := by decide +kernel
theorem d_cShell_depth_21 : decode b_cShell_depth 21 = .ok (.getfield 121, 3) := by decide +kernel
theorem d_cShell_depth_24 : decode b_cShell_depth 24 = .ok (.astore_n 2, 1) := by decide +kernel
theorem d_cShell_depth_25 : decode b_cShell_depth 25 = .ok (.goto (-15), 3) := by decide +kernel
theorem d_cShell_depth_28 : decode b_cShell_depth 28 = .ok (.iload_n 1, 1) := by decide +kernel
theorem d_cShell_depth_29 : decode b_cShell_depth 29 = .ok (.ireturn, 1) := by decide +kernel
theorem cw_cShell_within {R : Room} {s : State} {args : Array Value} {ix : Nat} (hts : ∀ w ∈ zt, w.before args s = true) (hl : (Cond.methodLink "TreeShell" ix y_cShell_within).before args s = true) (h1 : 2 ≤ R.frames) (h2 : 47 ≤ R.locals) : CallB R s args "TreeShell" ix y_cShell_within b_cShell_within 3 (some .int) (.code y_cShell_within b_cShell_within 3 (some .int) :: zt) { frames := 1, cells := 0, slots := 0, locals := 25 } 0 0 3 ∧ (Cond.static y_cShell_within).before args s = true := ⟨callB_of 3 hts (zgood w_166) rfl rfl rfl (hts _ w_68) hl ⟨by decide, by decide, by decide +kernel⟩ ⟨h1, h2⟩, hts _ w_165⟩
theorem cw_cShell_type {R : Room} {s : State} {args : Array Value} {own : String} {ix : Nat} (hts : ∀ w ∈ zt, w.before args s = true) (hl : (Cond.methodLink own ix y_cShell_type).before args s = true) (h1 : 3 ≤ R.frames) (h2 : 70 ≤ R.locals) : CallW R s args own "TreeShell" ix y_cShell_type b_cShell_type 6 (some .boolean) (.code y_cShell_type b_cShell_type 6 (some .boolean) :: zt) { frames := 2, cells := 0, slots := 0, locals := 45 } 0 0 1 := ⟨callB_of 1 hts (zgood w_369) rfl rfl rfl (hts _ w_68) hl ⟨by decide, by decide, by decide +kernel⟩ ⟨h1, h2⟩, hts _ w_367, hts _ w_368⟩
theorem cw_cShell_wipe {R : Room} {s : State} {args : Array Value} {own : String} {ix : Nat} (hts : ∀ w ∈ zt, w.before args s = true) (hl : (Cond.methodLink own ix y_cShell_wipe).before args s = true) (h1 : 2 ≤ R.frames) (h2 : 40 ≤ R.locals) : CallW R s args own "TreeShell" ix y_cShell_wipe b_cShell_wipe 1 none (.code y_cShell_wipe b_cShell_wipe 1 none :: zt) { frames := 1, cells := 0, slots := 0, locals := 20 } 0 0 0 := ⟨callB_of 0 hts (zgood w_382) rfl rfl rfl (hts _ w_68) hl ⟨by decide, by decide, by decide +kernel⟩ ⟨h1, h2⟩, hts _ w_380, hts _ w_381⟩
theorem cw_cShell_typed {R : Room} {s : State} {args : Array Value} {own : String} {ix : Nat} (hts : ∀ w ∈ zt, w.before args s = true) (hl : (Cond.methodLink own ix y_cShell_typed).before args s = true) (h1 : 1 ≤ R.frames) (h2 : 20 ≤ R.locals) : CallW R s args own "TreeShell" ix y_cShell_typed b_cShell_typed 1 (some .int) (.code y_cShell_typed b_cShell_typed 1 (some .int) :: zt) { frames := 0, cells := 0, slots := 0, locals := 0 } 0 0 0 := ⟨callB_of 0 hts (zgood w_390) rfl rfl rfl (hts _ w_68) hl ⟨by decide, by decide, by decide +kernel⟩ ⟨h1, h2⟩, hts _ w_388, hts _ w_389⟩
theorem cw_cShell_check {R : Room} {s : State} {args : Array Value} {own : String} {ix : Nat} (hts : ∀ w ∈ zt, w.before args s = true) (hl : (Cond.methodLink own ix y_cShell_check).before args s = true) (h1 : 33 ≤ R.frames) (h2 : 705 ≤ R.locals) : CallW R s args own "TreeShell" ix y_cShell_check b_cShell_check 1 (some .int) (.code y_cShell_check b_cShell_check 1 (some .int) :: zt) { frames := 32, cells := 0, slots := 0, locals := 685 } 0 0 0 := ⟨callB_of 0 hts (zgood w_394) rfl rfl rfl (hts _ w_68) hl ⟨by decide, by decide, by decide +kernel⟩ ⟨h1, h2⟩, hts _ w_392, hts _ w_393⟩
theorem cw_cShell_status {R : Room} {s : State} {args : Array Value} {own : String} {ix : Nat} (hts : ∀ w ∈ zt, w.before args s = true) (hl : (Cond.methodLink own ix y_cShell_status).before args s = true) (h1 : 1 ≤ R.frames) (h2 : 20 ≤ R.locals) : CallW R s args own "TreeShell" ix y_cShell_status b_cShell_status 1 (some .int) (.code y_cShell_status b_cShell_status 1 (some .int) :: zt) { frames := 0, cells := 0, slots := 0, locals := 0 } 0 0 0 := ⟨callB_of 0 hts (zgood w_694) rfl rfl rfl (hts _ w_68) hl ⟨by decide, by decide, by decide +kernel⟩ ⟨h1, h2⟩, hts _ w_692, hts _ w_693⟩
theorem cw_cShell_length {R : Room} {s : State} {args : Array Value} {own : String} {ix : Nat} (hts : ∀ w ∈ zt, w.before args s = true) (hl : (Cond.methodLink own ix y_cShell_length).before args s = true) (h1 : 2 ≤ R.frames) (h2 : 40 ≤ R.locals) : CallW R s args own "TreeShell" ix y_cShell_length b_cShell_length 1 (some .int) (.code y_cShell_length b_cShell_length 1 (some .int) :: zt) { frames := 1, cells := 0, slots := 0, locals := 20 } 0 0 0 := ⟨callB_of 0 hts (zgood w_698) rfl rfl rfl (hts _ w_68) hl ⟨by decide, by decide, by decide +kernel⟩ ⟨h1, h2⟩, hts _ w_696, hts _ w_697⟩
theorem cw_cShell_out {R : Room} {s : State} {args : Array Value} {own : String} {ix : Nat} (hts : ∀ w ∈ zt, w.before args s = true) (hl : (Cond.methodLink own ix y_cShell_out).before args s = true) (h1 : 2 ≤ R.frames) (h2 : 45 ≤ R.locals) : CallW R s args own "TreeShell" ix y_cShell_out b_cShell_out 6 (some .long) (.code y_cShell_out b_cShell_out 6 (some .long) :: zt) { frames := 1, cells := 0, slots := 0, locals := 20 } 0 0 1 := ⟨callB_of 1 hts (zgood w_706) rfl rfl rfl (hts _ w_68) hl ⟨by decide, by decide, by decide +kernel⟩ ⟨h1, h2⟩, hts _ w_704, hts _ w_705⟩
theorem cw_cShell_ran {R : Room} {s : State} {args : Array Value} {own : String} {ix : Nat} (hts : ∀ w ∈ zt, w.before args s = true) (hl : (Cond.methodLink own ix y_cShell_ran).before args s = true) (h1 : 1 ≤ R.frames) (h2 : 20 ≤ R.locals) : CallW R s args own "TreeShell" ix y_cShell_ran b_cShell_ran 1 (some .int) (.code y_cShell_ran b_cShell_ran 1 (some .int) :: zt) { frames := 0, cells := 0, slots := 0, locals := 0 } 0 0 0 := ⟨callB_of 0 hts (zgood w_710) rfl rfl rfl (hts _ w_68) hl ⟨by decide, by decide, by decide +kernel⟩ ⟨h1, h2⟩, hts _ w_708, hts _ w_709⟩
theorem cw_cShell_nodes {R : Room} {s : State} {args : Array Value} {own : String} {ix : Nat} (hts : ∀ w ∈ zt, w.before args s = true) (hl : (Cond.methodLink own ix y_cShell_nodes).before args s = true) (h1 : 1 ≤ R.frames) (h2 : 20 ≤ R.locals) : CallW R s args own "TreeShell" ix y_cShell_nodes b_cShell_nodes 1 (some .int) (.code y_cShell_nodes b_cShell_nodes 1 (some .int) :: zt) { frames := 0, cells := 0, slots := 0, locals := 0 } 0 0 0 := ⟨callB_of 0 hts (zgood w_714) rfl rfl rfl (hts _ w_68) hl ⟨by decide, by decide, by decide +kernel⟩ ⟨h1, h2⟩, hts _ w_712, hts _ w_713⟩
theorem cw_cShell_chars {R : Room} {s : State} {args : Array Value} {own : String} {ix : Nat} (hts : ∀ w ∈ zt, w.before args s = true) (hl : (Cond.methodLink own ix y_cShell_chars).before args s = true) (h1 : 1 ≤ R.frames) (h2 : 20 ≤ R.locals) : CallW R s args own "TreeShell" ix y_cShell_chars b_cShell_chars 1 (some .int) (.code y_cShell_chars b_cShell_chars 1 (some .int) :: zt) { frames := 0, cells := 0, slots := 0, locals := 0 } 0 0 0 := ⟨callB_of 0 hts (zgood w_718) rfl rfl rfl (hts _ w_68) hl ⟨by decide, by decide, by decide +kernel⟩ ⟨h1, h2⟩, hts _ w_716, hts _ w_717⟩
theorem cw_cShell_depth {R : Room} {s : State} {args : Array Value} {own : String} {ix : Nat} (hts : ∀ w ∈ zt, w.before args s = true) (hl : (Cond.methodLink own ix y_cShell_depth).before args s = true) (h1 : 1 ≤ R.frames) (h2 : 22 ≤ R.locals) : CallW R s args own "TreeShell" ix y_cShell_depth b_cShell_depth 3 (some .int) (.code y_cShell_depth b_cShell_depth 3 (some .int) :: zt) { frames := 0, cells := 0, slots := 0, locals := 0 } 0 0 0 := ⟨callB_of 0 hts (zgood w_722) rfl rfl rfl (hts _ w_68) hl ⟨by decide, by decide, by decide +kernel⟩ ⟨h1, h2⟩, hts _ w_720, hts _ w_721⟩
