theorem w_18 : (Jvm.Cond.selects "TreeShell$Tools" ({ cls := "TreeShell$Tools", name := "echo", desc := "(LTreeShell$Text;)I" } : Jvm.MethodName) ({ cls := "TreeShell$Tools", name := "echo", desc := "(LTreeShell$Text;)I" } : Jvm.MethodName)) ∈ zt := List.mem_filter.mpr ⟨List.mem_of_getElem? (i := 18) (by decide +kernel), rfl⟩
theorem w_21 : (Jvm.Cond.selects "TreeShell$Tools" ({ cls := "TreeShell$Tools", name := "grep", desc := "(LTreeShell$Text;LTreeShell$Text;)I" } : Jvm.MethodName) ({ cls := "TreeShell$Tools", name := "grep", desc := "(LTreeShell$Text;LTreeShell$Text;)I" } : Jvm.MethodName)) ∈ zt := List.mem_filter.mpr ⟨List.mem_of_getElem? (i := 21) (by decide +kernel), rfl⟩
theorem w_568 : (Jvm.Cond.methodLink "TreeShell$Tools" (21 : Nat) ({ cls := "TreeShell$Words", name := "has", desc := "(ILjava/lang/String;)Z" } : Jvm.MethodName)) ∈ zt := List.mem_filter.mpr ⟨List.mem_of_getElem? (i := 568) (by decide +kernel), rfl⟩
theorem w_569 : (Jvm.Cond.instanceMethod ({ cls := "TreeShell$Words", name := "has", desc := "(ILjava/lang/String;)Z" } : Jvm.MethodName)) ∈ zt := List.mem_filter.mpr ⟨List.mem_of_getElem? (i := 569) (by decide +kernel), rfl⟩
theorem w_570 : (Jvm.Cond.selects "TreeShell$Words" ({ cls := "TreeShell$Words", name := "has", desc := "(ILjava/lang/String;)Z" } : Jvm.MethodName) ({ cls := "TreeShell$Words", name := "has", desc := "(ILjava/lang/String;)Z" } : Jvm.MethodName)) ∈ zt := List.mem_filter.mpr ⟨List.mem_of_getElem? (i := 570) (by decide +kernel), rfl⟩
theorem w_571 : (Jvm.Cond.code ({ cls := "TreeShell$Words", name := "has", desc := "(ILjava/lang/String;)Z" } : Jvm.MethodName) prog_10_method_6_code (5 : Nat) (Option.some Jvm.ClassFile.FieldType.boolean)) ∈ zt := List.mem_filter.mpr ⟨List.mem_of_getElem? (i := 571) (by decide +kernel), rfl⟩
theorem w_572 : (Jvm.Cond.methodLink "TreeShell$Words" (58 : Nat) ({ cls := "TreeShell$Words", name := "startOf", desc := "(I)I" } : Jvm.MethodName)) ∈ zt := List.mem_filter.mpr ⟨List.mem_of_getElem? (i := 572) (by decide +kernel), rfl⟩
theorem w_573 : (Jvm.Cond.methodLink "TreeShell$Words" (61 : Nat) ({ cls := "TreeShell$Words", name := "endOf", desc := "(I)I" } : Jvm.MethodName)) ∈ zt := List.mem_filter.mpr ⟨List.mem_of_getElem? (i := 573) (by decide +kernel), rfl⟩
theorem w_574 : (Jvm.Cond.methodLink "TreeShell$Words" (64 : Nat) ({ cls := "java/lang/String", name := "length", desc := "()I" } : Jvm.MethodName)) ∈ zt := List.mem_filter.mpr ⟨List.mem_of_getElem? (i := 574) (by decide +kernel), rfl⟩
theorem w_575 : (Jvm.Cond.instanceMethod ({ cls := "java/lang/String", name := "length", desc := "()I" } : Jvm.MethodName)) ∈ zt := List.mem_filter.mpr ⟨List.mem_of_getElem? (i := 575) (by decide +kernel), rfl⟩
theorem w_576 : (Jvm.Cond.selects "java/lang/String" ({ cls := "java/lang/String", name := "length", desc := "()I" } : Jvm.MethodName) ({ cls := "java/lang/String", name := "length", desc := "()I" } : Jvm.MethodName)) ∈ zt := List.mem_filter.mpr ⟨List.mem_of_getElem? (i := 576) (by decide +kernel), rfl⟩
theorem w_577 : (Jvm.Cond.code ({ cls := "java/lang/String", name := "length", desc := "()I" } : Jvm.MethodName) prog_14_method_54_code (1 : Nat) (Option.some Jvm.ClassFile.FieldType.int)) ∈ zt := List.mem_filter.mpr ⟨List.mem_of_getElem? (i := 577) (by decide +kernel), rfl⟩
theorem w_584 : (Jvm.Cond.methodLink "TreeShell$Words" (70 : Nat) ({ cls := "java/lang/String", name := "charAt", desc := "(I)C" } : Jvm.MethodName)) ∈ zt := List.mem_filter.mpr ⟨List.mem_of_getElem? (i := 584) (by decide +kernel), rfl⟩
theorem w_585 : (Jvm.Cond.instanceMethod ({ cls := "java/lang/String", name := "charAt", desc := "(I)C" } : Jvm.MethodName)) ∈ zt := List.mem_filter.mpr ⟨List.mem_of_getElem? (i := 585) (by decide +kernel), rfl⟩
theorem w_586 : (Jvm.Cond.selects "java/lang/String" ({ cls := "java/lang/String", name := "charAt", desc := "(I)C" } : Jvm.MethodName) ({ cls := "java/lang/String", name := "charAt", desc := "(I)C" } : Jvm.MethodName)) ∈ zt := List.mem_filter.mpr ⟨List.mem_of_getElem? (i := 586) (by decide +kernel), rfl⟩
theorem w_587 : (Jvm.Cond.code ({ cls := "java/lang/String", name := "charAt", desc := "(I)C" } : Jvm.MethodName) prog_14_method_56_code (2 : Nat) (Option.some Jvm.ClassFile.FieldType.char)) ∈ zt := List.mem_filter.mpr ⟨List.mem_of_getElem? (i := 587) (by decide +kernel), rfl⟩
theorem w_624 : (Jvm.Cond.instanceMethod ({ cls := "TreeShell$Tools", name := "echo", desc := "(LTreeShell$Text;)I" } : Jvm.MethodName)) ∈ zt := List.mem_filter.mpr ⟨List.mem_of_getElem? (i := 624) (by decide +kernel), rfl⟩
theorem w_625 : (Jvm.Cond.code ({ cls := "TreeShell$Tools", name := "echo", desc := "(LTreeShell$Text;)I" } : Jvm.MethodName) prog_8_method_3_code (5 : Nat) (Option.some Jvm.ClassFile.FieldType.int)) ∈ zt := List.mem_filter.mpr ⟨List.mem_of_getElem? (i := 625) (by decide +kernel), rfl⟩
theorem w_651 : (Jvm.Cond.instanceMethod ({ cls := "TreeShell$Tools", name := "grep", desc := "(LTreeShell$Text;LTreeShell$Text;)I" } : Jvm.MethodName)) ∈ zt := List.mem_filter.mpr ⟨List.mem_of_getElem? (i := 651) (by decide +kernel), rfl⟩
theorem w_652 : (Jvm.Cond.code ({ cls := "TreeShell$Tools", name := "grep", desc := "(LTreeShell$Text;LTreeShell$Text;)I" } : Jvm.MethodName) prog_8_method_7_code (11 : Nat) (Option.some Jvm.ClassFile.FieldType.int)) ∈ zt := List.mem_filter.mpr ⟨List.mem_of_getElem? (i := 652) (by decide +kernel), rfl⟩
theorem d_cWords_has_0 : decode b_cWords_has 0 = .ok (.aload_n 0, 1) := by decide +kernel
theorem d_cWords_has_1 : decode b_cWords_has 1 = .ok (.iload_n 1, 1) := by decide +kernel
theorem d_cWords_has_2 : decode b_cWords_has 2 = .ok (.invokevirtual 58, 3) := by decide +kernel
theorem d_cWords_has_5 : decode b_cWords_has 5 = .ok (.istore_n 3, 1) := by decide +kernel
theorem d_cWords_has_6 : decode b_cWords_has 6 = .ok (.iload_n 1, 1) := by decide +kernel
theorem d_cWords_has_7 : decode b_cWords_has 7 = .ok (.aload_n 0, 1) := by decide +kernel
theorem d_cWords_has_8 : decode b_cWords_has 8 = .ok (.getfield 24, 3) := by decide +kernel
theorem d_cWords_has_11 : decode b_cWords_has 11 = .ok (.if_icmp .ge 17, 3) := by decide +kernel
theorem d_cWords_has_14 : decode b_cWords_has 14 = .ok (.aload_n 0, 1) := by decide +kernel
theorem d_cWords_has_15 : decode b_cWords_has 15 = .ok (.iload_n 1, 1) := by decide +kernel
theorem d_cWords_has_16 : decode b_cWords_has 16 = .ok (.invokevirtual 61, 3) := by decide +kernel
theorem d_cWords_has_19 : decode b_cWords_has 19 = .ok (.iload_n 3, 1) := by decide +kernel
theorem d_cWords_has_20 : decode b_cWords_has 20 = .ok (.isub, 1) := by decide +kernel
theorem d_cWords_has_21 : decode b_cWords_has 21 = .ok (.aload_n 2, 1) := by decide +kernel
theorem d_cWords_has_22 : decode b_cWords_has 22 = .ok (.invokevirtual 64, 3) := by decide +kernel
theorem d_cWords_has_25 : decode b_cWords_has 25 = .ok (.if_icmp .eq 5, 3) := by decide +kernel
theorem d_cWords_has_28 : decode b_cWords_has 28 = .ok (.iconst 0, 1) := by decide +kernel
theorem d_cWords_has_29 : decode b_cWords_has 29 = .ok (.ireturn, 1) := by decide +kernel
theorem d_cWords_has_30 : decode b_cWords_has 30 = .ok (.iconst 0, 1) := by decide +kernel
theorem d_cWords_has_31 : decode b_cWords_has 31 = .ok (.istore 4, 2) := by decide +kernel
theorem d_cWords_has_33 : decode b_cWords_has 33 = .ok (.iload 4, 2) := by decide +kernel
theorem d_cWords_has_35 : decode b_cWords_has 35 = .ok (.aload_n 2, 1) := by decide +kernel
theorem d_cWords_has_36 : decode b_cWords_has 36 = .ok (.invokevirtual 64, 3) := by decide +kernel
theorem d_cWords_has_39 : decode b_cWords_has 39 = .ok (.if_icmp .ge 32, 3) := by decide +kernel
theorem d_cWords_has_42 : decode b_cWords_has 42 = .ok (.aload_n 0, 1) := by decide +kernel
theorem d_cWords_has_43 : decode b_cWords_has 43 = .ok (.getfield 14, 3) := by decide +kernel
theorem d_cWords_has_46 : decode b_cWords_has 46 = .ok (.getfield 40, 3) := by decide +kernel
theorem d_cWords_has_49 : decode b_cWords_has 49 = .ok (.iload_n 3, 1) := by decide +kernel
theorem d_cWords_has_50 : decode b_cWords_has 50 = .ok (.iload 4, 2) := by decide +kernel
theorem d_cWords_has_52 : decode b_cWords_has 52 = .ok (.iadd, 1) := by decide +kernel
theorem d_cWords_has_53 : decode b_cWords_has 53 = .ok (.caload, 1) := by decide +kernel
theorem d_cWords_has_54 : decode b_cWords_has 54 = .ok (.aload_n 2, 1) := by decide +kernel
theorem d_cWords_has_55 : decode b_cWords_has 55 = .ok (.iload 4, 2) := by decide +kernel
theorem d_cWords_has_57 : decode b_cWords_has 57 = .ok (.invokevirtual 70, 3) := by decide +kernel
theorem d_cWords_has_60 : decode b_cWords_has 60 = .ok (.if_icmp .eq 5, 3) := by decide +kernel
theorem d_cWords_has_63 : decode b_cWords_has 63 = .ok (.iconst 0, 1) := by decide +kernel
theorem d_cWords_has_64 : decode b_cWords_has 64 = .ok (.ireturn, 1) := by decide +kernel
theorem d_cWords_has_65 : decode b_cWords_has 65 = .ok (.iinc 4 1, 3) := by decide +kernel
theorem d_cWords_has_68 : decode b_cWords_has 68 = .ok (.goto (-35), 3) := by decide +kernel
theorem d_cWords_has_71 : decode b_cWords_has 71 = .ok (.iconst 1, 1) := by decide +kernel
theorem d_cWords_has_72 : decode b_cWords_has 72 = .ok (.ireturn, 1) := by decide +kernel
theorem cw_cWords_has {R : Room} {s : State} {args : Array Value} {own : String} {ix : Nat} (hts : ∀ w ∈ zt, w.before args s = true) (hl : (Cond.methodLink own ix y_cWords_has).before args s = true) (h1 : 6 ≤ R.frames) (h2 : 169 ≤ R.locals) : CallW R s args own "TreeShell$Words" ix y_cWords_has b_cWords_has 5 (some .boolean) (.code y_cWords_has b_cWords_has 5 (some .boolean) :: zt) { frames := 5, cells := 0, slots := 0, locals := 145 } 0 0 2 := ⟨callB_of 2 hts (zgood w_571) rfl rfl rfl (hts _ w_76) hl ⟨by decide, by decide, by decide +kernel⟩ ⟨h1, h2⟩, hts _ w_569, hts _ w_570⟩
theorem d_cTools_echo_0 : decode b_cTools_echo 0 = .ok (.aload_n 0, 1) := by decide +kernel
theorem d_cTools_echo_1 : decode b_cTools_echo 1 = .ok (.getfield 9, 3) := by decide +kernel
theorem d_cTools_echo_4 : decode b_cTools_echo 4 = .ok (.iconst 1, 1) := by decide +kernel
theorem d_cTools_echo_5 : decode b_cTools_echo 5 = .ok (.ldc 56, 2) := by decide +kernel
theorem d_cTools_echo_7 : decode b_cTools_echo 7 = .ok (.invokevirtual 21, 3) := by decide +kernel
theorem d_cTools_echo_10 : decode b_cTools_echo 10 = .ok (.istore_n 2, 1) := by decide +kernel
theorem d_cTools_echo_11 : decode b_cTools_echo 11 = .ok (.iload_n 2, 1) := by decide +kernel
theorem d_cTools_echo_12 : decode b_cTools_echo 12 = .ok (.ifCond .eq 7, 3) := by decide +kernel
theorem d_cTools_echo_15 : decode b_cTools_echo 15 = .ok (.iconst 2, 1) := by decide +kernel
theorem d_cTools_echo_16 : decode b_cTools_echo 16 = .ok (.goto 4, 3) := by decide +kernel
theorem d_cTools_echo_19 : decode b_cTools_echo 19 = .ok (.iconst 1, 1) := by decide +kernel
theorem d_cTools_echo_20 : decode b_cTools_echo 20 = .ok (.istore_n 3, 1) := by decide +kernel
theorem d_cTools_echo_21 : decode b_cTools_echo 21 = .ok (.iload_n 3, 1) := by decide +kernel
theorem d_cTools_echo_22 : decode b_cTools_echo 22 = .ok (.istore 4, 2) := by decide +kernel
theorem d_cTools_echo_24 : decode b_cTools_echo 24 = .ok (.iload 4, 2) := by decide +kernel
theorem d_cTools_echo_26 : decode b_cTools_echo 26 = .ok (.aload_n 0, 1) := by decide +kernel
theorem d_cTools_echo_27 : decode b_cTools_echo 27 = .ok (.getfield 9, 3) := by decide +kernel
theorem d_cTools_echo_30 : decode b_cTools_echo 30 = .ok (.getfield 58, 3) := by decide +kernel
theorem d_cTools_echo_33 : decode b_cTools_echo 33 = .ok (.if_icmp .ge 51, 3) := by decide +kernel
theorem d_cTools_echo_36 : decode b_cTools_echo 36 = .ok (.iload 4, 2) := by decide +kernel
theorem d_cTools_echo_38 : decode b_cTools_echo 38 = .ok (.iload_n 3, 1) := by decide +kernel
theorem d_cTools_echo_39 : decode b_cTools_echo 39 = .ok (.if_icmp .le 9, 3) := by decide +kernel
theorem d_cTools_echo_42 : decode b_cTools_echo 42 = .ok (.aload_n 1, 1) := by decide +kernel
theorem d_cTools_echo_43 : decode b_cTools_echo 43 = .ok (.bipush 32, 2) := by decide +kernel
theorem d_cTools_echo_45 : decode b_cTools_echo 45 = .ok (.invokevirtual 62, 3) := by decide +kernel
theorem d_cTools_echo_48 : decode b_cTools_echo 48 = .ok (.aload_n 1, 1) := by decide +kernel
theorem d_cTools_echo_49 : decode b_cTools_echo 49 = .ok (.aload_n 0, 1) := by decide +kernel
theorem d_cTools_echo_50 : decode b_cTools_echo 50 = .ok (.getfield 9, 3) := by decide +kernel
theorem d_cTools_echo_53 : decode b_cTools_echo 53 = .ok (.getfield 68, 3) := by decide +kernel
theorem d_cTools_echo_56 : decode b_cTools_echo 56 = .ok (.aload_n 0, 1) := by decide +kernel
theorem d_cTools_echo_57 : decode b_cTools_echo 57 = .ok (.getfield 9, 3) := by decide +kernel
theorem d_cTools_echo_60 : decode b_cTools_echo 60 = .ok (.iload 4, 2) := by decide +kernel
theorem d_cTools_echo_62 : decode b_cTools_echo 62 = .ok (.invokevirtual 72, 3) := by decide +kernel
theorem d_cTools_echo_65 : decode b_cTools_echo 65 = .ok (.aload_n 0, 1) := by decide +kernel
theorem d_cTools_echo_66 : decode b_cTools_echo 66 = .ok (.getfield 9, 3) := by decide +kernel
theorem d_cTools_echo_69 : decode b_cTools_echo 69 = .ok (.iload 4, 2) := by decide +kernel
theorem d_cTools_echo_71 : decode b_cTools_echo 71 = .ok (.invokevirtual 76, 3) := by decide +kernel
theorem d_cTools_echo_74 : decode b_cTools_echo 74 = .ok (.invokevirtual 79, 3) := by decide +kernel
theorem d_cTools_echo_77 : decode b_cTools_echo 77 = .ok (.pop, 1) := by decide +kernel
theorem d_cTools_echo_78 : decode b_cTools_echo 78 = .ok (.iinc 4 1, 3) := by decide +kernel
theorem d_cTools_echo_81 : decode b_cTools_echo 81 = .ok (.goto (-57), 3) := by decide +kernel
theorem d_cTools_echo_84 : decode b_cTools_echo 84 = .ok (.iload_n 2, 1) := by decide +kernel
theorem d_cTools_echo_85 : decode b_cTools_echo 85 = .ok (.ifCond .ne 9, 3) := by decide +kernel
theorem d_cTools_echo_88 : decode b_cTools_echo 88 = .ok (.aload_n 1, 1) := by decide +kernel
theorem d_cTools_echo_89 : decode b_cTools_echo 89 = .ok (.bipush 10, 2) := by decide +kernel
theorem d_cTools_echo_91 : decode b_cTools_echo 91 = .ok (.invokevirtual 62, 3) := by decide +kernel
theorem d_cTools_echo_94 : decode b_cTools_echo 94 = .ok (.iconst 0, 1) := by decide +kernel
theorem d_cTools_echo_95 : decode b_cTools_echo 95 = .ok (.ireturn, 1) := by decide +kernel
theorem cw_cTools_echo {R : Room} {s : State} {args : Array Value} {own : String} {ix : Nat} (hts : ∀ w ∈ zt, w.before args s = true) (hl : (Cond.methodLink own ix y_cTools_echo).before args s = true) (h1 : 7 ≤ R.frames) (h2 : 193 ≤ R.locals) : CallW R s args own "TreeShell$Tools" ix y_cTools_echo b_cTools_echo 5 (some .int) (.code y_cTools_echo b_cTools_echo 5 (some .int) :: zt) { frames := 6, cells := 0, slots := 0, locals := 169 } 0 0 1 := ⟨callB_of 1 hts (zgood w_625) rfl rfl rfl (hts _ w_77) hl ⟨by decide, by decide, by decide +kernel⟩ ⟨h1, h2⟩, hts _ w_624, hts _ w_18⟩
theorem d_cTools_grep_0 : decode b_cTools_grep 0 = .ok (.aload_n 0, 1) := by decide +kernel
theorem d_cTools_grep_1 : decode b_cTools_grep 1 = .ok (.getfield 9, 3) := by decide +kernel
theorem d_cTools_grep_4 : decode b_cTools_grep 4 = .ok (.iconst 1, 1) := by decide +kernel
theorem d_cTools_grep_5 : decode b_cTools_grep 5 = .ok (.ldc 116, 2) := by decide +kernel
theorem d_cTools_grep_7 : decode b_cTools_grep 7 = .ok (.invokevirtual 21, 3) := by decide +kernel
theorem d_cTools_grep_10 : decode b_cTools_grep 10 = .ok (.istore_n 3, 1) := by decide +kernel
theorem d_cTools_grep_11 : decode b_cTools_grep 11 = .ok (.iload_n 3, 1) := by decide +kernel
theorem d_cTools_grep_12 : decode b_cTools_grep 12 = .ok (.ifCond .eq 7, 3) := by decide +kernel
theorem d_cTools_grep_15 : decode b_cTools_grep 15 = .ok (.iconst 2, 1) := by decide +kernel
theorem d_cTools_grep_16 : decode b_cTools_grep 16 = .ok (.goto 4, 3) := by decide +kernel
theorem d_cTools_grep_19 : decode b_cTools_grep 19 = .ok (.iconst 1, 1) := by decide +kernel
theorem d_cTools_grep_20 : decode b_cTools_grep 20 = .ok (.istore 4, 2) := by decide +kernel
theorem d_cTools_grep_22 : decode b_cTools_grep 22 = .ok (.aload_n 0, 1) := by decide +kernel
theorem d_cTools_grep_23 : decode b_cTools_grep 23 = .ok (.getfield 9, 3) := by decide +kernel
theorem d_cTools_grep_26 : decode b_cTools_grep 26 = .ok (.getfield 58, 3) := by decide +kernel
theorem d_cTools_grep_29 : decode b_cTools_grep 29 = .ok (.iload 4, 2) := by decide +kernel
theorem d_cTools_grep_31 : decode b_cTools_grep 31 = .ok (.if_icmp .le 17, 3) := by decide +kernel
theorem d_cTools_grep_34 : decode b_cTools_grep 34 = .ok (.aload_n 0, 1) := by decide +kernel
theorem d_cTools_grep_35 : decode b_cTools_grep 35 = .ok (.getfield 9, 3) := by decide +kernel
theorem d_cTools_grep_38 : decode b_cTools_grep 38 = .ok (.getfield 58, 3) := by decide +kernel
theorem d_cTools_grep_41 : decode b_cTools_grep 41 = .ok (.iload 4, 2) := by decide +kernel
theorem d_cTools_grep_43 : decode b_cTools_grep 43 = .ok (.iconst 2, 1) := by decide +kernel
theorem d_cTools_grep_44 : decode b_cTools_grep 44 = .ok (.iadd, 1) := by decide +kernel
theorem d_cTools_grep_45 : decode b_cTools_grep 45 = .ok (.if_icmp .le 5, 3) := by decide +kernel
theorem d_cTools_grep_48 : decode b_cTools_grep 48 = .ok (.iconst 2, 1) := by decide +kernel
theorem d_cTools_grep_49 : decode b_cTools_grep 49 = .ok (.ireturn, 1) := by decide +kernel
theorem d_cTools_grep_50 : decode b_cTools_grep 50 = .ok (.aload_n 0, 1) := by decide +kernel
theorem d_cTools_grep_51 : decode b_cTools_grep 51 = .ok (.getfield 9, 3) := by decide +kernel
theorem d_cTools_grep_54 : decode b_cTools_grep 54 = .ok (.getfield 58, 3) := by decide +kernel
theorem d_cTools_grep_57 : decode b_cTools_grep 57 = .ok (.iload 4, 2) := by decide +kernel
theorem d_cTools_grep_59 : decode b_cTools_grep 59 = .ok (.iconst 1, 1) := by decide +kernel
theorem d_cTools_grep_60 : decode b_cTools_grep 60 = .ok (.iadd, 1) := by decide +kernel
theorem d_cTools_grep_61 : decode b_cTools_grep 61 = .ok (.if_icmp .ne 7, 3) := by decide +kernel
theorem d_cTools_grep_64 : decode b_cTools_grep 64 = .ok (.iconst 1, 1) := by decide +kernel
theorem d_cTools_grep_65 : decode b_cTools_grep 65 = .ok (.goto 4, 3) := by decide +kernel
theorem d_cTools_grep_68 : decode b_cTools_grep 68 = .ok (.iconst 0, 1) := by decide +kernel
theorem d_cTools_grep_69 : decode b_cTools_grep 69 = .ok (.istore 5, 2) := by decide +kernel
theorem d_cTools_grep_71 : decode b_cTools_grep 71 = .ok (.iload 5, 2) := by decide +kernel
theorem d_cTools_grep_73 : decode b_cTools_grep 73 = .ok (.ifCond .eq 7, 3) := by decide +kernel
theorem d_cTools_grep_76 : decode b_cTools_grep 76 = .ok (.aload_n 1, 1) := by decide +kernel
theorem d_cTools_grep_77 : decode b_cTools_grep 77 = .ok (.goto 21, 3) := by decide +kernel
theorem d_cTools_grep_80 : decode b_cTools_grep 80 = .ok (.aload_n 0, 1) := by decide +kernel
theorem d_cTools_grep_81 : decode b_cTools_grep 81 = .ok (.getfield 15, 3) := by decide +kernel
theorem d_cTools_grep_84 : decode b_cTools_grep 84 = .ok (.aload_n 0, 1) := by decide +kernel
theorem d_cTools_grep_85 : decode b_cTools_grep 85 = .ok (.getfield 9, 3) := by decide +kernel
theorem d_cTools_grep_88 : decode b_cTools_grep 88 = .ok (.iload 4, 2) := by decide +kernel
theorem d_cTools_grep_90 : decode b_cTools_grep 90 = .ok (.iconst 1, 1) := by decide +kernel
theorem d_cTools_grep_91 : decode b_cTools_grep 91 = .ok (.iadd, 1) := by decide +kernel
theorem d_cTools_grep_92 : decode b_cTools_grep 92 = .ok (.invokevirtual 90, 3) := by decide +kernel
theorem d_cTools_grep_95 : decode b_cTools_grep 95 = .ok (.invokestatic 96, 3) := by decide +kernel
theorem d_cTools_grep_98 : decode b_cTools_grep 98 = .ok (.astore 6, 2) := by decide +kernel
theorem d_cTools_grep_100 : decode b_cTools_grep 100 = .ok (.aload 6, 2) := by decide +kernel
theorem d_cTools_grep_102 : decode b_cTools_grep 102 = .ok (.ifnonnull 5, 3) := by decide +kernel
theorem d_cTools_grep_105 : decode b_cTools_grep 105 = .ok (.iconst 1, 1) := by decide +kernel
theorem d_cTools_grep_106 : decode b_cTools_grep 106 = .ok (.ireturn, 1) := by decide +kernel
theorem d_cTools_grep_107 : decode b_cTools_grep 107 = .ok (.iconst 1, 1) := by decide +kernel
theorem d_cTools_grep_108 : decode b_cTools_grep 108 = .ok (.istore 7, 2) := by decide +kernel
theorem d_cTools_grep_110 : decode b_cTools_grep 110 = .ok (.iconst 0, 1) := by decide +kernel
theorem d_cTools_grep_111 : decode b_cTools_grep 111 = .ok (.istore 8, 2) := by decide +kernel
theorem d_cTools_grep_113 : decode b_cTools_grep 113 = .ok (.iconst 0, 1) := by decide +kernel
theorem d_cTools_grep_114 : decode b_cTools_grep 114 = .ok (.istore 9, 2) := by decide +kernel
theorem d_cTools_grep_116 : decode b_cTools_grep 116 = .ok (.iload 9, 2) := by decide +kernel
theorem d_cTools_grep_118 : decode b_cTools_grep 118 = .ok (.aload 6, 2) := by decide +kernel
theorem d_cTools_grep_120 : decode b_cTools_grep 120 = .ok (.getfield 105, 3) := by decide +kernel
theorem d_cTools_grep_123 : decode b_cTools_grep 123 = .ok (.if_icmp .gt 111, 3) := by decide +kernel
theorem d_cTools_grep_126 : decode b_cTools_grep 126 = .ok (.iload 9, 2) := by decide +kernel
theorem d_cTools_grep_128 : decode b_cTools_grep 128 = .ok (.aload 6, 2) := by decide +kernel
theorem d_cTools_grep_130 : decode b_cTools_grep 130 = .ok (.getfield 105, 3) := by decide +kernel
theorem d_cTools_grep_133 : decode b_cTools_grep 133 = .ok (.if_icmp .ge 24, 3) := by decide +kernel
theorem d_cTools_grep_136 : decode b_cTools_grep 136 = .ok (.aload 6, 2) := by decide +kernel
theorem d_cTools_grep_138 : decode b_cTools_grep 138 = .ok (.getfield 108, 3) := by decide +kernel
theorem d_cTools_grep_141 : decode b_cTools_grep 141 = .ok (.iload 9, 2) := by decide +kernel
theorem d_cTools_grep_143 : decode b_cTools_grep 143 = .ok (.caload, 1) := by decide +kernel
theorem d_cTools_grep_144 : decode b_cTools_grep 144 = .ok (.bipush 10, 2) := by decide +kernel
theorem d_cTools_grep_146 : decode b_cTools_grep 146 = .ok (.if_icmp .ne 7, 3) := by decide +kernel
theorem d_cTools_grep_149 : decode b_cTools_grep 149 = .ok (.iconst 1, 1) := by decide +kernel
theorem d_cTools_grep_150 : decode b_cTools_grep 150 = .ok (.goto 19, 3) := by decide +kernel
theorem d_cTools_grep_153 : decode b_cTools_grep 153 = .ok (.iconst 0, 1) := by decide +kernel
theorem d_cTools_grep_154 : decode b_cTools_grep 154 = .ok (.goto 15, 3) := by decide +kernel
theorem d_cTools_grep_157 : decode b_cTools_grep 157 = .ok (.iload 8, 2) := by decide +kernel
theorem d_cTools_grep_159 : decode b_cTools_grep 159 = .ok (.iload 9, 2) := by decide +kernel
theorem d_cTools_grep_161 : decode b_cTools_grep 161 = .ok (.if_icmp .ge 7, 3) := by decide +kernel
theorem d_cTools_grep_164 : decode b_cTools_grep 164 = .ok (.iconst 1, 1) := by decide +kernel
theorem d_cTools_grep_165 : decode b_cTools_grep 165 = .ok (.goto 4, 3) := by decide +kernel
theorem d_cTools_grep_168 : decode b_cTools_grep 168 = .ok (.iconst 0, 1) := by decide +kernel
theorem d_cTools_grep_169 : decode b_cTools_grep 169 = .ok (.istore 10, 2) := by decide +kernel
theorem d_cTools_grep_171 : decode b_cTools_grep 171 = .ok (.iload 10, 2) := by decide +kernel
theorem d_cTools_grep_173 : decode b_cTools_grep 173 = .ok (.ifCond .eq 39, 3) := by decide +kernel
theorem d_cTools_grep_176 : decode b_cTools_grep 176 = .ok (.aload_n 0, 1) := by decide +kernel
theorem d_cTools_grep_177 : decode b_cTools_grep 177 = .ok (.aload 6, 2) := by decide +kernel
theorem d_cTools_grep_179 : decode b_cTools_grep 179 = .ok (.iload 8, 2) := by decide +kernel
theorem d_cTools_grep_181 : decode b_cTools_grep 181 = .ok (.iload 9, 2) := by decide +kernel
theorem d_cTools_grep_183 : decode b_cTools_grep 183 = .ok (.iload 4, 2) := by decide +kernel
theorem d_cTools_grep_185 : decode b_cTools_grep 185 = .ok (.invokevirtual 118, 3) := by decide +kernel
theorem d_cTools_grep_188 : decode b_cTools_grep 188 = .ok (.iload_n 3, 1) := by decide +kernel
theorem d_cTools_grep_189 : decode b_cTools_grep 189 = .ok (.if_icmp .eq 23, 3) := by decide +kernel
theorem d_cTools_grep_192 : decode b_cTools_grep 192 = .ok (.aload_n 2, 1) := by decide +kernel
theorem d_cTools_grep_193 : decode b_cTools_grep 193 = .ok (.aload 6, 2) := by decide +kernel
theorem d_cTools_grep_195 : decode b_cTools_grep 195 = .ok (.iload 8, 2) := by decide +kernel
theorem d_cTools_grep_197 : decode b_cTools_grep 197 = .ok (.iload 9, 2) := by decide +kernel
theorem d_cTools_grep_199 : decode b_cTools_grep 199 = .ok (.invokevirtual 79, 3) := by decide +kernel
theorem d_cTools_grep_202 : decode b_cTools_grep 202 = .ok (.pop, 1) := by decide +kernel
theorem d_cTools_grep_203 : decode b_cTools_grep 203 = .ok (.aload_n 2, 1) := by decide +kernel
theorem d_cTools_grep_204 : decode b_cTools_grep 204 = .ok (.bipush 10, 2) := by decide +kernel
theorem d_cTools_grep_206 : decode b_cTools_grep 206 = .ok (.invokevirtual 62, 3) := by decide +kernel
theorem d_cTools_grep_209 : decode b_cTools_grep 209 = .ok (.iconst 0, 1) := by decide +kernel
theorem d_cTools_grep_210 : decode b_cTools_grep 210 = .ok (.istore 7, 2) := by decide +kernel
theorem d_cTools_grep_212 : decode b_cTools_grep 212 = .ok (.iload 10, 2) := by decide +kernel
theorem d_cTools_grep_214 : decode b_cTools_grep 214 = .ok (.ifCond .eq 10, 3) := by decide +kernel
theorem d_cTools_grep_217 : decode b_cTools_grep 217 = .ok (.iload 9, 2) := by decide +kernel
theorem d_cTools_grep_219 : decode b_cTools_grep 219 = .ok (.iconst 1, 1) := by decide +kernel
theorem d_cTools_grep_220 : decode b_cTools_grep 220 = .ok (.iadd, 1) := by decide +kernel
theorem d_cTools_grep_221 : decode b_cTools_grep 221 = .ok (.goto 5, 3) := by decide +kernel
theorem d_cTools_grep_224 : decode b_cTools_grep 224 = .ok (.iload 8, 2) := by decide +kernel
theorem d_cTools_grep_226 : decode b_cTools_grep 226 = .ok (.istore 8, 2) := by decide +kernel
theorem d_cTools_grep_228 : decode b_cTools_grep 228 = .ok (.iinc 9 1, 3) := by decide +kernel
theorem d_cTools_grep_231 : decode b_cTools_grep 231 = .ok (.goto (-115), 3) := by decide +kernel
theorem d_cTools_grep_234 : decode b_cTools_grep 234 = .ok (.iload 5, 2) := by decide +kernel
theorem d_cTools_grep_236 : decode b_cTools_grep 236 = .ok (.ifCond .eq 7, 3) := by decide +kernel
theorem d_cTools_grep_239 : decode b_cTools_grep 239 = .ok (.aload_n 1, 1) := by decide +kernel
theorem d_cTools_grep_240 : decode b_cTools_grep 240 = .ok (.invokevirtual 87, 3) := by decide +kernel
theorem d_cTools_grep_243 : decode b_cTools_grep 243 = .ok (.iload 7, 2) := by decide +kernel
theorem d_cTools_grep_245 : decode b_cTools_grep 245 = .ok (.ireturn, 1) := by decide +kernel
theorem cw_cTools_grep {R : Room} {s : State} {args : Array Value} {own : String} {ix : Nat} (hts : ∀ w ∈ zt, w.before args s = true) (hl : (Cond.methodLink own ix y_cTools_grep).before args s = true) (h1 : 7 ≤ R.frames) (h2 : 199 ≤ R.locals) : CallW R s args own "TreeShell$Tools" ix y_cTools_grep b_cTools_grep 11 (some .int) (.code y_cTools_grep b_cTools_grep 11 (some .int) :: zt) { frames := 6, cells := 0, slots := 0, locals := 169 } 0 0 2 := ⟨callB_of 2 hts (zgood w_652) rfl rfl rfl (hts _ w_77) hl ⟨by decide, by decide, by decide +kernel⟩ ⟨h1, h2⟩, hts _ w_651, hts _ w_21⟩
