theorem w_2 : (Jvm.Cond.selects "TreeShell$Grammar" ({ cls := "TreeShell$Grammar", name := "readList", desc := "(I)Z" } : Jvm.MethodName) ({ cls := "TreeShell$Grammar", name := "readList", desc := "(I)Z" } : Jvm.MethodName)) ∈ zt := List.mem_filter.mpr ⟨List.mem_of_getElem? (i := 2) (by decide +kernel), rfl⟩
theorem w_3 : (Jvm.Cond.selects "TreeShell$Grammar" ({ cls := "TreeShell$Grammar", name := "readPipeline", desc := "(I)Z" } : Jvm.MethodName) ({ cls := "TreeShell$Grammar", name := "readPipeline", desc := "(I)Z" } : Jvm.MethodName)) ∈ zt := List.mem_filter.mpr ⟨List.mem_of_getElem? (i := 3) (by decide +kernel), rfl⟩
theorem w_4 : (Jvm.Cond.selects "TreeShell$Grammar" ({ cls := "TreeShell$Grammar", name := "readCommand", desc := "(I)Z" } : Jvm.MethodName) ({ cls := "TreeShell$Grammar", name := "readCommand", desc := "(I)Z" } : Jvm.MethodName)) ∈ zt := List.mem_filter.mpr ⟨List.mem_of_getElem? (i := 4) (by decide +kernel), rfl⟩
theorem w_396 : (Jvm.Cond.instanceMethod ({ cls := "TreeShell$Grammar", name := "accepts", desc := "()Z" } : Jvm.MethodName)) ∈ zt := List.mem_filter.mpr ⟨List.mem_of_getElem? (i := 396) (by decide +kernel), rfl⟩
theorem w_397 : (Jvm.Cond.selects "TreeShell$Grammar" ({ cls := "TreeShell$Grammar", name := "accepts", desc := "()Z" } : Jvm.MethodName) ({ cls := "TreeShell$Grammar", name := "accepts", desc := "()Z" } : Jvm.MethodName)) ∈ zt := List.mem_filter.mpr ⟨List.mem_of_getElem? (i := 397) (by decide +kernel), rfl⟩
theorem w_398 : (Jvm.Cond.code ({ cls := "TreeShell$Grammar", name := "accepts", desc := "()Z" } : Jvm.MethodName) prog_2_method_2_code (1 : Nat) (Option.some Jvm.ClassFile.FieldType.boolean)) ∈ zt := List.mem_filter.mpr ⟨List.mem_of_getElem? (i := 398) (by decide +kernel), rfl⟩
theorem w_399 : (Jvm.Cond.methodLink "TreeShell$Grammar" (19 : Nat) ({ cls := "TreeShell$Tokens", name := "cutLine", desc := "()Z" } : Jvm.MethodName)) ∈ zt := List.mem_filter.mpr ⟨List.mem_of_getElem? (i := 399) (by decide +kernel), rfl⟩
theorem w_415 : (Jvm.Cond.methodLink "TreeShell$Grammar" (28 : Nat) ({ cls := "TreeShell$Grammar", name := "readList", desc := "(I)Z" } : Jvm.MethodName)) ∈ zt := List.mem_filter.mpr ⟨List.mem_of_getElem? (i := 415) (by decide +kernel), rfl⟩
theorem w_417 : (Jvm.Cond.instanceMethod ({ cls := "TreeShell$Grammar", name := "readList", desc := "(I)Z" } : Jvm.MethodName)) ∈ zt := List.mem_filter.mpr ⟨List.mem_of_getElem? (i := 417) (by decide +kernel), rfl⟩
theorem w_418 : (Jvm.Cond.code ({ cls := "TreeShell$Grammar", name := "readList", desc := "(I)Z" } : Jvm.MethodName) prog_2_method_3_code (4 : Nat) (Option.some Jvm.ClassFile.FieldType.boolean)) ∈ zt := List.mem_filter.mpr ⟨List.mem_of_getElem? (i := 418) (by decide +kernel), rfl⟩
theorem w_419 : (Jvm.Cond.methodLink "TreeShell$Grammar" (32 : Nat) ({ cls := "TreeShell$Grammar", name := "readPipeline", desc := "(I)Z" } : Jvm.MethodName)) ∈ zt := List.mem_filter.mpr ⟨List.mem_of_getElem? (i := 419) (by decide +kernel), rfl⟩
theorem w_421 : (Jvm.Cond.instanceMethod ({ cls := "TreeShell$Grammar", name := "readPipeline", desc := "(I)Z" } : Jvm.MethodName)) ∈ zt := List.mem_filter.mpr ⟨List.mem_of_getElem? (i := 421) (by decide +kernel), rfl⟩
theorem w_422 : (Jvm.Cond.code ({ cls := "TreeShell$Grammar", name := "readPipeline", desc := "(I)Z" } : Jvm.MethodName) prog_2_method_5_code (3 : Nat) (Option.some Jvm.ClassFile.FieldType.boolean)) ∈ zt := List.mem_filter.mpr ⟨List.mem_of_getElem? (i := 422) (by decide +kernel), rfl⟩
theorem w_427 : (Jvm.Cond.methodLink "TreeShell$Grammar" (42 : Nat) ({ cls := "TreeShell$Grammar", name := "readCommand", desc := "(I)Z" } : Jvm.MethodName)) ∈ zt := List.mem_filter.mpr ⟨List.mem_of_getElem? (i := 427) (by decide +kernel), rfl⟩
theorem w_429 : (Jvm.Cond.instanceMethod ({ cls := "TreeShell$Grammar", name := "readCommand", desc := "(I)Z" } : Jvm.MethodName)) ∈ zt := List.mem_filter.mpr ⟨List.mem_of_getElem? (i := 429) (by decide +kernel), rfl⟩
theorem w_430 : (Jvm.Cond.code ({ cls := "TreeShell$Grammar", name := "readCommand", desc := "(I)Z" } : Jvm.MethodName) prog_2_method_6_code (2 : Nat) (Option.some Jvm.ClassFile.FieldType.boolean)) ∈ zt := List.mem_filter.mpr ⟨List.mem_of_getElem? (i := 430) (by decide +kernel), rfl⟩
theorem w_431 : (Jvm.Cond.methodLink "TreeShell$Grammar" (45 : Nat) ({ cls := "TreeShell$Grammar", name := "readSimple", desc := "()Z" } : Jvm.MethodName)) ∈ zt := List.mem_filter.mpr ⟨List.mem_of_getElem? (i := 431) (by decide +kernel), rfl⟩
theorem w_443 : (Jvm.Cond.methodLink "TreeShell$Grammar" (39 : Nat) ({ cls := "TreeShell$Grammar", name := "isListEnd", desc := "()Z" } : Jvm.MethodName)) ∈ zt := List.mem_filter.mpr ⟨List.mem_of_getElem? (i := 443) (by decide +kernel), rfl⟩
theorem d_cGrammar_readRedirections_0 : decode b_cGrammar_readRedirections 0 = .ok (.iconst 0, 1) := by decide +kernel
theorem d_cGrammar_readRedirections_1 : decode b_cGrammar_readRedirections 1 = .ok (.istore_n 1, 1) := by decide +kernel
theorem d_cGrammar_readRedirections_2 : decode b_cGrammar_readRedirections 2 = .ok (.iload_n 1, 1) := by decide +kernel
theorem d_cGrammar_readRedirections_3 : decode b_cGrammar_readRedirections 3 = .ok (.aload_n 0, 1) := by decide +kernel
theorem d_cGrammar_readRedirections_4 : decode b_cGrammar_readRedirections 4 = .ok (.getfield 15, 3) := by decide +kernel
theorem d_cGrammar_readRedirections_7 : decode b_cGrammar_readRedirections 7 = .ok (.getfield 25, 3) := by decide +kernel
theorem d_cGrammar_readRedirections_10 : decode b_cGrammar_readRedirections 10 = .ok (.if_icmp .ge 53, 3) := by decide +kernel
theorem d_cGrammar_readRedirections_13 : decode b_cGrammar_readRedirections 13 = .ok (.aload_n 0, 1) := by decide +kernel
theorem d_cGrammar_readRedirections_14 : decode b_cGrammar_readRedirections 14 = .ok (.getfield 15, 3) := by decide +kernel
theorem d_cGrammar_readRedirections_17 : decode b_cGrammar_readRedirections 17 = .ok (.aload_n 0, 1) := by decide +kernel
theorem d_cGrammar_readRedirections_18 : decode b_cGrammar_readRedirections 18 = .ok (.getfield 9, 3) := by decide +kernel
theorem d_cGrammar_readRedirections_21 : decode b_cGrammar_readRedirections 21 = .ok (.invokevirtual 51, 3) := by decide +kernel
theorem d_cGrammar_readRedirections_24 : decode b_cGrammar_readRedirections 24 = .ok (.ifCond .eq 39, 3) := by decide +kernel
theorem d_cGrammar_readRedirections_27 : decode b_cGrammar_readRedirections 27 = .ok (.aload_n 0, 1) := by decide +kernel
theorem d_cGrammar_readRedirections_28 : decode b_cGrammar_readRedirections 28 = .ok (.getfield 15, 3) := by decide +kernel
theorem d_cGrammar_readRedirections_31 : decode b_cGrammar_readRedirections 31 = .ok (.aload_n 0, 1) := by decide +kernel
theorem d_cGrammar_readRedirections_32 : decode b_cGrammar_readRedirections 32 = .ok (.getfield 9, 3) := by decide +kernel
theorem d_cGrammar_readRedirections_35 : decode b_cGrammar_readRedirections 35 = .ok (.iconst 1, 1) := by decide +kernel
theorem d_cGrammar_readRedirections_36 : decode b_cGrammar_readRedirections 36 = .ok (.iadd, 1) := by decide +kernel
theorem d_cGrammar_readRedirections_37 : decode b_cGrammar_readRedirections 37 = .ok (.invokevirtual 35, 3) := by decide +kernel
theorem d_cGrammar_readRedirections_40 : decode b_cGrammar_readRedirections 40 = .ok (.bipush 10, 2) := by decide +kernel
theorem d_cGrammar_readRedirections_42 : decode b_cGrammar_readRedirections 42 = .ok (.if_icmp .eq 5, 3) := by decide +kernel
theorem d_cGrammar_readRedirections_45 : decode b_cGrammar_readRedirections 45 = .ok (.iconst 0, 1) := by decide +kernel
theorem d_cGrammar_readRedirections_46 : decode b_cGrammar_readRedirections 46 = .ok (.ireturn, 1) := by decide +kernel
theorem d_cGrammar_readRedirections_47 : decode b_cGrammar_readRedirections 47 = .ok (.aload_n 0, 1) := by decide +kernel
theorem d_cGrammar_readRedirections_48 : decode b_cGrammar_readRedirections 48 = .ok (.dup, 1) := by decide +kernel
theorem d_cGrammar_readRedirections_49 : decode b_cGrammar_readRedirections 49 = .ok (.getfield 9, 3) := by decide +kernel
theorem d_cGrammar_readRedirections_52 : decode b_cGrammar_readRedirections 52 = .ok (.iconst 2, 1) := by decide +kernel
theorem d_cGrammar_readRedirections_53 : decode b_cGrammar_readRedirections 53 = .ok (.iadd, 1) := by decide +kernel
theorem d_cGrammar_readRedirections_54 : decode b_cGrammar_readRedirections 54 = .ok (.putfield 9, 3) := by decide +kernel
theorem d_cGrammar_readRedirections_57 : decode b_cGrammar_readRedirections 57 = .ok (.iinc 1 1, 3) := by decide +kernel
theorem d_cGrammar_readRedirections_60 : decode b_cGrammar_readRedirections 60 = .ok (.goto (-58), 3) := by decide +kernel
theorem d_cGrammar_readRedirections_63 : decode b_cGrammar_readRedirections 63 = .ok (.iconst 1, 1) := by decide +kernel
theorem d_cGrammar_readRedirections_64 : decode b_cGrammar_readRedirections 64 = .ok (.ireturn, 1) := by decide +kernel
theorem d_cGrammar_readSimple_0 : decode b_cGrammar_readSimple 0 = .ok (.iconst 0, 1) := by decide +kernel
theorem d_cGrammar_readSimple_1 : decode b_cGrammar_readSimple 1 = .ok (.istore_n 1, 1) := by decide +kernel
theorem d_cGrammar_readSimple_2 : decode b_cGrammar_readSimple 2 = .ok (.iconst 0, 1) := by decide +kernel
theorem d_cGrammar_readSimple_3 : decode b_cGrammar_readSimple 3 = .ok (.istore_n 2, 1) := by decide +kernel
theorem d_cGrammar_readSimple_4 : decode b_cGrammar_readSimple 4 = .ok (.iload_n 2, 1) := by decide +kernel
theorem d_cGrammar_readSimple_5 : decode b_cGrammar_readSimple 5 = .ok (.aload_n 0, 1) := by decide +kernel
theorem d_cGrammar_readSimple_6 : decode b_cGrammar_readSimple 6 = .ok (.getfield 15, 3) := by decide +kernel
theorem d_cGrammar_readSimple_9 : decode b_cGrammar_readSimple 9 = .ok (.getfield 25, 3) := by decide +kernel
theorem d_cGrammar_readSimple_12 : decode b_cGrammar_readSimple 12 = .ok (.if_icmp .ge 48, 3) := by decide +kernel
theorem d_cGrammar_readSimple_15 : decode b_cGrammar_readSimple 15 = .ok (.aload_n 0, 1) := by decide +kernel
theorem d_cGrammar_readSimple_16 : decode b_cGrammar_readSimple 16 = .ok (.invokevirtual 48, 3) := by decide +kernel
theorem d_cGrammar_readSimple_19 : decode b_cGrammar_readSimple 19 = .ok (.ifCond .ne 5, 3) := by decide +kernel
theorem d_cGrammar_readSimple_22 : decode b_cGrammar_readSimple 22 = .ok (.iconst 0, 1) := by decide +kernel
theorem d_cGrammar_readSimple_23 : decode b_cGrammar_readSimple 23 = .ok (.ireturn, 1) := by decide +kernel
theorem d_cGrammar_readSimple_24 : decode b_cGrammar_readSimple 24 = .ok (.aload_n 0, 1) := by decide +kernel
theorem d_cGrammar_readSimple_25 : decode b_cGrammar_readSimple 25 = .ok (.getfield 15, 3) := by decide +kernel
theorem d_cGrammar_readSimple_28 : decode b_cGrammar_readSimple 28 = .ok (.aload_n 0, 1) := by decide +kernel
theorem d_cGrammar_readSimple_29 : decode b_cGrammar_readSimple 29 = .ok (.getfield 9, 3) := by decide +kernel
theorem d_cGrammar_readSimple_32 : decode b_cGrammar_readSimple 32 = .ok (.invokevirtual 35, 3) := by decide +kernel
theorem d_cGrammar_readSimple_35 : decode b_cGrammar_readSimple 35 = .ok (.bipush 10, 2) := by decide +kernel
theorem d_cGrammar_readSimple_37 : decode b_cGrammar_readSimple 37 = .ok (.if_icmp .eq 5, 3) := by decide +kernel
theorem d_cGrammar_readSimple_40 : decode b_cGrammar_readSimple 40 = .ok (.iload_n 1, 1) := by decide +kernel
theorem d_cGrammar_readSimple_41 : decode b_cGrammar_readSimple 41 = .ok (.ireturn, 1) := by decide +kernel
theorem d_cGrammar_readSimple_42 : decode b_cGrammar_readSimple 42 = .ok (.iconst 1, 1) := by decide +kernel
theorem d_cGrammar_readSimple_43 : decode b_cGrammar_readSimple 43 = .ok (.istore_n 1, 1) := by decide +kernel
theorem d_cGrammar_readSimple_44 : decode b_cGrammar_readSimple 44 = .ok (.aload_n 0, 1) := by decide +kernel
theorem d_cGrammar_readSimple_45 : decode b_cGrammar_readSimple 45 = .ok (.dup, 1) := by decide +kernel
theorem d_cGrammar_readSimple_46 : decode b_cGrammar_readSimple 46 = .ok (.getfield 9, 3) := by decide +kernel
theorem d_cGrammar_readSimple_49 : decode b_cGrammar_readSimple 49 = .ok (.iconst 1, 1) := by decide +kernel
theorem d_cGrammar_readSimple_50 : decode b_cGrammar_readSimple 50 = .ok (.iadd, 1) := by decide +kernel
theorem d_cGrammar_readSimple_51 : decode b_cGrammar_readSimple 51 = .ok (.putfield 9, 3) := by decide +kernel
theorem d_cGrammar_readSimple_54 : decode b_cGrammar_readSimple 54 = .ok (.iinc 2 1, 3) := by decide +kernel
theorem d_cGrammar_readSimple_57 : decode b_cGrammar_readSimple 57 = .ok (.goto (-53), 3) := by decide +kernel
theorem d_cGrammar_readSimple_60 : decode b_cGrammar_readSimple 60 = .ok (.iload_n 1, 1) := by decide +kernel
theorem d_cGrammar_readSimple_61 : decode b_cGrammar_readSimple 61 = .ok (.ireturn, 1) := by decide +kernel
theorem d_cGrammar_readCommand_0 : decode b_cGrammar_readCommand 0 = .ok (.aload_n 0, 1) := by decide +kernel
theorem d_cGrammar_readCommand_1 : decode b_cGrammar_readCommand 1 = .ok (.getfield 15, 3) := by decide +kernel
theorem d_cGrammar_readCommand_4 : decode b_cGrammar_readCommand 4 = .ok (.aload_n 0, 1) := by decide +kernel
theorem d_cGrammar_readCommand_5 : decode b_cGrammar_readCommand 5 = .ok (.getfield 9, 3) := by decide +kernel
theorem d_cGrammar_readCommand_8 : decode b_cGrammar_readCommand 8 = .ok (.invokevirtual 35, 3) := by decide +kernel
theorem d_cGrammar_readCommand_11 : decode b_cGrammar_readCommand 11 = .ok (.iconst 5, 1) := by decide +kernel
theorem d_cGrammar_readCommand_12 : decode b_cGrammar_readCommand 12 = .ok (.if_icmp .eq 8, 3) := by decide +kernel
theorem d_cGrammar_readCommand_15 : decode b_cGrammar_readCommand 15 = .ok (.aload_n 0, 1) := by decide +kernel
theorem d_cGrammar_readCommand_16 : decode b_cGrammar_readCommand 16 = .ok (.invokevirtual 45, 3) := by decide +kernel
theorem d_cGrammar_readCommand_19 : decode b_cGrammar_readCommand 19 = .ok (.ireturn, 1) := by decide +kernel
theorem d_cGrammar_readCommand_20 : decode b_cGrammar_readCommand 20 = .ok (.aload_n 0, 1) := by decide +kernel
theorem d_cGrammar_readCommand_21 : decode b_cGrammar_readCommand 21 = .ok (.dup, 1) := by decide +kernel
theorem d_cGrammar_readCommand_22 : decode b_cGrammar_readCommand 22 = .ok (.getfield 9, 3) := by decide +kernel
theorem d_cGrammar_readCommand_25 : decode b_cGrammar_readCommand 25 = .ok (.iconst 1, 1) := by decide +kernel
theorem d_cGrammar_readCommand_26 : decode b_cGrammar_readCommand 26 = .ok (.iadd, 1) := by decide +kernel
theorem d_cGrammar_readCommand_27 : decode b_cGrammar_readCommand 27 = .ok (.putfield 9, 3) := by decide +kernel
theorem d_cGrammar_readCommand_30 : decode b_cGrammar_readCommand 30 = .ok (.aload_n 0, 1) := by decide +kernel
theorem d_cGrammar_readCommand_31 : decode b_cGrammar_readCommand 31 = .ok (.iload_n 1, 1) := by decide +kernel
theorem d_cGrammar_readCommand_32 : decode b_cGrammar_readCommand 32 = .ok (.iconst 1, 1) := by decide +kernel
theorem d_cGrammar_readCommand_33 : decode b_cGrammar_readCommand 33 = .ok (.iadd, 1) := by decide +kernel
theorem d_cGrammar_readCommand_34 : decode b_cGrammar_readCommand 34 = .ok (.invokevirtual 28, 3) := by decide +kernel
theorem d_cGrammar_readCommand_37 : decode b_cGrammar_readCommand 37 = .ok (.ifCond .eq 19, 3) := by decide +kernel
theorem d_cGrammar_readCommand_40 : decode b_cGrammar_readCommand 40 = .ok (.aload_n 0, 1) := by decide +kernel
theorem d_cGrammar_readCommand_41 : decode b_cGrammar_readCommand 41 = .ok (.getfield 15, 3) := by decide +kernel
theorem d_cGrammar_readCommand_44 : decode b_cGrammar_readCommand 44 = .ok (.aload_n 0, 1) := by decide +kernel
theorem d_cGrammar_readCommand_45 : decode b_cGrammar_readCommand 45 = .ok (.getfield 9, 3) := by decide +kernel
theorem d_cGrammar_readCommand_48 : decode b_cGrammar_readCommand 48 = .ok (.invokevirtual 35, 3) := by decide +kernel
theorem d_cGrammar_readCommand_51 : decode b_cGrammar_readCommand 51 = .ok (.bipush 6, 2) := by decide +kernel
theorem d_cGrammar_readCommand_53 : decode b_cGrammar_readCommand 53 = .ok (.if_icmp .eq 5, 3) := by decide +kernel
theorem d_cGrammar_readCommand_56 : decode b_cGrammar_readCommand 56 = .ok (.iconst 0, 1) := by decide +kernel
theorem d_cGrammar_readCommand_57 : decode b_cGrammar_readCommand 57 = .ok (.ireturn, 1) := by decide +kernel
theorem d_cGrammar_readCommand_58 : decode b_cGrammar_readCommand 58 = .ok (.aload_n 0, 1) := by decide +kernel
theorem d_cGrammar_readCommand_59 : decode b_cGrammar_readCommand 59 = .ok (.dup, 1) := by decide +kernel
theorem d_cGrammar_readCommand_60 : decode b_cGrammar_readCommand 60 = .ok (.getfield 9, 3) := by decide +kernel
theorem d_cGrammar_readCommand_63 : decode b_cGrammar_readCommand 63 = .ok (.iconst 1, 1) := by decide +kernel
theorem d_cGrammar_readCommand_64 : decode b_cGrammar_readCommand 64 = .ok (.iadd, 1) := by decide +kernel
theorem d_cGrammar_readCommand_65 : decode b_cGrammar_readCommand 65 = .ok (.putfield 9, 3) := by decide +kernel
theorem d_cGrammar_readCommand_68 : decode b_cGrammar_readCommand 68 = .ok (.aload_n 0, 1) := by decide +kernel
theorem d_cGrammar_readCommand_69 : decode b_cGrammar_readCommand 69 = .ok (.invokevirtual 48, 3) := by decide +kernel
theorem d_cGrammar_readCommand_72 : decode b_cGrammar_readCommand 72 = .ok (.ireturn, 1) := by decide +kernel
theorem d_cGrammar_readPipeline_0 : decode b_cGrammar_readPipeline 0 = .ok (.aload_n 0, 1) := by decide +kernel
theorem d_cGrammar_readPipeline_1 : decode b_cGrammar_readPipeline 1 = .ok (.getfield 15, 3) := by decide +kernel
theorem d_cGrammar_readPipeline_4 : decode b_cGrammar_readPipeline 4 = .ok (.aload_n 0, 1) := by decide +kernel
theorem d_cGrammar_readPipeline_5 : decode b_cGrammar_readPipeline 5 = .ok (.getfield 9, 3) := by decide +kernel
theorem d_cGrammar_readPipeline_8 : decode b_cGrammar_readPipeline 8 = .ok (.invokevirtual 35, 3) := by decide +kernel
theorem d_cGrammar_readPipeline_11 : decode b_cGrammar_readPipeline 11 = .ok (.iconst 4, 1) := by decide +kernel
theorem d_cGrammar_readPipeline_12 : decode b_cGrammar_readPipeline 12 = .ok (.if_icmp .ne 13, 3) := by decide +kernel
theorem d_cGrammar_readPipeline_15 : decode b_cGrammar_readPipeline 15 = .ok (.aload_n 0, 1) := by decide +kernel
theorem d_cGrammar_readPipeline_16 : decode b_cGrammar_readPipeline 16 = .ok (.dup, 1) := by decide +kernel
theorem d_cGrammar_readPipeline_17 : decode b_cGrammar_readPipeline 17 = .ok (.getfield 9, 3) := by decide +kernel
theorem d_cGrammar_readPipeline_20 : decode b_cGrammar_readPipeline 20 = .ok (.iconst 1, 1) := by decide +kernel
theorem d_cGrammar_readPipeline_21 : decode b_cGrammar_readPipeline 21 = .ok (.iadd, 1) := by decide +kernel
theorem d_cGrammar_readPipeline_22 : decode b_cGrammar_readPipeline 22 = .ok (.putfield 9, 3) := by decide +kernel
theorem d_cGrammar_readPipeline_25 : decode b_cGrammar_readPipeline 25 = .ok (.iconst 0, 1) := by decide +kernel
theorem d_cGrammar_readPipeline_26 : decode b_cGrammar_readPipeline 26 = .ok (.istore_n 2, 1) := by decide +kernel
theorem d_cGrammar_readPipeline_27 : decode b_cGrammar_readPipeline 27 = .ok (.iload_n 2, 1) := by decide +kernel
theorem d_cGrammar_readPipeline_28 : decode b_cGrammar_readPipeline 28 = .ok (.aload_n 0, 1) := by decide +kernel
theorem d_cGrammar_readPipeline_29 : decode b_cGrammar_readPipeline 29 = .ok (.getfield 15, 3) := by decide +kernel
theorem d_cGrammar_readPipeline_32 : decode b_cGrammar_readPipeline 32 = .ok (.getfield 25, 3) := by decide +kernel
theorem d_cGrammar_readPipeline_35 : decode b_cGrammar_readPipeline 35 = .ok (.if_icmp .ge 46, 3) := by decide +kernel
theorem d_cGrammar_readPipeline_38 : decode b_cGrammar_readPipeline 38 = .ok (.aload_n 0, 1) := by decide +kernel
theorem d_cGrammar_readPipeline_39 : decode b_cGrammar_readPipeline 39 = .ok (.iload_n 1, 1) := by decide +kernel
theorem d_cGrammar_readPipeline_40 : decode b_cGrammar_readPipeline 40 = .ok (.invokevirtual 42, 3) := by decide +kernel
theorem d_cGrammar_readPipeline_43 : decode b_cGrammar_readPipeline 43 = .ok (.ifCond .ne 5, 3) := by decide +kernel
theorem d_cGrammar_readPipeline_46 : decode b_cGrammar_readPipeline 46 = .ok (.iconst 0, 1) := by decide +kernel
theorem d_cGrammar_readPipeline_47 : decode b_cGrammar_readPipeline 47 = .ok (.ireturn, 1) := by decide +kernel
theorem d_cGrammar_readPipeline_48 : decode b_cGrammar_readPipeline 48 = .ok (.aload_n 0, 1) := by decide +kernel
theorem d_cGrammar_readPipeline_49 : decode b_cGrammar_readPipeline 49 = .ok (.getfield 15, 3) := by decide +kernel
theorem d_cGrammar_readPipeline_52 : decode b_cGrammar_readPipeline 52 = .ok (.aload_n 0, 1) := by decide +kernel
theorem d_cGrammar_readPipeline_53 : decode b_cGrammar_readPipeline 53 = .ok (.getfield 9, 3) := by decide +kernel
theorem d_cGrammar_readPipeline_56 : decode b_cGrammar_readPipeline 56 = .ok (.invokevirtual 35, 3) := by decide +kernel
theorem d_cGrammar_readPipeline_59 : decode b_cGrammar_readPipeline 59 = .ok (.iconst 3, 1) := by decide +kernel
theorem d_cGrammar_readPipeline_60 : decode b_cGrammar_readPipeline 60 = .ok (.if_icmp .eq 5, 3) := by decide +kernel
theorem d_cGrammar_readPipeline_63 : decode b_cGrammar_readPipeline 63 = .ok (.iconst 1, 1) := by decide +kernel
theorem d_cGrammar_readPipeline_64 : decode b_cGrammar_readPipeline 64 = .ok (.ireturn, 1) := by decide +kernel
theorem d_cGrammar_readPipeline_65 : decode b_cGrammar_readPipeline 65 = .ok (.aload_n 0, 1) := by decide +kernel
theorem d_cGrammar_readPipeline_66 : decode b_cGrammar_readPipeline 66 = .ok (.dup, 1) := by decide +kernel
theorem d_cGrammar_readPipeline_67 : decode b_cGrammar_readPipeline 67 = .ok (.getfield 9, 3) := by decide +kernel
theorem d_cGrammar_readPipeline_70 : decode b_cGrammar_readPipeline 70 = .ok (.iconst 1, 1) := by decide +kernel
theorem d_cGrammar_readPipeline_71 : decode b_cGrammar_readPipeline 71 = .ok (.iadd, 1) := by decide +kernel
theorem d_cGrammar_readPipeline_72 : decode b_cGrammar_readPipeline 72 = .ok (.putfield 9, 3) := by decide +kernel
theorem d_cGrammar_readPipeline_75 : decode b_cGrammar_readPipeline 75 = .ok (.iinc 2 1, 3) := by decide +kernel
theorem d_cGrammar_readPipeline_78 : decode b_cGrammar_readPipeline 78 = .ok (.goto (-51), 3) := by decide +kernel
theorem d_cGrammar_readPipeline_81 : decode b_cGrammar_readPipeline 81 = .ok (.iconst 0, 1) := by decide +kernel
theorem d_cGrammar_readPipeline_82 : decode b_cGrammar_readPipeline 82 = .ok (.ireturn, 1) := by decide +kernel
theorem d_cGrammar_isListEnd_0 : decode b_cGrammar_isListEnd 0 = .ok (.aload_n 0, 1) := by decide +kernel
theorem d_cGrammar_isListEnd_1 : decode b_cGrammar_isListEnd 1 = .ok (.getfield 15, 3) := by decide +kernel
theorem d_cGrammar_isListEnd_4 : decode b_cGrammar_isListEnd 4 = .ok (.aload_n 0, 1) := by decide +kernel
theorem d_cGrammar_isListEnd_5 : decode b_cGrammar_isListEnd 5 = .ok (.getfield 9, 3) := by decide +kernel
theorem d_cGrammar_isListEnd_8 : decode b_cGrammar_isListEnd 8 = .ok (.invokevirtual 35, 3) := by decide +kernel
theorem d_cGrammar_isListEnd_11 : decode b_cGrammar_isListEnd 11 = .ok (.istore_n 1, 1) := by decide +kernel
theorem d_cGrammar_isListEnd_12 : decode b_cGrammar_isListEnd 12 = .ok (.iload_n 1, 1) := by decide +kernel
theorem d_cGrammar_isListEnd_13 : decode b_cGrammar_isListEnd 13 = .ok (.bipush 6, 2) := by decide +kernel
theorem d_cGrammar_isListEnd_15 : decode b_cGrammar_isListEnd 15 = .ok (.if_icmp .eq 9, 3) := by decide +kernel
theorem d_cGrammar_isListEnd_18 : decode b_cGrammar_isListEnd 18 = .ok (.iload_n 1, 1) := by decide +kernel
theorem d_cGrammar_isListEnd_19 : decode b_cGrammar_isListEnd 19 = .ok (.bipush 11, 2) := by decide +kernel
theorem d_cGrammar_isListEnd_21 : decode b_cGrammar_isListEnd 21 = .ok (.if_icmp .ne 7, 3) := by decide +kernel
theorem d_cGrammar_isListEnd_24 : decode b_cGrammar_isListEnd 24 = .ok (.iconst 1, 1) := by decide +kernel
theorem d_cGrammar_isListEnd_25 : decode b_cGrammar_isListEnd 25 = .ok (.goto 4, 3) := by decide +kernel
theorem d_cGrammar_isListEnd_28 : decode b_cGrammar_isListEnd 28 = .ok (.iconst 0, 1) := by decide +kernel
theorem d_cGrammar_isListEnd_29 : decode b_cGrammar_isListEnd 29 = .ok (.ireturn, 1) := by decide +kernel
theorem d_cGrammar_readList_0 : decode b_cGrammar_readList 0 = .ok (.iload_n 1, 1) := by decide +kernel
theorem d_cGrammar_readList_1 : decode b_cGrammar_readList 1 = .ok (.iconst 4, 1) := by decide +kernel
theorem d_cGrammar_readList_2 : decode b_cGrammar_readList 2 = .ok (.if_icmp .gt 11, 3) := by decide +kernel
theorem d_cGrammar_readList_5 : decode b_cGrammar_readList 5 = .ok (.aload_n 0, 1) := by decide +kernel
theorem d_cGrammar_readList_6 : decode b_cGrammar_readList 6 = .ok (.iload_n 1, 1) := by decide +kernel
theorem d_cGrammar_readList_7 : decode b_cGrammar_readList 7 = .ok (.invokevirtual 32, 3) := by decide +kernel
theorem d_cGrammar_readList_10 : decode b_cGrammar_readList 10 = .ok (.ifCond .ne 5, 3) := by decide +kernel
theorem d_cGrammar_readList_13 : decode b_cGrammar_readList 13 = .ok (.iconst 0, 1) := by decide +kernel
theorem d_cGrammar_readList_14 : decode b_cGrammar_readList 14 = .ok (.ireturn, 1) := by decide +kernel
theorem d_cGrammar_readList_15 : decode b_cGrammar_readList 15 = .ok (.iconst 0, 1) := by decide +kernel
theorem d_cGrammar_readList_16 : decode b_cGrammar_readList 16 = .ok (.istore_n 2, 1) := by decide +kernel
theorem d_cGrammar_readList_17 : decode b_cGrammar_readList 17 = .ok (.iload_n 2, 1) := by decide +kernel
theorem d_cGrammar_readList_18 : decode b_cGrammar_readList 18 = .ok (.aload_n 0, 1) := by decide +kernel
theorem d_cGrammar_readList_19 : decode b_cGrammar_readList 19 = .ok (.getfield 15, 3) := by decide +kernel
theorem d_cGrammar_readList_22 : decode b_cGrammar_readList 22 = .ok (.getfield 25, 3) := by decide +kernel
theorem d_cGrammar_readList_25 : decode b_cGrammar_readList 25 = .ok (.if_icmp .ge 61, 3) := by decide +kernel
theorem d_cGrammar_readList_28 : decode b_cGrammar_readList 28 = .ok (.aload_n 0, 1) := by decide +kernel
theorem d_cGrammar_readList_29 : decode b_cGrammar_readList 29 = .ok (.getfield 15, 3) := by decide +kernel
theorem d_cGrammar_readList_32 : decode b_cGrammar_readList 32 = .ok (.aload_n 0, 1) := by decide +kernel
theorem d_cGrammar_readList_33 : decode b_cGrammar_readList 33 = .ok (.getfield 9, 3) := by decide +kernel
theorem d_cGrammar_readList_36 : decode b_cGrammar_readList 36 = .ok (.invokevirtual 35, 3) := by decide +kernel
theorem d_cGrammar_readList_39 : decode b_cGrammar_readList 39 = .ok (.istore_n 3, 1) := by decide +kernel
theorem d_cGrammar_readList_40 : decode b_cGrammar_readList 40 = .ok (.iload_n 3, 1) := by decide +kernel
theorem d_cGrammar_readList_41 : decode b_cGrammar_readList 41 = .ok (.iconst 2, 1) := by decide +kernel
theorem d_cGrammar_readList_42 : decode b_cGrammar_readList 42 = .ok (.if_icmp .le 5, 3) := by decide +kernel
theorem d_cGrammar_readList_45 : decode b_cGrammar_readList 45 = .ok (.iconst 1, 1) := by decide +kernel
theorem d_cGrammar_readList_46 : decode b_cGrammar_readList 46 = .ok (.ireturn, 1) := by decide +kernel
theorem d_cGrammar_readList_47 : decode b_cGrammar_readList 47 = .ok (.aload_n 0, 1) := by decide +kernel
theorem d_cGrammar_readList_48 : decode b_cGrammar_readList 48 = .ok (.dup, 1) := by decide +kernel
theorem d_cGrammar_readList_49 : decode b_cGrammar_readList 49 = .ok (.getfield 9, 3) := by decide +kernel
theorem d_cGrammar_readList_52 : decode b_cGrammar_readList 52 = .ok (.iconst 1, 1) := by decide +kernel
theorem d_cGrammar_readList_53 : decode b_cGrammar_readList 53 = .ok (.iadd, 1) := by decide +kernel
theorem d_cGrammar_readList_54 : decode b_cGrammar_readList 54 = .ok (.putfield 9, 3) := by decide +kernel
theorem d_cGrammar_readList_57 : decode b_cGrammar_readList 57 = .ok (.iload_n 3, 1) := by decide +kernel
theorem d_cGrammar_readList_58 : decode b_cGrammar_readList 58 = .ok (.ifCond .ne 12, 3) := by decide +kernel
theorem d_cGrammar_readList_61 : decode b_cGrammar_readList 61 = .ok (.aload_n 0, 1) := by decide +kernel
theorem d_cGrammar_readList_62 : decode b_cGrammar_readList 62 = .ok (.invokevirtual 39, 3) := by decide +kernel
theorem d_cGrammar_readList_65 : decode b_cGrammar_readList 65 = .ok (.ifCond .eq 5, 3) := by decide +kernel
theorem d_cGrammar_readList_68 : decode b_cGrammar_readList 68 = .ok (.iconst 1, 1) := by decide +kernel
theorem d_cGrammar_readList_69 : decode b_cGrammar_readList 69 = .ok (.ireturn, 1) := by decide +kernel
theorem d_cGrammar_readList_70 : decode b_cGrammar_readList 70 = .ok (.aload_n 0, 1) := by decide +kernel
theorem d_cGrammar_readList_71 : decode b_cGrammar_readList 71 = .ok (.iload_n 1, 1) := by decide +kernel
theorem d_cGrammar_readList_72 : decode b_cGrammar_readList 72 = .ok (.invokevirtual 32, 3) := by decide +kernel
theorem d_cGrammar_readList_75 : decode b_cGrammar_readList 75 = .ok (.ifCond .ne 5, 3) := by decide +kernel
theorem d_cGrammar_readList_78 : decode b_cGrammar_readList 78 = .ok (.iconst 0, 1) := by decide +kernel
theorem d_cGrammar_readList_79 : decode b_cGrammar_readList 79 = .ok (.ireturn, 1) := by decide +kernel
theorem d_cGrammar_readList_80 : decode b_cGrammar_readList 80 = .ok (.iinc 2 1, 3) := by decide +kernel
theorem d_cGrammar_readList_83 : decode b_cGrammar_readList 83 = .ok (.goto (-66), 3) := by decide +kernel
theorem d_cGrammar_readList_86 : decode b_cGrammar_readList 86 = .ok (.iconst 1, 1) := by decide +kernel
theorem d_cGrammar_readList_87 : decode b_cGrammar_readList 87 = .ok (.ireturn, 1) := by decide +kernel
theorem d_cGrammar_accepts_0 : decode b_cGrammar_accepts 0 = .ok (.aload_n 0, 1) := by decide +kernel
theorem d_cGrammar_accepts_1 : decode b_cGrammar_accepts 1 = .ok (.getfield 15, 3) := by decide +kernel
theorem d_cGrammar_accepts_4 : decode b_cGrammar_accepts 4 = .ok (.invokevirtual 19, 3) := by decide +kernel
theorem d_cGrammar_accepts_7 : decode b_cGrammar_accepts 7 = .ok (.ifCond .ne 5, 3) := by decide +kernel
theorem d_cGrammar_accepts_10 : decode b_cGrammar_accepts 10 = .ok (.iconst 0, 1) := by decide +kernel
theorem d_cGrammar_accepts_11 : decode b_cGrammar_accepts 11 = .ok (.ireturn, 1) := by decide +kernel
theorem d_cGrammar_accepts_12 : decode b_cGrammar_accepts 12 = .ok (.aload_n 0, 1) := by decide +kernel
theorem d_cGrammar_accepts_13 : decode b_cGrammar_accepts 13 = .ok (.iconst 0, 1) := by decide +kernel
theorem d_cGrammar_accepts_14 : decode b_cGrammar_accepts 14 = .ok (.putfield 9, 3) := by decide +kernel
theorem d_cGrammar_accepts_17 : decode b_cGrammar_accepts 17 = .ok (.aload_n 0, 1) := by decide +kernel
theorem d_cGrammar_accepts_18 : decode b_cGrammar_accepts 18 = .ok (.getfield 15, 3) := by decide +kernel
theorem d_cGrammar_accepts_21 : decode b_cGrammar_accepts 21 = .ok (.getfield 25, 3) := by decide +kernel
theorem d_cGrammar_accepts_24 : decode b_cGrammar_accepts 24 = .ok (.ifCond .eq 25, 3) := by decide +kernel
theorem d_cGrammar_accepts_27 : decode b_cGrammar_accepts 27 = .ok (.aload_n 0, 1) := by decide +kernel
theorem d_cGrammar_accepts_28 : decode b_cGrammar_accepts 28 = .ok (.iconst 0, 1) := by decide +kernel
theorem d_cGrammar_accepts_29 : decode b_cGrammar_accepts 29 = .ok (.invokevirtual 28, 3) := by decide +kernel
theorem d_cGrammar_accepts_32 : decode b_cGrammar_accepts 32 = .ok (.ifCond .eq 21, 3) := by decide +kernel
theorem d_cGrammar_accepts_35 : decode b_cGrammar_accepts 35 = .ok (.aload_n 0, 1) := by decide +kernel
theorem d_cGrammar_accepts_36 : decode b_cGrammar_accepts 36 = .ok (.getfield 9, 3) := by decide +kernel
theorem d_cGrammar_accepts_39 : decode b_cGrammar_accepts 39 = .ok (.aload_n 0, 1) := by decide +kernel
theorem d_cGrammar_accepts_40 : decode b_cGrammar_accepts 40 = .ok (.getfield 15, 3) := by decide +kernel
theorem d_cGrammar_accepts_43 : decode b_cGrammar_accepts 43 = .ok (.getfield 25, 3) := by decide +kernel
theorem d_cGrammar_accepts_46 : decode b_cGrammar_accepts 46 = .ok (.if_icmp .ne 7, 3) := by decide +kernel
theorem d_cGrammar_accepts_49 : decode b_cGrammar_accepts 49 = .ok (.iconst 1, 1) := by decide +kernel
theorem d_cGrammar_accepts_50 : decode b_cGrammar_accepts 50 = .ok (.goto 4, 3) := by decide +kernel
theorem d_cGrammar_accepts_53 : decode b_cGrammar_accepts 53 = .ok (.iconst 0, 1) := by decide +kernel
theorem d_cGrammar_accepts_54 : decode b_cGrammar_accepts 54 = .ok (.ireturn, 1) := by decide +kernel
theorem cw_cGrammar_readRedirections {R : Room} {s : State} {args : Array Value} {own : String} {ix : Nat} (hts : ∀ w ∈ zt, w.before args s = true) (hl : (Cond.methodLink own ix y_cGrammar_readRedirections).before args s = true) (h1 : 2 ≤ R.frames) (h2 : 42 ≤ R.locals) : CallW R s args own "TreeShell$Grammar" ix y_cGrammar_readRedirections b_cGrammar_readRedirections 2 (some .boolean) (.code y_cGrammar_readRedirections b_cGrammar_readRedirections 2 (some .boolean) :: zt) { frames := 1, cells := 0, slots := 0, locals := 21 } 0 0 0 := ⟨callB_of 0 hts (zgood w_438) rfl rfl rfl (hts _ w_71) hl ⟨by decide, by decide, by decide +kernel⟩ ⟨h1, h2⟩, hts _ w_437, hts _ w_6⟩
theorem cw_cGrammar_readSimple {R : Room} {s : State} {args : Array Value} {own : String} {ix : Nat} (hts : ∀ w ∈ zt, w.before args s = true) (hl : (Cond.methodLink own ix y_cGrammar_readSimple).before args s = true) (h1 : 3 ≤ R.frames) (h2 : 64 ≤ R.locals) : CallW R s args own "TreeShell$Grammar" ix y_cGrammar_readSimple b_cGrammar_readSimple 3 (some .boolean) (.code y_cGrammar_readSimple b_cGrammar_readSimple 3 (some .boolean) :: zt) { frames := 2, cells := 0, slots := 0, locals := 42 } 0 0 0 := ⟨callB_of 0 hts (zgood w_434) rfl rfl rfl (hts _ w_71) hl ⟨by decide, by decide, by decide +kernel⟩ ⟨h1, h2⟩, hts _ w_433, hts _ w_5⟩
theorem cw_cGrammar_readCommand {fr lo : Nat} {R : Room} {s : State} {args : Array Value} {own : String} {ix : Nat} (hts : ∀ w ∈ zt, w.before args s = true) (hl : (Cond.methodLink own ix y_cGrammar_readCommand).before args s = true) (h1 : fr + 3 + 1 ≤ R.frames) (h2 : 8 + (2 + 11) + (lo + 64) ≤ R.locals) : CallW R s args own "TreeShell$Grammar" ix y_cGrammar_readCommand b_cGrammar_readCommand 2 (some .boolean) (.code y_cGrammar_readCommand b_cGrammar_readCommand 2 (some .boolean) :: zt) { frames := fr + 3, cells := 0, slots := 0, locals := lo + 64 } 0 0 1 := ⟨callB_of 1 hts (zgood w_430) rfl rfl rfl (hts _ w_71) hl ⟨by decide, by decide, by decide +kernel⟩ ⟨h1, h2⟩, hts _ w_429, hts _ w_4⟩
theorem cw_cGrammar_readPipeline {fr lo : Nat} {R : Room} {s : State} {args : Array Value} {own : String} {ix : Nat} (hts : ∀ w ∈ zt, w.before args s = true) (hl : (Cond.methodLink own ix y_cGrammar_readPipeline).before args s = true) (h1 : fr + 4 + 1 ≤ R.frames) (h2 : 8 + (3 + 11) + (lo + 85) ≤ R.locals) : CallW R s args own "TreeShell$Grammar" ix y_cGrammar_readPipeline b_cGrammar_readPipeline 3 (some .boolean) (.code y_cGrammar_readPipeline b_cGrammar_readPipeline 3 (some .boolean) :: zt) { frames := fr + 4, cells := 0, slots := 0, locals := lo + 85 } 0 0 1 := ⟨callB_of 1 hts (zgood w_422) rfl rfl rfl (hts _ w_71) hl ⟨by decide, by decide, by decide +kernel⟩ ⟨h1, h2⟩, hts _ w_421, hts _ w_3⟩
theorem cw_cGrammar_isListEnd {R : Room} {s : State} {args : Array Value} {own : String} {ix : Nat} (hts : ∀ w ∈ zt, w.before args s = true) (hl : (Cond.methodLink own ix y_cGrammar_isListEnd).before args s = true) (h1 : 2 ≤ R.frames) (h2 : 42 ≤ R.locals) : CallW R s args own "TreeShell$Grammar" ix y_cGrammar_isListEnd b_cGrammar_isListEnd 2 (some .boolean) (.code y_cGrammar_isListEnd b_cGrammar_isListEnd 2 (some .boolean) :: zt) { frames := 1, cells := 0, slots := 0, locals := 21 } 0 0 0 := ⟨callB_of 0 hts (zgood w_446) rfl rfl rfl (hts _ w_71) hl ⟨by decide, by decide, by decide +kernel⟩ ⟨h1, h2⟩, hts _ w_445, hts _ w_7⟩
theorem cw_cGrammar_readList {fr lo : Nat} {R : Room} {s : State} {args : Array Value} {own : String} {ix : Nat} (hts : ∀ w ∈ zt, w.before args s = true) (hl : (Cond.methodLink own ix y_cGrammar_readList).before args s = true) (h1 : fr + 1 ≤ R.frames) (h2 : 8 + (4 + 11) + (lo) ≤ R.locals) : CallW R s args own "TreeShell$Grammar" ix y_cGrammar_readList b_cGrammar_readList 4 (some .boolean) (.code y_cGrammar_readList b_cGrammar_readList 4 (some .boolean) :: zt) { frames := fr, cells := 0, slots := 0, locals := lo } 0 0 1 := ⟨callB_of 1 hts (zgood w_418) rfl rfl rfl (hts _ w_71) hl ⟨by decide, by decide, by decide +kernel⟩ ⟨h1, h2⟩, hts _ w_417, hts _ w_2⟩
theorem cw_cGrammar_accepts {R : Room} {s : State} {args : Array Value} {own : String} {ix : Nat} (hts : ∀ w ∈ zt, w.before args s = true) (hl : (Cond.methodLink own ix y_cGrammar_accepts).before args s = true) (h1 : 32 ≤ R.frames) (h2 : 685 ≤ R.locals) : CallW R s args own "TreeShell$Grammar" ix y_cGrammar_accepts b_cGrammar_accepts 1 (some .boolean) (.code y_cGrammar_accepts b_cGrammar_accepts 1 (some .boolean) :: zt) { frames := 31, cells := 0, slots := 0, locals := 665 } 0 0 0 := ⟨callB_of 0 hts (zgood w_398) rfl rfl rfl (hts _ w_71) hl ⟨by decide, by decide, by decide +kernel⟩ ⟨h1, h2⟩, hts _ w_396, hts _ w_397⟩
