theorem w_8 : (Jvm.Cond.selects "TreeShell$Runner" ({ cls := "TreeShell$Runner", name := "runList", desc := "(IIILTreeShell$Text;)Z" } : Jvm.MethodName) ({ cls := "TreeShell$Runner", name := "runList", desc := "(IIILTreeShell$Text;)Z" } : Jvm.MethodName)) ∈ zt := List.mem_filter.mpr ⟨List.mem_of_getElem? (i := 8) (by decide +kernel), rfl⟩
theorem w_10 : (Jvm.Cond.selects "TreeShell$Runner" ({ cls := "TreeShell$Runner", name := "runPipeline", desc := "(IIILTreeShell$Text;)Z" } : Jvm.MethodName) ({ cls := "TreeShell$Runner", name := "runPipeline", desc := "(IIILTreeShell$Text;)Z" } : Jvm.MethodName)) ∈ zt := List.mem_filter.mpr ⟨List.mem_of_getElem? (i := 10) (by decide +kernel), rfl⟩
theorem w_11 : (Jvm.Cond.selects "TreeShell$Runner" ({ cls := "TreeShell$Runner", name := "runCommand", desc := "(IIILTreeShell$Text;)I" } : Jvm.MethodName) ({ cls := "TreeShell$Runner", name := "runCommand", desc := "(IIILTreeShell$Text;)I" } : Jvm.MethodName)) ∈ zt := List.mem_filter.mpr ⟨List.mem_of_getElem? (i := 11) (by decide +kernel), rfl⟩
theorem w_12 : (Jvm.Cond.selects "TreeShell$Runner" ({ cls := "TreeShell$Runner", name := "redirect", desc := "(IILTreeShell$Level;)I" } : Jvm.MethodName) ({ cls := "TreeShell$Runner", name := "redirect", desc := "(IILTreeShell$Level;)I" } : Jvm.MethodName)) ∈ zt := List.mem_filter.mpr ⟨List.mem_of_getElem? (i := 12) (by decide +kernel), rfl⟩
theorem w_15 : (Jvm.Cond.selects "TreeShell$Runner" ({ cls := "TreeShell$Runner", name := "redirectOutput", desc := "(LTreeShell$Level;Z)I" } : Jvm.MethodName) ({ cls := "TreeShell$Runner", name := "redirectOutput", desc := "(LTreeShell$Level;Z)I" } : Jvm.MethodName)) ∈ zt := List.mem_filter.mpr ⟨List.mem_of_getElem? (i := 15) (by decide +kernel), rfl⟩
theorem w_16 : (Jvm.Cond.selects "TreeShell$Runner" ({ cls := "TreeShell$Runner", name := "runGroup", desc := "(IIILTreeShell$Text;)I" } : Jvm.MethodName) ({ cls := "TreeShell$Runner", name := "runGroup", desc := "(IIILTreeShell$Text;)I" } : Jvm.MethodName)) ∈ zt := List.mem_filter.mpr ⟨List.mem_of_getElem? (i := 16) (by decide +kernel), rfl⟩
theorem w_25 : (Jvm.Cond.selects "TreeShell$Tools" ({ cls := "TreeShell$Tools", name := "mkdir", desc := "()I" } : Jvm.MethodName) ({ cls := "TreeShell$Tools", name := "mkdir", desc := "()I" } : Jvm.MethodName)) ∈ zt := List.mem_filter.mpr ⟨List.mem_of_getElem? (i := 25) (by decide +kernel), rfl⟩
theorem w_112 : (Jvm.Cond.fieldLink "TreeShell$Runner" (137 : Nat) "TreeShell$Text" "spilled" "Z") ∈ zt := List.mem_filter.mpr ⟨List.mem_of_getElem? (i := 112) (by decide +kernel), rfl⟩
theorem w_136 : (Jvm.Cond.fieldLink "TreeShell" (89 : Nat) "TreeShell$Tokens" "count" "I") ∈ zt := List.mem_filter.mpr ⟨List.mem_of_getElem? (i := 136) (by decide +kernel), rfl⟩
theorem w_211 : (Jvm.Cond.fieldLink "TreeShell$Runner" (95 : Nat) "TreeShell$Tree" "here" "LTreeShell$Node;") ∈ zt := List.mem_filter.mpr ⟨List.mem_of_getElem? (i := 211) (by decide +kernel), rfl⟩
theorem w_222 : (Jvm.Cond.fieldLink "TreeShell$Tools" (151 : Nat) "TreeShell$Tree" "vacantIn" "LTreeShell$Node;") ∈ zt := List.mem_filter.mpr ⟨List.mem_of_getElem? (i := 222) (by decide +kernel), rfl⟩
theorem w_223 : (Jvm.Cond.fieldLink "TreeShell$Runner" (175 : Nat) "TreeShell$Tree" "vacantIn" "LTreeShell$Node;") ∈ zt := List.mem_filter.mpr ⟨List.mem_of_getElem? (i := 223) (by decide +kernel), rfl⟩
theorem w_300 : (Jvm.Cond.fieldLink "TreeShell$Runner" (106 : Nat) "TreeShell$Level" "commandOutput" "LTreeShell$Text;") ∈ zt := List.mem_filter.mpr ⟨List.mem_of_getElem? (i := 300) (by decide +kernel), rfl⟩
theorem w_302 : (Jvm.Cond.fieldLink "TreeShell$Runner" (103 : Nat) "TreeShell$Level" "piped" "LTreeShell$Text;") ∈ zt := List.mem_filter.mpr ⟨List.mem_of_getElem? (i := 302) (by decide +kernel), rfl⟩
theorem w_308 : (Jvm.Cond.fieldLink "TreeShell$Runner" (117 : Nat) "TreeShell$Level" "target" "LTreeShell$Text;") ∈ zt := List.mem_filter.mpr ⟨List.mem_of_getElem? (i := 308) (by decide +kernel), rfl⟩
theorem w_323 : (Jvm.Cond.fieldLink "TreeShell" (92 : Nat) "TreeShell$Runner" "nothing" "LTreeShell$Text;") ∈ zt := List.mem_filter.mpr ⟨List.mem_of_getElem? (i := 323) (by decide +kernel), rfl⟩
theorem w_452 : (Jvm.Cond.instanceMethod ({ cls := "TreeShell", name := "enter", desc := "()I" } : Jvm.MethodName)) ∈ zt := List.mem_filter.mpr ⟨List.mem_of_getElem? (i := 452) (by decide +kernel), rfl⟩
theorem w_453 : (Jvm.Cond.selects "TreeShell" ({ cls := "TreeShell", name := "enter", desc := "()I" } : Jvm.MethodName) ({ cls := "TreeShell", name := "enter", desc := "()I" } : Jvm.MethodName)) ∈ zt := List.mem_filter.mpr ⟨List.mem_of_getElem? (i := 453) (by decide +kernel), rfl⟩
theorem w_454 : (Jvm.Cond.code ({ cls := "TreeShell", name := "enter", desc := "()I" } : Jvm.MethodName) prog_1_method_7_code (2 : Nat) (Option.some Jvm.ClassFile.FieldType.int)) ∈ zt := List.mem_filter.mpr ⟨List.mem_of_getElem? (i := 454) (by decide +kernel), rfl⟩
theorem w_455 : (Jvm.Cond.methodLink "TreeShell" (86 : Nat) ({ cls := "TreeShell$Runner", name := "forget", desc := "()V" } : Jvm.MethodName)) ∈ zt := List.mem_filter.mpr ⟨List.mem_of_getElem? (i := 455) (by decide +kernel), rfl⟩
theorem w_462 : (Jvm.Cond.instanceMethod ({ cls := "TreeShell$Runner", name := "runList", desc := "(IIILTreeShell$Text;)Z" } : Jvm.MethodName)) ∈ zt := List.mem_filter.mpr ⟨List.mem_of_getElem? (i := 462) (by decide +kernel), rfl⟩
theorem w_463 : (Jvm.Cond.code ({ cls := "TreeShell$Runner", name := "runList", desc := "(IIILTreeShell$Text;)Z" } : Jvm.MethodName) prog_5_method_4_code (8 : Nat) (Option.some Jvm.ClassFile.FieldType.boolean)) ∈ zt := List.mem_filter.mpr ⟨List.mem_of_getElem? (i := 463) (by decide +kernel), rfl⟩
theorem w_464 : (Jvm.Cond.methodLink "TreeShell$Runner" (73 : Nat) ({ cls := "TreeShell$Tokens", name := "find", desc := "(IIII)I" } : Jvm.MethodName)) ∈ zt := List.mem_filter.mpr ⟨List.mem_of_getElem? (i := 464) (by decide +kernel), rfl⟩
theorem w_469 : (Jvm.Cond.methodLink "TreeShell$Runner" (77 : Nat) ({ cls := "java/lang/Math", name := "max", desc := "(II)I" } : Jvm.MethodName)) ∈ zt := List.mem_filter.mpr ⟨List.mem_of_getElem? (i := 469) (by decide +kernel), rfl⟩
theorem w_470 : (Jvm.Cond.methodLink "TreeShell$Runner" (83 : Nat) ({ cls := "TreeShell$Runner", name := "isDue", desc := "(I)Z" } : Jvm.MethodName)) ∈ zt := List.mem_filter.mpr ⟨List.mem_of_getElem? (i := 470) (by decide +kernel), rfl⟩
theorem w_474 : (Jvm.Cond.methodLink "TreeShell$Runner" (87 : Nat) ({ cls := "TreeShell$Runner", name := "runPipeline", desc := "(IIILTreeShell$Text;)Z" } : Jvm.MethodName)) ∈ zt := List.mem_filter.mpr ⟨List.mem_of_getElem? (i := 474) (by decide +kernel), rfl⟩
theorem w_476 : (Jvm.Cond.instanceMethod ({ cls := "TreeShell$Runner", name := "runPipeline", desc := "(IIILTreeShell$Text;)Z" } : Jvm.MethodName)) ∈ zt := List.mem_filter.mpr ⟨List.mem_of_getElem? (i := 476) (by decide +kernel), rfl⟩
theorem w_477 : (Jvm.Cond.code ({ cls := "TreeShell$Runner", name := "runPipeline", desc := "(IIILTreeShell$Text;)Z" } : Jvm.MethodName) prog_5_method_6_code (13 : Nat) (Option.some Jvm.ClassFile.FieldType.boolean)) ∈ zt := List.mem_filter.mpr ⟨List.mem_of_getElem? (i := 477) (by decide +kernel), rfl⟩
theorem w_478 : (Jvm.Cond.methodLink "TreeShell$Runner" (91 : Nat) ({ cls := "TreeShell$Tokens", name := "kindAt", desc := "(I)I" } : Jvm.MethodName)) ∈ zt := List.mem_filter.mpr ⟨List.mem_of_getElem? (i := 478) (by decide +kernel), rfl⟩
theorem w_479 : (Jvm.Cond.methodLink "TreeShell$Runner" (99 : Nat) ({ cls := "TreeShell$Runner", name := "runCommand", desc := "(IIILTreeShell$Text;)I" } : Jvm.MethodName)) ∈ zt := List.mem_filter.mpr ⟨List.mem_of_getElem? (i := 479) (by decide +kernel), rfl⟩
theorem w_481 : (Jvm.Cond.instanceMethod ({ cls := "TreeShell$Runner", name := "runCommand", desc := "(IIILTreeShell$Text;)I" } : Jvm.MethodName)) ∈ zt := List.mem_filter.mpr ⟨List.mem_of_getElem? (i := 481) (by decide +kernel), rfl⟩
theorem w_482 : (Jvm.Cond.code ({ cls := "TreeShell$Runner", name := "runCommand", desc := "(IIILTreeShell$Text;)I" } : Jvm.MethodName) prog_5_method_7_code (10 : Nat) (Option.some Jvm.ClassFile.FieldType.int)) ∈ zt := List.mem_filter.mpr ⟨List.mem_of_getElem? (i := 482) (by decide +kernel), rfl⟩
theorem w_483 : (Jvm.Cond.methodLink "TreeShell$Runner" (120 : Nat) ({ cls := "TreeShell$Runner", name := "redirect", desc := "(IILTreeShell$Level;)I" } : Jvm.MethodName)) ∈ zt := List.mem_filter.mpr ⟨List.mem_of_getElem? (i := 483) (by decide +kernel), rfl⟩
theorem w_485 : (Jvm.Cond.instanceMethod ({ cls := "TreeShell$Runner", name := "redirect", desc := "(IILTreeShell$Level;)I" } : Jvm.MethodName)) ∈ zt := List.mem_filter.mpr ⟨List.mem_of_getElem? (i := 485) (by decide +kernel), rfl⟩
theorem w_486 : (Jvm.Cond.code ({ cls := "TreeShell$Runner", name := "redirect", desc := "(IILTreeShell$Level;)I" } : Jvm.MethodName) prog_5_method_10_code (6 : Nat) (Option.some Jvm.ClassFile.FieldType.int)) ∈ zt := List.mem_filter.mpr ⟨List.mem_of_getElem? (i := 486) (by decide +kernel), rfl⟩
theorem w_503 : (Jvm.Cond.methodLink "TreeShell$Runner" (155 : Nat) ({ cls := "TreeShell$Tree", name := "follow", desc := "(LTreeShell$Words;I)LTreeShell$Node;" } : Jvm.MethodName)) ∈ zt := List.mem_filter.mpr ⟨List.mem_of_getElem? (i := 503) (by decide +kernel), rfl⟩
theorem w_524 : (Jvm.Cond.methodLink "TreeShell$Runner" (159 : Nat) ({ cls := "TreeShell$Runner", name := "redirectInput", desc := "(LTreeShell$Level;)I" } : Jvm.MethodName)) ∈ zt := List.mem_filter.mpr ⟨List.mem_of_getElem? (i := 524) (by decide +kernel), rfl⟩
theorem w_539 : (Jvm.Cond.methodLink "TreeShell$Runner" (163 : Nat) ({ cls := "TreeShell$Runner", name := "redirectOutput", desc := "(LTreeShell$Level;Z)I" } : Jvm.MethodName)) ∈ zt := List.mem_filter.mpr ⟨List.mem_of_getElem? (i := 539) (by decide +kernel), rfl⟩
theorem w_541 : (Jvm.Cond.instanceMethod ({ cls := "TreeShell$Runner", name := "redirectOutput", desc := "(LTreeShell$Level;Z)I" } : Jvm.MethodName)) ∈ zt := List.mem_filter.mpr ⟨List.mem_of_getElem? (i := 541) (by decide +kernel), rfl⟩
theorem w_542 : (Jvm.Cond.code ({ cls := "TreeShell$Runner", name := "redirectOutput", desc := "(LTreeShell$Level;Z)I" } : Jvm.MethodName) prog_5_method_12_code (4 : Nat) (Option.some Jvm.ClassFile.FieldType.int)) ∈ zt := List.mem_filter.mpr ⟨List.mem_of_getElem? (i := 542) (by decide +kernel), rfl⟩
theorem w_543 : (Jvm.Cond.methodLink "TreeShell$Runner" (178 : Nat) ({ cls := "TreeShell$Tree", name := "make", desc := "(Z)LTreeShell$Node;" } : Jvm.MethodName)) ∈ zt := List.mem_filter.mpr ⟨List.mem_of_getElem? (i := 543) (by decide +kernel), rfl⟩
theorem w_549 : (Jvm.Cond.methodLink "TreeShell$Runner" (182 : Nat) ({ cls := "TreeShell$Tree", name := "empty", desc := "(LTreeShell$Text;)V" } : Jvm.MethodName)) ∈ zt := List.mem_filter.mpr ⟨List.mem_of_getElem? (i := 549) (by decide +kernel), rfl⟩
theorem w_554 : (Jvm.Cond.methodLink "TreeShell$Runner" (127 : Nat) ({ cls := "TreeShell$Runner", name := "runGroup", desc := "(IIILTreeShell$Text;)I" } : Jvm.MethodName)) ∈ zt := List.mem_filter.mpr ⟨List.mem_of_getElem? (i := 554) (by decide +kernel), rfl⟩
theorem w_556 : (Jvm.Cond.instanceMethod ({ cls := "TreeShell$Runner", name := "runGroup", desc := "(IIILTreeShell$Text;)I" } : Jvm.MethodName)) ∈ zt := List.mem_filter.mpr ⟨List.mem_of_getElem? (i := 556) (by decide +kernel), rfl⟩
theorem w_557 : (Jvm.Cond.code ({ cls := "TreeShell$Runner", name := "runGroup", desc := "(IIILTreeShell$Text;)I" } : Jvm.MethodName) prog_5_method_8_code (7 : Nat) (Option.some Jvm.ClassFile.FieldType.int)) ∈ zt := List.mem_filter.mpr ⟨List.mem_of_getElem? (i := 557) (by decide +kernel), rfl⟩
theorem w_558 : (Jvm.Cond.methodLink "TreeShell$Runner" (144 : Nat) ({ cls := "TreeShell$Runner", name := "runList", desc := "(IIILTreeShell$Text;)Z" } : Jvm.MethodName)) ∈ zt := List.mem_filter.mpr ⟨List.mem_of_getElem? (i := 558) (by decide +kernel), rfl⟩
theorem w_559 : (Jvm.Cond.methodLink "TreeShell$Runner" (130 : Nat) ({ cls := "TreeShell$Runner", name := "takeWords", desc := "(II)V" } : Jvm.MethodName)) ∈ zt := List.mem_filter.mpr ⟨List.mem_of_getElem? (i := 559) (by decide +kernel), rfl⟩
theorem w_563 : (Jvm.Cond.methodLink "TreeShell$Runner" (133 : Nat) ({ cls := "TreeShell$Tools", name := "run", desc := "(LTreeShell$Text;LTreeShell$Text;)I" } : Jvm.MethodName)) ∈ zt := List.mem_filter.mpr ⟨List.mem_of_getElem? (i := 563) (by decide +kernel), rfl⟩
theorem w_564 : (Jvm.Cond.instanceMethod ({ cls := "TreeShell$Tools", name := "run", desc := "(LTreeShell$Text;LTreeShell$Text;)I" } : Jvm.MethodName)) ∈ zt := List.mem_filter.mpr ⟨List.mem_of_getElem? (i := 564) (by decide +kernel), rfl⟩
theorem w_565 : (Jvm.Cond.selects "TreeShell$Tools" ({ cls := "TreeShell$Tools", name := "run", desc := "(LTreeShell$Text;LTreeShell$Text;)I" } : Jvm.MethodName) ({ cls := "TreeShell$Tools", name := "run", desc := "(LTreeShell$Text;LTreeShell$Text;)I" } : Jvm.MethodName)) ∈ zt := List.mem_filter.mpr ⟨List.mem_of_getElem? (i := 565) (by decide +kernel), rfl⟩
theorem w_566 : (Jvm.Cond.code ({ cls := "TreeShell$Tools", name := "run", desc := "(LTreeShell$Text;LTreeShell$Text;)I" } : Jvm.MethodName) prog_8_method_2_code (3 : Nat) (Option.some Jvm.ClassFile.FieldType.int)) ∈ zt := List.mem_filter.mpr ⟨List.mem_of_getElem? (i := 566) (by decide +kernel), rfl⟩
theorem w_622 : (Jvm.Cond.methodLink "TreeShell$Tools" (27 : Nat) ({ cls := "TreeShell$Tools", name := "echo", desc := "(LTreeShell$Text;)I" } : Jvm.MethodName)) ∈ zt := List.mem_filter.mpr ⟨List.mem_of_getElem? (i := 622) (by decide +kernel), rfl⟩
theorem w_632 : (Jvm.Cond.methodLink "TreeShell$Tools" (32 : Nat) ({ cls := "TreeShell$Tools", name := "cat", desc := "(LTreeShell$Text;LTreeShell$Text;)I" } : Jvm.MethodName)) ∈ zt := List.mem_filter.mpr ⟨List.mem_of_getElem? (i := 632) (by decide +kernel), rfl⟩
theorem w_643 : (Jvm.Cond.methodLink "TreeShell$Tools" (37 : Nat) ({ cls := "TreeShell$Tools", name := "wc", desc := "(LTreeShell$Text;LTreeShell$Text;)I" } : Jvm.MethodName)) ∈ zt := List.mem_filter.mpr ⟨List.mem_of_getElem? (i := 643) (by decide +kernel), rfl⟩
theorem w_649 : (Jvm.Cond.methodLink "TreeShell$Tools" (41 : Nat) ({ cls := "TreeShell$Tools", name := "grep", desc := "(LTreeShell$Text;LTreeShell$Text;)I" } : Jvm.MethodName)) ∈ zt := List.mem_filter.mpr ⟨List.mem_of_getElem? (i := 649) (by decide +kernel), rfl⟩
theorem w_665 : (Jvm.Cond.methodLink "TreeShell$Tools" (45 : Nat) ({ cls := "TreeShell$Tools", name := "ls", desc := "(LTreeShell$Text;)I" } : Jvm.MethodName)) ∈ zt := List.mem_filter.mpr ⟨List.mem_of_getElem? (i := 665) (by decide +kernel), rfl⟩
theorem w_675 : (Jvm.Cond.methodLink "TreeShell$Tools" (49 : Nat) ({ cls := "TreeShell$Tools", name := "mkdir", desc := "()I" } : Jvm.MethodName)) ∈ zt := List.mem_filter.mpr ⟨List.mem_of_getElem? (i := 675) (by decide +kernel), rfl⟩
theorem w_677 : (Jvm.Cond.instanceMethod ({ cls := "TreeShell$Tools", name := "mkdir", desc := "()I" } : Jvm.MethodName)) ∈ zt := List.mem_filter.mpr ⟨List.mem_of_getElem? (i := 677) (by decide +kernel), rfl⟩
theorem w_678 : (Jvm.Cond.code ({ cls := "TreeShell$Tools", name := "mkdir", desc := "()I" } : Jvm.MethodName) prog_8_method_11_code (1 : Nat) (Option.some Jvm.ClassFile.FieldType.int)) ∈ zt := List.mem_filter.mpr ⟨List.mem_of_getElem? (i := 678) (by decide +kernel), rfl⟩
theorem w_679 : (Jvm.Cond.methodLink "TreeShell$Tools" (154 : Nat) ({ cls := "TreeShell$Tree", name := "make", desc := "(Z)LTreeShell$Node;" } : Jvm.MethodName)) ∈ zt := List.mem_filter.mpr ⟨List.mem_of_getElem? (i := 679) (by decide +kernel), rfl⟩
theorem w_681 : (Jvm.Cond.methodLink "TreeShell$Tools" (54 : Nat) ({ cls := "TreeShell$Tools", name := "cd", desc := "()I" } : Jvm.MethodName)) ∈ zt := List.mem_filter.mpr ⟨List.mem_of_getElem? (i := 681) (by decide +kernel), rfl⟩
theorem w_685 : (Jvm.Cond.methodLink "TreeShell$Runner" (140 : Nat) ({ cls := "TreeShell$Tree", name := "append", desc := "(LTreeShell$Text;LTreeShell$Text;)Z" } : Jvm.MethodName)) ∈ zt := List.mem_filter.mpr ⟨List.mem_of_getElem? (i := 685) (by decide +kernel), rfl⟩
theorem d_cRunner_redirectOutput_0 : decode b_cRunner_redirectOutput 0 = .ok (.aload_n 0, 1) := by decide +kernel
theorem d_cRunner_redirectOutput_1 : decode b_cRunner_redirectOutput 1 = .ok (.getfield 44, 3) := by decide +kernel
theorem d_cRunner_redirectOutput_4 : decode b_cRunner_redirectOutput 4 = .ok (.getfield 167, 3) := by decide +kernel
theorem d_cRunner_redirectOutput_7 : decode b_cRunner_redirectOutput 7 = .ok (.astore_n 3, 1) := by decide +kernel
theorem d_cRunner_redirectOutput_8 : decode b_cRunner_redirectOutput 8 = .ok (.aload_n 0, 1) := by decide +kernel
theorem d_cRunner_redirectOutput_9 : decode b_cRunner_redirectOutput 9 = .ok (.getfield 44, 3) := by decide +kernel
theorem d_cRunner_redirectOutput_12 : decode b_cRunner_redirectOutput 12 = .ok (.getfield 175, 3) := by decide +kernel
theorem d_cRunner_redirectOutput_15 : decode b_cRunner_redirectOutput 15 = .ok (.ifnull 19, 3) := by decide +kernel
theorem d_cRunner_redirectOutput_18 : decode b_cRunner_redirectOutput 18 = .ok (.aload_n 0, 1) := by decide +kernel
theorem d_cRunner_redirectOutput_19 : decode b_cRunner_redirectOutput 19 = .ok (.getfield 44, 3) := by decide +kernel
theorem d_cRunner_redirectOutput_22 : decode b_cRunner_redirectOutput 22 = .ok (.iconst 1, 1) := by decide +kernel
theorem d_cRunner_redirectOutput_23 : decode b_cRunner_redirectOutput 23 = .ok (.invokevirtual 178, 3) := by decide +kernel
theorem d_cRunner_redirectOutput_26 : decode b_cRunner_redirectOutput 26 = .ok (.astore_n 3, 1) := by decide +kernel
theorem d_cRunner_redirectOutput_27 : decode b_cRunner_redirectOutput 27 = .ok (.aload_n 3, 1) := by decide +kernel
theorem d_cRunner_redirectOutput_28 : decode b_cRunner_redirectOutput 28 = .ok (.ifnonnull 6, 3) := by decide +kernel
theorem d_cRunner_redirectOutput_31 : decode b_cRunner_redirectOutput 31 = .ok (.bipush 100, 2) := by decide +kernel
theorem d_cRunner_redirectOutput_33 : decode b_cRunner_redirectOutput 33 = .ok (.ireturn, 1) := by decide +kernel
theorem d_cRunner_redirectOutput_34 : decode b_cRunner_redirectOutput 34 = .ok (.aload_n 3, 1) := by decide +kernel
theorem d_cRunner_redirectOutput_35 : decode b_cRunner_redirectOutput 35 = .ok (.ifnull 10, 3) := by decide +kernel
theorem d_cRunner_redirectOutput_38 : decode b_cRunner_redirectOutput 38 = .ok (.aload_n 3, 1) := by decide +kernel
theorem d_cRunner_redirectOutput_39 : decode b_cRunner_redirectOutput 39 = .ok (.getfield 170, 3) := by decide +kernel
theorem d_cRunner_redirectOutput_42 : decode b_cRunner_redirectOutput 42 = .ok (.ifnonnull 5, 3) := by decide +kernel
theorem d_cRunner_redirectOutput_45 : decode b_cRunner_redirectOutput 45 = .ok (.iconst 1, 1) := by decide +kernel
theorem d_cRunner_redirectOutput_46 : decode b_cRunner_redirectOutput 46 = .ok (.ireturn, 1) := by decide +kernel
theorem d_cRunner_redirectOutput_47 : decode b_cRunner_redirectOutput 47 = .ok (.iload_n 2, 1) := by decide +kernel
theorem d_cRunner_redirectOutput_48 : decode b_cRunner_redirectOutput 48 = .ok (.ifCond .eq 14, 3) := by decide +kernel
theorem d_cRunner_redirectOutput_51 : decode b_cRunner_redirectOutput 51 = .ok (.aload_n 0, 1) := by decide +kernel
theorem d_cRunner_redirectOutput_52 : decode b_cRunner_redirectOutput 52 = .ok (.getfield 44, 3) := by decide +kernel
theorem d_cRunner_redirectOutput_55 : decode b_cRunner_redirectOutput 55 = .ok (.aload_n 3, 1) := by decide +kernel
theorem d_cRunner_redirectOutput_56 : decode b_cRunner_redirectOutput 56 = .ok (.getfield 170, 3) := by decide +kernel
theorem d_cRunner_redirectOutput_59 : decode b_cRunner_redirectOutput 59 = .ok (.invokevirtual 182, 3) := by decide +kernel
theorem d_cRunner_redirectOutput_62 : decode b_cRunner_redirectOutput 62 = .ok (.aload_n 1, 1) := by decide +kernel
theorem d_cRunner_redirectOutput_63 : decode b_cRunner_redirectOutput 63 = .ok (.aload_n 3, 1) := by decide +kernel
theorem d_cRunner_redirectOutput_64 : decode b_cRunner_redirectOutput 64 = .ok (.getfield 170, 3) := by decide +kernel
theorem d_cRunner_redirectOutput_67 : decode b_cRunner_redirectOutput 67 = .ok (.putfield 117, 3) := by decide +kernel
theorem d_cRunner_redirectOutput_70 : decode b_cRunner_redirectOutput 70 = .ok (.iconst 0, 1) := by decide +kernel
theorem d_cRunner_redirectOutput_71 : decode b_cRunner_redirectOutput 71 = .ok (.ireturn, 1) := by decide +kernel
theorem cw_cRunner_redirectOutput {mc ms : Nat} {R : Room} {s : State} {args : Array Value} {own : String} {ix : Nat} (hts : ∀ w ∈ zt, w.before args s = true) (hl : (Cond.methodLink own ix y_cRunner_redirectOutput).before args s = true) (h1 : 8 ≤ R.frames) (h2 : 215 ≤ R.locals) : CallW R s args own "TreeShell$Runner" ix y_cRunner_redirectOutput b_cRunner_redirectOutput 4 (some .int) (.code y_cRunner_redirectOutput b_cRunner_redirectOutput 4 (some .int) :: zt) { frames := 7, cells := mc, slots := ms, locals := 192 } mc ms 2 := ⟨callB_of 2 hts (zgood w_542) rfl rfl rfl (hts _ w_75) hl ⟨by decide, by decide, by decide +kernel⟩ ⟨h1, h2⟩, hts _ w_541, hts _ w_15⟩
theorem d_cRunner_redirect_0 : decode b_cRunner_redirect 0 = .ok (.iconst 0, 1) := by decide +kernel
theorem d_cRunner_redirect_1 : decode b_cRunner_redirect 1 = .ok (.istore 4, 2) := by decide +kernel
theorem d_cRunner_redirect_3 : decode b_cRunner_redirect 3 = .ok (.iload_n 1, 1) := by decide +kernel
theorem d_cRunner_redirect_4 : decode b_cRunner_redirect 4 = .ok (.istore 5, 2) := by decide +kernel
theorem d_cRunner_redirect_6 : decode b_cRunner_redirect 6 = .ok (.iload 5, 2) := by decide +kernel
theorem d_cRunner_redirect_8 : decode b_cRunner_redirect 8 = .ok (.iload_n 2, 1) := by decide +kernel
theorem d_cRunner_redirect_9 : decode b_cRunner_redirect 9 = .ok (.if_icmp .ge 113, 3) := by decide +kernel
theorem d_cRunner_redirect_12 : decode b_cRunner_redirect 12 = .ok (.iload 4, 2) := by decide +kernel
theorem d_cRunner_redirect_14 : decode b_cRunner_redirect 14 = .ok (.ifCond .ne 108, 3) := by decide +kernel
theorem d_cRunner_redirect_17 : decode b_cRunner_redirect 17 = .ok (.aload_n 0, 1) := by decide +kernel
theorem d_cRunner_redirect_18 : decode b_cRunner_redirect 18 = .ok (.getfield 40, 3) := by decide +kernel
theorem d_cRunner_redirect_21 : decode b_cRunner_redirect 21 = .ok (.iload 5, 2) := by decide +kernel
theorem d_cRunner_redirect_23 : decode b_cRunner_redirect 23 = .ok (.invokevirtual 148, 3) := by decide +kernel
theorem d_cRunner_redirect_26 : decode b_cRunner_redirect 26 = .ok (.ifCond .eq 90, 3) := by decide +kernel
theorem d_cRunner_redirect_29 : decode b_cRunner_redirect 29 = .ok (.aload_n 0, 1) := by decide +kernel
theorem d_cRunner_redirect_30 : decode b_cRunner_redirect 30 = .ok (.getfield 23, 3) := by decide +kernel
theorem d_cRunner_redirect_33 : decode b_cRunner_redirect 33 = .ok (.invokevirtual 147, 3) := by decide +kernel
theorem d_cRunner_redirect_36 : decode b_cRunner_redirect 36 = .ok (.aload_n 0, 1) := by decide +kernel
theorem d_cRunner_redirect_37 : decode b_cRunner_redirect 37 = .ok (.getfield 23, 3) := by decide +kernel
theorem d_cRunner_redirect_40 : decode b_cRunner_redirect 40 = .ok (.aload_n 0, 1) := by decide +kernel
theorem d_cRunner_redirect_41 : decode b_cRunner_redirect 41 = .ok (.getfield 40, 3) := by decide +kernel
theorem d_cRunner_redirect_44 : decode b_cRunner_redirect 44 = .ok (.iload 5, 2) := by decide +kernel
theorem d_cRunner_redirect_46 : decode b_cRunner_redirect 46 = .ok (.iconst 1, 1) := by decide +kernel
theorem d_cRunner_redirect_47 : decode b_cRunner_redirect 47 = .ok (.iadd, 1) := by decide +kernel
theorem d_cRunner_redirect_48 : decode b_cRunner_redirect 48 = .ok (.aload_n 0, 1) := by decide +kernel
theorem d_cRunner_redirect_49 : decode b_cRunner_redirect 49 = .ok (.getfield 33, 3) := by decide +kernel
theorem d_cRunner_redirect_52 : decode b_cRunner_redirect 52 = .ok (.invokevirtual 151, 3) := by decide +kernel
theorem d_cRunner_redirect_55 : decode b_cRunner_redirect 55 = .ok (.aload_n 0, 1) := by decide +kernel
theorem d_cRunner_redirect_56 : decode b_cRunner_redirect 56 = .ok (.getfield 44, 3) := by decide +kernel
theorem d_cRunner_redirect_59 : decode b_cRunner_redirect 59 = .ok (.aload_n 0, 1) := by decide +kernel
theorem d_cRunner_redirect_60 : decode b_cRunner_redirect 60 = .ok (.getfield 23, 3) := by decide +kernel
theorem d_cRunner_redirect_63 : decode b_cRunner_redirect 63 = .ok (.iconst 0, 1) := by decide +kernel
theorem d_cRunner_redirect_64 : decode b_cRunner_redirect 64 = .ok (.invokevirtual 155, 3) := by decide +kernel
theorem d_cRunner_redirect_67 : decode b_cRunner_redirect 67 = .ok (.pop, 1) := by decide +kernel
theorem d_cRunner_redirect_68 : decode b_cRunner_redirect 68 = .ok (.aload_n 0, 1) := by decide +kernel
theorem d_cRunner_redirect_69 : decode b_cRunner_redirect 69 = .ok (.getfield 40, 3) := by decide +kernel
theorem d_cRunner_redirect_72 : decode b_cRunner_redirect 72 = .ok (.iload 5, 2) := by decide +kernel
theorem d_cRunner_redirect_74 : decode b_cRunner_redirect 74 = .ok (.invokevirtual 91, 3) := by decide +kernel
theorem d_cRunner_redirect_77 : decode b_cRunner_redirect 77 = .ok (.bipush 7, 2) := by decide +kernel
theorem d_cRunner_redirect_79 : decode b_cRunner_redirect 79 = .ok (.if_icmp .ne 11, 3) := by decide +kernel
theorem d_cRunner_redirect_82 : decode b_cRunner_redirect 82 = .ok (.aload_n 0, 1) := by decide +kernel
theorem d_cRunner_redirect_83 : decode b_cRunner_redirect 83 = .ok (.aload_n 3, 1) := by decide +kernel
theorem d_cRunner_redirect_84 : decode b_cRunner_redirect 84 = .ok (.invokevirtual 159, 3) := by decide +kernel
theorem d_cRunner_redirect_87 : decode b_cRunner_redirect 87 = .ok (.goto 27, 3) := by decide +kernel
theorem d_cRunner_redirect_90 : decode b_cRunner_redirect 90 = .ok (.aload_n 0, 1) := by decide +kernel
theorem d_cRunner_redirect_91 : decode b_cRunner_redirect 91 = .ok (.aload_n 3, 1) := by decide +kernel
theorem d_cRunner_redirect_92 : decode b_cRunner_redirect 92 = .ok (.aload_n 0, 1) := by decide +kernel
theorem d_cRunner_redirect_93 : decode b_cRunner_redirect 93 = .ok (.getfield 40, 3) := by decide +kernel
theorem d_cRunner_redirect_96 : decode b_cRunner_redirect 96 = .ok (.iload 5, 2) := by decide +kernel
theorem d_cRunner_redirect_98 : decode b_cRunner_redirect 98 = .ok (.invokevirtual 91, 3) := by decide +kernel
theorem d_cRunner_redirect_101 : decode b_cRunner_redirect 101 = .ok (.bipush 8, 2) := by decide +kernel
theorem d_cRunner_redirect_103 : decode b_cRunner_redirect 103 = .ok (.if_icmp .ne 7, 3) := by decide +kernel
theorem d_cRunner_redirect_106 : decode b_cRunner_redirect 106 = .ok (.iconst 1, 1) := by decide +kernel
theorem d_cRunner_redirect_107 : decode b_cRunner_redirect 107 = .ok (.goto 4, 3) := by decide +kernel
theorem d_cRunner_redirect_110 : decode b_cRunner_redirect 110 = .ok (.iconst 0, 1) := by decide +kernel
theorem d_cRunner_redirect_111 : decode b_cRunner_redirect 111 = .ok (.invokevirtual 163, 3) := by decide +kernel
theorem d_cRunner_redirect_114 : decode b_cRunner_redirect 114 = .ok (.istore 4, 2) := by decide +kernel
theorem d_cRunner_redirect_116 : decode b_cRunner_redirect 116 = .ok (.iinc 5 1, 3) := by decide +kernel
theorem d_cRunner_redirect_119 : decode b_cRunner_redirect 119 = .ok (.goto (-113), 3) := by decide +kernel
theorem d_cRunner_redirect_122 : decode b_cRunner_redirect 122 = .ok (.iload 4, 2) := by decide +kernel
theorem d_cRunner_redirect_124 : decode b_cRunner_redirect 124 = .ok (.ireturn, 1) := by decide +kernel
theorem cw_cRunner_redirect {mc ms : Nat} {R : Room} {s : State} {args : Array Value} {own : String} {ix : Nat} (hts : ∀ w ∈ zt, w.before args s = true) (hl : (Cond.methodLink own ix y_cRunner_redirect).before args s = true) (h1 : 9 ≤ R.frames) (h2 : 240 ≤ R.locals) : CallW R s args own "TreeShell$Runner" ix y_cRunner_redirect b_cRunner_redirect 6 (some .int) (.code y_cRunner_redirect b_cRunner_redirect 6 (some .int) :: zt) { frames := 8, cells := mc, slots := ms, locals := 215 } mc ms 3 := ⟨callB_of 3 hts (zgood w_486) rfl rfl rfl (hts _ w_75) hl ⟨by decide, by decide, by decide +kernel⟩ ⟨h1, h2⟩, hts _ w_485, hts _ w_12⟩
theorem d_cRunner_runGroup_0 : decode b_cRunner_runGroup 0 = .ok (.aload_n 0, 1) := by decide +kernel
theorem d_cRunner_runGroup_1 : decode b_cRunner_runGroup 1 = .ok (.getfield 44, 3) := by decide +kernel
theorem d_cRunner_runGroup_4 : decode b_cRunner_runGroup 4 = .ok (.getfield 95, 3) := by decide +kernel
theorem d_cRunner_runGroup_7 : decode b_cRunner_runGroup 7 = .ok (.astore 5, 2) := by decide +kernel
theorem d_cRunner_runGroup_9 : decode b_cRunner_runGroup 9 = .ok (.aload_n 0, 1) := by decide +kernel
theorem d_cRunner_runGroup_10 : decode b_cRunner_runGroup 10 = .ok (.iload_n 1, 1) := by decide +kernel
theorem d_cRunner_runGroup_11 : decode b_cRunner_runGroup 11 = .ok (.iload_n 2, 1) := by decide +kernel
theorem d_cRunner_runGroup_12 : decode b_cRunner_runGroup 12 = .ok (.iload_n 3, 1) := by decide +kernel
theorem d_cRunner_runGroup_13 : decode b_cRunner_runGroup 13 = .ok (.iconst 1, 1) := by decide +kernel
theorem d_cRunner_runGroup_14 : decode b_cRunner_runGroup 14 = .ok (.iadd, 1) := by decide +kernel
theorem d_cRunner_runGroup_15 : decode b_cRunner_runGroup 15 = .ok (.aload 4, 2) := by decide +kernel
theorem d_cRunner_runGroup_17 : decode b_cRunner_runGroup 17 = .ok (.invokevirtual 144, 3) := by decide +kernel
theorem d_cRunner_runGroup_20 : decode b_cRunner_runGroup 20 = .ok (.istore 6, 2) := by decide +kernel
theorem d_cRunner_runGroup_22 : decode b_cRunner_runGroup 22 = .ok (.aload_n 0, 1) := by decide +kernel
theorem d_cRunner_runGroup_23 : decode b_cRunner_runGroup 23 = .ok (.getfield 44, 3) := by decide +kernel
theorem d_cRunner_runGroup_26 : decode b_cRunner_runGroup 26 = .ok (.aload 5, 2) := by decide +kernel
theorem d_cRunner_runGroup_28 : decode b_cRunner_runGroup 28 = .ok (.putfield 95, 3) := by decide +kernel
theorem d_cRunner_runGroup_31 : decode b_cRunner_runGroup 31 = .ok (.iload 6, 2) := by decide +kernel
theorem d_cRunner_runGroup_33 : decode b_cRunner_runGroup 33 = .ok (.ifCond .ne 6, 3) := by decide +kernel
theorem d_cRunner_runGroup_36 : decode b_cRunner_runGroup 36 = .ok (.bipush 100, 2) := by decide +kernel
theorem d_cRunner_runGroup_38 : decode b_cRunner_runGroup 38 = .ok (.ireturn, 1) := by decide +kernel
theorem d_cRunner_runGroup_39 : decode b_cRunner_runGroup 39 = .ok (.aload_n 0, 1) := by decide +kernel
theorem d_cRunner_runGroup_40 : decode b_cRunner_runGroup 40 = .ok (.getfield 29, 3) := by decide +kernel
theorem d_cRunner_runGroup_43 : decode b_cRunner_runGroup 43 = .ok (.iload_n 3, 1) := by decide +kernel
theorem d_cRunner_runGroup_44 : decode b_cRunner_runGroup 44 = .ok (.aaload, 1) := by decide +kernel
theorem d_cRunner_runGroup_45 : decode b_cRunner_runGroup 45 = .ok (.getfield 106, 3) := by decide +kernel
theorem d_cRunner_runGroup_48 : decode b_cRunner_runGroup 48 = .ok (.aload_n 0, 1) := by decide +kernel
theorem d_cRunner_runGroup_49 : decode b_cRunner_runGroup 49 = .ok (.getfield 29, 3) := by decide +kernel
theorem d_cRunner_runGroup_52 : decode b_cRunner_runGroup 52 = .ok (.iload_n 3, 1) := by decide +kernel
theorem d_cRunner_runGroup_53 : decode b_cRunner_runGroup 53 = .ok (.iconst 1, 1) := by decide +kernel
theorem d_cRunner_runGroup_54 : decode b_cRunner_runGroup 54 = .ok (.iadd, 1) := by decide +kernel
theorem d_cRunner_runGroup_55 : decode b_cRunner_runGroup 55 = .ok (.aaload, 1) := by decide +kernel
theorem d_cRunner_runGroup_56 : decode b_cRunner_runGroup 56 = .ok (.getfield 65, 3) := by decide +kernel
theorem d_cRunner_runGroup_59 : decode b_cRunner_runGroup 59 = .ok (.invokevirtual 109, 3) := by decide +kernel
theorem d_cRunner_runGroup_62 : decode b_cRunner_runGroup 62 = .ok (.pop, 1) := by decide +kernel
theorem d_cRunner_runGroup_63 : decode b_cRunner_runGroup 63 = .ok (.aload_n 0, 1) := by decide +kernel
theorem d_cRunner_runGroup_64 : decode b_cRunner_runGroup 64 = .ok (.getfield 33, 3) := by decide +kernel
theorem d_cRunner_runGroup_67 : decode b_cRunner_runGroup 67 = .ok (.ireturn, 1) := by decide +kernel
theorem cw_cRunner_runGroup {fr lo : Nat} {mc ms : Nat} {R : Room} {s : State} {args : Array Value} {own : String} {ix : Nat} (hts : ∀ w ∈ zt, w.before args s = true) (hl : (Cond.methodLink own ix y_cRunner_runGroup).before args s = true) (h1 : fr + 7 + 1 ≤ R.frames) (h2 : 8 + (7 + 11) + (lo + 190) ≤ R.locals) : CallW R s args own "TreeShell$Runner" ix y_cRunner_runGroup b_cRunner_runGroup 7 (some .int) (.code y_cRunner_runGroup b_cRunner_runGroup 7 (some .int) :: zt) { frames := fr + 7, cells := mc, slots := ms, locals := lo + 190 } mc ms 4 := ⟨callB_of 4 hts (zgood w_557) rfl rfl rfl (hts _ w_75) hl ⟨by decide, by decide, by decide +kernel⟩ ⟨h1, h2⟩, hts _ w_556, hts _ w_16⟩
theorem d_cTools_mkdir_0 : decode b_cTools_mkdir 0 = .ok (.aload_n 0, 1) := by decide +kernel
theorem d_cTools_mkdir_1 : decode b_cTools_mkdir 1 = .ok (.getfield 9, 3) := by decide +kernel
theorem d_cTools_mkdir_4 : decode b_cTools_mkdir 4 = .ok (.getfield 58, 3) := by decide +kernel
theorem d_cTools_mkdir_7 : decode b_cTools_mkdir 7 = .ok (.iconst 2, 1) := by decide +kernel
theorem d_cTools_mkdir_8 : decode b_cTools_mkdir 8 = .ok (.if_icmp .eq 5, 3) := by decide +kernel
theorem d_cTools_mkdir_11 : decode b_cTools_mkdir 11 = .ok (.iconst 2, 1) := by decide +kernel
theorem d_cTools_mkdir_12 : decode b_cTools_mkdir 12 = .ok (.ireturn, 1) := by decide +kernel
theorem d_cTools_mkdir_13 : decode b_cTools_mkdir 13 = .ok (.aload_n 0, 1) := by decide +kernel
theorem d_cTools_mkdir_14 : decode b_cTools_mkdir 14 = .ok (.getfield 15, 3) := by decide +kernel
theorem d_cTools_mkdir_17 : decode b_cTools_mkdir 17 = .ok (.aload_n 0, 1) := by decide +kernel
theorem d_cTools_mkdir_18 : decode b_cTools_mkdir 18 = .ok (.getfield 9, 3) := by decide +kernel
theorem d_cTools_mkdir_21 : decode b_cTools_mkdir 21 = .ok (.iconst 1, 1) := by decide +kernel
theorem d_cTools_mkdir_22 : decode b_cTools_mkdir 22 = .ok (.invokevirtual 90, 3) := by decide +kernel
theorem d_cTools_mkdir_25 : decode b_cTools_mkdir 25 = .ok (.pop, 1) := by decide +kernel
theorem d_cTools_mkdir_26 : decode b_cTools_mkdir 26 = .ok (.aload_n 0, 1) := by decide +kernel
theorem d_cTools_mkdir_27 : decode b_cTools_mkdir 27 = .ok (.getfield 15, 3) := by decide +kernel
theorem d_cTools_mkdir_30 : decode b_cTools_mkdir 30 = .ok (.getfield 151, 3) := by decide +kernel
theorem d_cTools_mkdir_33 : decode b_cTools_mkdir 33 = .ok (.ifnonnull 5, 3) := by decide +kernel
theorem d_cTools_mkdir_36 : decode b_cTools_mkdir 36 = .ok (.iconst 1, 1) := by decide +kernel
theorem d_cTools_mkdir_37 : decode b_cTools_mkdir 37 = .ok (.ireturn, 1) := by decide +kernel
theorem d_cTools_mkdir_38 : decode b_cTools_mkdir 38 = .ok (.aload_n 0, 1) := by decide +kernel
theorem d_cTools_mkdir_39 : decode b_cTools_mkdir 39 = .ok (.getfield 15, 3) := by decide +kernel
theorem d_cTools_mkdir_42 : decode b_cTools_mkdir 42 = .ok (.iconst 0, 1) := by decide +kernel
theorem d_cTools_mkdir_43 : decode b_cTools_mkdir 43 = .ok (.invokevirtual 154, 3) := by decide +kernel
theorem d_cTools_mkdir_46 : decode b_cTools_mkdir 46 = .ok (.ifnonnull 8, 3) := by decide +kernel
theorem d_cTools_mkdir_49 : decode b_cTools_mkdir 49 = .ok (.bipush 100, 2) := by decide +kernel
theorem d_cTools_mkdir_51 : decode b_cTools_mkdir 51 = .ok (.goto 4, 3) := by decide +kernel
theorem d_cTools_mkdir_54 : decode b_cTools_mkdir 54 = .ok (.iconst 0, 1) := by decide +kernel
theorem d_cTools_mkdir_55 : decode b_cTools_mkdir 55 = .ok (.ireturn, 1) := by decide +kernel
theorem cw_cTools_mkdir {mc ms : Nat} {R : Room} {s : State} {args : Array Value} {own : String} {ix : Nat} (hts : ∀ w ∈ zt, w.before args s = true) (hl : (Cond.methodLink own ix y_cTools_mkdir).before args s = true) (h1 : 8 ≤ R.frames) (h2 : 212 ≤ R.locals) : CallW R s args own "TreeShell$Tools" ix y_cTools_mkdir b_cTools_mkdir 1 (some .int) (.code y_cTools_mkdir b_cTools_mkdir 1 (some .int) :: zt) { frames := 7, cells := mc, slots := ms, locals := 192 } mc ms 0 := ⟨callB_of 0 hts (zgood w_678) rfl rfl rfl (hts _ w_77) hl ⟨by decide, by decide, by decide +kernel⟩ ⟨h1, h2⟩, hts _ w_677, hts _ w_25⟩
theorem d_cTools_run_0 : decode b_cTools_run 0 = .ok (.aload_n 0, 1) := by decide +kernel
theorem d_cTools_run_1 : decode b_cTools_run 1 = .ok (.getfield 9, 3) := by decide +kernel
theorem d_cTools_run_4 : decode b_cTools_run 4 = .ok (.iconst 0, 1) := by decide +kernel
theorem d_cTools_run_5 : decode b_cTools_run 5 = .ok (.ldc 19, 2) := by decide +kernel
theorem d_cTools_run_7 : decode b_cTools_run 7 = .ok (.invokevirtual 21, 3) := by decide +kernel
theorem d_cTools_run_10 : decode b_cTools_run 10 = .ok (.ifCond .eq 9, 3) := by decide +kernel
theorem d_cTools_run_13 : decode b_cTools_run 13 = .ok (.aload_n 0, 1) := by decide +kernel
theorem d_cTools_run_14 : decode b_cTools_run 14 = .ok (.aload_n 2, 1) := by decide +kernel
theorem d_cTools_run_15 : decode b_cTools_run 15 = .ok (.invokevirtual 27, 3) := by decide +kernel
theorem d_cTools_run_18 : decode b_cTools_run 18 = .ok (.ireturn, 1) := by decide +kernel
theorem d_cTools_run_19 : decode b_cTools_run 19 = .ok (.aload_n 0, 1) := by decide +kernel
theorem d_cTools_run_20 : decode b_cTools_run 20 = .ok (.getfield 9, 3) := by decide +kernel
theorem d_cTools_run_23 : decode b_cTools_run 23 = .ok (.iconst 0, 1) := by decide +kernel
theorem d_cTools_run_24 : decode b_cTools_run 24 = .ok (.ldc 30, 2) := by decide +kernel
theorem d_cTools_run_26 : decode b_cTools_run 26 = .ok (.invokevirtual 21, 3) := by decide +kernel
theorem d_cTools_run_29 : decode b_cTools_run 29 = .ok (.ifCond .eq 10, 3) := by decide +kernel
theorem d_cTools_run_32 : decode b_cTools_run 32 = .ok (.aload_n 0, 1) := by decide +kernel
theorem d_cTools_run_33 : decode b_cTools_run 33 = .ok (.aload_n 1, 1) := by decide +kernel
theorem d_cTools_run_34 : decode b_cTools_run 34 = .ok (.aload_n 2, 1) := by decide +kernel
theorem d_cTools_run_35 : decode b_cTools_run 35 = .ok (.invokevirtual 32, 3) := by decide +kernel
theorem d_cTools_run_38 : decode b_cTools_run 38 = .ok (.ireturn, 1) := by decide +kernel
theorem d_cTools_run_39 : decode b_cTools_run 39 = .ok (.aload_n 0, 1) := by decide +kernel
theorem d_cTools_run_40 : decode b_cTools_run 40 = .ok (.getfield 9, 3) := by decide +kernel
theorem d_cTools_run_43 : decode b_cTools_run 43 = .ok (.iconst 0, 1) := by decide +kernel
theorem d_cTools_run_44 : decode b_cTools_run 44 = .ok (.ldc 35, 2) := by decide +kernel
theorem d_cTools_run_46 : decode b_cTools_run 46 = .ok (.invokevirtual 21, 3) := by decide +kernel
theorem d_cTools_run_49 : decode b_cTools_run 49 = .ok (.ifCond .eq 10, 3) := by decide +kernel
theorem d_cTools_run_52 : decode b_cTools_run 52 = .ok (.aload_n 0, 1) := by decide +kernel
theorem d_cTools_run_53 : decode b_cTools_run 53 = .ok (.aload_n 1, 1) := by decide +kernel
theorem d_cTools_run_54 : decode b_cTools_run 54 = .ok (.aload_n 2, 1) := by decide +kernel
theorem d_cTools_run_55 : decode b_cTools_run 55 = .ok (.invokevirtual 37, 3) := by decide +kernel
theorem d_cTools_run_58 : decode b_cTools_run 58 = .ok (.ireturn, 1) := by decide +kernel
theorem d_cTools_run_59 : decode b_cTools_run 59 = .ok (.aload_n 0, 1) := by decide +kernel
theorem d_cTools_run_60 : decode b_cTools_run 60 = .ok (.getfield 9, 3) := by decide +kernel
theorem d_cTools_run_63 : decode b_cTools_run 63 = .ok (.iconst 0, 1) := by decide +kernel
theorem d_cTools_run_64 : decode b_cTools_run 64 = .ok (.ldc 39, 2) := by decide +kernel
theorem d_cTools_run_66 : decode b_cTools_run 66 = .ok (.invokevirtual 21, 3) := by decide +kernel
theorem d_cTools_run_69 : decode b_cTools_run 69 = .ok (.ifCond .eq 10, 3) := by decide +kernel
theorem d_cTools_run_72 : decode b_cTools_run 72 = .ok (.aload_n 0, 1) := by decide +kernel
theorem d_cTools_run_73 : decode b_cTools_run 73 = .ok (.aload_n 1, 1) := by decide +kernel
theorem d_cTools_run_74 : decode b_cTools_run 74 = .ok (.aload_n 2, 1) := by decide +kernel
theorem d_cTools_run_75 : decode b_cTools_run 75 = .ok (.invokevirtual 41, 3) := by decide +kernel
theorem d_cTools_run_78 : decode b_cTools_run 78 = .ok (.ireturn, 1) := by decide +kernel
theorem d_cTools_run_79 : decode b_cTools_run 79 = .ok (.aload_n 0, 1) := by decide +kernel
theorem d_cTools_run_80 : decode b_cTools_run 80 = .ok (.getfield 9, 3) := by decide +kernel
theorem d_cTools_run_83 : decode b_cTools_run 83 = .ok (.iconst 0, 1) := by decide +kernel
theorem d_cTools_run_84 : decode b_cTools_run 84 = .ok (.ldc 43, 2) := by decide +kernel
theorem d_cTools_run_86 : decode b_cTools_run 86 = .ok (.invokevirtual 21, 3) := by decide +kernel
theorem d_cTools_run_89 : decode b_cTools_run 89 = .ok (.ifCond .eq 9, 3) := by decide +kernel
theorem d_cTools_run_92 : decode b_cTools_run 92 = .ok (.aload_n 0, 1) := by decide +kernel
theorem d_cTools_run_93 : decode b_cTools_run 93 = .ok (.aload_n 2, 1) := by decide +kernel
theorem d_cTools_run_94 : decode b_cTools_run 94 = .ok (.invokevirtual 45, 3) := by decide +kernel
theorem d_cTools_run_97 : decode b_cTools_run 97 = .ok (.ireturn, 1) := by decide +kernel
theorem d_cTools_run_98 : decode b_cTools_run 98 = .ok (.aload_n 0, 1) := by decide +kernel
theorem d_cTools_run_99 : decode b_cTools_run 99 = .ok (.getfield 9, 3) := by decide +kernel
theorem d_cTools_run_102 : decode b_cTools_run 102 = .ok (.iconst 0, 1) := by decide +kernel
theorem d_cTools_run_103 : decode b_cTools_run 103 = .ok (.ldc 47, 2) := by decide +kernel
theorem d_cTools_run_105 : decode b_cTools_run 105 = .ok (.invokevirtual 21, 3) := by decide +kernel
theorem d_cTools_run_108 : decode b_cTools_run 108 = .ok (.ifCond .eq 8, 3) := by decide +kernel
theorem d_cTools_run_111 : decode b_cTools_run 111 = .ok (.aload_n 0, 1) := by decide +kernel
theorem d_cTools_run_112 : decode b_cTools_run 112 = .ok (.invokevirtual 49, 3) := by decide +kernel
theorem d_cTools_run_115 : decode b_cTools_run 115 = .ok (.ireturn, 1) := by decide +kernel
theorem d_cTools_run_116 : decode b_cTools_run 116 = .ok (.aload_n 0, 1) := by decide +kernel
theorem d_cTools_run_117 : decode b_cTools_run 117 = .ok (.getfield 9, 3) := by decide +kernel
theorem d_cTools_run_120 : decode b_cTools_run 120 = .ok (.iconst 0, 1) := by decide +kernel
theorem d_cTools_run_121 : decode b_cTools_run 121 = .ok (.ldc 52, 2) := by decide +kernel
theorem d_cTools_run_123 : decode b_cTools_run 123 = .ok (.invokevirtual 21, 3) := by decide +kernel
theorem d_cTools_run_126 : decode b_cTools_run 126 = .ok (.ifCond .eq 10, 3) := by decide +kernel
theorem d_cTools_run_129 : decode b_cTools_run 129 = .ok (.aload_n 0, 1) := by decide +kernel
theorem d_cTools_run_130 : decode b_cTools_run 130 = .ok (.invokevirtual 54, 3) := by decide +kernel
theorem d_cTools_run_133 : decode b_cTools_run 133 = .ok (.goto 5, 3) := by decide +kernel
theorem d_cTools_run_136 : decode b_cTools_run 136 = .ok (.bipush 127, 2) := by decide +kernel
theorem d_cTools_run_138 : decode b_cTools_run 138 = .ok (.ireturn, 1) := by decide +kernel
theorem cw_cTools_run {mc ms : Nat} {R : Room} {s : State} {args : Array Value} {own : String} {ix : Nat} (hts : ∀ w ∈ zt, w.before args s = true) (hl : (Cond.methodLink own ix y_cTools_run).before args s = true) (h1 : 9 ≤ R.frames) (h2 : 236 ≤ R.locals) : CallW R s args own "TreeShell$Tools" ix y_cTools_run b_cTools_run 3 (some .int) (.code y_cTools_run b_cTools_run 3 (some .int) :: zt) { frames := 8, cells := mc, slots := ms, locals := 214 } mc ms 2 := ⟨callB_of 2 hts (zgood w_566) rfl rfl rfl (hts _ w_77) hl ⟨by decide, by decide, by decide +kernel⟩ ⟨h1, h2⟩, hts _ w_564, hts _ w_565⟩
theorem d_cRunner_runCommand_0 : decode b_cRunner_runCommand 0 = .ok (.aload_n 0, 1) := by decide +kernel
theorem d_cRunner_runCommand_1 : decode b_cRunner_runCommand 1 = .ok (.getfield 29, 3) := by decide +kernel
theorem d_cRunner_runCommand_4 : decode b_cRunner_runCommand 4 = .ok (.iload_n 3, 1) := by decide +kernel
theorem d_cRunner_runCommand_5 : decode b_cRunner_runCommand 5 = .ok (.aaload, 1) := by decide +kernel
theorem d_cRunner_runCommand_6 : decode b_cRunner_runCommand 6 = .ok (.astore 5, 2) := by decide +kernel
theorem d_cRunner_runCommand_8 : decode b_cRunner_runCommand 8 = .ok (.aload 5, 2) := by decide +kernel
theorem d_cRunner_runCommand_10 : decode b_cRunner_runCommand 10 = .ok (.getfield 106, 3) := by decide +kernel
theorem d_cRunner_runCommand_13 : decode b_cRunner_runCommand 13 = .ok (.invokevirtual 68, 3) := by decide +kernel
theorem d_cRunner_runCommand_16 : decode b_cRunner_runCommand 16 = .ok (.aload 5, 2) := by decide +kernel
theorem d_cRunner_runCommand_18 : decode b_cRunner_runCommand 18 = .ok (.iconst 0, 1) := by decide +kernel
theorem d_cRunner_runCommand_19 : decode b_cRunner_runCommand 19 = .ok (.putfield 113, 3) := by decide +kernel
theorem d_cRunner_runCommand_22 : decode b_cRunner_runCommand 22 = .ok (.aload 5, 2) := by decide +kernel
theorem d_cRunner_runCommand_24 : decode b_cRunner_runCommand 24 = .ok (.aconst_null, 1) := by decide +kernel
theorem d_cRunner_runCommand_25 : decode b_cRunner_runCommand 25 = .ok (.putfield 117, 3) := by decide +kernel
theorem d_cRunner_runCommand_28 : decode b_cRunner_runCommand 28 = .ok (.aload_n 0, 1) := by decide +kernel
theorem d_cRunner_runCommand_29 : decode b_cRunner_runCommand 29 = .ok (.getfield 40, 3) := by decide +kernel
theorem d_cRunner_runCommand_32 : decode b_cRunner_runCommand 32 = .ok (.iload_n 1, 1) := by decide +kernel
theorem d_cRunner_runCommand_33 : decode b_cRunner_runCommand 33 = .ok (.invokevirtual 91, 3) := by decide +kernel
theorem d_cRunner_runCommand_36 : decode b_cRunner_runCommand 36 = .ok (.iconst 5, 1) := by decide +kernel
theorem d_cRunner_runCommand_37 : decode b_cRunner_runCommand 37 = .ok (.if_icmp .ne 7, 3) := by decide +kernel
theorem d_cRunner_runCommand_40 : decode b_cRunner_runCommand 40 = .ok (.iconst 1, 1) := by decide +kernel
theorem d_cRunner_runCommand_41 : decode b_cRunner_runCommand 41 = .ok (.goto 4, 3) := by decide +kernel
theorem d_cRunner_runCommand_44 : decode b_cRunner_runCommand 44 = .ok (.iconst 0, 1) := by decide +kernel
theorem d_cRunner_runCommand_45 : decode b_cRunner_runCommand 45 = .ok (.istore 6, 2) := by decide +kernel
theorem d_cRunner_runCommand_47 : decode b_cRunner_runCommand 47 = .ok (.iload 6, 2) := by decide +kernel
theorem d_cRunner_runCommand_49 : decode b_cRunner_runCommand 49 = .ok (.ifCond .eq 21, 3) := by decide +kernel
theorem d_cRunner_runCommand_52 : decode b_cRunner_runCommand 52 = .ok (.aload_n 0, 1) := by decide +kernel
theorem d_cRunner_runCommand_53 : decode b_cRunner_runCommand 53 = .ok (.getfield 40, 3) := by decide +kernel
theorem d_cRunner_runCommand_56 : decode b_cRunner_runCommand 56 = .ok (.iload_n 1, 1) := by decide +kernel
theorem d_cRunner_runCommand_57 : decode b_cRunner_runCommand 57 = .ok (.iconst 1, 1) := by decide +kernel
theorem d_cRunner_runCommand_58 : decode b_cRunner_runCommand 58 = .ok (.iadd, 1) := by decide +kernel
theorem d_cRunner_runCommand_59 : decode b_cRunner_runCommand 59 = .ok (.iload_n 2, 1) := by decide +kernel
theorem d_cRunner_runCommand_60 : decode b_cRunner_runCommand 60 = .ok (.bipush 6, 2) := by decide +kernel
theorem d_cRunner_runCommand_62 : decode b_cRunner_runCommand 62 = .ok (.bipush 6, 2) := by decide +kernel
theorem d_cRunner_runCommand_64 : decode b_cRunner_runCommand 64 = .ok (.invokevirtual 73, 3) := by decide +kernel
theorem d_cRunner_runCommand_67 : decode b_cRunner_runCommand 67 = .ok (.goto 4, 3) := by decide +kernel
theorem d_cRunner_runCommand_70 : decode b_cRunner_runCommand 70 = .ok (.iload_n 1, 1) := by decide +kernel
theorem d_cRunner_runCommand_71 : decode b_cRunner_runCommand 71 = .ok (.istore 7, 2) := by decide +kernel
theorem d_cRunner_runCommand_73 : decode b_cRunner_runCommand 73 = .ok (.aload_n 0, 1) := by decide +kernel
theorem d_cRunner_runCommand_74 : decode b_cRunner_runCommand 74 = .ok (.iload 7, 2) := by decide +kernel
theorem d_cRunner_runCommand_76 : decode b_cRunner_runCommand 76 = .ok (.iload_n 2, 1) := by decide +kernel
theorem d_cRunner_runCommand_77 : decode b_cRunner_runCommand 77 = .ok (.aload 5, 2) := by decide +kernel
theorem d_cRunner_runCommand_79 : decode b_cRunner_runCommand 79 = .ok (.invokevirtual 120, 3) := by decide +kernel
theorem d_cRunner_runCommand_82 : decode b_cRunner_runCommand 82 = .ok (.istore 8, 2) := by decide +kernel
theorem d_cRunner_runCommand_84 : decode b_cRunner_runCommand 84 = .ok (.iload 8, 2) := by decide +kernel
theorem d_cRunner_runCommand_86 : decode b_cRunner_runCommand 86 = .ok (.ifCond .eq 6, 3) := by decide +kernel
theorem d_cRunner_runCommand_89 : decode b_cRunner_runCommand 89 = .ok (.iload 8, 2) := by decide +kernel
theorem d_cRunner_runCommand_91 : decode b_cRunner_runCommand 91 = .ok (.ireturn, 1) := by decide +kernel
theorem d_cRunner_runCommand_92 : decode b_cRunner_runCommand 92 = .ok (.aload 5, 2) := by decide +kernel
theorem d_cRunner_runCommand_94 : decode b_cRunner_runCommand 94 = .ok (.getfield 113, 3) := by decide +kernel
theorem d_cRunner_runCommand_97 : decode b_cRunner_runCommand 97 = .ok (.ifCond .eq 11, 3) := by decide +kernel
theorem d_cRunner_runCommand_100 : decode b_cRunner_runCommand 100 = .ok (.aload 5, 2) := by decide +kernel
theorem d_cRunner_runCommand_102 : decode b_cRunner_runCommand 102 = .ok (.getfield 124, 3) := by decide +kernel
theorem d_cRunner_runCommand_105 : decode b_cRunner_runCommand 105 = .ok (.goto 5, 3) := by decide +kernel
theorem d_cRunner_runCommand_108 : decode b_cRunner_runCommand 108 = .ok (.aload 4, 2) := by decide +kernel
theorem d_cRunner_runCommand_110 : decode b_cRunner_runCommand 110 = .ok (.astore 9, 2) := by decide +kernel
theorem d_cRunner_runCommand_112 : decode b_cRunner_runCommand 112 = .ok (.iload 6, 2) := by decide +kernel
theorem d_cRunner_runCommand_114 : decode b_cRunner_runCommand 114 = .ok (.ifCond .eq 20, 3) := by decide +kernel
theorem d_cRunner_runCommand_117 : decode b_cRunner_runCommand 117 = .ok (.aload_n 0, 1) := by decide +kernel
theorem d_cRunner_runCommand_118 : decode b_cRunner_runCommand 118 = .ok (.iload_n 1, 1) := by decide +kernel
theorem d_cRunner_runCommand_119 : decode b_cRunner_runCommand 119 = .ok (.iconst 1, 1) := by decide +kernel
theorem d_cRunner_runCommand_120 : decode b_cRunner_runCommand 120 = .ok (.iadd, 1) := by decide +kernel
theorem d_cRunner_runCommand_121 : decode b_cRunner_runCommand 121 = .ok (.iload 7, 2) := by decide +kernel
theorem d_cRunner_runCommand_123 : decode b_cRunner_runCommand 123 = .ok (.iload_n 3, 1) := by decide +kernel
theorem d_cRunner_runCommand_124 : decode b_cRunner_runCommand 124 = .ok (.aload 9, 2) := by decide +kernel
theorem d_cRunner_runCommand_126 : decode b_cRunner_runCommand 126 = .ok (.invokevirtual 127, 3) := by decide +kernel
theorem d_cRunner_runCommand_129 : decode b_cRunner_runCommand 129 = .ok (.istore 8, 2) := by decide +kernel
theorem d_cRunner_runCommand_131 : decode b_cRunner_runCommand 131 = .ok (.goto 35, 3) := by decide +kernel
theorem d_cRunner_runCommand_134 : decode b_cRunner_runCommand 134 = .ok (.aload_n 0, 1) := by decide +kernel
theorem d_cRunner_runCommand_135 : decode b_cRunner_runCommand 135 = .ok (.iload_n 1, 1) := by decide +kernel
theorem d_cRunner_runCommand_136 : decode b_cRunner_runCommand 136 = .ok (.iload_n 2, 1) := by decide +kernel
theorem d_cRunner_runCommand_137 : decode b_cRunner_runCommand 137 = .ok (.invokevirtual 130, 3) := by decide +kernel
theorem d_cRunner_runCommand_140 : decode b_cRunner_runCommand 140 = .ok (.aload_n 0, 1) := by decide +kernel
theorem d_cRunner_runCommand_141 : decode b_cRunner_runCommand 141 = .ok (.dup, 1) := by decide +kernel
theorem d_cRunner_runCommand_142 : decode b_cRunner_runCommand 142 = .ok (.getfield 37, 3) := by decide +kernel
theorem d_cRunner_runCommand_145 : decode b_cRunner_runCommand 145 = .ok (.iconst 1, 1) := by decide +kernel
theorem d_cRunner_runCommand_146 : decode b_cRunner_runCommand 146 = .ok (.iadd, 1) := by decide +kernel
theorem d_cRunner_runCommand_147 : decode b_cRunner_runCommand 147 = .ok (.putfield 37, 3) := by decide +kernel
theorem d_cRunner_runCommand_150 : decode b_cRunner_runCommand 150 = .ok (.aload_n 0, 1) := by decide +kernel
theorem d_cRunner_runCommand_151 : decode b_cRunner_runCommand 151 = .ok (.getfield 53, 3) := by decide +kernel
theorem d_cRunner_runCommand_154 : decode b_cRunner_runCommand 154 = .ok (.aload 9, 2) := by decide +kernel
theorem d_cRunner_runCommand_156 : decode b_cRunner_runCommand 156 = .ok (.aload 5, 2) := by decide +kernel
theorem d_cRunner_runCommand_158 : decode b_cRunner_runCommand 158 = .ok (.getfield 106, 3) := by decide +kernel
theorem d_cRunner_runCommand_161 : decode b_cRunner_runCommand 161 = .ok (.invokevirtual 133, 3) := by decide +kernel
theorem d_cRunner_runCommand_164 : decode b_cRunner_runCommand 164 = .ok (.istore 8, 2) := by decide +kernel
theorem d_cRunner_runCommand_166 : decode b_cRunner_runCommand 166 = .ok (.iload 8, 2) := by decide +kernel
theorem d_cRunner_runCommand_168 : decode b_cRunner_runCommand 168 = .ok (.bipush 100, 2) := by decide +kernel
theorem d_cRunner_runCommand_170 : decode b_cRunner_runCommand 170 = .ok (.if_icmp .eq 14, 3) := by decide +kernel
theorem d_cRunner_runCommand_173 : decode b_cRunner_runCommand 173 = .ok (.aload 5, 2) := by decide +kernel
theorem d_cRunner_runCommand_175 : decode b_cRunner_runCommand 175 = .ok (.getfield 106, 3) := by decide +kernel
theorem d_cRunner_runCommand_178 : decode b_cRunner_runCommand 178 = .ok (.getfield 137, 3) := by decide +kernel
theorem d_cRunner_runCommand_181 : decode b_cRunner_runCommand 181 = .ok (.ifCond .eq 6, 3) := by decide +kernel
theorem d_cRunner_runCommand_184 : decode b_cRunner_runCommand 184 = .ok (.bipush 100, 2) := by decide +kernel
theorem d_cRunner_runCommand_186 : decode b_cRunner_runCommand 186 = .ok (.ireturn, 1) := by decide +kernel
theorem d_cRunner_runCommand_187 : decode b_cRunner_runCommand 187 = .ok (.aload 5, 2) := by decide +kernel
theorem d_cRunner_runCommand_189 : decode b_cRunner_runCommand 189 = .ok (.getfield 117, 3) := by decide +kernel
theorem d_cRunner_runCommand_192 : decode b_cRunner_runCommand 192 = .ok (.ifnull 34, 3) := by decide +kernel
theorem d_cRunner_runCommand_195 : decode b_cRunner_runCommand 195 = .ok (.aload_n 0, 1) := by decide +kernel
theorem d_cRunner_runCommand_196 : decode b_cRunner_runCommand 196 = .ok (.getfield 44, 3) := by decide +kernel
theorem d_cRunner_runCommand_199 : decode b_cRunner_runCommand 199 = .ok (.aload 5, 2) := by decide +kernel
theorem d_cRunner_runCommand_201 : decode b_cRunner_runCommand 201 = .ok (.getfield 117, 3) := by decide +kernel
theorem d_cRunner_runCommand_204 : decode b_cRunner_runCommand 204 = .ok (.aload 5, 2) := by decide +kernel
theorem d_cRunner_runCommand_206 : decode b_cRunner_runCommand 206 = .ok (.getfield 106, 3) := by decide +kernel
theorem d_cRunner_runCommand_209 : decode b_cRunner_runCommand 209 = .ok (.invokevirtual 140, 3) := by decide +kernel
theorem d_cRunner_runCommand_212 : decode b_cRunner_runCommand 212 = .ok (.ifCond .ne 6, 3) := by decide +kernel
theorem d_cRunner_runCommand_215 : decode b_cRunner_runCommand 215 = .ok (.bipush 100, 2) := by decide +kernel
theorem d_cRunner_runCommand_217 : decode b_cRunner_runCommand 217 = .ok (.ireturn, 1) := by decide +kernel
theorem d_cRunner_runCommand_218 : decode b_cRunner_runCommand 218 = .ok (.aload 5, 2) := by decide +kernel
theorem d_cRunner_runCommand_220 : decode b_cRunner_runCommand 220 = .ok (.getfield 106, 3) := by decide +kernel
theorem d_cRunner_runCommand_223 : decode b_cRunner_runCommand 223 = .ok (.invokevirtual 68, 3) := by decide +kernel
theorem d_cRunner_runCommand_226 : decode b_cRunner_runCommand 226 = .ok (.iload 8, 2) := by decide +kernel
theorem d_cRunner_runCommand_228 : decode b_cRunner_runCommand 228 = .ok (.ireturn, 1) := by decide +kernel
theorem cw_cRunner_runCommand {fr lo : Nat} {mc ms : Nat} {R : Room} {s : State} {args : Array Value} {own : String} {ix : Nat} (hts : ∀ w ∈ zt, w.before args s = true) (hl : (Cond.methodLink own ix y_cRunner_runCommand).before args s = true) (h1 : fr + 9 + 1 ≤ R.frames) (h2 : 8 + (10 + 11) + (lo + 240) ≤ R.locals) : CallW R s args own "TreeShell$Runner" ix y_cRunner_runCommand b_cRunner_runCommand 10 (some .int) (.code y_cRunner_runCommand b_cRunner_runCommand 10 (some .int) :: zt) { frames := fr + 9, cells := mc, slots := ms, locals := lo + 240 } mc ms 4 := ⟨callB_of 4 hts (zgood w_482) rfl rfl rfl (hts _ w_75) hl ⟨by decide, by decide, by decide +kernel⟩ ⟨h1, h2⟩, hts _ w_481, hts _ w_11⟩
theorem d_cRunner_runPipeline_0 : decode b_cRunner_runPipeline 0 = .ok (.aload_n 0, 1) := by decide +kernel
theorem d_cRunner_runPipeline_1 : decode b_cRunner_runPipeline 1 = .ok (.getfield 29, 3) := by decide +kernel
theorem d_cRunner_runPipeline_4 : decode b_cRunner_runPipeline 4 = .ok (.iload_n 3, 1) := by decide +kernel
theorem d_cRunner_runPipeline_5 : decode b_cRunner_runPipeline 5 = .ok (.aaload, 1) := by decide +kernel
theorem d_cRunner_runPipeline_6 : decode b_cRunner_runPipeline 6 = .ok (.astore 5, 2) := by decide +kernel
theorem d_cRunner_runPipeline_8 : decode b_cRunner_runPipeline 8 = .ok (.aload_n 0, 1) := by decide +kernel
theorem d_cRunner_runPipeline_9 : decode b_cRunner_runPipeline 9 = .ok (.getfield 40, 3) := by decide +kernel
theorem d_cRunner_runPipeline_12 : decode b_cRunner_runPipeline 12 = .ok (.iload_n 1, 1) := by decide +kernel
theorem d_cRunner_runPipeline_13 : decode b_cRunner_runPipeline 13 = .ok (.invokevirtual 91, 3) := by decide +kernel
theorem d_cRunner_runPipeline_16 : decode b_cRunner_runPipeline 16 = .ok (.iconst 4, 1) := by decide +kernel
theorem d_cRunner_runPipeline_17 : decode b_cRunner_runPipeline 17 = .ok (.if_icmp .ne 7, 3) := by decide +kernel
theorem d_cRunner_runPipeline_20 : decode b_cRunner_runPipeline 20 = .ok (.iconst 1, 1) := by decide +kernel
theorem d_cRunner_runPipeline_21 : decode b_cRunner_runPipeline 21 = .ok (.goto 4, 3) := by decide +kernel
theorem d_cRunner_runPipeline_24 : decode b_cRunner_runPipeline 24 = .ok (.iconst 0, 1) := by decide +kernel
theorem d_cRunner_runPipeline_25 : decode b_cRunner_runPipeline 25 = .ok (.istore 6, 2) := by decide +kernel
theorem d_cRunner_runPipeline_27 : decode b_cRunner_runPipeline 27 = .ok (.iload 6, 2) := by decide +kernel
theorem d_cRunner_runPipeline_29 : decode b_cRunner_runPipeline 29 = .ok (.ifCond .eq 9, 3) := by decide +kernel
theorem d_cRunner_runPipeline_32 : decode b_cRunner_runPipeline 32 = .ok (.iload_n 1, 1) := by decide +kernel
theorem d_cRunner_runPipeline_33 : decode b_cRunner_runPipeline 33 = .ok (.iconst 1, 1) := by decide +kernel
theorem d_cRunner_runPipeline_34 : decode b_cRunner_runPipeline 34 = .ok (.iadd, 1) := by decide +kernel
theorem d_cRunner_runPipeline_35 : decode b_cRunner_runPipeline 35 = .ok (.goto 4, 3) := by decide +kernel
theorem d_cRunner_runPipeline_38 : decode b_cRunner_runPipeline 38 = .ok (.iload_n 1, 1) := by decide +kernel
theorem d_cRunner_runPipeline_39 : decode b_cRunner_runPipeline 39 = .ok (.istore 7, 2) := by decide +kernel
theorem d_cRunner_runPipeline_41 : decode b_cRunner_runPipeline 41 = .ok (.aload_n 0, 1) := by decide +kernel
theorem d_cRunner_runPipeline_42 : decode b_cRunner_runPipeline 42 = .ok (.getfield 40, 3) := by decide +kernel
theorem d_cRunner_runPipeline_45 : decode b_cRunner_runPipeline 45 = .ok (.iload 7, 2) := by decide +kernel
theorem d_cRunner_runPipeline_47 : decode b_cRunner_runPipeline 47 = .ok (.iload_n 2, 1) := by decide +kernel
theorem d_cRunner_runPipeline_48 : decode b_cRunner_runPipeline 48 = .ok (.iconst 3, 1) := by decide +kernel
theorem d_cRunner_runPipeline_49 : decode b_cRunner_runPipeline 49 = .ok (.iconst 3, 1) := by decide +kernel
theorem d_cRunner_runPipeline_50 : decode b_cRunner_runPipeline 50 = .ok (.invokevirtual 73, 3) := by decide +kernel
theorem d_cRunner_runPipeline_53 : decode b_cRunner_runPipeline 53 = .ok (.iload_n 2, 1) := by decide +kernel
theorem d_cRunner_runPipeline_54 : decode b_cRunner_runPipeline 54 = .ok (.if_icmp .ge 7, 3) := by decide +kernel
theorem d_cRunner_runPipeline_57 : decode b_cRunner_runPipeline 57 = .ok (.iconst 1, 1) := by decide +kernel
theorem d_cRunner_runPipeline_58 : decode b_cRunner_runPipeline 58 = .ok (.goto 4, 3) := by decide +kernel
theorem d_cRunner_runPipeline_61 : decode b_cRunner_runPipeline 61 = .ok (.iconst 0, 1) := by decide +kernel
theorem d_cRunner_runPipeline_62 : decode b_cRunner_runPipeline 62 = .ok (.istore 8, 2) := by decide +kernel
theorem d_cRunner_runPipeline_64 : decode b_cRunner_runPipeline 64 = .ok (.aload 4, 2) := by decide +kernel
theorem d_cRunner_runPipeline_66 : decode b_cRunner_runPipeline 66 = .ok (.astore 9, 2) := by decide +kernel
theorem d_cRunner_runPipeline_68 : decode b_cRunner_runPipeline 68 = .ok (.iconst 0, 1) := by decide +kernel
theorem d_cRunner_runPipeline_69 : decode b_cRunner_runPipeline 69 = .ok (.istore 10, 2) := by decide +kernel
theorem d_cRunner_runPipeline_71 : decode b_cRunner_runPipeline 71 = .ok (.iload 7, 2) := by decide +kernel
theorem d_cRunner_runPipeline_73 : decode b_cRunner_runPipeline 73 = .ok (.iload_n 2, 1) := by decide +kernel
theorem d_cRunner_runPipeline_74 : decode b_cRunner_runPipeline 74 = .ok (.if_icmp .ge 111, 3) := by decide +kernel
theorem d_cRunner_runPipeline_77 : decode b_cRunner_runPipeline 77 = .ok (.iload 7, 2) := by decide +kernel
theorem d_cRunner_runPipeline_79 : decode b_cRunner_runPipeline 79 = .ok (.aload_n 0, 1) := by decide +kernel
theorem d_cRunner_runPipeline_80 : decode b_cRunner_runPipeline 80 = .ok (.getfield 40, 3) := by decide +kernel
theorem d_cRunner_runPipeline_83 : decode b_cRunner_runPipeline 83 = .ok (.iload 7, 2) := by decide +kernel
theorem d_cRunner_runPipeline_85 : decode b_cRunner_runPipeline 85 = .ok (.iload_n 2, 1) := by decide +kernel
theorem d_cRunner_runPipeline_86 : decode b_cRunner_runPipeline 86 = .ok (.iconst 3, 1) := by decide +kernel
theorem d_cRunner_runPipeline_87 : decode b_cRunner_runPipeline 87 = .ok (.iconst 3, 1) := by decide +kernel
theorem d_cRunner_runPipeline_88 : decode b_cRunner_runPipeline 88 = .ok (.invokevirtual 73, 3) := by decide +kernel
theorem d_cRunner_runPipeline_91 : decode b_cRunner_runPipeline 91 = .ok (.invokestatic 77, 3) := by decide +kernel
theorem d_cRunner_runPipeline_94 : decode b_cRunner_runPipeline 94 = .ok (.istore 11, 2) := by decide +kernel
theorem d_cRunner_runPipeline_96 : decode b_cRunner_runPipeline 96 = .ok (.aload_n 0, 1) := by decide +kernel
theorem d_cRunner_runPipeline_97 : decode b_cRunner_runPipeline 97 = .ok (.getfield 44, 3) := by decide +kernel
theorem d_cRunner_runPipeline_100 : decode b_cRunner_runPipeline 100 = .ok (.getfield 95, 3) := by decide +kernel
theorem d_cRunner_runPipeline_103 : decode b_cRunner_runPipeline 103 = .ok (.astore 12, 2) := by decide +kernel
theorem d_cRunner_runPipeline_105 : decode b_cRunner_runPipeline 105 = .ok (.aload_n 0, 1) := by decide +kernel
theorem d_cRunner_runPipeline_106 : decode b_cRunner_runPipeline 106 = .ok (.iload 7, 2) := by decide +kernel
theorem d_cRunner_runPipeline_108 : decode b_cRunner_runPipeline 108 = .ok (.iload 11, 2) := by decide +kernel
theorem d_cRunner_runPipeline_110 : decode b_cRunner_runPipeline 110 = .ok (.iload_n 3, 1) := by decide +kernel
theorem d_cRunner_runPipeline_111 : decode b_cRunner_runPipeline 111 = .ok (.aload 9, 2) := by decide +kernel
theorem d_cRunner_runPipeline_113 : decode b_cRunner_runPipeline 113 = .ok (.invokevirtual 99, 3) := by decide +kernel
theorem d_cRunner_runPipeline_116 : decode b_cRunner_runPipeline 116 = .ok (.istore 10, 2) := by decide +kernel
theorem d_cRunner_runPipeline_118 : decode b_cRunner_runPipeline 118 = .ok (.iload 8, 2) := by decide +kernel
theorem d_cRunner_runPipeline_120 : decode b_cRunner_runPipeline 120 = .ok (.ifCond .eq 12, 3) := by decide +kernel
theorem d_cRunner_runPipeline_123 : decode b_cRunner_runPipeline 123 = .ok (.aload_n 0, 1) := by decide +kernel
theorem d_cRunner_runPipeline_124 : decode b_cRunner_runPipeline 124 = .ok (.getfield 44, 3) := by decide +kernel
theorem d_cRunner_runPipeline_127 : decode b_cRunner_runPipeline 127 = .ok (.aload 12, 2) := by decide +kernel
theorem d_cRunner_runPipeline_129 : decode b_cRunner_runPipeline 129 = .ok (.putfield 95, 3) := by decide +kernel
theorem d_cRunner_runPipeline_132 : decode b_cRunner_runPipeline 132 = .ok (.iload 10, 2) := by decide +kernel
theorem d_cRunner_runPipeline_134 : decode b_cRunner_runPipeline 134 = .ok (.bipush 100, 2) := by decide +kernel
theorem d_cRunner_runPipeline_136 : decode b_cRunner_runPipeline 136 = .ok (.if_icmp .ne 5, 3) := by decide +kernel
theorem d_cRunner_runPipeline_139 : decode b_cRunner_runPipeline 139 = .ok (.iconst 0, 1) := by decide +kernel
theorem d_cRunner_runPipeline_140 : decode b_cRunner_runPipeline 140 = .ok (.ireturn, 1) := by decide +kernel
theorem d_cRunner_runPipeline_141 : decode b_cRunner_runPipeline 141 = .ok (.iload 11, 2) := by decide +kernel
theorem d_cRunner_runPipeline_143 : decode b_cRunner_runPipeline 143 = .ok (.iload_n 2, 1) := by decide +kernel
theorem d_cRunner_runPipeline_144 : decode b_cRunner_runPipeline 144 = .ok (.if_icmp .ge 32, 3) := by decide +kernel
theorem d_cRunner_runPipeline_147 : decode b_cRunner_runPipeline 147 = .ok (.aload 5, 2) := by decide +kernel
theorem d_cRunner_runPipeline_149 : decode b_cRunner_runPipeline 149 = .ok (.getfield 103, 3) := by decide +kernel
theorem d_cRunner_runPipeline_152 : decode b_cRunner_runPipeline 152 = .ok (.invokevirtual 68, 3) := by decide +kernel
theorem d_cRunner_runPipeline_155 : decode b_cRunner_runPipeline 155 = .ok (.aload 5, 2) := by decide +kernel
theorem d_cRunner_runPipeline_157 : decode b_cRunner_runPipeline 157 = .ok (.getfield 103, 3) := by decide +kernel
theorem d_cRunner_runPipeline_160 : decode b_cRunner_runPipeline 160 = .ok (.aload 5, 2) := by decide +kernel
theorem d_cRunner_runPipeline_162 : decode b_cRunner_runPipeline 162 = .ok (.getfield 106, 3) := by decide +kernel
theorem d_cRunner_runPipeline_165 : decode b_cRunner_runPipeline 165 = .ok (.invokevirtual 109, 3) := by decide +kernel
theorem d_cRunner_runPipeline_168 : decode b_cRunner_runPipeline 168 = .ok (.pop, 1) := by decide +kernel
theorem d_cRunner_runPipeline_169 : decode b_cRunner_runPipeline 169 = .ok (.aload 5, 2) := by decide +kernel
theorem d_cRunner_runPipeline_171 : decode b_cRunner_runPipeline 171 = .ok (.getfield 103, 3) := by decide +kernel
theorem d_cRunner_runPipeline_174 : decode b_cRunner_runPipeline 174 = .ok (.astore 9, 2) := by decide +kernel
theorem d_cRunner_runPipeline_176 : decode b_cRunner_runPipeline 176 = .ok (.iload 11, 2) := by decide +kernel
theorem d_cRunner_runPipeline_178 : decode b_cRunner_runPipeline 178 = .ok (.iconst 1, 1) := by decide +kernel
theorem d_cRunner_runPipeline_179 : decode b_cRunner_runPipeline 179 = .ok (.iadd, 1) := by decide +kernel
theorem d_cRunner_runPipeline_180 : decode b_cRunner_runPipeline 180 = .ok (.istore 7, 2) := by decide +kernel
theorem d_cRunner_runPipeline_182 : decode b_cRunner_runPipeline 182 = .ok (.goto (-111), 3) := by decide +kernel
theorem d_cRunner_runPipeline_185 : decode b_cRunner_runPipeline 185 = .ok (.iload 6, 2) := by decide +kernel
theorem d_cRunner_runPipeline_187 : decode b_cRunner_runPipeline 187 = .ok (.ifCond .eq 15, 3) := by decide +kernel
theorem d_cRunner_runPipeline_190 : decode b_cRunner_runPipeline 190 = .ok (.iload 10, 2) := by decide +kernel
theorem d_cRunner_runPipeline_192 : decode b_cRunner_runPipeline 192 = .ok (.ifCond .ne 7, 3) := by decide +kernel
theorem d_cRunner_runPipeline_195 : decode b_cRunner_runPipeline 195 = .ok (.iconst 1, 1) := by decide +kernel
theorem d_cRunner_runPipeline_196 : decode b_cRunner_runPipeline 196 = .ok (.goto 4, 3) := by decide +kernel
theorem d_cRunner_runPipeline_199 : decode b_cRunner_runPipeline 199 = .ok (.iconst 0, 1) := by decide +kernel
theorem d_cRunner_runPipeline_200 : decode b_cRunner_runPipeline 200 = .ok (.istore 10, 2) := by decide +kernel
theorem d_cRunner_runPipeline_202 : decode b_cRunner_runPipeline 202 = .ok (.aload_n 0, 1) := by decide +kernel
theorem d_cRunner_runPipeline_203 : decode b_cRunner_runPipeline 203 = .ok (.iload 10, 2) := by decide +kernel
theorem d_cRunner_runPipeline_205 : decode b_cRunner_runPipeline 205 = .ok (.putfield 33, 3) := by decide +kernel
theorem d_cRunner_runPipeline_208 : decode b_cRunner_runPipeline 208 = .ok (.aload 5, 2) := by decide +kernel
theorem d_cRunner_runPipeline_210 : decode b_cRunner_runPipeline 210 = .ok (.getfield 65, 3) := by decide +kernel
theorem d_cRunner_runPipeline_213 : decode b_cRunner_runPipeline 213 = .ok (.aload 5, 2) := by decide +kernel
theorem d_cRunner_runPipeline_215 : decode b_cRunner_runPipeline 215 = .ok (.getfield 106, 3) := by decide +kernel
theorem d_cRunner_runPipeline_218 : decode b_cRunner_runPipeline 218 = .ok (.invokevirtual 109, 3) := by decide +kernel
theorem d_cRunner_runPipeline_221 : decode b_cRunner_runPipeline 221 = .ok (.ireturn, 1) := by decide +kernel
theorem cw_cRunner_runPipeline {fr lo : Nat} {mc ms : Nat} {R : Room} {s : State} {args : Array Value} {own : String} {ix : Nat} (hts : ∀ w ∈ zt, w.before args s = true) (hl : (Cond.methodLink own ix y_cRunner_runPipeline).before args s = true) (h1 : fr + 10 + 1 ≤ R.frames) (h2 : 8 + (13 + 11) + (lo + 269) ≤ R.locals) : CallW R s args own "TreeShell$Runner" ix y_cRunner_runPipeline b_cRunner_runPipeline 13 (some .boolean) (.code y_cRunner_runPipeline b_cRunner_runPipeline 13 (some .boolean) :: zt) { frames := fr + 10, cells := mc, slots := ms, locals := lo + 269 } mc ms 4 := ⟨callB_of 4 hts (zgood w_477) rfl rfl rfl (hts _ w_75) hl ⟨by decide, by decide, by decide +kernel⟩ ⟨h1, h2⟩, hts _ w_476, hts _ w_10⟩
theorem d_cRunner_runList_0 : decode b_cRunner_runList 0 = .ok (.iload_n 3, 1) := by decide +kernel
theorem d_cRunner_runList_1 : decode b_cRunner_runList 1 = .ok (.iconst 4, 1) := by decide +kernel
theorem d_cRunner_runList_2 : decode b_cRunner_runList 2 = .ok (.if_icmp .le 5, 3) := by decide +kernel
theorem d_cRunner_runList_5 : decode b_cRunner_runList 5 = .ok (.iconst 0, 1) := by decide +kernel
theorem d_cRunner_runList_6 : decode b_cRunner_runList 6 = .ok (.ireturn, 1) := by decide +kernel
theorem d_cRunner_runList_7 : decode b_cRunner_runList 7 = .ok (.aload_n 0, 1) := by decide +kernel
theorem d_cRunner_runList_8 : decode b_cRunner_runList 8 = .ok (.getfield 29, 3) := by decide +kernel
theorem d_cRunner_runList_11 : decode b_cRunner_runList 11 = .ok (.iload_n 3, 1) := by decide +kernel
theorem d_cRunner_runList_12 : decode b_cRunner_runList 12 = .ok (.aaload, 1) := by decide +kernel
theorem d_cRunner_runList_13 : decode b_cRunner_runList 13 = .ok (.getfield 65, 3) := by decide +kernel
theorem d_cRunner_runList_16 : decode b_cRunner_runList 16 = .ok (.invokevirtual 68, 3) := by decide +kernel
theorem d_cRunner_runList_19 : decode b_cRunner_runList 19 = .ok (.iconst 0, 1) := by decide +kernel
theorem d_cRunner_runList_20 : decode b_cRunner_runList 20 = .ok (.istore 5, 2) := by decide +kernel
theorem d_cRunner_runList_22 : decode b_cRunner_runList 22 = .ok (.iload_n 1, 1) := by decide +kernel
theorem d_cRunner_runList_23 : decode b_cRunner_runList 23 = .ok (.istore 6, 2) := by decide +kernel
theorem d_cRunner_runList_25 : decode b_cRunner_runList 25 = .ok (.iload 6, 2) := by decide +kernel
theorem d_cRunner_runList_27 : decode b_cRunner_runList 27 = .ok (.iload_n 2, 1) := by decide +kernel
theorem d_cRunner_runList_28 : decode b_cRunner_runList 28 = .ok (.if_icmp .ge 67, 3) := by decide +kernel
theorem d_cRunner_runList_31 : decode b_cRunner_runList 31 = .ok (.iload 6, 2) := by decide +kernel
theorem d_cRunner_runList_33 : decode b_cRunner_runList 33 = .ok (.aload_n 0, 1) := by decide +kernel
theorem d_cRunner_runList_34 : decode b_cRunner_runList 34 = .ok (.getfield 40, 3) := by decide +kernel
theorem d_cRunner_runList_37 : decode b_cRunner_runList 37 = .ok (.iload 6, 2) := by decide +kernel
theorem d_cRunner_runList_39 : decode b_cRunner_runList 39 = .ok (.iload_n 2, 1) := by decide +kernel
theorem d_cRunner_runList_40 : decode b_cRunner_runList 40 = .ok (.iconst 0, 1) := by decide +kernel
theorem d_cRunner_runList_41 : decode b_cRunner_runList 41 = .ok (.iconst 2, 1) := by decide +kernel
theorem d_cRunner_runList_42 : decode b_cRunner_runList 42 = .ok (.invokevirtual 73, 3) := by decide +kernel
theorem d_cRunner_runList_45 : decode b_cRunner_runList 45 = .ok (.invokestatic 77, 3) := by decide +kernel
theorem d_cRunner_runList_48 : decode b_cRunner_runList 48 = .ok (.istore 7, 2) := by decide +kernel
theorem d_cRunner_runList_50 : decode b_cRunner_runList 50 = .ok (.aload_n 0, 1) := by decide +kernel
theorem d_cRunner_runList_51 : decode b_cRunner_runList 51 = .ok (.iload 5, 2) := by decide +kernel
theorem d_cRunner_runList_53 : decode b_cRunner_runList 53 = .ok (.invokevirtual 83, 3) := by decide +kernel
theorem d_cRunner_runList_56 : decode b_cRunner_runList 56 = .ok (.ifCond .eq 19, 3) := by decide +kernel
theorem d_cRunner_runList_59 : decode b_cRunner_runList 59 = .ok (.aload_n 0, 1) := by decide +kernel
theorem d_cRunner_runList_60 : decode b_cRunner_runList 60 = .ok (.iload 6, 2) := by decide +kernel
theorem d_cRunner_runList_62 : decode b_cRunner_runList 62 = .ok (.iload 7, 2) := by decide +kernel
theorem d_cRunner_runList_64 : decode b_cRunner_runList 64 = .ok (.iload_n 3, 1) := by decide +kernel
theorem d_cRunner_runList_65 : decode b_cRunner_runList 65 = .ok (.aload 4, 2) := by decide +kernel
theorem d_cRunner_runList_67 : decode b_cRunner_runList 67 = .ok (.invokevirtual 87, 3) := by decide +kernel
theorem d_cRunner_runList_70 : decode b_cRunner_runList 70 = .ok (.ifCond .ne 5, 3) := by decide +kernel
theorem d_cRunner_runList_73 : decode b_cRunner_runList 73 = .ok (.iconst 0, 1) := by decide +kernel
theorem d_cRunner_runList_74 : decode b_cRunner_runList 74 = .ok (.ireturn, 1) := by decide +kernel
theorem d_cRunner_runList_75 : decode b_cRunner_runList 75 = .ok (.aload_n 0, 1) := by decide +kernel
theorem d_cRunner_runList_76 : decode b_cRunner_runList 76 = .ok (.getfield 40, 3) := by decide +kernel
theorem d_cRunner_runList_79 : decode b_cRunner_runList 79 = .ok (.iload 7, 2) := by decide +kernel
theorem d_cRunner_runList_81 : decode b_cRunner_runList 81 = .ok (.invokevirtual 91, 3) := by decide +kernel
theorem d_cRunner_runList_84 : decode b_cRunner_runList 84 = .ok (.istore 5, 2) := by decide +kernel
theorem d_cRunner_runList_86 : decode b_cRunner_runList 86 = .ok (.iload 7, 2) := by decide +kernel
theorem d_cRunner_runList_88 : decode b_cRunner_runList 88 = .ok (.iconst 1, 1) := by decide +kernel
theorem d_cRunner_runList_89 : decode b_cRunner_runList 89 = .ok (.iadd, 1) := by decide +kernel
theorem d_cRunner_runList_90 : decode b_cRunner_runList 90 = .ok (.istore 6, 2) := by decide +kernel
theorem d_cRunner_runList_92 : decode b_cRunner_runList 92 = .ok (.goto (-67), 3) := by decide +kernel
theorem d_cRunner_runList_95 : decode b_cRunner_runList 95 = .ok (.iconst 1, 1) := by decide +kernel
theorem d_cRunner_runList_96 : decode b_cRunner_runList 96 = .ok (.ireturn, 1) := by decide +kernel
theorem cw_cRunner_runList {fr lo : Nat} {mc ms : Nat} {R : Room} {s : State} {args : Array Value} {own : String} {ix : Nat} (hts : ∀ w ∈ zt, w.before args s = true) (hl : (Cond.methodLink own ix y_cRunner_runList).before args s = true) (h1 : fr + 1 ≤ R.frames) (h2 : 8 + (8 + 11) + (lo) ≤ R.locals) : CallW R s args own "TreeShell$Runner" ix y_cRunner_runList b_cRunner_runList 8 (some .boolean) (.code y_cRunner_runList b_cRunner_runList 8 (some .boolean) :: zt) { frames := fr, cells := mc, slots := ms, locals := lo } mc ms 4 := ⟨callB_of 4 hts (zgood w_463) rfl rfl rfl (hts _ w_75) hl ⟨by decide, by decide, by decide +kernel⟩ ⟨h1, h2⟩, hts _ w_462, hts _ w_8⟩
theorem cwn_cRunner_runList {fr lo : Nat} {mc ms : Nat} {R : Room} {s : State} {args : Array Value} {own host : String} {ix : Nat} (hts : ∀ w ∈ zt, w.before args s = true) (hl : va_Nw (.methodLinkNest own ix y_cRunner_runList host) s) (h1 : fr + 1 ≤ R.frames) (h2 : 8 + (8 + 11) + (lo) ≤ R.locals) : va_CN R s args own ix y_cRunner_runList host b_cRunner_runList 8 (some .boolean) (.code y_cRunner_runList b_cRunner_runList 8 (some .boolean) :: zt) { frames := fr, cells := mc, slots := ms, locals := lo } mc ms 4 ∧ (Cond.instanceMethod y_cRunner_runList).before args s = true ∧ (Cond.selects "TreeShell$Runner" y_cRunner_runList y_cRunner_runList).before args s = true := ⟨va_cnB 4 hts (zgood w_463) rfl rfl rfl hl (hts _ w_75) ⟨by decide, by decide, by decide +kernel⟩ ⟨h1, h2⟩, hts _ w_462, hts _ w_8⟩
theorem d_cShell_enter_0 : decode b_cShell_enter 0 = .ok (.aload_n 0, 1) := by decide +kernel
theorem d_cShell_enter_1 : decode b_cShell_enter 1 = .ok (.getfield 32, 3) := by decide +kernel
theorem d_cShell_enter_4 : decode b_cShell_enter 4 = .ok (.invokevirtual 78, 3) := by decide +kernel
theorem d_cShell_enter_7 : decode b_cShell_enter 7 = .ok (.istore_n 1, 1) := by decide +kernel
theorem d_cShell_enter_8 : decode b_cShell_enter 8 = .ok (.aload_n 0, 1) := by decide +kernel
theorem d_cShell_enter_9 : decode b_cShell_enter 9 = .ok (.getfield 54, 3) := by decide +kernel
theorem d_cShell_enter_12 : decode b_cShell_enter 12 = .ok (.invokevirtual 86, 3) := by decide +kernel
theorem d_cShell_enter_15 : decode b_cShell_enter 15 = .ok (.iload_n 1, 1) := by decide +kernel
theorem d_cShell_enter_16 : decode b_cShell_enter 16 = .ok (.ifCond .eq 38, 3) := by decide +kernel
theorem d_cShell_enter_19 : decode b_cShell_enter 19 = .ok (.aload_n 0, 1) := by decide +kernel
theorem d_cShell_enter_20 : decode b_cShell_enter 20 = .ok (.getfield 54, 3) := by decide +kernel
theorem d_cShell_enter_23 : decode b_cShell_enter 23 = .ok (.iconst 0, 1) := by decide +kernel
theorem d_cShell_enter_24 : decode b_cShell_enter 24 = .ok (.aload_n 0, 1) := by decide +kernel
theorem d_cShell_enter_25 : decode b_cShell_enter 25 = .ok (.getfield 23, 3) := by decide +kernel
theorem d_cShell_enter_28 : decode b_cShell_enter 28 = .ok (.getfield 89, 3) := by decide +kernel
theorem d_cShell_enter_31 : decode b_cShell_enter 31 = .ok (.iconst 0, 1) := by decide +kernel
theorem d_cShell_enter_32 : decode b_cShell_enter 32 = .ok (.aload_n 0, 1) := by decide +kernel
theorem d_cShell_enter_33 : decode b_cShell_enter 33 = .ok (.getfield 54, 3) := by decide +kernel
theorem d_cShell_enter_36 : decode b_cShell_enter 36 = .ok (.getfield 92, 3) := by decide +kernel
theorem d_cShell_enter_39 : decode b_cShell_enter 39 = .ok (.invokevirtual 95, 3) := by decide +kernel
theorem d_cShell_enter_42 : decode b_cShell_enter 42 = .ok (.ifCond .ne 12, 3) := by decide +kernel
theorem d_cShell_enter_45 : decode b_cShell_enter 45 = .ok (.aload_n 0, 1) := by decide +kernel
theorem d_cShell_enter_46 : decode b_cShell_enter 46 = .ok (.getfield 54, 3) := by decide +kernel
theorem d_cShell_enter_49 : decode b_cShell_enter 49 = .ok (.bipush 100, 2) := by decide +kernel
theorem d_cShell_enter_51 : decode b_cShell_enter 51 = .ok (.putfield 99, 3) := by decide +kernel
theorem d_cShell_enter_54 : decode b_cShell_enter 54 = .ok (.aload_n 0, 1) := by decide +kernel
theorem d_cShell_enter_55 : decode b_cShell_enter 55 = .ok (.getfield 14, 3) := by decide +kernel
theorem d_cShell_enter_58 : decode b_cShell_enter 58 = .ok (.invokevirtual 75, 3) := by decide +kernel
theorem d_cShell_enter_61 : decode b_cShell_enter 61 = .ok (.iload_n 1, 1) := by decide +kernel
theorem d_cShell_enter_62 : decode b_cShell_enter 62 = .ok (.ifCond .eq 13, 3) := by decide +kernel
theorem d_cShell_enter_65 : decode b_cShell_enter 65 = .ok (.aload_n 0, 1) := by decide +kernel
theorem d_cShell_enter_66 : decode b_cShell_enter 66 = .ok (.getfield 54, 3) := by decide +kernel
theorem d_cShell_enter_69 : decode b_cShell_enter 69 = .ok (.getfield 99, 3) := by decide +kernel
theorem d_cShell_enter_72 : decode b_cShell_enter 72 = .ok (.goto 4, 3) := by decide +kernel
theorem d_cShell_enter_75 : decode b_cShell_enter 75 = .ok (.iconst (-1), 1) := by decide +kernel
theorem d_cShell_enter_76 : decode b_cShell_enter 76 = .ok (.ireturn, 1) := by decide +kernel
theorem cw_cShell_enter {mc ms : Nat} {R : Room} {s : State} {args : Array Value} {own : String} {ix : Nat} (hts : ∀ w ∈ zt, w.before args s = true) (hl : (Cond.methodLink own ix y_cShell_enter).before args s = true) (h1 : 68 ≤ R.frames) (h2 : 1854 ≤ R.locals) : CallW R s args own "TreeShell" ix y_cShell_enter b_cShell_enter 2 (some .int) (.code y_cShell_enter b_cShell_enter 2 (some .int) :: zt) { frames := 67, cells := mc, slots := ms, locals := 1833 } mc ms 0 := ⟨callB_of 0 hts (zgood w_454) rfl rfl rfl (hts _ w_68) hl ⟨by decide, by decide, by decide +kernel⟩ ⟨h1, h2⟩, hts _ w_452, hts _ w_453⟩
