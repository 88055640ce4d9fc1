theorem w_536 : (Jvm.Cond.methodLink "TreeShell$Text" (21 : Nat) ({ cls := "java/lang/System", name := "arraycopy", desc := "(Ljava/lang/Object;ILjava/lang/Object;II)V" } : Jvm.MethodName)) ∈ zt := List.mem_filter.mpr ⟨List.mem_of_getElem? (i := 536) (by decide +kernel), rfl⟩
theorem d_cText_add_0 : decode b_cText_add 0 = .ok (.aload_n 0, 1) := by decide +kernel
theorem d_cText_add_1 : decode b_cText_add 1 = .ok (.getfield 7, 3) := by decide +kernel
theorem d_cText_add_4 : decode b_cText_add 4 = .ok (.aload_n 0, 1) := by decide +kernel
theorem d_cText_add_5 : decode b_cText_add 5 = .ok (.getfield 17, 3) := by decide +kernel
theorem d_cText_add_8 : decode b_cText_add 8 = .ok (.arraylength, 1) := by decide +kernel
theorem d_cText_add_9 : decode b_cText_add 9 = .ok (.if_icmp .ge 26, 3) := by decide +kernel
theorem d_cText_add_12 : decode b_cText_add 12 = .ok (.aload_n 0, 1) := by decide +kernel
theorem d_cText_add_13 : decode b_cText_add 13 = .ok (.getfield 17, 3) := by decide +kernel
theorem d_cText_add_16 : decode b_cText_add 16 = .ok (.aload_n 0, 1) := by decide +kernel
theorem d_cText_add_17 : decode b_cText_add 17 = .ok (.getfield 7, 3) := by decide +kernel
theorem d_cText_add_20 : decode b_cText_add 20 = .ok (.iload_n 1, 1) := by decide +kernel
theorem d_cText_add_21 : decode b_cText_add 21 = .ok (.castore, 1) := by decide +kernel
theorem d_cText_add_22 : decode b_cText_add 22 = .ok (.aload_n 0, 1) := by decide +kernel
theorem d_cText_add_23 : decode b_cText_add 23 = .ok (.dup, 1) := by decide +kernel
theorem d_cText_add_24 : decode b_cText_add 24 = .ok (.getfield 7, 3) := by decide +kernel
theorem d_cText_add_27 : decode b_cText_add 27 = .ok (.iconst 1, 1) := by decide +kernel
theorem d_cText_add_28 : decode b_cText_add 28 = .ok (.iadd, 1) := by decide +kernel
theorem d_cText_add_29 : decode b_cText_add 29 = .ok (.putfield 7, 3) := by decide +kernel
theorem d_cText_add_32 : decode b_cText_add 32 = .ok (.goto 8, 3) := by decide +kernel
theorem d_cText_add_35 : decode b_cText_add 35 = .ok (.aload_n 0, 1) := by decide +kernel
theorem d_cText_add_36 : decode b_cText_add 36 = .ok (.iconst 1, 1) := by decide +kernel
theorem d_cText_add_37 : decode b_cText_add 37 = .ok (.putfield 13, 3) := by decide +kernel
theorem d_cText_add_40 : decode b_cText_add 40 = .ok (.return_, 1) := by decide +kernel
theorem d_cText_addPacked_0 : decode b_cText_addPacked 0 = .ok (.bipush 56, 2) := by decide +kernel
theorem d_cText_addPacked_2 : decode b_cText_addPacked 2 = .ok (.istore_n 3, 1) := by decide +kernel
theorem d_cText_addPacked_3 : decode b_cText_addPacked 3 = .ok (.iload_n 3, 1) := by decide +kernel
theorem d_cText_addPacked_4 : decode b_cText_addPacked 4 = .ok (.ifCond .lt 31, 3) := by decide +kernel
theorem d_cText_addPacked_7 : decode b_cText_addPacked 7 = .ok (.lload_n 1, 1) := by decide +kernel
theorem d_cText_addPacked_8 : decode b_cText_addPacked 8 = .ok (.iload_n 3, 1) := by decide +kernel
theorem d_cText_addPacked_9 : decode b_cText_addPacked 9 = .ok (.lushr, 1) := by decide +kernel
theorem d_cText_addPacked_10 : decode b_cText_addPacked 10 = .ok (.ldc2_w 35, 3) := by decide +kernel
theorem d_cText_addPacked_13 : decode b_cText_addPacked 13 = .ok (.land, 1) := by decide +kernel
theorem d_cText_addPacked_14 : decode b_cText_addPacked 14 = .ok (.l2i, 1) := by decide +kernel
theorem d_cText_addPacked_15 : decode b_cText_addPacked 15 = .ok (.i2c, 1) := by decide +kernel
theorem d_cText_addPacked_16 : decode b_cText_addPacked 16 = .ok (.istore 4, 2) := by decide +kernel
theorem d_cText_addPacked_18 : decode b_cText_addPacked 18 = .ok (.iload 4, 2) := by decide +kernel
theorem d_cText_addPacked_20 : decode b_cText_addPacked 20 = .ok (.ifCond .eq 9, 3) := by decide +kernel
theorem d_cText_addPacked_23 : decode b_cText_addPacked 23 = .ok (.aload_n 0, 1) := by decide +kernel
theorem d_cText_addPacked_24 : decode b_cText_addPacked 24 = .ok (.iload 4, 2) := by decide +kernel
theorem d_cText_addPacked_26 : decode b_cText_addPacked 26 = .ok (.invokevirtual 31, 3) := by decide +kernel
theorem d_cText_addPacked_29 : decode b_cText_addPacked 29 = .ok (.iinc 3 (-8), 3) := by decide +kernel
theorem d_cText_addPacked_32 : decode b_cText_addPacked 32 = .ok (.goto (-29), 3) := by decide +kernel
theorem d_cText_addPacked_35 : decode b_cText_addPacked 35 = .ok (.return_, 1) := by decide +kernel
theorem d_cText_clear_0 : decode b_cText_clear 0 = .ok (.aload_n 0, 1) := by decide +kernel
theorem d_cText_clear_1 : decode b_cText_clear 1 = .ok (.iconst 0, 1) := by decide +kernel
theorem d_cText_clear_2 : decode b_cText_clear 2 = .ok (.putfield 7, 3) := by decide +kernel
theorem d_cText_clear_5 : decode b_cText_clear 5 = .ok (.aload_n 0, 1) := by decide +kernel
theorem d_cText_clear_6 : decode b_cText_clear 6 = .ok (.iconst 0, 1) := by decide +kernel
theorem d_cText_clear_7 : decode b_cText_clear 7 = .ok (.putfield 13, 3) := by decide +kernel
theorem d_cText_clear_10 : decode b_cText_clear 10 = .ok (.return_, 1) := by decide +kernel
theorem d_cText_addNumber_0 : decode b_cText_addNumber 0 = .ok (.iconst 1, 1) := by decide +kernel
theorem d_cText_addNumber_1 : decode b_cText_addNumber 1 = .ok (.istore_n 2, 1) := by decide +kernel
theorem d_cText_addNumber_2 : decode b_cText_addNumber 2 = .ok (.iload_n 2, 1) := by decide +kernel
theorem d_cText_addNumber_3 : decode b_cText_addNumber 3 = .ok (.iload_n 1, 1) := by decide +kernel
theorem d_cText_addNumber_4 : decode b_cText_addNumber 4 = .ok (.bipush 10, 2) := by decide +kernel
theorem d_cText_addNumber_6 : decode b_cText_addNumber 6 = .ok (.idiv, 1) := by decide +kernel
theorem d_cText_addNumber_7 : decode b_cText_addNumber 7 = .ok (.if_icmp .gt 11, 3) := by decide +kernel
theorem d_cText_addNumber_10 : decode b_cText_addNumber 10 = .ok (.iload_n 2, 1) := by decide +kernel
theorem d_cText_addNumber_11 : decode b_cText_addNumber 11 = .ok (.bipush 10, 2) := by decide +kernel
theorem d_cText_addNumber_13 : decode b_cText_addNumber 13 = .ok (.imul, 1) := by decide +kernel
theorem d_cText_addNumber_14 : decode b_cText_addNumber 14 = .ok (.istore_n 2, 1) := by decide +kernel
theorem d_cText_addNumber_15 : decode b_cText_addNumber 15 = .ok (.goto (-13), 3) := by decide +kernel
theorem d_cText_addNumber_18 : decode b_cText_addNumber 18 = .ok (.iload_n 2, 1) := by decide +kernel
theorem d_cText_addNumber_19 : decode b_cText_addNumber 19 = .ok (.istore_n 3, 1) := by decide +kernel
theorem d_cText_addNumber_20 : decode b_cText_addNumber 20 = .ok (.iload_n 3, 1) := by decide +kernel
theorem d_cText_addNumber_21 : decode b_cText_addNumber 21 = .ok (.ifCond .le 25, 3) := by decide +kernel
theorem d_cText_addNumber_24 : decode b_cText_addNumber 24 = .ok (.aload_n 0, 1) := by decide +kernel
theorem d_cText_addNumber_25 : decode b_cText_addNumber 25 = .ok (.bipush 48, 2) := by decide +kernel
theorem d_cText_addNumber_27 : decode b_cText_addNumber 27 = .ok (.iload_n 1, 1) := by decide +kernel
theorem d_cText_addNumber_28 : decode b_cText_addNumber 28 = .ok (.iload_n 3, 1) := by decide +kernel
theorem d_cText_addNumber_29 : decode b_cText_addNumber 29 = .ok (.idiv, 1) := by decide +kernel
theorem d_cText_addNumber_30 : decode b_cText_addNumber 30 = .ok (.bipush 10, 2) := by decide +kernel
theorem d_cText_addNumber_32 : decode b_cText_addNumber 32 = .ok (.irem, 1) := by decide +kernel
theorem d_cText_addNumber_33 : decode b_cText_addNumber 33 = .ok (.iadd, 1) := by decide +kernel
theorem d_cText_addNumber_34 : decode b_cText_addNumber 34 = .ok (.i2c, 1) := by decide +kernel
theorem d_cText_addNumber_35 : decode b_cText_addNumber 35 = .ok (.invokevirtual 31, 3) := by decide +kernel
theorem d_cText_addNumber_38 : decode b_cText_addNumber 38 = .ok (.iload_n 3, 1) := by decide +kernel
theorem d_cText_addNumber_39 : decode b_cText_addNumber 39 = .ok (.bipush 10, 2) := by decide +kernel
theorem d_cText_addNumber_41 : decode b_cText_addNumber 41 = .ok (.idiv, 1) := by decide +kernel
theorem d_cText_addNumber_42 : decode b_cText_addNumber 42 = .ok (.istore_n 3, 1) := by decide +kernel
theorem d_cText_addNumber_43 : decode b_cText_addNumber 43 = .ok (.goto (-23), 3) := by decide +kernel
theorem d_cText_addNumber_46 : decode b_cText_addNumber 46 = .ok (.return_, 1) := by decide +kernel
theorem d_cText_addPiece_0 : decode b_cText_addPiece 0 = .ok (.iload_n 3, 1) := by decide +kernel
theorem d_cText_addPiece_1 : decode b_cText_addPiece 1 = .ok (.iload_n 2, 1) := by decide +kernel
theorem d_cText_addPiece_2 : decode b_cText_addPiece 2 = .ok (.isub, 1) := by decide +kernel
theorem d_cText_addPiece_3 : decode b_cText_addPiece 3 = .ok (.istore 4, 2) := by decide +kernel
theorem d_cText_addPiece_5 : decode b_cText_addPiece 5 = .ok (.iload_n 2, 1) := by decide +kernel
theorem d_cText_addPiece_6 : decode b_cText_addPiece 6 = .ok (.ifCond .lt 31, 3) := by decide +kernel
theorem d_cText_addPiece_9 : decode b_cText_addPiece 9 = .ok (.iload 4, 2) := by decide +kernel
theorem d_cText_addPiece_11 : decode b_cText_addPiece 11 = .ok (.ifCond .lt 26, 3) := by decide +kernel
theorem d_cText_addPiece_14 : decode b_cText_addPiece 14 = .ok (.iload_n 3, 1) := by decide +kernel
theorem d_cText_addPiece_15 : decode b_cText_addPiece 15 = .ok (.aload_n 1, 1) := by decide +kernel
theorem d_cText_addPiece_16 : decode b_cText_addPiece 16 = .ok (.getfield 7, 3) := by decide +kernel
theorem d_cText_addPiece_19 : decode b_cText_addPiece 19 = .ok (.if_icmp .gt 18, 3) := by decide +kernel
theorem d_cText_addPiece_22 : decode b_cText_addPiece 22 = .ok (.iload 4, 2) := by decide +kernel
theorem d_cText_addPiece_24 : decode b_cText_addPiece 24 = .ok (.aload_n 0, 1) := by decide +kernel
theorem d_cText_addPiece_25 : decode b_cText_addPiece 25 = .ok (.getfield 17, 3) := by decide +kernel
theorem d_cText_addPiece_28 : decode b_cText_addPiece 28 = .ok (.arraylength, 1) := by decide +kernel
theorem d_cText_addPiece_29 : decode b_cText_addPiece 29 = .ok (.aload_n 0, 1) := by decide +kernel
theorem d_cText_addPiece_30 : decode b_cText_addPiece 30 = .ok (.getfield 7, 3) := by decide +kernel
theorem d_cText_addPiece_33 : decode b_cText_addPiece 33 = .ok (.isub, 1) := by decide +kernel
theorem d_cText_addPiece_34 : decode b_cText_addPiece 34 = .ok (.if_icmp .le 10, 3) := by decide +kernel
theorem d_cText_addPiece_37 : decode b_cText_addPiece 37 = .ok (.aload_n 0, 1) := by decide +kernel
theorem d_cText_addPiece_38 : decode b_cText_addPiece 38 = .ok (.iconst 1, 1) := by decide +kernel
theorem d_cText_addPiece_39 : decode b_cText_addPiece 39 = .ok (.putfield 13, 3) := by decide +kernel
theorem d_cText_addPiece_42 : decode b_cText_addPiece 42 = .ok (.iconst 0, 1) := by decide +kernel
theorem d_cText_addPiece_43 : decode b_cText_addPiece 43 = .ok (.ireturn, 1) := by decide +kernel
theorem d_cText_addPiece_44 : decode b_cText_addPiece 44 = .ok (.aload_n 1, 1) := by decide +kernel
theorem d_cText_addPiece_45 : decode b_cText_addPiece 45 = .ok (.getfield 17, 3) := by decide +kernel
theorem d_cText_addPiece_48 : decode b_cText_addPiece 48 = .ok (.iload_n 2, 1) := by decide +kernel
theorem d_cText_addPiece_49 : decode b_cText_addPiece 49 = .ok (.aload_n 0, 1) := by decide +kernel
theorem d_cText_addPiece_50 : decode b_cText_addPiece 50 = .ok (.getfield 17, 3) := by decide +kernel
theorem d_cText_addPiece_53 : decode b_cText_addPiece 53 = .ok (.aload_n 0, 1) := by decide +kernel
theorem d_cText_addPiece_54 : decode b_cText_addPiece 54 = .ok (.getfield 7, 3) := by decide +kernel
theorem d_cText_addPiece_57 : decode b_cText_addPiece 57 = .ok (.iload 4, 2) := by decide +kernel
theorem d_cText_addPiece_59 : decode b_cText_addPiece 59 = .ok (.invokestatic 21, 3) := by decide +kernel
theorem d_cText_addPiece_62 : decode b_cText_addPiece 62 = .ok (.aload_n 0, 1) := by decide +kernel
theorem d_cText_addPiece_63 : decode b_cText_addPiece 63 = .ok (.dup, 1) := by decide +kernel
theorem d_cText_addPiece_64 : decode b_cText_addPiece 64 = .ok (.getfield 7, 3) := by decide +kernel
theorem d_cText_addPiece_67 : decode b_cText_addPiece 67 = .ok (.iload 4, 2) := by decide +kernel
theorem d_cText_addPiece_69 : decode b_cText_addPiece 69 = .ok (.iadd, 1) := by decide +kernel
theorem d_cText_addPiece_70 : decode b_cText_addPiece 70 = .ok (.putfield 7, 3) := by decide +kernel
theorem d_cText_addPiece_73 : decode b_cText_addPiece 73 = .ok (.iconst 1, 1) := by decide +kernel
theorem d_cText_addPiece_74 : decode b_cText_addPiece 74 = .ok (.ireturn, 1) := by decide +kernel
theorem d_cText_addAll_0 : decode b_cText_addAll 0 = .ok (.aload_n 0, 1) := by decide +kernel
theorem d_cText_addAll_1 : decode b_cText_addAll 1 = .ok (.aload_n 1, 1) := by decide +kernel
theorem d_cText_addAll_2 : decode b_cText_addAll 2 = .ok (.iconst 0, 1) := by decide +kernel
theorem d_cText_addAll_3 : decode b_cText_addAll 3 = .ok (.aload_n 1, 1) := by decide +kernel
theorem d_cText_addAll_4 : decode b_cText_addAll 4 = .ok (.getfield 7, 3) := by decide +kernel
theorem d_cText_addAll_7 : decode b_cText_addAll 7 = .ok (.invokevirtual 27, 3) := by decide +kernel
theorem d_cText_addAll_10 : decode b_cText_addAll 10 = .ok (.ireturn, 1) := by decide +kernel
theorem cw_cText_add {R : Room} {s : State} {args : Array Value} {own : String} {ix : Nat} (hts : ∀ w ∈ zt, w.before args s = true) (hl : (Cond.methodLink own ix y_cText_add).before args s = true) (h1 : 1 ≤ R.frames) (h2 : 21 ≤ R.locals) : CallW R s args own "TreeShell$Text" ix y_cText_add b_cText_add 2 none (.code y_cText_add b_cText_add 2 none :: zt) { frames := 0, cells := 0, slots := 0, locals := 0 } 0 0 1 := ⟨callB_of 1 hts (zgood w_378) rfl rfl rfl (hts _ w_69) hl ⟨by decide, by decide, by decide +kernel⟩ ⟨h1, h2⟩, hts _ w_376, hts _ w_377⟩
theorem cw_cText_addPacked {R : Room} {s : State} {args : Array Value} {own : String} {ix : Nat} (hts : ∀ w ∈ zt, w.before args s = true) (hl : (Cond.methodLink own ix y_cText_addPacked).before args s = true) (h1 : 2 ≤ R.frames) (h2 : 45 ≤ R.locals) : CallW R s args own "TreeShell$Text" ix y_cText_addPacked b_cText_addPacked 5 none (.code y_cText_addPacked b_cText_addPacked 5 none :: zt) { frames := 1, cells := 0, slots := 0, locals := 21 } 0 0 1 := ⟨callB_of 1 hts (zgood w_373) rfl rfl rfl (hts _ w_69) hl ⟨by decide, by decide, by decide +kernel⟩ ⟨h1, h2⟩, hts _ w_371, hts _ w_372⟩
theorem cw_cText_clear {R : Room} {s : State} {args : Array Value} {own : String} {ix : Nat} (hts : ∀ w ∈ zt, w.before args s = true) (hl : (Cond.methodLink own ix y_cText_clear).before args s = true) (h1 : 1 ≤ R.frames) (h2 : 20 ≤ R.locals) : CallW R s args own "TreeShell$Text" ix y_cText_clear b_cText_clear 1 none (.code y_cText_clear b_cText_clear 1 none :: zt) { frames := 0, cells := 0, slots := 0, locals := 0 } 0 0 0 := ⟨callB_of 0 hts (zgood w_386) rfl rfl rfl (hts _ w_69) hl ⟨by decide, by decide, by decide +kernel⟩ ⟨h1, h2⟩, hts _ w_384, hts _ w_385⟩
theorem cw_cText_addNumber {R : Room} {s : State} {args : Array Value} {own : String} {ix : Nat} (hts : ∀ w ∈ zt, w.before args s = true) (hl : (Cond.methodLink own ix y_cText_addNumber).before args s = true) (h1 : 2 ≤ R.frames) (h2 : 44 ≤ R.locals) : CallW R s args own "TreeShell$Text" ix y_cText_addNumber b_cText_addNumber 4 none (.code y_cText_addNumber b_cText_addNumber 4 none :: zt) { frames := 1, cells := 0, slots := 0, locals := 21 } 0 0 1 := ⟨callB_of 1 hts (zgood w_501) rfl rfl rfl (hts _ w_69) hl ⟨by decide, by decide, by decide +kernel⟩ ⟨h1, h2⟩, hts _ w_499, hts _ w_500⟩
theorem cw_cText_addPiece {R : Room} {s : State} {args : Array Value} {own : String} {ix : Nat} (hts : ∀ w ∈ zt, w.before args s = true) (hl : (Cond.methodLink own ix y_cText_addPiece).before args s = true) (h1 : 6 ≤ R.frames) (h2 : 169 ≤ R.locals) : CallW R s args own "TreeShell$Text" ix y_cText_addPiece b_cText_addPiece 5 (some .boolean) (.code y_cText_addPiece b_cText_addPiece 5 (some .boolean) :: zt) { frames := 5, cells := 0, slots := 0, locals := 145 } 0 0 3 := ⟨callB_of 3 hts (zgood w_535) rfl rfl rfl (hts _ w_69) hl ⟨by decide, by decide, by decide +kernel⟩ ⟨h1, h2⟩, hts _ w_533, hts _ w_534⟩
theorem cw_cText_addAll {R : Room} {s : State} {args : Array Value} {own : String} {ix : Nat} (hts : ∀ w ∈ zt, w.before args s = true) (hl : (Cond.methodLink own ix y_cText_addAll).before args s = true) (h1 : 7 ≤ R.frames) (h2 : 190 ≤ R.locals) : CallW R s args own "TreeShell$Text" ix y_cText_addAll b_cText_addAll 2 (some .boolean) (.code y_cText_addAll b_cText_addAll 2 (some .boolean) :: zt) { frames := 6, cells := 0, slots := 0, locals := 169 } 0 0 1 := ⟨callB_of 1 hts (zgood w_531) rfl rfl rfl (hts _ w_69) hl ⟨by decide, by decide, by decide +kernel⟩ ⟨h1, h2⟩, hts _ w_529, hts _ w_530⟩
