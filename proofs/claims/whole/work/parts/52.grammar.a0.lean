theorem d_cGrammar_readRedirections_0 : decode b_cGrammar_readRedirections 0 = .ok (.iconst 0, 1) := by decide +kernel
theorem d_cGrammar_readRedirections_1 : decode b_cGrammar_readRedirections 1 = .ok (.istore_n 1, 1) := by decide +kernel
theorem d_cGrammar_readRedirections_2 : decode b_cGrammar_readRedirections 2 = .ok (.iload_n 1, 1) := by decide +kernel
theorem d_cGrammar_readRedirections_3 : decode b_cGrammar_readRedirections 3 = .ok (.aload_n 0, 1) := by decide +kernel
theorem d_cGrammar_readRedirections_4 : decode b_cGrammar_readRedirections 4 = .ok (.getfield 15, 3) := by decide +kernel
theorem d_cGrammar_readRedirections_7 : decode b_cGrammar_readRedirections 7 = .ok (.getfield 25, 3) := by decide +kernel
theorem d_cGrammar_readRedirections_10 : decode b_cGrammar_readRedirections 10 = .ok (.if_icmp .ge 53, 3) := by decide +kernel
theorem d_cGrammar_readRedirections_13 : decode b_cGrammar_readRedirections 13 = .ok (.aload_n 0, 1) := by decide +kernel
theorem d_cGrammar_readRedirections_14 : decode b_cGrammar_readRedirections 14 = .ok (.getfield 15, 3) := by decide +kernel
theorem d_cGrammar_readRedirections_17 : decode b_cGrammar_readRedirections 17 = .ok (.aload_n 0, 1) := by decide +kernel
theorem d_cGrammar_readRedirections_18 : decode b_cGrammar_readRedirections 18 = .ok (.getfield 9, 3) := by decide +kernel
theorem d_cGrammar_readRedirections_21 : decode b_cGrammar_readRedirections 21 = .ok (.invokevirtual 51, 3) := by decide +kernel
theorem d_cGrammar_readRedirections_24 : decode b_cGrammar_readRedirections 24 = .ok (.ifCond .eq 39, 3) := by decide +kernel
theorem d_cGrammar_readRedirections_27 : decode b_cGrammar_readRedirections 27 = .ok (.aload_n 0, 1) := by decide +kernel
theorem d_cGrammar_readRedirections_28 : decode b_cGrammar_readRedirections 28 = .ok (.getfield 15, 3) := by decide +kernel
theorem d_cGrammar_readRedirections_31 : decode b_cGrammar_readRedirections 31 = .ok (.aload_n 0, 1) := by decide +kernel
theorem d_cGrammar_readRedirections_32 : decode b_cGrammar_readRedirections 32 = .ok (.getfield 9, 3) := by decide +kernel
theorem d_cGrammar_readRedirections_35 : decode b_cGrammar_readRedirections 35 = .ok (.iconst 1, 1) := by decide +kernel
theorem d_cGrammar_readRedirections_36 : decode b_cGrammar_readRedirections 36 = .ok (.iadd, 1) := by decide +kernel
theorem d_cGrammar_readRedirections_37 : decode b_cGrammar_readRedirections 37 = .ok (.invokevirtual 35, 3) := by decide +kernel
theorem d_cGrammar_readRedirections_40 : decode b_cGrammar_readRedirections 40 = .ok (.bipush 10, 2) := by decide +kernel
theorem d_cGrammar_readRedirections_42 : decode b_cGrammar_readRedirections 42 = .ok (.if_icmp .eq 5, 3) := by decide +kernel
theorem d_cGrammar_readRedirections_45 : decode b_cGrammar_readRedirections 45 = .ok (.iconst 0, 1) := by decide +kernel
theorem d_cGrammar_readRedirections_46 : decode b_cGrammar_readRedirections 46 = .ok (.ireturn, 1) := by decide +kernel
theorem d_cGrammar_readRedirections_47 : decode b_cGrammar_readRedirections 47 = .ok (.aload_n 0, 1) := by decide +kernel
theorem d_cGrammar_readRedirections_48 : decode b_cGrammar_readRedirections 48 = .ok (.dup, 1) := by decide +kernel
theorem d_cGrammar_readRedirections_49 : decode b_cGrammar_readRedirections 49 = .ok (.getfield 9, 3) := by decide +kernel
theorem d_cGrammar_readRedirections_52 : decode b_cGrammar_readRedirections 52 = .ok (.iconst 2, 1) := by decide +kernel
theorem d_cGrammar_readRedirections_53 : decode b_cGrammar_readRedirections 53 = .ok (.iadd, 1) := by decide +kernel
theorem d_cGrammar_readRedirections_54 : decode b_cGrammar_readRedirections 54 = .ok (.putfield 9, 3) := by decide +kernel
theorem d_cGrammar_readRedirections_57 : decode b_cGrammar_readRedirections 57 = .ok (.iinc 1 1, 3) := by decide +kernel
theorem d_cGrammar_readRedirections_60 : decode b_cGrammar_readRedirections 60 = .ok (.goto (-58), 3) := by decide +kernel
theorem d_cGrammar_readRedirections_63 : decode b_cGrammar_readRedirections 63 = .ok (.iconst 1, 1) := by decide +kernel
theorem d_cGrammar_readRedirections_64 : decode b_cGrammar_readRedirections 64 = .ok (.ireturn, 1) := by decide +kernel
theorem d_cGrammar_readSimple_0 : decode b_cGrammar_readSimple 0 = .ok (.iconst 0, 1) := by decide +kernel
theorem d_cGrammar_readSimple_1 : decode b_cGrammar_readSimple 1 = .ok (.istore_n 1, 1) := by decide +kernel
theorem d_cGrammar_readSimple_2 : decode b_cGrammar_readSimple 2 = .ok (.iconst 0, 1) := by decide +kernel
theorem d_cGrammar_readSimple_3 : decode b_cGrammar_readSimple 3 = .ok (.istore_n 2, 1) := by decide +kernel
theorem d_cGrammar_readSimple_4 : decode b_cGrammar_readSimple 4 = .ok (.iload_n 2, 1) := by decide +kernel
theorem d_cGrammar_readSimple_5 : decode b_cGrammar_readSimple 5 = .ok (.aload_n 0, 1) := by decide +kernel
theorem d_cGrammar_readSimple_6 : decode b_cGrammar_readSimple 6 = .ok (.getfield 15, 3) := by decide +kernel
theorem d_cGrammar_readSimple_9 : decode b_cGrammar_readSimple 9 = .ok (.getfield 25, 3) := by decide +kernel
theorem d_cGrammar_readSimple_12 : decode b_cGrammar_readSimple 12 = .ok (.if_icmp .ge 48, 3) := by decide +kernel
theorem d_cGrammar_readSimple_15 : decode b_cGrammar_readSimple 15 = .ok (.aload_n 0, 1) := by decide +kernel
theorem d_cGrammar_readSimple_16 : decode b_cGrammar_readSimple 16 = .ok (.invokevirtual 48, 3) := by decide +kernel
theorem d_cGrammar_readSimple_19 : decode b_cGrammar_readSimple 19 = .ok (.ifCond .ne 5, 3) := by decide +kernel
theorem d_cGrammar_readSimple_22 : decode b_cGrammar_readSimple 22 = .ok (.iconst 0, 1) := by decide +kernel
theorem d_cGrammar_readSimple_23 : decode b_cGrammar_readSimple 23 = .ok (.ireturn, 1) := by decide +kernel
theorem d_cGrammar_readSimple_24 : decode b_cGrammar_readSimple 24 = .ok (.aload_n 0, 1) := by decide +kernel
theorem d_cGrammar_readSimple_25 : decode b_cGrammar_readSimple 25 = .ok (.getfield 15, 3) := by decide +kernel
theorem d_cGrammar_readSimple_28 : decode b_cGrammar_readSimple 28 = .ok (.aload_n 0, 1) := by decide +kernel
theorem d_cGrammar_readSimple_29 : decode b_cGrammar_readSimple 29 = .ok (.getfield 9, 3) := by decide +kernel
theorem d_cGrammar_readSimple_32 : decode b_cGrammar_readSimple 32 = .ok (.invokevirtual 35, 3) := by decide +kernel
theorem d_cGrammar_readSimple_35 : decode b_cGrammar_readSimple 35 = .ok (.bipush 10, 2) := by decide +kernel
theorem d_cGrammar_readSimple_37 : decode b_cGrammar_readSimple 37 = .ok (.if_icmp .eq 5, 3) := by decide +kernel
theorem d_cGrammar_readSimple_40 : decode b_cGrammar_readSimple 40 = .ok (.iload_n 1, 1) := by decide +kernel
theorem d_cGrammar_readSimple_41 : decode b_cGrammar_readSimple 41 = .ok (.ireturn, 1) := by decide +kernel
theorem d_cGrammar_readSimple_42 : decode b_cGrammar_readSimple 42 = .ok (.iconst 1, 1) := by decide +kernel
theorem d_cGrammar_readSimple_43 : decode b_cGrammar_readSimple 43 = .ok (.istore_n 1, 1) := by decide +kernel
theorem d_cGrammar_readSimple_44 : decode b_cGrammar_readSimple 44 = .ok (.aload_n 0, 1) := by decide +kernel
theorem d_cGrammar_readSimple_45 : decode b_cGrammar_readSimple 45 = .ok (.dup, 1) := by decide +kernel
theorem d_cGrammar_readSimple_46 : decode b_cGrammar_readSimple 46 = .ok (.getfield 9, 3) := by decide +kernel
theorem d_cGrammar_readSimple_49 : decode b_cGrammar_readSimple 49 = .ok (.iconst 1, 1) := by decide +kernel
theorem d_cGrammar_readSimple_50 : decode b_cGrammar_readSimple 50 = .ok (.iadd, 1) := by decide +kernel
theorem d_cGrammar_readSimple_51 : decode b_cGrammar_readSimple 51 = .ok (.putfield 9, 3) := by decide +kernel
theorem d_cGrammar_readSimple_54 : decode b_cGrammar_readSimple 54 = .ok (.iinc 2 1, 3) := by decide +kernel
theorem d_cGrammar_readSimple_57 : decode b_cGrammar_readSimple 57 = .ok (.goto (-53), 3) := by decide +kernel
theorem d_cGrammar_readSimple_60 : decode b_cGrammar_readSimple 60 = .ok (.iload_n 1, 1) := by decide +kernel
theorem d_cGrammar_readSimple_61 : decode b_cGrammar_readSimple 61 = .ok (.ireturn, 1) := by decide +kernel
theorem d_cGrammar_isListEnd_0 : decode b_cGrammar_isListEnd 0 = .ok (.aload_n 0, 1) := by decide +kernel
theorem d_cGrammar_isListEnd_1 : decode b_cGrammar_isListEnd 1 = .ok (.getfield 15, 3) := by decide +kernel
theorem d_cGrammar_isListEnd_4 : decode b_cGrammar_isListEnd 4 = .ok (.aload_n 0, 1) := by decide +kernel
theorem d_cGrammar_isListEnd_5 : decode b_cGrammar_isListEnd 5 = .ok (.getfield 9, 3) := by decide +kernel
theorem d_cGrammar_isListEnd_8 : decode b_cGrammar_isListEnd 8 = .ok (.invokevirtual 35, 3) := by decide +kernel
theorem d_cGrammar_isListEnd_11 : decode b_cGrammar_isListEnd 11 = .ok (.istore_n 1, 1) := by decide +kernel
theorem d_cGrammar_isListEnd_12 : decode b_cGrammar_isListEnd 12 = .ok (.iload_n 1, 1) := by decide +kernel
theorem d_cGrammar_isListEnd_13 : decode b_cGrammar_isListEnd 13 = .ok (.bipush 6, 2) := by decide +kernel
theorem d_cGrammar_isListEnd_15 : decode b_cGrammar_isListEnd 15 = .ok (.if_icmp .eq 9, 3) := by decide +kernel
theorem d_cGrammar_isListEnd_18 : decode b_cGrammar_isListEnd 18 = .ok (.iload_n 1, 1) := by decide +kernel
theorem d_cGrammar_isListEnd_19 : decode b_cGrammar_isListEnd 19 = .ok (.bipush 11, 2) := by decide +kernel
theorem d_cGrammar_isListEnd_21 : decode b_cGrammar_isListEnd 21 = .ok (.if_icmp .ne 7, 3) := by decide +kernel
theorem d_cGrammar_isListEnd_24 : decode b_cGrammar_isListEnd 24 = .ok (.iconst 1, 1) := by decide +kernel
theorem d_cGrammar_isListEnd_25 : decode b_cGrammar_isListEnd 25 = .ok (.goto 4, 3) := by decide +kernel
theorem d_cGrammar_isListEnd_28 : decode b_cGrammar_isListEnd 28 = .ok (.iconst 0, 1) := by decide +kernel
theorem d_cGrammar_isListEnd_29 : decode b_cGrammar_isListEnd 29 = .ok (.ireturn, 1) := by decide +kernel
theorem cw_cGrammar_readRedirections {R : Room} {s : State} {args : Array Value} {own : String} {ix : Nat} (hts : ∀ w ∈ zt, w.before args s = true) (hl : (Cond.methodLink own ix y_cGrammar_readRedirections).before args s = true) (h1 : 2 ≤ R.frames) (h2 : 42 ≤ R.locals) : CallW R s args own "TreeShell$Grammar" ix y_cGrammar_readRedirections b_cGrammar_readRedirections 2 (some .boolean) (.code y_cGrammar_readRedirections b_cGrammar_readRedirections 2 (some .boolean) :: zt) { frames := 1, cells := 0, slots := 0, locals := 21 } 0 0 0 := ⟨callB_of 0 hts (zgood w_438) rfl rfl rfl (hts _ w_71) hl ⟨by decide, by decide, by decide +kernel⟩ ⟨h1, h2⟩, hts _ w_437, hts _ w_6⟩
theorem cw_cGrammar_readSimple {R : Room} {s : State} {args : Array Value} {own : String} {ix : Nat} (hts : ∀ w ∈ zt, w.before args s = true) (hl : (Cond.methodLink own ix y_cGrammar_readSimple).before args s = true) (h1 : 3 ≤ R.frames) (h2 : 64 ≤ R.locals) : CallW R s args own "TreeShell$Grammar" ix y_cGrammar_readSimple b_cGrammar_readSimple 3 (some .boolean) (.code y_cGrammar_readSimple b_cGrammar_readSimple 3 (some .boolean) :: zt) { frames := 2, cells := 0, slots := 0, locals := 42 } 0 0 0 := ⟨callB_of 0 hts (zgood w_434) rfl rfl rfl (hts _ w_71) hl ⟨by decide, by decide, by decide +kernel⟩ ⟨h1, h2⟩, hts _ w_433, hts _ w_5⟩
theorem cw_cGrammar_isListEnd {R : Room} {s : State} {args : Array Value} {own : String} {ix : Nat} (hts : ∀ w ∈ zt, w.before args s = true) (hl : (Cond.methodLink own ix y_cGrammar_isListEnd).before args s = true) (h1 : 2 ≤ R.frames) (h2 : 42 ≤ R.locals) : CallW R s args own "TreeShell$Grammar" ix y_cGrammar_isListEnd b_cGrammar_isListEnd 2 (some .boolean) (.code y_cGrammar_isListEnd b_cGrammar_isListEnd 2 (some .boolean) :: zt) { frames := 1, cells := 0, slots := 0, locals := 21 } 0 0 0 := ⟨callB_of 0 hts (zgood w_446) rfl rfl rfl (hts _ w_71) hl ⟨by decide, by decide, by decide +kernel⟩ ⟨h1, h2⟩, hts _ w_445, hts _ w_7⟩
