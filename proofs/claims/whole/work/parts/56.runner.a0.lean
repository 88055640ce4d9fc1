theorem d_cRunner_forget_0 : decode b_cRunner_forget 0 = .ok (.aload_n 0, 1) := by decide +kernel
theorem d_cRunner_forget_1 : decode b_cRunner_forget 1 = .ok (.getfield 29, 3) := by decide +kernel
theorem d_cRunner_forget_4 : decode b_cRunner_forget 4 = .ok (.iconst 0, 1) := by decide +kernel
theorem d_cRunner_forget_5 : decode b_cRunner_forget 5 = .ok (.aaload, 1) := by decide +kernel
theorem d_cRunner_forget_6 : decode b_cRunner_forget 6 = .ok (.getfield 65, 3) := by decide +kernel
theorem d_cRunner_forget_9 : decode b_cRunner_forget 9 = .ok (.invokevirtual 68, 3) := by decide +kernel
theorem d_cRunner_forget_12 : decode b_cRunner_forget 12 = .ok (.aload_n 0, 1) := by decide +kernel
theorem d_cRunner_forget_13 : decode b_cRunner_forget 13 = .ok (.iconst 0, 1) := by decide +kernel
theorem d_cRunner_forget_14 : decode b_cRunner_forget 14 = .ok (.putfield 37, 3) := by decide +kernel
theorem d_cRunner_forget_17 : decode b_cRunner_forget 17 = .ok (.return_, 1) := by decide +kernel
theorem d_cRunner_isDue_0 : decode b_cRunner_isDue 0 = .ok (.iload_n 1, 1) := by decide +kernel
theorem d_cRunner_isDue_1 : decode b_cRunner_isDue 1 = .ok (.iconst 1, 1) := by decide +kernel
theorem d_cRunner_isDue_2 : decode b_cRunner_isDue 2 = .ok (.if_icmp .ne 16, 3) := by decide +kernel
theorem d_cRunner_isDue_5 : decode b_cRunner_isDue 5 = .ok (.aload_n 0, 1) := by decide +kernel
theorem d_cRunner_isDue_6 : decode b_cRunner_isDue 6 = .ok (.getfield 33, 3) := by decide +kernel
theorem d_cRunner_isDue_9 : decode b_cRunner_isDue 9 = .ok (.ifCond .ne 7, 3) := by decide +kernel
theorem d_cRunner_isDue_12 : decode b_cRunner_isDue 12 = .ok (.iconst 1, 1) := by decide +kernel
theorem d_cRunner_isDue_13 : decode b_cRunner_isDue 13 = .ok (.goto 4, 3) := by decide +kernel
theorem d_cRunner_isDue_16 : decode b_cRunner_isDue 16 = .ok (.iconst 0, 1) := by decide +kernel
theorem d_cRunner_isDue_17 : decode b_cRunner_isDue 17 = .ok (.ireturn, 1) := by decide +kernel
theorem d_cRunner_isDue_18 : decode b_cRunner_isDue 18 = .ok (.iload_n 1, 1) := by decide +kernel
theorem d_cRunner_isDue_19 : decode b_cRunner_isDue 19 = .ok (.iconst 2, 1) := by decide +kernel
theorem d_cRunner_isDue_20 : decode b_cRunner_isDue 20 = .ok (.if_icmp .ne 10, 3) := by decide +kernel
theorem d_cRunner_isDue_23 : decode b_cRunner_isDue 23 = .ok (.aload_n 0, 1) := by decide +kernel
theorem d_cRunner_isDue_24 : decode b_cRunner_isDue 24 = .ok (.getfield 33, 3) := by decide +kernel
theorem d_cRunner_isDue_27 : decode b_cRunner_isDue 27 = .ok (.ifCond .eq 7, 3) := by decide +kernel
theorem d_cRunner_isDue_30 : decode b_cRunner_isDue 30 = .ok (.iconst 1, 1) := by decide +kernel
theorem d_cRunner_isDue_31 : decode b_cRunner_isDue 31 = .ok (.goto 4, 3) := by decide +kernel
theorem d_cRunner_isDue_34 : decode b_cRunner_isDue 34 = .ok (.iconst 0, 1) := by decide +kernel
theorem d_cRunner_isDue_35 : decode b_cRunner_isDue 35 = .ok (.ireturn, 1) := by decide +kernel
theorem d_cRunner_redirectInput_0 : decode b_cRunner_redirectInput 0 = .ok (.aload_n 0, 1) := by decide +kernel
theorem d_cRunner_redirectInput_1 : decode b_cRunner_redirectInput 1 = .ok (.getfield 44, 3) := by decide +kernel
theorem d_cRunner_redirectInput_4 : decode b_cRunner_redirectInput 4 = .ok (.getfield 167, 3) := by decide +kernel
theorem d_cRunner_redirectInput_7 : decode b_cRunner_redirectInput 7 = .ok (.astore_n 2, 1) := by decide +kernel
theorem d_cRunner_redirectInput_8 : decode b_cRunner_redirectInput 8 = .ok (.aload_n 2, 1) := by decide +kernel
theorem d_cRunner_redirectInput_9 : decode b_cRunner_redirectInput 9 = .ok (.ifnull 10, 3) := by decide +kernel
theorem d_cRunner_redirectInput_12 : decode b_cRunner_redirectInput 12 = .ok (.aload_n 2, 1) := by decide +kernel
theorem d_cRunner_redirectInput_13 : decode b_cRunner_redirectInput 13 = .ok (.getfield 170, 3) := by decide +kernel
theorem d_cRunner_redirectInput_16 : decode b_cRunner_redirectInput 16 = .ok (.ifnonnull 5, 3) := by decide +kernel
theorem d_cRunner_redirectInput_19 : decode b_cRunner_redirectInput 19 = .ok (.iconst 1, 1) := by decide +kernel
theorem d_cRunner_redirectInput_20 : decode b_cRunner_redirectInput 20 = .ok (.ireturn, 1) := by decide +kernel
theorem d_cRunner_redirectInput_21 : decode b_cRunner_redirectInput 21 = .ok (.aload_n 1, 1) := by decide +kernel
theorem d_cRunner_redirectInput_22 : decode b_cRunner_redirectInput 22 = .ok (.getfield 124, 3) := by decide +kernel
theorem d_cRunner_redirectInput_25 : decode b_cRunner_redirectInput 25 = .ok (.invokevirtual 68, 3) := by decide +kernel
theorem d_cRunner_redirectInput_28 : decode b_cRunner_redirectInput 28 = .ok (.aload_n 1, 1) := by decide +kernel
theorem d_cRunner_redirectInput_29 : decode b_cRunner_redirectInput 29 = .ok (.getfield 124, 3) := by decide +kernel
theorem d_cRunner_redirectInput_32 : decode b_cRunner_redirectInput 32 = .ok (.aload_n 2, 1) := by decide +kernel
theorem d_cRunner_redirectInput_33 : decode b_cRunner_redirectInput 33 = .ok (.getfield 170, 3) := by decide +kernel
theorem d_cRunner_redirectInput_36 : decode b_cRunner_redirectInput 36 = .ok (.invokevirtual 109, 3) := by decide +kernel
theorem d_cRunner_redirectInput_39 : decode b_cRunner_redirectInput 39 = .ok (.pop, 1) := by decide +kernel
theorem d_cRunner_redirectInput_40 : decode b_cRunner_redirectInput 40 = .ok (.aload_n 1, 1) := by decide +kernel
theorem d_cRunner_redirectInput_41 : decode b_cRunner_redirectInput 41 = .ok (.iconst 1, 1) := by decide +kernel
theorem d_cRunner_redirectInput_42 : decode b_cRunner_redirectInput 42 = .ok (.putfield 113, 3) := by decide +kernel
theorem d_cRunner_redirectInput_45 : decode b_cRunner_redirectInput 45 = .ok (.iconst 0, 1) := by decide +kernel
theorem d_cRunner_redirectInput_46 : decode b_cRunner_redirectInput 46 = .ok (.ireturn, 1) := by decide +kernel
theorem d_cRunner_takeWords_0 : decode b_cRunner_takeWords 0 = .ok (.aload_n 0, 1) := by decide +kernel
theorem d_cRunner_takeWords_1 : decode b_cRunner_takeWords 1 = .ok (.getfield 23, 3) := by decide +kernel
theorem d_cRunner_takeWords_4 : decode b_cRunner_takeWords 4 = .ok (.invokevirtual 147, 3) := by decide +kernel
theorem d_cRunner_takeWords_7 : decode b_cRunner_takeWords 7 = .ok (.iload_n 1, 1) := by decide +kernel
theorem d_cRunner_takeWords_8 : decode b_cRunner_takeWords 8 = .ok (.istore_n 3, 1) := by decide +kernel
theorem d_cRunner_takeWords_9 : decode b_cRunner_takeWords 9 = .ok (.iload_n 3, 1) := by decide +kernel
theorem d_cRunner_takeWords_10 : decode b_cRunner_takeWords 10 = .ok (.iload_n 2, 1) := by decide +kernel
theorem d_cRunner_takeWords_11 : decode b_cRunner_takeWords 11 = .ok (.if_icmp .ge 38, 3) := by decide +kernel
theorem d_cRunner_takeWords_14 : decode b_cRunner_takeWords 14 = .ok (.aload_n 0, 1) := by decide +kernel
theorem d_cRunner_takeWords_15 : decode b_cRunner_takeWords 15 = .ok (.getfield 40, 3) := by decide +kernel
theorem d_cRunner_takeWords_18 : decode b_cRunner_takeWords 18 = .ok (.iload_n 3, 1) := by decide +kernel
theorem d_cRunner_takeWords_19 : decode b_cRunner_takeWords 19 = .ok (.iconst 1, 1) := by decide +kernel
theorem d_cRunner_takeWords_20 : decode b_cRunner_takeWords 20 = .ok (.isub, 1) := by decide +kernel
theorem d_cRunner_takeWords_21 : decode b_cRunner_takeWords 21 = .ok (.invokevirtual 148, 3) := by decide +kernel
theorem d_cRunner_takeWords_24 : decode b_cRunner_takeWords 24 = .ok (.ifCond .ne 19, 3) := by decide +kernel
theorem d_cRunner_takeWords_27 : decode b_cRunner_takeWords 27 = .ok (.aload_n 0, 1) := by decide +kernel
theorem d_cRunner_takeWords_28 : decode b_cRunner_takeWords 28 = .ok (.getfield 23, 3) := by decide +kernel
theorem d_cRunner_takeWords_31 : decode b_cRunner_takeWords 31 = .ok (.aload_n 0, 1) := by decide +kernel
theorem d_cRunner_takeWords_32 : decode b_cRunner_takeWords 32 = .ok (.getfield 40, 3) := by decide +kernel
theorem d_cRunner_takeWords_35 : decode b_cRunner_takeWords 35 = .ok (.iload_n 3, 1) := by decide +kernel
theorem d_cRunner_takeWords_36 : decode b_cRunner_takeWords 36 = .ok (.aload_n 0, 1) := by decide +kernel
theorem d_cRunner_takeWords_37 : decode b_cRunner_takeWords 37 = .ok (.getfield 33, 3) := by decide +kernel
theorem d_cRunner_takeWords_40 : decode b_cRunner_takeWords 40 = .ok (.invokevirtual 151, 3) := by decide +kernel
theorem d_cRunner_takeWords_43 : decode b_cRunner_takeWords 43 = .ok (.iinc 3 1, 3) := by decide +kernel
theorem d_cRunner_takeWords_46 : decode b_cRunner_takeWords 46 = .ok (.goto (-37), 3) := by decide +kernel
theorem d_cRunner_takeWords_49 : decode b_cRunner_takeWords 49 = .ok (.return_, 1) := by decide +kernel
theorem d_cRunner_output_0 : decode b_cRunner_output 0 = .ok (.aload_n 0, 1) := by decide +kernel
theorem d_cRunner_output_1 : decode b_cRunner_output 1 = .ok (.getfield 29, 3) := by decide +kernel
theorem d_cRunner_output_4 : decode b_cRunner_output 4 = .ok (.iconst 0, 1) := by decide +kernel
theorem d_cRunner_output_5 : decode b_cRunner_output 5 = .ok (.aaload, 1) := by decide +kernel
theorem d_cRunner_output_6 : decode b_cRunner_output 6 = .ok (.getfield 65, 3) := by decide +kernel
theorem d_cRunner_output_9 : decode b_cRunner_output 9 = .ok (.areturn, 1) := by decide +kernel
theorem cw_cRunner_forget {R : Room} {s : State} {args : Array Value} {own : String} {ix : Nat} (hts : ∀ w ∈ zt, w.before args s = true) (hl : (Cond.methodLink own ix y_cRunner_forget).before args s = true) (h1 : 2 ≤ R.frames) (h2 : 40 ≤ R.locals) : CallW R s args own "TreeShell$Runner" ix y_cRunner_forget b_cRunner_forget 1 none (.code y_cRunner_forget b_cRunner_forget 1 none :: zt) { frames := 1, cells := 0, slots := 0, locals := 20 } 0 0 0 := ⟨callB_of 0 hts (zgood w_458) rfl rfl rfl (hts _ w_75) hl ⟨by decide, by decide, by decide +kernel⟩ ⟨h1, h2⟩, hts _ w_456, hts _ w_457⟩
theorem cw_cRunner_isDue {R : Room} {s : State} {args : Array Value} {own : String} {ix : Nat} (hts : ∀ w ∈ zt, w.before args s = true) (hl : (Cond.methodLink own ix y_cRunner_isDue).before args s = true) (h1 : 1 ≤ R.frames) (h2 : 21 ≤ R.locals) : CallW R s args own "TreeShell$Runner" ix y_cRunner_isDue b_cRunner_isDue 2 (some .boolean) (.code y_cRunner_isDue b_cRunner_isDue 2 (some .boolean) :: zt) { frames := 0, cells := 0, slots := 0, locals := 0 } 0 0 1 := ⟨callB_of 1 hts (zgood w_473) rfl rfl rfl (hts _ w_75) hl ⟨by decide, by decide, by decide +kernel⟩ ⟨h1, h2⟩, hts _ w_472, hts _ w_9⟩
theorem cw_cRunner_redirectInput {R : Room} {s : State} {args : Array Value} {own : String} {ix : Nat} (hts : ∀ w ∈ zt, w.before args s = true) (hl : (Cond.methodLink own ix y_cRunner_redirectInput).before args s = true) (h1 : 8 ≤ R.frames) (h2 : 212 ≤ R.locals) : CallW R s args own "TreeShell$Runner" ix y_cRunner_redirectInput b_cRunner_redirectInput 3 (some .int) (.code y_cRunner_redirectInput b_cRunner_redirectInput 3 (some .int) :: zt) { frames := 7, cells := 0, slots := 0, locals := 190 } 0 0 1 := ⟨callB_of 1 hts (zgood w_527) rfl rfl rfl (hts _ w_75) hl ⟨by decide, by decide, by decide +kernel⟩ ⟨h1, h2⟩, hts _ w_526, hts _ w_14⟩
theorem cw_cRunner_takeWords {R : Room} {s : State} {args : Array Value} {own : String} {ix : Nat} (hts : ∀ w ∈ zt, w.before args s = true) (hl : (Cond.methodLink own ix y_cRunner_takeWords).before args s = true) (h1 : 4 ≤ R.frames) (h2 : 94 ≤ R.locals) : CallW R s args own "TreeShell$Runner" ix y_cRunner_takeWords b_cRunner_takeWords 4 none (.code y_cRunner_takeWords b_cRunner_takeWords 4 none :: zt) { frames := 3, cells := 0, slots := 0, locals := 71 } 0 0 2 := ⟨callB_of 2 hts (zgood w_562) rfl rfl rfl (hts _ w_75) hl ⟨by decide, by decide, by decide +kernel⟩ ⟨h1, h2⟩, hts _ w_561, hts _ w_17⟩
theorem cw_cRunner_output {R : Room} {s : State} {args : Array Value} {own : String} {ix : Nat} (hts : ∀ w ∈ zt, w.before args s = true) (hl : (Cond.methodLink own ix y_cRunner_output).before args s = true) (h1 : 1 ≤ R.frames) (h2 : 20 ≤ R.locals) : CallW R s args own "TreeShell$Runner" ix y_cRunner_output b_cRunner_output 1 (some (.object "TreeShell$Text")) (.code y_cRunner_output b_cRunner_output 1 (some (.object "TreeShell$Text")) :: zt) { frames := 0, cells := 0, slots := 0, locals := 0 } 0 0 0 := ⟨callB_of 0 hts (zgood w_702) rfl rfl rfl (hts _ w_75) hl ⟨by decide, by decide, by decide +kernel⟩ ⟨h1, h2⟩, hts _ w_700, hts _ w_701⟩
