theorem d_cWords_clear_0 : decode b_cWords_clear 0 = .ok (.aload_n 0, 1) := by decide +kernel
theorem d_cWords_clear_1 : decode b_cWords_clear 1 = .ok (.getfield 14, 3) := by decide +kernel
theorem d_cWords_clear_4 : decode b_cWords_clear 4 = .ok (.invokevirtual 28, 3) := by decide +kernel
theorem d_cWords_clear_7 : decode b_cWords_clear 7 = .ok (.aload_n 0, 1) := by decide +kernel
theorem d_cWords_clear_8 : decode b_cWords_clear 8 = .ok (.iconst 0, 1) := by decide +kernel
theorem d_cWords_clear_9 : decode b_cWords_clear 9 = .ok (.putfield 24, 3) := by decide +kernel
theorem d_cWords_clear_12 : decode b_cWords_clear 12 = .ok (.return_, 1) := by decide +kernel
theorem d_cWords_add_0 : decode b_cWords_add 0 = .ok (.aload_n 1, 1) := by decide +kernel
theorem d_cWords_add_1 : decode b_cWords_add 1 = .ok (.iload_n 2, 1) := by decide +kernel
theorem d_cWords_add_2 : decode b_cWords_add 2 = .ok (.invokevirtual 31, 3) := by decide +kernel
theorem d_cWords_add_5 : decode b_cWords_add 5 = .ok (.bipush 10, 2) := by decide +kernel
theorem d_cWords_add_7 : decode b_cWords_add 7 = .ok (.if_icmp .ne 15, 3) := by decide +kernel
theorem d_cWords_add_10 : decode b_cWords_add 10 = .ok (.aload_n 0, 1) := by decide +kernel
theorem d_cWords_add_11 : decode b_cWords_add 11 = .ok (.getfield 24, 3) := by decide +kernel
theorem d_cWords_add_14 : decode b_cWords_add 14 = .ok (.aload_n 0, 1) := by decide +kernel
theorem d_cWords_add_15 : decode b_cWords_add 15 = .ok (.getfield 20, 3) := by decide +kernel
theorem d_cWords_add_18 : decode b_cWords_add 18 = .ok (.arraylength, 1) := by decide +kernel
theorem d_cWords_add_19 : decode b_cWords_add 19 = .ok (.if_icmp .lt 4, 3) := by decide +kernel
theorem d_cWords_add_22 : decode b_cWords_add 22 = .ok (.return_, 1) := by decide +kernel
theorem d_cWords_add_23 : decode b_cWords_add 23 = .ok (.aload_n 1, 1) := by decide +kernel
theorem d_cWords_add_24 : decode b_cWords_add 24 = .ok (.getfield 37, 3) := by decide +kernel
theorem d_cWords_add_27 : decode b_cWords_add 27 = .ok (.getfield 40, 3) := by decide +kernel
theorem d_cWords_add_30 : decode b_cWords_add 30 = .ok (.astore 4, 2) := by decide +kernel
theorem d_cWords_add_32 : decode b_cWords_add 32 = .ok (.aload_n 1, 1) := by decide +kernel
theorem d_cWords_add_33 : decode b_cWords_add 33 = .ok (.getfield 44, 3) := by decide +kernel
theorem d_cWords_add_36 : decode b_cWords_add 36 = .ok (.iload_n 2, 1) := by decide +kernel
theorem d_cWords_add_37 : decode b_cWords_add 37 = .ok (.iaload, 1) := by decide +kernel
theorem d_cWords_add_38 : decode b_cWords_add 38 = .ok (.istore 5, 2) := by decide +kernel
theorem d_cWords_add_40 : decode b_cWords_add 40 = .ok (.iconst 0, 1) := by decide +kernel
theorem d_cWords_add_41 : decode b_cWords_add 41 = .ok (.istore 6, 2) := by decide +kernel
theorem d_cWords_add_43 : decode b_cWords_add 43 = .ok (.aload_n 1, 1) := by decide +kernel
theorem d_cWords_add_44 : decode b_cWords_add 44 = .ok (.getfield 45, 3) := by decide +kernel
theorem d_cWords_add_47 : decode b_cWords_add 47 = .ok (.iload_n 2, 1) := by decide +kernel
theorem d_cWords_add_48 : decode b_cWords_add 48 = .ok (.iaload, 1) := by decide +kernel
theorem d_cWords_add_49 : decode b_cWords_add 49 = .ok (.istore 7, 2) := by decide +kernel
theorem d_cWords_add_51 : decode b_cWords_add 51 = .ok (.iload 7, 2) := by decide +kernel
theorem d_cWords_add_53 : decode b_cWords_add 53 = .ok (.iload 5, 2) := by decide +kernel
theorem d_cWords_add_55 : decode b_cWords_add 55 = .ok (.if_icmp .ge 96, 3) := by decide +kernel
theorem d_cWords_add_58 : decode b_cWords_add 58 = .ok (.aload 4, 2) := by decide +kernel
theorem d_cWords_add_60 : decode b_cWords_add 60 = .ok (.iload 7, 2) := by decide +kernel
theorem d_cWords_add_62 : decode b_cWords_add 62 = .ok (.caload, 1) := by decide +kernel
theorem d_cWords_add_63 : decode b_cWords_add 63 = .ok (.bipush 39, 2) := by decide +kernel
theorem d_cWords_add_65 : decode b_cWords_add 65 = .ok (.if_icmp .ne 18, 3) := by decide +kernel
theorem d_cWords_add_68 : decode b_cWords_add 68 = .ok (.iload 6, 2) := by decide +kernel
theorem d_cWords_add_70 : decode b_cWords_add 70 = .ok (.ifCond .ne 7, 3) := by decide +kernel
theorem d_cWords_add_73 : decode b_cWords_add 73 = .ok (.iconst 1, 1) := by decide +kernel
theorem d_cWords_add_74 : decode b_cWords_add 74 = .ok (.goto 4, 3) := by decide +kernel
theorem d_cWords_add_77 : decode b_cWords_add 77 = .ok (.iconst 0, 1) := by decide +kernel
theorem d_cWords_add_78 : decode b_cWords_add 78 = .ok (.istore 6, 2) := by decide +kernel
theorem d_cWords_add_80 : decode b_cWords_add 80 = .ok (.goto 65, 3) := by decide +kernel
theorem d_cWords_add_83 : decode b_cWords_add 83 = .ok (.aload 4, 2) := by decide +kernel
theorem d_cWords_add_85 : decode b_cWords_add 85 = .ok (.iload 7, 2) := by decide +kernel
theorem d_cWords_add_87 : decode b_cWords_add 87 = .ok (.caload, 1) := by decide +kernel
theorem d_cWords_add_88 : decode b_cWords_add 88 = .ok (.bipush 36, 2) := by decide +kernel
theorem d_cWords_add_90 : decode b_cWords_add 90 = .ok (.if_icmp .ne 43, 3) := by decide +kernel
theorem d_cWords_add_93 : decode b_cWords_add 93 = .ok (.iload 6, 2) := by decide +kernel
theorem d_cWords_add_95 : decode b_cWords_add 95 = .ok (.ifCond .ne 38, 3) := by decide +kernel
theorem d_cWords_add_98 : decode b_cWords_add 98 = .ok (.iload 7, 2) := by decide +kernel
theorem d_cWords_add_100 : decode b_cWords_add 100 = .ok (.iconst 1, 1) := by decide +kernel
theorem d_cWords_add_101 : decode b_cWords_add 101 = .ok (.iadd, 1) := by decide +kernel
theorem d_cWords_add_102 : decode b_cWords_add 102 = .ok (.iload 5, 2) := by decide +kernel
theorem d_cWords_add_104 : decode b_cWords_add 104 = .ok (.if_icmp .ge 29, 3) := by decide +kernel
theorem d_cWords_add_107 : decode b_cWords_add 107 = .ok (.aload 4, 2) := by decide +kernel
theorem d_cWords_add_109 : decode b_cWords_add 109 = .ok (.iload 7, 2) := by decide +kernel
theorem d_cWords_add_111 : decode b_cWords_add 111 = .ok (.iconst 1, 1) := by decide +kernel
theorem d_cWords_add_112 : decode b_cWords_add 112 = .ok (.iadd, 1) := by decide +kernel
theorem d_cWords_add_113 : decode b_cWords_add 113 = .ok (.caload, 1) := by decide +kernel
theorem d_cWords_add_114 : decode b_cWords_add 114 = .ok (.bipush 63, 2) := by decide +kernel
theorem d_cWords_add_116 : decode b_cWords_add 116 = .ok (.if_icmp .ne 17, 3) := by decide +kernel
theorem d_cWords_add_119 : decode b_cWords_add 119 = .ok (.aload_n 0, 1) := by decide +kernel
theorem d_cWords_add_120 : decode b_cWords_add 120 = .ok (.getfield 14, 3) := by decide +kernel
theorem d_cWords_add_123 : decode b_cWords_add 123 = .ok (.iload_n 3, 1) := by decide +kernel
theorem d_cWords_add_124 : decode b_cWords_add 124 = .ok (.invokevirtual 48, 3) := by decide +kernel
theorem d_cWords_add_127 : decode b_cWords_add 127 = .ok (.iinc 7 1, 3) := by decide +kernel
theorem d_cWords_add_130 : decode b_cWords_add 130 = .ok (.goto 15, 3) := by decide +kernel
theorem d_cWords_add_133 : decode b_cWords_add 133 = .ok (.aload_n 0, 1) := by decide +kernel
theorem d_cWords_add_134 : decode b_cWords_add 134 = .ok (.getfield 14, 3) := by decide +kernel
theorem d_cWords_add_137 : decode b_cWords_add 137 = .ok (.aload 4, 2) := by decide +kernel
theorem d_cWords_add_139 : decode b_cWords_add 139 = .ok (.iload 7, 2) := by decide +kernel
theorem d_cWords_add_141 : decode b_cWords_add 141 = .ok (.caload, 1) := by decide +kernel
theorem d_cWords_add_142 : decode b_cWords_add 142 = .ok (.invokevirtual 51, 3) := by decide +kernel
theorem d_cWords_add_145 : decode b_cWords_add 145 = .ok (.iinc 7 1, 3) := by decide +kernel
theorem d_cWords_add_148 : decode b_cWords_add 148 = .ok (.goto (-97), 3) := by decide +kernel
theorem d_cWords_add_151 : decode b_cWords_add 151 = .ok (.aload_n 0, 1) := by decide +kernel
theorem d_cWords_add_152 : decode b_cWords_add 152 = .ok (.getfield 20, 3) := by decide +kernel
theorem d_cWords_add_155 : decode b_cWords_add 155 = .ok (.aload_n 0, 1) := by decide +kernel
theorem d_cWords_add_156 : decode b_cWords_add 156 = .ok (.getfield 24, 3) := by decide +kernel
theorem d_cWords_add_159 : decode b_cWords_add 159 = .ok (.aload_n 0, 1) := by decide +kernel
theorem d_cWords_add_160 : decode b_cWords_add 160 = .ok (.getfield 14, 3) := by decide +kernel
theorem d_cWords_add_163 : decode b_cWords_add 163 = .ok (.getfield 55, 3) := by decide +kernel
theorem d_cWords_add_166 : decode b_cWords_add 166 = .ok (.iastore, 1) := by decide +kernel
theorem d_cWords_add_167 : decode b_cWords_add 167 = .ok (.aload_n 0, 1) := by decide +kernel
theorem d_cWords_add_168 : decode b_cWords_add 168 = .ok (.dup, 1) := by decide +kernel
theorem d_cWords_add_169 : decode b_cWords_add 169 = .ok (.getfield 24, 3) := by decide +kernel
theorem d_cWords_add_172 : decode b_cWords_add 172 = .ok (.iconst 1, 1) := by decide +kernel
theorem d_cWords_add_173 : decode b_cWords_add 173 = .ok (.iadd, 1) := by decide +kernel
theorem d_cWords_add_174 : decode b_cWords_add 174 = .ok (.putfield 24, 3) := by decide +kernel
theorem d_cWords_add_177 : decode b_cWords_add 177 = .ok (.return_, 1) := by decide +kernel
theorem d_cWords_startOf_0 : decode b_cWords_startOf 0 = .ok (.iload_n 1, 1) := by decide +kernel
theorem d_cWords_startOf_1 : decode b_cWords_startOf 1 = .ok (.ifCond .le 22, 3) := by decide +kernel
theorem d_cWords_startOf_4 : decode b_cWords_startOf 4 = .ok (.iload_n 1, 1) := by decide +kernel
theorem d_cWords_startOf_5 : decode b_cWords_startOf 5 = .ok (.aload_n 0, 1) := by decide +kernel
theorem d_cWords_startOf_6 : decode b_cWords_startOf 6 = .ok (.getfield 24, 3) := by decide +kernel
theorem d_cWords_startOf_9 : decode b_cWords_startOf 9 = .ok (.if_icmp .gt 14, 3) := by decide +kernel
theorem d_cWords_startOf_12 : decode b_cWords_startOf 12 = .ok (.aload_n 0, 1) := by decide +kernel
theorem d_cWords_startOf_13 : decode b_cWords_startOf 13 = .ok (.getfield 20, 3) := by decide +kernel
theorem d_cWords_startOf_16 : decode b_cWords_startOf 16 = .ok (.iload_n 1, 1) := by decide +kernel
theorem d_cWords_startOf_17 : decode b_cWords_startOf 17 = .ok (.iconst 1, 1) := by decide +kernel
theorem d_cWords_startOf_18 : decode b_cWords_startOf 18 = .ok (.isub, 1) := by decide +kernel
theorem d_cWords_startOf_19 : decode b_cWords_startOf 19 = .ok (.iaload, 1) := by decide +kernel
theorem d_cWords_startOf_20 : decode b_cWords_startOf 20 = .ok (.goto 4, 3) := by decide +kernel
theorem d_cWords_startOf_23 : decode b_cWords_startOf 23 = .ok (.iconst 0, 1) := by decide +kernel
theorem d_cWords_startOf_24 : decode b_cWords_startOf 24 = .ok (.ireturn, 1) := by decide +kernel
theorem d_cWords_endOf_0 : decode b_cWords_endOf 0 = .ok (.iload_n 1, 1) := by decide +kernel
theorem d_cWords_endOf_1 : decode b_cWords_endOf 1 = .ok (.ifCond .lt 20, 3) := by decide +kernel
theorem d_cWords_endOf_4 : decode b_cWords_endOf 4 = .ok (.iload_n 1, 1) := by decide +kernel
theorem d_cWords_endOf_5 : decode b_cWords_endOf 5 = .ok (.aload_n 0, 1) := by decide +kernel
theorem d_cWords_endOf_6 : decode b_cWords_endOf 6 = .ok (.getfield 24, 3) := by decide +kernel
theorem d_cWords_endOf_9 : decode b_cWords_endOf 9 = .ok (.if_icmp .ge 12, 3) := by decide +kernel
theorem d_cWords_endOf_12 : decode b_cWords_endOf 12 = .ok (.aload_n 0, 1) := by decide +kernel
theorem d_cWords_endOf_13 : decode b_cWords_endOf 13 = .ok (.getfield 20, 3) := by decide +kernel
theorem d_cWords_endOf_16 : decode b_cWords_endOf 16 = .ok (.iload_n 1, 1) := by decide +kernel
theorem d_cWords_endOf_17 : decode b_cWords_endOf 17 = .ok (.iaload, 1) := by decide +kernel
theorem d_cWords_endOf_18 : decode b_cWords_endOf 18 = .ok (.goto 4, 3) := by decide +kernel
theorem d_cWords_endOf_21 : decode b_cWords_endOf 21 = .ok (.iconst 0, 1) := by decide +kernel
theorem d_cWords_endOf_22 : decode b_cWords_endOf 22 = .ok (.ireturn, 1) := by decide +kernel
theorem cw_cWords_clear {R : Room} {s : State} {args : Array Value} {own : String} {ix : Nat} (hts : ∀ w ∈ zt, w.before args s = true) (hl : (Cond.methodLink own ix y_cWords_clear).before args s = true) (h1 : 2 ≤ R.frames) (h2 : 40 ≤ R.locals) : CallW R s args own "TreeShell$Words" ix y_cWords_clear b_cWords_clear 1 none (.code y_cWords_clear b_cWords_clear 1 none :: zt) { frames := 1, cells := 0, slots := 0, locals := 20 } 0 0 0 := ⟨callB_of 0 hts (zgood w_491) rfl rfl rfl (hts _ w_76) hl ⟨by decide, by decide, by decide +kernel⟩ ⟨h1, h2⟩, hts _ w_489, hts _ w_490⟩
theorem cw_cWords_add {R : Room} {s : State} {args : Array Value} {own : String} {ix : Nat} (hts : ∀ w ∈ zt, w.before args s = true) (hl : (Cond.methodLink own ix y_cWords_add).before args s = true) (h1 : 3 ≤ R.frames) (h2 : 71 ≤ R.locals) : CallW R s args own "TreeShell$Words" ix y_cWords_add b_cWords_add 8 none (.code y_cWords_add b_cWords_add 8 none :: zt) { frames := 2, cells := 0, slots := 0, locals := 44 } 0 0 3 := ⟨callB_of 3 hts (zgood w_496) rfl rfl rfl (hts _ w_76) hl ⟨by decide, by decide, by decide +kernel⟩ ⟨h1, h2⟩, hts _ w_494, hts _ w_495⟩
theorem cw_cWords_startOf {R : Room} {s : State} {args : Array Value} {own : String} {ix : Nat} (hts : ∀ w ∈ zt, w.before args s = true) (hl : (Cond.methodLink own ix y_cWords_startOf).before args s = true) (h1 : 1 ≤ R.frames) (h2 : 21 ≤ R.locals) : CallW R s args own "TreeShell$Words" ix y_cWords_startOf b_cWords_startOf 2 (some .int) (.code y_cWords_startOf b_cWords_startOf 2 (some .int) :: zt) { frames := 0, cells := 0, slots := 0, locals := 0 } 0 0 1 := ⟨callB_of 1 hts (zgood w_510) rfl rfl rfl (hts _ w_76) hl ⟨by decide, by decide, by decide +kernel⟩ ⟨h1, h2⟩, hts _ w_508, hts _ w_509⟩
theorem cw_cWords_endOf {R : Room} {s : State} {args : Array Value} {own : String} {ix : Nat} (hts : ∀ w ∈ zt, w.before args s = true) (hl : (Cond.methodLink own ix y_cWords_endOf).before args s = true) (h1 : 1 ≤ R.frames) (h2 : 21 ≤ R.locals) : CallW R s args own "TreeShell$Words" ix y_cWords_endOf b_cWords_endOf 2 (some .int) (.code y_cWords_endOf b_cWords_endOf 2 (some .int) :: zt) { frames := 0, cells := 0, slots := 0, locals := 0 } 0 0 1 := ⟨callB_of 1 hts (zgood w_514) rfl rfl rfl (hts _ w_76) hl ⟨by decide, by decide, by decide +kernel⟩ ⟨h1, h2⟩, hts _ w_512, hts _ w_513⟩
